/-! ===== serving, charging ===== -/
section SV
variable {n : Nat × Nat × Nat} {d : Nat → Int32} {S : CS} {M : MS}
def svC (k : Nat) (s : CS × Int32) : CS × Int32 := if s.1.2.1 k 3 = 1 then (cuL s.1 k 4 (s.1.2.1 k 4 + s.1.2.1 k 2), s.2 + (cuL s.1 k 4 (s.1.2.1 k 4 + s.1.2.1 k 2)).2.1 k 2) else if s.1.2.1 k 3 = 2 then (cuL s.1 k 5 (s.1.2.1 k 5 + 1), s.2) else s
def svM (k : Nat) (M : MS) : MS := muA (muA M 4 k (M.2 4 k + if M.2 3 k = 1 then M.2 2 k else 0)) 5 k (M.2 5 k + if M.2 3 k = 2 then 1 else 0)
theorem svC_lp (S : CS) : f_X3_serveLoads S = (fun s : CS × Int32 => if s.1.1 6 = 0 then f_X3_serveLoads_c106 s.2 (f_X3_drawFromGenerators s.2 s.1) else cuM s.1 12 (s.1.1 12 + s.2)) (itr svC 10 (S, 0)) := by
  have hH : ∀ (q k : Nat) (s : CS × Int32), f_X3_serveLoads_h13 (q + 1) k s.1 s.2 = if 10 ≤ k then (if s.1.1 6 = 0 then f_X3_serveLoads_c106 s.2 (f_X3_drawFromGenerators s.2 s.1) else cuM s.1 12 (s.1.1 12 + s.2)) else f_X3_serveLoads_h13 q (k + 1) (svC k s).1 (svC k s).2 := by
    intro q k s
    rw [f_X3_serveLoads_h13]
    unfold f_X3_serveLoads_b80 svC
    by_cases c : 10 ≤ k
    · rw [if_pos c, if_pos c]
    · rw [if_neg c, if_neg c]
      split
      · rfl
      · split <;> rfl
  have e := lpI (H := fun q k (s : CS × Int32) => f_X3_serveLoads_h13 q k s.1 s.2) (B := 10) (fin := fun s : CS × Int32 => if s.1.1 6 = 0 then f_X3_serveLoads_c106 s.2 (f_X3_drawFromGenerators s.2 s.1) else cuM s.1 12 (s.1.1 12 + s.2)) (st := svC) hH (S, 0)
  unfold f_X3_serveLoads
  exact e
theorem svM_lp (n : Nat × Nat × Nat) (v : Int32) (M : MS) : f_X4_serves_h7 n (n.1 + 1) 0 M v = (fun M : MS => if M.1 2 = 0 then f_X4_serves_c94 n v (f_X4_takes n v M) else muS M 36 (M.1 36 + v)) (itr svM n.1 M) := by
  refine lpI (H := fun q k M => f_X4_serves_h7 n q k M v) (B := n.1) (fin := fun M : MS => if M.1 2 = 0 then f_X4_serves_c94 n v (f_X4_takes n v M) else muS M 36 (M.1 36 + v)) (st := svM) (fun q k s => ?_) M
  rw [f_X4_serves_h7]
  unfold f_X4_serves_b42 f_X4_serves_b66 svM
  by_cases c : n.1 ≤ k
  · rw [if_pos c, if_pos c]
  · rw [if_neg c, if_neg c]
    by_cases c1 : s.2 3 k = 1
    · have e3 : (muA s 4 k (s.2 4 k + s.2 2 k)).2 3 k = 1 := by rw [rdA, if_neg (by omega), c1]
      have e5 : (muA s 4 k (s.2 4 k + s.2 2 k)).2 5 k = s.2 5 k := by rw [rdA, if_neg (by omega)]
      rw [if_pos c1, if_pos c1, e3, e5, if_neg (by decide), c1, if_neg (by decide)]
    · have e3 : (muA s 4 k (s.2 4 k + 0)).2 3 k = s.2 3 k := by rw [rdA, if_neg (by omega)]
      have e5 : (muA s 4 k (s.2 4 k + 0)).2 5 k = s.2 5 k := by rw [rdA, if_neg (by omega)]
      rw [if_neg c1, if_neg c1, e3, e5]
      by_cases c2 : s.2 3 k = 2
      · rw [if_pos c2, if_pos c2]
      · rw [if_neg c2, if_neg c2]
theorem sv_all (h : Iv n d S M) : Iv n d (itr svC 10 (S, 0)).1 (itr svM n.1 M) ∧ (itr svC 10 (S, 0)).2 = sm (srd (M.2 3) (M.2 2)) 10 ∧ (itr svM n.1 M).1 = M.1 := by
  have main : (fun (k : Nat) (s : CS × Int32) (t : MS) => Iv n d s.1 t ∧ s.2 = sm (srd (M.2 3) (M.2 2)) k ∧ t.1 = M.1 ∧ t.2 3 = M.2 3 ∧ t.2 2 = M.2 2) 10 (itr svC 10 (S, 0)) (itr svM n.1 M) := by
    refine itS (P := fun (k : Nat) (s : CS × Int32) (t : MS) => Iv n d s.1 t ∧ s.2 = sm (srd (M.2 3) (M.2 2)) k ∧ t.1 = M.1 ∧ t.2 3 = M.2 3 ∧ t.2 2 = M.2 2) h.ok.1 (fun k s t hk hh => ?_) (fun k s t hk _ hh => ?_) ⟨h, rfl, rfl, rfl, rfl⟩
    · obtain ⟨h, e, h1, h3, h2⟩ := hh
      have a3 := eL 3 (by omega) h k
      have a2 := eL 2 (by omega) h k
      have a4 := eL 4 (by omega) h k
      have a5 := eL 5 (by omega) h k
      have f3 : (svM k t).2 3 = M.2 3 := by unfold svM; rw [muA_ne (by decide), muA_ne (by decide), h3]
      have f2 : (svM k t).2 2 = M.2 2 := by unfold svM; rw [muA_ne (by decide), muA_ne (by decide), h2]
      have hs : (fun k => srd (M.2 3) (M.2 2) k) k = if t.2 3 k = 1 then t.2 2 k else 0 := by rw [h3, h2]; rfl
      refine ⟨?_, ?_, h1, f3, f2⟩
      · unfold svC svM
        rw [a3]
        by_cases c1 : t.2 3 k = 1
        · rw [if_pos c1, if_pos c1, c1, if_neg (by decide), i_add0, a4, a2]
          have h' := I_ld 4 (by omega) hk h (v := t.2 4 k + t.2 2 k)
          rw [muA_same (r := 5) (by rw [rdA, if_neg (by omega)])]
          exact h'
        · rw [if_neg c1, if_neg c1, i_add0, muA_same (r := 4) rfl]
          by_cases c2 : t.2 3 k = 2
          · rw [if_pos c2, if_pos c2, a5]
            exact I_ld 5 (by omega) hk h
          · rw [if_neg c2, if_neg c2, i_add0, muA_same (r := 5) rfl]
            exact h
      · show _ = sm _ k + (fun k => srd (M.2 3) (M.2 2) k) k
        rw [hs, ← e]
        unfold svC
        rw [a3]
        by_cases c1 : t.2 3 k = 1
        · rw [if_pos c1, if_pos c1]
          show s.2 + (cuL s.1 k 4 _).2.1 k 2 = _
          rw [rdL, if_neg (by omega), a2]
        · rw [if_neg c1, if_neg c1, i_add0]
          split <;> rfl
    · obtain ⟨h, e, h1, h3, h2⟩ := hh
      have z := st0 h hk
      have e9 : svC k s = s := by
        unfold svC
        rw [eL 3 (by omega) h, z, if_neg (by decide), if_neg (by decide)]
      rw [e9]
      refine ⟨h, ?_, h1, h3, h2⟩
      have e0 : srd (M.2 3) (M.2 2) k = 0 := by
        show (if M.2 3 k = 1 then M.2 2 k else 0) = 0
        rw [← h3, z, if_neg (by decide)]
      show s.2 = sm (srd (M.2 3) (M.2 2)) k + srd (M.2 3) (M.2 2) k
      rw [e0, i_add0]
      exact e
  exact ⟨main.1, main.2.1, main.2.2.1⟩
-- batteries give
def dbC (x : Int32) (k : Nat) (s : CS × Int32) : CS × Int32 := (cuB s.1 k 1 (s.1.2.2.1 k 1 - mn (mn (s.1.2.2.1 k 2) (s.1.2.2.1 k 1)) (x - s.2)), s.2 + mn (mn (s.1.2.2.1 k 2) (s.1.2.2.1 k 1)) (x - s.2))
def dbM (k : Nat) (s : MS × Int32) : MS × Int32 := (muS (muA s.1 7 k (s.1.2 7 k - mn (mn (s.1.2 8 k) (s.1.2 7 k)) s.2)) 38 (s.1.1 38 + mn (mn (s.1.2 8 k) (s.1.2 7 k)) s.2), s.2 - mn (mn (s.1.2 8 k) (s.1.2 7 k)) s.2)
theorem dbC_lp (x : Int32) (S : CS) : f_X3_drawFromBatteries x S = ((itr (dbC x) 3 (S, 0)).2, (itr (dbC x) 3 (S, 0)).1) := by
  have hH : ∀ (q k : Nat) (s : CS × Int32), f_X3_drawFromBatteries_h14 x (q + 1) k s.1 s.2 = if 3 ≤ k then (s.2, s.1) else f_X3_drawFromBatteries_h14 x q (k + 1) (dbC x k s).1 (dbC x k s).2 := by
    intro q k s
    rw [f_X3_drawFromBatteries_h14, canGive_eq]
    unfold f_X3_drawFromBatteries_c29
    simp only [mnc]
    rfl
  have e := lpI (H := fun q k (s : CS × Int32) => f_X3_drawFromBatteries_h14 x q k s.1 s.2) (B := 3) (fin := fun s => (s.2, s.1)) (st := dbC x) hH (S, 0)
  unfold f_X3_drawFromBatteries
  exact e
theorem dbM_lp (n : Nat × Nat × Nat) (M : MS) (v : Int32) : f_X4_serves_h115 n (n.2.1 + 1) 0 M v = (itr dbM n.2.1 (M, v)).1 := by
  have hH : ∀ (q k : Nat) (s : MS × Int32), f_X4_serves_h115 n (q + 1) k s.1 s.2 = if n.2.1 ≤ k then s.1 else f_X4_serves_h115 n q (k + 1) (dbM k s).1 (dbM k s).2 := by
    intro q k s
    rw [f_X4_serves_h115, lesser_mn]
    unfold f_X4_serves_c138
    rw [lesser_mn]
    rfl
  exact lpI (H := fun q k (s : MS × Int32) => f_X4_serves_h115 n q k s.1 s.2) (B := n.2.1) (fin := fun s : MS × Int32 => s.1) (st := dbM) hH (M, v)
theorem db_R {x b0 : Int32} (h : Iv n d S M) (hb : S.1 14 = b0) (hx : 0 ≤ x.toInt ∧ x.toInt ≤ 100000) : Iv n d (cuM (f_X3_drawFromBatteries x S).2 14 (b0 + (f_X3_drawFromBatteries x S).1)) (f_X4_serves_h115 n (n.2.1 + 1) 0 M x) := by
  rw [dbC_lp, dbM_lp]
  have main : (fun (k : Nat) (s : CS × Int32) (t : MS × Int32) => Iv n d (cuM s.1 14 (b0 + s.2)) t.1 ∧ t.2 = x - s.2 ∧ 0 ≤ s.2.toInt ∧ s.2.toInt ≤ x.toInt) 3 (itr (dbC x) 3 (S, 0)) (itr dbM n.2.1 (M, x)) := by
    refine itS (P := fun (k : Nat) (s : CS × Int32) (t : MS × Int32) => Iv n d (cuM s.1 14 (b0 + s.2)) t.1 ∧ t.2 = x - s.2 ∧ 0 ≤ s.2.toInt ∧ s.2.toInt ≤ x.toInt) h.ok.2.1 (fun k s t hk hh => ?_) (fun k s t hk _ hh => ?_) ⟨by show Iv n d (cuM S 14 (b0 + 0)) M; rw [i_add0, cuM_same hb]; exact h, (r_sub0 x).symm, by rw [i_0]; omega, by rw [i_0]; exact hx.1⟩
    · obtain ⟨h, e, h0, h1⟩ := hh
      have eI : (x - s.2).toInt = x.toInt - s.2.toInt := i_sub (by omega) (by omega)
      have a1 : s.1.2.2.1 k 1 = t.1.2 7 k := eB 1 7 (by omega) rfl h k
      have a2 : s.1.2.2.1 k 2 = t.1.2 8 k := eB 2 8 (by omega) rfl h k
      have a14 : b0 + s.2 = t.1.1 38 := by
        have := eS 14 38 (by omega) rfl h
        rw [rdM, if_pos rfl] at this
        exact this
      have hbt := h.bt k
      have g0 := mn_0 (x := t.1.2 8 k) (y := t.1.2 7 k) hbt.2.1.1 hbt.1.1
      have g1 := mn_le2 (t.1.2 8 k) (t.1.2 7 k)
      have m0 := mn_0 (x := mn (t.1.2 8 k) (t.1.2 7 k)) (y := x - s.2) g0 (by omega)
      have m1 := mn_le1 (mn (t.1.2 8 k) (t.1.2 7 k)) (x - s.2)
      have m2 := mn_le2 (mn (t.1.2 8 k) (t.1.2 7 k)) (x - s.2)
      unfold dbC dbM
      rw [a1, a2, e]
      generalize mn (mn (t.1.2 8 k) (t.1.2 7 k)) (x - s.2) = p at m0 m1 m2 ⊢
      have eW : (t.1.2 7 k - p).toInt = (t.1.2 7 k).toInt - p.toInt := i_sub (by omega) (by omega)
      have eA : (s.2 + p).toInt = s.2.toInt + p.toInt := i_add (by omega)
      refine ⟨?_, (r_sub_sub _ _ _).symm, by show 0 ≤ (s.2 + p).toInt; omega, by show (s.2 + p).toInt ≤ _; omega⟩
      have h2 := I_ch hk h (v := t.1.2 7 k - p) (by omega) (by omega)
      have h3 := I_sc 14 38 (by omega) rfl h2 (v := t.1.1 38 + p)
      have h4 : cuM (cuB (cuM s.1 14 (b0 + s.2)) k 1 (t.1.2 7 k - p)) 14 (t.1.1 38 + p) = cuM (cuB s.1 k 1 (t.1.2 7 k - p)) 14 (b0 + (s.2 + p)) := by
        rw [← a14, r_4]
        exact cuM_cuM (S := cuB s.1 k 1 (t.1.2 7 k - p))
      rw [h4] at h3
      exact h3
    · obtain ⟨h, e, h0, h1⟩ := hh
      have eI : (x - s.2).toInt = x.toInt - s.2.toInt := i_sub (by omega) (by omega)
      have a1 : s.1.2.2.1 k 1 = t.1.2 7 k := eB 1 7 (by omega) rfl h k
      have a2 : s.1.2.2.1 k 2 = t.1.2 8 k := eB 2 8 (by omega) rfl h k
      have e9 : dbC x k s = s := by
        unfold dbC
        rw [a2, a1, (bt0 h hk).2.1, mn_0r (h.bt k).2.1.1, mn_0l (by omega), i_add0, r_sub0, cuB_same (by rw [a1, (bt0 h hk).2.1])]
      rw [e9]
      exact ⟨h, e, h0, h1⟩
  exact main.1
theorem need_bd (h : Iv n d S M) : 0 ≤ (sm (srd (M.2 3) (M.2 2)) n.1).toInt ∧ (sm (srd (M.2 3) (M.2 2)) n.1).toInt ≤ 5000 := by
  have hn := h.ok.1
  have a := sm_bd (g := srd (M.2 3) (M.2 2)) (m := n.1) (B := 500) (by omega) (by omega) (fun k hk => by
    have h4 := h.rp k hk
    unfold srd
    split
    · omega
    · rw [i_0]; omega)
  omega
theorem srd_10 (h : Iv n d S M) : sm (srd (M.2 3) (M.2 2)) 10 = sm (srd (M.2 3) (M.2 2)) n.1 :=
  Eq.symm (sm_ext h.ok.1 (fun _ _ => rfl) (fun j h1 _ => by unfold srd; rw [st0 h h1, if_neg (by decide)]))
theorem serve_R (h : Iv n d S M) : Iv n d (f_X3_serveLoads S) (f_X4_serves n M) := by
  have hb := need_bd h
  have e10 := srd_10 h
  obtain ⟨h1, h2, h3⟩ := sv_all h
  rw [svC_lp]
  unfold f_X4_serves f_X4_serves_c1
  rw [needed_eq]
  dsimp only
  rw [svM_lp, h2, e10]
  generalize sm (srd (M.2 3) (M.2 2)) n.1 = v at hb ⊢
  generalize (itr svC 10 (S, 0)).1 = S1 at h1 ⊢
  generalize itr svM n.1 M = M1 at h1 ⊢
  dsimp only
  rw [eS 6 2 (by omega) rfl h1]
  by_cases c : M1.1 2 = 0
  · rw [if_pos c, if_pos c]
    obtain ⟨t1, t2, t3, t4⟩ := draw_R h1 (x := v) (by omega)
    unfold f_X3_serveLoads_c106 f_X4_serves_c94
    rw [← t1]
    generalize (f_X3_drawFromGenerators v S1) = p at t2 t3 t4 ⊢
    generalize (f_X4_takes n v M1).2 = M2 at t2 ⊢
    have h5 : Iv n d (cuM p.2 13 (p.2.1 13 + p.1)) (muS M2 37 (M2.1 37 + p.1)) := by
      rw [eS 13 37 (by omega) rfl t2]
      exact I_sc 13 37 (by omega) rfl t2
    have eI : (v - p.1).toInt = v.toInt - p.1.toInt := i_sub (by omega) (by omega)
    exact db_R h5 rfl (by omega)
  · rw [if_neg c, if_neg c, eS 12 36 (by omega) rfl h1]
    exact I_sc 12 36 (by omega) rfl h1
-- charging
def fiC (x : Int32) (k : Nat) (s : CS × Int32) : CS × Int32 := (cuB s.1 k 1 (s.1.2.2.1 k 1 + mn (mn (s.1.2.2.1 k 3) (s.1.2.2.1 k 0 - s.1.2.2.1 k 1)) (x - s.2)), s.2 + mn (mn (s.1.2.2.1 k 3) (s.1.2.2.1 k 0 - s.1.2.2.1 k 1)) (x - s.2))
theorem fiC_lp (x : Int32) (S : CS) : f_X3_fillBatteries x S = ((itr (fiC x) 3 (S, 0)).2, (itr (fiC x) 3 (S, 0)).1) := by
  have hH : ∀ (q k : Nat) (s : CS × Int32), f_X3_fillBatteries_h14 x (q + 1) k s.1 s.2 = if 3 ≤ k then (s.2, s.1) else f_X3_fillBatteries_h14 x q (k + 1) (fiC x k s).1 (fiC x k s).2 := by
    intro q k s
    rw [f_X3_fillBatteries_h14, canTake_eq]
    unfold f_X3_fillBatteries_c29
    simp only [mnc]
    rfl
  have e := lpI (H := fun q k (s : CS × Int32) => f_X3_fillBatteries_h14 x q k s.1 s.2) (B := 3) (fin := fun s => (s.2, s.1)) (st := fiC x) hH (S, 0)
  unfold f_X3_fillBatteries
  exact e
def chM (n : Nat × Nat × Nat) (k : Nat) (M : MS) : MS := if M.1 2 = 0 then muS (muA (f_X4_takes n (mn (M.2 9 k) (M.2 6 k - M.2 7 k)) M).2 7 k ((f_X4_takes n (mn (M.2 9 k) (M.2 6 k - M.2 7 k)) M).2.2 7 k + (f_X4_takes n (mn (M.2 9 k) (M.2 6 k - M.2 7 k)) M).1)) 39 ((f_X4_takes n (mn (M.2 9 k) (M.2 6 k - M.2 7 k)) M).2.1 39 + (f_X4_takes n (mn (M.2 9 k) (M.2 6 k - M.2 7 k)) M).1) else muS (muA M 7 k (M.2 7 k + mn (M.2 9 k) (M.2 6 k - M.2 7 k))) 39 (M.1 39 + mn (M.2 9 k) (M.2 6 k - M.2 7 k))
theorem chM_lp (n : Nat × Nat × Nat) (M : MS) : f_X4_charges n M = itr (chM n) n.2.1 M := by
  refine lpI (H := fun q k s => f_X4_charges_h2 n q k s) (B := n.2.1) (fin := fun s => s) (st := chM n) (fun q k s => ?_) M
  rw [f_X4_charges_h2, lesser_mn]
  unfold f_X4_charges_c29 f_X4_charges_c46 f_X4_charges_b49 chM
  by_cases c : n.2.1 ≤ k
  · rw [if_pos c, if_pos c]
  · rw [if_neg c, if_neg c]
    by_cases c2 : s.1 2 = 0
    · rw [if_pos c2, if_pos c2]; rfl
    · rw [if_neg c2, if_neg c2]; rfl
theorem want_bd (h : Iv n d S M) (k : Nat) : (M.2 6 k - M.2 7 k).toInt = (M.2 6 k).toInt - (M.2 7 k).toInt ∧ 0 ≤ (mn (M.2 9 k) (M.2 6 k - M.2 7 k)).toInt ∧ (mn (M.2 9 k) (M.2 6 k - M.2 7 k)).toInt ≤ 500 ∧ (mn (M.2 9 k) (M.2 6 k - M.2 7 k)).toInt ≤ (M.2 6 k).toInt - (M.2 7 k).toInt := by
  have hb := h.bt k
  have e : (M.2 6 k - M.2 7 k).toInt = (M.2 6 k).toInt - (M.2 7 k).toInt := i_sub (by omega) (by omega)
  have m0 := mn_0 (x := M.2 9 k) (y := M.2 6 k - M.2 7 k) hb.2.2.1 (by omega)
  have m1 := mn_le1 (M.2 9 k) (M.2 6 k - M.2 7 k)
  have m2 := mn_le2 (M.2 9 k) (M.2 6 k - M.2 7 k)
  exact ⟨e, m0, by omega, by omega⟩
theorem want_0 (h : Iv n d S M) {k : Nat} (hk : n.2.1 ≤ k) : mn (M.2 9 k) (M.2 6 k - M.2 7 k) = 0 := by
  rw [(bt0 h hk).1, (bt0 h hk).2.1, r_sub0]
  exact mn_0r (h.bt k).2.2.1
theorem takes_1 (n : Nat × Nat × Nat) (x : Int32) (M : MS) : (f_X4_takes n x M).2.1 = M.1 ∧ ∀ r, r ≠ 20 → (f_X4_takes n x M).2.2 r = M.2 r := by
  rw [tkM_lp]
  show (itr tkM n.2.2 (M, x)).1.1 = M.1 ∧ ∀ r, r ≠ 20 → (itr tkM n.2.2 (M, x)).1.2 r = M.2 r
  refine itP (P := fun _ (s : MS × Int32) => s.1.1 = M.1 ∧ ∀ r, r ≠ 20 → s.1.2 r = M.2 r) (st := tkM) (B := n.2.2) (S := (M, x)) (fun k s _ hs => ⟨hs.1, fun r hr => ?_⟩) ⟨rfl, fun _ _ => rfl⟩
  show (muA s.1 20 k _).2 r = _
  rw [muA_ne hr]
  exact hs.2 r hr
theorem pl_M {k j : Nat} {v : Int32} : pl (cuM S k v) j = pl S j := rfl
theorem chargeU_R (h : Iv n d S M) (hm : ¬ M.1 2 = 0) : Iv n d (cuM (f_X3_fillBatteries 1500 S).2 15 (S.1 15 + (f_X3_fillBatteries 1500 S).1)) (f_X4_charges n M) := by
  rw [fiC_lp, chM_lp]
  have i15 : (1500 : Int32).toInt = 1500 := by decide
  have main : (fun (k : Nat) (s : CS × Int32) (t : MS) => Iv n d (cuM s.1 15 (S.1 15 + s.2)) t ∧ t.1 2 = M.1 2 ∧ 0 ≤ s.2.toInt ∧ s.2.toInt ≤ 500 * k) 3 (itr (fiC 1500) 3 (S, 0)) (itr (chM n) n.2.1 M) := by
    refine itS (P := fun (k : Nat) (s : CS × Int32) (t : MS) => Iv n d (cuM s.1 15 (S.1 15 + s.2)) t ∧ t.1 2 = M.1 2 ∧ 0 ≤ s.2.toInt ∧ s.2.toInt ≤ 500 * k) h.ok.2.1 (fun k s t hk hh => ?_) (fun k s t hk hk3 hh => ?_) ⟨by show Iv n d (cuM S 15 (S.1 15 + 0)) M; rw [i_add0, cuM_same rfl]; exact h, rfl, by rw [i_0]; omega, by rw [i_0]; omega⟩
    · obtain ⟨h, e, h0, h1⟩ := hh
      have hn := h.ok.2.1
      have eI : ((1500 : Int32) - s.2).toInt = 1500 - s.2.toInt := by rw [i_sub (by omega) (by omega), i15]
      have a0 : s.1.2.2.1 k 0 = t.2 6 k := eB 0 6 (by omega) rfl h k
      have a1 : s.1.2.2.1 k 1 = t.2 7 k := eB 1 7 (by omega) rfl h k
      have a3 : s.1.2.2.1 k 3 = t.2 9 k := eB 3 9 (by omega) rfl h k
      have a15 : S.1 15 + s.2 = t.1 39 := by
        have := eS 15 39 (by omega) rfl h
        rw [rdM, if_pos rfl] at this
        exact this
      obtain ⟨w1, w2, w3, w4⟩ := want_bd h k
      have hb := h.bt k
      have cap : mn (mn (t.2 9 k) (t.2 6 k - t.2 7 k)) (1500 - s.2) = mn (t.2 9 k) (t.2 6 k - t.2 7 k) := mn_l (by omega)
      unfold fiC chM
      rw [a0, a1, a3, if_neg (by rw [e]; exact hm), cap]
      generalize mn (t.2 9 k) (t.2 6 k - t.2 7 k) = p at w2 w3 w4 ⊢
      have eW : (t.2 7 k + p).toInt = (t.2 7 k).toInt + p.toInt := i_add (by omega)
      have eA : (s.2 + p).toInt = s.2.toInt + p.toInt := i_add (by omega)
      refine ⟨?_, ?_, by show 0 ≤ (s.2 + p).toInt; omega, by show (s.2 + p).toInt ≤ 500 * ((k + 1 : Nat) : Int); omega⟩
      · have h2 := I_ch hk h (v := t.2 7 k + p) (by omega) (by omega)
        have h3 := I_sc 15 39 (by omega) rfl h2 (v := t.1 39 + p)
        have h4 : cuM (cuB (cuM s.1 15 (S.1 15 + s.2)) k 1 (t.2 7 k + p)) 15 (t.1 39 + p) = cuM (cuB s.1 k 1 (t.2 7 k + p)) 15 (S.1 15 + (s.2 + p)) := by
          rw [← a15, r_4]
          exact cuM_cuM (S := cuB s.1 k 1 (t.2 7 k + p))
        rw [h4] at h3
        exact h3
      · rw [rdS, if_neg (by decide)]
        exact e
    · obtain ⟨h, e, h0, h1⟩ := hh
      have eI : ((1500 : Int32) - s.2).toInt = 1500 - s.2.toInt := by rw [i_sub (by omega) (by omega), i15]
      have a0 : s.1.2.2.1 k 0 = t.2 6 k := eB 0 6 (by omega) rfl h k
      have a1 : s.1.2.2.1 k 1 = t.2 7 k := eB 1 7 (by omega) rfl h k
      have a3 : s.1.2.2.1 k 3 = t.2 9 k := eB 3 9 (by omega) rfl h k
      have e9 : fiC 1500 k s = s := by
        unfold fiC
        rw [a0, a1, a3, want_0 h hk, mn_0l (by omega), i_add0, i_add0, cuB_same (by rw [a1])]
      rw [e9]
      exact ⟨h, e, h0, by omega⟩
  exact main.1
theorem chargeD_R (h : Iv n d S M) (hm : M.1 2 = 0) : Iv n d (cuM (f_X3_drawFromGenerators (f_X3_fillBatteries (av S) S).1 (f_X3_fillBatteries (av S) S).2).2 15 (S.1 15 + (f_X3_fillBatteries (av S) S).1)) (f_X4_charges n M) := by
  rw [fiC_lp, chM_lp]
  have hp0 := h.plOk
  have eav := av_I hp0
  have p0 := hp0 0 (by decide)
  have p1 := hp0 1 (by decide)
  have p2 := hp0 2 (by decide)
  have main : (fun (k : Nat) (s : CS × Int32) (t : MS) => Iv n d (cuM (f_X3_drawFromGenerators s.2 s.1).2 15 (S.1 15 + s.2)) t ∧ t.1 2 = M.1 2 ∧ 0 ≤ s.2.toInt ∧ s.2.toInt ≤ (av S).toInt ∧ s.1.2.2.2 = S.2.2.2) 3 (itr (fiC (av S)) 3 (S, 0)) (itr (chM n) n.2.1 M) := by
    refine itS (P := fun (k : Nat) (s : CS × Int32) (t : MS) => Iv n d (cuM (f_X3_drawFromGenerators s.2 s.1).2 15 (S.1 15 + s.2)) t ∧ t.1 2 = M.1 2 ∧ 0 ≤ s.2.toInt ∧ s.2.toInt ≤ (av S).toInt ∧ s.1.2.2.2 = S.2.2.2) h.ok.2.1 (fun k s t hk hh => ?_) (fun k s t hk hk3 hh => ?_) ⟨by show Iv n d (cuM (f_X3_drawFromGenerators 0 S).2 15 (S.1 15 + 0)) M; rw [i_add0, draw_0 hp0, cuM_same rfl]; exact h, rfl, by rw [i_0]; omega, by rw [i_0]; omega, rfl⟩
    · obtain ⟨h, e, h0, h1, h2⟩ := hh
      have epl : ∀ j, pl s.1 j = pl S j := fun j => by unfold pl; rw [h2]
      have hp1 : plOk s.1 := fun j hj => by rw [epl]; exact hp0 j hj
      have eav1 : av s.1 = av S := by unfold av; rw [epl, epl, epl]
      obtain ⟨o1, o2, o3⟩ := draw_o (x := s.2) (S := s.1)
      obtain ⟨T, eT⟩ : ∃ T, T = (f_X3_drawFromGenerators s.2 s.1).2 := ⟨_, rfl⟩
      rw [← eT] at h o3
      have eI : (av S - s.2).toInt = (av S).toInt - s.2.toInt := i_sub (by omega) (by omega)
      have a0 : s.1.2.2.1 k 0 = t.2 6 k := by rw [← eB 0 6 (by omega) rfl h k, ← o3]; rfl
      have a1 : s.1.2.2.1 k 1 = t.2 7 k := by rw [← eB 1 7 (by omega) rfl h k, ← o3]; rfl
      have a3 : s.1.2.2.1 k 3 = t.2 9 k := by rw [← eB 3 9 (by omega) rfl h k, ← o3]; rfl
      have a15 : S.1 15 + s.2 = t.1 39 := by
        have := eS 15 39 (by omega) rfl h
        rw [rdM, if_pos rfl] at this
        exact this
      obtain ⟨w1, w2, w3, w4⟩ := want_bd h k
      have hb := h.bt k
      have hpT : plOk T := fun j hj => by have := h.plOk j hj; rw [pl_M] at this; exact this
      have eavT : av T = av S - s.2 := by rw [eT, av_d hp1 (by rw [eav1]; omega), eav1]
      obtain ⟨t1, t2, t3, t4⟩ := draw_R h (x := mn (t.2 9 k) (t.2 6 k - t.2 7 k)) (by omega)
      obtain ⟨u1, u2⟩ := takes_1 n (mn (t.2 9 k) (t.2 6 k - t.2 7 k)) t
      have gT := draw_t hpT (x := mn (t.2 9 k) (t.2 6 k - t.2 7 k)) (by omega)
      have gC := draw_cap hpT (x := mn (t.2 9 k) (t.2 6 k - t.2 7 k)) (by omega)
      rw [draw_M.2, gT, eavT] at t1 t3 t4
      rw [draw_M.1, ← gC, eavT] at t2
      unfold fiC chM
      rw [a0, a1, a3, if_pos (by rw [e]; exact hm), ← t1, u2 7 (by decide), u1]
      have m2 := mn_le2 (mn (t.2 9 k) (t.2 6 k - t.2 7 k)) (av S - s.2)
      have m3 := mn_le1 (mn (t.2 9 k) (t.2 6 k - t.2 7 k)) (av S - s.2)
      generalize (f_X4_takes n (mn (t.2 9 k) (t.2 6 k - t.2 7 k)) t).2 = M2 at t2 u1 u2 ⊢
      generalize mn (mn (t.2 9 k) (t.2 6 k - t.2 7 k)) (av S - s.2) = p at t2 t3 t4 m2 m3 ⊢
      have eW : (t.2 7 k + p).toInt = (t.2 7 k).toInt + p.toInt := i_add (by omega)
      have eA : (s.2 + p).toInt = s.2.toInt + p.toInt := i_add (by omega)
      have eD : (f_X3_drawFromGenerators (s.2 + p) (cuB s.1 k 1 (t.2 7 k + p))).2 = cuB (f_X3_drawFromGenerators p T).2 k 1 (t.2 7 k + p) := by
        rw [draw_B.1, draw_add hp1 (by omega) (by omega), eT]
      refine ⟨?_, ?_, by show 0 ≤ (s.2 + p).toInt; omega, by show (s.2 + p).toInt ≤ _; omega, h2⟩
      · have h5 := I_ch hk t2 (v := t.2 7 k + p) (by omega) (by rw [u2 6 (by decide)]; omega)
        have h3 := I_sc 15 39 (by omega) rfl h5 (v := t.1 39 + p)
        dsimp only
        rw [eD]
        generalize (f_X3_drawFromGenerators p T).2 = T2 at h3 ⊢
        have h4 : cuM (cuB (cuM T2 15 (S.1 15 + s.2)) k 1 (t.2 7 k + p)) 15 (t.1 39 + p) = cuM (cuB T2 k 1 (t.2 7 k + p)) 15 (S.1 15 + (s.2 + p)) := by
          rw [← a15, r_4]
          exact cuM_cuM (S := cuB T2 k 1 (t.2 7 k + p))
        rw [h4] at h3
        exact h3
      · rw [rdS, if_neg (by decide)]
        show M2.1 2 = _
        rw [u1, e]
    · obtain ⟨h, e, h0, h1, h2⟩ := hh
      obtain ⟨o1, o2, o3⟩ := draw_o (x := s.2) (S := s.1)
      obtain ⟨T, eT⟩ : ∃ T, T = (f_X3_drawFromGenerators s.2 s.1).2 := ⟨_, rfl⟩
      have hT := h
      rw [← eT] at hT o3
      have eI : (av S - s.2).toInt = (av S).toInt - s.2.toInt := i_sub (by omega) (by omega)
      have a0 : s.1.2.2.1 k 0 = t.2 6 k := by rw [← eB 0 6 (by omega) rfl hT k, ← o3]; rfl
      have a1 : s.1.2.2.1 k 1 = t.2 7 k := by rw [← eB 1 7 (by omega) rfl hT k, ← o3]; rfl
      have a3 : s.1.2.2.1 k 3 = t.2 9 k := by rw [← eB 3 9 (by omega) rfl hT k, ← o3]; rfl
      have e9 : fiC (av S) k s = s := by
        unfold fiC
        rw [a0, a1, a3, want_0 hT hk, mn_0l (by omega), i_add0, i_add0, cuB_same (by rw [a1])]
      rw [e9]
      exact ⟨h, e, h0, h1, h2⟩
  exact main.1
theorem avl_h {S : CS} (v : Int32) : f_X3_chargeBatteries_h37 4 0 S v = f_X3_chargeBatteries_c65 (f_X3_fillBatteries (v + pl S 0 + pl S 1 + pl S 2) S) := by
  rw [f_X3_chargeBatteries_h37, if_neg (by decide), pLeft_eq]
  unfold f_X3_chargeBatteries_c52
  rw [f_X3_chargeBatteries_h37, if_neg (by decide), pLeft_eq]
  unfold f_X3_chargeBatteries_c52
  rw [f_X3_chargeBatteries_h37, if_neg (by decide), pLeft_eq]
  unfold f_X3_chargeBatteries_c52
  rw [f_X3_chargeBatteries_h37, if_pos (by decide)]
theorem fill_15 (x : Int32) (S : CS) : (f_X3_fillBatteries x S).2.1 = S.1 := by
  rw [fiC_lp]
  show (itr (fiC x) 3 (S, 0)).1.1 = S.1
  exact itP (P := fun _ (s : CS × Int32) => s.1.1 = S.1) (st := fiC x) (B := 3) (S := (S, 0)) (fun k s _ hs => hs) rfl
theorem charge_R (h : Iv n d S M) : Iv n d (f_X3_chargeBatteries S) (f_X4_charges n M) := by
  unfold f_X3_chargeBatteries
  rw [eS 6 2 (by omega) rfl h]
  by_cases c : M.1 2 = 0
  · rw [if_pos c, avl_h, r_0add]
    have := chargeD_R h c
    unfold f_X3_chargeBatteries_c65 f_X3_chargeBatteries_c71
    rw [draw_o.1, fill_15]
    exact this
  · rw [if_neg c]
    exact chargeU_R h c
end SV
