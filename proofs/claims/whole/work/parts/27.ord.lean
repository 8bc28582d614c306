/-! ===== orders: the class's places beside the model's; shedding; returning ===== -/
section OP
variable {n : Nat × Nat × Nat} {d : Nat → Int32} {S : CS} {M : MS}
def ct (n : Nat × Nat × Nat) (M : MS) (x : Int32) (k : Nat) : Nat := cnt (ahd (M.2 1) (M.2 2) (M.2 3) x (decide (x ≠ 1)) k) n.1
theorem ahd_b {x : Int32} {k j : Nat} : ahd (M.2 1) (M.2 2) (M.2 3) x (decide (x ≠ 1)) k j = true ↔ M.2 3 j = x ∧ j ≠ k ∧ bef M x j k := by
  unfold ahd bef
  by_cases c : x = 1
  · simp [c, and_assoc]
  · simp [c, and_assoc]
theorem ahd_f {x : Int32} {k j : Nat} : ahd (M.2 1) (M.2 2) (M.2 3) x (decide (x ≠ 1)) k j = false ↔ ¬ (M.2 3 j = x ∧ j ≠ k ∧ bef M x j k) := by
  rw [← ahd_b]
  simp
theorem ct_le (x : Int32) (k : Nat) : ct n M x k ≤ n.1 := cnt_le _ _
theorem ct_lt {x : Int32} {k k2 : Nat} (h2 : k2 < n.1) (hx : M.2 3 k2 = x) (hb : bef M x k2 k) : ct n M x k2 < ct n M x k := by
  refine cnt_lt (k := k2) (fun j _ hj => ?_) h2 ?_ ?_
  · obtain ⟨a1, a2, a3⟩ := ahd_b.mp hj
    refine ahd_b.mpr ⟨a1, fun e => ?_, bef_tr a3 hb⟩
    rw [e] at a3
    exact bef_asym hb a3
  · exact ahd_f.mpr (fun z => z.2.1 rfl)
  · exact ahd_b.mpr ⟨hx, fun e => by rw [e] at hb; exact bef_asym hb hb, hb⟩
theorem ct_inj (h : Iv n d S M) {x : Int32} {k k2 : Nat} (h1 : k < n.1) (h2 : k2 < n.1) (hx1 : M.2 3 k = x) (hx2 : M.2 3 k2 = x) (e : ct n M x k = ct n M x k2) : k = k2 := by
  rcases Classical.em (k = k2) with q | q
  · exact q
  · exfalso
    rcases bef_tot h (x := x) h1 h2 q with z | z
    · have := ct_lt (k := k2) h1 hx1 z; omega
    · have := ct_lt (k := k) h2 hx2 z; omega
theorem ct_0 {x : Int32} {k : Nat} : ct n M x k = 0 ↔ ∀ j, j < n.1 → M.2 3 j = x → j ≠ k → ¬ bef M x j k := by
  unfold ct
  rw [cnt_zero]
  constructor
  · intro h j hj h1 h2 h3
    exact ahd_f.mp (h j hj) ⟨h1, h2, h3⟩
  · intro h j hj
    exact ahd_f.mpr (fun z => h j hj z.1 z.2.1 z.2.2)
theorem isF_ct (h : Iv n d S M) {x : Int32} {j : Nat} (hF : isF n M x 10 (some j)) : ct n M x j = 0 :=
  ct_0.mpr (fun i hi hx hne => bef_asym (hF.2.2.2 i (by have := h.ok.1; omega) hx hne))
def selM (n : Nat × Nat × Nat) (M : MS) (x pl : Int32) : Int32 := sel (M.2 3) x pl (ct n M x) n.1
theorem inO_1 (h : Iv n d S M) (pl : Int32) : f_X4_inOrder n 1 pl 0 M = (selM n M 1 pl, M) := inOrder_eq h.rp h.ok.1
theorem inO_2 (h : Iv n d S M) (pl : Int32) : f_X4_inOrder n 2 pl 1 M = (selM n M 2 pl, M) := inOrder_eq h.rp h.ok.1
theorem selM_of (h : Iv n d S M) {x pl : Int32} {k : Nat} (hk : k < n.1) (hx : M.2 3 k = x) (hp : nI (ct n M x k) = pl) : selM n M x pl = nI k := by
  obtain ⟨j, h1, h2, h3, h4⟩ := sel_some (c := ct n M x) n.1 k hk hx hp
  have e : ct n M x j = ct n M x k := by
    have a := ct_le (n := n) (M := M) x j
    have b := ct_le (n := n) (M := M) x k
    have := h.ok.1
    exact (nI_eq (by omega) (by omega)).mp (h4.trans hp.symm)
  show sel _ _ _ _ _ = _
  rw [h2, ct_inj h h1 hk h3 hx e]
theorem selM_F (h : Iv n d S M) {x : Int32} {o : Option Nat} (hF : isF n M x 10 o) : selM n M x 0 = (match o with | none => -1 | some j => nI j) := by
  have hn := h.ok.1
  cases o with
  | some j => exact selM_of h hF.1 hF.2.2.1 (by rw [isF_ct h hF]; rfl)
  | none =>
    rcases sel_spec (st := M.2 3) (x := x) (pl := 0) (c := ct n M x) n.1 with q | ⟨k, h1, h2, h3, -⟩
    · exact q
    · exact absurd h3 (hF k (by omega))
theorem cAO_h (h : Iv n d S M) {x : Int32} (hx0 : x ≠ 0) {m : Nat} (hm : m < n.1) (hx : M.2 3 m = x) : ∀ (q k : Nat) (v : Int32), k ≤ 10 → 10 < k + q → v = nI (cnt (ahd (M.2 1) (M.2 2) (M.2 3) x (decide (x ≠ 1)) m) k) → f_X3_countAheadOf_h14 m q k S v = (nI (cnt (ahd (M.2 1) (M.2 2) (M.2 3) x (decide (x ≠ 1)) m) 10), S) := by
  intro q
  induction q with
  | zero => intro k v h1 h2; omega
  | succ q ih =>
    intro k v h1 h2 e
    rw [f_X3_countAheadOf_h14]
    by_cases hk : 10 ≤ k
    · have ek : k = 10 := by omega
      subst ek
      rw [if_pos hk, e]
    · have step : ∀ t : Bool, ahd (M.2 1) (M.2 2) (M.2 3) x (decide (x ≠ 1)) m k = t → f_X3_countAheadOf_h14 m q (k + 1) S (v + if t = true then 1 else 0) = (nI (cnt (ahd (M.2 1) (M.2 2) (M.2 3) x (decide (x ≠ 1)) m) 10), S) := by
        intro t ht
        refine ih (k + 1) _ (by omega) (by omega) ?_
        rw [e]
        show _ = nI (cnt _ k + _)
        rw [ht]
        cases t
        · rw [if_neg (by decide), if_neg (by decide)]; exact i_add0 _
        · rw [if_pos rfl, if_pos rfl]; exact nI_1 _
      rw [if_neg hk, eL 3 (by omega) h, eL 3 (by omega) h, hx]
      by_cases c : M.2 3 k = x
      · rw [if_pos c]
        have hkn : k < n.1 := by
          rcases Nat.lt_or_ge k n.1 with z | z
          · exact z
          · exact absurd (by rw [← c, st0 h z]) hx0
        obtain ⟨g1, g2⟩ := gAO_b h c hkn hm
        unfold f_X3_countAheadOf_c42 f_X3_countAheadOf_b51
        rw [g2]
        by_cases c2 : bef M x k m
        · rw [if_neg (fun z => g1.mp z c2)]
          exact step true (ahd_b.mpr ⟨c, fun e => by rw [e] at c2; exact bef_asym c2 c2, c2⟩)
        · rw [if_pos (g1.mpr c2), ← i_add0 v]
          exact step false (ahd_f.mpr (fun z => c2 z.2.2))
      · rw [if_neg c]
        unfold f_X3_countAheadOf_b51
        rw [← i_add0 v]
        exact step false (ahd_f.mpr (fun z => c z.1))
theorem cAO_R (h : Iv n d S M) {x : Int32} (hx0 : x ≠ 0) {m : Nat} (hm : m < n.1) (hx : M.2 3 m = x) : f_X3_countAheadOf m S = (nI (ct n M x m), S) := by
  have e := cAO_h h hx0 hm hx 11 0 0 (by omega) (by omega) rfl
  refine e.trans (congrArg (fun z => (nI z, S)) (Eq.symm (cnt_ext h.ok.1 (fun _ _ => rfl) (fun j h1 _ => ahd_f.mpr (fun z => hx0 ?_)))))
  rw [← z.1, st0 h h1]
theorem fIn_h (h : Iv n d S M) {x pl : Int32} (hx0 : x ≠ 0) : ∀ (q k : Nat), k ≤ 10 → 10 < k + q → (∀ j, j < k → M.2 3 j = x → nI (ct n M x j) ≠ pl) →
    (∃ j, j < n.1 ∧ M.2 3 j = x ∧ nI (ct n M x j) = pl ∧ f_X3_findInOrder_h12 x pl q k S = Sum.inl (j, S)) ∨ (f_X3_findInOrder_h12 x pl q k S = Sum.inr (2, S) ∧ ∀ j, j < 10 → M.2 3 j = x → nI (ct n M x j) ≠ pl) := by
  intro q
  induction q with
  | zero => intro k h1 h2; omega
  | succ q ih =>
    intro k h1 h2 e
    rw [f_X3_findInOrder_h12]
    by_cases hk : 10 ≤ k
    · rw [if_pos hk]
      exact Or.inr ⟨rfl, fun j hj => e j (by omega)⟩
    · rw [if_neg hk, eL 3 (by omega) h]
      by_cases c : M.2 3 k = x
      · rw [if_pos c]
        have hkn : k < n.1 := by
          rcases Nat.lt_or_ge k n.1 with z | z
          · exact z
          · exact absurd (by rw [← c, st0 h z]) hx0
        rw [cAO_R h hx0 hkn c]
        unfold f_X3_findInOrder_c37 f_X3_findInOrder_b47
        by_cases c2 : nI (ct n M x k) = pl
        · rw [if_pos c2]
          exact Or.inl ⟨k, hkn, c, c2, rfl⟩
        · rw [if_neg c2]
          refine ih (k + 1) (by omega) (by omega) (fun j hj hx => ?_)
          rcases Nat.lt_or_ge j k with z | z
          · exact e j z hx
          · have e1 : j = k := by omega
            rw [e1]; exact c2
      · rw [if_neg c]
        refine ih (k + 1) (by omega) (by omega) (fun j hj hx => ?_)
        rcases Nat.lt_or_ge j k with z | z
        · exact e j z hx
        · have e1 : j = k := by omega
          rw [e1] at hx
          exact absurd hx c
theorem fIn_R (h : Iv n d S M) {x pl : Int32} (hx0 : x ≠ 0) : (∃ j, j < n.1 ∧ selM n M x pl = nI j ∧ nI (ct n M x j) = pl ∧ f_X3_findInOrder x pl S = Sum.inl (j, S)) ∨ (f_X3_findInOrder x pl S = Sum.inr (2, S) ∧ selM n M x pl = -1) := by
  have hn := h.ok.1
  rcases fIn_h h (pl := pl) hx0 (10 + 1) 0 (by omega) (by omega) (fun j hj => absurd hj (Nat.not_lt_zero j)) with ⟨j, h1, h2, h3, h4⟩ | ⟨h1, h2⟩
  · exact Or.inl ⟨j, h1, selM_of h h1 h2 h3, h3, h4⟩
  · refine Or.inr ⟨h1, ?_⟩
    rcases sel_spec (st := M.2 3) (x := x) (pl := pl) (c := ct n M x) n.1 with q | ⟨k, h5, h6, h7, h8⟩
    · exact q
    · exact absurd h8 (h2 k (by omega) h7)
-- shedding
theorem srd_upd {m k : Nat} (hk : k < m) (hs : M.2 3 k = 1) : sm (srd ((muA M 3 k 2).2 3) ((muA M 3 k 2).2 2)) m = sm (srd (M.2 3) (M.2 2)) m - M.2 2 k := by
  have e2 : (muA M 3 k 2).2 2 = M.2 2 := muA_ne (by decide)
  rw [e2]
  induction m with
  | zero => omega
  | succ m ih =>
    show sm _ m + srd _ _ m = sm _ m + srd _ _ m - _
    rcases Nat.lt_or_ge k m with z | z
    · rw [ih z]
      have e3 : srd ((muA M 3 k 2).2 3) (M.2 2) m = srd (M.2 3) (M.2 2) m := by
        have e5 : (muA M 3 k 2).2 3 m = M.2 3 m := by rw [rdA, if_neg (by omega)]
        unfold srd
        rw [e5]
      rw [e3, Int32.sub_eq_add_neg, Int32.sub_eq_add_neg, Int32.add_assoc, Int32.add_assoc, Int32.add_comm (-(M.2 2 k))]
    · have e : k = m := by omega
      subst e
      have e4 : sm (srd ((muA M 3 k 2).2 3) (M.2 2)) k = sm (srd (M.2 3) (M.2 2)) k := sm_congr (fun j hj => by
        have e5 : (muA M 3 k 2).2 3 j = M.2 3 j := by rw [rdA, if_neg (by omega)]
        unfold srd
        rw [e5])
      have e6 : (muA M 3 k 2).2 3 k = 2 := by rw [rdA, if_pos ⟨rfl, rfl⟩]
      rw [e4]
      unfold srd
      rw [e6, if_neg (by decide), if_pos hs, i_add0, Int32.add_sub_cancel]
theorem shed_h {n : Nat × Nat × Nat} {d : Nat → Int32} (can : Int32) (hc : 0 ≤ can.toInt) : ∀ (q2 q k : Nat) (S : CS) (M : MS), Iv n d S M → M.1 2 = 0 → srv n M < q2 → 10 < k + q → k + srv n M ≤ 10 →
    (f_X3_shedLoads_h17 q k S can (sm (srd (M.2 3) (M.2 2)) n.1)).1 = (f_X4_sheds_h16 n q2 M (nI k) can).1 ∧ Iv n d (f_X3_shedLoads_h17 q k S can (sm (srd (M.2 3) (M.2 2)) n.1)).2 (f_X4_sheds_h16 n q2 M (nI k) can).2 := by
  intro q2
  induction q2 with
  | zero => intro q k S M _ _ h; omega
  | succ q2 ih =>
    intro q k S M h hm h2 h3 h4
    cases q with
    | zero => omega
    | succ q =>
      rw [f_X3_shedLoads_h17, f_X4_sheds_h16, if_pos hm, needed_eq]
      unfold f_X4_sheds_c24 f_X4_sheds_b50 f_X3_shedLoads_b63
      by_cases c : sm (srd (M.2 3) (M.2 2)) n.1 ≤ can
      · rw [if_pos c, if_pos c]
        exact ⟨rfl, h⟩
      · rw [if_neg c, if_neg c]
        obtain ⟨k9, hk9, -, -, hs9, -⟩ := sheds_step (S := M) (v := can) h.ok h.rp hc (by rw [needed_eq]) c rfl
        have hk : k < 10 := by
          have : 0 < srv n M := by
            rcases Nat.lt_or_ge 0 (srv n M) with z | z
            · exact z
            · have e0 : srv n M = 0 := by omega
              have := cnt_zero.mp e0 k9 hk9
              simp [hs9] at this
          omega
        rw [if_neg (by omega)]
        obtain ⟨o, hF, ho⟩ := fIO_R h (x := 1) (by decide)
        rw [ho, inO_1 h, selM_F h hF]
        cases o with
        | none => exact absurd hs9 (hF k9 (by have := h.ok.1; omega))
        | some j =>
          have hj := hF.1
          have hsj := hF.2.2.1
          have hn := h.ok.1
          unfold f_X3_shedLoads_c30 f_X4_sheds_c39
          have h' : Iv n d (cuL S j 3 2) (muA M 3 j 2) := I_ld 3 (by omega) hj h
          have e1 : (nI j).toNatClampNeg = j := nI_clamp (by omega)
          have e2 : (cuL S j 3 2).2.1 j 2 = M.2 2 j := by rw [eL 2 (by omega) h']; rfl
          have hsr : srv n (muA M 3 j 2) < srv n M := by
            refine cnt_lt (k := j) (fun i _ hi => ?_) hj ?_ ?_
            · by_cases e : i = j
              · subst e
                simp [rdA] at hi
              · simpa [rdA, e] using hi
            · simp [rdA]
            · simp [hsj]
          have := ih q (k + 1) (cuL S j 3 2) (muA M 3 j 2) h' hm (by omega) (by omega) (by omega)
          rw [srd_upd hj hsj] at this
          show (f_X3_shedLoads_h17 q (k + 1) (cuL S j 3 2) can (_ - (cuL S j 3 2).2.1 j 2)).1 = (f_X4_sheds_h16 n q2 (muA M 3 (nI j).toNatClampNeg 2) (nI k + 1) can).1 ∧ Iv n d (f_X3_shedLoads_h17 q (k + 1) (cuL S j 3 2) can (sm (srd (M.2 3) (M.2 2)) n.1 - (cuL S j 3 2).2.1 j 2)).2 (f_X4_sheds_h16 n q2 (muA M 3 (nI j).toNatClampNeg 2) (nI k + 1) can).2
          rw [e1, e2, nI_1]
          exact this
theorem shed_R (h : Iv n d S M) (hm : M.1 2 = 0) : (f_X3_shedLoads S).1 = (f_X4_sheds n M).1 ∧ Iv n d (f_X3_shedLoads S).2 (f_X4_sheds n M).2 := by
  have hcan := shOk_of h.ok h.minv
  unfold f_X3_shedLoads f_X3_shedLoads_c1 f_X4_sheds f_X4_sheds_c3
  rw [sGP_R h, fGN_eq]
  unfold f_X3_shedLoads_c5 f_X4_sheds_c11
  dsimp only
  rw [sBP_R h, fBN_eq]
  unfold f_X3_shedLoads_c11
  dsimp only
  rw [demand_R h]
  dsimp only
  have hs : srv n M ≤ n.1 := cnt_le _ _
  have hn := h.ok.1
  have := shed_h (n := n) (d := d) (canM n M) hcan.2 (n.1 + 1) 11 0 S M h hm (by omega) (by omega) (by omega)
  exact this
theorem shed_up (hm : ¬ M.1 2 = 0) : f_X4_sheds n M = (0, M) := by
  unfold f_X4_sheds f_X4_sheds_c3
  rw [fGN_eq]
  unfold f_X4_sheds_c11
  dsimp only
  rw [fBN_eq]
  dsimp only
  rw [f_X4_sheds_h16, if_neg hm]
  rfl
-- returning
theorem ret_b (h : Iv n d S M) : Iv n d (f_X3_returnLoad_b25 S) (f_X4_returns_b37 n M (selM n M 2 0) 1) := by
  obtain ⟨o, hF, ho⟩ := fIO_R h (x := 2) (by decide)
  have hn := h.ok.1
  unfold f_X3_returnLoad_b25 f_X4_returns_b37
  rw [ho, selM_F h hF]
  cases o with
  | none => exact h
  | some j =>
    have hj := hF.1
    have e1 : (nI j).toNatClampNeg = j := nI_clamp (by omega)
    have e2 : ¬ nI j = -1 := by
      rw [i_eq, nI_toInt (by omega), show (-1 : Int32).toInt = -1 by decide]
      omega
    have yes : Iv n d (f_X3_returnLoad_b59 S j) (f_X4_returns_b72 n M (nI j)) := by
      unfold f_X3_returnLoad_b59 f_X3_returnLoad_b72 f_X4_returns_b72 f_X4_returns_b87
      rw [e1]
      have h' : Iv n d (cuL S j 3 1) (muA M 3 j 1) := I_ld 3 (by omega) hj h
      rw [eS 7 1 (by omega) rfl h']
      exact I_sc 11 6 (by omega) rfl h'
    show Iv n d (if S.1 6 = 0 then f_X3_returnLoad_c44 j (f_X3_demand S) else f_X3_returnLoad_b59 S j) (if nI j = -1 then _ else if (1 : Int32) = 0 then _ else if M.1 2 = 0 then f_X4_returns_c55 n (nI j) (f_X4_needed n M) else f_X4_returns_b72 n M (nI j))
    rw [if_neg e2, if_neg (show ¬ (1 : Int32) = 0 from by decide), eS 6 2 (by omega) rfl h]
    by_cases c : M.1 2 = 0
    · rw [if_pos c, if_pos c, demand_R h, needed_eq]
      unfold f_X3_returnLoad_c44 f_X4_returns_c55
      dsimp only
      rw [sGP_R h, fGN_eq]
      unfold f_X3_returnLoad_c53 f_X4_returns_c66
      dsimp only
      rw [e1, eL 2 (by omega) h]
      by_cases c2 : sm (gvs (M.2 16) (M.2 17) (M.2 12)) n.2.2 < sm (srd (M.2 3) (M.2 2)) n.1 + M.2 2 j
      · rw [if_pos c2, if_pos c2]; exact h
      · rw [if_neg c2, if_neg c2]; exact yes
    · rw [if_neg c, if_neg c]; exact yes
theorem ret_R (h : Iv n d S M) : Iv n d (f_X3_returnLoad S) (f_X4_returns n M) := by
  unfold f_X3_returnLoad f_X4_returns
  rw [inO_2 h]
  unfold f_X4_returns_c4 f_X4_returns_b32
  dsimp only
  rw [eS 11 6 (by omega) rfl h, eS 10 5 (by omega) rfl h, eS 7 1 (by omega) rfl h]
  by_cases c : M.1 6 = -1
  · rw [if_pos c, if_pos c]; exact ret_b h
  · rw [if_neg c, if_neg c]
    by_cases c2 : M.1 1 - M.1 6 < M.1 5
    · rw [if_pos c2, if_neg (by rw [i_le]; rw [i_lt] at c2; omega)]
      unfold f_X4_returns_b37 f_X4_returns_b87
      by_cases c3 : selM n M 2 0 = -1
      · rw [if_pos c3]; exact h
      · rw [if_neg c3, if_pos rfl]; exact h
    · rw [if_neg c2, if_pos (by rw [i_le]; rw [i_lt] at c2; omega)]; exact ret_b h
end OP
