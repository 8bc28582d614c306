/-! ===== the class's numbers beside the model's: one relation, kept by pairs of writes ===== -/
def gr (k : Nat) : Nat := if k < 10 then 12 + k else if k = 10 then 24 else if k = 11 then 22 else if k = 12 then 23 else if k = 13 then 25 else 26
def sr (k : Nat) : Nat := if k = 6 then 2 else if k = 7 then 1 else if k = 8 then 3 else if k = 9 then 4 else if k = 10 then 5 else if k = 11 then 6 else 24 + k
theorem gr_ge (k : Nat) : 12 ≤ gr k := by unfold gr; (repeat' split) <;> omega
theorem gr_inj : ∀ a, a < 15 → ∀ b, b < 15 → gr a = gr b → a = b := by decide
theorem gr_19 : ∀ a, a < 15 → gr a = 19 → a = 7 := by decide
theorem sr_inj : ∀ a, a < 16 → ∀ b, b < 16 → 6 ≤ a → 6 ≤ b → sr a = sr b → a = b := by decide
theorem sr_0 : ∀ a, a < 16 → sr a ≠ 0 := by decide
theorem sr_2 : ∀ a, a < 16 → 6 ≤ a → sr a = 2 → a = 6 := by decide
def RqL (S : CS) (M : MS) : Prop := ∀ k, 1 ≤ k → k ≤ 5 → ∀ i, S.2.1 i k = M.2 k i
def RqB (S : CS) (M : MS) : Prop := ∀ k, k ≤ 4 → ∀ i, S.2.2.1 i k = M.2 (6 + k) i
def RqG (S : CS) (M : MS) : Prop := ∀ k, k ≤ 14 → k ≠ 7 → ∀ i, S.2.2.2 i k = M.2 (gr k) i
def RqS (S : CS) (M : MS) : Prop := ∀ k, 6 ≤ k → k ≤ 15 → S.1 k = M.1 (sr k)
def R4 (S : CS) (M : MS) : Prop := RqL S M ∧ RqB S M ∧ RqG S M ∧ RqS S M
theorem sL {S : CS} {M : MS} {i k r : Nat} {v w : Int32} (hk : 1 ≤ k ∧ k ≤ 5) (hr : r = k) (hv : v = w) (h : R4 S M) : R4 (cuL S i k v) (muA M r i w) := by
  subst hr
  subst hv
  refine ⟨fun k' h1 h2 i' => ?_, fun k' h1 i' => ?_, fun k' h1 h2 i' => ?_, h.2.2.2⟩
  · show up2 S.2.1 i r v i' k' = up2 M.2 r i v k' i'
    unfold up2
    by_cases c : i' = i ∧ k' = r
    · rw [if_pos c, if_pos ⟨c.2, c.1⟩]
    · rw [if_neg c, if_neg (fun z => c ⟨z.2, z.1⟩)]
      exact h.1 k' h1 h2 i'
  · show S.2.2.1 i' k' = up2 M.2 r i v (6 + k') i'
    rw [up2_n (Or.inl (by omega))]
    exact h.2.1 k' h1 i'
  · show S.2.2.2 i' k' = up2 M.2 r i v (gr k') i'
    have := gr_ge k'
    rw [up2_n (Or.inl (by omega))]
    exact h.2.2.1 k' h1 h2 i'
theorem sB {S : CS} {M : MS} {i k r : Nat} {v w : Int32} (hk : k ≤ 4) (hr : r = 6 + k) (hv : v = w) (h : R4 S M) : R4 (cuB S i k v) (muA M r i w) := by
  subst hr
  subst hv
  refine ⟨fun k' h1 h2 i' => ?_, fun k' h1 i' => ?_, fun k' h1 h2 i' => ?_, h.2.2.2⟩
  · show S.2.1 i' k' = up2 M.2 (6 + k) i v k' i'
    rw [up2_n (Or.inl (by omega))]
    exact h.1 k' h1 h2 i'
  · show up2 S.2.2.1 i k v i' k' = up2 M.2 (6 + k) i v (6 + k') i'
    unfold up2
    by_cases c : i' = i ∧ k' = k
    · rw [if_pos c, if_pos ⟨by omega, c.1⟩]
    · rw [if_neg c, if_neg (fun z => c ⟨z.2, by omega⟩)]
      exact h.2.1 k' h1 i'
  · show S.2.2.2 i' k' = up2 M.2 (6 + k) i v (gr k') i'
    have := gr_ge k'
    rw [up2_n (Or.inl (by omega))]
    exact h.2.2.1 k' h1 h2 i'
theorem sG {S : CS} {M : MS} {i k r : Nat} {v w : Int32} (hk : k ≤ 14 ∧ k ≠ 7) (hr : r = gr k) (hv : v = w) (h : R4 S M) : R4 (cuG S i k v) (muA M r i w) := by
  subst hr
  subst hv
  have hg := gr_ge k
  refine ⟨fun k' h1 h2 i' => ?_, fun k' h1 i' => ?_, fun k' h1 h2 i' => ?_, h.2.2.2⟩
  · show S.2.1 i' k' = up2 M.2 (gr k) i v k' i'
    rw [up2_n (Or.inl (by omega))]
    exact h.1 k' h1 h2 i'
  · show S.2.2.1 i' k' = up2 M.2 (gr k) i v (6 + k') i'
    rw [up2_n (Or.inl (by omega))]
    exact h.2.1 k' h1 i'
  · show up2 S.2.2.2 i k v i' k' = up2 M.2 (gr k) i v (gr k') i'
    unfold up2
    by_cases c : i' = i ∧ k' = k
    · rw [if_pos c, if_pos ⟨by rw [c.2], c.1⟩]
    · rw [if_neg c, if_neg (fun z => c ⟨z.2, gr_inj k' (by omega) k (by omega) z.1⟩)]
      exact h.2.2.1 k' h1 h2 i'
theorem sS {S : CS} {M : MS} {k r : Nat} {v w : Int32} (hk : 6 ≤ k ∧ k ≤ 15) (hr : r = sr k) (hv : v = w) (h : R4 S M) : R4 (cuM S k v) (muS M r w) := by
  subst hr
  subst hv
  refine ⟨h.1, h.2.1, h.2.2.1, fun k' h1 h2 => ?_⟩
  show up1 S.1 k v k' = up1 M.1 (sr k) v (sr k')
  unfold up1
  by_cases c : k' = k
  · rw [if_pos c, if_pos (by rw [c])]
  · rw [if_neg c, if_neg (fun z => c (sr_inj k' (by omega) k (by omega) h1 hk.1 z))]
    exact h.2.2.2 k' h1 h2
theorem oB5 {S : CS} {M : MS} {i : Nat} {v : Int32} (h : R4 S M) : R4 (cuB S i 5 v) M :=
  ⟨h.1, fun k' h1 i' => by show up2 S.2.2.1 i 5 v i' k' = _; rw [up2_n (Or.inr (by omega))]; exact h.2.1 k' h1 i', h.2.2.1, h.2.2.2⟩
theorem oG7 {S : CS} {M : MS} {i : Nat} {v : Int32} (h : R4 S M) : R4 (cuG S i 7 v) M :=
  ⟨h.1, h.2.1, fun k' h1 h2 i' => by show up2 S.2.2.2 i 7 v i' k' = _; rw [up2_n (Or.inr h2)]; exact h.2.2.1 k' h1 h2 i', h.2.2.2⟩
theorem oA {S : CS} {M : MS} {r i : Nat} {v : Int32} (hr : r = 11 ∨ r = 19) (h : R4 S M) : R4 S (muA M r i v) := by
  refine ⟨fun k' h1 h2 i' => ?_, fun k' h1 i' => ?_, fun k' h1 h2 i' => ?_, h.2.2.2⟩
  · show _ = up2 M.2 r i v k' i'
    rw [up2_n (Or.inl (by omega))]
    exact h.1 k' h1 h2 i'
  · show _ = up2 M.2 r i v (6 + k') i'
    rw [up2_n (Or.inl (by omega))]
    exact h.2.1 k' h1 i'
  · show _ = up2 M.2 r i v (gr k') i'
    have h5 := gr_ge k'
    rw [up2_n (Or.inl (fun e => by
      rcases hr with q | q
      · omega
      · exact h2 (gr_19 k' (by omega) (by omega))))]
    exact h.2.2.1 k' h1 h2 i'
theorem oS0 {S : CS} {M : MS} {v : Int32} (h : R4 S M) : R4 S (muS M 0 v) :=
  ⟨h.1, h.2.1, h.2.2.1, fun k' h1 h2 => by show _ = up1 M.1 0 v (sr k'); rw [up1_n (sr_0 k' (by omega))]; exact h.2.2.2 k' h1 h2⟩
theorem oM6 {S : CS} {M : MS} {k : Nat} {v : Int32} (hk : k < 6) (h : R4 S M) : R4 (cuM S k v) M :=
  ⟨h.1, h.2.1, h.2.2.1, fun k' h1 h2 => by show up1 S.1 k v k' = _; rw [up1_n (by omega)]; exact h.2.2.2 k' h1 h2⟩
theorem up2_same {f : Nat → Nat → Int32} {i j : Nat} {v : Int32} (h : f i j = v) : up2 f i j v = f := by
  funext a b
  unfold up2
  split
  · rename_i c
    rw [c.1, c.2, h]
  · rfl
theorem up2_up2 {f : Nat → Nat → Int32} {i j : Nat} {v w : Int32} : up2 (up2 f i j v) i j w = up2 f i j w := by
  funext a b
  unfold up2
  split <;> rfl
theorem cuG_same {S : CS} {i k : Nat} {v : Int32} (h : S.2.2.2 i k = v) : cuG S i k v = S := by unfold cuG; rw [up2_same h]
theorem cuB_same {S : CS} {i k : Nat} {v : Int32} (h : S.2.2.1 i k = v) : cuB S i k v = S := by unfold cuB; rw [up2_same h]
theorem cuL_same {S : CS} {i k : Nat} {v : Int32} (h : S.2.1 i k = v) : cuL S i k v = S := by unfold cuL; rw [up2_same h]
theorem muA_same {M : MS} {r i : Nat} {v : Int32} (h : M.2 r i = v) : muA M r i v = M := by unfold muA; rw [up2_same h]
theorem up1_same {f : Nat → Int32} {k : Nat} {v : Int32} (h : f k = v) : up1 f k v = f := by
  funext a
  unfold up1
  split
  · rename_i c
    rw [c, h]
  · rfl
theorem cuM_same {S : CS} {k : Nat} {v : Int32} (h : S.1 k = v) : cuM S k v = S := by unfold cuM; rw [up1_same h]
theorem cuM_cuM {S : CS} {k : Nat} {v w : Int32} : cuM (cuM S k v) k w = cuM S k w := by
  have : up1 (up1 S.1 k v) k w = up1 S.1 k w := by
    funext a
    unfold up1
    split <;> rfl
  show (up1 (up1 S.1 k v) k w, S.2) = (up1 S.1 k w, S.2)
  rw [this]
-- reads behind writes
theorem rdG {S : CS} {i j a b : Nat} {v : Int32} : (cuG S i j v).2.2.2 a b = if a = i ∧ b = j then v else S.2.2.2 a b := rfl
theorem rdB {S : CS} {i j a b : Nat} {v : Int32} : (cuB S i j v).2.2.1 a b = if a = i ∧ b = j then v else S.2.2.1 a b := rfl
theorem rdL {S : CS} {i j a b : Nat} {v : Int32} : (cuL S i j v).2.1 a b = if a = i ∧ b = j then v else S.2.1 a b := rfl
theorem rdM {S : CS} {k j : Nat} {v : Int32} : (cuM S k v).1 j = if j = k then v else S.1 j := rfl
theorem rdA {M : MS} {i j a b : Nat} {v : Int32} : (muA M i j v).2 a b = if a = i ∧ b = j then v else M.2 a b := rfl
theorem rdS {M : MS} {k j : Nat} {v : Int32} : (muS M k v).1 j = if j = k then v else M.1 j := rfl
theorem rdG1 {S : CS} {i j : Nat} {v : Int32} : (cuG S i j v).1 = S.1 := rfl
theorem rdB1 {S : CS} {i j : Nat} {v : Int32} : (cuB S i j v).1 = S.1 := rfl
theorem rdL1 {S : CS} {i j : Nat} {v : Int32} : (cuL S i j v).1 = S.1 := rfl
theorem rdA1 {M : MS} {i j : Nat} {v : Int32} : (muA M i j v).1 = M.1 := rfl
theorem rdS2 {M : MS} {k : Nat} {v : Int32} : (muS M k v).2 = M.2 := rfl
-- the rest of what holds
def RN (n : Nat × Nat × Nat) (S : CS) : Prop := S.1 3 = nI n.1 ∧ S.1 4 = nI n.2.1 ∧ S.1 5 = nI n.2.2 ∧ ∀ i, i < 10 → S.2.1 i 0 = nI i
def ZZ (n : Nat × Nat × Nat) (M : MS) : Prop := (∀ i, n.1 ≤ i → M.2 3 i = 0) ∧ (∀ i, n.2.1 ≤ i → M.2 6 i = 0 ∧ M.2 7 i = 0 ∧ M.2 10 i = 0 ∧ M.2 11 i = 0) ∧ ∀ i, n.2.2 ≤ i → M.2 15 i = 0 ∧ M.2 16 i = 0 ∧ M.2 20 i = 0
def BT (M : MS) : Prop := ∀ i, (0 ≤ (M.2 7 i).toInt ∧ (M.2 7 i).toInt ≤ (M.2 6 i).toInt ∧ (M.2 6 i).toInt ≤ 20000) ∧ (0 ≤ (M.2 8 i).toInt ∧ (M.2 8 i).toInt ≤ 500) ∧ (0 ≤ (M.2 9 i).toInt ∧ (M.2 9 i).toInt ≤ 500)
def BG (M : MS) : Prop := ∀ i, (0 ≤ (M.2 20 i).toInt ∧ (M.2 20 i).toInt ≤ (M.2 12 i).toInt ∧ (M.2 12 i).toInt ≤ 1000) ∧ (0 ≤ (M.2 15 i).toInt ∧ (M.2 15 i).toInt ≤ (M.2 14 i).toInt ∧ (M.2 14 i).toInt ≤ 1000) ∧ (M.2 16 i = 0 ∨ M.2 16 i = 1 ∨ M.2 16 i = 2)
def RR (d : Nat → Int32) (S : CS) (M : MS) : Prop := ∀ i, M.2 16 i = 2 → M.2 17 i ≠ 0 → S.2.2.2 i 7 = M.2 19 i + d i
def nOk (n : Nat × Nat × Nat) : Prop := n.1 ≤ 10 ∧ n.2.1 ≤ 3 ∧ n.2.2 ≤ 3
def Iv (n : Nat × Nat × Nat) (d : Nat → Int32) (S : CS) (M : MS) : Prop := R4 S M ∧ RN n S ∧ ZZ n M ∧ rpOk (M.2 1) (M.2 2) n.1 ∧ BT M ∧ BG M ∧ RR d S M ∧ isB (M.1 2) ∧ nOk n
theorem Iv.minv {n : Nat × Nat × Nat} {d : Nat → Int32} {S : CS} {M : MS} (h : Iv n d S M) : MInv n M := by
  obtain ⟨-, -, -, hL, hT, hG, -⟩ := h
  exact ⟨hL, fun k _ => ⟨(hT k).1.1, (hT k).2.1⟩, fun k _ => ⟨Int.le_trans (hG k).1.1 (hG k).1.2.1, (hG k).1.2.2⟩⟩
def iOk (n : Nat × Nat × Nat) (r i : Nat) : Prop := (r < 6 → i < n.1) ∧ (6 ≤ r → r < 12 → i < n.2.1) ∧ (12 ≤ r → i < n.2.2)
theorem ZZ_A {n : Nat × Nat × Nat} {M : MS} {r i : Nat} {v : Int32} (hi : iOk n r i) (h : ZZ n M) : ZZ n (muA M r i v) := by
  have key : ∀ r' i', (r' < 6 → n.1 ≤ i') → (6 ≤ r' → r' < 12 → n.2.1 ≤ i') → (12 ≤ r' → n.2.2 ≤ i') → (muA M r i v).2 r' i' = M.2 r' i' := by
    intro r' i' h1 h2 h3
    refine up2_n ?_
    rcases Classical.em (r' = r) with e | e
    · right
      subst e
      obtain ⟨a1, a2, a3⟩ := hi
      rcases Nat.lt_or_ge r' 6 with z | z
      · have := a1 z; have := h1 z; omega
      · rcases Nat.lt_or_ge r' 12 with y | y
        · have := a2 z y; have := h2 z y; omega
        · have := a3 y; have := h3 y; omega
    · exact Or.inl e
  obtain ⟨z1, z2, z3⟩ := h
  refine ⟨fun j hj => ?_, fun j hj => ?_, fun j hj => ?_⟩
  · rw [key 3 j (fun _ => hj) (by omega) (by omega)]; exact z1 j hj
  · rw [key 6 j (by omega) (fun _ _ => hj) (by omega), key 7 j (by omega) (fun _ _ => hj) (by omega), key 10 j (by omega) (fun _ _ => hj) (by omega), key 11 j (by omega) (fun _ _ => hj) (by omega)]; exact z2 j hj
  · rw [key 15 j (by omega) (by omega) (fun _ => hj), key 16 j (by omega) (by omega) (fun _ => hj), key 20 j (by omega) (by omega) (fun _ => hj)]; exact z3 j hj
theorem rp_A {M : MS} {r i N : Nat} {v : Int32} (hr : r ≠ 1 ∧ r ≠ 2) (h : rpOk (M.2 1) (M.2 2) N) : rpOk ((muA M r i v).2 1) ((muA M r i v).2 2) N := by
  rw [muA_ne (fun e => hr.1 e.symm), muA_ne (fun e => hr.2 e.symm)]; exact h
theorem BT_A {M : MS} {r i : Nat} {v : Int32} (hr : r ≠ 6 ∧ r ≠ 7 ∧ r ≠ 8 ∧ r ≠ 9) (h : BT M) : BT (muA M r i v) := by
  unfold BT
  rw [muA_ne (fun e => hr.1 e.symm), muA_ne (fun e => hr.2.1 e.symm), muA_ne (fun e => hr.2.2.1 e.symm), muA_ne (fun e => hr.2.2.2 e.symm)]; exact h
theorem BG_A {M : MS} {r i : Nat} {v : Int32} (hr : r ≠ 20 ∧ r ≠ 12 ∧ r ≠ 15 ∧ r ≠ 14 ∧ r ≠ 16) (h : BG M) : BG (muA M r i v) := by
  unfold BG
  rw [muA_ne (fun e => hr.1 e.symm), muA_ne (fun e => hr.2.1 e.symm), muA_ne (fun e => hr.2.2.1 e.symm), muA_ne (fun e => hr.2.2.2.1 e.symm), muA_ne (fun e => hr.2.2.2.2 e.symm)]; exact h
theorem RR_A {d : Nat → Int32} {S S' : CS} {M : MS} {r i : Nat} {v : Int32} (hr : r ≠ 16 ∧ r ≠ 17 ∧ r ≠ 19) (h7 : ∀ j, S'.2.2.2 j 7 = S.2.2.2 j 7) (h : RR d S M) : RR d S' (muA M r i v) := by
  unfold RR
  rw [muA_ne (fun e => hr.1 e.symm), muA_ne (fun e => hr.2.1 e.symm), muA_ne (fun e => hr.2.2 e.symm)]
  intro j h1 h2
  rw [h7]
  exact h j h1 h2
theorem I_A {n : Nat × Nat × Nat} {d : Nat → Int32} {S S' : CS} {M : MS} {r i : Nat} {v : Int32} (h : Iv n d S M) (hR : R4 S' (muA M r i v)) (hN : RN n S') (h7 : ∀ j, S'.2.2.2 j 7 = S.2.2.2 j 7) (hi : iOk n r i) (hr : r ≠ 1 ∧ r ≠ 2) (hT : BT (muA M r i v)) (hG : BG (muA M r i v)) (hq : r ≠ 16 ∧ r ≠ 17 ∧ r ≠ 19) : Iv n d S' (muA M r i v) := by
  obtain ⟨-, -, h3, h4, -, -, h7', h8, h9⟩ := h
  exact ⟨hR, hN, ZZ_A hi h3, rp_A hr h4, hT, hG, RR_A hq h7 h7', h8, h9⟩
theorem RN_L {n : Nat × Nat × Nat} {S : CS} {i k : Nat} {v : Int32} (hk : k ≠ 0) (h : RN n S) : RN n (cuL S i k v) :=
  ⟨h.1, h.2.1, h.2.2.1, fun j hj => by show up2 S.2.1 i k v j 0 = _; rw [up2_n (Or.inr (fun e => hk e.symm))]; exact h.2.2.2 j hj⟩
theorem RN_M {n : Nat × Nat × Nat} {S : CS} {k : Nat} {v : Int32} (hk : 6 ≤ k) (h : RN n S) : RN n (cuM S k v) :=
  ⟨by show up1 S.1 k v 3 = _; rw [up1_n (by omega)]; exact h.1, by show up1 S.1 k v 4 = _; rw [up1_n (by omega)]; exact h.2.1, by show up1 S.1 k v 5 = _; rw [up1_n (by omega)]; exact h.2.2.1, h.2.2.2⟩
section II
variable {n : Nat × Nat × Nat} {d : Nat → Int32} {S : CS} {M : MS} {i : Nat} {v : Int32}
theorem I_ld (k : Nat) (hk : 3 ≤ k ∧ k ≤ 5) (hi : i < n.1) (h : Iv n d S M) : Iv n d (cuL S i k v) (muA M k i v) :=
  I_A h (sL (by omega) rfl rfl h.1) (RN_L (by omega) h.2.1) (fun _ => rfl) ⟨fun _ => hi, by omega, by omega⟩ (by omega) (BT_A (by omega) h.2.2.2.2.1) (BG_A (by omega) h.2.2.2.2.2.1) (by omega)
theorem I_ah (hi : i < n.2.1) (h : Iv n d S M) : Iv n d (cuB S i 4 v) (muA M 10 i v) :=
  I_A h (sB (by omega) rfl rfl h.1) h.2.1 (fun _ => rfl) ⟨by omega, fun _ _ => hi, by omega⟩ (by omega) (BT_A (by omega) h.2.2.2.2.1) (BG_A (by omega) h.2.2.2.2.2.1) (by omega)
theorem I_tr (hi : i < n.2.1) (h : Iv n d S M) : Iv n d S (muA M 11 i v) :=
  I_A h (oA (Or.inl rfl) h.1) h.2.1 (fun _ => rfl) ⟨by omega, fun _ _ => hi, by omega⟩ (by omega) (BT_A (by omega) h.2.2.2.2.1) (BG_A (by omega) h.2.2.2.2.2.1) (by omega)
theorem I_fc (h : Iv n d S M) : Iv n d (cuB S i 5 v) M := ⟨oB5 h.1, h.2⟩
theorem I_ch (hi : i < n.2.1) (h : Iv n d S M) (h0 : 0 ≤ v.toInt) (h1 : v.toInt ≤ (M.2 6 i).toInt) : Iv n d (cuB S i 1 v) (muA M 7 i v) := by
  refine I_A h (sB (by omega) rfl rfl h.1) h.2.1 (fun _ => rfl) ⟨by omega, fun _ _ => hi, by omega⟩ (by omega) (fun j => ?_) (BG_A (by omega) h.2.2.2.2.2.1) (by omega)
  have h5 := h.2.2.2.2.1 j
  simp only [rdA]
  by_cases c : j = i
  · subst c
    simp
    exact ⟨⟨h0, h1, h5.1.2.2⟩, h5.2⟩
  · simp [c]
    exact h5
theorem I_wr (hi : i < n.2.1) (h : Iv n d S M) (h0 : (M.2 7 i).toInt ≤ v.toInt) (h1 : v.toInt ≤ 20000) : Iv n d (cuB S i 0 v) (muA M 6 i v) := by
  refine I_A h (sB (by omega) rfl rfl h.1) h.2.1 (fun _ => rfl) ⟨by omega, fun _ _ => hi, by omega⟩ (by omega) (fun j => ?_) (BG_A (by omega) h.2.2.2.2.2.1) (by omega)
  have h5 := h.2.2.2.2.1 j
  simp only [rdA]
  by_cases c : j = i
  · subst c
    simp
    exact ⟨⟨h5.1.1, h0, h1⟩, h5.2⟩
  · simp [c]
    exact h5
theorem I_gv (hi : i < n.2.2) (h : Iv n d S M) (h0 : 0 ≤ v.toInt) (h1 : v.toInt ≤ (M.2 12 i).toInt) : Iv n d (cuG S i 8 v) (muA M 20 i v) := by
  refine I_A h (sG (by omega) rfl rfl h.1) h.2.1 (fun j => by show up2 S.2.2.2 i 8 v j 7 = _; rw [up2_n (Or.inr (by omega))]) ⟨by omega, by omega, fun _ => hi⟩ (by omega) (BT_A (by omega) h.2.2.2.2.1) (fun j => ?_) (by omega)
  have h5 := h.2.2.2.2.2.1 j
  simp only [rdA]
  by_cases c : j = i
  · subst c
    simp
    exact ⟨⟨h0, h1, h5.1.2.2⟩, h5.2⟩
  · simp [c]
    exact h5
theorem I_sc (k r : Nat) (hk : 7 ≤ k ∧ k ≤ 15) (hr : r = sr k) (h : Iv n d S M) : Iv n d (cuM S k v) (muS M r v) := by
  refine ⟨sS (by omega) hr rfl h.1, RN_M (by omega) h.2.1, h.2.2.1, h.2.2.2.1, h.2.2.2.2.1, h.2.2.2.2.2.1, h.2.2.2.2.2.2.1, ?_, h.2.2.2.2.2.2.2.2⟩
  show isB (up1 M.1 r v 2)
  rw [up1_n (fun e => by have := sr_2 k (by omega) (by omega) (by omega); omega)]
  exact h.2.2.2.2.2.2.2.1
theorem I_mu (hv : isB v) (h : Iv n d S M) : Iv n d (cuM S 6 v) (muS M 2 v) :=
  ⟨sS (by omega) rfl rfl h.1, RN_M (by omega) h.2.1, h.2.2.1, h.2.2.2.1, h.2.2.2.2.1, h.2.2.2.2.2.1, h.2.2.2.2.2.2.1, hv, h.2.2.2.2.2.2.2.2⟩
theorem I_th (h : Iv n d S M) : Iv n d S (muS M 0 v) :=
  ⟨oS0 h.1, h.2.1, h.2.2.1, h.2.2.2.1, h.2.2.2.2.1, h.2.2.2.2.2.1, h.2.2.2.2.2.2.1, h.2.2.2.2.2.2.2.1, h.2.2.2.2.2.2.2.2⟩
theorem eL (k : Nat) (hk : 1 ≤ k ∧ k ≤ 5) (h : Iv n d S M) (j : Nat) : S.2.1 j k = M.2 k j := h.1.1 k hk.1 hk.2 j
theorem eB (k r : Nat) (hk : k ≤ 4) (hr : 6 + k = r) (h : Iv n d S M) (j : Nat) : S.2.2.1 j k = M.2 r j := by rw [← hr]; exact h.1.2.1 k hk j
theorem eG (k r : Nat) (hk : k ≤ 14 ∧ k ≠ 7) (hr : gr k = r) (h : Iv n d S M) (j : Nat) : S.2.2.2 j k = M.2 r j := by rw [← hr]; exact h.1.2.2.1 k hk.1 hk.2 j
theorem eS (k r : Nat) (hk : 6 ≤ k ∧ k ≤ 15) (hr : sr k = r) (h : Iv n d S M) : S.1 k = M.1 r := by rw [← hr]; exact h.1.2.2.2 k hk.1 hk.2
end II
/-! loops as iterations -/
def itr {σ : Type} (st : Nat → σ → σ) : Nat → σ → σ
  | 0, S => S
  | m + 1, S => st m (itr st m S)
theorem lpI {σ ρ : Type} {H : Nat → Nat → σ → ρ} {B : Nat} {fin : σ → ρ} {st : Nat → σ → σ} (hH : ∀ q k S, H (q + 1) k S = if B ≤ k then fin S else H q (k + 1) (st k S)) (S : σ) : H (B + 1) 0 S = fin (itr st B S) := by
  have main : ∀ q k, k ≤ B → B < k + q → H q k (itr st k S) = fin (itr st B S) := by
    intro q
    induction q with
    | zero => intro k h1 h2; omega
    | succ q ih =>
      intro k h1 h2
      rw [hH]
      by_cases c : B ≤ k
      · have e : k = B := by omega
        rw [if_pos c, e]
      · rw [if_neg c]
        exact ih (k + 1) (by omega) (by omega)
  exact main (B + 1) 0 (Nat.zero_le _) (by omega)
theorem itS {σ τ : Type} {P : Nat → σ → τ → Prop} {st : Nat → σ → σ} {st' : Nat → τ → τ} {N B : Nat} (hN : N ≤ B) (h1 : ∀ k S M, k < N → P k S M → P (k + 1) (st k S) (st' k M)) (h2 : ∀ k S M, N ≤ k → k < B → P k S M → P (k + 1) (st k S) M) {S : σ} {M : τ} (h : P 0 S M) : P B (itr st B S) (itr st' N M) := by
  have a1 : ∀ k, k ≤ N → P k (itr st k S) (itr st' k M) := by
    intro k
    induction k with
    | zero => intro _; exact h
    | succ k ih => intro hk; exact h1 k _ _ (by omega) (ih (by omega))
  have a2 : ∀ k, N ≤ k → k ≤ B → P k (itr st k S) (itr st' N M) := by
    intro k
    induction k with
    | zero =>
      intro h3 _
      have e : N = 0 := by omega
      rw [e]
      exact h
    | succ k ih =>
      intro h3 h4
      rcases Nat.lt_or_ge k N with c | c
      · have e : N = k + 1 := by omega
        rw [e]
        exact a1 (k + 1) (by omega)
      · exact h2 k _ _ c (by omega) (ih c (by omega))
  exact a2 B hN (Nat.le_refl B)
theorem itP {σ : Type} {P : Nat → σ → Prop} {st : Nat → σ → σ} {B : Nat} (h1 : ∀ k S, k < B → P k S → P (k + 1) (st k S)) {S : σ} (h : P 0 S) : P B (itr st B S) := by
  have a1 : ∀ k, k ≤ B → P k (itr st k S) := by
    intro k
    induction k with
    | zero => intro _; exact h
    | succ k ih => intro hk; exact h1 k _ (by omega) (ih (by omega))
  exact a1 B (Nat.le_refl B)
