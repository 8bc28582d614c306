/-! ===== plain facts that the walks of the model ask for ===== -/
theorem mfO_n7 {b : Nat → Nat} {n : Nat × Nat × Nat} {M : MS} : mfO b (n.1 + 1, n.2.1, n.2.2) M 7 = .int (nI n.1 + 1) := by
  show Value.int (nI (n.1 + 1)) = _
  rw [nI_succ]
theorem mfO_n13 {b : Nat → Nat} {n : Nat × Nat × Nat} {M : MS} : mfO b (n.1, n.2.1 + 1, n.2.2) M 13 = .int (nI n.2.1 + 1) := by
  show Value.int (nI (n.2.1 + 1)) = _
  rw [nI_succ]
theorem mfO_n20 {b : Nat → Nat} {n : Nat × Nat × Nat} {M : MS} : mfO b (n.1, n.2.1, n.2.2 + 1) M 20 = .int (nI n.2.2 + 1) := by
  show Value.int (nI (n.2.2 + 1)) = _
  rw [nI_succ]
theorem mfO_ne7 {b : Nat → Nat} {n : Nat × Nat × Nat} {M : MS} : ∀ j, j < 40 → j ≠ 7 → mfO b (n.1 + 1, n.2.1, n.2.2) M j = mfO b n M j := fun j _ h => by
  unfold mfO
  rw [if_neg h, if_neg h]
theorem mfO_ne13 {b : Nat → Nat} {n : Nat × Nat × Nat} {M : MS} : ∀ j, j < 40 → j ≠ 13 → mfO b (n.1, n.2.1 + 1, n.2.2) M j = mfO b n M j := fun j _ h => by
  unfold mfO
  rw [if_neg h, if_neg h]
theorem mfO_ne20 {b : Nat → Nat} {n : Nat × Nat × Nat} {M : MS} : ∀ j, j < 40 → j ≠ 20 → mfO b (n.1, n.2.1, n.2.2 + 1) M j = mfO b n M j := fun j _ h => by
  unfold mfO
  rw [if_neg h, if_neg h]
theorem i_le (a b : Int32) : a ≤ b ↔ a.toInt ≤ b.toInt := Int32.le_iff_toInt_le
theorem i_lt (a b : Int32) : a < b ↔ a.toInt < b.toInt := Int32.lt_iff_toInt_lt
theorem pb_lt {x : Int32} {k : Nat} (hk : k ≤ x.toNatClampNeg) (h : ¬ x ≤ nI k) : k < x.toNatClampNeg := by
  rcases Nat.lt_or_ge k x.toNatClampNeg with q | q
  · exact q
  · exfalso
    apply h
    have e : k = x.toNatClampNeg := Nat.le_antisymm hk q
    have h2 := x.toInt_lt
    have h3 : x.toNatClampNeg = x.toInt.toNat := rfl
    rw [i_le, nI_toInt (by omega)]
    omega
theorem f_in_eq (n : Nat × Nat × Nat) (x lo hi : Int32) (S : MS) : f_X4_in n x lo hi S = (if lo ≤ x ∧ x ≤ hi then 1 else 0, S) := by
  unfold f_X4_in
  split
  · rename_i h
    rw [if_neg (fun q => by rw [i_lt] at h; rw [i_le] at q; omega)]
    rfl
  · rename_i h
    split
    · rename_i h2
      rw [if_neg (fun q => by rw [i_lt] at h2; rw [i_le, i_le] at q; omega)]
      rfl
    · rename_i h2
      rw [if_pos (by rw [i_lt] at h h2; rw [i_le, i_le]; omega)]
      rfl
theorem vp_of_le {x : Int32} {N : Nat} (hN : N < 2 ^ 30) (h0 : 0 ≤ x) (h1 : x ≤ nI N - 1) : vp_in x N := by
  rw [vp_in_iff]
  rw [i_le] at h0 h1
  have h2 : (nI N - 1).toInt = (N : Int) - 1 := pk_sub_toInt (b := 1) hN (by omega)
  have h3 : (0 : Int32).toInt = 0 := by decide
  omega
theorem vp_mono {x : Int32} {n m : Nat} (h : n ≤ m) (hx : vp_in x n) : vp_in x m := by
  rw [vp_in_iff] at hx ⊢
  omega
theorem in_of {n : Nat × Nat × Nat} {x : Int32} {N : Nat} {S : MS} {p : Int32 × MS} (hN : N < 2 ^ 30) (e : p = f_X4_in n x 0 (nI N - 1) S) (h : ¬ p.1 = 0) : vp_in x N := by
  rw [e, f_in_eq] at h
  by_cases q : 0 ≤ x ∧ x ≤ nI N - 1
  · exact vp_of_le hN q.1 q.2
  · rw [if_neg q] at h
    exact absurd rfl h
theorem in_in {n : Nat × Nat × Nat} {x : Int32} {N r : Nat} {S : MS} {p : Int32 × MS} (hN : N ≤ mLen r) (e : p = f_X4_in n x 0 (nI N - 1) S) (h : ¬ p.1 = 0) : vp_in x (mLen r) :=
  vp_mono hN (in_of (by have := mLen_le r; omega) e h)
theorem isLoad_in {n : Nat × Nat × Nat} {x : Int32} {S : MS} {p : Int32 × MS} (hn : n.1 ≤ 10 ∧ n.2.1 ≤ 3 ∧ n.2.2 ≤ 3) (e : p = f_X4_isLoad n x S) (h : ¬ p.1 = 0) : vp_in x 10 :=
  vp_mono hn.1 (in_of (n := n) (S := S) (p := p) (by omega) (by rw [e]; rfl) h)
theorem isGen_in {n : Nat × Nat × Nat} {x : Int32} {S : MS} {p : Int32 × MS} (hn : n.1 ≤ 10 ∧ n.2.1 ≤ 3 ∧ n.2.2 ≤ 3) (e : p = f_X4_isGenerator n x S) (h : ¬ p.1 = 0) : vp_in x 3 :=
  vp_mono hn.2.2 (in_of (n := n) (S := S) (p := p) (by omega) (by rw [e]; rfl) h)
theorem ne_lt {N B : Nat} (hB : B < 2 ^ 31) (h : N ≤ B) (c : ¬ nI N = nI B) : N < B := by
  rcases Nat.lt_or_ge N B with q | q
  · exact q
  · have e : N = B := by omega
    subst e
    exact absurd rfl c
