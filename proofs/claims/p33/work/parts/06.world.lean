/-! ===== the worlds: a list of cells by number; the class's twenty cells, the model's twenty-seven ===== -/
abbrev vwCl : List vw_C := [(RX0, TX0, 6), (RX1, TX1, 15), (RX2, TX2, 6), (RX3, TX3, 16)]
def wl (n : Nat) (ad : Nat → Nat) (el : Nat → va_E) : va_W := (List.range n).map fun q => (ad q, el q)
theorem wl_get {n : Nat} {ad : Nat → Nat} {el : Nat → va_E} {q : Nat} (h : q < n) : (wl n ad el)[q]? = some (ad q, el q) := by
  unfold wl
  rw [List.getElem?_map, List.getElem?_range h]
  rfl
theorem wl_at {n : Nat} {ad : Nat → Nat} {el : Nat → va_E} {k : Nat} {x : Nat × va_E} (h : (wl n ad el)[k]? = some x) : k < n ∧ x = (ad k, el k) := by
  have hk : k < n := by
    obtain ⟨h1, -⟩ := List.getElem?_eq_some_iff.mp h
    simpa [wl] using h1
  refine ⟨hk, ?_⟩
  rw [wl_get hk] at h
  exact (Option.some.inj h).symm
theorem wl_set {n : Nat} {ad : Nat → Nat} {el el' : Nat → va_E} {q : Nat} {e : va_E} (h1 : el' q = e) (h2 : ∀ j, j < n → j ≠ q → el' j = el j) : (wl n ad el).set q (ad q, e) = wl n ad el' := by
  apply List.ext_getElem?
  intro k
  by_cases hk : k < n
  · rw [List.getElem?_set, wl_get hk, wl_get hk]
    by_cases e1 : q = k
    · subst e1
      rw [if_pos rfl, h1]
      have h3 : q < (wl n ad el).length := by simpa [wl] using hk
      rw [if_pos h3]
    · rw [if_neg e1, h2 k hk (fun h => e1 h.symm)]
  · have h3 : ((wl n ad el).set q (ad q, e)).length ≤ k := by simp [wl]; omega
    have h4 : (wl n ad el').length ≤ k := by simp [wl]; omega
    rw [List.getElem?_eq_none h3, List.getElem?_eq_none h4]
def wInj (n : Nat) (ad : Nat → Nat) : Prop := ∀ i j, i < n → j < n → ad i = ad j → i = j
def wA (n : Nat) (ad : Nat → Nat) (sz : Nat) : Nat → Prop := fun q => (∃ k, k < n ∧ q = ad k) ∨ sz ≤ q
theorem wl_D {n : Nat} {ad : Nat → Nat} {el : Nat → va_E} {sz : Nat} (hi : wInj n ad) : va_D (wA n ad sz) (wl n ad el) := by
  refine ⟨fun i j p q hp hq e => ?_, fun k q hq => ?_⟩
  · obtain ⟨h1, rfl⟩ := wl_at hp
    obtain ⟨h2, rfl⟩ := wl_at hq
    exact hi i j h1 h2 e
  · obtain ⟨h1, rfl⟩ := wl_at hq
    exact Or.inl ⟨k, h1, rfl⟩
/-- the numbers of the class's world: the site's own, the loads', the batteries', the generators' (a thing's number, then its field) -/
abbrev CS : Type := (Nat → Int32) × (Nat → Nat → Int32) × (Nat → Nat → Int32) × (Nat → Nat → Int32)
/-- the numbers of the model's world: its own fields, its rows -/
abbrev MS : Type := (Nat → Int32) × (Nat → Nat → Int32)
def up1 (f : Nat → Int32) (k : Nat) (v : Int32) : Nat → Int32 := fun q => if q = k then v else f q
def up2 (f : Nat → Nat → Int32) (i j : Nat) (v : Int32) : Nat → Nat → Int32 := fun a b => if a = i ∧ b = j then v else f a b
theorem up1_s {f : Nat → Int32} {k : Nat} {v : Int32} : up1 f k v k = v := by simp [up1]
theorem up1_n {f : Nat → Int32} {k q : Nat} {v : Int32} (h : q ≠ k) : up1 f k v q = f q := by simp [up1, h]
theorem up2_s {f : Nat → Nat → Int32} {i j : Nat} {v : Int32} : up2 f i j v i j = v := by simp [up2]
theorem up2_n {f : Nat → Nat → Int32} {i j a b : Nat} {v : Int32} (h : a ≠ i ∨ b ≠ j) : up2 f i j v a b = f a b := by
  unfold up2
  rw [if_neg]
  rintro ⟨h1, h2⟩
  rcases h with h | h
  · exact h h1
  · exact h h2
def cuM (S : CS) (k : Nat) (v : Int32) : CS := (up1 S.1 k v, S.2)
def cuL (S : CS) (i j : Nat) (v : Int32) : CS := (S.1, up2 S.2.1 i j v, S.2.2)
def cuB (S : CS) (i j : Nat) (v : Int32) : CS := (S.1, S.2.1, up2 S.2.2.1 i j v, S.2.2.2)
def cuG (S : CS) (i j : Nat) (v : Int32) : CS := (S.1, S.2.1, S.2.2.1, up2 S.2.2.2 i j v)
def muS (M : MS) (k : Nat) (v : Int32) : MS := (up1 M.1 k v, M.2)
def muA (M : MS) (r i : Nat) (v : Int32) : MS := (M.1, up2 M.2 r i v)
/-- the machine's own numbers: classes, fields, array classes -/
abbrev WG : Type := va_G × (Nat → ClassId)
def wT (y : Nat → ClassId) : List (ClassId × FieldType) := [(y 0, .int), (y 0, .int), (y 2, .object RX2), (y 3, .object RX0), (y 4, .object RX1), (y 0, .int)]
/-- a row of fields -/
def rw1 (n : Nat) (f : Nat → Value) : List Value := (List.range n).map f
theorem rw1_get {n : Nat} {f : Nat → Value} {k : Nat} (h : k < n) : (rw1 n f)[k]? = some (f k) := by
  unfold rw1
  rw [List.getElem?_map, List.getElem?_range h]
  rfl
theorem rw1_len {n : Nat} {f : Nat → Value} : (rw1 n f).length = n := by simp [rw1]
theorem rw1_set {n : Nat} {f f' : Nat → Value} {k : Nat} {v : Value} (h1 : f' k = v) (h2 : ∀ j, j < n → j ≠ k → f' j = f j) : (rw1 n f).set k v = rw1 n f' := by
  apply List.ext_getElem?
  intro q
  by_cases hq : q < n
  · rw [List.getElem?_set, rw1_get hq, rw1_get hq]
    by_cases e : k = q
    · subst e
      rw [if_pos rfl, h1, if_pos (by rw [rw1_len]; exact hq)]
    · rw [if_neg e, h2 q hq (fun h => e h.symm)]
  · rw [List.getElem?_eq_none (by rw [List.length_set, rw1_len]; omega), List.getElem?_eq_none (by rw [rw1_len]; omega)]
def cfM (a : Nat → Nat) (S : CS) (j : Nat) : Value := if j < 3 then .ref (a (1 + j)) else .int (S.1 j)
def cE (y : Nat → ClassId) (a : Nat → Nat) (S : CS) (q : Nat) : va_E :=
  if q = 0 then .inr (3, rw1 16 (cfM a S))
  else if q = 1 then .inl (y 2, 10, .inr (.inr (.inr (.inr (fun i => some (a (4 + i)))))))
  else if q = 2 then .inl (y 3, 3, .inr (.inr (.inr (.inr (fun i => some (a (14 + i)))))))
  else if q = 3 then .inl (y 4, 3, .inr (.inr (.inr (.inr (fun i => some (a (17 + i)))))))
  else if q < 14 then .inr (2, rw1 6 (fun j => .int (S.2.1 (q - 4) j)))
  else if q < 17 then .inr (0, rw1 6 (fun j => .int (S.2.2.1 (q - 14) j)))
  else if q < 20 then .inr (1, rw1 15 (fun j => .int (S.2.2.2 (q - 17) j)))
  else .inl (y 0, 10, .inl (fun i => S.2.1 i 6))
def CW (y : Nat → ClassId) (a : Nat → Nat) (S : CS) : va_W := wl 21 a (cE y a S)
theorem cE_L {y : Nat → ClassId} {a : Nat → Nat} {S : CS} {i : Nat} (h : i < 10) : cE y a S (4 + i) = .inr (2, rw1 6 (fun j => .int (S.2.1 i j))) := by
  unfold cE
  rw [if_neg (by omega), if_neg (by omega), if_neg (by omega), if_neg (by omega), if_pos (by omega), Nat.add_sub_cancel_left]
theorem cE_B {y : Nat → ClassId} {a : Nat → Nat} {S : CS} {i : Nat} (h : i < 3) : cE y a S (14 + i) = .inr (0, rw1 6 (fun j => .int (S.2.2.1 i j))) := by
  unfold cE
  rw [if_neg (by omega), if_neg (by omega), if_neg (by omega), if_neg (by omega), if_neg (by omega), if_pos (by omega), Nat.add_sub_cancel_left]
theorem cE_G {y : Nat → ClassId} {a : Nat → Nat} {S : CS} {i : Nat} (h : i < 3) : cE y a S (17 + i) = .inr (1, rw1 15 (fun j => .int (S.2.2.2 i j))) := by
  unfold cE
  rw [if_neg (by omega), if_neg (by omega), if_neg (by omega), if_neg (by omega), if_neg (by omega), if_neg (by omega), if_pos (by omega), Nat.add_sub_cancel_left]
theorem cE_T {y : Nat → ClassId} {a : Nat → Nat} {S : CS} {q : Nat} (h : 20 ≤ q) : cE y a S q = .inl (y 0, 10, .inl (fun i => S.2.1 i 6)) := by
  unfold cE
  rw [if_neg (by omega), if_neg (by omega), if_neg (by omega), if_neg (by omega), if_neg (by omega), if_neg (by omega), if_neg (by omega)]
theorem rw1_congr {n : Nat} {f g : Nat → Value} (h : ∀ j, j < n → f j = g j) : rw1 n f = rw1 n g := by
  unfold rw1
  exact List.map_congr_left (fun j hj => h j (List.mem_range.mp hj))
theorem cfM_I {a : Nat → Nat} {S : CS} {j : Nat} (h : 3 ≤ j) : cfM a S j = .int (S.1 j) := by
  unfold cfM
  rw [if_neg (by omega)]
/-- two states' cells at j, where the numbers that j shows are the same -/
theorem cE_eq {y : Nat → ClassId} {a : Nat → Nat} {S T : CS} {j : Nat} (h0 : j = 0 → ∀ q, S.1 q = T.1 q) (hL : ∀ i, i < 10 → j = 4 + i → ∀ q, q < 6 → S.2.1 i q = T.2.1 i q) (hB : ∀ i, i < 3 → j = 14 + i → ∀ q, q < 6 → S.2.2.1 i q = T.2.2.1 i q) (hG : ∀ i, i < 3 → j = 17 + i → ∀ q, q < 15 → S.2.2.2 i q = T.2.2.2 i q) (hT : 20 ≤ j → ∀ i, S.2.1 i 6 = T.2.1 i 6) : cE y a S j = cE y a T j := by
  rcases (show j = 0 ∨ j = 1 ∨ j = 2 ∨ j = 3 ∨ (4 ≤ j ∧ j < 14) ∨ (14 ≤ j ∧ j < 17) ∨ (17 ≤ j ∧ j < 20) ∨ 20 ≤ j by omega) with e | e | e | e | e | e | e | e
  · subst e
    show Sum.inr (3, rw1 16 (cfM a S)) = Sum.inr (3, rw1 16 (cfM a T))
    rw [rw1_congr (f := cfM a S) (g := cfM a T) (fun q _ => by unfold cfM; rw [h0 rfl q])]
  · subst e; rfl
  · subst e; rfl
  · subst e; rfl
  · obtain ⟨z, rfl⟩ : ∃ z, j = 4 + z := ⟨j - 4, by omega⟩
    rw [cE_L (by omega), cE_L (by omega), rw1_congr (fun q hq => by rw [hL z (by omega) rfl q hq])]
  · obtain ⟨z, rfl⟩ : ∃ z, j = 14 + z := ⟨j - 14, by omega⟩
    rw [cE_B (by omega), cE_B (by omega), rw1_congr (fun q hq => by rw [hB z (by omega) rfl q hq])]
  · obtain ⟨z, rfl⟩ : ∃ z, j = 17 + z := ⟨j - 17, by omega⟩
    rw [cE_G (by omega), cE_G (by omega), rw1_congr (fun q hq => by rw [hG z (by omega) rfl q hq])]
  · rw [cE_T e, cE_T e, show (fun i => S.2.1 i 6) = fun i => T.2.1 i 6 from funext (hT e)]
theorem CW_setM {y : Nat → ClassId} {a : Nat → Nat} {S : CS} {k : Nat} {v : Int32} (hk : 3 ≤ k) : (CW y a S).set 0 (a 0, .inr (3, (rw1 16 (cfM a S)).set k (.int v))) = CW y a (cuM S k v) := by
  unfold CW
  refine wl_set ?_ (fun j _ hj => ?_)
  · show Sum.inr (3, rw1 16 (cfM a (cuM S k v))) = _
    rw [rw1_set (f' := cfM a (cuM S k v))]
    · rw [cfM_I hk]; show Value.int (up1 S.1 k v k) = _; rw [up1_s]
    · intro j _ hj
      unfold cfM
      by_cases h3 : j < 3
      · rw [if_pos h3, if_pos h3]
      · rw [if_neg h3, if_neg h3]
        show Value.int (up1 S.1 k v j) = _
        rw [up1_n hj]
  · unfold cE
    rw [if_neg hj, if_neg hj]
    rfl
theorem CW_setL {y : Nat → ClassId} {a : Nat → Nat} {S : CS} {i k : Nat} {v : Int32} (hi : i < 10) (hk : k < 6) : (CW y a S).set (4 + i) (a (4 + i), .inr (2, (rw1 6 (fun j => .int (S.2.1 i j))).set k (.int v))) = CW y a (cuL S i k v) := by
  unfold CW
  refine wl_set ?_ (fun j _ hj => cE_eq (fun _ _ => rfl) (fun z _ e q _ => up2_n (Or.inl (by omega))) (fun _ _ _ _ _ => rfl) (fun _ _ _ _ _ => rfl) (fun _ z => up2_n (Or.inr (by omega))))
  rw [cE_L hi, rw1_set (f' := fun j => .int ((cuL S i k v).2.1 i j))]
  · show Value.int (up2 S.2.1 i k v i k) = _; rw [up2_s]
  · intro j _ hj
    show Value.int (up2 S.2.1 i k v i j) = _; rw [up2_n (Or.inr hj)]
theorem CW_setB {y : Nat → ClassId} {a : Nat → Nat} {S : CS} {i k : Nat} {v : Int32} (hi : i < 3) : (CW y a S).set (14 + i) (a (14 + i), .inr (0, (rw1 6 (fun j => .int (S.2.2.1 i j))).set k (.int v))) = CW y a (cuB S i k v) := by
  unfold CW
  refine wl_set ?_ (fun j _ hj => cE_eq (fun _ _ => rfl) (fun _ _ _ _ _ => rfl) (fun z _ e q _ => up2_n (Or.inl (by omega))) (fun _ _ _ _ _ => rfl) (fun _ _ => rfl))
  rw [cE_B hi, rw1_set (f' := fun j => .int ((cuB S i k v).2.2.1 i j))]
  · show Value.int (up2 S.2.2.1 i k v i k) = _; rw [up2_s]
  · intro j _ hj
    show Value.int (up2 S.2.2.1 i k v i j) = _; rw [up2_n (Or.inr hj)]
theorem CW_setG {y : Nat → ClassId} {a : Nat → Nat} {S : CS} {i k : Nat} {v : Int32} (hi : i < 3) : (CW y a S).set (17 + i) (a (17 + i), .inr (1, (rw1 15 (fun j => .int (S.2.2.2 i j))).set k (.int v))) = CW y a (cuG S i k v) := by
  unfold CW
  refine wl_set ?_ (fun j _ hj => cE_eq (fun _ _ => rfl) (fun _ _ _ _ _ => rfl) (fun _ _ _ _ _ => rfl) (fun z _ e q _ => up2_n (Or.inl (by omega))) (fun _ _ => rfl))
  rw [cE_G hi, rw1_set (f' := fun j => .int ((cuG S i k v).2.2.2 i j))]
  · show Value.int (up2 S.2.2.2 i k v i k) = _; rw [up2_s]
  · intro j _ hj
    show Value.int (up2 S.2.2.2 i k v i j) = _; rw [up2_n (Or.inr hj)]
theorem CW_setH {y : Nat → ClassId} {a : Nat → Nat} {S : CS} {i : Nat} {v : Int32} : (CW y a S).set 20 (a 20, .inl (y 0, 10, .inl (upd (fun q => S.2.1 q 6) i v))) = CW y a (cuL S i 6 v) := by
  unfold CW
  refine wl_set ?_ (fun j hj1 hj => cE_eq (fun _ _ => rfl) (fun z _ e q hq => up2_n (Or.inr (by omega))) (fun _ _ _ _ _ => rfl) (fun _ _ _ _ _ => rfl) (fun e => by omega))
  rw [cE_T (by decide)]
  have : (fun q => (cuL S i 6 v).2.1 q 6) = upd (fun q => S.2.1 q 6) i v := by
    funext q
    show up2 S.2.1 i 6 v q 6 = _
    unfold up2 upd
    by_cases h : q = i
    · rw [if_pos ⟨h, rfl⟩, if_pos h]
    · rw [if_neg (fun e => h e.1), if_neg h]
  rw [this]
/-- a value that a field of this kind can hold -/
def okv (ty : FieldType) (v : Int32) : Prop := narrow ty (.int v) = .int v ∧ fits ty (.int v) = true
def isB (v : Int32) : Prop := v = 0 ∨ v = 1
theorem okI {v : Int32} : okv .int v := ⟨rfl, rfl⟩
theorem okB {v : Int32} (h : isB v) : okv .boolean v := by
  rcases h with rfl | rfl <;> exact ⟨by decide, by decide⟩
theorem isB_0 : isB 0 := Or.inl rfl
theorem isB_1 : isB 1 := Or.inr rfl
theorem narB {v : Int32} (h : isB v) : vp_nar .boolean v = v := by
  rcases h with rfl | rfl <;> decide
