/-! ===== the site's constructor ===== -/
def rfs (ad : Nat → Nat) (k : Nat) : Nat → Option Nat := fun i => if i < k then some (ad i) else none
theorem rfs_up {ad : Nat → Nat} {k q : Nat} : va_up (rfs ad k) k (some q) = rfs (va_up ad k q) (k + 1) := by
  funext i
  unfold rfs va_up
  by_cases h : i = k
  · rw [if_pos h, if_pos (by omega), if_pos h]
  · rw [if_neg h, if_neg h]
    by_cases h2 : i < k
    · rw [if_pos h2, if_pos (by omega)]
    · rw [if_neg h2, if_neg (by omega)]
theorem rfs_0 {ad : Nat → Nat} : (fun _ => none) = rfs ad 0 := by
  funext i
  unfold rfs
  rw [if_neg (by omega)]
def thg (ad : Nat → Nat) (el : Nat → va_E) (k : Nat) : va_W := (List.range k).map fun i => (ad i, el i)
theorem thg_up {ad : Nat → Nat} {el : Nat → va_E} {k q : Nat} : thg ad el k ++ [(q, el k)] = thg (va_up ad k q) el (k + 1) := by
  unfold thg
  rw [List.range_succ, List.map_append]
  congr 1
  · exact List.map_congr_left (fun i hi => by
      have h := List.mem_range.mp hi
      unfold va_up
      rw [if_neg (by omega)])
  · unfold va_up
    simp
theorem thg_len {ad : Nat → Nat} {el : Nat → va_E} {k : Nat} : (thg ad el k).length = k := by simp [thg]
def CS0 : CS := (fun j => if j = 6 then 1 else if j = 9 then 2 else if j = 10 then 1 else if j = 11 then -1 else 0, fun i j => if j = 0 then nI i else 0, fun _ _ => 0, fun _ _ => 0)
def elL (i : Nat) : va_E := .inr (2, rw1 6 (fun j => .int (CS0.2.1 i j)))
def elB (i : Nat) : va_E := .inr (0, rw1 6 (fun j => .int (CS0.2.2.1 i j)))
def elG (i : Nat) : va_E := .inr (1, rw1 15 (fun j => .int (CS0.2.2.2 i j)))
theorem thg_get {ad : Nat → Nat} {el : Nat → va_E} {k i : Nat} (h : i < k) : (thg ad el k)[i]? = some (ad i, el i) := by
  unfold thg
  rw [List.getElem?_map, List.getElem?_range h]
  rfl
def siF (q1 q2 q3 : Nat) (j : Nat) : Value := if j = 0 then .ref q1 else if j = 1 then .ref q2 else if j = 2 then .ref q3 else if j = 6 then .int 1 else if j = 9 then .int 2 else if j = 10 then .int 1 else if j = 11 then .int (-1) else .int 0
def siN (j : Nat) : Value := if j < 3 then .null else .int 0
def siW (y : Nat → ClassId) (h0 q1 q2 q3 : Nat) (fL fB fG : Nat → Option Nat) (ls : va_W) : va_W := (h0, .inr (3, rw1 16 (siF q1 q2 q3))) :: (q1, .inl (y 2, 10, .inr (.inr (.inr (.inr fL))))) :: (q2, .inl (y 3, 3, .inr (.inr (.inr (.inr fB))))) :: (q3, .inl (y 4, 3, .inr (.inr (.inr (.inr fG))))) :: ls
/-- the words of a construction that aren't kept word by word -/
def iEnv (U : State) : Prop := va_AO RX2 U ∧ va_AO RX0 U ∧ va_AO RX1 U ∧ va_Nw (.methodLinkNest RX3 44 yX0_init RX3) U ∧ va_Nw (.methodLinkNest RX3 45 yX1_init RX3) U
theorem va_P_eq {D : va_G} {cl : List vw_C} {ws ws' : va_W} {H : Heap} (h : ws = ws') (hP : va_P D cl ws H) : va_P D cl ws' H := h ▸ hP
theorem siW_4 {y : Nat → ClassId} {h0 q1 q2 q3 i : Nat} {fL fB fG : Nat → Option Nat} {ls : va_W} : (siW y h0 q1 q2 q3 fL fB fG ls)[i + 4]? = ls[i]? := by
  unfold siW
  rw [List.getElem?_cons_succ, List.getElem?_cons_succ, List.getElem?_cons_succ, List.getElem?_cons_succ]
theorem siW_c {k : Nat} (hk : k < 20) : k = 0 ∨ k = 1 ∨ k = 2 ∨ k = 3 ∨ (∃ i, i < 10 ∧ k = 4 + i) ∨ (∃ i, i < 3 ∧ k = 14 + i) ∨ (∃ i, i < 3 ∧ k = 17 + i) := by
  rcases Nat.lt_or_ge k 4 with z | z
  · omega
  · rcases Nat.lt_or_ge k 14 with z2 | z2
    · exact Or.inr (Or.inr (Or.inr (Or.inr (Or.inl ⟨k - 4, by omega, by omega⟩))))
    · rcases Nat.lt_or_ge k 17 with z3 | z3
      · exact Or.inr (Or.inr (Or.inr (Or.inr (Or.inr (Or.inl ⟨k - 14, by omega, by omega⟩)))))
      · exact Or.inr (Or.inr (Or.inr (Or.inr (Or.inr (Or.inr ⟨k - 17, by omega, by omega⟩)))))
def siA (h0 q1 q2 q3 : Nat) (ad bd gd : Nat → Nat) (q : Nat) : Nat := if q = 0 then h0 else if q = 1 then q1 else if q = 2 then q2 else if q = 3 then q3 else if q < 14 then ad (q - 4) else if q < 17 then bd (q - 14) else gd (q - 17)
theorem siA_L {h0 q1 q2 q3 i : Nat} {ad bd gd : Nat → Nat} (hi : i < 10) : siA h0 q1 q2 q3 ad bd gd (4 + i) = ad i := by
  unfold siA
  rw [if_neg (by omega), if_neg (by omega), if_neg (by omega), if_neg (by omega), if_pos (by omega), Nat.add_sub_cancel_left]
theorem siA_B {h0 q1 q2 q3 i : Nat} {ad bd gd : Nat → Nat} (hi : i < 3) : siA h0 q1 q2 q3 ad bd gd (14 + i) = bd i := by
  unfold siA
  rw [if_neg (by omega), if_neg (by omega), if_neg (by omega), if_neg (by omega), if_neg (by omega), if_pos (by omega), Nat.add_sub_cancel_left]
theorem siA_G {h0 q1 q2 q3 i : Nat} {ad bd gd : Nat → Nat} : siA h0 q1 q2 q3 ad bd gd (17 + i) = gd i := by
  unfold siA
  rw [if_neg (by omega), if_neg (by omega), if_neg (by omega), if_neg (by omega), if_neg (by omega), if_neg (by omega), Nat.add_sub_cancel_left]
theorem siW_L {y : Nat → ClassId} {h0 q1 q2 q3 i : Nat} {fL fB fG : Nat → Option Nat} {ad bd gd : Nat → Nat} (hi : i < 10) : (siW y h0 q1 q2 q3 fL fB fG ((thg ad elL 10 ++ thg bd elB 3) ++ thg gd elG 3))[4 + i]? = some (siA h0 q1 q2 q3 ad bd gd (4 + i), elL i) := by
  rw [siA_L hi, Nat.add_comm, siW_4, List.append_assoc, List.getElem?_append_left (by rw [thg_len]; exact hi), thg_get hi]
theorem siW_B {y : Nat → ClassId} {h0 q1 q2 q3 i : Nat} {fL fB fG : Nat → Option Nat} {ad bd gd : Nat → Nat} (hi : i < 3) : (siW y h0 q1 q2 q3 fL fB fG ((thg ad elL 10 ++ thg bd elB 3) ++ thg gd elG 3))[14 + i]? = some (siA h0 q1 q2 q3 ad bd gd (14 + i), elB i) := by
  rw [siA_B hi, show 14 + i = (10 + i) + 4 by omega, siW_4, List.append_assoc, List.getElem?_append_right (by rw [thg_len]; omega), thg_len, Nat.add_sub_cancel_left, List.getElem?_append_left (by rw [thg_len]; exact hi), thg_get hi]
theorem siW_G {y : Nat → ClassId} {h0 q1 q2 q3 i : Nat} {fL fB fG : Nat → Option Nat} {ad bd gd : Nat → Nat} (hi : i < 3) : (siW y h0 q1 q2 q3 fL fB fG ((thg ad elL 10 ++ thg bd elB 3) ++ thg gd elG 3))[17 + i]? = some (siA h0 q1 q2 q3 ad bd gd (17 + i), elG i) := by
  rw [siA_G, show 17 + i = (13 + i) + 4 by omega, siW_4, List.getElem?_append_right (by rw [List.length_append, thg_len, thg_len]; omega), List.length_append, thg_len, thg_len, Nat.add_sub_cancel_left, thg_get hi]
theorem siW_key {y : Nat → ClassId} {h0 q1 q2 q3 k : Nat} {fL fB fG : Nat → Option Nat} {ad bd gd : Nat → Nat} (hk : k < 20) : ∃ e, (siW y h0 q1 q2 q3 fL fB fG ((thg ad elL 10 ++ thg bd elB 3) ++ thg gd elG 3))[k]? = some (siA h0 q1 q2 q3 ad bd gd k, e) := by
  rcases siW_c hk with rfl | rfl | rfl | rfl | ⟨i, hi, rfl⟩ | ⟨i, hi, rfl⟩ | ⟨i, hi, rfl⟩
  · exact ⟨_, rfl⟩
  · exact ⟨_, rfl⟩
  · exact ⟨_, rfl⟩
  · exact ⟨_, rfl⟩
  · exact ⟨_, siW_L hi⟩
  · exact ⟨_, siW_B hi⟩
  · exact ⟨_, siW_G hi⟩
theorem siW_CW {G : WG} {h0 q1 q2 q3 : Nat} {ad bd gd : Nat → Nat} {H : Heap} (hP : va_P G.1 vwCl (siW G.2 h0 q1 q2 q3 (rfs ad 10) (rfs bd 3) (rfs gd 3) ((thg ad elL 10 ++ thg bd elB 3) ++ thg gd elG 3)) H) : wC G (siA h0 q1 q2 q3 ad bd gd) CS0 H := by
  intro k q hq
  obtain ⟨hk, rfl⟩ := wl_at hq
  have arr : ∀ (q cA n : Nat) (f g : Nat → Option Nat), (∀ i, i < n → f i = g i) → va_at G.1 vwCl (q, .inl (cA, n, .inr (.inr (.inr (.inr f))))) H → va_at G.1 vwCl (q, .inl (cA, n, .inr (.inr (.inr (.inr g))))) H := by
    intro q cA n f g hfg h
    have h : H[q]? = some (arrV cA n (fun j => va_rf (f j))) := h
    show H[q]? = some (arrV cA n (fun j => va_rf (g j)))
    rw [h]
    unfold arrV
    congr 2
    congr 1
    funext j
    rw [hfg j.val j.isLt]
  rcases siW_c hk with rfl | rfl | rfl | rfl | ⟨i, hi, rfl⟩ | ⟨i, hi, rfl⟩ | ⟨i, hi, rfl⟩
  · have h := hP 0 (h0, .inr (3, rw1 16 (siF q1 q2 q3))) rfl
    rw [rw1_congr (g := cfM (siA h0 q1 q2 q3 ad bd gd) CS0) (fun j hj => by
      rcases (show j = 0 ∨ j = 1 ∨ j = 2 ∨ 3 ≤ j by omega) with rfl | rfl | rfl | z
      · rfl
      · rfl
      · rfl
      · unfold siF cfM CS0
        rw [if_neg (by omega), if_neg (by omega), if_neg (by omega), if_neg (by omega)]
        show _ = Value.int (if j = 6 then 1 else if j = 9 then 2 else if j = 10 then 1 else if j = 11 then -1 else 0)
        repeat' split
        all_goals rfl)] at h
    exact h
  · exact arr q1 (G.2 2) 10 (rfs ad 10) (fun i => some (siA h0 q1 q2 q3 ad bd gd (4 + i))) (fun i hi => by rw [siA_L hi]; unfold rfs; rw [if_pos hi]) (hP 1 _ rfl)
  · exact arr q2 (G.2 3) 3 (rfs bd 3) (fun i => some (siA h0 q1 q2 q3 ad bd gd (14 + i))) (fun i hi => by rw [siA_B hi]; unfold rfs; rw [if_pos hi]) (hP 2 _ rfl)
  · exact arr q3 (G.2 4) 3 (rfs gd 3) (fun i => some (siA h0 q1 q2 q3 ad bd gd (17 + i))) (fun i hi => by rw [siA_G]; unfold rfs; rw [if_pos hi]) (hP 3 _ rfl)
  · have h := hP _ _ (siW_L hi)
    rw [show cE G.2 (siA h0 q1 q2 q3 ad bd gd) CS0 (4 + i) = elL i from cE_L hi]
    exact h
  · have h := hP _ _ (siW_B hi)
    rw [show cE G.2 (siA h0 q1 q2 q3 ad bd gd) CS0 (14 + i) = elB i from cE_B hi]
    exact h
  · have h := hP _ _ (siW_G hi)
    rw [show cE G.2 (siA h0 q1 q2 q3 ad bd gd) CS0 (17 + i) = elG i from cE_G]
    exact h
theorem X3i_end {p : Program} {l : Launch} {e : Env} {R : Room} {s : State} {m : MethodId} {below : List Frame} {meth : Method} {c : Code} {H : Heap} {locs : List Loc} {cc : ByteArray} {pc : Nat} {ls : Array Slot} {G : WG} {h0 q1 q2 q3 : Nat} {ad bd gd : Nat → Nat} {args : Array Value}
    (hx : p.tables.exec = Jvm.exec) (hb : c.code = cc) (hr : meth.sig.returnType = none) (hlocks : meth.locks = false) (hdg : decode cc pc = .ok (.return_, 1))
    (hP : va_P G.1 vwCl (siW G.2 h0 q1 q2 q3 (rfs ad 10) (rfs bd 3) (rfs gd 3) ((thg ad elL 10 ++ thg bd elB 3) ++ thg gd elG 3)) H) (hD : va_D (va_A [(h0, .inr (3, rw1 16 siN))] s.heap.size) (siW G.2 h0 q1 q2 q3 (rfs ad 10) (rfs bd 3) (rfs gd 3) ((thg ad elL 10 ++ thg bd elB 3) ++ thg gd elG 3))) (hS : va_S (va_A [(h0, .inr (3, rw1 16 siN))] s.heap.size) s.heap H locs) :
    W p l e R s m args below meth c H locs 19 139 (MQ below (va_Qv (fun a : Nat → Nat => a 0 = h0 ∧ wInj 20 a ∧ ∀ q, 1 ≤ q → q < 20 → s.heap.size ≤ a q) (fun a t => wC G a CS0 t.heap) (va_A [(h0, .inr (3, rw1 16 siN))] s.heap.size)) args s 19 139 (va_A [(h0, .inr (3, rw1 16 siN))] s.heap.size)) (F0 m pc ls []) := by
  have hC := siW_CW hP
  have hinj : wInj 20 (siA h0 q1 q2 q3 ad bd gd) := fun i j hi hj e => by
    obtain ⟨e1, h1⟩ := siW_key (y := G.2) (h0 := h0) (q1 := q1) (q2 := q2) (q3 := q3) (fL := rfs ad 10) (fB := rfs bd 3) (fG := rfs gd 3) (ad := ad) (bd := bd) (gd := gd) hi
    obtain ⟨e2, h2⟩ := siW_key (y := G.2) (h0 := h0) (q1 := q1) (q2 := q2) (q3 := q3) (fL := rfs ad 10) (fB := rfs bd 3) (fG := rfs gd 3) (ad := ad) (bd := bd) (gd := gd) hj
    exact hD.1 i j _ _ h1 h2 e
  have hfr : ∀ q, q < 20 → va_A [(h0, .inr (3, rw1 16 siN))] s.heap.size (siA h0 q1 q2 q3 ad bd gd q) := fun q hq => by
    obtain ⟨e1, h1⟩ := siW_key (y := G.2) (h0 := h0) (q1 := q1) (q2 := q2) (q3 := q3) (fL := rfs ad 10) (fB := rfs bd 3) (fG := rfs gd 3) (ad := ad) (bd := bd) (gd := gd) hq
    exact hD.2 q _ h1
  have h0a : siA h0 q1 q2 q3 ad bd gd 0 = h0 := rfl
  generalize siA h0 q1 q2 q3 ad bd gd = a at hC hinj hfr h0a
  refine W.vret hx hb hr (fun t ht hW => ⟨⟨a, rfl, ⟨h0a, hinj, fun q h1 h2 => ?_⟩, by show va_P _ _ _ _; rw [ht]; exact hC⟩, hS.F ht⟩) hS.2.2 hdg hlocks
  rcases hfr q h2 with ⟨k9, e9, h9⟩ | h9
  · exfalso
    have hk : k9 = 0 := by
      have := (List.getElem?_eq_some_iff.mp h9).1
      simp at this
      exact this
    subst hk
    have e : h0 = a q := (Prod.mk.inj (Option.some.inj h9)).1
    have := hinj 0 q (by omega) h2 (by rw [h0a, e])
    omega
  · exact h9
