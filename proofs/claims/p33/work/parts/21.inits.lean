/-! ===== the site's constructor ===== -/
abbrev wC0 (G : WG) (a : Nat → Nat) (S : CS) (H : Heap) : Prop := va_P G.1 vwCl (wl 20 a (cE G.2 a S)) H
def rfs (ad : Nat → Nat) (k : Nat) : Nat → Option Nat := fun i => if i < k then some (ad i) else none
theorem rfs_up {ad : Nat → Nat} {k q : Nat} : va_up (rfs ad k) k (some q) = rfs (va_up ad k q) (k + 1) := by
  funext i
  show (if i = k then some q else if i < k then some (ad i) else none) = if i < k + 1 then some (if i = k then q else ad i) else none
  by_cases h : i = k
  · rw [if_pos h, if_pos (by omega), if_pos h]
  · rw [if_neg h, if_neg h]
    by_cases h2 : i < k
    · rw [if_pos h2, if_pos (by omega)]
    · rw [if_neg h2, if_neg (by omega)]
theorem rfs_0 {ad : Nat → Nat} : (fun _ => none) = rfs ad 0 := by
  funext i
  unfold rfs
  rw [if_neg (by omega)]
def thg (ad : Nat → Nat) (el : Nat → va_E) (k : Nat) : va_W := (List.range k).map fun i => (ad i, el i)
theorem thg_up {ad : Nat → Nat} {el : Nat → va_E} {k q : Nat} : thg ad el k ++ [(q, el k)] = thg (va_up ad k q) el (k + 1) := by
  unfold thg
  rw [List.range_succ, List.map_append]
  congr 1
  · exact List.map_congr_left (fun i hi => by
      have h := List.mem_range.mp hi
      unfold va_up
      rw [if_neg (by omega)])
  · unfold va_up
    simp
theorem thg_len {ad : Nat → Nat} {el : Nat → va_E} {k : Nat} : (thg ad el k).length = k := by simp [thg]
def CS0 : CS := (fun j => if j = 6 then 1 else if j = 9 then 2 else if j = 10 then 1 else if j = 11 then -1 else 0, fun i j => if j = 0 then nI i else 0, fun _ _ => 0, fun _ _ => 0)
def elL (i : Nat) : va_E := .inr (2, rw1 6 (fun j => .int (CS0.2.1 i j)))
def elB (i : Nat) : va_E := .inr (0, rw1 6 (fun j => .int (CS0.2.2.1 i j)))
def elG (i : Nat) : va_E := .inr (1, rw1 15 (fun j => .int (CS0.2.2.2 i j)))
theorem thg_get {ad : Nat → Nat} {el : Nat → va_E} {k i : Nat} (h : i < k) : (thg ad el k)[i]? = some (ad i, el i) := by
  unfold thg
  rw [List.getElem?_map, List.getElem?_range h]
  rfl
def siF (q1 q2 q3 : Nat) (j : Nat) : Value := if j = 0 then .ref q1 else if j = 1 then .ref q2 else if j = 2 then .ref q3 else if j = 6 then .int 1 else if j = 9 then .int 2 else if j = 10 then .int 1 else if j = 11 then .int (-1) else .int 0
def siN (j : Nat) : Value := if j < 3 then .null else .int 0
def siW (y : Nat → ClassId) (h0 q1 q2 q3 : Nat) (fL fB fG : Nat → Option Nat) (ls : va_W) : va_W := (h0, .inr (3, rw1 16 (siF q1 q2 q3))) :: (q1, .inl (y 2, 10, .inr (.inr (.inr (.inr fL))))) :: (q2, .inl (y 3, 3, .inr (.inr (.inr (.inr fB))))) :: (q3, .inl (y 4, 3, .inr (.inr (.inr (.inr fG))))) :: ls
/-- the words of a construction that aren't kept word by word -/
def iEnv (U : State) : Prop := va_AO RX2 U ∧ va_AO RX0 U ∧ va_AO RX1 U ∧ va_Nw (.methodLinkNest RX3 44 yX0_init RX3) U ∧ va_Nw (.methodLinkNest RX3 45 yX1_init RX3) U
theorem va_P_eq {D : va_G} {cl : List vw_C} {ws ws' : va_W} {H : Heap} (h : ws = ws') (hP : va_P D cl ws H) : va_P D cl ws' H := h ▸ hP
theorem siW_4 {y : Nat → ClassId} {h0 q1 q2 q3 i : Nat} {fL fB fG : Nat → Option Nat} {ls : va_W} : (siW y h0 q1 q2 q3 fL fB fG ls)[i + 4]? = ls[i]? := by
  unfold siW
  rw [List.getElem?_cons_succ, List.getElem?_cons_succ, List.getElem?_cons_succ, List.getElem?_cons_succ]
theorem siW_c {k : Nat} (hk : k < 20) : k = 0 ∨ k = 1 ∨ k = 2 ∨ k = 3 ∨ (∃ i, i < 10 ∧ k = 4 + i) ∨ (∃ i, i < 3 ∧ k = 14 + i) ∨ (∃ i, i < 3 ∧ k = 17 + i) := by
  rcases Nat.lt_or_ge k 4 with z | z
  · omega
  · rcases Nat.lt_or_ge k 14 with z2 | z2
    · exact Or.inr (Or.inr (Or.inr (Or.inr (Or.inl ⟨k - 4, by omega, by omega⟩))))
    · rcases Nat.lt_or_ge k 17 with z3 | z3
      · exact Or.inr (Or.inr (Or.inr (Or.inr (Or.inr (Or.inl ⟨k - 14, by omega, by omega⟩)))))
      · exact Or.inr (Or.inr (Or.inr (Or.inr (Or.inr (Or.inr ⟨k - 17, by omega, by omega⟩)))))
def siA (h0 q1 q2 q3 : Nat) (ad bd gd : Nat → Nat) (q : Nat) : Nat := if q = 0 then h0 else if q = 1 then q1 else if q = 2 then q2 else if q = 3 then q3 else if q < 14 then ad (q - 4) else if q < 17 then bd (q - 14) else gd (q - 17)
theorem siA_L {h0 q1 q2 q3 i : Nat} {ad bd gd : Nat → Nat} (hi : i < 10) : siA h0 q1 q2 q3 ad bd gd (4 + i) = ad i := by
  unfold siA
  rw [if_neg (by omega), if_neg (by omega), if_neg (by omega), if_neg (by omega), if_pos (by omega), Nat.add_sub_cancel_left]
theorem siA_B {h0 q1 q2 q3 i : Nat} {ad bd gd : Nat → Nat} (hi : i < 3) : siA h0 q1 q2 q3 ad bd gd (14 + i) = bd i := by
  unfold siA
  rw [if_neg (by omega), if_neg (by omega), if_neg (by omega), if_neg (by omega), if_neg (by omega), if_pos (by omega), Nat.add_sub_cancel_left]
theorem siA_G {h0 q1 q2 q3 i : Nat} {ad bd gd : Nat → Nat} : siA h0 q1 q2 q3 ad bd gd (17 + i) = gd i := by
  unfold siA
  rw [if_neg (by omega), if_neg (by omega), if_neg (by omega), if_neg (by omega), if_neg (by omega), if_neg (by omega), Nat.add_sub_cancel_left]
theorem siW_L {y : Nat → ClassId} {h0 q1 q2 q3 i : Nat} {fL fB fG : Nat → Option Nat} {ad bd gd : Nat → Nat} (hi : i < 10) : (siW y h0 q1 q2 q3 fL fB fG ((thg ad elL 10 ++ thg bd elB 3) ++ thg gd elG 3))[4 + i]? = some (siA h0 q1 q2 q3 ad bd gd (4 + i), elL i) := by
  rw [siA_L hi, Nat.add_comm, siW_4, List.append_assoc, List.getElem?_append_left (by rw [thg_len]; exact hi), thg_get hi]
theorem siW_B {y : Nat → ClassId} {h0 q1 q2 q3 i : Nat} {fL fB fG : Nat → Option Nat} {ad bd gd : Nat → Nat} (hi : i < 3) : (siW y h0 q1 q2 q3 fL fB fG ((thg ad elL 10 ++ thg bd elB 3) ++ thg gd elG 3))[14 + i]? = some (siA h0 q1 q2 q3 ad bd gd (14 + i), elB i) := by
  rw [siA_B hi, show 14 + i = (10 + i) + 4 by omega, siW_4, List.append_assoc, List.getElem?_append_right (by rw [thg_len]; omega), thg_len, Nat.add_sub_cancel_left, List.getElem?_append_left (by rw [thg_len]; exact hi), thg_get hi]
theorem siW_G {y : Nat → ClassId} {h0 q1 q2 q3 i : Nat} {fL fB fG : Nat → Option Nat} {ad bd gd : Nat → Nat} (hi : i < 3) : (siW y h0 q1 q2 q3 fL fB fG ((thg ad elL 10 ++ thg bd elB 3) ++ thg gd elG 3))[17 + i]? = some (siA h0 q1 q2 q3 ad bd gd (17 + i), elG i) := by
  rw [siA_G, show 17 + i = (13 + i) + 4 by omega, siW_4, List.getElem?_append_right (by rw [List.length_append, thg_len, thg_len]; omega), List.length_append, thg_len, thg_len, Nat.add_sub_cancel_left, thg_get hi]
theorem siW_key {y : Nat → ClassId} {h0 q1 q2 q3 k : Nat} {fL fB fG : Nat → Option Nat} {ad bd gd : Nat → Nat} (hk : k < 20) : ∃ e, (siW y h0 q1 q2 q3 fL fB fG ((thg ad elL 10 ++ thg bd elB 3) ++ thg gd elG 3))[k]? = some (siA h0 q1 q2 q3 ad bd gd k, e) := by
  rcases siW_c hk with rfl | rfl | rfl | rfl | ⟨i, hi, rfl⟩ | ⟨i, hi, rfl⟩ | ⟨i, hi, rfl⟩
  · exact ⟨_, rfl⟩
  · exact ⟨_, rfl⟩
  · exact ⟨_, rfl⟩
  · exact ⟨_, rfl⟩
  · exact ⟨_, siW_L hi⟩
  · exact ⟨_, siW_B hi⟩
  · exact ⟨_, siW_G hi⟩
theorem siW_CW {G : WG} {h0 q1 q2 q3 : Nat} {ad bd gd : Nat → Nat} {H : Heap} (hP : va_P G.1 vwCl (siW G.2 h0 q1 q2 q3 (rfs ad 10) (rfs bd 3) (rfs gd 3) ((thg ad elL 10 ++ thg bd elB 3) ++ thg gd elG 3)) H) : wC0 G (siA h0 q1 q2 q3 ad bd gd) CS0 H := by
  intro k q hq
  obtain ⟨hk, rfl⟩ := wl_at hq
  have arr : ∀ (q cA n : Nat) (f g : Nat → Option Nat), (∀ i, i < n → f i = g i) → va_at G.1 vwCl (q, .inl (cA, n, .inr (.inr (.inr (.inr f))))) H → va_at G.1 vwCl (q, .inl (cA, n, .inr (.inr (.inr (.inr g))))) H := by
    intro q cA n f g hfg h
    have h : H[q]? = some (arrV cA n (fun j => va_rf (f j))) := h
    show H[q]? = some (arrV cA n (fun j => va_rf (g j)))
    rw [h]
    unfold arrV
    congr 2
    congr 1
    funext j
    show va_rf (f j.val) = va_rf (g j.val)
    rw [hfg j.val j.isLt]
  rcases siW_c hk with rfl | rfl | rfl | rfl | ⟨i, hi, rfl⟩ | ⟨i, hi, rfl⟩ | ⟨i, hi, rfl⟩
  · have h := hP 0 (h0, .inr (3, rw1 16 (siF q1 q2 q3))) rfl
    rw [rw1_congr (g := cfM (siA h0 q1 q2 q3 ad bd gd) CS0) (fun j hj => by
      rcases (show j = 0 ∨ j = 1 ∨ j = 2 ∨ 3 ≤ j by omega) with rfl | rfl | rfl | z
      · rfl
      · rfl
      · rfl
      · unfold siF cfM CS0
        rw [if_neg (show ¬ j = 0 by omega), if_neg (show ¬ j = 1 by omega), if_neg (show ¬ j = 2 by omega), if_neg (show ¬ j < 3 by omega)]
        show _ = Value.int (if j = 6 then 1 else if j = 9 then 2 else if j = 10 then 1 else if j = 11 then -1 else 0)
        repeat' split
        all_goals rfl)] at h
    exact h
  · exact arr q1 (G.2 2) 10 (rfs ad 10) (fun i => some (siA h0 q1 q2 q3 ad bd gd (4 + i))) (fun i hi => by rw [siA_L hi]; unfold rfs; rw [if_pos hi]) (hP 1 _ rfl)
  · exact arr q2 (G.2 3) 3 (rfs bd 3) (fun i => some (siA h0 q1 q2 q3 ad bd gd (14 + i))) (fun i hi => by rw [siA_B hi]; unfold rfs; rw [if_pos hi]) (hP 2 _ rfl)
  · exact arr q3 (G.2 4) 3 (rfs gd 3) (fun i => some (siA h0 q1 q2 q3 ad bd gd (17 + i))) (fun i hi => by rw [siA_G]; unfold rfs; rw [if_pos hi]) (hP 3 _ rfl)
  · have h := hP _ _ (siW_L hi)
    rw [show cE G.2 (siA h0 q1 q2 q3 ad bd gd) CS0 (4 + i) = elL i from cE_L hi]
    exact h
  · have h := hP _ _ (siW_B hi)
    rw [show cE G.2 (siA h0 q1 q2 q3 ad bd gd) CS0 (14 + i) = elB i from cE_B hi]
    exact h
  · have h := hP _ _ (siW_G hi)
    rw [show cE G.2 (siA h0 q1 q2 q3 ad bd gd) CS0 (17 + i) = elG i from cE_G hi]
    exact h
theorem X3i_end {p : Program} {l : Launch} {e : Env} {R : Room} {s : State} {m : MethodId} {below : List Frame} {meth : Method} {c : Code} {H : Heap} {locs : List Loc} {cc : ByteArray} {pc : Nat} {ls : Array Slot} {G : WG} {h0 q1 q2 q3 : Nat} {ad bd gd : Nat → Nat} {args : Array Value}
    (hx : p.tables.exec = Jvm.exec) (hb : c.code = cc) (hr : meth.sig.returnType = none) (hlocks : meth.locks = false) (hdg : decode cc pc = .ok (.return_, 1))
    (hP : va_P G.1 vwCl (siW G.2 h0 q1 q2 q3 (rfs ad 10) (rfs bd 3) (rfs gd 3) ((thg ad elL 10 ++ thg bd elB 3) ++ thg gd elG 3)) H) (hD : va_D (va_A [(h0, .inr (3, rw1 16 siN))] s.heap.size) (siW G.2 h0 q1 q2 q3 (rfs ad 10) (rfs bd 3) (rfs gd 3) ((thg ad elL 10 ++ thg bd elB 3) ++ thg gd elG 3))) (hS : va_S (va_A [(h0, .inr (3, rw1 16 siN))] s.heap.size) s.heap H locs) :
    W p l e R s m args below meth c H locs 19 139 (MQ below (va_Qv (fun a : Nat → Nat => a 0 = h0 ∧ wInj 20 a ∧ ∀ q, 1 ≤ q → q < 20 → s.heap.size ≤ a q) (fun a t => wC0 G a CS0 t.heap) (va_A [(h0, .inr (3, rw1 16 siN))] s.heap.size)) args s 19 139 (va_A [(h0, .inr (3, rw1 16 siN))] s.heap.size)) (F0 m pc ls []) := by
  have hC := siW_CW hP
  have hinj : wInj 20 (siA h0 q1 q2 q3 ad bd gd) := fun i j hi hj e => by
    obtain ⟨e1, h1⟩ := siW_key (y := G.2) (h0 := h0) (q1 := q1) (q2 := q2) (q3 := q3) (fL := rfs ad 10) (fB := rfs bd 3) (fG := rfs gd 3) (ad := ad) (bd := bd) (gd := gd) hi
    obtain ⟨e2, h2⟩ := siW_key (y := G.2) (h0 := h0) (q1 := q1) (q2 := q2) (q3 := q3) (fL := rfs ad 10) (fB := rfs bd 3) (fG := rfs gd 3) (ad := ad) (bd := bd) (gd := gd) hj
    exact hD.1 i j _ _ h1 h2 e
  have hfr : ∀ q, q < 20 → va_A [(h0, .inr (3, rw1 16 siN))] s.heap.size (siA h0 q1 q2 q3 ad bd gd q) := fun q hq => by
    obtain ⟨e1, h1⟩ := siW_key (y := G.2) (h0 := h0) (q1 := q1) (q2 := q2) (q3 := q3) (fL := rfs ad 10) (fB := rfs bd 3) (fG := rfs gd 3) (ad := ad) (bd := bd) (gd := gd) hq
    exact hD.2 q _ h1
  have h0a : siA h0 q1 q2 q3 ad bd gd 0 = h0 := rfl
  generalize siA h0 q1 q2 q3 ad bd gd = a at hC hinj hfr h0a
  refine W.vret hx hb hr (fun t ht hW => ⟨⟨a, rfl, ⟨h0a, hinj, fun q h1 h2 => ?_⟩, by show va_P _ _ _ _; rw [ht]; exact hC⟩, hS.F ht⟩) hS.2.2 hdg hlocks
  rcases hfr q h2 with ⟨k9, e9, h9⟩ | h9
  · exfalso
    have hk : k9 = 0 := by
      have := (List.getElem?_eq_some_iff.mp h9).1
      simp at this
      exact this
    subst hk
    have e : h0 = a q := (Prod.mk.inj (Option.some.inj h9)).1
    have := hinj 0 q (by omega) h2 (by rw [h0a, e])
    omega
  · exact h9
set_option maxHeartbeats 8000000 in
set_option maxRecDepth 100000 in
theorem c_X3_init (l : Launch) (G : WG) (h0 : Nat) (sz : Nat) : Met l yX3_init wsX3_init ({ frames := 2, cells := 19, slots := 139, locals := 41 }) (va_Pc [.ref h0] (fun U => U.heap.size = sz ∧ va_P G.1 vwCl [(h0, .inr (3, rw1 16 siN))] U.heap ∧ wK G U ∧ iEnv U)) (va_Qv (fun a : Nat → Nat => a 0 = h0 ∧ wInj 20 a ∧ ∀ q, 1 ≤ q → q < 20 → sz ≤ a q) (fun a t => wC0 G a CS0 t.heap) (va_A [(h0, .inr (3, rw1 16 siN))] sz)) 19 139 (va_A [(h0, .inr (3, rw1 16 siN))] sz) := by
  refine Met.ofW (cc := cX3_init) (maxL := 2) (ret := none) (by decide) rfl ?_
  intro p e s m args below meth c s₁ B hml hv
  obtain ⟨rfl, rfl, hP, hK, hAL, hAB, hAG, hNB, hNG⟩ := hv
  have hx := B.exec
  have hb := B.bytes
  have hr := B.returns
  have hts := atoms_spec (ws := wsX3_init) B.pre
  have hown : s.vm.findClass RX3 = some m.cls := findClass_of_methodNamed B.named
  have hlocks := B.notSynchronized
  have hin : meth.name = "<init>" := (name_of_methodNamed B.named B.method).1
  have hD0 : va_D (fun _ => True) [(h0, (.inr (3, rw1 16 siN) : va_E))] := ⟨fun i j p q hp hq _ => by
    have h1 := (List.getElem?_eq_some_iff.mp hp).1
    have h2 := (List.getElem?_eq_some_iff.mp hq).1
    simp at h1 h2
    omega, fun _ _ _ => trivial⟩
  have hD := hD0.self (sz := s.heap.size)
  have hA : ∀ q : Nat, s.heap.size ≤ q → va_A [(h0, .inr (3, rw1 16 siN))] s.heap.size q := fun q h => Or.inr h
  have hS : va_S (va_A [(h0, .inr (3, rw1 16 siN))] s.heap.size) s.heap s.heap [] := va_S.rf
  have hw3 : ∀ w ∈ wsX30, w.before ([.ref h0] : List Value).toArray s = true := fun w hw => hts w ((by decide +kernel : ∀ w ∈ wsX30, w ∈ wsX3_init) w hw)
  have hw0 : ∀ w ∈ wsX00, w.before ([.ref h0] : List Value).toArray s = true := fun w hw => hts w ((by decide +kernel : ∀ w ∈ wsX00, w ∈ wsX3_init) w hw)
  have hw1 : ∀ w ∈ wsX10, w.before ([.ref h0] : List Value).toArray s = true := fun w hw => hts w ((by decide +kernel : ∀ w ∈ wsX10, w ∈ wsX3_init) w hw)
  have hw2 : ∀ w ∈ wsX20, w.before ([.ref h0] : List Value).toArray s = true := fun w hw => hts w ((by decide +kernel : ∀ w ∈ wsX20, w ∈ wsX3_init) w hw)
  have hl := lv_entry ([.ref h0]) (n := 2) (Nat.le_of_ble_eq_true rfl)
  rw [lg_entry_eq]
  generalize (lg_sl ([.ref h0] : List Value) ++ List.replicate (2 - (lg_sl ([.ref h0] : List Value)).length) Slot.unset).toArray = ls at hl ⊢
  have hl : lv_has ls 2 [(0, .ref h0)] := hl
  show W p l e ({ frames := 2, cells := 19, slots := 139, locals := 41 } : Room) s m ([.ref h0] : List Value).toArray below meth c s.heap [] 0 0 (MQ below (va_Qv (fun a : Nat → Nat => a 0 = h0 ∧ wInj 20 a ∧ ∀ q, 1 ≤ q → q < 20 → s.heap.size ≤ a q) (fun a t => wC0 G a CS0 t.heap) (va_A [(h0, .inr (3, rw1 16 siN))] s.heap.size)) ([.ref h0] : List Value).toArray s 19 139 (va_A [(h0, .inr (3, rw1 16 siN))] s.heap.size)) (F0 m 0 ls [])
  have L112 : ∀ (q1 q2 q3 : Nat) (ad : Nat → Nat) (bd : Nat → Nat) (q k : Nat) (gd : Nat → Nat), k ≤ 3 → 3 < k + q → ∀ (H : Heap) (locs : List Loc) (ls : Array Slot), va_P G.1 vwCl (siW G.2 h0 q1 q2 q3 (rfs ad 10) (rfs bd 3) (rfs gd k) ((thg ad elL 10 ++ thg bd elB 3) ++ thg gd elG k)) H → va_D (va_A [(h0, .inr (3, rw1 16 siN))] s.heap.size) (siW G.2 h0 q1 q2 q3 (rfs ad 10) (rfs bd 3) (rfs gd k) ((thg ad elL 10 ++ thg bd elB 3) ++ thg gd elG k)) → va_S (va_A [(h0, .inr (3, rw1 16 siN))] s.heap.size) s.heap H locs → lv_has ls 2 [(0, .ref h0), (1, .int (nI k))] → W p l e ({ frames := 2, cells := 19, slots := 139, locals := 41 } : Room) s m ([.ref h0] : List Value).toArray below meth c H locs (16 + k) (94 + 15 * k) (MQ below (va_Qv (fun a : Nat → Nat => a 0 = h0 ∧ wInj 20 a ∧ ∀ q, 1 ≤ q → q < 20 → s.heap.size ≤ a q) (fun a t => wC0 G a CS0 t.heap) (va_A [(h0, .inr (3, rw1 16 siN))] s.heap.size)) ([.ref h0] : List Value).toArray s 19 139 (va_A [(h0, .inr (3, rw1 16 siN))] s.heap.size)) (F0 m 112 ls []) := by
    intro q1 q2 q3 ad bd q
    induction q with
    | zero => intro k gd h1 h2; omega
    | succ q ih =>
      intro k gd h1 h2 H locs ls hP hD hS hl
      refine lv_iload_n hx hb dX3_init_112 rfl (lv_at hl 1 rfl) ?_
      refine lv_aload_n hx hb dX3_init_113 rfl (lv_at hl 0 rfl) ?_
      refine va_get (D := G.1) (ci := 3) (v := .ref q3) (C := RX3) (T := TX3) (N := 16) hx hb hw3 (fun _ h => h) hown hK hP 0 rfl rfl 2 (by decide) (hts (.fieldLink RX3 23 "BackupPower" "generators" "[LBackupPower$Generator;") (by decide +kernel)) (fun _ h9 => h9) rfl dX3_init_114 ?_
      refine va_alen (D := G.1) (v := nI 3) hx hb hK hP 3 4 rfl rfl rfl dX3_init_117 ?_
      refine lv_icmp_ge (tgt := 140) hx hb dX3_init_118 (by decide) (fun c9 => ?_) (fun c9 => ?_)
      · have c8 : 3 ≤ k := (nI_leI (a := 3) (b := k) (by omega) (by omega)).mp c9
        have ek : k = 3 := by omega
        subst ek
        exact X3i_end hx hb hr hlocks dX3_init_140 hP hD hS
      · have c8 : k < 3 := by
          rcases Nat.lt_or_ge k 3 with z | z
          · exact z
          · exact absurd ((nI_leI (a := 3) (b := k) (by omega) (by omega)).mpr z) c9
        refine lv_aload_n hx hb dX3_init_121 rfl (lv_at hl 0 rfl) ?_
        refine va_get (D := G.1) (ci := 3) (v := .ref q3) (C := RX3) (T := TX3) (N := 16) hx hb hw3 (fun _ h => h) hown hK hP 0 rfl rfl 2 (by decide) (hts (.fieldLink RX3 23 "BackupPower" "generators" "[LBackupPower$Generator;") (by decide +kernel)) (fun _ h9 => h9) rfl dX3_init_122 ?_
        refine lv_iload_n hx hb dX3_init_125 rfl (lv_at hl 1 rfl) ?_
        refine va_new (ci := 1) (fs := rw1 15 (fun _ => .int 0)) (C := RX1) (T := TX1) (N := 15) hx hb hw1 (fun _ h => h) tyX1 tyX1_ok hown (hts (.classLink RX3 21 RX1) (by decide +kernel)) (hts (.instantiable RX1 15) (by decide +kernel)) (hts (.initialized RX1) (by decide +kernel)) hK hP hD hS hA rfl (by decide +kernel) (by show _ ≤ 19; omega) (by show _ ≤ 139; omega) dX3_init_126 (fun qn H hP hD hS => ?_)
        refine lv_dup hx hb dX3_init_129 rfl ?_
        have hF : ∀ q, va_A ((siW G.2 h0 q1 q2 q3 (rfs ad 10) (rfs bd 3) (rfs gd k) ((thg ad elL 10 ++ thg bd elB 3) ++ thg gd elG k)) ++ [(qn, .inr (1, rw1 15 (fun _ => .int 0)))]) H.size q → va_A [(h0, .inr (3, rw1 16 siN))] s.heap.size q := fun q h => h.elim (fun ⟨k9, e9, h9⟩ => hD.2 k9 (q, e9) h9) (fun h9 => hA q (Nat.le_trans hS.1 h9))
        refine va_callv (va_runIN (As := []) (rest := [.ref qn, .int (nI k), .ref q3]) ⟨hx, hb, hml, hown, hts⟩ (c_X1_init l G (siW G.2 h0 q1 q2 q3 (rfs ad 10) (rfs bd 3) (rfs gd k) ((thg ad elL 10 ++ thg bd elB 3) ++ thg gd elG k)) qn (fun _ => .int 0) H.size) ⟨va_cnB 0 hts gX3_init_X1_init_n45 rfl rfl rfl hNG (hts (.initialized RX1) (by decide +kernel)) (by decide +kernel) ⟨Nat.le_of_ble_eq_true rfl, Nat.le_of_ble_eq_true rfl⟩, rfl, hts (.instanceMethod yX1_init) (by decide +kernel)⟩ ⟨iPre_bl, fun U hU hW => ⟨rfl, by rw [hU], by rw [hU]; exact hP, va_K.moved hW.alike hK, hD.weaken (fun _ _ _ _ => trivial)⟩⟩ rfl rfl hl.1 rfl (lv_room (Nat.le_of_ble_eq_true rfl)) dX3_init_130 ⟨by show _ ≤ 19; omega, by show _ ≤ 139; omega⟩) hS (fun q _ h => hF q h) hF (fun u t H1 locs ht _ _ hB _ _ hS => ?_)
        have hP : va_P G.1 vwCl ((siW G.2 h0 q1 q2 q3 (rfs ad 10) (rfs bd 3) (rfs gd k) ((thg ad elL 10 ++ thg bd elB 3) ++ thg gd elG k)) ++ [(qn, elG k)]) H1 := by
          rw [← ht]
          refine va_P_eq ?_ hB
          show _ ++ [(qn, Sum.inr (1, rw1 15 (upv (fun _ => .int 0) 4 (.int 0))))] = _ ++ [(qn, Sum.inr (1, rw1 15 _))]
          rw [rw1_congr (n := 15) (f := upv (fun _ => .int 0) 4 (.int 0)) (g := fun j => .int (CS0.2.2.2 k j)) ?_]
          intro j _
          by_cases z9 : j = 4 <;> simp [upv, z9, CS0]
        have hD : va_D (va_A [(h0, .inr (3, rw1 16 siN))] s.heap.size) ((siW G.2 h0 q1 q2 q3 (rfs ad 10) (rfs bd 3) (rfs gd k) ((thg ad elL 10 ++ thg bd elB 3) ++ thg gd elG k)) ++ [(qn, elG k)]) := D_keys (by rw [List.map_append, List.map_append]; rfl) hD
        have hlen : (siW G.2 h0 q1 q2 q3 (rfs ad 10) (rfs bd 3) (rfs gd k) ((thg ad elL 10 ++ thg bd elB 3) ++ thg gd elG k)).length = 17 + k := by
          show ((_ : va_W) ).length + 1 + 1 + 1 + 1 = _
          simp only [List.length_append, thg_len]
          omega
        refine va_astq (D := G.1) (cl := vwCl) (r := (RX1, TX1, 15)) (n := 3) hx hb hK hP hD hS 3 4 (17 + k) 1 rfl rfl (by rw [← hlen]; exact ap_get) rfl (nI_ix c8 (by decide)) dX3_init_133 (fun H locs hP hD hS => ?_)
        rw [nI_cl c8 (by decide)] at hP hD
        refine lv_iinc (k := 1) (v := nI (k + 1)) (lv' := [(1, .int (nI (k + 1))), (0, .ref h0)]) hx hb dX3_init_134 hl rfl (nI_inc _) (by decide) rfl (fun ls hl => ?_)
        refine lv_goto (tgt := 112) hx hb dX3_init_137 (by decide) ?_
        have heq : ((siW G.2 h0 q1 q2 q3 (rfs ad 10) (rfs bd 3) (rfs gd k) ((thg ad elL 10 ++ thg bd elB 3) ++ thg gd elG k)) ++ [(qn, elG k)]).set 3 (q3, .inl (G.2 4, 3, .inr (.inr (.inr (.inr (va_up (rfs gd k) k (some qn))))))) = siW G.2 h0 q1 q2 q3 (rfs ad 10) (rfs bd 3) (rfs (va_up gd k qn) (k + 1)) ((thg ad elL 10 ++ thg bd elB 3) ++ thg (va_up gd k qn) elG (k + 1)) := by
          show siW G.2 h0 q1 q2 q3 (rfs ad 10) (rfs bd 3) (va_up (rfs gd k) k (some qn)) (((thg ad elL 10 ++ thg bd elB 3) ++ thg gd elG k) ++ [(qn, elG k)]) = _
          rw [rfs_up, List.append_assoc, thg_up]
        exact ih (k + 1) (va_up gd k qn) (by omega) (by omega) H locs ls (va_P_eq heq hP) (heq ▸ hD) hS (lv_sub hl [1, 0] rfl)
  have L82 : ∀ (q1 q2 q3 : Nat) (ad : Nat → Nat) (q k : Nat) (bd : Nat → Nat), k ≤ 3 → 3 < k + q → ∀ (H : Heap) (locs : List Loc) (ls : Array Slot), va_P G.1 vwCl (siW G.2 h0 q1 q2 q3 (rfs ad 10) (rfs bd k) (fun _ => none) (thg ad elL 10 ++ thg bd elB k)) H → va_D (va_A [(h0, .inr (3, rw1 16 siN))] s.heap.size) (siW G.2 h0 q1 q2 q3 (rfs ad 10) (rfs bd k) (fun _ => none) (thg ad elL 10 ++ thg bd elB k)) → va_S (va_A [(h0, .inr (3, rw1 16 siN))] s.heap.size) s.heap H locs → lv_has ls 2 [(0, .ref h0), (1, .int (nI k))] → W p l e ({ frames := 2, cells := 19, slots := 139, locals := 41 } : Room) s m ([.ref h0] : List Value).toArray below meth c H locs (13 + k) (76 + 6 * k) (MQ below (va_Qv (fun a : Nat → Nat => a 0 = h0 ∧ wInj 20 a ∧ ∀ q, 1 ≤ q → q < 20 → s.heap.size ≤ a q) (fun a t => wC0 G a CS0 t.heap) (va_A [(h0, .inr (3, rw1 16 siN))] s.heap.size)) ([.ref h0] : List Value).toArray s 19 139 (va_A [(h0, .inr (3, rw1 16 siN))] s.heap.size)) (F0 m 82 ls []) := by
    intro q1 q2 q3 ad q
    induction q with
    | zero => intro k bd h1 h2; omega
    | succ q ih =>
      intro k bd h1 h2 H locs ls hP hD hS hl
      refine lv_iload_n hx hb dX3_init_82 rfl (lv_at hl 1 rfl) ?_
      refine lv_aload_n hx hb dX3_init_83 rfl (lv_at hl 0 rfl) ?_
      refine va_get (D := G.1) (ci := 3) (v := .ref q2) (C := RX3) (T := TX3) (N := 16) hx hb hw3 (fun _ h => h) hown hK hP 0 rfl rfl 1 (by decide) (hts (.fieldLink RX3 17 "BackupPower" "batteries" "[LBackupPower$Battery;") (by decide +kernel)) (fun _ h9 => h9) rfl dX3_init_84 ?_
      refine va_alen (D := G.1) (v := nI 3) hx hb hK hP 2 3 rfl rfl rfl dX3_init_87 ?_
      refine lv_icmp_ge (tgt := 110) hx hb dX3_init_88 (by decide) (fun c9 => ?_) (fun c9 => ?_)
      · have c8 : 3 ≤ k := (nI_leI (a := 3) (b := k) (by omega) (by omega)).mp c9
        have ek : k = 3 := by omega
        subst ek
        refine lv_iconst (v := 0) hx hb dX3_init_110 (by decide) ?_
        refine lv_istore_n (lv' := [(1, .int 0), (0, .ref h0)]) hx hb dX3_init_111 rfl hl (by decide) rfl (fun ls hl => ?_)
        exact L112 q1 q2 q3 ad bd 4 0 (fun _ => 0) (by omega) (by omega) H locs ls (va_P_eq (by rw [← rfs_0]; show siW _ _ _ _ _ _ _ _ (thg ad elL 10 ++ thg bd elB 3) = siW _ _ _ _ _ _ _ _ ((thg ad elL 10 ++ thg bd elB 3) ++ []); rw [List.append_nil]) hP) (D_keys (by rw [← rfs_0]; show (siW _ _ _ _ _ _ _ _ (thg ad elL 10 ++ thg bd elB 3)).map _ = (siW _ _ _ _ _ (rfs ad 10) _ _ ((thg ad elL 10 ++ thg bd elB 3) ++ [])).map _; rw [List.append_nil]) hD) hS (lv_sub hl [1, 0] rfl)
      · have c8 : k < 3 := by
          rcases Nat.lt_or_ge k 3 with z | z
          · exact z
          · exact absurd ((nI_leI (a := 3) (b := k) (by omega) (by omega)).mpr z) c9
        refine lv_aload_n hx hb dX3_init_91 rfl (lv_at hl 0 rfl) ?_
        refine va_get (D := G.1) (ci := 3) (v := .ref q2) (C := RX3) (T := TX3) (N := 16) hx hb hw3 (fun _ h => h) hown hK hP 0 rfl rfl 1 (by decide) (hts (.fieldLink RX3 17 "BackupPower" "batteries" "[LBackupPower$Battery;") (by decide +kernel)) (fun _ h9 => h9) rfl dX3_init_92 ?_
        refine lv_iload_n hx hb dX3_init_95 rfl (lv_at hl 1 rfl) ?_
        refine va_new (ci := 0) (fs := rw1 6 (fun _ => .int 0)) (C := RX0) (T := TX0) (N := 6) hx hb hw0 (fun _ h => h) tyX0 tyX0_ok hown (hts (.classLink RX3 15 RX0) (by decide +kernel)) (hts (.instantiable RX0 6) (by decide +kernel)) (hts (.initialized RX0) (by decide +kernel)) hK hP hD hS hA rfl (by decide +kernel) (by show _ ≤ 19; omega) (by show _ ≤ 139; omega) dX3_init_96 (fun qn H hP hD hS => ?_)
        refine lv_dup hx hb dX3_init_99 rfl ?_
        have hF : ∀ q, va_A ((siW G.2 h0 q1 q2 q3 (rfs ad 10) (rfs bd k) (fun _ => none) (thg ad elL 10 ++ thg bd elB k)) ++ [(qn, .inr (0, rw1 6 (fun _ => .int 0)))]) H.size q → va_A [(h0, .inr (3, rw1 16 siN))] s.heap.size q := fun q h => h.elim (fun ⟨k9, e9, h9⟩ => hD.2 k9 (q, e9) h9) (fun h9 => hA q (Nat.le_trans hS.1 h9))
        refine va_callv (va_runIN (As := []) (rest := [.ref qn, .int (nI k), .ref q2]) ⟨hx, hb, hml, hown, hts⟩ (c_X0_init l G ((siW G.2 h0 q1 q2 q3 (rfs ad 10) (rfs bd k) (fun _ => none) (thg ad elL 10 ++ thg bd elB k)) ++ [(qn, .inr (0, rw1 6 (fun _ => .int 0)))]) qn H.size) ⟨va_cnB 0 hts gX3_init_X0_init_n44 rfl rfl rfl hNB (hts (.initialized RX0) (by decide +kernel)) (by decide +kernel) ⟨Nat.le_of_ble_eq_true rfl, Nat.le_of_ble_eq_true rfl⟩, rfl, hts (.instanceMethod yX0_init) (by decide +kernel)⟩ ⟨iPre_bl, fun U hU hW => ⟨rfl, by rw [hU], by rw [hU]; exact hP, va_K.moved hW.alike hK, hD.weaken (fun _ _ _ _ => trivial)⟩⟩ rfl rfl hl.1 rfl (lv_room (Nat.le_of_ble_eq_true rfl)) dX3_init_100 ⟨by show _ ≤ 19; omega, by show _ ≤ 139; omega⟩) hS (fun q _ h => hF q h) hF (fun u t H1 locs ht _ _ hB _ _ hS => ?_)
        have hP : va_P G.1 vwCl ((siW G.2 h0 q1 q2 q3 (rfs ad 10) (rfs bd k) (fun _ => none) (thg ad elL 10 ++ thg bd elB k)) ++ [(qn, elB k)]) H1 := by
          rw [← ht]
          refine va_P_eq ?_ hB
          show _ ++ [(qn, Sum.inr (0, rw1 6 (fun _ => .int 0)))] = _ ++ [(qn, Sum.inr (0, rw1 6 _))]
          rw [rw1_congr (n := 6) (f := fun _ => .int 0) (g := fun j => .int (CS0.2.2.1 k j)) ?_]
          intro j _
          rfl
        have hD : va_D (va_A [(h0, .inr (3, rw1 16 siN))] s.heap.size) ((siW G.2 h0 q1 q2 q3 (rfs ad 10) (rfs bd k) (fun _ => none) (thg ad elL 10 ++ thg bd elB k)) ++ [(qn, elB k)]) := D_keys (by rw [List.map_append, List.map_append]; rfl) hD
        have hlen : (siW G.2 h0 q1 q2 q3 (rfs ad 10) (rfs bd k) (fun _ => none) (thg ad elL 10 ++ thg bd elB k)).length = 14 + k := by
          show ((_ : va_W) ).length + 1 + 1 + 1 + 1 = _
          simp only [List.length_append, thg_len]
          omega
        refine va_astq (D := G.1) (cl := vwCl) (r := (RX0, TX0, 6)) (n := 3) hx hb hK hP hD hS 2 3 (14 + k) 0 rfl rfl (by rw [← hlen]; exact ap_get) rfl (nI_ix c8 (by decide)) dX3_init_103 (fun H locs hP hD hS => ?_)
        rw [nI_cl c8 (by decide)] at hP hD
        refine lv_iinc (k := 1) (v := nI (k + 1)) (lv' := [(1, .int (nI (k + 1))), (0, .ref h0)]) hx hb dX3_init_104 hl rfl (nI_inc _) (by decide) rfl (fun ls hl => ?_)
        refine lv_goto (tgt := 82) hx hb dX3_init_107 (by decide) ?_
        have heq : ((siW G.2 h0 q1 q2 q3 (rfs ad 10) (rfs bd k) (fun _ => none) (thg ad elL 10 ++ thg bd elB k)) ++ [(qn, elB k)]).set 2 (q2, .inl (G.2 3, 3, .inr (.inr (.inr (.inr (va_up (rfs bd k) k (some qn))))))) = siW G.2 h0 q1 q2 q3 (rfs ad 10) (rfs (va_up bd k qn) (k + 1)) (fun _ => none) (thg ad elL 10 ++ thg (va_up bd k qn) elB (k + 1)) := by
          show siW G.2 h0 q1 q2 q3 (rfs ad 10) (va_up (rfs bd k) k (some qn)) (fun _ => none) ((thg ad elL 10 ++ thg bd elB k) ++ [(qn, elB k)]) = _
          rw [rfs_up, List.append_assoc, thg_up]
        exact ih (k + 1) (va_up bd k qn) (by omega) (by omega) H locs ls (va_P_eq heq hP) (heq ▸ hD) hS (lv_sub hl [1, 0] rfl)
  have L51 : ∀ (q1 q2 q3 : Nat) (q k : Nat) (ad : Nat → Nat), k ≤ 10 → 10 < k + q → ∀ (H : Heap) (locs : List Loc) (ls : Array Slot), va_P G.1 vwCl (siW G.2 h0 q1 q2 q3 (rfs ad k) (fun _ => none) (fun _ => none) (thg ad elL k)) H → va_D (va_A [(h0, .inr (3, rw1 16 siN))] s.heap.size) (siW G.2 h0 q1 q2 q3 (rfs ad k) (fun _ => none) (fun _ => none) (thg ad elL k)) → va_S (va_A [(h0, .inr (3, rw1 16 siN))] s.heap.size) s.heap H locs → lv_has ls 2 [(0, .ref h0), (1, .int (nI k))] → W p l e ({ frames := 2, cells := 19, slots := 139, locals := 41 } : Room) s m ([.ref h0] : List Value).toArray below meth c H locs (3 + k) (16 + 6 * k) (MQ below (va_Qv (fun a : Nat → Nat => a 0 = h0 ∧ wInj 20 a ∧ ∀ q, 1 ≤ q → q < 20 → s.heap.size ≤ a q) (fun a t => wC0 G a CS0 t.heap) (va_A [(h0, .inr (3, rw1 16 siN))] s.heap.size)) ([.ref h0] : List Value).toArray s 19 139 (va_A [(h0, .inr (3, rw1 16 siN))] s.heap.size)) (F0 m 51 ls []) := by
    intro q1 q2 q3 q
    induction q with
    | zero => intro k ad h1 h2; omega
    | succ q ih =>
      intro k ad h1 h2 H locs ls hP hD hS hl
      refine lv_iload_n hx hb dX3_init_51 rfl (lv_at hl 1 rfl) ?_
      refine lv_aload_n hx hb dX3_init_52 rfl (lv_at hl 0 rfl) ?_
      refine va_get (D := G.1) (ci := 3) (v := .ref q1) (C := RX3) (T := TX3) (N := 16) hx hb hw3 (fun _ h => h) hown hK hP 0 rfl rfl 0 (by decide) (hts (.fieldLink RX3 11 "BackupPower" "loads" "[LBackupPower$Load;") (by decide +kernel)) (fun _ h9 => h9) rfl dX3_init_53 ?_
      refine va_alen (D := G.1) (v := nI 10) hx hb hK hP 1 2 rfl rfl rfl dX3_init_56 ?_
      refine lv_icmp_ge (tgt := 80) hx hb dX3_init_57 (by decide) (fun c9 => ?_) (fun c9 => ?_)
      · have c8 : 10 ≤ k := (nI_leI (a := 10) (b := k) (by omega) (by omega)).mp c9
        have ek : k = 10 := by omega
        subst ek
        refine lv_iconst (v := 0) hx hb dX3_init_80 (by decide) ?_
        refine lv_istore_n (lv' := [(1, .int 0), (0, .ref h0)]) hx hb dX3_init_81 rfl hl (by decide) rfl (fun ls hl => ?_)
        exact L82 q1 q2 q3  ad 4 0 (fun _ => 0) (by omega) (by omega) H locs ls (va_P_eq (by rw [← rfs_0]; show siW _ _ _ _ _ _ _ _ (thg ad elL 10) = siW _ _ _ _ _ _ _ _ ((thg ad elL 10) ++ []); rw [List.append_nil]) hP) (D_keys (by rw [← rfs_0]; show (siW _ _ _ _ _ _ _ _ (thg ad elL 10)).map _ = (siW _ _ _ _ _ (rfs ad 10) _ _ ((thg ad elL 10) ++ [])).map _; rw [List.append_nil]) hD) hS (lv_sub hl [1, 0] rfl)
      · have c8 : k < 10 := by
          rcases Nat.lt_or_ge k 10 with z | z
          · exact z
          · exact absurd ((nI_leI (a := 10) (b := k) (by omega) (by omega)).mpr z) c9
        refine lv_aload_n hx hb dX3_init_60 rfl (lv_at hl 0 rfl) ?_
        refine va_get (D := G.1) (ci := 3) (v := .ref q1) (C := RX3) (T := TX3) (N := 16) hx hb hw3 (fun _ h => h) hown hK hP 0 rfl rfl 0 (by decide) (hts (.fieldLink RX3 11 "BackupPower" "loads" "[LBackupPower$Load;") (by decide +kernel)) (fun _ h9 => h9) rfl dX3_init_61 ?_
        refine lv_iload_n hx hb dX3_init_64 rfl (lv_at hl 1 rfl) ?_
        refine va_new (ci := 2) (fs := rw1 6 (fun _ => .int 0)) (C := RX2) (T := TX2) (N := 6) hx hb hw2 (fun _ h => h) tyX2 tyX2_ok hown (hts (.classLink RX3 9 RX2) (by decide +kernel)) (hts (.instantiable RX2 6) (by decide +kernel)) (hts (.initialized RX2) (by decide +kernel)) hK hP hD hS hA rfl (by decide +kernel) (by show _ ≤ 19; omega) (by show _ ≤ 139; omega) dX3_init_65 (fun qn H hP hD hS => ?_)
        refine lv_dup hx hb dX3_init_68 rfl ?_
        refine lv_iload_n hx hb dX3_init_69 rfl (lv_at hl 1 rfl) ?_
        have hF : ∀ q, va_A ((siW G.2 h0 q1 q2 q3 (rfs ad k) (fun _ => none) (fun _ => none) (thg ad elL k)) ++ [(qn, .inr (2, rw1 6 (fun _ => .int 0)))]) H.size q → va_A [(h0, .inr (3, rw1 16 siN))] s.heap.size q := fun q h => h.elim (fun ⟨k9, e9, h9⟩ => hD.2 k9 (q, e9) h9) (fun h9 => hA q (Nat.le_trans hS.1 h9))
        refine va_callv (va_runI (As := [.int (nI k)]) (rest := [.ref qn, .int (nI k), .ref q1]) ⟨hx, hb, hml, hown, hts⟩ (c_X2_init l G (siW G.2 h0 q1 q2 q3 (rfs ad k) (fun _ => none) (fun _ => none) (thg ad elL k)) qn (fun _ => .int 0) (nI k) H.size) (cwI 1 hts gX3_init_X2_init rfl rfl rfl (hts (.initialized RX2) (by decide +kernel)) (hts (.methodLink RX3 41 yX2_init) (by decide +kernel)) (hts (.instanceMethod yX2_init) (by decide +kernel)) rfl (by decide +kernel) ⟨Nat.le_of_ble_eq_true rfl, Nat.le_of_ble_eq_true rfl⟩) ⟨iPre_bl, fun U hU hW => ⟨rfl, by rw [hU], by rw [hU]; exact hP, va_K.moved hW.alike hK, hD.weaken (fun _ _ _ _ => trivial)⟩⟩ rfl rfl hl.1 rfl (lv_room (Nat.le_of_ble_eq_true rfl)) dX3_init_70 ⟨by show _ ≤ 19; omega, by show _ ≤ 139; omega⟩) hS (fun q _ h => hF q h) hF (fun u t H1 locs ht _ _ hB _ _ hS => ?_)
        have hP : va_P G.1 vwCl ((siW G.2 h0 q1 q2 q3 (rfs ad k) (fun _ => none) (fun _ => none) (thg ad elL k)) ++ [(qn, elL k)]) H1 := by
          rw [← ht]
          refine va_P_eq ?_ hB
          show _ ++ [(qn, Sum.inr (2, rw1 6 (upv (upv (fun _ => .int 0) 3 (.int 0)) 0 (.int (nI k)))))] = _ ++ [(qn, Sum.inr (2, rw1 6 _))]
          rw [rw1_congr (n := 6) (f := upv (upv (fun _ => .int 0) 3 (.int 0)) 0 (.int (nI k))) (g := fun j => .int (CS0.2.1 k j)) ?_]
          intro j _
          by_cases z9 : j = 0
          · simp [upv, z9, CS0]
          · by_cases z3 : j = 3 <;> simp [upv, z9, z3, CS0]
        have hD : va_D (va_A [(h0, .inr (3, rw1 16 siN))] s.heap.size) ((siW G.2 h0 q1 q2 q3 (rfs ad k) (fun _ => none) (fun _ => none) (thg ad elL k)) ++ [(qn, elL k)]) := D_keys (by rw [List.map_append, List.map_append]; rfl) hD
        have hlen : (siW G.2 h0 q1 q2 q3 (rfs ad k) (fun _ => none) (fun _ => none) (thg ad elL k)).length = 4 + k := by
          show ((_ : va_W) ).length + 1 + 1 + 1 + 1 = _
          simp only [List.length_append, thg_len]
          omega
        refine va_astq (D := G.1) (cl := vwCl) (r := (RX2, TX2, 6)) (n := 10) hx hb hK hP hD hS 1 2 (4 + k) 2 rfl rfl (by rw [← hlen]; exact ap_get) rfl (nI_ix c8 (by decide)) dX3_init_73 (fun H locs hP hD hS => ?_)
        rw [nI_cl c8 (by decide)] at hP hD
        refine lv_iinc (k := 1) (v := nI (k + 1)) (lv' := [(1, .int (nI (k + 1))), (0, .ref h0)]) hx hb dX3_init_74 hl rfl (nI_inc _) (by decide) rfl (fun ls hl => ?_)
        refine lv_goto (tgt := 51) hx hb dX3_init_77 (by decide) ?_
        have heq : ((siW G.2 h0 q1 q2 q3 (rfs ad k) (fun _ => none) (fun _ => none) (thg ad elL k)) ++ [(qn, elL k)]).set 1 (q1, .inl (G.2 2, 10, .inr (.inr (.inr (.inr (va_up (rfs ad k) k (some qn))))))) = siW G.2 h0 q1 q2 q3 (rfs (va_up ad k qn) (k + 1)) (fun _ => none) (fun _ => none) (thg (va_up ad k qn) elL (k + 1)) := by
          show siW G.2 h0 q1 q2 q3 (va_up (rfs ad k) k (some qn)) (fun _ => none) (fun _ => none) ((thg ad elL k) ++ [(qn, elL k)]) = _
          rw [rfs_up, thg_up]
        exact ih (k + 1) (va_up ad k qn) (by omega) (by omega) H locs ls (va_P_eq heq hP) (heq ▸ hD) hS (lv_sub hl [1, 0] rfl)
  refine lv_aload_n hx hb dX3_init_0 rfl (lv_at hl 0 rfl) ?_
  refine W.objInit hx hb hown (hts (.methodLink RX3 3 objectInit) (by decide +kernel)) (hts (.instanceMethod objectInit) (by decide +kernel)) (hts (.code objectInit ⟨#[0xb1]⟩ 1 none) (by decide +kernel)) rfl (by rw [hml]; exact hl.1) rfl dX3_init_1 (Nat.le_of_ble_eq_true rfl) (Nat.le_of_ble_eq_true rfl) ?_
  refine W.eq (g2 := F0 m 4 ls []) rfl ?_
  refine lv_aload_n hx hb dX3_init_4 rfl (lv_at hl 0 rfl) ?_
  refine lv_bipush (v := 10) hx hb dX3_init_5 (by decide) ?_
  refine nwq (G := G) 2 rfl hx hb hown (hts (.classLink RX3 9 RX2) (by decide +kernel)) hAL hK hP hD hS hA (N' := 10) (by decide) (by decide) (by decide) (by decide) (by decide) dX3_init_7 (fun q1 H hP hD hS => ?_)
  refine va_putF (D := G.1) (ci := 3) (C := RX3) (T := TX3) (N := 16) (ty := .array (.object RX2)) (v := .ref q1) (fs := rw1 16 siN) hx hb hw3 (fun _ h => h) tyX3 tyX3_ok nmX3 hown hK hP hD hS 0 rfl rfl 0 (by decide) (hts (.fieldLink RX3 11 "BackupPower" "loads" "[LBackupPower$Load;") (by decide +kernel)) (fun _ h9 => h9) rfl hin rfl (by decide +kernel) rfl rfl (by rw [rw1_len]; decide) dX3_init_10 (fun H locs hP hD hS => ?_)
  have hP : va_P G.1 vwCl [(h0, .inr (3, rw1 16 (upv siN 0 (.ref q1)))), (q1, .inl (G.2 2, 10, .inr (.inr (.inr (.inr (fun _ => none))))))] H := va_P_eq (congrArg (fun z : List Value => ((h0, (.inr (3, z) : va_E)) :: [(q1, .inl (G.2 2, 10, .inr (.inr (.inr (.inr (fun _ => none))))))] : va_W)) rw1_upv) hP
  have hD : va_D (va_A [(h0, .inr (3, rw1 16 siN))] s.heap.size) [(h0, .inr (3, rw1 16 (upv siN 0 (.ref q1)))), (q1, .inl (G.2 2, 10, .inr (.inr (.inr (.inr (fun _ => none))))))] := D_keys rfl hD
  refine lv_aload_n hx hb dX3_init_13 rfl (lv_at hl 0 rfl) ?_
  refine lv_iconst (v := 3) hx hb dX3_init_14 (by decide) ?_
  refine nwq (G := G) 3 rfl hx hb hown (hts (.classLink RX3 15 RX0) (by decide +kernel)) hAB hK hP hD hS hA (N' := 3) (by decide) (by decide) (by decide) (by decide) (by decide) dX3_init_15 (fun q2 H hP hD hS => ?_)
  refine va_putF (D := G.1) (ci := 3) (C := RX3) (T := TX3) (N := 16) (ty := .array (.object RX0)) (v := .ref q2) (fs := rw1 16 (upv siN 0 (.ref q1))) hx hb hw3 (fun _ h => h) tyX3 tyX3_ok nmX3 hown hK hP hD hS 0 rfl rfl 1 (by decide) (hts (.fieldLink RX3 17 "BackupPower" "batteries" "[LBackupPower$Battery;") (by decide +kernel)) (fun _ h9 => h9) rfl hin rfl (by decide +kernel) rfl rfl (by rw [rw1_len]; decide) dX3_init_18 (fun H locs hP hD hS => ?_)
  have hP : va_P G.1 vwCl [(h0, .inr (3, rw1 16 (upv (upv siN 0 (.ref q1)) 1 (.ref q2)))), (q1, .inl (G.2 2, 10, .inr (.inr (.inr (.inr (fun _ => none)))))), (q2, .inl (G.2 3, 3, .inr (.inr (.inr (.inr (fun _ => none))))))] H := va_P_eq (congrArg (fun z : List Value => ((h0, (.inr (3, z) : va_E)) :: [(q1, .inl (G.2 2, 10, .inr (.inr (.inr (.inr (fun _ => none)))))), (q2, .inl (G.2 3, 3, .inr (.inr (.inr (.inr (fun _ => none))))))] : va_W)) rw1_upv) hP
  have hD : va_D (va_A [(h0, .inr (3, rw1 16 siN))] s.heap.size) [(h0, .inr (3, rw1 16 (upv (upv siN 0 (.ref q1)) 1 (.ref q2)))), (q1, .inl (G.2 2, 10, .inr (.inr (.inr (.inr (fun _ => none)))))), (q2, .inl (G.2 3, 3, .inr (.inr (.inr (.inr (fun _ => none))))))] := D_keys rfl hD
  refine lv_aload_n hx hb dX3_init_21 rfl (lv_at hl 0 rfl) ?_
  refine lv_iconst (v := 3) hx hb dX3_init_22 (by decide) ?_
  refine nwq (G := G) 4 rfl hx hb hown (hts (.classLink RX3 21 RX1) (by decide +kernel)) hAG hK hP hD hS hA (N' := 3) (by decide) (by decide) (by decide) (by decide) (by decide) dX3_init_23 (fun q3 H hP hD hS => ?_)
  refine va_putF (D := G.1) (ci := 3) (C := RX3) (T := TX3) (N := 16) (ty := .array (.object RX1)) (v := .ref q3) (fs := rw1 16 (upv (upv siN 0 (.ref q1)) 1 (.ref q2))) hx hb hw3 (fun _ h => h) tyX3 tyX3_ok nmX3 hown hK hP hD hS 0 rfl rfl 2 (by decide) (hts (.fieldLink RX3 23 "BackupPower" "generators" "[LBackupPower$Generator;") (by decide +kernel)) (fun _ h9 => h9) rfl hin rfl (by decide +kernel) rfl rfl (by rw [rw1_len]; decide) dX3_init_26 (fun H locs hP hD hS => ?_)
  have hP : va_P G.1 vwCl [(h0, .inr (3, rw1 16 (upv (upv (upv siN 0 (.ref q1)) 1 (.ref q2)) 2 (.ref q3)))), (q1, .inl (G.2 2, 10, .inr (.inr (.inr (.inr (fun _ => none)))))), (q2, .inl (G.2 3, 3, .inr (.inr (.inr (.inr (fun _ => none)))))), (q3, .inl (G.2 4, 3, .inr (.inr (.inr (.inr (fun _ => none))))))] H := va_P_eq (congrArg (fun z : List Value => ((h0, (.inr (3, z) : va_E)) :: [(q1, .inl (G.2 2, 10, .inr (.inr (.inr (.inr (fun _ => none)))))), (q2, .inl (G.2 3, 3, .inr (.inr (.inr (.inr (fun _ => none)))))), (q3, .inl (G.2 4, 3, .inr (.inr (.inr (.inr (fun _ => none))))))] : va_W)) rw1_upv) hP
  have hD : va_D (va_A [(h0, .inr (3, rw1 16 siN))] s.heap.size) [(h0, .inr (3, rw1 16 (upv (upv (upv siN 0 (.ref q1)) 1 (.ref q2)) 2 (.ref q3)))), (q1, .inl (G.2 2, 10, .inr (.inr (.inr (.inr (fun _ => none)))))), (q2, .inl (G.2 3, 3, .inr (.inr (.inr (.inr (fun _ => none)))))), (q3, .inl (G.2 4, 3, .inr (.inr (.inr (.inr (fun _ => none))))))] := D_keys rfl hD
  refine lv_aload_n hx hb dX3_init_29 rfl (lv_at hl 0 rfl) ?_
  refine lv_iconst (v := 1) hx hb dX3_init_30 (by decide) ?_
  refine va_put (D := G.1) (ci := 3) (C := RX3) (T := TX3) (N := 16) (ty := .boolean) (v := .int 1) (fs := rw1 16 (upv (upv (upv siN 0 (.ref q1)) 1 (.ref q2)) 2 (.ref q3))) hx hb hw3 (fun _ h => h) tyX3 tyX3_ok nmX3 hown hK hP hD hS 0 rfl rfl 6 (by decide) (hts (.fieldLink RX3 27 "BackupPower" "mainsUp" "Z") (by decide +kernel)) (fun _ h9 => h9) rfl (by decide +kernel) rfl rfl (by rw [rw1_len]; decide) dX3_init_31 (fun H locs hP hD hS => ?_)
  have hP : va_P G.1 vwCl [(h0, .inr (3, rw1 16 (upv (upv (upv (upv siN 0 (.ref q1)) 1 (.ref q2)) 2 (.ref q3)) 6 (.int 1)))), (q1, .inl (G.2 2, 10, .inr (.inr (.inr (.inr (fun _ => none)))))), (q2, .inl (G.2 3, 3, .inr (.inr (.inr (.inr (fun _ => none)))))), (q3, .inl (G.2 4, 3, .inr (.inr (.inr (.inr (fun _ => none))))))] H := va_P_eq (congrArg (fun z : List Value => ((h0, (.inr (3, z) : va_E)) :: [(q1, .inl (G.2 2, 10, .inr (.inr (.inr (.inr (fun _ => none)))))), (q2, .inl (G.2 3, 3, .inr (.inr (.inr (.inr (fun _ => none)))))), (q3, .inl (G.2 4, 3, .inr (.inr (.inr (.inr (fun _ => none))))))] : va_W)) rw1_upv) hP
  have hD : va_D (va_A [(h0, .inr (3, rw1 16 siN))] s.heap.size) [(h0, .inr (3, rw1 16 (upv (upv (upv (upv siN 0 (.ref q1)) 1 (.ref q2)) 2 (.ref q3)) 6 (.int 1)))), (q1, .inl (G.2 2, 10, .inr (.inr (.inr (.inr (fun _ => none)))))), (q2, .inl (G.2 3, 3, .inr (.inr (.inr (.inr (fun _ => none)))))), (q3, .inl (G.2 4, 3, .inr (.inr (.inr (.inr (fun _ => none))))))] := D_keys rfl hD
  refine lv_aload_n hx hb dX3_init_34 rfl (lv_at hl 0 rfl) ?_
  refine lv_iconst (v := 2) hx hb dX3_init_35 (by decide) ?_
  refine va_put (D := G.1) (ci := 3) (C := RX3) (T := TX3) (N := 16) (ty := .int) (v := .int 2) (fs := rw1 16 (upv (upv (upv (upv siN 0 (.ref q1)) 1 (.ref q2)) 2 (.ref q3)) 6 (.int 1))) hx hb hw3 (fun _ h => h) tyX3 tyX3_ok nmX3 hown hK hP hD hS 0 rfl rfl 9 (by decide) (hts (.fieldLink RX3 31 "BackupPower" "startTime" "I") (by decide +kernel)) (fun _ h9 => h9) rfl (by decide +kernel) rfl rfl (by rw [rw1_len]; decide) dX3_init_36 (fun H locs hP hD hS => ?_)
  have hP : va_P G.1 vwCl [(h0, .inr (3, rw1 16 (upv (upv (upv (upv (upv siN 0 (.ref q1)) 1 (.ref q2)) 2 (.ref q3)) 6 (.int 1)) 9 (.int 2)))), (q1, .inl (G.2 2, 10, .inr (.inr (.inr (.inr (fun _ => none)))))), (q2, .inl (G.2 3, 3, .inr (.inr (.inr (.inr (fun _ => none)))))), (q3, .inl (G.2 4, 3, .inr (.inr (.inr (.inr (fun _ => none))))))] H := va_P_eq (congrArg (fun z : List Value => ((h0, (.inr (3, z) : va_E)) :: [(q1, .inl (G.2 2, 10, .inr (.inr (.inr (.inr (fun _ => none)))))), (q2, .inl (G.2 3, 3, .inr (.inr (.inr (.inr (fun _ => none)))))), (q3, .inl (G.2 4, 3, .inr (.inr (.inr (.inr (fun _ => none))))))] : va_W)) rw1_upv) hP
  have hD : va_D (va_A [(h0, .inr (3, rw1 16 siN))] s.heap.size) [(h0, .inr (3, rw1 16 (upv (upv (upv (upv (upv siN 0 (.ref q1)) 1 (.ref q2)) 2 (.ref q3)) 6 (.int 1)) 9 (.int 2)))), (q1, .inl (G.2 2, 10, .inr (.inr (.inr (.inr (fun _ => none)))))), (q2, .inl (G.2 3, 3, .inr (.inr (.inr (.inr (fun _ => none)))))), (q3, .inl (G.2 4, 3, .inr (.inr (.inr (.inr (fun _ => none))))))] := D_keys rfl hD
  refine lv_aload_n hx hb dX3_init_39 rfl (lv_at hl 0 rfl) ?_
  refine lv_iconst (v := 1) hx hb dX3_init_40 (by decide) ?_
  refine va_put (D := G.1) (ci := 3) (C := RX3) (T := TX3) (N := 16) (ty := .int) (v := .int 1) (fs := rw1 16 (upv (upv (upv (upv (upv siN 0 (.ref q1)) 1 (.ref q2)) 2 (.ref q3)) 6 (.int 1)) 9 (.int 2))) hx hb hw3 (fun _ h => h) tyX3 tyX3_ok nmX3 hown hK hP hD hS 0 rfl rfl 10 (by decide) (hts (.fieldLink RX3 35 "BackupPower" "staggerTime" "I") (by decide +kernel)) (fun _ h9 => h9) rfl (by decide +kernel) rfl rfl (by rw [rw1_len]; decide) dX3_init_41 (fun H locs hP hD hS => ?_)
  have hP : va_P G.1 vwCl [(h0, .inr (3, rw1 16 (upv (upv (upv (upv (upv (upv siN 0 (.ref q1)) 1 (.ref q2)) 2 (.ref q3)) 6 (.int 1)) 9 (.int 2)) 10 (.int 1)))), (q1, .inl (G.2 2, 10, .inr (.inr (.inr (.inr (fun _ => none)))))), (q2, .inl (G.2 3, 3, .inr (.inr (.inr (.inr (fun _ => none)))))), (q3, .inl (G.2 4, 3, .inr (.inr (.inr (.inr (fun _ => none))))))] H := va_P_eq (congrArg (fun z : List Value => ((h0, (.inr (3, z) : va_E)) :: [(q1, .inl (G.2 2, 10, .inr (.inr (.inr (.inr (fun _ => none)))))), (q2, .inl (G.2 3, 3, .inr (.inr (.inr (.inr (fun _ => none)))))), (q3, .inl (G.2 4, 3, .inr (.inr (.inr (.inr (fun _ => none))))))] : va_W)) rw1_upv) hP
  have hD : va_D (va_A [(h0, .inr (3, rw1 16 siN))] s.heap.size) [(h0, .inr (3, rw1 16 (upv (upv (upv (upv (upv (upv siN 0 (.ref q1)) 1 (.ref q2)) 2 (.ref q3)) 6 (.int 1)) 9 (.int 2)) 10 (.int 1)))), (q1, .inl (G.2 2, 10, .inr (.inr (.inr (.inr (fun _ => none)))))), (q2, .inl (G.2 3, 3, .inr (.inr (.inr (.inr (fun _ => none)))))), (q3, .inl (G.2 4, 3, .inr (.inr (.inr (.inr (fun _ => none))))))] := D_keys rfl hD
  refine lv_aload_n hx hb dX3_init_44 rfl (lv_at hl 0 rfl) ?_
  refine lv_iconst (v := (-1)) hx hb dX3_init_45 (by decide) ?_
  refine va_put (D := G.1) (ci := 3) (C := RX3) (T := TX3) (N := 16) (ty := .int) (v := .int (-1)) (fs := rw1 16 (upv (upv (upv (upv (upv (upv siN 0 (.ref q1)) 1 (.ref q2)) 2 (.ref q3)) 6 (.int 1)) 9 (.int 2)) 10 (.int 1))) hx hb hw3 (fun _ h => h) tyX3 tyX3_ok nmX3 hown hK hP hD hS 0 rfl rfl 11 (by decide) (hts (.fieldLink RX3 38 "BackupPower" "latestReturn" "I") (by decide +kernel)) (fun _ h9 => h9) rfl (by decide +kernel) rfl rfl (by rw [rw1_len]; decide) dX3_init_46 (fun H locs hP hD hS => ?_)
  have hP : va_P G.1 vwCl [(h0, .inr (3, rw1 16 (upv (upv (upv (upv (upv (upv (upv siN 0 (.ref q1)) 1 (.ref q2)) 2 (.ref q3)) 6 (.int 1)) 9 (.int 2)) 10 (.int 1)) 11 (.int (-1))))), (q1, .inl (G.2 2, 10, .inr (.inr (.inr (.inr (fun _ => none)))))), (q2, .inl (G.2 3, 3, .inr (.inr (.inr (.inr (fun _ => none)))))), (q3, .inl (G.2 4, 3, .inr (.inr (.inr (.inr (fun _ => none))))))] H := va_P_eq (congrArg (fun z : List Value => ((h0, (.inr (3, z) : va_E)) :: [(q1, .inl (G.2 2, 10, .inr (.inr (.inr (.inr (fun _ => none)))))), (q2, .inl (G.2 3, 3, .inr (.inr (.inr (.inr (fun _ => none)))))), (q3, .inl (G.2 4, 3, .inr (.inr (.inr (.inr (fun _ => none))))))] : va_W)) rw1_upv) hP
  have hD : va_D (va_A [(h0, .inr (3, rw1 16 siN))] s.heap.size) [(h0, .inr (3, rw1 16 (upv (upv (upv (upv (upv (upv (upv siN 0 (.ref q1)) 1 (.ref q2)) 2 (.ref q3)) 6 (.int 1)) 9 (.int 2)) 10 (.int 1)) 11 (.int (-1))))), (q1, .inl (G.2 2, 10, .inr (.inr (.inr (.inr (fun _ => none)))))), (q2, .inl (G.2 3, 3, .inr (.inr (.inr (.inr (fun _ => none)))))), (q3, .inl (G.2 4, 3, .inr (.inr (.inr (.inr (fun _ => none))))))] := D_keys rfl hD
  refine lv_iconst (v := 0) hx hb dX3_init_49 (by decide) ?_
  refine lv_istore_n (lv' := [(1, .int 0), (0, .ref h0)]) hx hb dX3_init_50 rfl hl (by decide) rfl (fun ls hl => ?_)
  have e16 : rw1 16 (upv (upv (upv (upv (upv (upv (upv siN 0 (.ref q1)) 1 (.ref q2)) 2 (.ref q3)) 6 (.int 1)) 9 (.int 2)) 10 (.int 1)) 11 (.int (-1))) = rw1 16 (siF q1 q2 q3) := rw1_congr (fun j hj => by rcases (show j = 0 ∨ j = 1 ∨ j = 2 ∨ j = 3 ∨ j = 4 ∨ j = 5 ∨ j = 6 ∨ j = 7 ∨ j = 8 ∨ j = 9 ∨ j = 10 ∨ j = 11 ∨ j = 12 ∨ j = 13 ∨ j = 14 ∨ j = 15 by omega) with rfl | rfl | rfl | rfl | rfl | rfl | rfl | rfl | rfl | rfl | rfl | rfl | rfl | rfl | rfl | rfl <;> rfl)
  have hP : va_P G.1 vwCl (siW G.2 h0 q1 q2 q3 (rfs (fun _ => 0) 0) (fun _ => none) (fun _ => none) (thg (fun _ => 0) elL 0)) H := va_P_eq (by rw [e16, ← rfs_0]; rfl) hP
  have hD : va_D (va_A [(h0, .inr (3, rw1 16 siN))] s.heap.size) (siW G.2 h0 q1 q2 q3 (rfs (fun _ => 0) 0) (fun _ => none) (fun _ => none) (thg (fun _ => 0) elL 0)) := D_keys rfl hD
  exact L51 q1 q2 q3 11 0 (fun _ => 0) (by omega) (by omega) _ _ ls hP hD hS (lv_sub hl [1, 0] rfl)
