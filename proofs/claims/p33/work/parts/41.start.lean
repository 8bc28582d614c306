/-! ===== what the start of the law gives: classes, arrays; the first state ===== -/
theorem P_left {D : va_G} {cl : List vw_C} {X Y : va_W} {H : Heap} (h : va_P D cl (X ++ Y) H) : va_P D cl X H := fun k q hq => h k q (by rw [List.getElem?_append_left (List.getElem?_eq_some_iff.mp hq).1]; exact hq)
section EN
variable {args : Array Value} {s : State}
theorem iEnv_of (hT : ∀ w ∈ tables_1, w.before args s = true) : iEnv s :=
  ⟨va_AO.of (A := args) (hT (.arrayOver (.object RX2)) (List.mem_of_getElem? (i := 21) (by decide +kernel))), va_AO.of (A := args) (hT (.arrayOver (.object RX0)) (List.mem_of_getElem? (i := 23) (by decide +kernel))), va_AO.of (A := args) (hT (.arrayOver (.object RX1)) (List.mem_of_getElem? (i := 25) (by decide +kernel))), va_Nw.of (by decide +kernel) (hT (.methodLinkNest RX3 44 yX0_init RX3) (List.mem_of_getElem? (i := 53) (by decide +kernel))), va_Nw.of (by decide +kernel) (hT (.methodLinkNest RX3 45 yX1_init RX3) (List.mem_of_getElem? (i := 79) (by decide +kernel)))⟩
theorem arrI_of {ty : FieldType} (h : (Cond.arrayClass ty).before args s = true) : ∃ cA, ArrOfT s cA ty ∧ s.vm.findClass ("[" ++ ty.toString) = some cA := by
  obtain ⟨cA, kA, comp, h1, h2, h3⟩ := Cond.arrayClass_spec (args := args) (first := s) (o := none) (s := s) (idx := []) h
  exact ⟨cA, fun N z => ⟨(fun k h => by cases h), kA, h2, comp, h3⟩, h1⟩
theorem arrO_of {C : String} (h : (Cond.arrayOver (.object C)).before args s = true) : ∃ cA, ArrOfT s cA (.object C) ∧ va_RA s cA (.object C) := by
  obtain ⟨comp, cA, kA, h1, -, h2, h3, h4⟩ := Cond.arrayOver_spec (args := args) (first := s) (o := none) (s := s) (idx := []) h
  exact ⟨cA, fun N z => ⟨(fun k h => by cases h), kA, h2, comp, h3⟩, kA, comp, h2, h3, h1, h4⟩
theorem wK_of (hT : ∀ w ∈ tables_1, w.before args s = true) (hW : ∀ w ∈ wsL_law, w.before args s = true) : ∃ G : WG, wK G s := by
  obtain ⟨c0, j0, k0⟩ := u_known (ws := wsX00) (C := RX0) (T := TX0) (N := 6) (n := 6) (fun w h => hW w (inlX0 w h)) (fun _ h => h) (hT (.instantiable RX0 6) (List.mem_of_getElem? (i := 52) (by decide +kernel)))
  obtain ⟨c1, j1, k1⟩ := u_known (ws := wsX10) (C := RX1) (T := TX1) (N := 15) (n := 15) (fun w h => hW w (inlX1 w h)) (fun _ h => h) (hT (.instantiable RX1 15) (List.mem_of_getElem? (i := 78) (by decide +kernel)))
  obtain ⟨c2, j2, k2⟩ := u_known (ws := wsX20) (C := RX2) (T := TX2) (N := 6) (n := 6) (fun w h => hW w (inlX2 w h)) (fun _ h => h) (hT (.instantiable RX2 6) (List.mem_of_getElem? (i := 26) (by decide +kernel)))
  obtain ⟨c3, j3, k3⟩ := u_known (ws := wsX30) (C := RX3) (T := TX3) (N := 16) (n := 16) (fun w h => hW w (inlX3 w h)) (fun _ h => h) (hT (.instantiable RX3 16) (List.mem_of_getElem? (i := 13) (by decide +kernel)))
  obtain ⟨y0, a0, b0⟩ := arrI_of (args := args) (s := s) (ty := .int) (hT (.arrayClass .int) (List.mem_of_getElem? (i := 540) (by decide +kernel)))
  obtain ⟨y2, a2, b2⟩ := arrO_of (hT (.arrayOver (.object RX2)) (List.mem_of_getElem? (i := 21) (by decide +kernel)))
  obtain ⟨y3, a3, b3⟩ := arrO_of (hT (.arrayOver (.object RX0)) (List.mem_of_getElem? (i := 23) (by decide +kernel)))
  obtain ⟨y4, a4, b4⟩ := arrO_of (hT (.arrayOver (.object RX1)) (List.mem_of_getElem? (i := 25) (by decide +kernel)))
  refine ⟨((fun k => if k = 0 then c0 else if k = 1 then c1 else if k = 2 then c2 else c3, fun k => if k = 0 then j0 else if k = 1 then j1 else if k = 2 then j2 else j3), fun k => if k = 0 then y0 else if k = 2 then y2 else if k = 3 then y3 else y4), ?_, ?_⟩
  · intro k q hq
    match k, hq with
    | 0, hq => cases hq; exact k0
    | 1, hq => cases hq; exact k1
    | 2, hq => cases hq; exact k2
    | 3, hq => cases hq; exact k3
    | k + 4, hq => simp [vwCl] at hq
  · intro k q hq
    match k, hq with
    | 0, hq => cases hq; exact ⟨a0, b0⟩
    | 1, hq => cases hq; exact ⟨a0, b0⟩
    | 2, hq => cases hq; exact ⟨a2, b2⟩
    | 3, hq => cases hq; exact ⟨a3, b3⟩
    | 4, hq => cases hq; exact ⟨a4, b4⟩
    | 5, hq => cases hq; exact ⟨a0, b0⟩
    | k + 6, hq => simp [wT] at hq
end EN
/-- the class's twenty cells and the law's row: one world -/
theorem CW_grow {G : WG} {a : Nat → Nat} {S : CS} {q : Nat} {H : Heap} (h6 : ∀ i, S.2.1 i 6 = 0) (hP : va_P G.1 vwCl (wl 20 a (cE G.2 a S) ++ [(q, .inl (G.2 0, 10, .inl (fun _ => 0)))]) H) : wC G (va_up a 20 q) S H := by
  intro k x hx
  obtain ⟨hk, rfl⟩ := wl_at hx
  have hlen : (wl 20 a (cE G.2 a S)).length = 20 := by simp [wl]
  have up : ∀ j, j < 20 → va_up a 20 q j = a j := fun j hj => by
    unfold va_up
    rw [if_neg (by omega)]
  have arr : ∀ (r cA n : Nat) (f g : Nat → Option Nat), (∀ i, i < n → f i = g i) → va_at G.1 vwCl (r, .inl (cA, n, .inr (.inr (.inr (.inr f))))) H → va_at G.1 vwCl (r, .inl (cA, n, .inr (.inr (.inr (.inr g))))) H := by
    intro r cA n f g hfg h
    have h : H[r]? = some (arrV cA n (fun j => va_rf (f j))) := h
    show H[r]? = some (arrV cA n (fun j => va_rf (g j)))
    rw [h]
    unfold arrV
    congr 2
    congr 1
    funext j
    show va_rf (f j.val) = va_rf (g j.val)
    rw [hfg j.val j.isLt]
  by_cases e20 : k = 20
  · have h := hP 20 (q, .inl (G.2 0, 10, .inl (fun _ => 0))) (by have := ap_get (W0 := wl 20 a (cE G.2 a S)) (x := (q, .inl (G.2 0, 10, .inl (fun _ => 0)))); rw [hlen] at this; exact this)
    rw [e20, cE_T (Nat.le_refl 20)]
    have e1 : va_up a 20 q 20 = q := by unfold va_up; rw [if_pos rfl]
    have e2 : (fun i => S.2.1 i 6) = fun _ => 0 := funext h6
    rw [e1, e2]
    exact h
  · have hk2 : k < 20 := by omega
    have h : va_at G.1 vwCl (a k, cE G.2 a S k) H := hP k (a k, cE G.2 a S k) (by rw [List.getElem?_append_left (by rw [hlen]; exact hk2)]; exact wl_get hk2)
    rw [up k hk2]
    rcases (show k = 0 ∨ k = 1 ∨ k = 2 ∨ k = 3 ∨ (4 ≤ k ∧ k < 14) ∨ (14 ≤ k ∧ k < 17) ∨ (17 ≤ k ∧ k < 20) by omega) with e | e | e | e | e | e | e
    · subst e
      show va_at G.1 vwCl (a 0, .inr (3, rw1 16 (cfM (va_up a 20 q) S))) H
      rw [rw1_congr (f := cfM (va_up a 20 q) S) (g := cfM a S) (fun j hj => by
        unfold cfM
        by_cases c : j < 3
        · rw [if_pos c, if_pos c, up (1 + j) (by omega)]
        · rw [if_neg c, if_neg c])]
      exact h
    · subst e
      exact arr (a 1) (G.2 2) 10 (fun i => some (a (4 + i))) (fun i => some (va_up a 20 q (4 + i))) (fun i hi => by rw [up (4 + i) (by omega)]) h
    · subst e
      exact arr (a 2) (G.2 3) 3 (fun i => some (a (14 + i))) (fun i => some (va_up a 20 q (14 + i))) (fun i hi => by rw [up (14 + i) (by omega)]) h
    · subst e
      exact arr (a 3) (G.2 4) 3 (fun i => some (a (17 + i))) (fun i => some (va_up a 20 q (17 + i))) (fun i hi => by rw [up (17 + i) (by omega)]) h
    · obtain ⟨z, rfl⟩ : ∃ z, k = 4 + z := ⟨k - 4, by omega⟩
      rw [cE_L (by omega)] at h ⊢
      exact h
    · obtain ⟨z, rfl⟩ : ∃ z, k = 14 + z := ⟨k - 14, by omega⟩
      rw [cE_B (by omega)] at h ⊢
      exact h
    · obtain ⟨z, rfl⟩ : ∃ z, k = 17 + z := ⟨k - 17, by omega⟩
      rw [cE_G (by omega)] at h ⊢
      exact h
