/-! ===== rows over the worlds: fields, arrays, calls, ends ===== -/
abbrev wK (G : WG) (s : State) : Prop := va_K G.1 vwCl (wT G.2) s
abbrev wC (G : WG) (a : Nat → Nat) (S : CS) (H : Heap) : Prop := va_P G.1 vwCl (CW G.2 a S) H
theorem nI_inc (k : Nat) : nI k + Int32.ofInt 1 = nI (k + 1) := (nI_succ k).symm
theorem iI_p1 (x : Int32) : x + Int32.ofInt 1 = x + 1 := rfl
theorem iI_m1 (x : Int32) : x + Int32.ofInt (-1) = x + (-1) := rfl
theorem nI_ix {k n : Nat} (h : k < n) (hn : n ≤ 10) : vp_in (nI k) n := vp_in_nI h (by omega)
theorem nI_cl {k n : Nat} (h : k < n) (hn : n ≤ 10) : (nI k).toNatClampNeg = k := nI_clamp (by omega)
section CR
variable {p : Program} {l : Launch} {e : Env} {R : Room} {s : State} {m : MethodId} {args : Array Value} {below : List Frame} {meth : Method} {c : Code} {H : Heap} {locs : List Loc} {cells slots : Nat} {Q : State → Prop}
variable {cc : ByteArray} {pc : Nat} {ls : Array Slot} {rest : List Value} {G : WG} {a b : Nat → Nat} {S : CS} {M : MS} {n : Nat × Nat × Nat} {H0 : Heap} {own : String} {index sz : Nat}
-- fields of the class's objects
theorem cgM (hx : p.tables.exec = Jvm.exec) (hb : c.code = cc) (hw : ∀ w ∈ wsX30, w.before args s = true) (hown : s.vm.findClass own = some m.cls) (hK : wK G s) (hP : wC G a S H) (k : Nat) (hk : k < 16) {v : Value} (hv : cfM a S k = v)
    (hlink : (Cond.fieldLink own index (TX3 k).1 (TX3 k).2.1 (TX3 k).2.2.1).before args s = true) (hdg : decode cc pc = .ok (.getfield index, 3))
    (kk : W p l e R s m args below meth c H locs cells slots Q (F0 m (pc + 3) ls (v :: rest))) : W p l e R s m args below meth c H locs cells slots Q (F0 m pc ls (.ref (a 0) :: rest)) :=
  va_get (D := G.1) (ci := 3) (C := RX3) (T := TX3) (N := 16) (fs := rw1 16 (cfM a S)) hx hb hw (fun _ h => h) hown hK hP 0 (wl_get (by decide)) rfl k hk hlink (fun _ h => h) (by rw [rw1_get hk, hv]) hdg kk
theorem cgL (hx : p.tables.exec = Jvm.exec) (hb : c.code = cc) (hw : ∀ w ∈ wsX20, w.before args s = true) (hown : s.vm.findClass own = some m.cls) (hK : wK G s) (hP : wC G a S H) {i : Nat} (hi : i < 10) (k : Nat) (hk : k < 6)
    (hlink : (Cond.fieldLink own index (TX2 k).1 (TX2 k).2.1 (TX2 k).2.2.1).before args s = true) (hdg : decode cc pc = .ok (.getfield index, 3))
    (kk : W p l e R s m args below meth c H locs cells slots Q (F0 m (pc + 3) ls (.int (S.2.1 i k) :: rest))) : W p l e R s m args below meth c H locs cells slots Q (F0 m pc ls (.ref (a (4 + i)) :: rest)) :=
  va_get (D := G.1) (ci := 2) (C := RX2) (T := TX2) (N := 6) (fs := rw1 6 (fun j => .int (S.2.1 i j))) hx hb hw (fun _ h => h) hown hK hP (4 + i) (by rw [← cE_L (y := G.2) (a := a) hi]; exact wl_get (by omega)) rfl k hk hlink (fun _ h => h) (rw1_get hk) hdg kk
theorem cgB (hx : p.tables.exec = Jvm.exec) (hb : c.code = cc) (hw : ∀ w ∈ wsX00, w.before args s = true) (hown : s.vm.findClass own = some m.cls) (hK : wK G s) (hP : wC G a S H) {i : Nat} (hi : i < 3) (k : Nat) (hk : k < 6)
    (hlink : (Cond.fieldLink own index (TX0 k).1 (TX0 k).2.1 (TX0 k).2.2.1).before args s = true) (hdg : decode cc pc = .ok (.getfield index, 3))
    (kk : W p l e R s m args below meth c H locs cells slots Q (F0 m (pc + 3) ls (.int (S.2.2.1 i k) :: rest))) : W p l e R s m args below meth c H locs cells slots Q (F0 m pc ls (.ref (a (14 + i)) :: rest)) :=
  va_get (D := G.1) (ci := 0) (C := RX0) (T := TX0) (N := 6) (fs := rw1 6 (fun j => .int (S.2.2.1 i j))) hx hb hw (fun _ h => h) hown hK hP (14 + i) (by rw [← cE_B (y := G.2) (a := a) hi]; exact wl_get (by omega)) rfl k hk hlink (fun _ h => h) (rw1_get hk) hdg kk
theorem cgG (hx : p.tables.exec = Jvm.exec) (hb : c.code = cc) (hw : ∀ w ∈ wsX10, w.before args s = true) (hown : s.vm.findClass own = some m.cls) (hK : wK G s) (hP : wC G a S H) {i : Nat} (hi : i < 3) (k : Nat) (hk : k < 15)
    (hlink : (Cond.fieldLink own index (TX1 k).1 (TX1 k).2.1 (TX1 k).2.2.1).before args s = true) (hdg : decode cc pc = .ok (.getfield index, 3))
    (kk : W p l e R s m args below meth c H locs cells slots Q (F0 m (pc + 3) ls (.int (S.2.2.2 i k) :: rest))) : W p l e R s m args below meth c H locs cells slots Q (F0 m pc ls (.ref (a (17 + i)) :: rest)) :=
  va_get (D := G.1) (ci := 1) (C := RX1) (T := TX1) (N := 15) (fs := rw1 15 (fun j => .int (S.2.2.2 i j))) hx hb hw (fun _ h => h) hown hK hP (17 + i) (by rw [← cE_G (y := G.2) (a := a) hi]; exact wl_get (by omega)) rfl k hk hlink (fun _ h => h) (rw1_get hk) hdg kk
theorem cpM (hx : p.tables.exec = Jvm.exec) (hb : c.code = cc) (hw : ∀ w ∈ wsX30, w.before args s = true) (hown : s.vm.findClass own = some m.cls) (hK : wK G s) (ha : wInj 21 a) (hP : wC G a S H) (hS : va_S (wA 21 a sz) H0 H locs) (k : Nat) (hk : k < 16) (h3 : 3 ≤ k) (hfin : (TX3 k).2.2.2 = false) {v : Int32} (hv : okv (tyX3 k) v)
    (hlink : (Cond.fieldLink own index (TX3 k).1 (TX3 k).2.1 (TX3 k).2.2.1).before args s = true) (hdg : decode cc pc = .ok (.putfield index, 3))
    (kk : ∀ (H1 : Heap) (locs1 : List Loc), wC G a (cuM S k v) H1 → va_S (wA 21 a sz) H0 H1 locs1 → W p l e R s m args below meth c H1 locs1 cells slots Q (F0 m (pc + 3) ls rest)) : W p l e R s m args below meth c H locs cells slots Q (F0 m pc ls (.int v :: .ref (a 0) :: rest)) :=
  va_put (D := G.1) (ci := 3) (C := RX3) (T := TX3) (N := 16) (fs := rw1 16 (cfM a S)) hx hb hw (fun _ h => h) tyX3 tyX3_ok nmX3 hown hK hP (wl_D ha) hS 0 (wl_get (by decide)) rfl k hk hlink (fun _ h => h) hfin (tyX3_ok k hk) hv.1 hv.2 (by rw [rw1_len]; exact hk) hdg (fun H1 locs1 hP1 _ hS1 => kk H1 locs1 (by rw [CW_setM h3] at hP1; exact hP1) hS1)
theorem cpL (hx : p.tables.exec = Jvm.exec) (hb : c.code = cc) (hw : ∀ w ∈ wsX20, w.before args s = true) (hown : s.vm.findClass own = some m.cls) (hK : wK G s) (ha : wInj 21 a) (hP : wC G a S H) (hS : va_S (wA 21 a sz) H0 H locs) {i : Nat} (hi : i < 10) (k : Nat) (hk : k < 6) (hfin : (TX2 k).2.2.2 = false) {v : Int32} (hv : okv (tyX2 k) v)
    (hlink : (Cond.fieldLink own index (TX2 k).1 (TX2 k).2.1 (TX2 k).2.2.1).before args s = true) (hdg : decode cc pc = .ok (.putfield index, 3))
    (kk : ∀ (H1 : Heap) (locs1 : List Loc), wC G a (cuL S i k v) H1 → va_S (wA 21 a sz) H0 H1 locs1 → W p l e R s m args below meth c H1 locs1 cells slots Q (F0 m (pc + 3) ls rest)) : W p l e R s m args below meth c H locs cells slots Q (F0 m pc ls (.int v :: .ref (a (4 + i)) :: rest)) :=
  va_put (D := G.1) (ci := 2) (C := RX2) (T := TX2) (N := 6) (fs := rw1 6 (fun j => .int (S.2.1 i j))) hx hb hw (fun _ h => h) tyX2 tyX2_ok nmX2 hown hK hP (wl_D ha) hS (4 + i) (by rw [← cE_L (y := G.2) (a := a) hi]; exact wl_get (by omega)) rfl k hk hlink (fun _ h => h) hfin (tyX2_ok k hk) hv.1 hv.2 (by rw [rw1_len]; exact hk) hdg (fun H1 locs1 hP1 _ hS1 => kk H1 locs1 (by rw [CW_setL hi hk] at hP1; exact hP1) hS1)
theorem cpB (hx : p.tables.exec = Jvm.exec) (hb : c.code = cc) (hw : ∀ w ∈ wsX00, w.before args s = true) (hown : s.vm.findClass own = some m.cls) (hK : wK G s) (ha : wInj 21 a) (hP : wC G a S H) (hS : va_S (wA 21 a sz) H0 H locs) {i : Nat} (hi : i < 3) (k : Nat) (hk : k < 6) (hfin : (TX0 k).2.2.2 = false) {v : Int32} (hv : okv (tyX0 k) v)
    (hlink : (Cond.fieldLink own index (TX0 k).1 (TX0 k).2.1 (TX0 k).2.2.1).before args s = true) (hdg : decode cc pc = .ok (.putfield index, 3))
    (kk : ∀ (H1 : Heap) (locs1 : List Loc), wC G a (cuB S i k v) H1 → va_S (wA 21 a sz) H0 H1 locs1 → W p l e R s m args below meth c H1 locs1 cells slots Q (F0 m (pc + 3) ls rest)) : W p l e R s m args below meth c H locs cells slots Q (F0 m pc ls (.int v :: .ref (a (14 + i)) :: rest)) :=
  va_put (D := G.1) (ci := 0) (C := RX0) (T := TX0) (N := 6) (fs := rw1 6 (fun j => .int (S.2.2.1 i j))) hx hb hw (fun _ h => h) tyX0 tyX0_ok nmX0 hown hK hP (wl_D ha) hS (14 + i) (by rw [← cE_B (y := G.2) (a := a) hi]; exact wl_get (by omega)) rfl k hk hlink (fun _ h => h) hfin (tyX0_ok k hk) hv.1 hv.2 (by rw [rw1_len]; exact hk) hdg (fun H1 locs1 hP1 _ hS1 => kk H1 locs1 (by rw [CW_setB hi] at hP1; exact hP1) hS1)
theorem cpG (hx : p.tables.exec = Jvm.exec) (hb : c.code = cc) (hw : ∀ w ∈ wsX10, w.before args s = true) (hown : s.vm.findClass own = some m.cls) (hK : wK G s) (ha : wInj 21 a) (hP : wC G a S H) (hS : va_S (wA 21 a sz) H0 H locs) {i : Nat} (hi : i < 3) (k : Nat) (hk : k < 15) (hfin : (TX1 k).2.2.2 = false) {v : Int32} (hv : okv (tyX1 k) v)
    (hlink : (Cond.fieldLink own index (TX1 k).1 (TX1 k).2.1 (TX1 k).2.2.1).before args s = true) (hdg : decode cc pc = .ok (.putfield index, 3))
    (kk : ∀ (H1 : Heap) (locs1 : List Loc), wC G a (cuG S i k v) H1 → va_S (wA 21 a sz) H0 H1 locs1 → W p l e R s m args below meth c H1 locs1 cells slots Q (F0 m (pc + 3) ls rest)) : W p l e R s m args below meth c H locs cells slots Q (F0 m pc ls (.int v :: .ref (a (17 + i)) :: rest)) :=
  va_put (D := G.1) (ci := 1) (C := RX1) (T := TX1) (N := 15) (fs := rw1 15 (fun j => .int (S.2.2.2 i j))) hx hb hw (fun _ h => h) tyX1 tyX1_ok nmX1 hown hK hP (wl_D ha) hS (17 + i) (by rw [← cE_G (y := G.2) (a := a) hi]; exact wl_get (by omega)) rfl k hk hlink (fun _ h => h) hfin (tyX1_ok k hk) hv.1 hv.2 (by rw [rw1_len]; exact hk) hdg (fun H1 locs1 hP1 _ hS1 => kk H1 locs1 (by rw [CW_setG hi] at hP1; exact hP1) hS1)
-- the class's arrays: lengths and rows
theorem clL (hx : p.tables.exec = Jvm.exec) (hb : c.code = cc) (hK : wK G s) (hP : wC G a S H) (hdg : decode cc pc = .ok (.arraylength, 1))
    (kk : W p l e R s m args below meth c H locs cells slots Q (F0 m (pc + 1) ls (.int (nI 10) :: rest))) : W p l e R s m args below meth c H locs cells slots Q (F0 m pc ls (.ref (a 1) :: rest)) :=
  va_alen (D := G.1) (cA := G.2 2) (x := (10, .inr (.inr (.inr (.inr (fun i => some (a (4 + i)))))))) (ty := .object RX2) hx hb hK hP 1 2 (wl_get (by decide)) rfl rfl hdg kk
theorem clB (hx : p.tables.exec = Jvm.exec) (hb : c.code = cc) (hK : wK G s) (hP : wC G a S H) (hdg : decode cc pc = .ok (.arraylength, 1))
    (kk : W p l e R s m args below meth c H locs cells slots Q (F0 m (pc + 1) ls (.int (nI 3) :: rest))) : W p l e R s m args below meth c H locs cells slots Q (F0 m pc ls (.ref (a 2) :: rest)) :=
  va_alen (D := G.1) (cA := G.2 3) (x := (3, .inr (.inr (.inr (.inr (fun i => some (a (14 + i)))))))) (ty := .object RX0) hx hb hK hP 2 3 (wl_get (by decide)) rfl rfl hdg kk
theorem clG (hx : p.tables.exec = Jvm.exec) (hb : c.code = cc) (hK : wK G s) (hP : wC G a S H) (hdg : decode cc pc = .ok (.arraylength, 1))
    (kk : W p l e R s m args below meth c H locs cells slots Q (F0 m (pc + 1) ls (.int (nI 3) :: rest))) : W p l e R s m args below meth c H locs cells slots Q (F0 m pc ls (.ref (a 3) :: rest)) :=
  va_alen (D := G.1) (cA := G.2 4) (x := (3, .inr (.inr (.inr (.inr (fun i => some (a (17 + i)))))))) (ty := .object RX1) hx hb hK hP 3 4 (wl_get (by decide)) rfl rfl hdg kk
theorem crdL (hx : p.tables.exec = Jvm.exec) (hb : c.code = cc) (hK : wK G s) (hP : wC G a S H) {k : Nat} (hk : k < 10) (hdg : decode cc pc = .ok (.aaload, 1))
    (kk : W p l e R s m args below meth c H locs cells slots Q (F0 m (pc + 1) ls (.ref (a (4 + k)) :: rest))) : W p l e R s m args below meth c H locs cells slots Q (F0 m pc ls (.int (nI k) :: .ref (a 1) :: rest)) :=
  va_aldq (D := G.1) (cA := G.2 2) (C := RX2) (n := 10) (f := fun i => some (a (4 + i))) hx hb hK hP 1 2 (wl_get (by decide)) rfl (nI_ix hk (by decide)) hdg (by rw [nI_cl hk (by decide)]; exact kk)
theorem crdB (hx : p.tables.exec = Jvm.exec) (hb : c.code = cc) (hK : wK G s) (hP : wC G a S H) {k : Nat} (hk : k < 3) (hdg : decode cc pc = .ok (.aaload, 1))
    (kk : W p l e R s m args below meth c H locs cells slots Q (F0 m (pc + 1) ls (.ref (a (14 + k)) :: rest))) : W p l e R s m args below meth c H locs cells slots Q (F0 m pc ls (.int (nI k) :: .ref (a 2) :: rest)) :=
  va_aldq (D := G.1) (cA := G.2 3) (C := RX0) (n := 3) (f := fun i => some (a (14 + i))) hx hb hK hP 2 3 (wl_get (by decide)) rfl (nI_ix hk (by decide)) hdg (by rw [nI_cl hk (by decide)]; exact kk)
theorem crdG (hx : p.tables.exec = Jvm.exec) (hb : c.code = cc) (hK : wK G s) (hP : wC G a S H) {k : Nat} (hk : k < 3) (hdg : decode cc pc = .ok (.aaload, 1))
    (kk : W p l e R s m args below meth c H locs cells slots Q (F0 m (pc + 1) ls (.ref (a (17 + k)) :: rest))) : W p l e R s m args below meth c H locs cells slots Q (F0 m pc ls (.int (nI k) :: .ref (a 3) :: rest)) :=
  va_aldq (D := G.1) (cA := G.2 4) (C := RX1) (n := 3) (f := fun i => some (a (17 + i))) hx hb hK hP 3 4 (wl_get (by decide)) rfl (nI_ix hk (by decide)) hdg (by rw [nI_cl hk (by decide)]; exact kk)
-- the law's own row, cell 20
theorem chld {k : Nat} (hx : p.tables.exec = Jvm.exec) (hb : c.code = cc) (hK : wK G s) (hP : wC G a S H) (hk : k < 10) (hdg : decode cc pc = .ok (.iaload, 1))
    (kk : W p l e R s m args below meth c H locs cells slots Q (F0 m (pc + 1) ls (.int (S.2.1 k 6) :: rest))) : W p l e R s m args below meth c H locs cells slots Q (F0 m pc ls (.int (nI k) :: .ref (a 20) :: rest)) :=
  va_iald (D := G.1) (cA := G.2 0) (n := 10) (f := fun q => S.2.1 q 6) hx hb hK hP 20 0 (by rw [← cE_T (y := G.2) (a := a) (S := S) (q := 20) (by decide)]; exact wl_get (by decide)) rfl (nI_ix hk (by decide)) hdg (by rw [nI_cl hk (by decide)]; exact kk)
theorem chst {k : Nat} {v : Int32} (hx : p.tables.exec = Jvm.exec) (hb : c.code = cc) (hK : wK G s) (ha : wInj 21 a) (hP : wC G a S H) (hS : va_S (wA 21 a sz) H0 H locs) (hk : k < 10) (hdg : decode cc pc = .ok (.iastore, 1))
    (kk : ∀ (H1 : Heap) (locs1 : List Loc), wC G a (cuL S k 6 v) H1 → va_S (wA 21 a sz) H0 H1 locs1 → W p l e R s m args below meth c H1 locs1 cells slots Q (F0 m (pc + 1) ls rest)) : W p l e R s m args below meth c H locs cells slots Q (F0 m pc ls (.int v :: .int (nI k) :: .ref (a 20) :: rest)) :=
  va_iast (D := G.1) (cA := G.2 0) (n := 10) (f := fun q => S.2.1 q 6) hx hb hK hP (wl_D ha) hS 20 0 (by rw [← cE_T (y := G.2) (a := a) (S := S) (q := 20) (by decide)]; exact wl_get (by decide)) rfl (nI_ix hk (by decide)) hdg (fun H1 locs1 hP1 _ hS1 => kk H1 locs1 (by rw [nI_cl hk (by decide)] at hP1; unfold wC; rw [← CW_setH]; exact hP1) hS1)
-- receivers
theorem crM (hK : wK G s) (hP : wC G a S H) : ∃ cell : Cell, H[a 0]? = some cell ∧ cell.vm.isStatics = false ∧ s.vm.findClass RX3 = some cell.cls :=
  va_recv (fs := rw1 16 (cfM a S)) hK hP (ci := 3) (q0 := 0) rfl (wl_get (by decide))
theorem crL {i : Nat} (hK : wK G s) (hP : wC G a S H) (hi : i < 10) : ∃ cell : Cell, H[a (4 + i)]? = some cell ∧ cell.vm.isStatics = false ∧ s.vm.findClass RX2 = some cell.cls :=
  va_recv (fs := rw1 6 (fun j => .int (S.2.1 i j))) hK hP (ci := 2) (q0 := 4 + i) rfl (by rw [← cE_L (y := G.2) (a := a) hi]; exact wl_get (by omega))
theorem crB {i : Nat} (hK : wK G s) (hP : wC G a S H) (hi : i < 3) : ∃ cell : Cell, H[a (14 + i)]? = some cell ∧ cell.vm.isStatics = false ∧ s.vm.findClass RX0 = some cell.cls :=
  va_recv (fs := rw1 6 (fun j => .int (S.2.2.1 i j))) hK hP (ci := 0) (q0 := 14 + i) rfl (by rw [← cE_B (y := G.2) (a := a) hi]; exact wl_get (by omega))
theorem crG {i : Nat} (hK : wK G s) (hP : wC G a S H) (hi : i < 3) : ∃ cell : Cell, H[a (17 + i)]? = some cell ∧ cell.vm.isStatics = false ∧ s.vm.findClass RX1 = some cell.cls :=
  va_recv (fs := rw1 15 (fun j => .int (S.2.2.2 i j))) hK hP (ci := 1) (q0 := 17 + i) rfl (by rw [← cE_G (y := G.2) (a := a) hi]; exact wl_get (by omega))
end CR
/-! contracts over a world wf of states σ, at the cells ad 0 .. ad (N - 1) -/
def gPre (G : WG) (ws : va_W) (sz : Nat) : State → Prop := fun U => U.heap.size = sz ∧ va_P G.1 vwCl ws U.heap ∧ wK G U
def gPost {σ : Type} (G : WG) (wf : σ → va_W) : σ → State → Prop := fun u t => va_P G.1 vwCl (wf u) t.heap
theorem gPre_bl {G : WG} {ws : va_W} {sz : Nat} {av : List Value} : FrameBlind (va_Pc av (gPre G ws sz)) := fun a U g mk ⟨h0, h1, h2, h3⟩ =>
  ⟨h0, h1, h2, va_K.moved (u := U) (U := U.calling g mk a) (Vm.Alike.refl U.vm) h3⟩
def gMi {σ : Type} (l : Launch) (y : MethodName) (ws : List Cond) (rm : Room) (G : WG) (N : Nat) (ad : Nat → Nat) (wf : σ → va_W) (av : List Value) (S : σ) (sz : Nat) (F : Int32 × σ) : Prop :=
  Met l y ws rm (va_Pc av (gPre G (wf S) sz)) (va_Qi (fun r u => (r, u) = F) (gPost G wf) (wA N ad sz)) 0 0 (wA N ad sz)
def gMv {σ : Type} (l : Launch) (y : MethodName) (ws : List Cond) (rm : Room) (G : WG) (N : Nat) (ad : Nat → Nat) (wf : σ → va_W) (av : List Value) (S : σ) (sz : Nat) (F : σ) : Prop :=
  Met l y ws rm (va_Pc av (gPre G (wf S) sz)) (va_Qv (fun u => u = F) (gPost G wf) (wA N ad sz)) 0 0 (wA N ad sz)
/-- an answer that is true or false -/
def gMz {σ : Type} (l : Launch) (y : MethodName) (ws : List Cond) (rm : Room) (G : WG) (N : Nat) (ad : Nat → Nat) (wf : σ → va_W) (av : List Value) (S : σ) (sz : Nat) (F : Int32 × σ) : Prop :=
  Met l y ws rm (va_Pc av (gPre G (wf S) sz)) (va_Qi (fun r u => (r, u) = F ∧ isB r) (gPost G wf) (wA N ad sz)) 0 0 (wA N ad sz)
/-- an answer that is one of the cells fo 0 .. fo (B9 - 1), or null -/
def gMq {σ : Type} (l : Launch) (y : MethodName) (ws : List Cond) (rm : Room) (G : WG) (N : Nat) (ad : Nat → Nat) (wf : σ → va_W) (fo : Nat → Nat) (B9 : Nat) (av : List Value) (S : σ) (sz : Nat) (F : Option Nat × σ) : Prop :=
  Met l y ws rm (va_Pc av (gPre G (wf S) sz)) (va_Qq (fun r u => ∃ o : Option Nat, r = o.map fo ∧ (o, u) = F ∧ ∀ j, o = some j → j < B9) (gPost G wf) (wA N ad sz)) 0 0 (wA N ad sz)
def gQi {σ : Type} (below : List Frame) (G : WG) (wf : σ → va_W) (N : Nat) (ad : Nat → Nat) (F : Int32 × σ) (args : Array Value) (s : State) : State → Prop := MQ below (va_Qi (fun r u => (r, u) = F) (gPost G wf) (wA N ad s.heap.size)) args s 0 0 (wA N ad s.heap.size)
def gQz {σ : Type} (below : List Frame) (G : WG) (wf : σ → va_W) (N : Nat) (ad : Nat → Nat) (F : Int32 × σ) (args : Array Value) (s : State) : State → Prop := MQ below (va_Qi (fun r u => (r, u) = F ∧ isB r) (gPost G wf) (wA N ad s.heap.size)) args s 0 0 (wA N ad s.heap.size)
def gQv {σ : Type} (below : List Frame) (G : WG) (wf : σ → va_W) (N : Nat) (ad : Nat → Nat) (F : σ) (args : Array Value) (s : State) : State → Prop := MQ below (va_Qv (fun u => u = F) (gPost G wf) (wA N ad s.heap.size)) args s 0 0 (wA N ad s.heap.size)
def gQq {σ : Type} (below : List Frame) (G : WG) (wf : σ → va_W) (N : Nat) (ad : Nat → Nat) (fo : Nat → Nat) (B9 : Nat) (F : Option Nat × σ) (args : Array Value) (s : State) : State → Prop := MQ below (va_Qq (fun r u => ∃ o : Option Nat, r = o.map fo ∧ (o, u) = F ∧ ∀ j, o = some j → j < B9) (gPost G wf) (wA N ad s.heap.size)) args s 0 0 (wA N ad s.heap.size)
theorem wA_up {N : Nat} {ad : Nat → Nat} {s0 s1 : Nat} (h : s0 ≤ s1) : ∀ q, wA N ad s1 q → wA N ad s0 q := fun _ hq => hq.elim Or.inl (fun h2 => Or.inr (Nat.le_trans h h2))
section CC
variable {p : Program} {l : Launch} {e : Env} {R : Room} {s : State} {m : MethodId} {args : Array Value} {below : List Frame} {meth : Method} {c : Code} {H : Heap} {locs : List Loc} {cells slots : Nat} {Q : State → Prop}
variable {cc bytes : ByteArray} {pc : Nat} {ls : Array Slot} {st0 rest As : List Value} {G : WG} {σ : Type} {wf : σ → va_W} {S : σ} {N : Nat} {ad : Nat → Nat} {own C : String} {index nL maxL n b0 : Nat} {y : MethodName} {ret : Option FieldType} {Ts ws : List Cond} {rm : Room}
theorem gcVi {F : Int32 × σ} (S9 : CallFix p m c cc nL s args Ts own) (hK : wK G s) (hP : va_P G.1 vwCl (wf S) H) (hS : va_S (wA N ad s.heap.size) s.heap H locs) (hM : gMi l y ws rm G N ad wf (.ref b0 :: As) S H.size F) (cw : CallW R s args own C index y bytes maxL ret ws rm 0 0 n)
    (hr : ∃ cell : Cell, H[b0]? = some cell ∧ cell.vm.isStatics = false ∧ s.vm.findClass C = some cell.cls) (hn : As.length = n) (hsize : ls.size = nL) (hst : st0 = As.reverse ++ .ref b0 :: rest) (hW : (rest.map fun v => v.category).sum ≤ 8) (hdg : decode cc pc = .ok (.invokevirtual index, 3)) (hf : cells ≤ R.cells ∧ slots ≤ R.slots)
    (kk : ∀ (p1 : Int32 × σ) (H1 : Heap) (locs1 : List Loc), p1 = F → va_P G.1 vwCl (wf p1.2) H1 → va_S (wA N ad s.heap.size) s.heap H1 locs1 → W p l e R s m args below meth c H1 locs1 cells slots Q (F0 m (pc + 3) ls (.int p1.1 :: rest))) : W p l e R s m args below meth c H locs cells slots Q (F0 m pc ls st0) := by
  subst hst
  exact va_calli (va_runV (g := F0 m pc ls (As.reverse ++ .ref b0 :: rest)) S9 hM cw ⟨gPre_bl, hr, fun U hU hW => ⟨rfl, by rw [hU], by rw [hU]; exact hP, va_K.moved hW.alike hK⟩⟩ rfl hn hsize rfl (lv_room hW) hdg hf) hS (fun q _ h => wA_up hS.1 q h) (wA_up hS.1)
    (fun r u t H1 locs1 ht _ hw hB _ _ hS1 => kk (r, u) H1 locs1 hw (by rw [← ht]; exact hB) hS1)
theorem gcVv {F : σ} (S9 : CallFix p m c cc nL s args Ts own) (hK : wK G s) (hP : va_P G.1 vwCl (wf S) H) (hS : va_S (wA N ad s.heap.size) s.heap H locs) (hM : gMv l y ws rm G N ad wf (.ref b0 :: As) S H.size F) (cw : CallW R s args own C index y bytes maxL ret ws rm 0 0 n)
    (hr : ∃ cell : Cell, H[b0]? = some cell ∧ cell.vm.isStatics = false ∧ s.vm.findClass C = some cell.cls) (hn : As.length = n) (hsize : ls.size = nL) (hst : st0 = As.reverse ++ .ref b0 :: rest) (hW : (rest.map fun v => v.category).sum ≤ 8) (hdg : decode cc pc = .ok (.invokevirtual index, 3)) (hf : cells ≤ R.cells ∧ slots ≤ R.slots)
    (kk : ∀ (u : σ) (H1 : Heap) (locs1 : List Loc), u = F → va_P G.1 vwCl (wf u) H1 → va_S (wA N ad s.heap.size) s.heap H1 locs1 → W p l e R s m args below meth c H1 locs1 cells slots Q (F0 m (pc + 3) ls rest)) : W p l e R s m args below meth c H locs cells slots Q (F0 m pc ls st0) := by
  subst hst
  exact va_callv (va_runV (g := F0 m pc ls (As.reverse ++ .ref b0 :: rest)) S9 hM cw ⟨gPre_bl, hr, fun U hU hW => ⟨rfl, by rw [hU], by rw [hU]; exact hP, va_K.moved hW.alike hK⟩⟩ rfl hn hsize rfl (lv_room hW) hdg hf) hS (fun q _ h => wA_up hS.1 q h) (wA_up hS.1)
    (fun u t H1 locs1 ht _ hw hB _ _ hS1 => kk u H1 locs1 hw (by rw [← ht]; exact hB) hS1)
theorem gcVq {fo : Nat → Nat} {B9 : Nat} {F : Option Nat × σ} (S9 : CallFix p m c cc nL s args Ts own) (hK : wK G s) (hP : va_P G.1 vwCl (wf S) H) (hS : va_S (wA N ad s.heap.size) s.heap H locs) (hM : gMq l y ws rm G N ad wf fo B9 (.ref b0 :: As) S H.size F) (cw : CallW R s args own C index y bytes maxL ret ws rm 0 0 n)
    (hr : ∃ cell : Cell, H[b0]? = some cell ∧ cell.vm.isStatics = false ∧ s.vm.findClass C = some cell.cls) (hn : As.length = n) (hsize : ls.size = nL) (hst : st0 = As.reverse ++ .ref b0 :: rest) (hW : (rest.map fun v => v.category).sum ≤ 8) (hdg : decode cc pc = .ok (.invokevirtual index, 3)) (hf : cells ≤ R.cells ∧ slots ≤ R.slots)
    (kk : ∀ (p1 : Option Nat × σ) (H1 : Heap) (locs1 : List Loc), p1 = F → (∀ j, p1.1 = some j → j < B9) → va_P G.1 vwCl (wf p1.2) H1 → va_S (wA N ad s.heap.size) s.heap H1 locs1 → W p l e R s m args below meth c H1 locs1 cells slots Q (F0 m (pc + 3) ls (va_rf (p1.1.map fo) :: rest))) : W p l e R s m args below meth c H locs cells slots Q (F0 m pc ls st0) := by
  subst hst
  exact va_callq (va_runV (g := F0 m pc ls (As.reverse ++ .ref b0 :: rest)) S9 hM cw ⟨gPre_bl, hr, fun U hU hW => ⟨rfl, by rw [hU], by rw [hU]; exact hP, va_K.moved hW.alike hK⟩⟩ rfl hn hsize rfl (lv_room hW) hdg hf) hS (fun q _ h => wA_up hS.1 q h) (wA_up hS.1)
    (fun r u t H1 locs1 ht _ hw hB _ _ hS1 => by
      obtain ⟨o, rfl, hF, hj⟩ := hw
      exact kk (o, u) H1 locs1 hF hj (by rw [← ht]; exact hB) hS1)
theorem gcSi {F : Int32 × σ} (S9 : CallFix p m c cc nL s args Ts own) (hK : wK G s) (hP : va_P G.1 vwCl (wf S) H) (hS : va_S (wA N ad s.heap.size) s.heap H locs) (hM : gMi l y ws rm G N ad wf As S H.size F) (cw : CallB R s args own index y bytes maxL ret ws rm 0 0 n ∧ (Cond.static y).before args s = true)
    (hn : As.length = n) (hsize : ls.size = nL) (hst : st0 = As.reverse ++ rest) (hW : (rest.map fun v => v.category).sum ≤ 8) (hdg : decode cc pc = .ok (.invokestatic index, 3)) (hf : cells ≤ R.cells ∧ slots ≤ R.slots)
    (kk : ∀ (p1 : Int32 × σ) (H1 : Heap) (locs1 : List Loc), p1 = F → va_P G.1 vwCl (wf p1.2) H1 → va_S (wA N ad s.heap.size) s.heap H1 locs1 → W p l e R s m args below meth c H1 locs1 cells slots Q (F0 m (pc + 3) ls (.int p1.1 :: rest))) : W p l e R s m args below meth c H locs cells slots Q (F0 m pc ls st0) := by
  subst hst
  exact va_calli (va_runS (g := F0 m pc ls (As.reverse ++ rest)) S9 hM cw ⟨gPre_bl, fun U hU hW => ⟨rfl, by rw [hU], by rw [hU]; exact hP, va_K.moved hW.alike hK⟩⟩ rfl hn hsize rfl (lv_room hW) hdg hf) hS (fun q _ h => wA_up hS.1 q h) (wA_up hS.1)
    (fun r u t H1 locs1 ht _ hw hB _ _ hS1 => kk (r, u) H1 locs1 hw (by rw [← ht]; exact hB) hS1)
theorem gcVz {F : Int32 × σ} (S9 : CallFix p m c cc nL s args Ts own) (hK : wK G s) (hP : va_P G.1 vwCl (wf S) H) (hS : va_S (wA N ad s.heap.size) s.heap H locs) (hM : gMz l y ws rm G N ad wf (.ref b0 :: As) S H.size F) (cw : CallW R s args own C index y bytes maxL ret ws rm 0 0 n)
    (hr : ∃ cell : Cell, H[b0]? = some cell ∧ cell.vm.isStatics = false ∧ s.vm.findClass C = some cell.cls) (hn : As.length = n) (hsize : ls.size = nL) (hst : st0 = As.reverse ++ .ref b0 :: rest) (hW : (rest.map fun v => v.category).sum ≤ 8) (hdg : decode cc pc = .ok (.invokevirtual index, 3)) (hf : cells ≤ R.cells ∧ slots ≤ R.slots)
    (kk : ∀ (p1 : Int32 × σ) (H1 : Heap) (locs1 : List Loc), p1 = F → isB p1.1 → va_P G.1 vwCl (wf p1.2) H1 → va_S (wA N ad s.heap.size) s.heap H1 locs1 → W p l e R s m args below meth c H1 locs1 cells slots Q (F0 m (pc + 3) ls (.int p1.1 :: rest))) : W p l e R s m args below meth c H locs cells slots Q (F0 m pc ls st0) := by
  subst hst
  exact va_calli (va_runV (g := F0 m pc ls (As.reverse ++ .ref b0 :: rest)) S9 hM cw ⟨gPre_bl, hr, fun U hU hW => ⟨rfl, by rw [hU], by rw [hU]; exact hP, va_K.moved hW.alike hK⟩⟩ rfl hn hsize rfl (lv_room hW) hdg hf) hS (fun q _ h => wA_up hS.1 q h) (wA_up hS.1)
    (fun r u t H1 locs1 ht _ hw hB _ _ hS1 => kk (r, u) H1 locs1 hw.1 hw.2 (by rw [← ht]; exact hB) hS1)
theorem gcSz {F : Int32 × σ} (S9 : CallFix p m c cc nL s args Ts own) (hK : wK G s) (hP : va_P G.1 vwCl (wf S) H) (hS : va_S (wA N ad s.heap.size) s.heap H locs) (hM : gMz l y ws rm G N ad wf As S H.size F) (cw : CallB R s args own index y bytes maxL ret ws rm 0 0 n ∧ (Cond.static y).before args s = true)
    (hn : As.length = n) (hsize : ls.size = nL) (hst : st0 = As.reverse ++ rest) (hW : (rest.map fun v => v.category).sum ≤ 8) (hdg : decode cc pc = .ok (.invokestatic index, 3)) (hf : cells ≤ R.cells ∧ slots ≤ R.slots)
    (kk : ∀ (p1 : Int32 × σ) (H1 : Heap) (locs1 : List Loc), p1 = F → isB p1.1 → va_P G.1 vwCl (wf p1.2) H1 → va_S (wA N ad s.heap.size) s.heap H1 locs1 → W p l e R s m args below meth c H1 locs1 cells slots Q (F0 m (pc + 3) ls (.int p1.1 :: rest))) : W p l e R s m args below meth c H locs cells slots Q (F0 m pc ls st0) := by
  subst hst
  exact va_calli (va_runS (g := F0 m pc ls (As.reverse ++ rest)) S9 hM cw ⟨gPre_bl, fun U hU hW => ⟨rfl, by rw [hU], by rw [hU]; exact hP, va_K.moved hW.alike hK⟩⟩ rfl hn hsize rfl (lv_room hW) hdg hf) hS (fun q _ h => wA_up hS.1 q h) (wA_up hS.1)
    (fun r u t H1 locs1 ht _ hw hB _ _ hS1 => kk (r, u) H1 locs1 hw.1 hw.2 (by rw [← ht]; exact hB) hS1)
-- ends
theorem gRi {F : Int32 × σ} {v : Int32} (hx : p.tables.exec = Jvm.exec) (hb : c.code = cc) (hr : meth.sig.returnType = some .int) (hlocks : meth.locks = false) (hP : va_P G.1 vwCl (wf S) H) (hS : va_S (wA N ad s.heap.size) s.heap H locs) (h : (v, S) = F) (hdg : decode cc pc = .ok (.ireturn, 1)) :
    W p l e R s m args below meth c H locs 0 0 (gQi below G wf N ad F args s) (F0 m pc ls [.int v]) :=
  W.iret (v := v) hx hb hr (fun t ht hW => ⟨⟨v, S, rfl, h, by show va_P _ _ _ _; rw [ht]; exact hP⟩, hS.F ht⟩) hS.2.2 hdg hlocks
theorem gRz {F : Int32 × σ} {v : Int32} (hx : p.tables.exec = Jvm.exec) (hb : c.code = cc) (hr : meth.sig.returnType = some .boolean) (hlocks : meth.locks = false) (hv : isB v) (hP : va_P G.1 vwCl (wf S) H) (hS : va_S (wA N ad s.heap.size) s.heap H locs) (h : (v, S) = F) (hdg : decode cc pc = .ok (.ireturn, 1)) :
    W p l e R s m args below meth c H locs 0 0 (gQz below G wf N ad F args s) (F0 m pc ls [.int v]) :=
  W.zret (v := v) hx hb hr (okB hv).1 (fun t ht hW => ⟨⟨v, S, rfl, ⟨h, hv⟩, by show va_P _ _ _ _; rw [ht]; exact hP⟩, hS.F ht⟩) hS.2.2 hdg hlocks
theorem gRv {F : σ} (hx : p.tables.exec = Jvm.exec) (hb : c.code = cc) (hr : meth.sig.returnType = none) (hlocks : meth.locks = false) (hP : va_P G.1 vwCl (wf S) H) (hS : va_S (wA N ad s.heap.size) s.heap H locs) (h : S = F) (hdg : decode cc pc = .ok (.return_, 1)) :
    W p l e R s m args below meth c H locs 0 0 (gQv below G wf N ad F args s) (F0 m pc ls []) :=
  W.vret hx hb hr (fun t ht hW => ⟨⟨S, rfl, h, by show va_P _ _ _ _; rw [ht]; exact hP⟩, hS.F ht⟩) hS.2.2 hdg hlocks
theorem gRq {fo : Nat → Nat} {B9 : Nat} {F : Option Nat × σ} {o : Option Nat} {C0 : String} (hx : p.tables.exec = Jvm.exec) (hb : c.code = cc) (hr : meth.sig.returnType = some (.object C0)) (hlocks : meth.locks = false) (hj : ∀ j, o = some j → j < B9) (hP : va_P G.1 vwCl (wf S) H) (hS : va_S (wA N ad s.heap.size) s.heap H locs) (h : (o, S) = F) (hdg : decode cc pc = .ok (.areturn, 1)) :
    W p l e R s m args below meth c H locs 0 0 (gQq below G wf N ad fo B9 F args s) (F0 m pc ls [va_rf (o.map fo)]) :=
  W.aret (v := va_rf (o.map fo)) hx hb hr (Or.inl ⟨_, rfl⟩) (by
    cases o with
    | none => exact Or.inl rfl
    | some j => exact Or.inr ⟨_, rfl⟩) (fun t ht hW => ⟨⟨o.map fo, S, rfl, ⟨o, rfl, h, hj⟩, by show va_P _ _ _ _; rw [ht]; exact hP⟩, hS.F ht⟩) hS.2.2 hdg hlocks
end CC
section CX
variable {p : Program} {l : Launch} {e : Env} {R : Room} {s : State} {m : MethodId} {args : Array Value} {below : List Frame} {meth : Method} {c : Code} {H : Heap} {locs : List Loc} {cells slots : Nat} {Q : State → Prop}
variable {cc bytes : ByteArray} {pc : Nat} {ls : Array Slot} {st0 rest As : List Value} {G : WG} {σ : Type} {wf : σ → va_W} {S S' : σ} {v : Int32} {N : Nat} {ad : Nat → Nat} {own C : String} {index nL maxL n b0 : Nat} {y : MethodName} {ret : Option FieldType} {Ts ws : List Cond} {rm : Room}
-- calls whose answer and world stand as they are
theorem gcVi0 (S9 : CallFix p m c cc nL s args Ts own) (hK : wK G s) (hP : va_P G.1 vwCl (wf S) H) (hS : va_S (wA N ad s.heap.size) s.heap H locs) (hM : gMi l y ws rm G N ad wf (.ref b0 :: As) S H.size (v, S')) (cw : CallW R s args own C index y bytes maxL ret ws rm 0 0 n)
    (hr : ∃ cell : Cell, H[b0]? = some cell ∧ cell.vm.isStatics = false ∧ s.vm.findClass C = some cell.cls) (hn : As.length = n) (hsize : ls.size = nL) (hst : st0 = As.reverse ++ .ref b0 :: rest) (hW : (rest.map fun v => v.category).sum ≤ 8) (hdg : decode cc pc = .ok (.invokevirtual index, 3)) (hf : cells ≤ R.cells ∧ slots ≤ R.slots)
    (kk : ∀ (H1 : Heap) (locs1 : List Loc), va_P G.1 vwCl (wf S') H1 → va_S (wA N ad s.heap.size) s.heap H1 locs1 → W p l e R s m args below meth c H1 locs1 cells slots Q (F0 m (pc + 3) ls (.int v :: rest))) : W p l e R s m args below meth c H locs cells slots Q (F0 m pc ls st0) :=
  gcVi S9 hK hP hS hM cw hr hn hsize hst hW hdg hf (fun p1 H1 locs1 e hP hS => by subst e; exact kk H1 locs1 hP hS)
theorem gcVz0 (S9 : CallFix p m c cc nL s args Ts own) (hK : wK G s) (hP : va_P G.1 vwCl (wf S) H) (hS : va_S (wA N ad s.heap.size) s.heap H locs) (hM : gMz l y ws rm G N ad wf (.ref b0 :: As) S H.size (v, S')) (cw : CallW R s args own C index y bytes maxL ret ws rm 0 0 n)
    (hr : ∃ cell : Cell, H[b0]? = some cell ∧ cell.vm.isStatics = false ∧ s.vm.findClass C = some cell.cls) (hn : As.length = n) (hsize : ls.size = nL) (hst : st0 = As.reverse ++ .ref b0 :: rest) (hW : (rest.map fun v => v.category).sum ≤ 8) (hdg : decode cc pc = .ok (.invokevirtual index, 3)) (hf : cells ≤ R.cells ∧ slots ≤ R.slots)
    (kk : ∀ (H1 : Heap) (locs1 : List Loc), isB v → va_P G.1 vwCl (wf S') H1 → va_S (wA N ad s.heap.size) s.heap H1 locs1 → W p l e R s m args below meth c H1 locs1 cells slots Q (F0 m (pc + 3) ls (.int v :: rest))) : W p l e R s m args below meth c H locs cells slots Q (F0 m pc ls st0) :=
  gcVz S9 hK hP hS hM cw hr hn hsize hst hW hdg hf (fun p1 H1 locs1 e hb hP hS => by subst e; exact kk H1 locs1 hb hP hS)
theorem gcSi0 (S9 : CallFix p m c cc nL s args Ts own) (hK : wK G s) (hP : va_P G.1 vwCl (wf S) H) (hS : va_S (wA N ad s.heap.size) s.heap H locs) (hM : gMi l y ws rm G N ad wf As S H.size (v, S')) (cw : CallB R s args own index y bytes maxL ret ws rm 0 0 n ∧ (Cond.static y).before args s = true)
    (hn : As.length = n) (hsize : ls.size = nL) (hst : st0 = As.reverse ++ rest) (hW : (rest.map fun v => v.category).sum ≤ 8) (hdg : decode cc pc = .ok (.invokestatic index, 3)) (hf : cells ≤ R.cells ∧ slots ≤ R.slots)
    (kk : ∀ (H1 : Heap) (locs1 : List Loc), va_P G.1 vwCl (wf S') H1 → va_S (wA N ad s.heap.size) s.heap H1 locs1 → W p l e R s m args below meth c H1 locs1 cells slots Q (F0 m (pc + 3) ls (.int v :: rest))) : W p l e R s m args below meth c H locs cells slots Q (F0 m pc ls st0) :=
  gcSi S9 hK hP hS hM cw hn hsize hst hW hdg hf (fun p1 H1 locs1 e hP hS => by subst e; exact kk H1 locs1 hP hS)
theorem gcSz0 (S9 : CallFix p m c cc nL s args Ts own) (hK : wK G s) (hP : va_P G.1 vwCl (wf S) H) (hS : va_S (wA N ad s.heap.size) s.heap H locs) (hM : gMz l y ws rm G N ad wf As S H.size (v, S')) (cw : CallB R s args own index y bytes maxL ret ws rm 0 0 n ∧ (Cond.static y).before args s = true)
    (hn : As.length = n) (hsize : ls.size = nL) (hst : st0 = As.reverse ++ rest) (hW : (rest.map fun v => v.category).sum ≤ 8) (hdg : decode cc pc = .ok (.invokestatic index, 3)) (hf : cells ≤ R.cells ∧ slots ≤ R.slots)
    (kk : ∀ (H1 : Heap) (locs1 : List Loc), isB v → va_P G.1 vwCl (wf S') H1 → va_S (wA N ad s.heap.size) s.heap H1 locs1 → W p l e R s m args below meth c H1 locs1 cells slots Q (F0 m (pc + 3) ls (.int v :: rest))) : W p l e R s m args below meth c H locs cells slots Q (F0 m pc ls st0) :=
  gcSz S9 hK hP hS hM cw hn hsize hst hW hdg hf (fun p1 H1 locs1 e hb hP hS => by subst e; exact kk H1 locs1 hb hP hS)
-- an answer that is the cell fo j
def gMr {σ : Type} (l : Launch) (y : MethodName) (ws : List Cond) (rm : Room) (G : WG) (N : Nat) (ad : Nat → Nat) (wf : σ → va_W) (fo : Nat → Nat) (B9 : Nat) (av : List Value) (S : σ) (sz : Nat) (F : Nat × σ) : Prop :=
  Met l y ws rm (va_Pc av (gPre G (wf S) sz)) (va_Qq (fun r u => ∃ j : Nat, r = some (fo j) ∧ (j, u) = F ∧ j < B9) (gPost G wf) (wA N ad sz)) 0 0 (wA N ad sz)
def gQr {σ : Type} (below : List Frame) (G : WG) (wf : σ → va_W) (N : Nat) (ad : Nat → Nat) (fo : Nat → Nat) (B9 : Nat) (F : Nat × σ) (args : Array Value) (s : State) : State → Prop := MQ below (va_Qq (fun r u => ∃ j : Nat, r = some (fo j) ∧ (j, u) = F ∧ j < B9) (gPost G wf) (wA N ad s.heap.size)) args s 0 0 (wA N ad s.heap.size)
theorem gcVr0 {fo : Nat → Nat} {B9 j : Nat} (S9 : CallFix p m c cc nL s args Ts own) (hK : wK G s) (hP : va_P G.1 vwCl (wf S) H) (hS : va_S (wA N ad s.heap.size) s.heap H locs) (hM : gMr l y ws rm G N ad wf fo B9 (.ref b0 :: As) S H.size (j, S')) (cw : CallW R s args own C index y bytes maxL ret ws rm 0 0 n)
    (hr : ∃ cell : Cell, H[b0]? = some cell ∧ cell.vm.isStatics = false ∧ s.vm.findClass C = some cell.cls) (hn : As.length = n) (hsize : ls.size = nL) (hst : st0 = As.reverse ++ .ref b0 :: rest) (hW : (rest.map fun v => v.category).sum ≤ 8) (hdg : decode cc pc = .ok (.invokevirtual index, 3)) (hf : cells ≤ R.cells ∧ slots ≤ R.slots)
    (kk : ∀ (H1 : Heap) (locs1 : List Loc), va_P G.1 vwCl (wf S') H1 → va_S (wA N ad s.heap.size) s.heap H1 locs1 → W p l e R s m args below meth c H1 locs1 cells slots Q (F0 m (pc + 3) ls (.ref (fo j) :: rest))) : W p l e R s m args below meth c H locs cells slots Q (F0 m pc ls st0) := by
  subst hst
  exact va_callq (va_runV (g := F0 m pc ls (As.reverse ++ .ref b0 :: rest)) S9 hM cw ⟨gPre_bl, hr, fun U hU hW => ⟨rfl, by rw [hU], by rw [hU]; exact hP, va_K.moved hW.alike hK⟩⟩ rfl hn hsize rfl (lv_room hW) hdg hf) hS (fun q _ h => wA_up hS.1 q h) (wA_up hS.1)
    (fun r u t H1 locs1 ht _ hw hB _ _ hS1 => by
      obtain ⟨o, rfl, hF, hj⟩ := hw
      obtain ⟨rfl, rfl⟩ := Prod.mk.inj hF
      exact kk H1 locs1 (by rw [← ht]; exact hB) hS1)
theorem gRr {fo : Nat → Nat} {B9 j : Nat} {C0 : String} {F : Nat × σ} (hx : p.tables.exec = Jvm.exec) (hb : c.code = cc) (hr : meth.sig.returnType = some (.object C0)) (hlocks : meth.locks = false) (hj : j < B9) (hP : va_P G.1 vwCl (wf S) H) (hS : va_S (wA N ad s.heap.size) s.heap H locs) (h : (j, S) = F) (hdg : decode cc pc = .ok (.areturn, 1)) :
    W p l e R s m args below meth c H locs 0 0 (gQr below G wf N ad fo B9 F args s) (F0 m pc ls [.ref (fo j)]) :=
  W.aret (v := .ref (fo j)) hx hb hr (Or.inl ⟨_, rfl⟩) (Or.inr ⟨_, rfl⟩) (fun t ht hW => ⟨⟨some (fo j), S, rfl, ⟨j, rfl, h, hj⟩, by show va_P _ _ _ _; rw [ht]; exact hP⟩, hS.F ht⟩) hS.2.2 hdg hlocks
end CX
theorem vp_lt {i : Int32} {n : Nat} (h : vp_in i n) : i.toNatClampNeg < n := Nat.not_le.mp fun q => h (Or.inr q)
