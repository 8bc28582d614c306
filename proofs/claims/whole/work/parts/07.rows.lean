/-! ===== rows over the worlds: fields, arrays, calls, ends ===== -/
abbrev wK (G : WG) (s : State) : Prop := va_K G.1 vwCl (wT G.2) s
abbrev wC (G : WG) (a : Nat → Nat) (S : CS) (H : Heap) : Prop := va_P G.1 vwCl (CW G.2 a S) H
abbrev wM (G : WG) (b : Nat → Nat) (n : Nat × Nat × Nat) (M : MS) (H : Heap) : Prop := va_P G.1 vwCl (MW G.2 b n M) H
theorem nI_inc (k : Nat) : nI k + Int32.ofInt 1 = nI (k + 1) := (nI_succ k).symm
theorem iI_p1 (x : Int32) : x + Int32.ofInt 1 = x + 1 := rfl
theorem iI_m1 (x : Int32) : x + Int32.ofInt (-1) = x + (-1) := rfl
theorem nI_ix {k n : Nat} (h : k < n) (hn : n ≤ 10) : vp_in (nI k) n := vp_in_nI h (by omega)
theorem nI_cl {k n : Nat} (h : k < n) (hn : n ≤ 10) : (nI k).toNatClampNeg = k := nI_clamp (by omega)
theorem mLen_le (r : Nat) : mLen r ≤ 10 := by unfold mLen; split <;> omega
section CR
variable {p : Program} {l : Launch} {e : Env} {R : Room} {s : State} {m : MethodId} {args : Array Value} {below : List Frame} {meth : Method} {c : Code} {H : Heap} {locs : List Loc} {cells slots : Nat} {Q : State → Prop}
variable {cc : ByteArray} {pc : Nat} {ls : Array Slot} {rest : List Value} {G : WG} {a b : Nat → Nat} {S : CS} {M : MS} {n : Nat × Nat × Nat} {H0 : Heap} {own : String} {index sz : Nat}
-- fields of the class's objects
theorem cgM (hx : p.tables.exec = Jvm.exec) (hb : c.code = cc) (hw : ∀ w ∈ wsX30, w.before args s = true) (hown : s.vm.findClass own = some m.cls) (hK : wK G s) (hP : wC G a S H) (k : Nat) (hk : k < 16) {v : Value} (hv : cfM a S k = v)
    (hlink : (Cond.fieldLink own index (TX3 k).1 (TX3 k).2.1 (TX3 k).2.2.1).before args s = true) (hdg : decode cc pc = .ok (.getfield index, 3))
    (kk : W p l e R s m args below meth c H locs cells slots Q (F0 m (pc + 3) ls (v :: rest))) : W p l e R s m args below meth c H locs cells slots Q (F0 m pc ls (.ref (a 0) :: rest)) :=
  va_get (D := G.1) (ci := 3) (C := RX3) (T := TX3) (N := 16) (fs := rw1 16 (cfM a S)) hx hb hw (fun _ h => h) hown hK hP 0 (wl_get (by decide)) rfl k hk hlink (fun _ h => h) (by rw [rw1_get hk, hv]) hdg kk
theorem cgL (hx : p.tables.exec = Jvm.exec) (hb : c.code = cc) (hw : ∀ w ∈ wsX20, w.before args s = true) (hown : s.vm.findClass own = some m.cls) (hK : wK G s) (hP : wC G a S H) {i : Nat} (hi : i < 10) (k : Nat) (hk : k < 6)
    (hlink : (Cond.fieldLink own index (TX2 k).1 (TX2 k).2.1 (TX2 k).2.2.1).before args s = true) (hdg : decode cc pc = .ok (.getfield index, 3))
    (kk : W p l e R s m args below meth c H locs cells slots Q (F0 m (pc + 3) ls (.int (S.2.1 i k) :: rest))) : W p l e R s m args below meth c H locs cells slots Q (F0 m pc ls (.ref (a (4 + i)) :: rest)) :=
  va_get (D := G.1) (ci := 2) (C := RX2) (T := TX2) (N := 6) (fs := rw1 6 (fun j => .int (S.2.1 i j))) hx hb hw (fun _ h => h) hown hK hP (4 + i) (by rw [← cE_L (y := G.2) (a := a) hi]; exact wl_get (by omega)) rfl k hk hlink (fun _ h => h) (rw1_get hk) hdg kk
theorem cgB (hx : p.tables.exec = Jvm.exec) (hb : c.code = cc) (hw : ∀ w ∈ wsX00, w.before args s = true) (hown : s.vm.findClass own = some m.cls) (hK : wK G s) (hP : wC G a S H) {i : Nat} (hi : i < 3) (k : Nat) (hk : k < 6)
    (hlink : (Cond.fieldLink own index (TX0 k).1 (TX0 k).2.1 (TX0 k).2.2.1).before args s = true) (hdg : decode cc pc = .ok (.getfield index, 3))
    (kk : W p l e R s m args below meth c H locs cells slots Q (F0 m (pc + 3) ls (.int (S.2.2.1 i k) :: rest))) : W p l e R s m args below meth c H locs cells slots Q (F0 m pc ls (.ref (a (14 + i)) :: rest)) :=
  va_get (D := G.1) (ci := 0) (C := RX0) (T := TX0) (N := 6) (fs := rw1 6 (fun j => .int (S.2.2.1 i j))) hx hb hw (fun _ h => h) hown hK hP (14 + i) (by rw [← cE_B (y := G.2) (a := a) hi]; exact wl_get (by omega)) rfl k hk hlink (fun _ h => h) (rw1_get hk) hdg kk
theorem cgG (hx : p.tables.exec = Jvm.exec) (hb : c.code = cc) (hw : ∀ w ∈ wsX10, w.before args s = true) (hown : s.vm.findClass own = some m.cls) (hK : wK G s) (hP : wC G a S H) {i : Nat} (hi : i < 3) (k : Nat) (hk : k < 15)
    (hlink : (Cond.fieldLink own index (TX1 k).1 (TX1 k).2.1 (TX1 k).2.2.1).before args s = true) (hdg : decode cc pc = .ok (.getfield index, 3))
    (kk : W p l e R s m args below meth c H locs cells slots Q (F0 m (pc + 3) ls (.int (S.2.2.2 i k) :: rest))) : W p l e R s m args below meth c H locs cells slots Q (F0 m pc ls (.ref (a (17 + i)) :: rest)) :=
  va_get (D := G.1) (ci := 1) (C := RX1) (T := TX1) (N := 15) (fs := rw1 15 (fun j => .int (S.2.2.2 i j))) hx hb hw (fun _ h => h) hown hK hP (17 + i) (by rw [← cE_G (y := G.2) (a := a)]; exact wl_get (by omega)) rfl k hk hlink (fun _ h => h) (rw1_get hk) hdg kk
theorem cpM (hx : p.tables.exec = Jvm.exec) (hb : c.code = cc) (hw : ∀ w ∈ wsX30, w.before args s = true) (hown : s.vm.findClass own = some m.cls) (hK : wK G s) (ha : wInj 20 a) (hP : wC G a S H) (hS : va_S (wA 20 a sz) H0 H locs) (k : Nat) (hk : k < 16) (h3 : 3 ≤ k) (hfin : (TX3 k).2.2.2 = false) {v : Int32} (hv : okv (tyX3 k) v)
    (hlink : (Cond.fieldLink own index (TX3 k).1 (TX3 k).2.1 (TX3 k).2.2.1).before args s = true) (hdg : decode cc pc = .ok (.putfield index, 3))
    (kk : ∀ (H1 : Heap) (locs1 : List Loc), wC G a (cuM S k v) H1 → va_S (wA 20 a sz) H0 H1 locs1 → W p l e R s m args below meth c H1 locs1 cells slots Q (F0 m (pc + 3) ls rest)) : W p l e R s m args below meth c H locs cells slots Q (F0 m pc ls (.int v :: .ref (a 0) :: rest)) :=
  va_put (D := G.1) (ci := 3) (C := RX3) (T := TX3) (N := 16) (fs := rw1 16 (cfM a S)) hx hb hw (fun _ h => h) tyX3 tyX3_ok nmX3 hown hK hP (wl_D ha) hS 0 (wl_get (by decide)) rfl k hk hlink (fun _ h => h) hfin (tyX3_ok k hk) hv.1 hv.2 (by rw [rw1_len]; exact hk) hdg (fun H1 locs1 hP1 _ hS1 => kk H1 locs1 (by rw [CW_setM h3] at hP1; exact hP1) hS1)
theorem cpL (hx : p.tables.exec = Jvm.exec) (hb : c.code = cc) (hw : ∀ w ∈ wsX20, w.before args s = true) (hown : s.vm.findClass own = some m.cls) (hK : wK G s) (ha : wInj 20 a) (hP : wC G a S H) (hS : va_S (wA 20 a sz) H0 H locs) {i : Nat} (hi : i < 10) (k : Nat) (hk : k < 6) (hfin : (TX2 k).2.2.2 = false) {v : Int32} (hv : okv (tyX2 k) v)
    (hlink : (Cond.fieldLink own index (TX2 k).1 (TX2 k).2.1 (TX2 k).2.2.1).before args s = true) (hdg : decode cc pc = .ok (.putfield index, 3))
    (kk : ∀ (H1 : Heap) (locs1 : List Loc), wC G a (cuL S i k v) H1 → va_S (wA 20 a sz) H0 H1 locs1 → W p l e R s m args below meth c H1 locs1 cells slots Q (F0 m (pc + 3) ls rest)) : W p l e R s m args below meth c H locs cells slots Q (F0 m pc ls (.int v :: .ref (a (4 + i)) :: rest)) :=
  va_put (D := G.1) (ci := 2) (C := RX2) (T := TX2) (N := 6) (fs := rw1 6 (fun j => .int (S.2.1 i j))) hx hb hw (fun _ h => h) tyX2 tyX2_ok nmX2 hown hK hP (wl_D ha) hS (4 + i) (by rw [← cE_L (y := G.2) (a := a) hi]; exact wl_get (by omega)) rfl k hk hlink (fun _ h => h) hfin (tyX2_ok k hk) hv.1 hv.2 (by rw [rw1_len]; exact hk) hdg (fun H1 locs1 hP1 _ hS1 => kk H1 locs1 (by rw [CW_setL hi] at hP1; exact hP1) hS1)
theorem cpB (hx : p.tables.exec = Jvm.exec) (hb : c.code = cc) (hw : ∀ w ∈ wsX00, w.before args s = true) (hown : s.vm.findClass own = some m.cls) (hK : wK G s) (ha : wInj 20 a) (hP : wC G a S H) (hS : va_S (wA 20 a sz) H0 H locs) {i : Nat} (hi : i < 3) (k : Nat) (hk : k < 6) (hfin : (TX0 k).2.2.2 = false) {v : Int32} (hv : okv (tyX0 k) v)
    (hlink : (Cond.fieldLink own index (TX0 k).1 (TX0 k).2.1 (TX0 k).2.2.1).before args s = true) (hdg : decode cc pc = .ok (.putfield index, 3))
    (kk : ∀ (H1 : Heap) (locs1 : List Loc), wC G a (cuB S i k v) H1 → va_S (wA 20 a sz) H0 H1 locs1 → W p l e R s m args below meth c H1 locs1 cells slots Q (F0 m (pc + 3) ls rest)) : W p l e R s m args below meth c H locs cells slots Q (F0 m pc ls (.int v :: .ref (a (14 + i)) :: rest)) :=
  va_put (D := G.1) (ci := 0) (C := RX0) (T := TX0) (N := 6) (fs := rw1 6 (fun j => .int (S.2.2.1 i j))) hx hb hw (fun _ h => h) tyX0 tyX0_ok nmX0 hown hK hP (wl_D ha) hS (14 + i) (by rw [← cE_B (y := G.2) (a := a) hi]; exact wl_get (by omega)) rfl k hk hlink (fun _ h => h) hfin (tyX0_ok k hk) hv.1 hv.2 (by rw [rw1_len]; exact hk) hdg (fun H1 locs1 hP1 _ hS1 => kk H1 locs1 (by rw [CW_setB hi] at hP1; exact hP1) hS1)
theorem cpG (hx : p.tables.exec = Jvm.exec) (hb : c.code = cc) (hw : ∀ w ∈ wsX10, w.before args s = true) (hown : s.vm.findClass own = some m.cls) (hK : wK G s) (ha : wInj 20 a) (hP : wC G a S H) (hS : va_S (wA 20 a sz) H0 H locs) {i : Nat} (hi : i < 3) (k : Nat) (hk : k < 15) (hfin : (TX1 k).2.2.2 = false) {v : Int32} (hv : okv (tyX1 k) v)
    (hlink : (Cond.fieldLink own index (TX1 k).1 (TX1 k).2.1 (TX1 k).2.2.1).before args s = true) (hdg : decode cc pc = .ok (.putfield index, 3))
    (kk : ∀ (H1 : Heap) (locs1 : List Loc), wC G a (cuG S i k v) H1 → va_S (wA 20 a sz) H0 H1 locs1 → W p l e R s m args below meth c H1 locs1 cells slots Q (F0 m (pc + 3) ls rest)) : W p l e R s m args below meth c H locs cells slots Q (F0 m pc ls (.int v :: .ref (a (17 + i)) :: rest)) :=
  va_put (D := G.1) (ci := 1) (C := RX1) (T := TX1) (N := 15) (fs := rw1 15 (fun j => .int (S.2.2.2 i j))) hx hb hw (fun _ h => h) tyX1 tyX1_ok nmX1 hown hK hP (wl_D ha) hS (17 + i) (by rw [← cE_G (y := G.2) (a := a)]; exact wl_get (by omega)) rfl k hk hlink (fun _ h => h) hfin (tyX1_ok k hk) hv.1 hv.2 (by rw [rw1_len]; exact hk) hdg (fun H1 locs1 hP1 _ hS1 => kk H1 locs1 (by rw [CW_setG] at hP1; exact hP1) hS1)
-- the class's arrays: lengths and rows
theorem clL (hx : p.tables.exec = Jvm.exec) (hb : c.code = cc) (hK : wK G s) (hP : wC G a S H) (hdg : decode cc pc = .ok (.arraylength, 1))
    (kk : W p l e R s m args below meth c H locs cells slots Q (F0 m (pc + 1) ls (.int (nI 10) :: rest))) : W p l e R s m args below meth c H locs cells slots Q (F0 m pc ls (.ref (a 1) :: rest)) :=
  va_alen (D := G.1) (cA := G.2 2) (x := (10, .inr (.inr (.inr (.inr (fun i => some (a (4 + i)))))))) (ty := .object RX2) hx hb hK hP 1 2 (wl_get (by decide)) rfl rfl hdg kk
theorem clB (hx : p.tables.exec = Jvm.exec) (hb : c.code = cc) (hK : wK G s) (hP : wC G a S H) (hdg : decode cc pc = .ok (.arraylength, 1))
    (kk : W p l e R s m args below meth c H locs cells slots Q (F0 m (pc + 1) ls (.int (nI 3) :: rest))) : W p l e R s m args below meth c H locs cells slots Q (F0 m pc ls (.ref (a 2) :: rest)) :=
  va_alen (D := G.1) (cA := G.2 3) (x := (3, .inr (.inr (.inr (.inr (fun i => some (a (14 + i)))))))) (ty := .object RX0) hx hb hK hP 2 3 (wl_get (by decide)) rfl rfl hdg kk
theorem clG (hx : p.tables.exec = Jvm.exec) (hb : c.code = cc) (hK : wK G s) (hP : wC G a S H) (hdg : decode cc pc = .ok (.arraylength, 1))
    (kk : W p l e R s m args below meth c H locs cells slots Q (F0 m (pc + 1) ls (.int (nI 3) :: rest))) : W p l e R s m args below meth c H locs cells slots Q (F0 m pc ls (.ref (a 3) :: rest)) :=
  va_alen (D := G.1) (cA := G.2 4) (x := (3, .inr (.inr (.inr (.inr (fun i => some (a (17 + i)))))))) (ty := .object RX1) hx hb hK hP 3 4 (wl_get (by decide)) rfl rfl hdg kk
theorem crdL (hx : p.tables.exec = Jvm.exec) (hb : c.code = cc) (hK : wK G s) (hP : wC G a S H) {k : Nat} (hk : k < 10) (hdg : decode cc pc = .ok (.aaload, 1))
    (kk : W p l e R s m args below meth c H locs cells slots Q (F0 m (pc + 1) ls (.ref (a (4 + k)) :: rest))) : W p l e R s m args below meth c H locs cells slots Q (F0 m pc ls (.int (nI k) :: .ref (a 1) :: rest)) :=
  va_aldq (D := G.1) (cA := G.2 2) (C := RX2) (n := 10) (f := fun i => some (a (4 + i))) hx hb hK hP 1 2 (wl_get (by decide)) rfl (nI_ix hk (by decide)) hdg (by rw [nI_cl hk (by decide)]; exact kk)
theorem crdB (hx : p.tables.exec = Jvm.exec) (hb : c.code = cc) (hK : wK G s) (hP : wC G a S H) {k : Nat} (hk : k < 3) (hdg : decode cc pc = .ok (.aaload, 1))
    (kk : W p l e R s m args below meth c H locs cells slots Q (F0 m (pc + 1) ls (.ref (a (14 + k)) :: rest))) : W p l e R s m args below meth c H locs cells slots Q (F0 m pc ls (.int (nI k) :: .ref (a 2) :: rest)) :=
  va_aldq (D := G.1) (cA := G.2 3) (C := RX0) (n := 3) (f := fun i => some (a (14 + i))) hx hb hK hP 2 3 (wl_get (by decide)) rfl (nI_ix hk (by decide)) hdg (by rw [nI_cl hk (by decide)]; exact kk)
theorem crdG (hx : p.tables.exec = Jvm.exec) (hb : c.code = cc) (hK : wK G s) (hP : wC G a S H) {k : Nat} (hk : k < 3) (hdg : decode cc pc = .ok (.aaload, 1))
    (kk : W p l e R s m args below meth c H locs cells slots Q (F0 m (pc + 1) ls (.ref (a (17 + k)) :: rest))) : W p l e R s m args below meth c H locs cells slots Q (F0 m pc ls (.int (nI k) :: .ref (a 3) :: rest)) :=
  va_aldq (D := G.1) (cA := G.2 4) (C := RX1) (n := 3) (f := fun i => some (a (17 + i))) hx hb hK hP 3 4 (wl_get (by decide)) rfl (nI_ix hk (by decide)) hdg (by rw [nI_cl hk (by decide)]; exact kk)
-- the model's own fields and rows
theorem mg (hx : p.tables.exec = Jvm.exec) (hb : c.code = cc) (hw : ∀ w ∈ wsX40, w.before args s = true) (hown : s.vm.findClass own = some m.cls) (hK : wK G s) (hP : wM G b n M H) (k : Nat) (hk : k < 40) {v : Value} (hv : mfO b n M k = v)
    (hlink : (Cond.fieldLink own index (TX4 k).1 (TX4 k).2.1 (TX4 k).2.2.1).before args s = true) (hdg : decode cc pc = .ok (.getfield index, 3))
    (kk : W p l e R s m args below meth c H locs cells slots Q (F0 m (pc + 3) ls (v :: rest))) : W p l e R s m args below meth c H locs cells slots Q (F0 m pc ls (.ref (b 0) :: rest)) :=
  va_get (D := G.1) (ci := 4) (C := RX4) (T := TX4) (N := 40) (fs := rw1 40 (mfO b n M)) hx hb hw (fun _ h => h) hown hK hP 0 (wl_get (by decide)) rfl k hk hlink (fun _ h => h) (by rw [rw1_get hk, hv]) hdg kk
theorem mp (hx : p.tables.exec = Jvm.exec) (hb : c.code = cc) (hw : ∀ w ∈ wsX40, w.before args s = true) (hown : s.vm.findClass own = some m.cls) (hK : wK G s) (ha : wInj 27 b) (hP : wM G b n M H) (hS : va_S (wA 27 b sz) H0 H locs) (k : Nat) (hk : k < 40) (hI : mIsI k = true) (hfin : (TX4 k).2.2.2 = false) {v : Int32} (hv : okv (tyX4 k) v)
    (hlink : (Cond.fieldLink own index (TX4 k).1 (TX4 k).2.1 (TX4 k).2.2.1).before args s = true) (hdg : decode cc pc = .ok (.putfield index, 3))
    (kk : ∀ (H1 : Heap) (locs1 : List Loc), wM G b n (muS M k v) H1 → va_S (wA 27 b sz) H0 H1 locs1 → W p l e R s m args below meth c H1 locs1 cells slots Q (F0 m (pc + 3) ls rest)) : W p l e R s m args below meth c H locs cells slots Q (F0 m pc ls (.int v :: .ref (b 0) :: rest)) :=
  va_put (D := G.1) (ci := 4) (C := RX4) (T := TX4) (N := 40) (fs := rw1 40 (mfO b n M)) hx hb hw (fun _ h => h) tyX4 tyX4_ok nmX4 hown hK hP (wl_D ha) hS 0 (wl_get (by decide)) rfl k hk hlink (fun _ h => h) hfin (tyX4_ok k hk) hv.1 hv.2 (by rw [rw1_len]; exact hk) hdg (fun H1 locs1 hP1 _ hS1 => kk H1 locs1 (by rw [MW_setS hI] at hP1; exact hP1) hS1)
theorem mpN {n' : Nat × Nat × Nat} (hx : p.tables.exec = Jvm.exec) (hb : c.code = cc) (hw : ∀ w ∈ wsX40, w.before args s = true) (hown : s.vm.findClass own = some m.cls) (hK : wK G s) (ha : wInj 27 b) (hP : wM G b n M H) (hS : va_S (wA 27 b sz) H0 H locs) (k : Nat) (hk : k < 40) (hfin : (TX4 k).2.2.2 = false) {v : Int32} (hv : okv (tyX4 k) v) (h1 : mfO b n' M k = .int v) (h2 : ∀ j, j < 40 → j ≠ k → mfO b n' M j = mfO b n M j)
    (hlink : (Cond.fieldLink own index (TX4 k).1 (TX4 k).2.1 (TX4 k).2.2.1).before args s = true) (hdg : decode cc pc = .ok (.putfield index, 3))
    (kk : ∀ (H1 : Heap) (locs1 : List Loc), wM G b n' M H1 → va_S (wA 27 b sz) H0 H1 locs1 → W p l e R s m args below meth c H1 locs1 cells slots Q (F0 m (pc + 3) ls rest)) : W p l e R s m args below meth c H locs cells slots Q (F0 m pc ls (.int v :: .ref (b 0) :: rest)) :=
  va_put (D := G.1) (ci := 4) (C := RX4) (T := TX4) (N := 40) (fs := rw1 40 (mfO b n M)) hx hb hw (fun _ h => h) tyX4 tyX4_ok nmX4 hown hK hP (wl_D ha) hS 0 (wl_get (by decide)) rfl k hk hlink (fun _ h => h) hfin (tyX4_ok k hk) hv.1 hv.2 (by rw [rw1_len]; exact hk) hdg (fun H1 locs1 hP1 _ hS1 => kk H1 locs1 (by rw [MW_setN h1 h2] at hP1; exact hP1) hS1)
theorem mE_A {y : Nat → ClassId} {r : Nat} (h : r ≠ 0) : mE y b n M r = .inl (y (if r = 17 then 1 else 0), mLen r, .inl (M.2 r)) := by
  unfold mE
  rw [if_neg h]
/-- a number's row at r: index i in range -/
theorem mldI (hx : p.tables.exec = Jvm.exec) (hb : c.code = cc) (hK : wK G s) (hP : wM G b n M H) (r : Nat) (hr : r < 27 ∧ r ≠ 0 ∧ r ≠ 17) {i : Int32} (hi : vp_in i (mLen r)) (hdg : decode cc pc = .ok (.iaload, 1))
    (kk : W p l e R s m args below meth c H locs cells slots Q (F0 m (pc + 1) ls (.int (M.2 r i.toNatClampNeg) :: rest))) : W p l e R s m args below meth c H locs cells slots Q (F0 m pc ls (.int i :: .ref (b r) :: rest)) :=
  va_iald (D := G.1) (cA := G.2 0) (n := mLen r) (f := M.2 r) hx hb hK hP r 0 (by have h := mE_A (b := b) (n := n) (M := M) (y := G.2) hr.2.1; rw [if_neg hr.2.2] at h; rw [← h]; exact wl_get hr.1) rfl hi hdg kk
theorem mld (hx : p.tables.exec = Jvm.exec) (hb : c.code = cc) (hK : wK G s) (hP : wM G b n M H) (r : Nat) (hr : r < 27 ∧ r ≠ 0 ∧ r ≠ 17) {k : Nat} (hk : k < mLen r) (hdg : decode cc pc = .ok (.iaload, 1))
    (kk : W p l e R s m args below meth c H locs cells slots Q (F0 m (pc + 1) ls (.int (M.2 r k) :: rest))) : W p l e R s m args below meth c H locs cells slots Q (F0 m pc ls (.int (nI k) :: .ref (b r) :: rest)) :=
  mldI hx hb hK hP r hr (nI_ix hk (mLen_le r)) hdg (by rw [nI_cl hk (mLen_le r)]; exact kk)
theorem mstI (hx : p.tables.exec = Jvm.exec) (hb : c.code = cc) (hK : wK G s) (ha : wInj 27 b) (hP : wM G b n M H) (hS : va_S (wA 27 b sz) H0 H locs) (r : Nat) (hr : r < 27 ∧ r ≠ 0 ∧ r ≠ 17) {i v : Int32} (hi : vp_in i (mLen r)) (hdg : decode cc pc = .ok (.iastore, 1))
    (kk : ∀ (H1 : Heap) (locs1 : List Loc), wM G b n (muA M r i.toNatClampNeg v) H1 → va_S (wA 27 b sz) H0 H1 locs1 → W p l e R s m args below meth c H1 locs1 cells slots Q (F0 m (pc + 1) ls rest)) : W p l e R s m args below meth c H locs cells slots Q (F0 m pc ls (.int v :: .int i :: .ref (b r) :: rest)) :=
  va_iast (D := G.1) (cA := G.2 0) (n := mLen r) (f := M.2 r) hx hb hK hP (wl_D ha) hS r 0 (by have h := mE_A (b := b) (n := n) (M := M) (y := G.2) hr.2.1; rw [if_neg hr.2.2] at h; rw [← h]; exact wl_get hr.1) rfl hi hdg (fun H1 locs1 hP1 _ hS1 => kk H1 locs1 (by have h := MW_setA (y := G.2) (b := b) (n := n) (M := M) (i := i.toNatClampNeg) (v := v) hr.2.1; rw [if_neg hr.2.2] at h; unfold wM; rw [← h]; exact hP1) hS1)
theorem mst (hx : p.tables.exec = Jvm.exec) (hb : c.code = cc) (hK : wK G s) (ha : wInj 27 b) (hP : wM G b n M H) (hS : va_S (wA 27 b sz) H0 H locs) (r : Nat) (hr : r < 27 ∧ r ≠ 0 ∧ r ≠ 17) {k : Nat} {v : Int32} (hk : k < mLen r) (hdg : decode cc pc = .ok (.iastore, 1))
    (kk : ∀ (H1 : Heap) (locs1 : List Loc), wM G b n (muA M r k v) H1 → va_S (wA 27 b sz) H0 H1 locs1 → W p l e R s m args below meth c H1 locs1 cells slots Q (F0 m (pc + 1) ls rest)) : W p l e R s m args below meth c H locs cells slots Q (F0 m pc ls (.int v :: .int (nI k) :: .ref (b r) :: rest)) :=
  mstI hx hb hK ha hP hS r hr (nI_ix hk (mLen_le r)) hdg (fun H1 locs1 hP1 hS1 => kk H1 locs1 (by rw [nI_cl hk (mLen_le r)] at hP1; exact hP1) hS1)
/-- the row of booleans -/
theorem mzldI (hx : p.tables.exec = Jvm.exec) (hb : c.code = cc) (hK : wK G s) (hP : wM G b n M H) {i : Int32} (hi : vp_in i 3) (hdg : decode cc pc = .ok (.baload, 1))
    (kk : W p l e R s m args below meth c H locs cells slots Q (F0 m (pc + 1) ls (.int (M.2 17 i.toNatClampNeg) :: rest))) : W p l e R s m args below meth c H locs cells slots Q (F0 m pc ls (.int i :: .ref (b 17) :: rest)) :=
  va_zald (D := G.1) (cA := G.2 1) (n := 3) (f := M.2 17) hx hb hK hP 17 1 (by have h := mE_A (b := b) (n := n) (M := M) (y := G.2) (r := 17) (by decide); rw [if_pos rfl] at h; exact (wl_get (by decide)).trans (congrArg (fun z => some (b 17, z)) h)) rfl hi hdg kk
theorem mzld (hx : p.tables.exec = Jvm.exec) (hb : c.code = cc) (hK : wK G s) (hP : wM G b n M H) {k : Nat} (hk : k < 3) (hdg : decode cc pc = .ok (.baload, 1))
    (kk : W p l e R s m args below meth c H locs cells slots Q (F0 m (pc + 1) ls (.int (M.2 17 k) :: rest))) : W p l e R s m args below meth c H locs cells slots Q (F0 m pc ls (.int (nI k) :: .ref (b 17) :: rest)) :=
  mzldI hx hb hK hP (nI_ix hk (by decide)) hdg (by rw [nI_cl hk (by decide)]; exact kk)
theorem mzst (hx : p.tables.exec = Jvm.exec) (hb : c.code = cc) (hK : wK G s) (ha : wInj 27 b) (hP : wM G b n M H) (hS : va_S (wA 27 b sz) H0 H locs) {k : Nat} {v : Int32} (hv : isB v) (hk : k < 3) (hdg : decode cc pc = .ok (.bastore, 1))
    (kk : ∀ (H1 : Heap) (locs1 : List Loc), wM G b n (muA M 17 k v) H1 → va_S (wA 27 b sz) H0 H1 locs1 → W p l e R s m args below meth c H1 locs1 cells slots Q (F0 m (pc + 1) ls rest)) : W p l e R s m args below meth c H locs cells slots Q (F0 m pc ls (.int v :: .int (nI k) :: .ref (b 17) :: rest)) :=
  va_zast (D := G.1) (cA := G.2 1) (n := 3) (f := M.2 17) hx hb hK hP (wl_D ha) hS 17 1 (by have h := mE_A (b := b) (n := n) (M := M) (y := G.2) (r := 17) (by decide); rw [if_pos rfl] at h; exact (wl_get (by decide)).trans (congrArg (fun z => some (b 17, z)) h)) rfl (nI_ix hk (by decide)) hdg (fun H1 locs1 hP1 _ hS1 => kk H1 locs1 (by
    have h := MW_setA (y := G.2) (b := b) (n := n) (M := M) (r := 17) (i := k) (v := v) (by decide)
    rw [nI_cl hk (by decide), narB hv] at hP1
    unfold wM
    rw [← h]
    exact hP1) hS1)
-- receivers
theorem crM (hK : wK G s) (hP : wC G a S H) : ∃ cell : Cell, H[a 0]? = some cell ∧ cell.vm.isStatics = false ∧ s.vm.findClass RX3 = some cell.cls :=
  va_recv (fs := rw1 16 (cfM a S)) hK hP (ci := 3) (q0 := 0) rfl (wl_get (by decide))
theorem crL {i : Nat} (hK : wK G s) (hP : wC G a S H) (hi : i < 10) : ∃ cell : Cell, H[a (4 + i)]? = some cell ∧ cell.vm.isStatics = false ∧ s.vm.findClass RX2 = some cell.cls :=
  va_recv (fs := rw1 6 (fun j => .int (S.2.1 i j))) hK hP (ci := 2) (q0 := 4 + i) rfl (by rw [← cE_L (y := G.2) (a := a) hi]; exact wl_get (by omega))
theorem crB {i : Nat} (hK : wK G s) (hP : wC G a S H) (hi : i < 3) : ∃ cell : Cell, H[a (14 + i)]? = some cell ∧ cell.vm.isStatics = false ∧ s.vm.findClass RX0 = some cell.cls :=
  va_recv (fs := rw1 6 (fun j => .int (S.2.2.1 i j))) hK hP (ci := 0) (q0 := 14 + i) rfl (by rw [← cE_B (y := G.2) (a := a) hi]; exact wl_get (by omega))
theorem crG {i : Nat} (hK : wK G s) (hP : wC G a S H) (hi : i < 3) : ∃ cell : Cell, H[a (17 + i)]? = some cell ∧ cell.vm.isStatics = false ∧ s.vm.findClass RX1 = some cell.cls :=
  va_recv (fs := rw1 15 (fun j => .int (S.2.2.2 i j))) hK hP (ci := 1) (q0 := 17 + i) rfl (by rw [← cE_G (y := G.2) (a := a)]; exact wl_get (by omega))
theorem mrO (hK : wK G s) (hP : wM G b n M H) : ∃ cell : Cell, H[b 0]? = some cell ∧ cell.vm.isStatics = false ∧ s.vm.findClass RX4 = some cell.cls :=
  va_recv (fs := rw1 40 (mfO b n M)) hK hP (ci := 4) (q0 := 0) rfl (wl_get (by decide))
end CR
/-! contracts over a world wf of states σ, at the cells ad 0 .. ad (N - 1) -/
def gPre (G : WG) (ws : va_W) (sz : Nat) : State → Prop := fun U => U.heap.size = sz ∧ va_P G.1 vwCl ws U.heap ∧ wK G U
def gPost {σ : Type} (G : WG) (wf : σ → va_W) : σ → State → Prop := fun u t => va_P G.1 vwCl (wf u) t.heap
theorem gPre_bl {G : WG} {ws : va_W} {sz : Nat} {av : List Value} : FrameBlind (va_Pc av (gPre G ws sz)) := fun a U g mk ⟨h0, h1, h2, h3⟩ =>
  ⟨h0, h1, h2, va_K.moved (u := U) (U := U.calling g mk a) (Vm.Alike.refl U.vm) h3⟩
def gMi {σ : Type} (l : Launch) (y : MethodName) (ws : List Cond) (rm : Room) (G : WG) (N : Nat) (ad : Nat → Nat) (wf : σ → va_W) (av : List Value) (S : σ) (sz : Nat) (F : Int32 × σ) : Prop :=
  Met l y ws rm (va_Pc av (gPre G (wf S) sz)) (va_Qi (fun r u => (r, u) = F) (gPost G wf) (wA N ad sz)) 0 0 (wA N ad sz)
def gMv {σ : Type} (l : Launch) (y : MethodName) (ws : List Cond) (rm : Room) (G : WG) (N : Nat) (ad : Nat → Nat) (wf : σ → va_W) (av : List Value) (S : σ) (sz : Nat) (F : σ) : Prop :=
  Met l y ws rm (va_Pc av (gPre G (wf S) sz)) (va_Qv (fun u => u = F) (gPost G wf) (wA N ad sz)) 0 0 (wA N ad sz)
/-- an answer that is true or false -/
def gMz {σ : Type} (l : Launch) (y : MethodName) (ws : List Cond) (rm : Room) (G : WG) (N : Nat) (ad : Nat → Nat) (wf : σ → va_W) (av : List Value) (S : σ) (sz : Nat) (F : Int32 × σ) : Prop :=
  Met l y ws rm (va_Pc av (gPre G (wf S) sz)) (va_Qi (fun r u => (r, u) = F ∧ isB r) (gPost G wf) (wA N ad sz)) 0 0 (wA N ad sz)
/-- an answer that is one of the cells fo 0 .. fo (B9 - 1), or null -/
def gMq {σ : Type} (l : Launch) (y : MethodName) (ws : List Cond) (rm : Room) (G : WG) (N : Nat) (ad : Nat → Nat) (wf : σ → va_W) (fo : Nat → Nat) (B9 : Nat) (av : List Value) (S : σ) (sz : Nat) (F : Option Nat × σ) : Prop :=
  Met l y ws rm (va_Pc av (gPre G (wf S) sz)) (va_Qq (fun r u => ∃ o : Option Nat, r = o.map fo ∧ (o, u) = F ∧ ∀ j, o = some j → j < B9) (gPost G wf) (wA N ad sz)) 0 0 (wA N ad sz)
def gQi {σ : Type} (below : List Frame) (G : WG) (wf : σ → va_W) (N : Nat) (ad : Nat → Nat) (F : Int32 × σ) (args : Array Value) (s : State) : State → Prop := MQ below (va_Qi (fun r u => (r, u) = F) (gPost G wf) (wA N ad s.heap.size)) args s 0 0 (wA N ad s.heap.size)
def gQz {σ : Type} (below : List Frame) (G : WG) (wf : σ → va_W) (N : Nat) (ad : Nat → Nat) (F : Int32 × σ) (args : Array Value) (s : State) : State → Prop := MQ below (va_Qi (fun r u => (r, u) = F ∧ isB r) (gPost G wf) (wA N ad s.heap.size)) args s 0 0 (wA N ad s.heap.size)
def gQv {σ : Type} (below : List Frame) (G : WG) (wf : σ → va_W) (N : Nat) (ad : Nat → Nat) (F : σ) (args : Array Value) (s : State) : State → Prop := MQ below (va_Qv (fun u => u = F) (gPost G wf) (wA N ad s.heap.size)) args s 0 0 (wA N ad s.heap.size)
def gQq {σ : Type} (below : List Frame) (G : WG) (wf : σ → va_W) (N : Nat) (ad : Nat → Nat) (fo : Nat → Nat) (B9 : Nat) (F : Option Nat × σ) (args : Array Value) (s : State) : State → Prop := MQ below (va_Qq (fun r u => ∃ o : Option Nat, r = o.map fo ∧ (o, u) = F ∧ ∀ j, o = some j → j < B9) (gPost G wf) (wA N ad s.heap.size)) args s 0 0 (wA N ad s.heap.size)
theorem wA_up {N : Nat} {ad : Nat → Nat} {s0 s1 : Nat} (h : s0 ≤ s1) : ∀ q, wA N ad s1 q → wA N ad s0 q := fun _ hq => hq.elim Or.inl (fun h2 => Or.inr (Nat.le_trans h h2))
section CC
variable {p : Program} {l : Launch} {e : Env} {R : Room} {s : State} {m : MethodId} {args : Array Value} {below : List Frame} {meth : Method} {c : Code} {H : Heap} {locs : List Loc} {cells slots : Nat} {Q : State → Prop}
variable {cc bytes : ByteArray} {pc : Nat} {ls : Array Slot} {st0 rest As : List Value} {G : WG} {σ : Type} {wf : σ → va_W} {S : σ} {N : Nat} {ad : Nat → Nat} {own C : String} {index nL maxL n b0 : Nat} {y : MethodName} {ret : Option FieldType} {Ts ws : List Cond} {rm : Room}
theorem gcVi {F : Int32 × σ} (S9 : CallFix p m c cc nL s args Ts own) (hK : wK G s) (hP : va_P G.1 vwCl (wf S) H) (hS : va_S (wA N ad s.heap.size) s.heap H locs) (hM : gMi l y ws rm G N ad wf (.ref b0 :: As) S H.size F) (cw : CallW R s args own C index y bytes maxL ret ws rm 0 0 n)
    (hr : ∃ cell : Cell, H[b0]? = some cell ∧ cell.vm.isStatics = false ∧ s.vm.findClass C = some cell.cls) (hn : As.length = n) (hsize : ls.size = nL) (hst : st0 = As.reverse ++ .ref b0 :: rest) (hW : (rest.map fun v => v.category).sum ≤ 8) (hdg : decode cc pc = .ok (.invokevirtual index, 3)) (hf : cells ≤ R.cells ∧ slots ≤ R.slots)
    (kk : ∀ (p1 : Int32 × σ) (H1 : Heap) (locs1 : List Loc), p1 = F → va_P G.1 vwCl (wf p1.2) H1 → va_S (wA N ad s.heap.size) s.heap H1 locs1 → W p l e R s m args below meth c H1 locs1 cells slots Q (F0 m (pc + 3) ls (.int p1.1 :: rest))) : W p l e R s m args below meth c H locs cells slots Q (F0 m pc ls st0) := by
  subst hst
  exact va_calli (va_runV (g := F0 m pc ls (As.reverse ++ .ref b0 :: rest)) S9 hM cw ⟨gPre_bl, hr, fun U hU hW => ⟨rfl, by rw [hU], by rw [hU]; exact hP, va_K.moved hW.alike hK⟩⟩ rfl hn hsize rfl (lv_room hW) hdg hf) hS (fun q _ h => wA_up hS.1 q h) (wA_up hS.1)
    (fun r u t H1 locs1 ht _ hw hB _ _ hS1 => kk (r, u) H1 locs1 hw (by rw [← ht]; exact hB) hS1)
theorem gcVv {F : σ} (S9 : CallFix p m c cc nL s args Ts own) (hK : wK G s) (hP : va_P G.1 vwCl (wf S) H) (hS : va_S (wA N ad s.heap.size) s.heap H locs) (hM : gMv l y ws rm G N ad wf (.ref b0 :: As) S H.size F) (cw : CallW R s args own C index y bytes maxL ret ws rm 0 0 n)
    (hr : ∃ cell : Cell, H[b0]? = some cell ∧ cell.vm.isStatics = false ∧ s.vm.findClass C = some cell.cls) (hn : As.length = n) (hsize : ls.size = nL) (hst : st0 = As.reverse ++ .ref b0 :: rest) (hW : (rest.map fun v => v.category).sum ≤ 8) (hdg : decode cc pc = .ok (.invokevirtual index, 3)) (hf : cells ≤ R.cells ∧ slots ≤ R.slots)
    (kk : ∀ (u : σ) (H1 : Heap) (locs1 : List Loc), u = F → va_P G.1 vwCl (wf u) H1 → va_S (wA N ad s.heap.size) s.heap H1 locs1 → W p l e R s m args below meth c H1 locs1 cells slots Q (F0 m (pc + 3) ls rest)) : W p l e R s m args below meth c H locs cells slots Q (F0 m pc ls st0) := by
  subst hst
  exact va_callv (va_runV (g := F0 m pc ls (As.reverse ++ .ref b0 :: rest)) S9 hM cw ⟨gPre_bl, hr, fun U hU hW => ⟨rfl, by rw [hU], by rw [hU]; exact hP, va_K.moved hW.alike hK⟩⟩ rfl hn hsize rfl (lv_room hW) hdg hf) hS (fun q _ h => wA_up hS.1 q h) (wA_up hS.1)
    (fun u t H1 locs1 ht _ hw hB _ _ hS1 => kk u H1 locs1 hw (by rw [← ht]; exact hB) hS1)
theorem gcVq {fo : Nat → Nat} {B9 : Nat} {F : Option Nat × σ} (S9 : CallFix p m c cc nL s args Ts own) (hK : wK G s) (hP : va_P G.1 vwCl (wf S) H) (hS : va_S (wA N ad s.heap.size) s.heap H locs) (hM : gMq l y ws rm G N ad wf fo B9 (.ref b0 :: As) S H.size F) (cw : CallW R s args own C index y bytes maxL ret ws rm 0 0 n)
    (hr : ∃ cell : Cell, H[b0]? = some cell ∧ cell.vm.isStatics = false ∧ s.vm.findClass C = some cell.cls) (hn : As.length = n) (hsize : ls.size = nL) (hst : st0 = As.reverse ++ .ref b0 :: rest) (hW : (rest.map fun v => v.category).sum ≤ 8) (hdg : decode cc pc = .ok (.invokevirtual index, 3)) (hf : cells ≤ R.cells ∧ slots ≤ R.slots)
    (kk : ∀ (p1 : Option Nat × σ) (H1 : Heap) (locs1 : List Loc), p1 = F → (∀ j, p1.1 = some j → j < B9) → va_P G.1 vwCl (wf p1.2) H1 → va_S (wA N ad s.heap.size) s.heap H1 locs1 → W p l e R s m args below meth c H1 locs1 cells slots Q (F0 m (pc + 3) ls (va_rf (p1.1.map fo) :: rest))) : W p l e R s m args below meth c H locs cells slots Q (F0 m pc ls st0) := by
  subst hst
  exact va_callq (va_runV (g := F0 m pc ls (As.reverse ++ .ref b0 :: rest)) S9 hM cw ⟨gPre_bl, hr, fun U hU hW => ⟨rfl, by rw [hU], by rw [hU]; exact hP, va_K.moved hW.alike hK⟩⟩ rfl hn hsize rfl (lv_room hW) hdg hf) hS (fun q _ h => wA_up hS.1 q h) (wA_up hS.1)
    (fun r u t H1 locs1 ht _ hw hB _ _ hS1 => by
      obtain ⟨o, rfl, hF, hj⟩ := hw
      exact kk (o, u) H1 locs1 hF hj (by rw [← ht]; exact hB) hS1)
theorem gcSi {F : Int32 × σ} (S9 : CallFix p m c cc nL s args Ts own) (hK : wK G s) (hP : va_P G.1 vwCl (wf S) H) (hS : va_S (wA N ad s.heap.size) s.heap H locs) (hM : gMi l y ws rm G N ad wf As S H.size F) (cw : CallB R s args own index y bytes maxL ret ws rm 0 0 n ∧ (Cond.static y).before args s = true)
    (hn : As.length = n) (hsize : ls.size = nL) (hst : st0 = As.reverse ++ rest) (hW : (rest.map fun v => v.category).sum ≤ 8) (hdg : decode cc pc = .ok (.invokestatic index, 3)) (hf : cells ≤ R.cells ∧ slots ≤ R.slots)
    (kk : ∀ (p1 : Int32 × σ) (H1 : Heap) (locs1 : List Loc), p1 = F → va_P G.1 vwCl (wf p1.2) H1 → va_S (wA N ad s.heap.size) s.heap H1 locs1 → W p l e R s m args below meth c H1 locs1 cells slots Q (F0 m (pc + 3) ls (.int p1.1 :: rest))) : W p l e R s m args below meth c H locs cells slots Q (F0 m pc ls st0) := by
  subst hst
  exact va_calli (va_runS (g := F0 m pc ls (As.reverse ++ rest)) S9 hM cw ⟨gPre_bl, fun U hU hW => ⟨rfl, by rw [hU], by rw [hU]; exact hP, va_K.moved hW.alike hK⟩⟩ rfl hn hsize rfl (lv_room hW) hdg hf) hS (fun q _ h => wA_up hS.1 q h) (wA_up hS.1)
    (fun r u t H1 locs1 ht _ hw hB _ _ hS1 => kk (r, u) H1 locs1 hw (by rw [← ht]; exact hB) hS1)
theorem gcVz {F : Int32 × σ} (S9 : CallFix p m c cc nL s args Ts own) (hK : wK G s) (hP : va_P G.1 vwCl (wf S) H) (hS : va_S (wA N ad s.heap.size) s.heap H locs) (hM : gMz l y ws rm G N ad wf (.ref b0 :: As) S H.size F) (cw : CallW R s args own C index y bytes maxL ret ws rm 0 0 n)
    (hr : ∃ cell : Cell, H[b0]? = some cell ∧ cell.vm.isStatics = false ∧ s.vm.findClass C = some cell.cls) (hn : As.length = n) (hsize : ls.size = nL) (hst : st0 = As.reverse ++ .ref b0 :: rest) (hW : (rest.map fun v => v.category).sum ≤ 8) (hdg : decode cc pc = .ok (.invokevirtual index, 3)) (hf : cells ≤ R.cells ∧ slots ≤ R.slots)
    (kk : ∀ (p1 : Int32 × σ) (H1 : Heap) (locs1 : List Loc), p1 = F → isB p1.1 → va_P G.1 vwCl (wf p1.2) H1 → va_S (wA N ad s.heap.size) s.heap H1 locs1 → W p l e R s m args below meth c H1 locs1 cells slots Q (F0 m (pc + 3) ls (.int p1.1 :: rest))) : W p l e R s m args below meth c H locs cells slots Q (F0 m pc ls st0) := by
  subst hst
  exact va_calli (va_runV (g := F0 m pc ls (As.reverse ++ .ref b0 :: rest)) S9 hM cw ⟨gPre_bl, hr, fun U hU hW => ⟨rfl, by rw [hU], by rw [hU]; exact hP, va_K.moved hW.alike hK⟩⟩ rfl hn hsize rfl (lv_room hW) hdg hf) hS (fun q _ h => wA_up hS.1 q h) (wA_up hS.1)
    (fun r u t H1 locs1 ht _ hw hB _ _ hS1 => kk (r, u) H1 locs1 hw.1 hw.2 (by rw [← ht]; exact hB) hS1)
theorem gcSz {F : Int32 × σ} (S9 : CallFix p m c cc nL s args Ts own) (hK : wK G s) (hP : va_P G.1 vwCl (wf S) H) (hS : va_S (wA N ad s.heap.size) s.heap H locs) (hM : gMz l y ws rm G N ad wf As S H.size F) (cw : CallB R s args own index y bytes maxL ret ws rm 0 0 n ∧ (Cond.static y).before args s = true)
    (hn : As.length = n) (hsize : ls.size = nL) (hst : st0 = As.reverse ++ rest) (hW : (rest.map fun v => v.category).sum ≤ 8) (hdg : decode cc pc = .ok (.invokestatic index, 3)) (hf : cells ≤ R.cells ∧ slots ≤ R.slots)
    (kk : ∀ (p1 : Int32 × σ) (H1 : Heap) (locs1 : List Loc), p1 = F → isB p1.1 → va_P G.1 vwCl (wf p1.2) H1 → va_S (wA N ad s.heap.size) s.heap H1 locs1 → W p l e R s m args below meth c H1 locs1 cells slots Q (F0 m (pc + 3) ls (.int p1.1 :: rest))) : W p l e R s m args below meth c H locs cells slots Q (F0 m pc ls st0) := by
  subst hst
  exact va_calli (va_runS (g := F0 m pc ls (As.reverse ++ rest)) S9 hM cw ⟨gPre_bl, fun U hU hW => ⟨rfl, by rw [hU], by rw [hU]; exact hP, va_K.moved hW.alike hK⟩⟩ rfl hn hsize rfl (lv_room hW) hdg hf) hS (fun q _ h => wA_up hS.1 q h) (wA_up hS.1)
    (fun r u t H1 locs1 ht _ hw hB _ _ hS1 => kk (r, u) H1 locs1 hw.1 hw.2 (by rw [← ht]; exact hB) hS1)
-- ends
theorem gRi {F : Int32 × σ} {v : Int32} (hx : p.tables.exec = Jvm.exec) (hb : c.code = cc) (hr : meth.sig.returnType = some .int) (hlocks : meth.locks = false) (hP : va_P G.1 vwCl (wf S) H) (hS : va_S (wA N ad s.heap.size) s.heap H locs) (h : (v, S) = F) (hdg : decode cc pc = .ok (.ireturn, 1)) :
    W p l e R s m args below meth c H locs 0 0 (gQi below G wf N ad F args s) (F0 m pc ls [.int v]) :=
  W.iret (v := v) hx hb hr (fun t ht hW => ⟨⟨v, S, rfl, h, by show va_P _ _ _ _; rw [ht]; exact hP⟩, hS.F ht⟩) hS.2.2 hdg hlocks
theorem gRz {F : Int32 × σ} {v : Int32} (hx : p.tables.exec = Jvm.exec) (hb : c.code = cc) (hr : meth.sig.returnType = some .boolean) (hlocks : meth.locks = false) (hv : isB v) (hP : va_P G.1 vwCl (wf S) H) (hS : va_S (wA N ad s.heap.size) s.heap H locs) (h : (v, S) = F) (hdg : decode cc pc = .ok (.ireturn, 1)) :
    W p l e R s m args below meth c H locs 0 0 (gQz below G wf N ad F args s) (F0 m pc ls [.int v]) :=
  W.zret (v := v) hx hb hr (okB hv).1 (fun t ht hW => ⟨⟨v, S, rfl, ⟨h, hv⟩, by show va_P _ _ _ _; rw [ht]; exact hP⟩, hS.F ht⟩) hS.2.2 hdg hlocks
theorem gRv {F : σ} (hx : p.tables.exec = Jvm.exec) (hb : c.code = cc) (hr : meth.sig.returnType = none) (hlocks : meth.locks = false) (hP : va_P G.1 vwCl (wf S) H) (hS : va_S (wA N ad s.heap.size) s.heap H locs) (h : S = F) (hdg : decode cc pc = .ok (.return_, 1)) :
    W p l e R s m args below meth c H locs 0 0 (gQv below G wf N ad F args s) (F0 m pc ls []) :=
  W.vret hx hb hr (fun t ht hW => ⟨⟨S, rfl, h, by show va_P _ _ _ _; rw [ht]; exact hP⟩, hS.F ht⟩) hS.2.2 hdg hlocks
theorem gRq {fo : Nat → Nat} {B9 : Nat} {F : Option Nat × σ} {o : Option Nat} {C0 : String} (hx : p.tables.exec = Jvm.exec) (hb : c.code = cc) (hr : meth.sig.returnType = some (.object C0)) (hlocks : meth.locks = false) (hj : ∀ j, o = some j → j < B9) (hP : va_P G.1 vwCl (wf S) H) (hS : va_S (wA N ad s.heap.size) s.heap H locs) (h : (o, S) = F) (hdg : decode cc pc = .ok (.areturn, 1)) :
    W p l e R s m args below meth c H locs 0 0 (gQq below G wf N ad fo B9 F args s) (F0 m pc ls [va_rf (o.map fo)]) :=
  W.aret (v := va_rf (o.map fo)) hx hb hr (Or.inl ⟨_, rfl⟩) (by
    cases o with
    | none => exact Or.inl rfl
    | some j => exact Or.inr ⟨_, rfl⟩) (fun t ht hW => ⟨⟨o.map fo, S, rfl, ⟨o, rfl, h, hj⟩, by show va_P _ _ _ _; rw [ht]; exact hP⟩, hS.F ht⟩) hS.2.2 hdg hlocks
end CC
