/-! ===== methods that may throw: what they are given, what they owe; throws, calls, ends ===== -/
def exN : Nat → String
  | 0 => "java/lang/IllegalArgumentException"
  | 1 => "java/lang/IllegalStateException"
  | _ => "java/lang/IndexOutOfBoundsException"
def exS : List String := ["java/lang/RuntimeException", "java/lang/Exception"]
def xStr : List (Nat × String) := [(52, "rank or power is out of range"), (62, "there are 10 loads"), (69, "capacity, rate or charging is out of range"), (74, "there are 3 batteries"), (77, "power, delay or tank is out of range"), (82, "there are 3 generators"), (92, "power is out of range"), (101, "units is out of range"), (115, "failures is out of range"), (120, "period or minutes is out of range"), (128, "start or stagger is out of range"), (130, "minutes is out of range"), (202, "there is no such load"), (205, "there is no such battery"), (207, "there is no such generator"), (213, "there is no such place")]
/-- the words of a throw that aren't kept word by word: each exception is one of its own kind; the constructors above -/
def xB : List Cond := [.castable (exN 0) (exN 0), .castable (exN 1) (exN 1), .castable (exN 2) (exN 2), .declares (Bundle.initS "java/lang/RuntimeException"), .declares (Bundle.initS "java/lang/Exception"), .declares (Bundle.initS "java/lang/Throwable")]
theorem xB_on : ∀ w ∈ xB, w.onTables = true := by decide +kernel
theorem xB_vm {u U : State} {a' : Array Value} (hvm : u.vm.Alike U.vm) (h : ∀ w ∈ xB, w.before #[] u = true) : ∀ w ∈ xB, w.before a' U = true := by
  have tr : ∀ {c : Cond}, c.onTables = true → c.before #[] (u.setVm U.vm) = true → c.before a' U = true := by
    intro c hc h
    have e := Cond.onTables_vm (A := #[]) (A' := a') (U := u) (U' := U) U.vm c hc
    have hU : U.setVm U.vm = U := rfl
    rw [hU] at e
    rw [← e]
    exact h
  intro w hw
  refine tr (xB_on w hw) ?_
  have h1 := h w hw
  rcases List.mem_cons.mp hw with rfl | hw
  · rw [Cond.castable_setVm hvm]; exact h1
  rcases List.mem_cons.mp hw with rfl | hw
  · rw [Cond.castable_setVm hvm]; exact h1
  rcases List.mem_cons.mp hw with rfl | hw
  · rw [Cond.castable_setVm hvm]; exact h1
  rcases List.mem_cons.mp hw with rfl | hw
  · rw [Cond.declares_setVm hvm]; exact h1
  rcases List.mem_cons.mp hw with rfl | hw
  · rw [Cond.declares_setVm hvm]; exact h1
  rcases List.mem_cons.mp hw with rfl | hw
  · rw [Cond.declares_setVm hvm]; exact h1
  · cases hw
def xEnv (A : Nat → Prop) (U : State) : Prop := vx_Zq Bundle.tN "UNASSIGNED_STACK" Bundle.steD A U U.heap ∧ vx_Zq Bundle.tN "SUPPRESSED_SENTINEL" Bundle.listD A U U.heap ∧ (∀ q ∈ xStr, ∃ sa, vk_R RX3 q.1 q.2 sa U) ∧ ∀ w ∈ xB, w.before #[] U = true
/-- seen from a later state of the caller -/
theorem xEnv_on {N : Nat} {ad : Nat → Nat} {s U : State} {H : Heap} {locs : List Loc} (h : xEnv (wA N ad s.heap.size) s) (hS : va_S (wA N ad s.heap.size) s.heap H locs) (hU : U.heap = H) (hW : s.WarmedH U.vm) : xEnv (wA N ad H.size) U := by
  obtain ⟨h1, h2, h3, h9⟩ := h
  refine ⟨?_, ?_, fun q hq => ?_, xB_vm hW.alike h9⟩
  · rw [hU]
    exact vx_Zq.moved hW.alike ((h1.kept hS.2.1).narrow (wA_up hS.1))
  · rw [hU]
    exact vx_Zq.moved hW.alike ((h2.kept hS.2.1).narrow (wA_up hS.1))
  · obtain ⟨sa, h4⟩ := h3 q hq
    exact ⟨sa, h4.warm hW⟩
def xPre (G : WG) (N : Nat) (ad : Nat → Nat) (ws : va_W) (sz : Nat) : State → Prop := fun U => U.heap.size = sz ∧ va_P G.1 vwCl ws U.heap ∧ wK G U ∧ xEnv (wA N ad sz) U
theorem xPre_bl {G : WG} {N : Nat} {ad : Nat → Nat} {ws : va_W} {sz : Nat} {av : List Value} : FrameBlind (va_Pc av (xPre G N ad ws sz)) := fun a U g mk ⟨h0, h1, h2, h3, h4, h5, h6, h7⟩ =>
  ⟨h0, h1, h2, va_K.moved (u := U) (U := U.calling g mk a) (Vm.Alike.refl U.vm) h3, vx_Zq.moved (u := U) (U := U.calling g mk a) (Vm.Alike.refl U.vm) h4, vx_Zq.moved (u := U) (U := U.calling g mk a) (Vm.Alike.refl U.vm) h5, fun q hq => by
    obtain ⟨sa, h⟩ := h6 q hq
    exact ⟨sa, h.same (u := U) (U := U.calling g mk a) rfl⟩, xB_vm (u := U) (U := U.calling g mk a) (Vm.Alike.refl U.vm) h7⟩
def gXC {σ ρ : Type} (G : WG) (wf : σ → va_W) (A : Nat → Prop) (F : ρ ⊕ (Nat × σ)) : String → State → State → Prop := vx_X (fun u : Nat × σ => Sum.inr u = F) (fun E u t => E = exN u.1 ∧ va_P G.1 vwCl (wf u.2) t.heap) A
def gxMi {σ : Type} (l : Launch) (y : MethodName) (ws : List Cond) (rm : Room) (mc ms : Nat) (G : WG) (N : Nat) (ad : Nat → Nat) (wf : σ → va_W) (av : List Value) (S : σ) (sz : Nat) (F : (Int32 × σ) ⊕ (Nat × σ)) : Prop :=
  vx_Met l y ws rm (va_Pc av (xPre G N ad (wf S) sz)) (va_Qi (fun r u => Sum.inl (r, u) = F) (gPost G wf) (wA N ad sz)) (gXC G wf (wA N ad sz) F) mc ms (wA N ad sz)
/-- an answer that is one of the cells fo 0 .. fo (B9 - 1) -/
def gxMr {σ : Type} (l : Launch) (y : MethodName) (ws : List Cond) (rm : Room) (mc ms : Nat) (G : WG) (N : Nat) (ad : Nat → Nat) (wf : σ → va_W) (fo : Nat → Nat) (B9 : Nat) (av : List Value) (S : σ) (sz : Nat) (F : (Nat × σ) ⊕ (Nat × σ)) : Prop :=
  vx_Met l y ws rm (va_Pc av (xPre G N ad (wf S) sz)) (va_Qr (fun u : Nat × σ => Sum.inl u = F ∧ u.1 < B9) (fun u q t => q = fo u.1 ∧ va_P G.1 vwCl (wf u.2) t.heap) (wA N ad sz)) (gXC G wf (wA N ad sz) F) mc ms (wA N ad sz)
def gxQi {σ : Type} (below : List Frame) (mc ms : Nat) (G : WG) (wf : σ → va_W) (N : Nat) (ad : Nat → Nat) (F : (Int32 × σ) ⊕ (Nat × σ)) (args : Array Value) (s : State) : State → Prop := vx_MQ below (va_Qi (fun r u => Sum.inl (r, u) = F) (gPost G wf) (wA N ad s.heap.size)) (gXC G wf (wA N ad s.heap.size) F) args s mc ms (wA N ad s.heap.size)
def gxQr {σ : Type} (below : List Frame) (mc ms : Nat) (G : WG) (wf : σ → va_W) (N : Nat) (ad : Nat → Nat) (fo : Nat → Nat) (B9 : Nat) (F : (Nat × σ) ⊕ (Nat × σ)) (args : Array Value) (s : State) : State → Prop := vx_MQ below (va_Qr (fun u : Nat × σ => Sum.inl u = F ∧ u.1 < B9) (fun u q t => q = fo u.1 ∧ va_P G.1 vwCl (wf u.2) t.heap) (wA N ad s.heap.size)) (gXC G wf (wA N ad s.heap.size) F) args s mc ms (wA N ad s.heap.size)
theorem vp_lt {i : Int32} {n : Nat} (h : vp_in i n) : i.toNatClampNeg < n := Nat.not_le.mp fun q => h (Or.inr q)
theorem ix_of {x v : Int32} {B : Nat} (hB : B < 2 ^ 30) (h : ∃ N, N ≤ B ∧ v = nI N) (h0 : ¬ x < 0) (h1 : x < v) : vp_in x B := by
  obtain ⟨N, hN, rfl⟩ := h
  rw [vp_in_iff]
  rw [Int32.lt_iff_toInt_lt] at h0 h1
  rw [nI_toInt (by omega)] at h1
  have h3 : (0 : Int32).toInt = 0 := by decide
  omega
theorem ix_add {v w : Int32} {B : Nat} (hB : B < 2 ^ 30) (h : ∃ N, N ≤ B ∧ w = nI N) (e : v = w) (h1 : v < nI B) : vp_in v B := by
  subst e
  obtain ⟨N, hN, rfl⟩ := h
  rw [vp_in_iff]
  rw [Int32.lt_iff_toInt_lt] at h1
  rw [nI_toInt (by omega), nI_toInt (by omega)] at h1
  rw [nI_toInt (by omega)]
  omega
theorem isO_eq (x lo hi : Int32) (S : CS) : f_X3_isOutside x lo hi S = (if x < lo ∨ hi < x then 1 else 0, S) := by
  unfold f_X3_isOutside
  split
  · rename_i h
    rw [if_pos (Or.inl h)]
    rfl
  · rename_i h
    split
    · rename_i h2
      rw [if_neg (fun q => q.elim h (fun z => by rw [Int32.lt_iff_toInt_lt] at z; rw [Int32.le_iff_toInt_le] at h2; omega))]
      rfl
    · rename_i h2
      rw [if_pos (Or.inr (by rw [Int32.lt_iff_toInt_lt]; rw [Int32.le_iff_toInt_le] at h2; omega))]
      rfl
theorem isO_2 (x lo hi : Int32) (S : CS) : (f_X3_isOutside x lo hi S).2 = S := by rw [isO_eq]
section XC
variable {p : Program} {l : Launch} {e : Env} {R : Room} {s : State} {m : MethodId} {args : Array Value} {below : List Frame} {meth : Method} {c : Code} {H : Heap} {locs : List Loc} {cells slots : Nat} {Q : State → Prop}
variable {cc bytes : ByteArray} {pc : Nat} {ls : Array Slot} {st0 rest As : List Value} {mc ms c0 s0 : Nat} {G : WG} {σ ρ : Type} {wf : σ → va_W} {S : σ} {N : Nat} {ad : Nat → Nat} {own C : String} {index nL maxL n b0 : Nat} {y : MethodName} {ret : Option FieldType} {Ts ws : List Cond} {rm : Room}
theorem vx_callr9 {free : Addr → Prop} {A0 A1 : Nat → Prop} {H0 : Heap} {a : Array Value} {T TX : Type} {post : T → Prop} {px : TX → Prop} {B : T → Nat → State → Prop} {BX : String → TX → State → Prop} {AX : Nat → Prop} (hr : vx_Run p l e R s m args below meth c H locs cells slots mc ms (F0 m pc ls st0) rest (va_Qr post B A1 a) (vx_X px BX AX) free) (hS : va_S A0 H0 H locs) (hA : ∀ q, q < H.size → A1 q → A0 q) (hf : ∀ q, free q → A0 q) (hAX : ∀ q, q < H.size → AX q → A0 q)
    (kx : ∀ (E : String) (ce : Cell) (q9 : Addr) (u : TX) (t : State) (H1 : Heap) (locs1 : List Loc), t.heap = H1 → s.vm.Alike t.vm → px u → BX E u t → H.size ≤ H1.size → (∀ q : Nat, q < H.size → ¬ AX q → H1[q]? = H[q]?) → va_S A0 H0 H1 locs1 → H1[q9]? = some ce → ce.vm = .none → s.vm.findClass E = some ce.cls → vx_W p l e R s m args below meth c H1 locs1 (cells + mc) (slots + ms) Q (F0 m pc ls rest) q9)
    (kk : ∀ (u : T) (r : Nat) (t : State) (H1 : Heap) (locs1 : List Loc), t.heap = H1 → s.vm.Alike t.vm → post u → B u r t → H.size ≤ H1.size → (∀ q : Nat, q < H.size → ¬ A1 q → H1[q]? = H[q]?) → va_S A0 H0 H1 locs1 → W p l e R s m args below meth c H1 locs1 (cells + mc) (slots + ms) Q (F0 m (pc + 3) ls (.ref r :: rest))) : W p l e R s m args below meth c H locs cells slots Q (F0 m pc ls st0) := by
  intro T hT X
  rcases hr T hT X with ⟨v, st₀, t, T', L, h0, X', hL, e1, e2, ⟨⟨u, r, hv, hp, hb⟩, hF⟩, st⟩ | ⟨q, st₀, t, T', L, E, ce, h0, X', hL, e1, e2, ⟨u, hp, hb, hF⟩, hce, hcv, hcl, st⟩
  · cases hv
    obtain ⟨k1, k2, k3⟩ := vx_keep h0 e1 hS hA hf hL hF
    obtain ⟨t2, a1, b1⟩ := kk u r t T'.heap (locs ++ L) e1.symm (by rw [← e2]; exact X'.warmed.alike) hp hb k1 k2 k3 T' rfl X'
    exact ⟨t2, st t2 a1, b1⟩
  · obtain ⟨k1, k2, k3⟩ := vx_keep h0 e1 hS hAX hf hL hF
    obtain ⟨t2, a1, b1⟩ := kx E ce q u t T'.heap (locs ++ L) e1.symm (by rw [← e2]; exact X'.warmed.alike) hp hb k1 k2 k3 (by rw [e1]; exact hce) hcv hcl T' rfl X'
    exact ⟨t2, st.trans a1, b1⟩
theorem crdLI {a : Nat → Nat} {S : CS} (hx : p.tables.exec = Jvm.exec) (hb : c.code = cc) (hK : wK G s) (hP : wC G a S H) {i : Int32} (hi : vp_in i 10) (hdg : decode cc pc = .ok (.aaload, 1))
    (kk : W p l e R s m args below meth c H locs cells slots Q (F0 m (pc + 1) ls (.ref (a (4 + i.toNatClampNeg)) :: rest))) : W p l e R s m args below meth c H locs cells slots Q (F0 m pc ls (.int i :: .ref (a 1) :: rest)) :=
  va_aldq (D := G.1) (cA := G.2 2) (C := RX2) (n := 10) (f := fun i => some (a (4 + i))) hx hb hK hP 1 2 (wl_get (by decide)) rfl hi hdg kk
theorem crdBI {a : Nat → Nat} {S : CS} (hx : p.tables.exec = Jvm.exec) (hb : c.code = cc) (hK : wK G s) (hP : wC G a S H) {i : Int32} (hi : vp_in i 3) (hdg : decode cc pc = .ok (.aaload, 1))
    (kk : W p l e R s m args below meth c H locs cells slots Q (F0 m (pc + 1) ls (.ref (a (14 + i.toNatClampNeg)) :: rest))) : W p l e R s m args below meth c H locs cells slots Q (F0 m pc ls (.int i :: .ref (a 2) :: rest)) :=
  va_aldq (D := G.1) (cA := G.2 3) (C := RX0) (n := 3) (f := fun i => some (a (14 + i))) hx hb hK hP 2 3 (wl_get (by decide)) rfl hi hdg kk
theorem crdGI {a : Nat → Nat} {S : CS} (hx : p.tables.exec = Jvm.exec) (hb : c.code = cc) (hK : wK G s) (hP : wC G a S H) {i : Int32} (hi : vp_in i 3) (hdg : decode cc pc = .ok (.aaload, 1))
    (kk : W p l e R s m args below meth c H locs cells slots Q (F0 m (pc + 1) ls (.ref (a (17 + i.toNatClampNeg)) :: rest))) : W p l e R s m args below meth c H locs cells slots Q (F0 m pc ls (.int i :: .ref (a 3) :: rest)) :=
  va_aldq (D := G.1) (cA := G.2 4) (C := RX1) (n := 3) (f := fun i => some (a (17 + i))) hx hb hK hP 3 4 (wl_get (by decide)) rfl hi hdg kk
/-- throw new E("text"), of a body without a table -/
theorem gxT {Qc : Array Value → State → Outcome → State → Prop} {F : ρ ⊕ (Nat × σ)} {u ik is ic : Nat} {text : String} (hx : p.tables.exec = Jvm.exec) (hb : c.code = cc) (hst : l.stackTraces = false) (hown : s.vm.findClass RX3 = some m.cls) (hlocks : meth.locks = false) (htab : ∀ x ∈ c.exceptionTable.toList, False)
    (hexc : xEnv (wA N ad s.heap.size) s) (hP : va_P G.1 vwCl (wf S) H) (hS : va_S (wA N ad s.heap.size) s.heap H locs) (hsize : ls.size = c.maxLocals) (hmem : (is, text) ∈ xStr) (hk : (Cond.classLink RX3 ik (exN u)).before args s = true) (hini : (Cond.initialized (exN u)).before args s = true)
    (hat : ∀ w ∈ (vx_atS RX3 ic (exN u) exS).filter goodWord, w.before args s = true) (hng : ∀ w ∈ (vx_atS RX3 ic (exN u) exS).filter (fun w => !goodWord w), w ∈ xB) (hfit : Bundle.fit (exN u) = true)
    (hgood : ∀ w ∈ Cond.classLink RX3 ik (exN u) :: Cond.initialized (exN u) :: vx_atS RX3 ic (exN u) exS, vx_ot w = true)
    (d0 : decode cc pc = .ok (.new ik, 3)) (d3 : decode cc (pc + 3) = .ok (.dup, 1)) (d4 : decode cc (pc + 4) = .ok (.ldc is, 2)) (d6 : decode cc (pc + 6) = .ok (.invokespecial ic, 3)) (d9 : decode cc (pc + 9) = .ok (.athrow, 1))
    (hR : 5 < R.frames ∧ (rest.map fun v => v.category).sum + 82 ≤ R.locals ∧ mc ≤ R.cells ∧ ms ≤ R.slots ∧ c0 + 1 ≤ mc ∧ s0 + 6 ≤ ms) (h : Sum.inr (u, S) = F) :
    W p l e R s m args below meth c H locs c0 s0 (vx_MQ below Qc (gXC G wf (wA N ad s.heap.size) F) args s mc ms (wA N ad s.heap.size)) (F0 m pc ls rest) := by
  obtain ⟨hU, hN, hstr, hB⟩ := hexc
  obtain ⟨sa, hsa⟩ := hstr _ hmem
  refine vx_throwS (names := exS) (A := wA N ad s.heap.size) (cls := exN u) hx hb hst hown hfit (by decide) hk hini hsa (vx_hat hat hng (xB_vm (Vm.Alike.refl s.vm) hB)) hgood hU hN hS hsize d0 d3 d4 d6 d9 (fun x hx => (htab x hx).elim) (by show 2 + 3 < _; omega) (by show _ + (13 * (2 + 1) + 43) ≤ _; omega) (by omega) (by omega) hlocks ?_ hS.2.2 (by omega) (by omega)
  intro t ht hz hk
  refine ⟨(u, S), h, ⟨rfl, fun k q hq => ?_⟩, Nat.le_trans hS.1 hz, fun q h1 h2 => by rw [hk q (Nat.lt_of_lt_of_le h1 hS.1)]; exact hS.2.1 q h1 h2⟩
  exact (hP k q hq).kept (hk _ (hP k q hq).lt)
/-- an exception of the callee's goes on to the caller -/
theorem gxO {Qc : Array Value → State → Outcome → State → Prop} {F : ρ ⊕ (Nat × σ)} {u : Nat} {ce : Cell} {q : Addr} (hlocks : meth.locks = false) (htab : ∀ x ∈ c.exceptionTable.toList, False) (hP : va_P G.1 vwCl (wf S) H) (hS : va_S (wA N ad s.heap.size) s.heap H locs) (hce : H[q]? = some ce) (hv : ce.vm = .none) (hcl : s.vm.findClass (exN u) = some ce.cls) (hc0 : c0 ≤ mc ∧ s0 ≤ ms) (h : Sum.inr (u, S) = F) :
    vx_W p l e R s m args below meth c H locs c0 s0 (vx_MQ below Qc (gXC G wf (wA N ad s.heap.size) F) args s mc ms (wA N ad s.heap.size)) (F0 m pc ls rest) q :=
  vx_out (E := exN u) (fun x hx => (htab x hx).elim) hlocks hce hv hcl (fun t ht _ => ⟨(u, S), h, ⟨rfl, by rw [ht]; exact hP⟩, hS.F ht⟩) hS.2.2 hc0.1 hc0.2
theorem gxcVr {fo : Nat → Nat} {B9 : Nat} {F : (Nat × σ) ⊕ (Nat × σ)} (hexc : xEnv (wA N ad s.heap.size) s) (S9 : CallFix p m c cc nL s args Ts own) (hK : wK G s) (hP : va_P G.1 vwCl (wf S) H) (hS : va_S (wA N ad s.heap.size) s.heap H locs) (hM : gxMr l y ws rm 1 6 G N ad wf fo B9 (.ref b0 :: As) S H.size F) (cw : CallW R s args own C index y bytes maxL ret ws rm 1 6 n)
    (hr : ∃ cell : Cell, H[b0]? = some cell ∧ cell.vm.isStatics = false ∧ s.vm.findClass C = some cell.cls) (hn : As.length = n) (hsize : ls.size = nL) (hst : st0 = As.reverse ++ .ref b0 :: rest) (hW : (rest.map fun v => v.category).sum ≤ 8) (hdg : decode cc pc = .ok (.invokevirtual index, 3)) (hf : 1 ≤ R.cells ∧ 6 ≤ R.slots)
    (kx : ∀ (u : Nat × σ) (ce : Cell) (q : Addr) (H1 : Heap) (locs1 : List Loc), Sum.inr u = F → va_P G.1 vwCl (wf u.2) H1 → va_S (wA N ad s.heap.size) s.heap H1 locs1 → H1[q]? = some ce → ce.vm = .none → s.vm.findClass (exN u.1) = some ce.cls → vx_W p l e R s m args below meth c H1 locs1 1 6 Q (F0 m pc ls rest) q)
    (kk : ∀ (p1 : Nat × σ) (H1 : Heap) (locs1 : List Loc), Sum.inl p1 = F → p1.1 < B9 → va_P G.1 vwCl (wf p1.2) H1 → va_S (wA N ad s.heap.size) s.heap H1 locs1 → W p l e R s m args below meth c H1 locs1 1 6 Q (F0 m (pc + 3) ls (.ref (fo p1.1) :: rest))) : W p l e R s m args below meth c H locs 0 0 Q (F0 m pc ls st0) := by
  subst hst
  exact vx_callr9 (vx_runV (g := F0 m pc ls (As.reverse ++ .ref b0 :: rest)) S9 hM cw ⟨xPre_bl, hr, fun U hU hW => ⟨rfl, by rw [hU], by rw [hU]; exact hP, va_K.moved hW.alike hK, xEnv_on hexc hS hU hW⟩⟩ rfl hn hsize rfl (lv_room hW) hdg ⟨by rw [Nat.zero_add]; exact hf.1, by rw [Nat.zero_add]; exact hf.2⟩) hS (fun q _ h => wA_up hS.1 q h) (wA_up hS.1) (fun q _ h => wA_up hS.1 q h)
    (fun E ce q u t H1 locs1 ht _ hw hB _ _ hS1 hce hcv hcl => by
      obtain ⟨rfl, hP1⟩ := hB
      exact kx u ce q H1 locs1 hw (by rw [← ht]; exact hP1) hS1 hce hcv hcl)
    (fun u r t H1 locs1 ht _ hw hB _ _ hS1 => by
      obtain ⟨rfl, hP1⟩ := hB
      exact kk u H1 locs1 hw.1 hw.2 (by rw [← ht]; exact hP1) hS1)
theorem gxRi {F : (Int32 × σ) ⊕ (Nat × σ)} {v : Int32} (hx : p.tables.exec = Jvm.exec) (hb : c.code = cc) (hr : meth.sig.returnType = some .int) (hlocks : meth.locks = false) (hP : va_P G.1 vwCl (wf S) H) (hS : va_S (wA N ad s.heap.size) s.heap H locs) (h : Sum.inl (v, S) = F) (hdg : decode cc pc = .ok (.ireturn, 1)) :
    W p l e R s m args below meth c H locs mc ms (gxQi below mc ms G wf N ad F args s) (F0 m pc ls [.int v]) :=
  vx_ret (W.iret (v := v) hx hb hr (fun t ht hW => ⟨⟨v, S, rfl, h, by show va_P _ _ _ _; rw [ht]; exact hP⟩, hS.F ht⟩) hS.2.2 hdg hlocks)
theorem gxRr {fo : Nat → Nat} {B9 j : Nat} {C0 : String} {F : (Nat × σ) ⊕ (Nat × σ)} (hx : p.tables.exec = Jvm.exec) (hb : c.code = cc) (hr : meth.sig.returnType = some (.object C0)) (hlocks : meth.locks = false) (hj : j < B9) (hP : va_P G.1 vwCl (wf S) H) (hS : va_S (wA N ad s.heap.size) s.heap H locs) (h : Sum.inl (j, S) = F) (hdg : decode cc pc = .ok (.areturn, 1)) :
    W p l e R s m args below meth c H locs mc ms (gxQr below mc ms G wf N ad fo B9 F args s) (F0 m pc ls [.ref (fo j)]) :=
  vx_ret (W.aret (v := .ref (fo j)) hx hb hr (Or.inl ⟨_, rfl⟩) (Or.inr ⟨_, rfl⟩) (fun t ht hW => ⟨⟨(j, S), fo j, rfl, ⟨h, hj⟩, rfl, by rw [ht]; exact hP⟩, hS.F ht⟩) hS.2.2 hdg hlocks)
end XC
