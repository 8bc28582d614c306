/-! ===== the law's helpers: a call of the class, its answer into the row 'out', its exceptions as numbers ===== -/
def lO (G : WG) (o : Nat) (f : Nat → Int64) : va_W := [(o, .inl (G.2 5, 1, .inr (.inl f)))]
def lW (G : WG) (a : Nat → Nat) (o : Nat) (q : CS × (Nat → Int64)) (H : Heap) : Prop := wC G a q.1 H ∧ va_P G.1 vwCl (lO G o q.2) H
def lA (a : Nat → Nat) (o sz : Nat) : Nat → Prop := fun q => wA 20 a sz q ∨ q = o
def lPre (G : WG) (a : Nat → Nat) (o : Nat) (q : CS × (Nat → Int64)) (sz : Nat) : State → Prop := fun U => U.heap.size = sz ∧ lW G a o q U.heap ∧ wK G U ∧ xEnv (wA 20 a sz) U ∧ va_Nc (exN 1) (exN 0) U ∧ va_Nc (exN 0) (exN 2) U
theorem lPre_bl {G : WG} {a : Nat → Nat} {o : Nat} {q : CS × (Nat → Int64)} {sz : Nat} {av : List Value} : FrameBlind (va_Pc av (lPre G a o q sz)) := fun b U g mk ⟨h0, h1, h2, h3, ⟨h4, h5, h6, h7⟩, h8, h9⟩ =>
  ⟨h0, h1, h2, va_K.moved (u := U) (U := U.calling g mk b) (Vm.Alike.refl U.vm) h3, ⟨vx_Zq.moved (u := U) (U := U.calling g mk b) (Vm.Alike.refl U.vm) h4, vx_Zq.moved (u := U) (U := U.calling g mk b) (Vm.Alike.refl U.vm) h5, fun q hq => by
    obtain ⟨sa, h⟩ := h6 q hq
    exact ⟨sa, h.same (u := U) (U := U.calling g mk b) rfl⟩, xB_vm (u := U) (U := U.calling g mk b) (Vm.Alike.refl U.vm) h7⟩, va_Nc.moved (u := U) (U := U.calling g mk b) (Vm.Alike.refl U.vm) h8, va_Nc.moved (u := U) (U := U.calling g mk b) (Vm.Alike.refl U.vm) h9⟩
/-- what a helper answers: the number of the catch that took it, or 0 and the answer in 'out' -/
def hR (r : Nat → Int32) (F : (Int32 × CS) ⊕ (Nat × CS)) (f : Nat → Int64) : Int32 × (CS × (Nat → Int64)) := match F with
  | .inl p => (0, (p.2, vp_updL f 0 p.1.toInt64))
  | .inr u => (r u.1, (u.2, f))
def hMi (l : Launch) (y : MethodName) (ws : List Cond) (rm : Room) (mc ms : Nat) (G : WG) (a : Nat → Nat) (o : Nat) (av : List Value) (S : CS) (f : Nat → Int64) (sz : Nat) (r : Nat → Int32) (F : (Int32 × CS) ⊕ (Nat × CS)) : Prop :=
  Met l y ws rm (va_Pc av (lPre G a o (S, f) sz)) (va_Qi (fun k u => (k, u) = hR r F f) (fun u t => lW G a o u t.heap) (lA a o sz)) mc ms (lA a o sz)
def hQ (below : List Frame) (mc ms : Nat) (G : WG) (a : Nat → Nat) (o : Nat) (f : Nat → Int64) (r : Nat → Int32) (F : (Int32 × CS) ⊕ (Nat × CS)) (args : Array Value) (s : State) : State → Prop := MQ below (va_Qi (fun k u => (k, u) = hR r F f) (fun u t => lW G a o u t.heap) (lA a o s.heap.size)) args s mc ms (lA a o s.heap.size)
theorem P_left {D : va_G} {cl : List vw_C} {X Y : va_W} {H : Heap} (h : va_P D cl (X ++ Y) H) : va_P D cl X H := fun k q hq => h k q (by rw [List.getElem?_append_left (List.getElem?_eq_some_iff.mp hq).1]; exact hq)
theorem P_right {D : va_G} {cl : List vw_C} {X Y : va_W} {H : Heap} (h : va_P D cl (X ++ Y) H) : va_P D cl Y H := fun k q hq => h (X.length + k) q (by rw [List.getElem?_append_right (Nat.le_add_right _ _), Nat.add_sub_cancel_left]; exact hq)
theorem lO_lt {G : WG} {o : Nat} {f : Nat → Int64} {H : Heap} (h : va_P G.1 vwCl (lO G o f) H) : o < H.size := (h 0 _ rfl).lt
theorem lO_kept {G : WG} {o : Nat} {f : Nat → Int64} {H H1 : Heap} (h : va_P G.1 vwCl (lO G o f) H) (e : H1[o]? = H[o]?) : va_P G.1 vwCl (lO G o f) H1 := by
  intro k q hq
  have hk : k = 0 := by
    have := (List.getElem?_eq_some_iff.mp hq).1
    simp [lO] at this
    exact this
  subst hk
  have e2 : q = (o, .inl (G.2 5, 1, .inr (.inl f))) := (Option.some.inj hq).symm
  subst e2
  exact (h 0 _ rfl).kept e
section HC
variable {p : Program} {l : Launch} {e : Env} {R : Room} {s : State} {m : MethodId} {args : Array Value} {below : List Frame} {meth : Method} {c : Code} {H : Heap} {locs : List Loc} {cells slots : Nat} {Q : State → Prop}
variable {cc bytes : ByteArray} {pc : Nat} {ls : Array Slot} {st0 rest As : List Value} {mc ms : Nat} {G : WG} {S : CS} {a : Nat → Nat} {o : Nat} {f : Nat → Int64} {r : Nat → Int32} {own C : String} {index nL maxL n : Nat} {y : MethodName} {ret : Option FieldType} {Ts ws : List Cond} {rm : Room}
theorem gxcH {F : (Int32 × CS) ⊕ (Nat × CS)} (hao : ∀ k, k < 20 → o ≠ a k) (hexc : xEnv (wA 20 a s.heap.size) s) (S9 : CallFix p m c cc nL s args Ts own) (hK : wK G s) (hP : wC G a S s.heap) (hPo : va_P G.1 vwCl (lO G o f) s.heap) (hM : gxMi l y ws rm mc ms G 20 a (CW G.2 a) (.ref (a 0) :: As) S s.heap.size F) (cw : CallW R s args own RX3 index y bytes maxL ret ws rm mc ms n)
    (hn : As.length = n) (hsize : ls.size = nL) (hst : st0 = As.reverse ++ .ref (a 0) :: rest) (hW : (rest.map fun v => v.category).sum ≤ 8) (hdg : decode cc pc = .ok (.invokevirtual index, 3)) (hf : mc ≤ R.cells ∧ ms ≤ R.slots)
    (kx : ∀ (u : Nat × CS) (ce : Cell) (q : Addr) (H1 : Heap) (locs1 : List Loc), Sum.inr u = F → wC G a u.2 H1 → va_P G.1 vwCl (lO G o f) H1 → va_S (lA a o s.heap.size) s.heap H1 locs1 → H1[q]? = some ce → ce.vm = .none → s.vm.findClass (exN u.1) = some ce.cls → vx_W p l e R s m args below meth c H1 locs1 mc ms Q (F0 m pc ls rest) q)
    (kk : ∀ (p1 : Int32 × CS) (H1 : Heap) (locs1 : List Loc), Sum.inl p1 = F → wC G a p1.2 H1 → va_P G.1 vwCl (lO G o f) H1 → va_S (lA a o s.heap.size) s.heap H1 locs1 → W p l e R s m args below meth c H1 locs1 mc ms Q (F0 m (pc + 3) ls (.int p1.1 :: rest))) : W p l e R s m args below meth c s.heap [] 0 0 Q (F0 m pc ls st0) := by
  subst hst
  have hS : va_S (lA a o s.heap.size) s.heap s.heap [] := va_S.rf
  have ho := lO_lt hPo
  have hoA : ¬ wA 20 a s.heap.size o := fun h => h.elim (fun ⟨k, hk, e1⟩ => hao k hk e1) (fun h => by omega)
  have fin : ∀ {x : Nat}, 0 + x = x := fun {x} => Nat.zero_add x
  have h2 := vx_runV (e := e) (below := below) (meth := meth) (R := R) (g := F0 m pc ls (As.reverse ++ .ref (a 0) :: rest)) S9 hM cw ⟨xPre_bl, crM hK hP, fun U hU hW => ⟨rfl, by rw [hU], by rw [hU]; exact hP, va_K.moved hW.alike hK, xEnv_on hexc (va_S.rf (A := wA 20 a s.heap.size)) hU hW⟩⟩ rfl hn hsize rfl (lv_room hW) hdg (H := s.heap) (cells := 0) (slots := 0) (locs := []) ⟨by rw [fin]; exact hf.1, by rw [fin]; exact hf.2⟩
  refine vx_calli h2 hS (fun q _ h => Or.inl h) (fun q h => Or.inl h) (fun q _ h => Or.inl h) (fun E ce q u t H1 locs1 ht _ hw hB _ hk1 hS1 hce hcv hcl => ?_) (fun r u t H1 locs1 ht _ hw hB _ hk1 hS1 => ?_)
  · obtain ⟨rfl, hP1⟩ := hB
    rw [fin, fin]
    exact kx u ce q H1 locs1 hw (by rw [← ht]; exact hP1) (lO_kept hPo (hk1 o ho hoA)) hS1 hce hcv hcl
  · rw [fin, fin]
    exact kk (r, u) H1 locs1 hw (by rw [← ht]; exact hB) (lO_kept hPo (hk1 o ho hoA)) hS1
/-- out[0] = v -/
theorem hst0 {v : Int64} (hao : ∀ k, k < 20 → o ≠ a k) (hx : p.tables.exec = Jvm.exec) (hb : c.code = cc) (hK : wK G s) (ha : wInj 20 a) (hP : wC G a S H) (hPo : va_P G.1 vwCl (lO G o f) H) (hS : va_S (lA a o s.heap.size) s.heap H locs) (hdg : decode cc pc = .ok (.lastore, 1))
    (kk : ∀ (H1 : Heap) (locs1 : List Loc), wC G a S H1 → va_P G.1 vwCl (lO G o (vp_updL f 0 v)) H1 → va_S (lA a o s.heap.size) s.heap H1 locs1 → W p l e R s m args below meth c H1 locs1 cells slots Q (F0 m (pc + 1) ls rest)) : W p l e R s m args below meth c H locs cells slots Q (F0 m pc ls (.long v :: .int 0 :: .ref o :: rest)) := by
  have hP2 : va_P G.1 vwCl (CW G.2 a S ++ lO G o f) H := va_P.app hP hPo
  have hlen : (CW G.2 a S).length = 20 := by simp [CW, wl]
  have hat : ∀ (k : Nat) (q : Nat × va_E), (CW G.2 a S ++ lO G o f)[k]? = some q → (k < 20 ∧ q.1 = a k) ∨ (k = 20 ∧ q.1 = o) := by
    intro k q hq
    rcases Nat.lt_or_ge k 20 with z9 | z9
    · rw [List.getElem?_append_left (by rw [hlen]; exact z9)] at hq
      obtain ⟨-, rfl⟩ := wl_at hq
      exact Or.inl ⟨z9, rfl⟩
    · rw [List.getElem?_append_right (by rw [hlen]; exact z9), hlen] at hq
      have hk : k - 20 = 0 := by
        have := (List.getElem?_eq_some_iff.mp hq).1
        simp [lO] at this
        omega
      rw [hk] at hq
      have e2 : q = (o, .inl (G.2 5, 1, .inr (.inl f))) := (Option.some.inj hq).symm
      exact Or.inr ⟨by omega, by rw [e2]⟩
  have hD2 : va_D (lA a o s.heap.size) (CW G.2 a S ++ lO G o f) := by
    refine ⟨fun i j x y hx hy e => ?_, fun k q hq => ?_⟩
    · rcases hat i x hx with ⟨h1, h2⟩ | ⟨h1, h2⟩ <;> rcases hat j y hy with ⟨h3, h4⟩ | ⟨h3, h4⟩
      · exact ha i j h1 h3 (by rw [← h2, ← h4, e])
      · exact absurd (by rw [← h4, ← e, h2]) (hao i h1)
      · exact absurd (by rw [← h2, e, h4]) (hao j h3)
      · omega
    · rcases hat k q hq with ⟨h1, h2⟩ | ⟨h1, h2⟩
      · exact Or.inl (Or.inl ⟨k, h1, h2⟩)
      · exact Or.inr h2
  refine va_last (D := G.1) (cA := G.2 5) (n := 1) (f := f) hx hb hK hP2 hD2 hS 20 5 (by rw [List.getElem?_append_right (by rw [hlen]; exact Nat.le_refl _), hlen]; rfl) rfl (nI_ix (k := 0) (n := 1) (by decide) (by decide)) hdg (fun H1 locs1 hP1 _ hS1 => ?_)
  have e3 : (CW G.2 a S ++ lO G o f).set 20 (o, .inl (G.2 5, 1, .inr (.inl (vp_updL f (0 : Int32).toNatClampNeg v)))) = CW G.2 a S ++ lO G o (vp_updL f 0 v) := by
    rw [← hlen]
    exact ap_set
  rw [e3] at hP1
  exact kk H1 locs1 (P_left hP1) (P_right hP1) hS1
theorem hRet {F : (Int32 × CS) ⊕ (Nat × CS)} {v : Int32} {f2 : Nat → Int64} (hx : p.tables.exec = Jvm.exec) (hb : c.code = cc) (hr : meth.sig.returnType = some .int) (hlocks : meth.locks = false) (hP : wC G a S H) (hPo : va_P G.1 vwCl (lO G o f2) H) (hS : va_S (lA a o s.heap.size) s.heap H locs) (h : (v, (S, f2)) = hR r F f) (hdg : decode cc pc = .ok (.ireturn, 1)) :
    W p l e R s m args below meth c H locs mc ms (hQ below mc ms G a o f r F args s) (F0 m pc ls [.int v]) :=
  W.iret (v := v) hx hb hr (fun t ht hW => ⟨⟨v, (S, f2), rfl, h, by show lW _ _ _ _ _; rw [ht]; exact ⟨hP, hPo⟩⟩, hS.F ht⟩) hS.2.2 hdg hlocks
end HC
