/-! ===== the model's constructor ===== -/
def moN (j : Nat) : Value := if j < 8 then .int 0 else if j = 13 then .int 0 else if j = 20 then .int 0 else if j < 36 then .null else .int 0
def MS0 : MS := (fun j => if j = 2 then 1 else if j = 4 then 2 else if j = 5 then 1 else if j = 6 then -1 else 0, fun _ _ => 0)
def mk (t : Nat) : Nat := if t < 5 then 8 + t else if t < 11 then 9 + t else 10 + t
def mAr (j : Nat) : Bool := decide (8 ≤ j ∧ j < 36 ∧ j ≠ 13 ∧ j ≠ 20)
def aix (j : Nat) : Nat := if j < 13 then j - 8 else if j < 20 then j - 9 else j - 10
def moF (t : Nat) (ad : Nat → Nat) (j : Nat) : Value := if j = 2 then .int 1 else if j = 4 then .int 2 else if j = 5 then .int 1 else if j = 6 then .int (-1) else if mAr j = true then (if aix j < t then .ref (ad (aix j)) else .null) else .int 0
theorem mk_ar {t : Nat} (ht : t < 26) : mAr (mk t) = true ∧ aix (mk t) = t ∧ 8 ≤ mk t ∧ mk t < 40 := by
  unfold mAr aix mk
  simp only [decide_eq_true_eq]
  by_cases c1 : t < 5
  · rw [if_pos c1, if_pos (by omega)]; omega
  · rw [if_neg c1]
    by_cases c2 : t < 11
    · rw [if_pos c2, if_neg (by omega), if_pos (by omega)]; omega
    · rw [if_neg c2, if_neg (by omega), if_neg (by omega)]; omega
theorem ar_mk {j : Nat} (h : mAr j = true) : mk (aix j) = j := by
  unfold mAr at h
  simp only [decide_eq_true_eq] at h
  unfold mk aix
  by_cases c1 : j < 13
  · rw [if_pos c1, if_pos (by omega)]; omega
  · rw [if_neg c1]
    by_cases c2 : j < 20
    · rw [if_pos c2, if_neg (by omega), if_pos (by omega)]; omega
    · rw [if_neg c2, if_neg (by omega), if_neg (by omega)]; omega
theorem moF_up {t : Nat} {ad : Nat → Nat} (ht : t < 26) (j : Nat) : upv (moF t ad) (mk t) (.ref (ad t)) j = moF (t + 1) ad j := by
  obtain ⟨a1, a2, a3, a4⟩ := mk_ar ht
  unfold upv
  by_cases c : j = mk t
  · rw [if_pos c, c]
    unfold moF
    rw [if_neg (by omega), if_neg (by omega), if_neg (by omega), if_neg (by omega), if_pos a1, a2, if_pos (by omega)]
  · rw [if_neg c]
    unfold moF
    by_cases c2 : mAr j = true
    · have h3 := ar_mk c2
      have h4 : aix j ≠ t := fun e => c (by rw [← h3, e])
      have h5 : aix j < t + 1 ↔ aix j < t := by omega
      simp only [h5]
    · rw [if_neg c2, if_neg c2]
theorem moF_ad {t q : Nat} {ad : Nat → Nat} (j : Nat) : moF t ad j = moF t (va_up ad t q) j := by
  unfold moF
  by_cases c5 : aix j < t
  · have : va_up ad t q (aix j) = ad (aix j) := by simp [va_up]; omega
    rw [if_pos c5, if_pos c5, this]
  · rw [if_neg c5, if_neg c5]
theorem moF_0 {ad : Nat → Nat} (j : Nat) : upv (upv (upv (upv moN 2 (.int 1)) 4 (.int 2)) 5 (.int 1)) 6 (.int (-1)) j = moF 0 ad j := by
  unfold upv moF
  by_cases c6 : j = 6
  · subst c6; rfl
  · by_cases c5 : j = 5
    · subst c5; rfl
    · by_cases c4 : j = 4
      · subst c4; rfl
      · by_cases c2 : j = 2
        · subst c2; rfl
        · rw [if_neg c6, if_neg c5, if_neg c4, if_neg c2, if_neg c2, if_neg c4, if_neg c5, if_neg c6, if_neg (show ¬ aix j < 0 by omega)]
          unfold moN mAr
          simp only [decide_eq_true_eq]
          by_cases d1 : j < 8
          · rw [if_pos d1, if_neg (by omega)]
          · rw [if_neg d1]
            by_cases d2 : j = 13
            · rw [if_pos d2, if_neg (by omega)]
            · rw [if_neg d2]
              by_cases d3 : j = 20
              · rw [if_pos d3, if_neg (by omega)]
              · rw [if_neg d3]
                by_cases d4 : j < 36
                · rw [if_pos d4, if_pos (by omega)]
                · rw [if_neg d4, if_neg (by omega)]
def moB (h0 : Nat) (ad : Nat → Nat) (q : Nat) : Nat := if q = 0 then h0 else ad (q - 1)
theorem moF_26 {h0 : Nat} {ad : Nat → Nat} (j : Nat) : moF 26 ad j = mfO (moB h0 ad) (0, 0, 0) MS0 j := by
  by_cases c6 : j = 6
  · subst c6; rfl
  · by_cases c5 : j = 5
    · subst c5; rfl
    · by_cases c4 : j = 4
      · subst c4; rfl
      · by_cases c2 : j = 2
        · subst c2; rfl
        · by_cases c7 : j = 7
          · subst c7; rfl
          · by_cases c13 : j = 13
            · subst c13; rfl
            · by_cases c20 : j = 20
              · subst c20; rfl
              · have hz : MS0.1 j = 0 := by
                  show (if j = 2 then (1 : Int32) else if j = 4 then 2 else if j = 5 then 1 else if j = 6 then -1 else 0) = 0
                  rw [if_neg c2, if_neg c4, if_neg c5, if_neg c6]
                unfold moF mfO
                rw [if_neg c2, if_neg c4, if_neg c5, if_neg c6, if_neg c7, if_neg c13, if_neg c20, hz]
                unfold mAr aix moB
                simp only [decide_eq_true_eq]
                by_cases d1 : j < 8
                · rw [if_pos d1, if_neg (by omega)]
                · rw [if_neg d1]
                  by_cases d2 : j < 13
                  · rw [if_pos d2, if_pos d2, if_pos (by omega), if_pos (by omega), if_neg (by omega), show j - 7 - 1 = j - 8 by omega]
                  · rw [if_neg d2, if_neg d2]
                    by_cases d3 : j < 20
                    · rw [if_pos d3, if_pos d3, if_pos (by omega), if_pos (by omega), if_neg (by omega), show j - 8 - 1 = j - 9 by omega]
                    · rw [if_neg d3, if_neg d3]
                      by_cases d4 : j < 36
                      · rw [if_pos d4, if_pos (by omega), if_pos (by omega), if_neg (by omega), show j - 9 - 1 = j - 10 by omega]
                      · rw [if_neg d4, if_neg (by omega)]
def elM (y : Nat → ClassId) (t : Nat) : va_E := .inl (y (if t = 16 then 1 else 0), mLen (t + 1), .inl (fun _ => 0))
def moW (y : Nat → ClassId) (h0 : Nat) (f : Nat → Value) (ad : Nat → Nat) (t : Nat) : va_W := (h0, .inr (4, rw1 40 f)) :: thg ad (elM y) t
theorem moW_push {y : Nat → ClassId} {h0 q t : Nat} {f : Nat → Value} {ad : Nat → Nat} : moW y h0 f ad t ++ [(q, elM y t)] = moW y h0 f (va_up ad t q) (t + 1) := by
  show (h0, _) :: (thg ad (elM y) t ++ [(q, elM y t)]) = _
  rw [thg_up]
  rfl
theorem moW_get {y : Nat → ClassId} {h0 t k : Nat} {f : Nat → Value} {ad : Nat → Nat} (hk : k ≤ t) : ∃ e, (moW y h0 f ad t)[k]? = some (moB h0 ad k, e) ∧ (k ≠ 0 → e = elM y (k - 1)) ∧ (k = 0 → e = .inr (4, rw1 40 f)) := by
  cases k with
  | zero => exact ⟨_, rfl, fun h => absurd rfl h, fun _ => rfl⟩
  | succ k => exact ⟨elM y k, thg_get (by omega), fun _ => rfl, fun h => absurd h (Nat.succ_ne_zero k)⟩
theorem moW_wM {G : WG} {h0 : Nat} {ad : Nat → Nat} {H : Heap} (hP : va_P G.1 vwCl (moW G.2 h0 (moF 26 ad) ad 26) H) : wM G (moB h0 ad) (0, 0, 0) MS0 H := by
  intro k q hq
  obtain ⟨hk, rfl⟩ := wl_at hq
  obtain ⟨e, h1, h2, h3⟩ := moW_get (y := G.2) (h0 := h0) (f := moF 26 ad) (ad := ad) (t := 26) (k := k) (by omega)
  have h4 := hP k _ h1
  by_cases c : k = 0
  · subst c
    rw [h3 rfl, rw1_congr (fun j _ => moF_26 (h0 := h0) j)] at h4
    exact h4
  · rw [h2 c] at h4
    unfold mE
    rw [if_neg c]
    unfold elM at h4
    have e1 : (k - 1 = 16) ↔ (k = 17) := by omega
    have e2 : k - 1 + 1 = k := by omega
    rw [e2] at h4
    by_cases c2 : k = 17
    · rw [if_pos c2]
      rw [if_pos (e1.mpr c2)] at h4
      exact h4
    · rw [if_neg c2]
      rw [if_neg (fun z => c2 (e1.mp z))] at h4
      exact h4
theorem moW_inj {A : Nat → Prop} {y : Nat → ClassId} {h0 : Nat} {f : Nat → Value} {ad : Nat → Nat} (hD : va_D A (moW y h0 f ad 26)) : wInj 27 (moB h0 ad) ∧ ∀ q, q < 27 → A (moB h0 ad q) := by
  refine ⟨fun i j hi hj e9 => ?_, fun q hq => ?_⟩
  · obtain ⟨e1, h1, -⟩ := moW_get (y := y) (h0 := h0) (f := f) (ad := ad) (t := 26) (k := i) (by omega)
    obtain ⟨e2, h2, -⟩ := moW_get (y := y) (h0 := h0) (f := f) (ad := ad) (t := 26) (k := j) (by omega)
    exact hD.1 i j _ _ h1 h2 e9
  · obtain ⟨e1, h1, -⟩ := moW_get (y := y) (h0 := h0) (f := f) (ad := ad) (t := 26) (k := q) (by omega)
    exact hD.2 q _ h1
section MO
variable {p : Program} {l : Launch} {e : Env} {R : Room} {s : State} {m : MethodId} {args : Array Value} {below : List Frame} {meth : Method} {c : Code} {H : Heap} {locs : List Loc} {cells slots : Nat} {Q : State → Prop}
variable {cc : ByteArray} {pc : Nat} {ls : Array Slot} {G : WG} {A : Nat → Prop} {H0 : Heap} {index : Nat} {h0 : Nat} {ad : Nat → Nat}
theorem mo_put {z : FieldType} (t : Nat) (ht : t < 26) {q : Nat} (hx : p.tables.exec = Jvm.exec) (hb : c.code = cc) (hw : ∀ w ∈ wsX40, w.before args s = true) (hown : s.vm.findClass RX4 = some m.cls) (hin : meth.name = "<init>") (hK : wK G s)
    (hP : va_P G.1 vwCl (moW G.2 h0 (moF t ad) ad t ++ [(q, elM G.2 t)]) H) (hD : va_D A (moW G.2 h0 (moF t ad) ad t ++ [(q, elM G.2 t)])) (hS : va_S A H0 H locs)
    (hlink : (Cond.fieldLink RX4 index (TX4 (mk t)).1 (TX4 (mk t)).2.1 (TX4 (mk t)).2.2.1).before args s = true) (hfin : (TX4 (mk t)).2.2.2 = true) (hdecl : (TX4 (mk t)).1 = RX4) (hd : parseFieldDescriptor (TX4 (mk t)).2.2.1 = some (.array z)) (hdg : decode cc pc = .ok (.putfield index, 3))
    (kk : ∀ (ad2 : Nat → Nat) (H1 : Heap) (locs1 : List Loc), va_P G.1 vwCl (moW G.2 h0 (moF (t + 1) ad2) ad2 (t + 1)) H1 → va_D A (moW G.2 h0 (moF (t + 1) ad2) ad2 (t + 1)) → va_S A H0 H1 locs1 → W p l e R s m args below meth c H1 locs1 cells slots Q (F0 m (pc + 3) ls [])) :
    W p l e R s m args below meth c H locs cells slots Q (F0 m pc ls [.ref q, .ref h0]) := by
  obtain ⟨a1, a2, a3, a4⟩ := mk_ar ht
  rw [moW_push] at hP hD
  have e1 : moW G.2 h0 (moF t ad) (va_up ad t q) (t + 1) = moW G.2 h0 (moF t (va_up ad t q)) (va_up ad t q) (t + 1) := by
    show (h0, Sum.inr (4, rw1 40 (moF t ad))) :: _ = (h0, Sum.inr (4, rw1 40 (moF t (va_up ad t q)))) :: _
    rw [rw1_congr (fun j _ => moF_ad (q := q) j)]
  rw [e1] at hP hD
  have hq : q = va_up ad t q t := by simp [va_up]
  generalize va_up ad t q = ad2 at hP hD hq
  subst hq
  refine va_putF (D := G.1) (ci := 4) (C := RX4) (T := TX4) (N := 40) (ty := .array z) (v := .ref (ad2 t)) (fs := rw1 40 (moF t ad2)) hx hb hw (fun _ h => h) tyX4 tyX4_ok nmX4 hown hK hP hD hS 0 rfl rfl (mk t) a4 hlink (fun _ h9 => h9) hfin hin hdecl hd rfl rfl (by rw [rw1_len]; exact a4) hdg (fun H1 locs1 hP1 hD1 hS1 => ?_)
  have e2 : (moW G.2 h0 (moF t ad2) ad2 (t + 1)).set 0 (h0, .inr (4, (rw1 40 (moF t ad2)).set (mk t) (.ref (ad2 t)))) = moW G.2 h0 (moF (t + 1) ad2) ad2 (t + 1) := by
    rw [rw1_upv, rw1_congr (fun j _ => moF_up ht j)]
    rfl
  rw [e2] at hP1 hD1
  exact kk ad2 H1 locs1 hP1 hD1 hS1
end MO
set_option maxHeartbeats 16000000 in
set_option maxRecDepth 100000 in
theorem c_X4_init (l : Launch) (G : WG) (h0 : Nat) (sz : Nat) : Met l yX4_init wsX4_init ({ frames := 1, cells := 26, slots := 113, locals := 20 }) (va_Pc [.ref h0] (fun U => U.heap.size = sz ∧ va_P G.1 vwCl [(h0, .inr (4, rw1 40 moN))] U.heap ∧ wK G U)) (va_Qv (fun b : Nat → Nat => b 0 = h0 ∧ wInj 27 b ∧ ∀ q, 1 ≤ q → q < 27 → sz ≤ b q) (fun b t => wM G b (0, 0, 0) MS0 t.heap) (va_A [(h0, .inr (4, rw1 40 moN))] sz)) 26 113 (va_A [(h0, .inr (4, rw1 40 moN))] sz) := by
  refine Met.ofW (cc := cX4_init) (maxL := 1) (ret := none) (by decide) rfl ?_
  intro p e s m args below meth c s₁ B hml hv
  obtain ⟨rfl, rfl, hP, hK⟩ := hv
  have hx := B.exec
  have hb := B.bytes
  have hr := B.returns
  have hts := atoms_spec (ws := wsX4_init) B.pre
  have hown : s.vm.findClass RX4 = some m.cls := findClass_of_methodNamed B.named
  have hlocks := B.notSynchronized
  have hin : meth.name = "<init>" := (name_of_methodNamed B.named B.method).1
  have hD0 : va_D (fun _ => True) [(h0, (.inr (4, rw1 40 moN) : va_E))] := ⟨fun i j p q hp hq _ => by
    have h1 := (List.getElem?_eq_some_iff.mp hp).1
    have h2 := (List.getElem?_eq_some_iff.mp hq).1
    simp at h1 h2
    omega, fun _ _ _ => trivial⟩
  have hD := hD0.self (sz := s.heap.size)
  have hA : ∀ q : Nat, s.heap.size ≤ q → (va_A [(h0, .inr (4, rw1 40 moN))] s.heap.size) q := fun q h => Or.inr h
  have hS : va_S (va_A [(h0, .inr (4, rw1 40 moN))] s.heap.size) s.heap s.heap [] := va_S.rf
  generalize eA : (va_A [(h0, .inr (4, rw1 40 moN))] s.heap.size) = A at hD hA hS ⊢
  have hw4 : ∀ w ∈ wsX40, w.before ([.ref h0] : List Value).toArray s = true := fun w hw => hts w ((by decide +kernel : ∀ w ∈ wsX40, w ∈ wsX4_init) w hw)
  have hl := lv_entry ([.ref h0]) (n := 1) (Nat.le_of_ble_eq_true rfl)
  rw [lg_entry_eq]
  generalize (lg_sl ([.ref h0] : List Value) ++ List.replicate (1 - (lg_sl ([.ref h0] : List Value)).length) Slot.unset).toArray = ls at hl ⊢
  have hl : lv_has ls 1 [(0, .ref h0)] := hl
  show W p l e ({ frames := 1, cells := 26, slots := 113, locals := 20 } : Room) s m ([.ref h0] : List Value).toArray below meth c s.heap [] 0 0 (MQ below (va_Qv (fun b : Nat → Nat => b 0 = h0 ∧ wInj 27 b ∧ ∀ q, 1 ≤ q → q < 27 → s.heap.size ≤ b q) (fun b t => wM G b (0, 0, 0) MS0 t.heap) A) ([.ref h0] : List Value).toArray s 26 113 A) (F0 m 0 ls [])
  obtain ⟨QQ, eQ⟩ : ∃ r, r = (MQ below (va_Qv (fun b : Nat → Nat => b 0 = h0 ∧ wInj 27 b ∧ ∀ q, 1 ≤ q → q < 27 → s.heap.size ≤ b q) (fun b t => wM G b (0, 0, 0) MS0 t.heap) A) ([.ref h0] : List Value).toArray s 26 113 A) := ⟨_, rfl⟩
  rw [← eQ]
  refine lv_aload_n hx hb dX4_init_0 rfl (lv_at hl 0 rfl) ?_
  refine W.objInit hx hb hown (hts (.methodLink RX4 1 objectInit) (by decide +kernel)) (hts (.instanceMethod objectInit) (by decide +kernel)) (hts (.code objectInit ⟨#[0xb1]⟩ 1 none) (by decide +kernel)) rfl (by rw [hml]; exact hl.1) rfl dX4_init_1 (Nat.le_of_ble_eq_true rfl) (Nat.le_of_ble_eq_true rfl) ?_
  refine W.eq (g2 := F0 m 4 ls []) rfl ?_
  refine lv_aload_n hx hb dX4_init_4 rfl (lv_at hl 0 rfl) ?_
  refine lv_iconst (v := 1) hx hb dX4_init_5 (by decide) ?_
  refine va_put (D := G.1) (ci := 4) (C := RX4) (T := TX4) (N := 40) (ty := .boolean) (v := .int 1) (fs := rw1 40 (moN)) hx hb hw4 (fun _ h => h) tyX4 tyX4_ok nmX4 hown hK hP hD hS 0 rfl rfl 2 (by decide) (hts (.fieldLink RX4 7 "BackupPowerModel" "areUp" "Z") (by decide +kernel)) (fun _ h9 => h9) rfl (by decide +kernel) rfl rfl (by rw [rw1_len]; decide) dX4_init_6 (fun H locs hP hD hS => ?_)
  have hP : va_P G.1 vwCl [(h0, .inr (4, rw1 40 (upv (moN) 2 (.int 1))))] H := by rw [← rw1_upv]; exact hP
  have hD : va_D A [(h0, (.inr (4, rw1 40 (upv (moN) 2 (.int 1))) : va_E))] := by rw [← rw1_upv]; exact hD
  refine lv_aload_n hx hb dX4_init_9 rfl (lv_at hl 0 rfl) ?_
  refine lv_iconst (v := 2) hx hb dX4_init_10 (by decide) ?_
  refine va_put (D := G.1) (ci := 4) (C := RX4) (T := TX4) (N := 40) (ty := .int) (v := .int 2) (fs := rw1 40 (upv (moN) 2 (.int 1))) hx hb hw4 (fun _ h => h) tyX4 tyX4_ok nmX4 hown hK hP hD hS 0 rfl rfl 4 (by decide) (hts (.fieldLink RX4 13 "BackupPowerModel" "startTime" "I") (by decide +kernel)) (fun _ h9 => h9) rfl (by decide +kernel) rfl rfl (by rw [rw1_len]; decide) dX4_init_11 (fun H locs hP hD hS => ?_)
  have hP : va_P G.1 vwCl [(h0, .inr (4, rw1 40 (upv (upv (moN) 2 (.int 1)) 4 (.int 2))))] H := by rw [← rw1_upv]; exact hP
  have hD : va_D A [(h0, (.inr (4, rw1 40 (upv (upv (moN) 2 (.int 1)) 4 (.int 2))) : va_E))] := by rw [← rw1_upv]; exact hD
  refine lv_aload_n hx hb dX4_init_14 rfl (lv_at hl 0 rfl) ?_
  refine lv_iconst (v := 1) hx hb dX4_init_15 (by decide) ?_
  refine va_put (D := G.1) (ci := 4) (C := RX4) (T := TX4) (N := 40) (ty := .int) (v := .int 1) (fs := rw1 40 (upv (upv (moN) 2 (.int 1)) 4 (.int 2))) hx hb hw4 (fun _ h => h) tyX4 tyX4_ok nmX4 hown hK hP hD hS 0 rfl rfl 5 (by decide) (hts (.fieldLink RX4 17 "BackupPowerModel" "stagger" "I") (by decide +kernel)) (fun _ h9 => h9) rfl (by decide +kernel) rfl rfl (by rw [rw1_len]; decide) dX4_init_16 (fun H locs hP hD hS => ?_)
  have hP : va_P G.1 vwCl [(h0, .inr (4, rw1 40 (upv (upv (upv (moN) 2 (.int 1)) 4 (.int 2)) 5 (.int 1))))] H := by rw [← rw1_upv]; exact hP
  have hD : va_D A [(h0, (.inr (4, rw1 40 (upv (upv (upv (moN) 2 (.int 1)) 4 (.int 2)) 5 (.int 1))) : va_E))] := by rw [← rw1_upv]; exact hD
  refine lv_aload_n hx hb dX4_init_19 rfl (lv_at hl 0 rfl) ?_
  refine lv_iconst (v := (-1)) hx hb dX4_init_20 (by decide) ?_
  refine va_put (D := G.1) (ci := 4) (C := RX4) (T := TX4) (N := 40) (ty := .int) (v := .int (-1)) (fs := rw1 40 (upv (upv (upv (moN) 2 (.int 1)) 4 (.int 2)) 5 (.int 1))) hx hb hw4 (fun _ h => h) tyX4 tyX4_ok nmX4 hown hK hP hD hS 0 rfl rfl 6 (by decide) (hts (.fieldLink RX4 20 "BackupPowerModel" "lastReturn" "I") (by decide +kernel)) (fun _ h9 => h9) rfl (by decide +kernel) rfl rfl (by rw [rw1_len]; decide) dX4_init_21 (fun H locs hP hD hS => ?_)
  have hP : va_P G.1 vwCl [(h0, .inr (4, rw1 40 (upv (upv (upv (upv (moN) 2 (.int 1)) 4 (.int 2)) 5 (.int 1)) 6 (.int (-1)))))] H := by rw [← rw1_upv]; exact hP
  have hD : va_D A [(h0, (.inr (4, rw1 40 (upv (upv (upv (upv (moN) 2 (.int 1)) 4 (.int 2)) 5 (.int 1)) 6 (.int (-1)))) : va_E))] := by rw [← rw1_upv]; exact hD
  refine lv_aload_n hx hb dX4_init_24 rfl (lv_at hl 0 rfl) ?_
  refine lv_bipush (v := 10) hx hb dX4_init_25 (by decide) ?_
  have hP : va_P G.1 vwCl (moW G.2 h0 (moF 0 (fun _ => 0)) (fun _ => 0) 0) H := by rw [rw1_congr (fun j _ => moF_0 (ad := fun _ => 0) j)] at hP; exact hP
  have hD : va_D A (moW G.2 h0 (moF 0 (fun _ => 0)) (fun _ => 0) 0) := by rw [rw1_congr (fun j _ => moF_0 (ad := fun _ => 0) j)] at hD; exact hD
  refine nwI (G := G) hx hb (hts (.arrayClass .int) (by decide +kernel)) hK hP hD hS hA (N' := 10) (by decide) (by decide) (by decide) (by decide) (by decide) dX4_init_27 (fun q H hP hD hS => ?_)
  refine mo_put (z := .int) 0 (by decide) hx hb hw4 hown hin hK hP hD hS (hts (.fieldLink RX4 23 "BackupPowerModel" "ranks" "[I") (by decide +kernel)) rfl rfl (by decide +kernel) dX4_init_29 (fun ad H locs hP hD hS => ?_)
  refine lv_aload_n hx hb dX4_init_32 rfl (lv_at hl 0 rfl) ?_
  refine lv_bipush (v := 10) hx hb dX4_init_33 (by decide) ?_
  refine nwI (G := G) hx hb (hts (.arrayClass .int) (by decide +kernel)) hK hP hD hS hA (N' := 10) (by decide) (by decide) (by decide) (by decide) (by decide) dX4_init_35 (fun q H hP hD hS => ?_)
  refine mo_put (z := .int) 1 (by decide) hx hb hw4 hown hin hK hP hD hS (hts (.fieldLink RX4 27 "BackupPowerModel" "powers" "[I") (by decide +kernel)) rfl rfl (by decide +kernel) dX4_init_37 (fun ad H locs hP hD hS => ?_)
  refine lv_aload_n hx hb dX4_init_40 rfl (lv_at hl 0 rfl) ?_
  refine lv_bipush (v := 10) hx hb dX4_init_41 (by decide) ?_
  refine nwI (G := G) hx hb (hts (.arrayClass .int) (by decide +kernel)) hK hP hD hS hA (N' := 10) (by decide) (by decide) (by decide) (by decide) (by decide) dX4_init_43 (fun q H hP hD hS => ?_)
  refine mo_put (z := .int) 2 (by decide) hx hb hw4 hown hin hK hP hD hS (hts (.fieldLink RX4 30 "BackupPowerModel" "states" "[I") (by decide +kernel)) rfl rfl (by decide +kernel) dX4_init_45 (fun ad H locs hP hD hS => ?_)
  refine lv_aload_n hx hb dX4_init_48 rfl (lv_at hl 0 rfl) ?_
  refine lv_bipush (v := 10) hx hb dX4_init_49 (by decide) ?_
  refine nwI (G := G) hx hb (hts (.arrayClass .int) (by decide +kernel)) hK hP hD hS hA (N' := 10) (by decide) (by decide) (by decide) (by decide) (by decide) dX4_init_51 (fun q H hP hD hS => ?_)
  refine mo_put (z := .int) 3 (by decide) hx hb hw4 hown hin hK hP hD hS (hts (.fieldLink RX4 33 "BackupPowerModel" "energies" "[I") (by decide +kernel)) rfl rfl (by decide +kernel) dX4_init_53 (fun ad H locs hP hD hS => ?_)
  refine lv_aload_n hx hb dX4_init_56 rfl (lv_at hl 0 rfl) ?_
  refine lv_bipush (v := 10) hx hb dX4_init_57 (by decide) ?_
  refine nwI (G := G) hx hb (hts (.arrayClass .int) (by decide +kernel)) hK hP hD hS hA (N' := 10) (by decide) (by decide) (by decide) (by decide) (by decide) dX4_init_59 (fun q H hP hD hS => ?_)
  refine mo_put (z := .int) 4 (by decide) hx hb hw4 hown hin hK hP hD hS (hts (.fieldLink RX4 36 "BackupPowerModel" "darks" "[I") (by decide +kernel)) rfl rfl (by decide +kernel) dX4_init_61 (fun ad H locs hP hD hS => ?_)
  refine lv_aload_n hx hb dX4_init_64 rfl (lv_at hl 0 rfl) ?_
  refine lv_iconst (v := 3) hx hb dX4_init_65 (by decide) ?_
  refine nwI (G := G) hx hb (hts (.arrayClass .int) (by decide +kernel)) hK hP hD hS hA (N' := 3) (by decide) (by decide) (by decide) (by decide) (by decide) dX4_init_66 (fun q H hP hD hS => ?_)
  refine mo_put (z := .int) 5 (by decide) hx hb hw4 hown hin hK hP hD hS (hts (.fieldLink RX4 39 "BackupPowerModel" "capacities" "[I") (by decide +kernel)) rfl rfl (by decide +kernel) dX4_init_68 (fun ad H locs hP hD hS => ?_)
  refine lv_aload_n hx hb dX4_init_71 rfl (lv_at hl 0 rfl) ?_
  refine lv_iconst (v := 3) hx hb dX4_init_72 (by decide) ?_
  refine nwI (G := G) hx hb (hts (.arrayClass .int) (by decide +kernel)) hK hP hD hS hA (N' := 3) (by decide) (by decide) (by decide) (by decide) (by decide) dX4_init_73 (fun q H hP hD hS => ?_)
  refine mo_put (z := .int) 6 (by decide) hx hb hw4 hown hin hK hP hD hS (hts (.fieldLink RX4 42 "BackupPowerModel" "charges" "[I") (by decide +kernel)) rfl rfl (by decide +kernel) dX4_init_75 (fun ad H locs hP hD hS => ?_)
  refine lv_aload_n hx hb dX4_init_78 rfl (lv_at hl 0 rfl) ?_
  refine lv_iconst (v := 3) hx hb dX4_init_79 (by decide) ?_
  refine nwI (G := G) hx hb (hts (.arrayClass .int) (by decide +kernel)) hK hP hD hS hA (N' := 3) (by decide) (by decide) (by decide) (by decide) (by decide) dX4_init_80 (fun q H hP hD hS => ?_)
  refine mo_put (z := .int) 7 (by decide) hx hb hw4 hown hin hK hP hD hS (hts (.fieldLink RX4 45 "BackupPowerModel" "rates" "[I") (by decide +kernel)) rfl rfl (by decide +kernel) dX4_init_82 (fun ad H locs hP hD hS => ?_)
  refine lv_aload_n hx hb dX4_init_85 rfl (lv_at hl 0 rfl) ?_
  refine lv_iconst (v := 3) hx hb dX4_init_86 (by decide) ?_
  refine nwI (G := G) hx hb (hts (.arrayClass .int) (by decide +kernel)) hK hP hD hS hA (N' := 3) (by decide) (by decide) (by decide) (by decide) (by decide) dX4_init_87 (fun q H hP hD hS => ?_)
  refine mo_put (z := .int) 8 (by decide) hx hb hw4 hown hin hK hP hD hS (hts (.fieldLink RX4 48 "BackupPowerModel" "chargings" "[I") (by decide +kernel)) rfl rfl (by decide +kernel) dX4_init_89 (fun ad H locs hP hD hS => ?_)
  refine lv_aload_n hx hb dX4_init_92 rfl (lv_at hl 0 rfl) ?_
  refine lv_iconst (v := 3) hx hb dX4_init_93 (by decide) ?_
  refine nwI (G := G) hx hb (hts (.arrayClass .int) (by decide +kernel)) hK hP hD hS hA (N' := 3) (by decide) (by decide) (by decide) (by decide) (by decide) dX4_init_94 (fun q H hP hD hS => ?_)
  refine mo_put (z := .int) 9 (by decide) hx hb hw4 hown hin hK hP hD hS (hts (.fieldLink RX4 51 "BackupPowerModel" "ahead" "[I") (by decide +kernel)) rfl rfl (by decide +kernel) dX4_init_96 (fun ad H locs hP hD hS => ?_)
  refine lv_aload_n hx hb dX4_init_99 rfl (lv_at hl 0 rfl) ?_
  refine lv_iconst (v := 3) hx hb dX4_init_100 (by decide) ?_
  refine nwI (G := G) hx hb (hts (.arrayClass .int) (by decide +kernel)) hK hP hD hS hA (N' := 3) (by decide) (by decide) (by decide) (by decide) (by decide) dX4_init_101 (fun q H hP hD hS => ?_)
  refine mo_put (z := .int) 10 (by decide) hx hb hw4 hown hin hK hP hD hS (hts (.fieldLink RX4 54 "BackupPowerModel" "trial" "[I") (by decide +kernel)) rfl rfl (by decide +kernel) dX4_init_103 (fun ad H locs hP hD hS => ?_)
  refine lv_aload_n hx hb dX4_init_106 rfl (lv_at hl 0 rfl) ?_
  refine lv_iconst (v := 3) hx hb dX4_init_107 (by decide) ?_
  refine nwI (G := G) hx hb (hts (.arrayClass .int) (by decide +kernel)) hK hP hD hS hA (N' := 3) (by decide) (by decide) (by decide) (by decide) (by decide) dX4_init_108 (fun q H hP hD hS => ?_)
  refine mo_put (z := .int) 11 (by decide) hx hb hw4 hown hin hK hP hD hS (hts (.fieldLink RX4 57 "BackupPowerModel" "strengths" "[I") (by decide +kernel)) rfl rfl (by decide +kernel) dX4_init_110 (fun ad H locs hP hD hS => ?_)
  refine lv_aload_n hx hb dX4_init_113 rfl (lv_at hl 0 rfl) ?_
  refine lv_iconst (v := 3) hx hb dX4_init_114 (by decide) ?_
  refine nwI (G := G) hx hb (hts (.arrayClass .int) (by decide +kernel)) hK hP hD hS hA (N' := 3) (by decide) (by decide) (by decide) (by decide) (by decide) dX4_init_115 (fun q H hP hD hS => ?_)
  refine mo_put (z := .int) 12 (by decide) hx hb hw4 hown hin hK hP hD hS (hts (.fieldLink RX4 60 "BackupPowerModel" "delays" "[I") (by decide +kernel)) rfl rfl (by decide +kernel) dX4_init_117 (fun ad H locs hP hD hS => ?_)
  refine lv_aload_n hx hb dX4_init_120 rfl (lv_at hl 0 rfl) ?_
  refine lv_iconst (v := 3) hx hb dX4_init_121 (by decide) ?_
  refine nwI (G := G) hx hb (hts (.arrayClass .int) (by decide +kernel)) hK hP hD hS hA (N' := 3) (by decide) (by decide) (by decide) (by decide) (by decide) dX4_init_122 (fun q H hP hD hS => ?_)
  refine mo_put (z := .int) 13 (by decide) hx hb hw4 hown hin hK hP hD hS (hts (.fieldLink RX4 63 "BackupPowerModel" "tanks" "[I") (by decide +kernel)) rfl rfl (by decide +kernel) dX4_init_124 (fun ad H locs hP hD hS => ?_)
  refine lv_aload_n hx hb dX4_init_127 rfl (lv_at hl 0 rfl) ?_
  refine lv_iconst (v := 3) hx hb dX4_init_128 (by decide) ?_
  refine nwI (G := G) hx hb (hts (.arrayClass .int) (by decide +kernel)) hK hP hD hS hA (N' := 3) (by decide) (by decide) (by decide) (by decide) (by decide) dX4_init_129 (fun q H hP hD hS => ?_)
  refine mo_put (z := .int) 14 (by decide) hx hb hw4 hown hin hK hP hD hS (hts (.fieldLink RX4 66 "BackupPowerModel" "fuels" "[I") (by decide +kernel)) rfl rfl (by decide +kernel) dX4_init_131 (fun ad H locs hP hD hS => ?_)
  refine lv_aload_n hx hb dX4_init_134 rfl (lv_at hl 0 rfl) ?_
  refine lv_iconst (v := 3) hx hb dX4_init_135 (by decide) ?_
  refine nwI (G := G) hx hb (hts (.arrayClass .int) (by decide +kernel)) hK hP hD hS hA (N' := 3) (by decide) (by decide) (by decide) (by decide) (by decide) dX4_init_136 (fun q H hP hD hS => ?_)
  refine mo_put (z := .int) 15 (by decide) hx hb hw4 hown hin hK hP hD hS (hts (.fieldLink RX4 69 "BackupPowerModel" "modes" "[I") (by decide +kernel)) rfl rfl (by decide +kernel) dX4_init_138 (fun ad H locs hP hD hS => ?_)
  refine lv_aload_n hx hb dX4_init_141 rfl (lv_at hl 0 rfl) ?_
  refine lv_iconst (v := 3) hx hb dX4_init_142 (by decide) ?_
  refine nwZ (G := G) hx hb (hts (.arrayClass .boolean) (by decide +kernel)) hK hP hD hS hA (N' := 3) (by decide) (by decide) (by decide) (by decide) (by decide) dX4_init_143 (fun q H hP hD hS => ?_)
  refine mo_put (z := .boolean) 16 (by decide) hx hb hw4 hown hin hK hP hD hS (hts (.fieldLink RX4 72 "BackupPowerModel" "isTest" "[Z") (by decide +kernel)) rfl rfl (by decide +kernel) dX4_init_145 (fun ad H locs hP hD hS => ?_)
  refine lv_aload_n hx hb dX4_init_148 rfl (lv_at hl 0 rfl) ?_
  refine lv_iconst (v := 3) hx hb dX4_init_149 (by decide) ?_
  refine nwI (G := G) hx hb (hts (.arrayClass .int) (by decide +kernel)) hK hP hD hS hA (N' := 3) (by decide) (by decide) (by decide) (by decide) (by decide) dX4_init_150 (fun q H hP hD hS => ?_)
  refine mo_put (z := .int) 17 (by decide) hx hb hw4 hown hin hK hP hD hS (hts (.fieldLink RX4 76 "BackupPowerModel" "toGo" "[I") (by decide +kernel)) rfl rfl (by decide +kernel) dX4_init_152 (fun ad H locs hP hD hS => ?_)
  refine lv_aload_n hx hb dX4_init_155 rfl (lv_at hl 0 rfl) ?_
  refine lv_iconst (v := 3) hx hb dX4_init_156 (by decide) ?_
  refine nwI (G := G) hx hb (hts (.arrayClass .int) (by decide +kernel)) hK hP hD hS hA (N' := 3) (by decide) (by decide) (by decide) (by decide) (by decide) dX4_init_157 (fun q H hP hD hS => ?_)
  refine mo_put (z := .int) 18 (by decide) hx hb hw4 hown hin hK hP hD hS (hts (.fieldLink RX4 79 "BackupPowerModel" "ran" "[I") (by decide +kernel)) rfl rfl (by decide +kernel) dX4_init_159 (fun ad H locs hP hD hS => ?_)
  refine lv_aload_n hx hb dX4_init_162 rfl (lv_at hl 0 rfl) ?_
  refine lv_iconst (v := 3) hx hb dX4_init_163 (by decide) ?_
  refine nwI (G := G) hx hb (hts (.arrayClass .int) (by decide +kernel)) hK hP hD hS hA (N' := 3) (by decide) (by decide) (by decide) (by decide) (by decide) dX4_init_164 (fun q H hP hD hS => ?_)
  refine mo_put (z := .int) 19 (by decide) hx hb hw4 hown hin hK hP hD hS (hts (.fieldLink RX4 82 "BackupPowerModel" "given" "[I") (by decide +kernel)) rfl rfl (by decide +kernel) dX4_init_166 (fun ad H locs hP hD hS => ?_)
  refine lv_aload_n hx hb dX4_init_169 rfl (lv_at hl 0 rfl) ?_
  refine lv_iconst (v := 3) hx hb dX4_init_170 (by decide) ?_
  refine nwI (G := G) hx hb (hts (.arrayClass .int) (by decide +kernel)) hK hP hD hS hA (N' := 3) (by decide) (by decide) (by decide) (by decide) (by decide) dX4_init_171 (fun q H hP hD hS => ?_)
  refine mo_put (z := .int) 20 (by decide) hx hb hw4 hown hin hK hP hD hS (hts (.fieldLink RX4 85 "BackupPowerModel" "failures" "[I") (by decide +kernel)) rfl rfl (by decide +kernel) dX4_init_173 (fun ad H locs hP hD hS => ?_)
  refine lv_aload_n hx hb dX4_init_176 rfl (lv_at hl 0 rfl) ?_
  refine lv_iconst (v := 3) hx hb dX4_init_177 (by decide) ?_
  refine nwI (G := G) hx hb (hts (.arrayClass .int) (by decide +kernel)) hK hP hD hS hA (N' := 3) (by decide) (by decide) (by decide) (by decide) (by decide) dX4_init_178 (fun q H hP hD hS => ?_)
  refine mo_put (z := .int) 21 (by decide) hx hb hw4 hown hin hK hP hD hS (hts (.fieldLink RX4 88 "BackupPowerModel" "periods" "[I") (by decide +kernel)) rfl rfl (by decide +kernel) dX4_init_180 (fun ad H locs hP hD hS => ?_)
  refine lv_aload_n hx hb dX4_init_183 rfl (lv_at hl 0 rfl) ?_
  refine lv_iconst (v := 3) hx hb dX4_init_184 (by decide) ?_
  refine nwI (G := G) hx hb (hts (.arrayClass .int) (by decide +kernel)) hK hP hD hS hA (N' := 3) (by decide) (by decide) (by decide) (by decide) (by decide) dX4_init_185 (fun q H hP hD hS => ?_)
  refine mo_put (z := .int) 22 (by decide) hx hb hw4 hown hin hK hP hD hS (hts (.fieldLink RX4 91 "BackupPowerModel" "lengths" "[I") (by decide +kernel)) rfl rfl (by decide +kernel) dX4_init_187 (fun ad H locs hP hD hS => ?_)
  refine lv_aload_n hx hb dX4_init_190 rfl (lv_at hl 0 rfl) ?_
  refine lv_iconst (v := 3) hx hb dX4_init_191 (by decide) ?_
  refine nwI (G := G) hx hb (hts (.arrayClass .int) (by decide +kernel)) hK hP hD hS hA (N' := 3) (by decide) (by decide) (by decide) (by decide) (by decide) dX4_init_192 (fun q H hP hD hS => ?_)
  refine mo_put (z := .int) 23 (by decide) hx hb hw4 hown hin hK hP hD hS (hts (.fieldLink RX4 94 "BackupPowerModel" "failed" "[I") (by decide +kernel)) rfl rfl (by decide +kernel) dX4_init_194 (fun ad H locs hP hD hS => ?_)
  refine lv_aload_n hx hb dX4_init_197 rfl (lv_at hl 0 rfl) ?_
  refine lv_iconst (v := 3) hx hb dX4_init_198 (by decide) ?_
  refine nwI (G := G) hx hb (hts (.arrayClass .int) (by decide +kernel)) hK hP hD hS hA (N' := 3) (by decide) (by decide) (by decide) (by decide) (by decide) dX4_init_199 (fun q H hP hD hS => ?_)
  refine mo_put (z := .int) 24 (by decide) hx hb hw4 hown hin hK hP hD hS (hts (.fieldLink RX4 97 "BackupPowerModel" "passedTests" "[I") (by decide +kernel)) rfl rfl (by decide +kernel) dX4_init_201 (fun ad H locs hP hD hS => ?_)
  refine lv_aload_n hx hb dX4_init_204 rfl (lv_at hl 0 rfl) ?_
  refine lv_iconst (v := 3) hx hb dX4_init_205 (by decide) ?_
  refine nwI (G := G) hx hb (hts (.arrayClass .int) (by decide +kernel)) hK hP hD hS hA (N' := 3) (by decide) (by decide) (by decide) (by decide) (by decide) dX4_init_206 (fun q H hP hD hS => ?_)
  refine mo_put (z := .int) 25 (by decide) hx hb hw4 hown hin hK hP hD hS (hts (.fieldLink RX4 100 "BackupPowerModel" "failedTests" "[I") (by decide +kernel)) rfl rfl (by decide +kernel) dX4_init_208 (fun ad H locs hP hD hS => ?_)
  refine lv_aload_n hx hb dX4_init_211 rfl (lv_at hl 0 rfl) ?_
  refine lv_iconst (v := 0) hx hb dX4_init_212 (by decide) ?_
  refine va_put (D := G.1) (ci := 4) (C := RX4) (T := TX4) (N := 40) (ty := .int) (v := .int 0) (fs := rw1 40 (moF 26 ad)) hx hb hw4 (fun _ h => h) tyX4 tyX4_ok nmX4 hown hK hP hD hS 0 rfl rfl 0 (by decide) (hts (.fieldLink RX4 103 "BackupPowerModel" "thrown" "I") (by decide +kernel)) (fun _ h9 => h9) rfl (by decide +kernel) rfl rfl (by rw [rw1_len]; decide) dX4_init_213 (fun H locs hP hD hS => ?_)
  have e9 : (moW G.2 h0 (moF 26 ad) ad 26).set 0 (h0, .inr (4, (rw1 40 (moF 26 ad)).set 0 (.int 0))) = moW G.2 h0 (moF 26 ad) ad 26 := by
    rw [rw1_set (f' := moF 26 ad) (k := 0) (v := .int 0) rfl (fun _ _ _ => rfl)]
    rfl
  have hP : va_P G.1 vwCl (moW G.2 h0 (moF 26 ad) ad 26) H := by rw [← e9]; exact hP
  have hD : va_D A (moW G.2 h0 (moF 26 ad) ad 26) := by rw [← e9]; exact hD
  obtain ⟨hinj, hfr⟩ := moW_inj hD
  have hC := moW_wM hP
  have h0a : moB h0 ad 0 = h0 := rfl
  generalize moB h0 ad = b at hC hinj hfr h0a
  rw [eQ]
  refine W.vret hx hb hr (fun t ht hW => ⟨⟨b, rfl, ⟨h0a, hinj, fun q h1 h2 => ?_⟩, by show va_P _ _ _ _; rw [ht]; exact hC⟩, hS.F ht⟩) hS.2.2 dX4_init_216 hlocks
  have h9 := hfr q h2
  rw [← eA] at h9
  rcases h9 with ⟨k9, e9, h9⟩ | h9
  · exfalso
    have hk : k9 = 0 := by
      have := (List.getElem?_eq_some_iff.mp h9).1
      simp at this
      exact this
    subst hk
    have e : h0 = b q := (Prod.mk.inj (Option.some.inj h9)).1
    have := hinj 0 q (by omega) h2 (by rw [h0a, e])
    omega
  · exact h9
