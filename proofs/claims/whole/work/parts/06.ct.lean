/-! ===== contracts; calls, returns, throws, makings ===== -/
def Qc (D : va_G) (b0 : Nat) (Q : Option Value → AH → Prop) : Array Value → State → Outcome → State → Prop := fun _ st o t => (∃ (v : Option Value) (h' : AH), o = .returned v ∧ Q v h' ∧ Rl D b0 h' t.heap) ∧ va_F (fun q => b0 ≤ q) st t
def Xc (D : va_G) (b0 : Nat) (QX : String → AH → Prop) : String → State → State → Prop := fun E st t => (∃ h' : AH, QX E h' ∧ Rl D b0 h' t.heap) ∧ va_F (fun q => b0 ≤ q) st t
def Zq (D : va_G) (b0 : Nat) (below : List Frame) (args : Array Value) (s : State) (Q : Option Value → AH → Prop) (QX : String → AH → Prop) (mc ms : Nat) : State → Prop := vx_MQ below (Qc D b0 Q) (Xc D b0 QX) args s mc ms (fun q => b0 ≤ q)
def Wy (mi : MI) : List Cond := Cond.code mi.1 mi.2.1 mi.2.2.1 mi.2.2.2 :: ALL
def Pq (D : va_G) (Y : Nat → ClassId) (b0 : Nat) (as : List Value) (h : AH) : Array Value → State → Prop := va_Pc as (fun U => Rl D b0 h U.heap ∧ Wd D Y b0 U)
/-- the contract of a method: from these arguments and this heap it ends, with Q, or throws, with QX; d frames, mc cells, ms slots -/
def Ct (l : Launch) (D : va_G) (Y : Nat → ClassId) (b0 : Nat) (mi : MI) (d mc ms : Nat) (as : List Value) (h : AH) (Q : Option Value → AH → Prop) (QX : String → AH → Prop) : Prop :=
  l.stackTraces = false → vx_Met l mi.1 (Wy mi) (rmO d mc ms) (Pq D Y b0 as h) (Qc D b0 Q) (Xc D b0 QX) mc ms (fun q => b0 ≤ q)
def noX : String → AH → Prop := fun _ _ => False
theorem Wd.at {D : va_G} {Y : Nat → ClassId} {b0 : Nat} {s U : State} {H : Heap} {locs : List Loc} (hW : Wd D Y b0 s) (hS : va_S (fun q => b0 ≤ q) s.heap H locs) (hU : U.heap = H) (hw : s.WarmedH U.vm) : Wd D Y b0 U := by
  obtain ⟨h1, h2, h3, h4⟩ := hW
  refine ⟨h1.warm hw, ?_, ?_, ?_⟩
  · rw [hU]; exact (h2.kept hS.2.1).moved hw.alike
  · rw [hU]; exact (h3.kept hS.2.1).moved hw.alike
  · rw [hU]; exact Nat.le_trans h4 hS.1
theorem Pq_blind {D : va_G} {Y : Nat → ClassId} {b0 : Nat} {as : List Value} {h : AH} : FrameBlind (Pq D Y b0 as h) := by
  intro a U g mk hp
  obtain ⟨e1, hR, h1, h2, h3, h4⟩ := hp
  exact ⟨e1, hR, h1.warm (U := U.calling g mk a) (State.WarmedH.refl U), vx_Zq.moved (U := U.calling g mk a) (Vm.Alike.refl U.vm) h2, vx_Zq.moved (U := U.calling g mk a) (Vm.Alike.refl U.vm) h3, h4⟩
section VC
variable {p : Program} {l : Launch} {e : Env} {s : State} {m : MethodId} {args : Array Value} {below : List Frame} {meth : Method} {c : Code} {D : va_G} {Y : Nat → ClassId} {b0 d0 mc0 ms0 : Nat} {Z : State → Prop}
variable {own : String} {cc : ByteArray} {nL : Nat} {ini : Bool} {ret9 : Option FieldType} {pc k j : Nat} {ls : Lo} {st rest As : List Value} {h : AH} {Q Q0 : Option Value → AH → Prop} {QX QX0 : String → AH → Prop} {mi : MI} {d mc ms : Nat}
/-- thrown over this frame -/
def VX (p : Program) (l : Launch) (e : Env) (s : State) (m : MethodId) (args : Array Value) (below : List Frame) (meth : Method) (c : Code) (D : va_G) (b0 d0 mc0 ms0 : Nat) (Z : State → Prop) (k j : Nat) (pc : Nat) (ls : Lo) (st : List Value) (h : AH) (E : String) : Prop :=
  ∀ (H : Heap) (locs : List Loc) (arr : Array Slot) (q : Addr) (ce : Cell), Rl D b0 h H → va_S (fun q => b0 ≤ q) s.heap H locs → lv_has arr c.maxLocals ls → H[q]? = some ce → ce.vm = .none → s.vm.findClass E = some ce.cls → vx_W p l e (rmO d0 mc0 ms0) s m args below meth c H locs k j Z (F0 m pc arr st) q
theorem VX_out (C : Cx p l s m args meth c D Y b0 own cc nL ini ret9) (hZ : Zq D b0 below args s Q0 QX0 mc0 ms0 = Z) (hno : ∀ x ∈ c.exceptionTable.toList, False) {E : String} (hq : QX0 E h) (hk : k ≤ mc0 ∧ j ≤ ms0) : VX p l e s m args below meth c D b0 d0 mc0 ms0 Z k j pc ls st h E := by
  subst hZ
  intro H locs arr q ce hR hS hl hc hv hcl
  refine vx_out (fun x hx => (hno x hx).elim) C.2.2.2.2.1 hc hv hcl (fun t ht _ => ⟨⟨h, hq, by rw [ht]; exact hR⟩, hS.F ht⟩) hS.2.2 hk.1 hk.2
theorem V_ofRun {a : Array Value} (hr : ∀ (H : Heap) (locs : List Loc) (arr : Array Slot), Rl D b0 h H → va_S (fun q => b0 ≤ q) s.heap H locs → lv_has arr c.maxLocals ls → vx_Run p l e (rmO d0 mc0 ms0) s m args below meth c H locs k j mc ms (F0 m pc arr st) rest (Qc D b0 Q a) (Xc D b0 QX) (fun q => b0 ≤ q))
    (kx : ∀ (E : String) (h' : AH), QX E h' → VX p l e s m args below meth c D b0 d0 mc0 ms0 Z (k + mc) (j + ms) pc ls rest h' E)
    (kk : ∀ (v : Option Value) (h' : AH), Q v h' → V p l e s m args below meth c D b0 d0 mc0 ms0 Z (k + mc) (j + ms) (pc + 3) ls (v.toList ++ rest) h') : V p l e s m args below meth c D b0 d0 mc0 ms0 Z k j pc ls st h := by
  intro H locs arr hR hS hl T hT X
  rcases hr H locs arr hR hS hl T hT X with ⟨v, st₀, t, T', L, h0, X', hL, e1, e2, ⟨⟨v', h', hv, hq, hR'⟩, hF⟩, st⟩ | ⟨q, st₀, t, T', L, E, ce, h0, X', hL, e1, e2, ⟨⟨h', hq, hR'⟩, hF⟩, hce, hcv, hcl, st⟩
  · cases hv
    obtain ⟨k1, k2, k3⟩ := vx_keep h0 e1 hS (fun _ _ z => z) (fun _ z => z) hL hF
    obtain ⟨t2, a1, b1⟩ := kk v h' hq T'.heap (locs ++ L) arr (by rw [e1]; exact hR') k3 hl T' rfl X'
    exact ⟨t2, st t2 a1, b1⟩
  · obtain ⟨k1, k2, k3⟩ := vx_keep h0 e1 hS (fun _ _ z => z) (fun _ z => z) hL hF
    obtain ⟨t2, a1, b1⟩ := kx E h' hq T'.heap (locs ++ L) arr q ce (by rw [e1]; exact hR') k3 hl (by rw [e1]; exact hce) hcv hcl T' rfl X'
    exact ⟨t2, st.trans a1, b1⟩
def ckB (na : Nat) (mi : MI) : Bool := decide (Cond.initialized mi.1.cls ∈ ALL) && decide (Cond.code mi.1 mi.2.1 mi.2.2.1 mi.2.2.2 ∈ ALL) && decide (mi.1.cls ≠ "java/lang/invoke/MethodHandle") && decide (mi.1.cls ≠ "java/lang/invoke/VarHandle") && decide ((parseMethodDescriptor mi.1.desc).map (fun d => d.parameters.length) = some na) && decide (mi.2.2.1 ≤ 17)
def ckV (own : String) (idx na : Nat) (mi : MI) : Bool := ckB na mi && decide (Cond.methodLink own idx mi.1 ∈ ALL) && decide (Cond.instanceMethod mi.1 ∈ ALL) && decide (Cond.selects mi.1.cls mi.1 mi.1 ∈ ALL)
def ckS (own : String) (idx na : Nat) (mi : MI) : Bool := ckB na mi && decide (Cond.methodLink own idx mi.1 ∈ ALL) && decide (Cond.static mi.1 ∈ ALL)
def ckI (own : String) (idx na : Nat) (mi : MI) : Bool := ckB na mi && decide (Cond.methodLink own idx mi.1 ∈ ALL) && decide (Cond.instanceMethod mi.1 ∈ ALL) && decide (mi.1.name = "<init>") && decide (mi.2.2.2 = none)
def ckIN (own : String) (idx na : Nat) (mi : MI) : Bool := ckB na mi && decide ((own, idx, mi.1, "GridStore") ∈ nM) && decide (Cond.instanceMethod mi.1 ∈ ALL) && decide (mi.1.name = "<init>") && decide (mi.2.2.2 = none)
theorem callB_at (C : Cx p l s m args meth c D Y b0 own cc nL ini ret9) {idx na : Nat} (hc : ckB na mi = true) (hl : (Cond.methodLink own idx mi.1).before args s = true) (hd : d + 1 ≤ d0) : CallB (rmO d0 mc0 ms0) s args own idx mi.1 mi.2.1 mi.2.2.1 mi.2.2.2 (Wy mi) (rmO d mc ms) mc ms na := by
  obtain ⟨hx, hb, hown, hts, hlk, hW, hnL, hini, hfl⟩ := C
  simp only [ckB, Bool.and_eq_true, decide_eq_true_eq] at hc
  obtain ⟨⟨⟨⟨⟨h1, h2⟩, h3⟩, h4⟩, h5⟩, h6⟩ := hc
  refine ⟨rfl, rfl, hd, ?_, ?_, List.mem_cons_self, hts _ h2, hts _ h1, ⟨h3, h4⟩, fun sig h => ?_, hl⟩
  · show 8 + (mi.2.2.1 + 11) + (36 * d + 6) ≤ 36 * d0 + 6
    omega
  · refine pay_in hts ?_
    intro w hw
    rcases List.mem_cons.mp hw with e | e
    · rw [e]; exact all_self _ h2
    · exact all_self _ e
  · rw [h] at h5
    exact (Option.some.inj h5).symm
theorem V_callV (C : Cx p l s m args meth c D Y b0 own cc nL ini ret9) {idx na a ci : Nat} {fs : List Value} (hc : ckV own idx na mi = true) (hdg : decode cc pc = .ok (.invokevirtual idx, 3))
    (hm : Ct l D Y b0 mi d mc ms (.ref a :: As) h Q QX) (hst : st = As.reverse ++ .ref a :: rest) (hn : As.length = na) (hr : h a = some (.inr (ci, fs))) (hcn : (vwCl[ci]?).map (fun r => r.1) = some mi.1.cls) (hd : d + 1 ≤ d0) (hf : k + mc ≤ mc0 ∧ j + ms ≤ ms0) (hw : (rest.map fun v => v.category).sum ≤ 8)
    (kx : ∀ (E : String) (h' : AH), QX E h' → VX p l e s m args below meth c D b0 d0 mc0 ms0 Z (k + mc) (j + ms) pc ls rest h' E)
    (kk : ∀ (v : Option Value) (h' : AH), Q v h' → V p l e s m args below meth c D b0 d0 mc0 ms0 Z (k + mc) (j + ms) (pc + 3) ls (v.toList ++ rest) h') : V p l e s m args below meth c D b0 d0 mc0 ms0 Z k j pc ls st h := by
  refine V_ofRun (a := (Value.ref a :: As).toArray) (fun H locs arr hR hS hl => ?_) kx kk
  simp only [ckV, Bool.and_eq_true, decide_eq_true_eq] at hc
  obtain ⟨⟨⟨hcb, h1⟩, h2⟩, h3⟩ := hc
  have hts := C.2.2.2.1
  have hW := C.2.2.2.2.2.1
  have cw : CallW (rmO d0 mc0 ms0) s args own mi.1.cls idx mi.1 mi.2.1 mi.2.2.1 mi.2.2.2 (Wy mi) (rmO d mc ms) mc ms na := ⟨callB_at C hcb (hts _ h1) hd, hts _ h2, hts _ h3⟩
  obtain ⟨k0, hk0⟩ := hR.at hr
  cases hci : vwCl[ci]? with
  | none => rw [hci] at hcn; cases hcn
  | some q =>
    rw [hci] at hcn
    have hcn : q.1 = mi.1.cls := Option.some.inj hcn
    have hrc := va_recv hW.1.1 hR.P hci hk0
    rw [hcn] at hrc
    exact vx_runV (As := As) ⟨C.1, C.2.1, C.2.2.2.2.2.2.1, C.2.2.1, hts⟩ (hm C.2.2.2.2.2.2.2.2.1) cw ⟨Pq_blind, hrc, fun U hU hWU => ⟨rfl, by rw [hU]; exact hR, hW.at hS hU hWU⟩⟩ rfl hn (by rw [← C.2.2.2.2.2.2.1]; exact hl.1) hst (by show 2 * 0 + _ ≤ 8; omega) hdg hf
theorem V_callS (C : Cx p l s m args meth c D Y b0 own cc nL ini ret9) {idx na : Nat} (hc : ckS own idx na mi = true) (hdg : decode cc pc = .ok (.invokestatic idx, 3))
    (hm : Ct l D Y b0 mi d mc ms As h Q QX) (hst : st = As.reverse ++ rest) (hn : As.length = na) (hd : d + 1 ≤ d0) (hf : k + mc ≤ mc0 ∧ j + ms ≤ ms0) (hw : (rest.map fun v => v.category).sum ≤ 8)
    (kx : ∀ (E : String) (h' : AH), QX E h' → VX p l e s m args below meth c D b0 d0 mc0 ms0 Z (k + mc) (j + ms) pc ls rest h' E)
    (kk : ∀ (v : Option Value) (h' : AH), Q v h' → V p l e s m args below meth c D b0 d0 mc0 ms0 Z (k + mc) (j + ms) (pc + 3) ls (v.toList ++ rest) h') : V p l e s m args below meth c D b0 d0 mc0 ms0 Z k j pc ls st h := by
  refine V_ofRun (a := As.toArray) (fun H locs arr hR hS hl => ?_) kx kk
  simp only [ckS, Bool.and_eq_true, decide_eq_true_eq] at hc
  obtain ⟨⟨hcb, h1⟩, h2⟩ := hc
  have hts := C.2.2.2.1
  have hW := C.2.2.2.2.2.1
  exact vx_runS (As := As) ⟨C.1, C.2.1, C.2.2.2.2.2.2.1, C.2.2.1, hts⟩ (hm C.2.2.2.2.2.2.2.2.1) ⟨callB_at C hcb (hts _ h1) hd, hts _ h2⟩ ⟨Pq_blind, fun U hU hWU => ⟨rfl, by rw [hU]; exact hR, hW.at hS hU hWU⟩⟩ rfl hn (by rw [← C.2.2.2.2.2.2.1]; exact hl.1) hst (by show 2 * 0 + _ ≤ 8; omega) hdg hf
theorem V_callI (C : Cx p l s m args meth c D Y b0 own cc nL ini ret9) {idx na a : Nat} (hc : ckI own idx na mi = true) (hdg : decode cc pc = .ok (.invokespecial idx, 3))
    (hm : Ct l D Y b0 mi d mc ms (.ref a :: As) h Q QX) (hst : st = As.reverse ++ .ref a :: rest) (hn : As.length = na) (hd : d + 1 ≤ d0) (hf : k + mc ≤ mc0 ∧ j + ms ≤ ms0) (hw : (rest.map fun v => v.category).sum ≤ 8)
    (kx : ∀ (E : String) (h' : AH), QX E h' → VX p l e s m args below meth c D b0 d0 mc0 ms0 Z (k + mc) (j + ms) pc ls rest h' E)
    (kk : ∀ (v : Option Value) (h' : AH), Q v h' → V p l e s m args below meth c D b0 d0 mc0 ms0 Z (k + mc) (j + ms) (pc + 3) ls (v.toList ++ rest) h') : V p l e s m args below meth c D b0 d0 mc0 ms0 Z k j pc ls st h := by
  refine V_ofRun (a := (Value.ref a :: As).toArray) (fun H locs arr hR hS hl => ?_) kx kk
  simp only [ckI, Bool.and_eq_true, decide_eq_true_eq] at hc
  obtain ⟨⟨⟨⟨hcb, h1⟩, h2⟩, h3⟩, h4⟩ := hc
  have hts := C.2.2.2.1
  have hW := C.2.2.2.2.2.1
  have cb := callB_at (mc := mc) (ms := ms) (mc0 := mc0) (ms0 := ms0) C hcb (hts _ h1) hd
  rw [h4] at cb
  exact vx_runI (As := As) ⟨C.1, C.2.1, C.2.2.2.2.2.2.1, C.2.2.1, hts⟩ (hm C.2.2.2.2.2.2.2.2.1) ⟨cb, h3, hts _ h2⟩ ⟨Pq_blind, fun U hU hWU => ⟨rfl, by rw [hU]; exact hR, hW.at hS hU hWU⟩⟩ rfl hn (by rw [← C.2.2.2.2.2.2.1]; exact hl.1) hst (by show 2 * 0 + _ ≤ 8; omega) hdg hf
end VC
