/-! ===== ends, throws, makings; a body's contract ===== -/
/-- vx_ofW of the kit's exception rows, by the method's name instead of its class's -/
theorem vx_ofWF {l : Launch} {y : MethodName} {ws ws' : List Cond} {rm : Room} {Pc : Array Value → State → Prop} {Qc : Array Value → State → Outcome → State → Prop} {XC : String → State → State → Prop} {mc ms : Nat} {free : Addr → Prop} {cc : ByteArray} {maxL : Nat} {ret : Option FieldType}
    (hy : plainFor y = true) (hw : ws = Cond.code y cc maxL ret :: ws')
    (body : ∀ p e s m args below meth c s₁, BodyLoose p l y (headSpec ws rm) cc maxL ret e s m args below meth c s₁ → c.maxLocals = maxL → (∀ x ∈ c.exceptionTable.toList, False) → Pc args s →
      W p l e (headSpec ws rm).room s m args below meth c s.heap [] 0 0 (vx_MQ below Qc XC args s mc ms free) (entryFrame m args maxL)) : vx_Met l y ws rm Pc Qc XC mc ms free := by
  refine MetFree.of_bodySF (code := cc) (maxLocals := maxL) (ret := ret) hy ?_ ?_
  · intro args s m h hn
    obtain ⟨meth, c, h1, h2, h3, h4, h5, h6, -, -⟩ := Cond.code_spec hn (atoms_spec (ws := ws) h _ (by rw [hw]; exact List.mem_cons_self))
    exact ⟨meth, c, h1, h2, h3, h4, h5, h6⟩
  · intro p e s m args below meth c s₁ B hml hP _
    have hh0 : s₁.heap = s.heap := by rw [B.state]; rfl
    have ht : ∀ x ∈ c.exceptionTable.toList, False := by
      obtain ⟨meth9, c9, h1, h2, -, -, -, -, h7, -⟩ := Cond.code_spec B.named (atoms_spec (ws := ws) B.pre _ (by rw [hw]; exact List.mem_cons_self))
      cases Option.some.inj (h1.symm.trans B.method)
      cases Option.some.inj (h2.symm.trans (Stand.of_body B).code)
      intro x hx
      rw [Array.isEmpty_iff.mp h7] at hx
      cases hx
    obtain ⟨t, a1, o, b1, b2, b3⟩ := body p e s m args below meth c s₁ B hml ht hP s₁ hh0 (Stand.of_body B)
    exact ⟨t, o, a1, b1, b2, b3⟩
section VE
variable {p : Program} {l : Launch} {e : Env} {s : State} {m : MethodId} {args : Array Value} {below : List Frame} {meth : Method} {c : Code} {D : va_G} {Y : Nat → ClassId} {b0 d0 mc0 ms0 : Nat} {Z : State → Prop}
variable {own : String} {cc : ByteArray} {nL : Nat} {ini : Bool} {ret9 : Option FieldType} {pc k j : Nat} {ls : Lo} {st rest As : List Value} {h : AH} {Q Q0 : Option Value → AH → Prop} {QX QX0 : String → AH → Prop} {mi : MI} {d mc ms : Nat}
theorem V_iret (C : Cx p l s m args meth c D Y b0 own cc nL ini ret9) (hZ : Zq D b0 below args s Q0 QX0 mc0 ms0 = Z) (hr : ret9 = some .int) (hd : decode cc pc = .ok (.ireturn, 1)) {v : Int32} (hq : Q0 (some (.int v)) h) (hk : k ≤ mc0 ∧ j ≤ ms0) : V p l e s m args below meth c D b0 d0 mc0 ms0 Z k j pc ls [.int v] h := by
  subst hZ
  intro H locs arr hR hS hl
  refine W.widen hk.1 hk.2 (vx_ret (W.iret C.1 C.2.1 (C.2.2.2.2.2.2.2.2.2.trans hr) (fun t ht _ => ⟨⟨_, h, rfl, hq, by rw [ht]; exact hR⟩, hS.F ht⟩) hS.2.2 hd C.2.2.2.2.1))
theorem V_zret (C : Cx p l s m args meth c D Y b0 own cc nL ini ret9) (hZ : Zq D b0 below args s Q0 QX0 mc0 ms0 = Z) (hr : ret9 = some .boolean) (hd : decode cc pc = .ok (.ireturn, 1)) {v : Int32} (hv : v = 0 ∨ v = 1) (hq : Q0 (some (.int v)) h) (hk : k ≤ mc0 ∧ j ≤ ms0) : V p l e s m args below meth c D b0 d0 mc0 ms0 Z k j pc ls [.int v] h := by
  subst hZ
  intro H locs arr hR hS hl
  refine W.widen hk.1 hk.2 (vx_ret (W.zret C.1 C.2.1 (C.2.2.2.2.2.2.2.2.2.trans hr) (by rcases hv with rfl | rfl <;> rfl) (fun t ht _ => ⟨⟨_, h, rfl, hq, by rw [ht]; exact hR⟩, hS.F ht⟩) hS.2.2 hd C.2.2.2.2.1))
theorem V_lret (C : Cx p l s m args meth c D Y b0 own cc nL ini ret9) (hZ : Zq D b0 below args s Q0 QX0 mc0 ms0 = Z) (hr : ret9 = some .long) (hd : decode cc pc = .ok (.lreturn, 1)) {v : Int64} (hq : Q0 (some (.long v)) h) (hk : k ≤ mc0 ∧ j ≤ ms0) : V p l e s m args below meth c D b0 d0 mc0 ms0 Z k j pc ls [.long v] h := by
  subst hZ
  intro H locs arr hR hS hl
  refine W.widen hk.1 hk.2 (vx_ret (W.lret C.1 C.2.1 (C.2.2.2.2.2.2.2.2.2.trans hr) (fun t ht _ => ⟨⟨_, h, rfl, hq, by rw [ht]; exact hR⟩, hS.F ht⟩) hS.2.2 hd C.2.2.2.2.1))
theorem V_aret (C : Cx p l s m args meth c D Y b0 own cc nL ini ret9) (hZ : Zq D b0 below args s Q0 QX0 mc0 ms0 = Z) {cn : String} (hr : ret9 = some (.object cn)) (hd : decode cc pc = .ok (.areturn, 1)) {v : Value} (hv : v = .null ∨ ∃ a, v = .ref a) (hq : Q0 (some v) h) (hk : k ≤ mc0 ∧ j ≤ ms0) : V p l e s m args below meth c D b0 d0 mc0 ms0 Z k j pc ls [v] h := by
  subst hZ
  intro H locs arr hR hS hl
  refine W.widen hk.1 hk.2 (vx_ret (W.aret C.1 C.2.1 (C.2.2.2.2.2.2.2.2.2.trans hr) (Or.inl ⟨_, rfl⟩) hv (fun t ht _ => ⟨⟨_, h, rfl, hq, by rw [ht]; exact hR⟩, hS.F ht⟩) hS.2.2 hd C.2.2.2.2.1))
theorem V_vret (C : Cx p l s m args meth c D Y b0 own cc nL ini ret9) (hZ : Zq D b0 below args s Q0 QX0 mc0 ms0 = Z) (hr : ret9 = none) (hd : decode cc pc = .ok (.return_, 1)) (hq : Q0 none h) (hk : k ≤ mc0 ∧ j ≤ ms0) : V p l e s m args below meth c D b0 d0 mc0 ms0 Z k j pc ls [] h := by
  subst hZ
  intro H locs arr hR hS hl
  refine W.widen hk.1 hk.2 (vx_ret (W.vret C.1 C.2.1 (C.2.2.2.2.2.2.2.2.2.trans hr) (fun t ht _ => ⟨⟨_, h, rfl, hq, by rw [ht]; exact hR⟩, hS.F ht⟩) hS.2.2 hd C.2.2.2.2.1))
theorem V_objInit (C : Cx p l s m args meth c D Y b0 own cc nL ini ret9) {idx a : Nat} (hc : Cond.methodLink own idx Lib.objectInit ∈ ALL) (hc2 : Cond.instanceMethod Lib.objectInit ∈ ALL) (hc3 : Cond.code Lib.objectInit ⟨#[0xb1]⟩ 1 none ∈ ALL) (hd : decode cc pc = .ok (.invokespecial idx, 3)) (h1 : 1 ≤ d0) (hw : (rest.map fun v => v.category).sum ≤ 8)
    (kk : V p l e s m args below meth c D b0 d0 mc0 ms0 Z k j (pc + 3) ls rest h) : V p l e s m args below meth c D b0 d0 mc0 ms0 Z k j pc ls (.ref a :: rest) h := by
  intro H locs arr hR hS hl
  have hts := C.2.2.2.1
  exact W.objInit C.1 C.2.1 C.2.2.1 (hts _ hc) (hts _ hc2) (hts _ hc3) rfl hl.1 rfl hd h1 (by show 2 * 0 + _ + 12 ≤ 36 * d0 + 6; omega) (kk H locs arr hR hS hl)
/-- the words of 'throw new cls()' but its own castable -/
abbrev xnm : List String := ["java/lang/RuntimeException", "java/lang/Exception"]
def ckT (own : String) (ik ic : Nat) (cls : String) : Bool := decide (Cond.classLink own ik cls ∈ ALL) && decide (Cond.initialized cls ∈ ALL) && decide ((cls, cls) ∈ cst5) && Bundle.fit cls && xnm.all Bundle.fit && (Cond.classLink own ik cls :: Cond.initialized cls :: vx_at0 own ic cls xnm).all vx_ot && (vx_at0 own ic cls xnm).all (fun w => (decide (w ∈ ALL) || decide (w = .castable cls cls)) || decide (w ∈ dcl.map Cond.declares))
theorem V_throw (C : Cx p l s m args meth c D Y b0 own cc nL ini ret9) (hZ : Zq D b0 below args s Q0 QX0 mc0 ms0 = Z) (hno : ∀ x ∈ c.exceptionTable.toList, False) {ik ic : Nat} {cls : String} (hc : ckT own ik ic cls = true)
    (d1 : decode cc pc = .ok (.new ik, 3)) (d3 : decode cc (pc + 3) = .ok (.dup, 1)) (d4 : decode cc (pc + 4) = .ok (.invokespecial ic, 3)) (d7 : decode cc (pc + 7) = .ok (.athrow, 1))
    (hd : 6 ≤ d0) (hk : k + 1 ≤ mc0 ∧ j + 6 ≤ ms0) (hw : (st.map fun v => v.category).sum ≤ 8) (hq : QX0 cls h) : V p l e s m args below meth c D b0 d0 mc0 ms0 Z k j pc ls st h := by
  subst hZ
  intro H locs arr hR hS hl
  simp only [ckT, Bool.and_eq_true, decide_eq_true_eq, List.all_eq_true, Bool.or_eq_true] at hc
  obtain ⟨⟨⟨⟨⟨⟨h1, h2⟩, h3⟩, h4⟩, h5⟩, h6⟩, h7⟩ := hc
  have hts := C.2.2.2.1
  have hW := C.2.2.2.2.2.1
  refine vx_throw0 C.1 C.2.1 C.2.2.2.2.2.2.2.2.1 (names := xnm) C.2.2.1 h4 h5 (hts _ h1) (hts _ h2) (fun w hw => ?_) h6 hW.2.1 hW.2.2.1 hS hl.1 d1 d3 d4 d7 (fun x hx => (hno x hx).elim) (by show 2 + 3 < d0; omega) (by show _ + (13 * (2 + 1) + 42) ≤ 36 * d0 + 6; omega) hk.1 hk.2 C.2.2.2.2.1 (fun t _ z1 z2 => ⟨⟨h, hq, hR.kept z2⟩, Nat.le_trans hS.1 z1, fun q q1 q2 => (z2 q (Nat.lt_of_lt_of_le q1 hS.1)).trans (hS.2.1 q q1 q2)⟩) hS.2.2 hk.1 hk.2
  rcases h7 w hw with (g | g) | g
  · exact hts _ g
  · rw [g]; exact va_Nw.use rfl (hW.1.2.2.2.2.2.1 _ h3)
  · obtain ⟨q, hq, rfl⟩ := List.mem_map.mp g
    exact va_Nw.use rfl (hW.1.2.2.2.2.2.2.2 _ hq)
def df (r : vw_C) : List Value := (List.range r.2.2).map fun k => defaultValue (tyF r.2.1 k)
theorem df_ok : ∀ r ∈ vwCl, ∀ j, j < r.2.2 → defaultValue (tyF r.2.1 j) = vp_V (df r) j := by decide +kernel
def ckN (own : String) (idx ci : Nat) (fs : List Value) : Bool := match vwCl[ci]? with
  | some r => decide (Cond.classLink own idx r.1 ∈ ALL) && decide (Cond.instantiable r.1 r.2.2 ∈ ALL) && decide (Cond.initialized r.1 ∈ ALL) && decide (df r = fs)
  | none => false
theorem V_new (C : Cx p l s m args meth c D Y b0 own cc nL ini ret9) {idx : Nat} (ci : Nat) (fs : List Value) (hc : ckN own idx ci fs = true) (hd : decode cc pc = .ok (.new idx, 3)) (hk : k + 1 ≤ mc0 ∧ j + fs.length ≤ ms0)
    (kk : ∀ q : Nat, h q = none → V p l e s m args below meth c D b0 d0 mc0 ms0 Z (k + 1) (j + fs.length) (pc + 3) ls (.ref q :: rest) (up h q (.inr (ci, fs)))) : V p l e s m args below meth c D b0 d0 mc0 ms0 Z k j pc ls rest h := by
  intro H locs arr hR hS hl
  unfold ckN at hc
  cases hci : vwCl[ci]? with
  | none => rw [hci] at hc; cases hc
  | some q =>
    rw [hci] at hc
    simp only [Bool.and_eq_true, decide_eq_true_eq] at hc
    obtain ⟨⟨⟨h1, h2⟩, h3⟩, h4⟩ := hc
    have hmem : q ∈ vwCl := List.mem_of_getElem? hci
    have hts := C.2.2.2.1
    have hW := C.2.2.2.2.2.1
    have hN : q.2.2 = fs.length := by rw [← h4]; simp [df]
    obtain ⟨C9, T9, N9⟩ := q
    dsimp only at hN
    refine va_new (Ts := ALL) C.1 C.2.1 hts (uw_ok _ hmem) (tyF T9) (ty_ok _ hmem) C.2.2.1 (hts _ h1) (hts _ h2) (hts _ h3) hW.1.1 hR.P hR.Dd hS (fun q hq => Nat.le_trans hW.2.2.2 hq) hci (fs := fs) (fun j hj => by rw [← h4]; exact df_ok _ hmem j hj) hk.1 (by rw [hN]; exact hk.2) hd (fun q H1 hP1 hD1 hS1 => ?_)
    obtain ⟨e1, e2⟩ := hR.push hP1 hD1
    rw [hN]
    exact kk q e1 H1 locs arr e2 hS1 hl
def azI (N : Nat) : vp_A := (N, .inl fun _ => 0)
def azJ (N : Nat) : vp_A := (N, .inr (.inl fun _ => 0))
def azQ (N : Nat) : vp_A := (N, .inr (.inr (.inr (.inr fun _ => none))))
theorem V_newI (C : Cx p l s m args meth c D Y b0 own cc nL ini ret9) (hc : Cond.arrayClass .int ∈ ALL) (hd : decode cc pc = .ok (.newarray .int, 2)) {n : Int32} (N : Nat) (hn : ¬ n < 0) (hN : n.toNatClampNeg = N) (hb : N ≤ 1000000) (hk : k + 1 ≤ mc0 ∧ j + N ≤ ms0)
    (kk : ∀ q : Nat, h q = none → V p l e s m args below meth c D b0 d0 mc0 ms0 Z (k + 1) (j + N) (pc + 2) ls (.ref q :: rest) (up h q (.inl (Y 0, azI N)))) : V p l e s m args below meth c D b0 d0 mc0 ms0 Z k j pc ls (.int n :: rest) h := by
  intro H locs arr hR hS hl
  have hts := C.2.2.2.1
  have hW := C.2.2.2.2.2.1
  refine va_newa (atype := .int) (ty := .int) (a0 := azI N) C.1 C.2.1 (hts _ hc) rfl hW.1.1 hR.P hR.Dd hS (fun q hq => Nat.le_trans hW.2.2.2 hq) (fun cA => rfl) hn hN (by show N * 4 ≤ _; omega) hk.1 hk.2 hd (fun q cA H1 hK1 hP1 hD1 hS1 => ?_)
  obtain ⟨e1, e2⟩ := hR.push hP1 hD1
  have g1 : s.vm.findClass _ = some (Y 0) := (hW.1.1.2 0 (Y 0, .int) rfl).2
  have g2 : s.vm.findClass _ = some cA := (hK1.2 5 (cA, .int) rfl).2
  have g3 : cA = Y 0 := Option.some.inj (g2.symm.trans g1)
  subst g3
  exact kk q e1 H1 locs arr e2 hS1 hl
theorem V_newJ (C : Cx p l s m args meth c D Y b0 own cc nL ini ret9) (hc : Cond.arrayClass .long ∈ ALL) (hd : decode cc pc = .ok (.newarray .long, 2)) {n : Int32} (N : Nat) (hn : ¬ n < 0) (hN : n.toNatClampNeg = N) (hb : N ≤ 1000000) (hk : k + 1 ≤ mc0 ∧ j + N ≤ ms0)
    (kk : ∀ q : Nat, h q = none → V p l e s m args below meth c D b0 d0 mc0 ms0 Z (k + 1) (j + N) (pc + 2) ls (.ref q :: rest) (up h q (.inl (Y 1, azJ N)))) : V p l e s m args below meth c D b0 d0 mc0 ms0 Z k j pc ls (.int n :: rest) h := by
  intro H locs arr hR hS hl
  have hts := C.2.2.2.1
  have hW := C.2.2.2.2.2.1
  refine va_newa (atype := .long) (ty := .long) (a0 := azJ N) C.1 C.2.1 (hts _ hc) rfl hW.1.1 hR.P hR.Dd hS (fun q hq => Nat.le_trans hW.2.2.2 hq) (fun cA => rfl) hn hN (by show N * 8 ≤ _; omega) hk.1 hk.2 hd (fun q cA H1 hK1 hP1 hD1 hS1 => ?_)
  obtain ⟨e1, e2⟩ := hR.push hP1 hD1
  have g1 : s.vm.findClass _ = some (Y 1) := (hW.1.1.2 1 (Y 1, .long) rfl).2
  have g2 : s.vm.findClass _ = some cA := (hK1.2 5 (cA, .long) rfl).2
  have g3 : cA = Y 1 := Option.some.inj (g2.symm.trans g1)
  subst g3
  exact kk q e1 H1 locs arr e2 hS1 hl
theorem V_newZ (C : Cx p l s m args meth c D Y b0 own cc nL ini ret9) (hc : Cond.arrayClass .boolean ∈ ALL) (hd : decode cc pc = .ok (.newarray .boolean, 2)) {n : Int32} (N : Nat) (hn : ¬ n < 0) (hN : n.toNatClampNeg = N) (hb : N ≤ 1000000) (hk : k + 1 ≤ mc0 ∧ j + N ≤ ms0)
    (kk : ∀ q : Nat, h q = none → V p l e s m args below meth c D b0 d0 mc0 ms0 Z (k + 1) (j + N) (pc + 2) ls (.ref q :: rest) (up h q (.inl (Y 2, azI N)))) : V p l e s m args below meth c D b0 d0 mc0 ms0 Z k j pc ls (.int n :: rest) h := by
  intro H locs arr hR hS hl
  have hts := C.2.2.2.1
  have hW := C.2.2.2.2.2.1
  refine va_newa (atype := .boolean) (ty := .boolean) (a0 := azI N) C.1 C.2.1 (hts _ hc) rfl hW.1.1 hR.P hR.Dd hS (fun q hq => Nat.le_trans hW.2.2.2 hq) (fun cA => rfl) hn hN (by show N * 1 ≤ _; omega) hk.1 hk.2 hd (fun q cA H1 hK1 hP1 hD1 hS1 => ?_)
  obtain ⟨e1, e2⟩ := hR.push hP1 hD1
  have g1 : s.vm.findClass _ = some (Y 2) := (hW.1.1.2 2 (Y 2, .boolean) rfl).2
  have g2 : s.vm.findClass _ = some cA := (hK1.2 5 (cA, .boolean) rfl).2
  have g3 : cA = Y 2 := Option.some.inj (g2.symm.trans g1)
  subst g3
  exact kk q e1 H1 locs arr e2 hS1 hl
theorem V_newC (C : Cx p l s m args meth c D Y b0 own cc nL ini ret9) {idx : Nat} (hc : Cond.classLink own idx "GridStore$Cells" ∈ ALL) (hd : decode cc pc = .ok (.anewarray idx, 3)) {n : Int32} (N : Nat) (hn : ¬ n < 0) (hN : n.toNatClampNeg = N) (hb : N ≤ 1000000) (hk : k + 1 ≤ mc0 ∧ j + N ≤ ms0)
    (kk : ∀ q : Nat, h q = none → V p l e s m args below meth c D b0 d0 mc0 ms0 Z (k + 1) (j + N) (pc + 3) ls (.ref q :: rest) (up h q (.inl (Y 3, azQ N)))) : V p l e s m args below meth c D b0 d0 mc0 ms0 Z k j pc ls (.int n :: rest) h := by
  intro H locs arr hR hS hl
  have hts := C.2.2.2.1
  have hW := C.2.2.2.2.2.1
  refine va_newq C.1 C.2.1 C.2.2.1 (hts _ hc) hW.1.2.1 hW.1.1 hR.P hR.Dd hS (fun q hq => Nat.le_trans hW.2.2.2 hq) hn hN (by omega) hk.1 hk.2 hd (fun q cA H1 hK1 hP1 hD1 hS1 => ?_)
  obtain ⟨e1, e2⟩ := hR.push hP1 hD1
  obtain ⟨_, _, _, _, _, g1⟩ := (hW.1.1.2 3 (Y 3, .object "GridStore$Cells") rfl).2
  obtain ⟨_, _, _, _, _, g2⟩ := (hK1.2 5 (cA, .object "GridStore$Cells") rfl).2
  have g3 : cA = Y 3 := Option.some.inj (g2.symm.trans g1)
  subst g3
  exact kk q e1 H1 locs arr e2 hS1 hl
theorem V_newW (C : Cx p l s m args meth c D Y b0 own cc nL ini ret9) {idx : Nat} (hc : Cond.classLink own idx "GridStore$Window" ∈ ALL) (hd : decode cc pc = .ok (.anewarray idx, 3)) {n : Int32} (N : Nat) (hn : ¬ n < 0) (hN : n.toNatClampNeg = N) (hb : N ≤ 1000000) (hk : k + 1 ≤ mc0 ∧ j + N ≤ ms0)
    (kk : ∀ q : Nat, h q = none → V p l e s m args below meth c D b0 d0 mc0 ms0 Z (k + 1) (j + N) (pc + 3) ls (.ref q :: rest) (up h q (.inl (Y 4, azQ N)))) : V p l e s m args below meth c D b0 d0 mc0 ms0 Z k j pc ls (.int n :: rest) h := by
  intro H locs arr hR hS hl
  have hts := C.2.2.2.1
  have hW := C.2.2.2.2.2.1
  refine va_newq C.1 C.2.1 C.2.2.1 (hts _ hc) hW.1.2.2.1 hW.1.1 hR.P hR.Dd hS (fun q hq => Nat.le_trans hW.2.2.2 hq) hn hN (by omega) hk.1 hk.2 hd (fun q cA H1 hK1 hP1 hD1 hS1 => ?_)
  obtain ⟨e1, e2⟩ := hR.push hP1 hD1
  obtain ⟨_, _, _, _, _, g1⟩ := (hW.1.1.2 4 (Y 4, .object "GridStore$Window") rfl).2
  obtain ⟨_, _, _, _, _, g2⟩ := (hK1.2 5 (cA, .object "GridStore$Window") rfl).2
  have g3 : cA = Y 4 := Option.some.inj (g2.symm.trans g1)
  subst g3
  exact kk q e1 H1 locs arr e2 hS1 hl
theorem Ct_of {as : List Value} (own : String) (ini : Bool) (hcls : mi.1.cls = own) (hpl : plainFor mi.1 = true) (hini : ini = true → mi.1.name = "<init>") (hsz : (lg_sl as).length ≤ mi.2.2.1)
    (body : ∀ (p : Program) (e : Env) (s : State) (m : MethodId) (args : Array Value) (below : List Frame) (meth : Method) (c : Code) (Z : State → Prop), Cx p l s m args meth c D Y b0 own mi.2.1 mi.2.2.1 ini mi.2.2.2 → (∀ x ∈ c.exceptionTable.toList, False) → Zq D b0 below args s Q QX mc ms = Z →
      V p l e s m args below meth c D b0 d mc ms Z 0 0 0 (lv_args 0 as) [] h) : Ct l D Y b0 mi d mc ms as h Q QX := by
  intro hfl
  refine vx_ofWF (cc := mi.2.1) (maxL := mi.2.2.1) (ret := mi.2.2.2) hpl rfl ?_
  intro p e s m args below meth c s₁ B hml hno hv
  obtain ⟨rfl, hR, hW⟩ := hv
  have hts := atoms_spec (ws := Wy mi) B.pre
  have hcl : s.vm.findClass own = some m.cls := by rw [← hcls]; exact findClass_of_methodNamed B.named
  have hnm : ini = true → meth.name = "<init>" := fun q => (name_of_methodNamed B.named B.method).1.trans (hini q)
  have C : Cx p l s m as.toArray meth c D Y b0 own mi.2.1 mi.2.2.1 ini mi.2.2.2 := ⟨B.exec, B.bytes, hcl, fun w hw => hts w (List.mem_cons_of_mem _ hw), B.notSynchronized, hW, hml, hnm, hfl, B.returns⟩
  have hl := lv_entry as (n := mi.2.2.1) hsz
  rw [lg_entry_eq]
  exact body p e s m as.toArray below meth c _ C hno rfl s.heap [] _ hR va_S.rf (by rw [hml]; exact hl)
end VE
