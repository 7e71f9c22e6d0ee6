/-! ===== methods with a table of handlers; the script ===== -/
abbrev WyH (mi : MI) (hh : List (Nat × Nat × Nat × Nat)) : List Cond := Cond.codeWith mi.1 mi.2.1 mi.2.2.1 mi.2.2.2 hh :: ALL
/-- the contract of a method with handlers: it ends, with Q, and throws nothing -/
def CtH (l : Launch) (D : va_G) (Y : Nat → ClassId) (b0 : Nat) (mi : MI) (hh : List (Nat × Nat × Nat × Nat)) (d mc ms : Nat) (as : List Value) (h : AH) (Q : Option Value → AH → Prop) : Prop :=
  l.stackTraces = false → vx_Met l mi.1 (WyH mi hh) (rmO d mc ms) (Pq D Y b0 as h) (Qc D b0 Q) (Xc D b0 noX) mc ms (fun q => b0 ≤ q)
def nm9 (k : Nat) : String := if k = 13 then xIAE else if k = 15 then xUOE else if k = 21 then xIOB else if k = 50 then xNSE else "?"
theorem cl9_13 : Cond.classLink "GridStoreLaw" 13 xIAE ∈ ALL := by decide +kernel
theorem cl9_15 : Cond.classLink "GridStoreLaw" 15 xUOE ∈ ALL := by decide +kernel
theorem cl9_21 : Cond.classLink "GridStoreLaw" 21 xIOB ∈ ALL := by decide +kernel
theorem cl9_50 : Cond.classLink "GridStoreLaw" 50 xNSE ∈ ALL := by decide +kernel
theorem cl9 {k : Nat} (hk : k = 13 ∨ k = 15 ∨ k = 21 ∨ k = 50) : Cond.classLink "GridStoreLaw" k (nm9 k) ∈ ALL := by
  rcases hk with rfl | rfl | rfl | rfl
  · exact cl9_13
  · exact cl9_15
  · exact cl9_21
  · exact cl9_50
def is9 (k : Nat) : Bool := decide (k = 13 ∨ k = 15 ∨ k = 21 ∨ k = 50)
/-- of the rows, the i-th takes E at pc, and those ahead don't -/
def ckH (hh : List (Nat × Nat × Nat × Nat)) (i pc tgt : Nat) (E : String) : Bool := match hh[i]? with
  | some x => decide (x.1 ≤ pc ∧ pc < x.2.1 ∧ x.2.2.1 = tgt) && is9 x.2.2.2 && decide (nm9 x.2.2.2 = E) && (hh.take i).all (fun z => is9 z.2.2.2 && decide ((E, nm9 z.2.2.2) ∈ ncs))
  | none => false
theorem split_at {α : Type} : ∀ (L : List α) (i : Nat) (x : α), L[i]? = some x → L = L.take i ++ x :: L.drop (i + 1)
  | [], _, _, h => by simp at h
  | a :: L, 0, x, h => by simp at h; simp [h]
  | a :: L, i + 1, x, h => by
    simp at h
    have := split_at L i x h
    simp
    exact this
section VH
variable {p : Program} {l : Launch} {e : Env} {s : State} {mI : MethodId} {args : Array Value} {below : List Frame} {meth : Method} {c : Code} {D : va_G} {Y : Nat → ClassId} {b0 d0 mc0 ms0 : Nat} {Z : State → Prop}
variable {own : String} {cc : ByteArray} {nL : Nat} {ini : Bool} {ret9 : Option FieldType} {pc k j : Nat} {ls : Lo} {st rest As : List Value} {h : AH} {Q : Option Value → AH → Prop} {mi : MI} {d mc ms : Nat} {hh : List (Nat × Nat × Nat × Nat)}
theorem CtH_of {as : List Value} (hcls : mi.1.cls = own) (hpl : plainName mi.1.cls = true) (hsz : (lg_sl as).length ≤ mi.2.2.1)
    (body : ∀ (p : Program) (e : Env) (s : State) (mI : MethodId) (args : Array Value) (below : List Frame) (meth : Method) (c : Code) (Z : State → Prop), Cx p l s mI args meth c D Y b0 own mi.2.1 mi.2.2.1 false mi.2.2.2 → c.exceptionTable.toList = tableOf hh → Zq D b0 below args s Q noX mc ms = Z →
      V p l e s mI args below meth c D b0 d mc ms Z 0 0 0 (lv_args 0 as) [] h) : CtH l D Y b0 mi hh d mc ms as h Q := by
  intro hfl
  refine vx_ofWH (cc := mi.2.1) (maxL := mi.2.2.1) (ret := mi.2.2.2) (hh := hh) (ws' := ALL) hpl rfl ?_
  intro p e s mI args below meth c s₁ B hml hv
  obtain ⟨rfl, hR, hW⟩ := hv
  have hts := atoms_spec (ws := WyH mi hh) B.pre
  have hcl : s.vm.findClass own = some mI.cls := by rw [← hcls]; exact findClass_of_methodNamed B.named
  have C : Cx p l s mI as.toArray meth c D Y b0 own mi.2.1 mi.2.2.1 false mi.2.2.2 := ⟨B.exec, B.bytes, hcl, fun w hw => hts w (List.mem_cons_of_mem _ hw), B.notSynchronized, hW, hml, fun z => (by cases z), hfl, B.returns⟩
  have ht := vx_table (x := mi.1) B (hts _ List.mem_cons_self)
  have hl := lv_entry as (n := mi.2.2.1) hsz
  rw [lg_entry_eq]
  exact body p e s mI as.toArray below meth c _ C ht rfl s.heap [] _ hR va_S.rf (by rw [hml]; exact hl)
theorem VX_catch (C : Cx p l s mI args meth c D Y b0 "GridStoreLaw" cc nL ini ret9) (ht : c.exceptionTable.toList = tableOf hh) {E : String} {i tgt : Nat} (hc : ckH hh i pc tgt E = true) (hE : (E, E) ∈ cst5)
    (kk : ∀ q : Nat, V p l e s mI args below meth c D b0 d0 mc0 ms0 Z k j tgt ls [.ref q] h) : VX p l e s mI args below meth c D b0 d0 mc0 ms0 Z k j pc ls st h E := by
  unfold ckH at hc
  cases hi : hh[i]? with
  | none => rw [hi] at hc; cases hc
  | some x =>
    rw [hi] at hc
    simp only [Bool.and_eq_true, decide_eq_true_eq, List.all_eq_true, is9] at hc
    obtain ⟨⟨⟨⟨h1, h2, h3⟩, h4⟩, h5⟩, h6⟩ := hc
    have hts := C.2.2.2.1
    have hW := C.2.2.2.2.2.1.1
    have hsp : c.exceptionTable.toList = tableOf (hh.take i) ++ ⟨x.1, x.2.1, x.2.2.1, x.2.2.2⟩ :: tableOf (hh.drop (i + 1)) := by
      rw [ht]
      conv => lhs; rw [split_at hh i x hi]
      simp only [tableOf, List.map_append, List.map_cons]
    intro H locs arr q ce hR hS hl hce hv hcl
    subst h3
    refine vx_catch (name := E) C.2.2.1 (tableOf (hh.take i)) ⟨x.1, x.2.1, x.2.2.1, x.2.2.2⟩ (tableOf (hh.drop (i + 1))) hsp ?_ ?_ ?_ ?_ ?_ hce hv hcl (kk q H locs arr hR hS hl)
    · intro z hz
      simp only [tableOf, List.mem_map] at hz
      obtain ⟨y, hy, rfl⟩ := hz
      obtain ⟨g1, g2⟩ := h6 y hy
      refine Or.inr ⟨?_, nm9 y.2.2.2, hts _ (cl9 g1), hW.2.2.2.2.2.2.1 _ g2⟩
      show y.2.2.2 ≠ 0
      omega
    · simp [covers, h1, h2]
    · show x.2.2.2 ≠ 0
      omega
    · show (Cond.classLink "GridStoreLaw" x.2.2.2 E).before args s = true
      rw [← h5]
      exact hts _ (cl9 h4)
    · exact va_Nw.use rfl (hW.2.2.2.2.2.1 _ hE)
def ckSH (own : String) (idx na : Nat) (mi : MI) (hh : List (Nat × Nat × Nat × Nat)) : Bool := decide (Cond.initialized mi.1.cls ∈ ALL) && decide (Cond.codeWith mi.1 mi.2.1 mi.2.2.1 mi.2.2.2 hh ∈ ALL) && decide (mi.1.cls ≠ "java/lang/invoke/MethodHandle") && decide (mi.1.cls ≠ "java/lang/invoke/VarHandle") && decide ((parseMethodDescriptor mi.1.desc).map (fun d => d.parameters.length) = some na) && decide (mi.2.2.1 ≤ 17) && decide (Cond.methodLink own idx mi.1 ∈ ALL) && decide (Cond.static mi.1 ∈ ALL)
theorem V_callSH (C : Cx p l s mI args meth c D Y b0 own cc nL ini ret9) {idx na : Nat} (hc : ckSH own idx na mi hh = true) (hdg : decode cc pc = .ok (.invokestatic idx, 3))
    (hm : CtH l D Y b0 mi hh d mc ms As h Q) (hst : st = As.reverse ++ rest) (hn : As.length = na) (hd : d + 1 ≤ d0) (hf : k + mc ≤ mc0 ∧ j + ms ≤ ms0) (hw : (rest.map fun v => v.category).sum ≤ 8)
    (kk : ∀ (v : Option Value) (h' : AH), Q v h' → V p l e s mI args below meth c D b0 d0 mc0 ms0 Z (k + mc) (j + ms) (pc + 3) ls (v.toList ++ rest) h') : V p l e s mI args below meth c D b0 d0 mc0 ms0 Z k j pc ls st h := by
  refine V_ofRun (a := As.toArray) (QX := noX) (fun H locs arr hR hS hl => ?_) (fun _ _ z => z.elim) kk
  simp only [ckSH, Bool.and_eq_true, decide_eq_true_eq] at hc
  obtain ⟨⟨⟨⟨⟨⟨⟨h1, h2⟩, h3⟩, h4⟩, h5⟩, h6⟩, h7⟩, h8⟩ := hc
  have hts := C.2.2.2.1
  have hW := C.2.2.2.2.2.1
  refine vx_runSX (As := As) (hh := hh) (bytes := mi.2.1) (maxL := mi.2.2.1) (ret := mi.2.2.2) (n := na) (rm := rmO d mc ms) (ws := WyH mi hh) ⟨C.1, C.2.1, C.2.2.2.2.2.2.1, C.2.2.1, hts⟩ (hm C.2.2.2.2.2.2.2.2.1) ?_ ⟨Pq_blind, fun U hU hWU => ⟨rfl, by rw [hU]; exact hR, hW.at hS hU hWU⟩⟩ rfl hn (by rw [← C.2.2.2.2.2.2.1]; exact hl.1) hst (by show 2 * 0 + _ ≤ 8; omega) hdg hf
  refine ⟨⟨rfl, rfl, hd, ?_, ?_, List.mem_cons_self⟩, hts _ h2, hts _ h1, ⟨h3, h4⟩, fun sig h => ?_, hts _ h7, hts _ h8⟩
  · show 8 + (mi.2.2.1 + 11) + (36 * d + 6) ≤ 36 * d0 + 6
    omega
  · refine pay_in hts ?_
    intro w hw
    rcases List.mem_cons.mp hw with e | e
    · rw [e]; exact all_self _ h2
    · exact all_self _ e
  · rw [h] at h5
    exact (Option.some.inj h5).symm
/-- the script's own cell, as it was at the start -/
def XC (s : State) (b0 b L : Nat) (xs : Nat → Int32) : Prop := va_X b L xs s s.heap ∧ b < s.heap.size ∧ ¬ b0 ≤ b
theorem V_sld (C : Cx p l s mI args meth c D Y b0 own cc nL ini ret9) {b L : Nat} {xs : Nat → Int32} (X : XC s b0 b L xs) {i : Int32} (hin : vp_in i L) (hd : decode cc pc = .ok (.iaload, 1))
    (kk : V p l e s mI args below meth c D b0 d0 mc0 ms0 Z k j (pc + 1) ls (.int (xs i.toNatClampNeg) :: rest) h) : V p l e s mI args below meth c D b0 d0 mc0 ms0 Z k j pc ls (.int i :: .ref b :: rest) h :=
  fun H locs arr hR hS hl => va_sld C.1 C.2.1 X.1 X.2.1 X.2.2 hS hin hd (kk H locs arr hR hS hl)
theorem V_slen (C : Cx p l s mI args meth c D Y b0 own cc nL ini ret9) {b L : Nat} {xs : Nat → Int32} (X : XC s b0 b L xs) (hd : decode cc pc = .ok (.arraylength, 1))
    (kk : V p l e s mI args below meth c D b0 d0 mc0 ms0 Z k j (pc + 1) ls (.int (nI L) :: rest) h) : V p l e s mI args below meth c D b0 d0 mc0 ms0 Z k j pc ls (.ref b :: rest) h :=
  fun H locs arr hR hS hl => va_slen C.1 C.2.1 X.1 X.2.1 X.2.2 hS hd (kk H locs arr hR hS hl)
end VH
