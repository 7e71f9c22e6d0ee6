/-! ===== straight stretches: what the machine does, as one proposition ===== -/
def nth : List Value → Nat → Option Value
  | [], _ => none
  | v :: _, 0 => some v
  | _ :: r, n + 1 => nth r n
theorem nth_get : ∀ {l : List Value} {k : Nat} {v : Value}, nth l k = some v → l[k]? = some v
  | [], _, _, h => by cases h
  | w :: r, 0, v, h => by simpa [nth] using h
  | w :: r, k + 1, v, h => by simpa using nth_get (l := r) h
def fitv (ty : FieldType) (v : Value) : Prop := narrow ty v = v ∧ fits ty v = true
def mI (st : List Value) (f : Int32 → List Value → Prop) : Prop := match st with | .int x :: r => f x r | _ => False
def mII (st : List Value) (f : Int32 → Int32 → List Value → Prop) : Prop := match st with | .int y :: .int x :: r => f x y r | _ => False
def mJ (st : List Value) (f : Int64 → List Value → Prop) : Prop := match st with | .long x :: r => f x r | _ => False
def mJJ (st : List Value) (f : Int64 → Int64 → List Value → Prop) : Prop := match st with | .long y :: .long x :: r => f x y r | _ => False
def mR (st : List Value) (f : Nat → List Value → Prop) : Prop := match st with | .ref x :: r => f x r | _ => False
def mRR (st : List Value) (f : Nat → Nat → List Value → Prop) : Prop := match st with | .ref y :: .ref x :: r => f x y r | _ => False
def mA (st : List Value) (f : Value → List Value → Prop) : Prop := match st with | .ref x :: r => f (.ref x) r | .null :: r => f .null r | _ => False
def mN (st : List Value) (f : List Value → Prop) (g : List Value → Prop) : Prop := match st with | .null :: r => f r | .ref _ :: r => g r | _ => False
def mV (st : List Value) (f : Value → List Value → Prop) : Prop := match st with | x :: r => f x r | _ => False
def mVV (st : List Value) (f : Value → Value → List Value → Prop) : Prop := match st with | x :: y :: r => f x y r | _ => False
def mVR (st : List Value) (f : Value → Nat → List Value → Prop) : Prop := match st with | x :: .ref a :: r => f x a r | _ => False
def mIR (st : List Value) (f : Int32 → Nat → List Value → Prop) : Prop := match st with | .int i :: .ref a :: r => f i a r | _ => False
def mIIR (st : List Value) (f : Int32 → Int32 → Nat → List Value → Prop) : Prop := match st with | .int x :: .int i :: .ref a :: r => f x i a r | _ => False
def mJIR (st : List Value) (f : Int64 → Int32 → Nat → List Value → Prop) : Prop := match st with | .long x :: .int i :: .ref a :: r => f x i a r | _ => False
def mRIR (st : List Value) (f : Nat → Int32 → Nat → List Value → Prop) : Prop := match st with | .ref x :: .int i :: .ref a :: r => f x i a r | _ => False
def oI (o : Option Value) (f : Int32 → Prop) : Prop := match o with | some (.int x) => f x | _ => False
def oJ (o : Option Value) (f : Int64 → Prop) : Prop := match o with | some (.long x) => f x | _ => False
def oA (o : Option Value) (f : Value → Prop) : Prop := match o with | some (.ref x) => f (.ref x) | some .null => f .null | _ => False
def oV (o : Option Value) (f : Value → Prop) : Prop := match o with | some x => f x | _ => False
def mO (o : Option va_E) (ci : Nat) (f : List Value → Prop) : Prop := match o with | some (.inr (c, fs)) => c = ci ∧ f fs | _ => False
def mL (Y : Nat → ClassId) (o : Option va_E) (f : Nat → Prop) : Prop := match o with | some (.inl (c, (n, _))) => (c = Y 0 ∨ c = Y 1 ∨ c = Y 2 ∨ c = Y 3 ∨ c = Y 4) ∧ f n | _ => False
def aI (o : Option va_E) (c : ClassId) (f : Nat → (Nat → Int32) → Prop) : Prop := match o with | some (.inl (d, (n, .inl g))) => d = c ∧ f n g | _ => False
def aJ (o : Option va_E) (c : ClassId) (f : Nat → (Nat → Int64) → Prop) : Prop := match o with | some (.inl (d, (n, .inr (.inl g)))) => d = c ∧ f n g | _ => False
def aQ (o : Option va_E) (c : ClassId) (f : Nat → (Nat → Option Nat) → Prop) : Prop := match o with | some (.inl (d, (n, .inr (.inr (.inr (.inr g)))))) => d = c ∧ f n g | _ => False
theorem mI_ok {st f} (h : mI st f) : ∃ x r, st = .int x :: r ∧ f x r := by unfold mI at h; split at h; · exact ⟨_, _, rfl, h⟩
                                                                           · exact h.elim
theorem mII_ok {st f} (h : mII st f) : ∃ x y r, st = .int y :: .int x :: r ∧ f x y r := by unfold mII at h; split at h; · exact ⟨_, _, _, rfl, h⟩
                                                                                           · exact h.elim
theorem mJ_ok {st f} (h : mJ st f) : ∃ x r, st = .long x :: r ∧ f x r := by unfold mJ at h; split at h; · exact ⟨_, _, rfl, h⟩
                                                                            · exact h.elim
theorem mJJ_ok {st f} (h : mJJ st f) : ∃ x y r, st = .long y :: .long x :: r ∧ f x y r := by unfold mJJ at h; split at h; · exact ⟨_, _, _, rfl, h⟩
                                                                                             · exact h.elim
theorem mR_ok {st f} (h : mR st f) : ∃ x r, st = .ref x :: r ∧ f x r := by unfold mR at h; split at h; · exact ⟨_, _, rfl, h⟩
                                                                           · exact h.elim
theorem mRR_ok {st f} (h : mRR st f) : ∃ x y r, st = .ref y :: .ref x :: r ∧ f x y r := by unfold mRR at h; split at h; · exact ⟨_, _, _, rfl, h⟩
                                                                                           · exact h.elim
theorem mA_ok {st f} (h : mA st f) : (∃ x r, st = .ref x :: r ∧ f (.ref x) r) ∨ ∃ r, st = .null :: r ∧ f .null r := by
  unfold mA at h; split at h
  · exact Or.inl ⟨_, _, rfl, h⟩
  · exact Or.inr ⟨_, rfl, h⟩
  · exact h.elim
theorem mN_ok {st f g} (h : mN st f g) : (∃ r, st = .null :: r ∧ f r) ∨ ∃ x r, st = .ref x :: r ∧ g r := by
  unfold mN at h; split at h
  · exact Or.inl ⟨_, rfl, h⟩
  · exact Or.inr ⟨_, _, rfl, h⟩
  · exact h.elim
theorem mV_ok {st f} (h : mV st f) : ∃ x r, st = x :: r ∧ f x r := by unfold mV at h; split at h; · exact ⟨_, _, rfl, h⟩
                                                                      · exact h.elim
theorem mVV_ok {st f} (h : mVV st f) : ∃ x y r, st = x :: y :: r ∧ f x y r := by unfold mVV at h; split at h; · exact ⟨_, _, _, rfl, h⟩
                                                                                 · exact h.elim
theorem mVR_ok {st f} (h : mVR st f) : ∃ x a r, st = x :: .ref a :: r ∧ f x a r := by unfold mVR at h; split at h; · exact ⟨_, _, _, rfl, h⟩
                                                                                      · exact h.elim
theorem mIR_ok {st f} (h : mIR st f) : ∃ i a r, st = .int i :: .ref a :: r ∧ f i a r := by unfold mIR at h; split at h; · exact ⟨_, _, _, rfl, h⟩
                                                                                           · exact h.elim
theorem mIIR_ok {st f} (h : mIIR st f) : ∃ x i a r, st = .int x :: .int i :: .ref a :: r ∧ f x i a r := by unfold mIIR at h; split at h; · exact ⟨_, _, _, _, rfl, h⟩
                                                                                                           · exact h.elim
theorem mJIR_ok {st f} (h : mJIR st f) : ∃ x i a r, st = .long x :: .int i :: .ref a :: r ∧ f x i a r := by unfold mJIR at h; split at h; · exact ⟨_, _, _, _, rfl, h⟩
                                                                                                            · exact h.elim
theorem mRIR_ok {st f} (h : mRIR st f) : ∃ x i a r, st = .ref x :: .int i :: .ref a :: r ∧ f x i a r := by unfold mRIR at h; split at h; · exact ⟨_, _, _, _, rfl, h⟩
                                                                                                           · exact h.elim
theorem oI_ok {o f} (h : oI o f) : ∃ x, o = some (.int x) ∧ f x := by unfold oI at h; split at h; · exact ⟨_, rfl, h⟩
                                                                      · exact h.elim
theorem oJ_ok {o f} (h : oJ o f) : ∃ x, o = some (.long x) ∧ f x := by unfold oJ at h; split at h; · exact ⟨_, rfl, h⟩
                                                                       · exact h.elim
theorem oA_ok {o f} (h : oA o f) : (∃ x, o = some (.ref x) ∧ f (.ref x)) ∨ (o = some .null ∧ f .null) := by
  unfold oA at h; split at h
  · exact Or.inl ⟨_, rfl, h⟩
  · exact Or.inr ⟨rfl, h⟩
  · exact h.elim
theorem oV_ok {o f} (h : oV o f) : ∃ x, o = some x ∧ f x := by unfold oV at h; split at h; · exact ⟨_, rfl, h⟩
                                                               · exact h.elim
theorem mO_ok {o ci f} (h : mO o ci f) : ∃ fs, o = some (.inr (ci, fs)) ∧ f fs := by
  unfold mO at h; split at h
  · obtain ⟨rfl, h⟩ := h; exact ⟨_, rfl, h⟩
  · exact h.elim
theorem mL_ok {Y o f} (h : mL Y o f) : ∃ c n x, o = some (.inl (c, (n, x))) ∧ (c = Y 0 ∨ c = Y 1 ∨ c = Y 2 ∨ c = Y 3 ∨ c = Y 4) ∧ f n := by
  unfold mL at h; split at h
  · exact ⟨_, _, _, rfl, h⟩
  · exact h.elim
theorem aI_ok {o c f} (h : aI o c f) : ∃ n g, o = some (.inl (c, (n, .inl g))) ∧ f n g := by
  unfold aI at h; split at h
  · obtain ⟨rfl, h⟩ := h; exact ⟨_, _, rfl, h⟩
  · exact h.elim
theorem aJ_ok {o c f} (h : aJ o c f) : ∃ n g, o = some (.inl (c, (n, .inr (.inl g)))) ∧ f n g := by
  unfold aJ at h; split at h
  · obtain ⟨rfl, h⟩ := h; exact ⟨_, _, rfl, h⟩
  · exact h.elim
theorem aQ_ok {o c f} (h : aQ o c f) : ∃ n g, o = some (.inl (c, (n, .inr (.inr (.inr (.inr g)))))) ∧ f n g := by
  unfold aQ at h; split at h
  · obtain ⟨rfl, h⟩ := h; exact ⟨_, _, rfl, h⟩
  · exact h.elim
/-- one instruction: N what comes next, J where it jumps -/
def mst (Y : Nat → ClassId) (e : En) (ls : Lo) (st : List Value) (h : AH) (N J : Lo → List Value → AH → Prop) : Prop :=
  match e with
  | (i, _, _, v, ci, kk, ty) =>
  match i with
  | .iconst _ => N ls (.int v :: st) h
  | .bipush _ => N ls (.int v :: st) h
  | .sipush _ => N ls (.int v :: st) h
  | .ldc _ => N ls (.int v :: st) h
  | .lconst n => N ls (.long (Int64.ofNat (n : Nat)) :: st) h
  | .ldc2_w _ => N ls (.long HOLE :: st) h
  | .aconst_null => N ls (.null :: st) h
  | .iload_n _ => oI (gl ls kk) fun x => N ls (.int x :: st) h
  | .iload _ => oI (gl ls kk) fun x => N ls (.int x :: st) h
  | .lload_n _ => oJ (gl ls kk) fun x => N ls (.long x :: st) h
  | .lload _ => oJ (gl ls kk) fun x => N ls (.long x :: st) h
  | .aload_n _ => oA (gl ls kk) fun x => N ls (x :: st) h
  | .aload _ => oA (gl ls kk) fun x => N ls (x :: st) h
  | .istore_n _ => mI st fun x r => N (s1 ls kk (.int x)) r h
  | .istore _ => mI st fun x r => N (s1 ls kk (.int x)) r h
  | .lstore_n _ => mJ st fun x r => N (s2 ls kk (.long x)) r h
  | .lstore _ => mJ st fun x r => N (s2 ls kk (.long x)) r h
  | .astore_n _ => mA st fun x r => N (s1 ls kk x) r h
  | .astore _ => mA st fun x r => N (s1 ls kk x) r h
  | .iinc _ _ => oI (gl ls kk) fun x => N (s1 ls kk (.int (x + v))) st h
  | .iadd => mII st fun x y r => N ls (.int (x + y) :: r) h
  | .isub => mII st fun x y r => N ls (.int (x - y) :: r) h
  | .imul => mII st fun x y r => N ls (.int (x * y) :: r) h
  | .iand => mII st fun x y r => N ls (.int (x &&& y) :: r) h
  | .idiv => mII st fun x y r => ¬ y = 0 ∧ N ls (.int (x / y) :: r) h
  | .irem => mII st fun x y r => ¬ y = 0 ∧ N ls (.int (x - x / y * y) :: r) h
  | .ineg => mI st fun x r => N ls (.int (-x) :: r) h
  | .ladd => mJJ st fun x y r => N ls (.long (x + y) :: r) h
  | .lsub => mJJ st fun x y r => N ls (.long (x - y) :: r) h
  | .lmul => mJJ st fun x y r => N ls (.long (x * y) :: r) h
  | .lxor => mJJ st fun x y r => N ls (.long (x ^^^ y) :: r) h
  | .ldiv => mJJ st fun x y r => ¬ y = 0 ∧ N ls (.long (x / y) :: r) h
  | .lcmp => mJJ st fun x y r => N ls (.int (lg_cmp x y) :: r) h
  | .i2l => mI st fun x r => N ls (.long x.toInt64 :: r) h
  | .l2i => mJ st fun x r => N ls (.int x.toInt32 :: r) h
  | .dup => mV st fun x r => x.category = 1 ∧ N ls (x :: x :: r) h
  | .pop => mV st fun x r => x.category = 1 ∧ N ls r h
  | .dup2 => mVV st fun x y r => (x.category = 1 ∧ y.category = 1) ∧ N ls (x :: y :: x :: y :: r) h
  | .ifCond .eq _ => mI st fun x r => (x = 0 → J ls r h) ∧ (¬ x = 0 → N ls r h)
  | .ifCond .ne _ => mI st fun x r => (¬ x = 0 → J ls r h) ∧ (x = 0 → N ls r h)
  | .ifCond .lt _ => mI st fun x r => (x < 0 → J ls r h) ∧ (¬ x < 0 → N ls r h)
  | .ifCond .ge _ => mI st fun x r => (0 ≤ x → J ls r h) ∧ (¬ 0 ≤ x → N ls r h)
  | .ifCond .gt _ => mI st fun x r => (0 < x → J ls r h) ∧ (¬ 0 < x → N ls r h)
  | .ifCond .le _ => mI st fun x r => (x ≤ 0 → J ls r h) ∧ (¬ x ≤ 0 → N ls r h)
  | .if_icmp .eq _ => mII st fun x y r => (x = y → J ls r h) ∧ (¬ x = y → N ls r h)
  | .if_icmp .ne _ => mII st fun x y r => (¬ x = y → J ls r h) ∧ (x = y → N ls r h)
  | .if_icmp .lt _ => mII st fun x y r => (x < y → J ls r h) ∧ (¬ x < y → N ls r h)
  | .if_icmp .ge _ => mII st fun x y r => (y ≤ x → J ls r h) ∧ (¬ y ≤ x → N ls r h)
  | .if_icmp .gt _ => mII st fun x y r => (y < x → J ls r h) ∧ (¬ y < x → N ls r h)
  | .if_icmp .le _ => mII st fun x y r => (x ≤ y → J ls r h) ∧ (¬ x ≤ y → N ls r h)
  | .if_acmp .ne _ => mRR st fun x y r => (¬ x = y → J ls r h) ∧ (x = y → N ls r h)
  | .ifnull _ => mN st (fun r => J ls r h) (fun r => N ls r h)
  | .ifnonnull _ => mN st (fun r => N ls r h) (fun r => J ls r h)
  | .goto _ => J ls st h
  | .getfield _ => mR st fun a r => mO (h a) ci fun fs => oV (nth fs kk) fun x => N ls (x :: r) h
  | .putfield _ => mVR st fun x a r => mO (h a) ci fun fs => kk < fs.length ∧ fitv ty x ∧ N ls r (up h a (.inr (ci, fs.set kk x)))
  | .arraylength => mR st fun a r => mL Y (h a) fun n => N ls (.int (nI n) :: r) h
  | .iaload => mIR st fun i a r => aI (h a) (Y 0) fun n g => vp_in i n ∧ N ls (.int (g i.toNatClampNeg) :: r) h
  | .baload => mIR st fun i a r => aI (h a) (Y 2) fun n g => vp_in i n ∧ N ls (.int (g i.toNatClampNeg) :: r) h
  | .laload => mIR st fun i a r => aJ (h a) (Y 1) fun n g => vp_in i n ∧ N ls (.long (g i.toNatClampNeg) :: r) h
  | .aaload => mIR st fun i a r => aQ (h a) (Y ci) fun n g => vp_in i n ∧ N ls (va_rf (g i.toNatClampNeg) :: r) h
  | .iastore => mIIR st fun x i a r => aI (h a) (Y 0) fun n g => vp_in i n ∧ N ls r (up h a (.inl (Y 0, (n, .inl (upd g i.toNatClampNeg x)))))
  | .bastore => mIIR st fun x i a r => aI (h a) (Y 2) fun n g => vp_in i n ∧ N ls r (up h a (.inl (Y 2, (n, .inl (upd g i.toNatClampNeg (vp_nar .boolean x))))))
  | .lastore => mJIR st fun x i a r => aJ (h a) (Y 1) fun n g => vp_in i n ∧ N ls r (up h a (.inl (Y 1, (n, .inr (.inl (vp_updL g i.toNatClampNeg x))))))
  | .aastore => mRIR st fun x i a r => aQ (h a) (Y ci) fun n g => vp_in i n ∧ mO (h x) (if ci = 3 then 0 else 4) fun _ => N ls r (up h a (.inl (Y ci, (n, .inr (.inr (.inr (.inr (va_up g i.toNatClampNeg (some x)))))))))
  | _ => False
def mrn (Y : Nat → ClassId) (K : KT) : List En → Nat → Lo → List Value → AH → Prop
  | [], pc, ls, st, h => K pc ls st h
  | e :: r, pc, ls, st, h => mst Y e ls st h (fun ls st h => mrn Y K r (pc + e.2.1) ls st h) (fun ls st h => K e.2.2.1 ls st h)
/-- what is fixed of an instruction: lengths, places, targets, links -/
def okE (own : String) (nL : Nat) (ini : Bool) (pc : Nat) (e : En) : Bool :=
  match e with
  | (i, n, t, v, ci, kk, ty) =>
  match i with
  | .iconst z => n == 1 && Int32.ofInt z == v
  | .bipush z => n == 2 && (Int8.ofInt z).toInt32 == v
  | .sipush z => n == 3 && (Int16.ofInt z).toInt32 == v
  | .ldc idx => n == 2 && decide (Cond.constant own idx v ∈ ALL)
  | .lconst _ => n == 1
  | .ldc2_w idx => n == 3 && decide (Cond.constantLong own idx HOLE ∈ ALL)
  | .iload_n k => n == 1 && (k : Nat) == kk
  | .lload_n k => n == 1 && (k : Nat) == kk
  | .aload_n k => n == 1 && (k : Nat) == kk
  | .iload k => n == 2 && k == kk
  | .lload k => n == 2 && k == kk
  | .aload k => n == 2 && k == kk
  | .istore_n k => n == 1 && (k : Nat) == kk && decide (kk < nL)
  | .lstore_n k => n == 1 && (k : Nat) == kk && decide (kk + 1 < nL)
  | .astore_n k => n == 1 && (k : Nat) == kk && decide (kk < nL)
  | .istore k => n == 2 && k == kk && decide (kk < nL)
  | .lstore k => n == 2 && k == kk && decide (kk + 1 < nL)
  | .astore k => n == 2 && k == kk && decide (kk < nL)
  | .iinc k z => n == 3 && k == kk && decide (kk < nL) && Int32.ofInt z == v
  | .ifCond _ off => n == 3 && decide ((pc : Int) + off = (t : Int))
  | .if_icmp _ off => n == 3 && decide ((pc : Int) + off = (t : Int))
  | .if_acmp _ off => n == 3 && decide ((pc : Int) + off = (t : Int))
  | .ifnull off => n == 3 && decide ((pc : Int) + off = (t : Int))
  | .ifnonnull off => n == 3 && decide ((pc : Int) + off = (t : Int))
  | .goto off => n == 3 && decide ((pc : Int) + off = (t : Int))
  | .getfield idx => n == 3 && (match vwCl[ci]? with
    | some r => decide (kk < r.2.2) && (decide (Cond.fieldLink own idx (r.2.1 kk).1 (r.2.1 kk).2.1 (r.2.1 kk).2.2.1 ∈ ALL) || decide ((own, idx, (r.2.1 kk).1, (r.2.1 kk).2.1, (r.2.1 kk).2.2.1, "GridStore") ∈ nF))
    | none => false)
  | .putfield idx => n == 3 && (match vwCl[ci]? with
    | some r => decide (kk < r.2.2) && decide (parseFieldDescriptor (r.2.1 kk).2.2.1 = some ty) && (((r.2.1 kk).2.2.2 == false && (decide (Cond.fieldLink own idx (r.2.1 kk).1 (r.2.1 kk).2.1 (r.2.1 kk).2.2.1 ∈ ALL) || decide ((own, idx, (r.2.1 kk).1, (r.2.1 kk).2.1, (r.2.1 kk).2.2.1, "GridStore") ∈ nF))) || ((r.2.1 kk).2.2.2 == true && ini && decide ((r.2.1 kk).1 = own) && decide (Cond.fieldLink own idx (r.2.1 kk).1 (r.2.1 kk).2.1 (r.2.1 kk).2.2.1 ∈ ALL)))
    | none => false)
  | .aaload => n == 1 && (ci == 3 || ci == 4)
  | .aastore => n == 1 && (ci == 3 || ci == 4)
  | _ => n == 1
def isAt (own : String) (nL : Nat) (ini : Bool) (cc : ByteArray) : Nat → List En → Bool
  | _, [] => true
  | pc, e :: r => decide (decode cc pc = .ok (e.1, e.2.1)) && okE own nL ini pc e && isAt own nL ini cc (pc + e.2.1) r
