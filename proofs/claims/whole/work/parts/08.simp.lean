/-! ===== rows by which 'simp only' runs a stretch ===== -/
def bI (b : Bool) : Int32 := if b then 1 else 0
section SR
variable {Y : Nat → ClassId} {K : KT} {r : List En} {pc n t ci kk : Nat} {v : Int32} {ty : FieldType} {ls : Lo} {st : List Value} {h : AH}
theorem r_nil : mrn Y K [] pc ls st h = K pc ls st h := propext Iff.rfl
theorem r_iconst {z} : mrn Y K ((.iconst z, n, t, v, ci, kk, ty) :: r) pc ls st h = mrn Y K r (pc + n) ls (.int v :: st) h := propext Iff.rfl
theorem r_bipush {z} : mrn Y K ((.bipush z, n, t, v, ci, kk, ty) :: r) pc ls st h = mrn Y K r (pc + n) ls (.int v :: st) h := propext Iff.rfl
theorem r_sipush {z} : mrn Y K ((.sipush z, n, t, v, ci, kk, ty) :: r) pc ls st h = mrn Y K r (pc + n) ls (.int v :: st) h := propext Iff.rfl
theorem r_ldc {z} : mrn Y K ((.ldc z, n, t, v, ci, kk, ty) :: r) pc ls st h = mrn Y K r (pc + n) ls (.int v :: st) h := propext Iff.rfl
theorem r_lconst0 : mrn Y K ((.lconst 0, n, t, v, ci, kk, ty) :: r) pc ls st h = mrn Y K r (pc + n) ls (.long 0 :: st) h := propext Iff.rfl
theorem r_lconst1 : mrn Y K ((.lconst 1, n, t, v, ci, kk, ty) :: r) pc ls st h = mrn Y K r (pc + n) ls (.long 1 :: st) h := propext Iff.rfl
theorem r_ldc2 {z} : mrn Y K ((.ldc2_w z, n, t, v, ci, kk, ty) :: r) pc ls st h = mrn Y K r (pc + n) ls (.long HOLE :: st) h := propext Iff.rfl
theorem r_null : mrn Y K ((.aconst_null, n, t, v, ci, kk, ty) :: r) pc ls st h = mrn Y K r (pc + n) ls (.null :: st) h := propext Iff.rfl
theorem r_iload_n {z} : mrn Y K ((.iload_n z, n, t, v, ci, kk, ty) :: r) pc ls st h = oI (gl ls kk) fun x => mrn Y K r (pc + n) ls (.int x :: st) h := propext Iff.rfl
theorem r_iload {z} : mrn Y K ((.iload z, n, t, v, ci, kk, ty) :: r) pc ls st h = oI (gl ls kk) fun x => mrn Y K r (pc + n) ls (.int x :: st) h := propext Iff.rfl
theorem r_lload_n {z} : mrn Y K ((.lload_n z, n, t, v, ci, kk, ty) :: r) pc ls st h = oJ (gl ls kk) fun x => mrn Y K r (pc + n) ls (.long x :: st) h := propext Iff.rfl
theorem r_lload {z} : mrn Y K ((.lload z, n, t, v, ci, kk, ty) :: r) pc ls st h = oJ (gl ls kk) fun x => mrn Y K r (pc + n) ls (.long x :: st) h := propext Iff.rfl
theorem r_aload_n {z} : mrn Y K ((.aload_n z, n, t, v, ci, kk, ty) :: r) pc ls st h = oA (gl ls kk) fun x => mrn Y K r (pc + n) ls (x :: st) h := propext Iff.rfl
theorem r_aload {z} : mrn Y K ((.aload z, n, t, v, ci, kk, ty) :: r) pc ls st h = oA (gl ls kk) fun x => mrn Y K r (pc + n) ls (x :: st) h := propext Iff.rfl
theorem r_istore_n {z} {x : Int32} : mrn Y K ((.istore_n z, n, t, v, ci, kk, ty) :: r) pc ls (.int x :: st) h = mrn Y K r (pc + n) (s1 ls kk (.int x)) st h := propext Iff.rfl
theorem r_istore {z} {x : Int32} : mrn Y K ((.istore z, n, t, v, ci, kk, ty) :: r) pc ls (.int x :: st) h = mrn Y K r (pc + n) (s1 ls kk (.int x)) st h := propext Iff.rfl
theorem r_lstore_n {z} {x : Int64} : mrn Y K ((.lstore_n z, n, t, v, ci, kk, ty) :: r) pc ls (.long x :: st) h = mrn Y K r (pc + n) (s2 ls kk (.long x)) st h := propext Iff.rfl
theorem r_lstore {z} {x : Int64} : mrn Y K ((.lstore z, n, t, v, ci, kk, ty) :: r) pc ls (.long x :: st) h = mrn Y K r (pc + n) (s2 ls kk (.long x)) st h := propext Iff.rfl
theorem r_astore_nR {z} {x : Nat} : mrn Y K ((.astore_n z, n, t, v, ci, kk, ty) :: r) pc ls (.ref x :: st) h = mrn Y K r (pc + n) (s1 ls kk (.ref x)) st h := propext Iff.rfl
theorem r_astoreR {z} {x : Nat} : mrn Y K ((.astore z, n, t, v, ci, kk, ty) :: r) pc ls (.ref x :: st) h = mrn Y K r (pc + n) (s1 ls kk (.ref x)) st h := propext Iff.rfl
theorem r_astore_nN {z} : mrn Y K ((.astore_n z, n, t, v, ci, kk, ty) :: r) pc ls (.null :: st) h = mrn Y K r (pc + n) (s1 ls kk .null) st h := propext Iff.rfl
theorem r_astoreN {z} : mrn Y K ((.astore z, n, t, v, ci, kk, ty) :: r) pc ls (.null :: st) h = mrn Y K r (pc + n) (s1 ls kk .null) st h := propext Iff.rfl
theorem r_iinc {z w} : mrn Y K ((.iinc z w, n, t, v, ci, kk, ty) :: r) pc ls st h = oI (gl ls kk) fun x => mrn Y K r (pc + n) (s1 ls kk (.int (x + v))) st h := propext Iff.rfl
theorem r_iadd {x y : Int32} : mrn Y K ((.iadd, n, t, v, ci, kk, ty) :: r) pc ls (.int y :: .int x :: st) h = mrn Y K r (pc + n) ls (.int (x + y) :: st) h := propext Iff.rfl
theorem r_isub {x y : Int32} : mrn Y K ((.isub, n, t, v, ci, kk, ty) :: r) pc ls (.int y :: .int x :: st) h = mrn Y K r (pc + n) ls (.int (x - y) :: st) h := propext Iff.rfl
theorem r_imul {x y : Int32} : mrn Y K ((.imul, n, t, v, ci, kk, ty) :: r) pc ls (.int y :: .int x :: st) h = mrn Y K r (pc + n) ls (.int (x * y) :: st) h := propext Iff.rfl
theorem r_iand {x y : Int32} : mrn Y K ((.iand, n, t, v, ci, kk, ty) :: r) pc ls (.int y :: .int x :: st) h = mrn Y K r (pc + n) ls (.int (x &&& y) :: st) h := propext Iff.rfl
theorem r_idiv {x y : Int32} : mrn Y K ((.idiv, n, t, v, ci, kk, ty) :: r) pc ls (.int y :: .int x :: st) h = (¬ y = 0 ∧ mrn Y K r (pc + n) ls (.int (x / y) :: st) h) := propext Iff.rfl
theorem r_irem {x y : Int32} : mrn Y K ((.irem, n, t, v, ci, kk, ty) :: r) pc ls (.int y :: .int x :: st) h = (¬ y = 0 ∧ mrn Y K r (pc + n) ls (.int (x - x / y * y) :: st) h) := propext Iff.rfl
theorem r_ineg {x : Int32} : mrn Y K ((.ineg, n, t, v, ci, kk, ty) :: r) pc ls (.int x :: st) h = mrn Y K r (pc + n) ls (.int (-x) :: st) h := propext Iff.rfl
theorem r_ladd {x y : Int64} : mrn Y K ((.ladd, n, t, v, ci, kk, ty) :: r) pc ls (.long y :: .long x :: st) h = mrn Y K r (pc + n) ls (.long (x + y) :: st) h := propext Iff.rfl
theorem r_lsub {x y : Int64} : mrn Y K ((.lsub, n, t, v, ci, kk, ty) :: r) pc ls (.long y :: .long x :: st) h = mrn Y K r (pc + n) ls (.long (x - y) :: st) h := propext Iff.rfl
theorem r_lmul {x y : Int64} : mrn Y K ((.lmul, n, t, v, ci, kk, ty) :: r) pc ls (.long y :: .long x :: st) h = mrn Y K r (pc + n) ls (.long (x * y) :: st) h := propext Iff.rfl
theorem r_lxor {x y : Int64} : mrn Y K ((.lxor, n, t, v, ci, kk, ty) :: r) pc ls (.long y :: .long x :: st) h = mrn Y K r (pc + n) ls (.long (x ^^^ y) :: st) h := propext Iff.rfl
theorem r_ldiv {x y : Int64} : mrn Y K ((.ldiv, n, t, v, ci, kk, ty) :: r) pc ls (.long y :: .long x :: st) h = (¬ y = 0 ∧ mrn Y K r (pc + n) ls (.long (x / y) :: st) h) := propext Iff.rfl
theorem r_lcmp {x y : Int64} : mrn Y K ((.lcmp, n, t, v, ci, kk, ty) :: r) pc ls (.long y :: .long x :: st) h = mrn Y K r (pc + n) ls (.int (lg_cmp x y) :: st) h := propext Iff.rfl
theorem r_i2l {x : Int32} : mrn Y K ((.i2l, n, t, v, ci, kk, ty) :: r) pc ls (.int x :: st) h = mrn Y K r (pc + n) ls (.long x.toInt64 :: st) h := propext Iff.rfl
theorem r_l2i {x : Int64} : mrn Y K ((.l2i, n, t, v, ci, kk, ty) :: r) pc ls (.long x :: st) h = mrn Y K r (pc + n) ls (.int x.toInt32 :: st) h := propext Iff.rfl
theorem r_dup {x : Value} : mrn Y K ((.dup, n, t, v, ci, kk, ty) :: r) pc ls (x :: st) h = (x.category = 1 ∧ mrn Y K r (pc + n) ls (x :: x :: st) h) := propext Iff.rfl
theorem r_pop {x : Value} : mrn Y K ((.pop, n, t, v, ci, kk, ty) :: r) pc ls (x :: st) h = (x.category = 1 ∧ mrn Y K r (pc + n) ls st h) := propext Iff.rfl
theorem r_dup2 {x y : Value} : mrn Y K ((.dup2, n, t, v, ci, kk, ty) :: r) pc ls (x :: y :: st) h = ((x.category = 1 ∧ y.category = 1) ∧ mrn Y K r (pc + n) ls (x :: y :: x :: y :: st) h) := propext Iff.rfl
theorem r_ifeq {x : Int32} {z} : mrn Y K ((.ifCond .eq z, n, t, v, ci, kk, ty) :: r) pc ls (.int x :: st) h = ((x = 0 → K t ls st h) ∧ (¬ x = 0 → mrn Y K r (pc + n) ls st h)) := propext Iff.rfl
theorem r_ifne {x : Int32} {z} : mrn Y K ((.ifCond .ne z, n, t, v, ci, kk, ty) :: r) pc ls (.int x :: st) h = ((¬ x = 0 → K t ls st h) ∧ (x = 0 → mrn Y K r (pc + n) ls st h)) := propext Iff.rfl
theorem r_iflt {x : Int32} {z} : mrn Y K ((.ifCond .lt z, n, t, v, ci, kk, ty) :: r) pc ls (.int x :: st) h = ((x < 0 → K t ls st h) ∧ (¬ x < 0 → mrn Y K r (pc + n) ls st h)) := propext Iff.rfl
theorem r_ifge {x : Int32} {z} : mrn Y K ((.ifCond .ge z, n, t, v, ci, kk, ty) :: r) pc ls (.int x :: st) h = ((0 ≤ x → K t ls st h) ∧ (¬ 0 ≤ x → mrn Y K r (pc + n) ls st h)) := propext Iff.rfl
theorem r_ifgt {x : Int32} {z} : mrn Y K ((.ifCond .gt z, n, t, v, ci, kk, ty) :: r) pc ls (.int x :: st) h = ((0 < x → K t ls st h) ∧ (¬ 0 < x → mrn Y K r (pc + n) ls st h)) := propext Iff.rfl
theorem r_ifle {x : Int32} {z} : mrn Y K ((.ifCond .le z, n, t, v, ci, kk, ty) :: r) pc ls (.int x :: st) h = ((x ≤ 0 → K t ls st h) ∧ (¬ x ≤ 0 → mrn Y K r (pc + n) ls st h)) := propext Iff.rfl
theorem r_icmpeq {x y : Int32} {z} : mrn Y K ((.if_icmp .eq z, n, t, v, ci, kk, ty) :: r) pc ls (.int y :: .int x :: st) h = ((x = y → K t ls st h) ∧ (¬ x = y → mrn Y K r (pc + n) ls st h)) := propext Iff.rfl
theorem r_icmpne {x y : Int32} {z} : mrn Y K ((.if_icmp .ne z, n, t, v, ci, kk, ty) :: r) pc ls (.int y :: .int x :: st) h = ((¬ x = y → K t ls st h) ∧ (x = y → mrn Y K r (pc + n) ls st h)) := propext Iff.rfl
theorem r_icmplt {x y : Int32} {z} : mrn Y K ((.if_icmp .lt z, n, t, v, ci, kk, ty) :: r) pc ls (.int y :: .int x :: st) h = ((x < y → K t ls st h) ∧ (¬ x < y → mrn Y K r (pc + n) ls st h)) := propext Iff.rfl
theorem r_icmpge {x y : Int32} {z} : mrn Y K ((.if_icmp .ge z, n, t, v, ci, kk, ty) :: r) pc ls (.int y :: .int x :: st) h = ((y ≤ x → K t ls st h) ∧ (¬ y ≤ x → mrn Y K r (pc + n) ls st h)) := propext Iff.rfl
theorem r_icmpgt {x y : Int32} {z} : mrn Y K ((.if_icmp .gt z, n, t, v, ci, kk, ty) :: r) pc ls (.int y :: .int x :: st) h = ((y < x → K t ls st h) ∧ (¬ y < x → mrn Y K r (pc + n) ls st h)) := propext Iff.rfl
theorem r_icmple {x y : Int32} {z} : mrn Y K ((.if_icmp .le z, n, t, v, ci, kk, ty) :: r) pc ls (.int y :: .int x :: st) h = ((x ≤ y → K t ls st h) ∧ (¬ x ≤ y → mrn Y K r (pc + n) ls st h)) := propext Iff.rfl
theorem r_acmpne {x y : Nat} {z} : mrn Y K ((.if_acmp .ne z, n, t, v, ci, kk, ty) :: r) pc ls (.ref y :: .ref x :: st) h = ((¬ x = y → K t ls st h) ∧ (x = y → mrn Y K r (pc + n) ls st h)) := propext Iff.rfl
theorem r_ifnullN {z} : mrn Y K ((.ifnull z, n, t, v, ci, kk, ty) :: r) pc ls (.null :: st) h = K t ls st h := propext Iff.rfl
theorem r_ifnullR {z} {x : Nat} : mrn Y K ((.ifnull z, n, t, v, ci, kk, ty) :: r) pc ls (.ref x :: st) h = mrn Y K r (pc + n) ls st h := propext Iff.rfl
theorem r_ifnonnullN {z} : mrn Y K ((.ifnonnull z, n, t, v, ci, kk, ty) :: r) pc ls (.null :: st) h = mrn Y K r (pc + n) ls st h := propext Iff.rfl
theorem r_ifnonnullR {z} {x : Nat} : mrn Y K ((.ifnonnull z, n, t, v, ci, kk, ty) :: r) pc ls (.ref x :: st) h = K t ls st h := propext Iff.rfl
theorem r_goto {z} : mrn Y K ((.goto z, n, t, v, ci, kk, ty) :: r) pc ls st h = K t ls st h := propext Iff.rfl
theorem r_getf {z} {a : Nat} : mrn Y K ((.getfield z, n, t, v, ci, kk, ty) :: r) pc ls (.ref a :: st) h = mO (h a) ci fun fs => oV (nth fs kk) fun x => mrn Y K r (pc + n) ls (x :: st) h := propext Iff.rfl
theorem r_putf {z} {a : Nat} {x : Value} : mrn Y K ((.putfield z, n, t, v, ci, kk, ty) :: r) pc ls (x :: .ref a :: st) h = mO (h a) ci fun fs => kk < fs.length ∧ fitv ty x ∧ mrn Y K r (pc + n) ls st (up h a (.inr (ci, fs.set kk x))) := propext Iff.rfl
theorem r_alen {a : Nat} : mrn Y K ((.arraylength, n, t, v, ci, kk, ty) :: r) pc ls (.ref a :: st) h = mL Y (h a) fun q => mrn Y K r (pc + n) ls (.int (nI q) :: st) h := propext Iff.rfl
theorem r_iald {a : Nat} {i : Int32} : mrn Y K ((.iaload, n, t, v, ci, kk, ty) :: r) pc ls (.int i :: .ref a :: st) h = aI (h a) (Y 0) fun q g => vp_in i q ∧ mrn Y K r (pc + n) ls (.int (g i.toNatClampNeg) :: st) h := propext Iff.rfl
theorem r_bald {a : Nat} {i : Int32} : mrn Y K ((.baload, n, t, v, ci, kk, ty) :: r) pc ls (.int i :: .ref a :: st) h = aI (h a) (Y 2) fun q g => vp_in i q ∧ mrn Y K r (pc + n) ls (.int (g i.toNatClampNeg) :: st) h := propext Iff.rfl
theorem r_lald {a : Nat} {i : Int32} : mrn Y K ((.laload, n, t, v, ci, kk, ty) :: r) pc ls (.int i :: .ref a :: st) h = aJ (h a) (Y 1) fun q g => vp_in i q ∧ mrn Y K r (pc + n) ls (.long (g i.toNatClampNeg) :: st) h := propext Iff.rfl
theorem r_aald {a : Nat} {i : Int32} : mrn Y K ((.aaload, n, t, v, ci, kk, ty) :: r) pc ls (.int i :: .ref a :: st) h = aQ (h a) (Y ci) fun q g => vp_in i q ∧ mrn Y K r (pc + n) ls (va_rf (g i.toNatClampNeg) :: st) h := propext Iff.rfl
theorem r_iast {a : Nat} {i x : Int32} : mrn Y K ((.iastore, n, t, v, ci, kk, ty) :: r) pc ls (.int x :: .int i :: .ref a :: st) h = aI (h a) (Y 0) fun q g => vp_in i q ∧ mrn Y K r (pc + n) ls st (up h a (.inl (Y 0, (q, .inl (upd g i.toNatClampNeg x))))) := propext Iff.rfl
theorem r_bast {a : Nat} {i x : Int32} : mrn Y K ((.bastore, n, t, v, ci, kk, ty) :: r) pc ls (.int x :: .int i :: .ref a :: st) h = aI (h a) (Y 2) fun q g => vp_in i q ∧ mrn Y K r (pc + n) ls st (up h a (.inl (Y 2, (q, .inl (upd g i.toNatClampNeg (vp_nar .boolean x)))))) := propext Iff.rfl
theorem r_last {a : Nat} {i : Int32} {x : Int64} : mrn Y K ((.lastore, n, t, v, ci, kk, ty) :: r) pc ls (.long x :: .int i :: .ref a :: st) h = aJ (h a) (Y 1) fun q g => vp_in i q ∧ mrn Y K r (pc + n) ls st (up h a (.inl (Y 1, (q, .inr (.inl (vp_updL g i.toNatClampNeg x)))))) := propext Iff.rfl
theorem r_aast {a x : Nat} {i : Int32} : mrn Y K ((.aastore, n, t, v, ci, kk, ty) :: r) pc ls (.ref x :: .int i :: .ref a :: st) h = aQ (h a) (Y ci) fun q g => vp_in i q ∧ mO (h x) (if ci = 3 then 0 else 4) fun _ => mrn Y K r (pc + n) ls st (up h a (.inl (Y ci, (q, .inr (.inr (.inr (.inr (va_up g i.toNatClampNeg (some x))))))))) := propext Iff.rfl
end SR
theorem gl_c {j i : Nat} {v : Value} {r : Lo} : gl ((j, v) :: r) i = if j = i then some v else gl r i := rfl
theorem s1_d {ls : Lo} {i : Nat} {v : Value} : s1 ls i v = ins i v (rm1 i ls) := rfl
theorem s2_d {ls : Lo} {i : Nat} {v : Value} : s2 ls i v = ins i v (rm2 i ls) := rfl
theorem ins_n {i : Nat} {v : Value} : ins i v [] = [(i, v)] := rfl
theorem ins_c {i j : Nat} {v w : Value} {r : Lo} : ins i v ((j, w) :: r) = if i < j then (i, v) :: (j, w) :: r else (j, w) :: ins i v r := rfl
theorem rm1_n {i : Nat} : rm1 i [] = [] := rfl
theorem rm1_c {i j : Nat} {w : Value} {r : Lo} : rm1 i ((j, w) :: r) = if j = i then rm1 i r else if j + 1 = i then (if w.category = 2 then rm1 i r else (j, w) :: rm1 i r) else (j, w) :: rm1 i r := rfl
theorem rm2_n {i : Nat} : rm2 i [] = [] := rfl
theorem rm2_c {i j : Nat} {w : Value} {r : Lo} : rm2 i ((j, w) :: r) = if j = i then rm2 i r else if j = i + 1 then rm2 i r else if j + 1 = i then (if w.category = 2 then rm2 i r else (j, w) :: rm2 i r) else (j, w) :: rm2 i r := rfl
theorem cat_i {x : Int32} : (Value.int x).category = 1 := rfl
theorem cat_l {x : Int64} : (Value.long x).category = 2 := rfl
theorem cat_r {x : Nat} : (Value.ref x).category = 1 := rfl
theorem cat_n : Value.null.category = 1 := rfl
theorem oI_s {x : Int32} {f} : oI (some (.int x)) f = f x := rfl
theorem oJ_s {x : Int64} {f} : oJ (some (.long x)) f = f x := rfl
theorem oA_r {x : Nat} {f} : oA (some (.ref x)) f = f (.ref x) := rfl
theorem oA_n {f} : oA (some .null) f = f .null := rfl
theorem oV_s {x : Value} {f} : oV (some x) f = f x := rfl
theorem mO_s {c : Nat} {fs : List Value} {f} : mO (some (.inr (c, fs))) c f = f fs := by simp [mO]
theorem aI_s {c : ClassId} {n : Nat} {g : Nat → Int32} {f} : aI (some (.inl (c, (n, .inl g)))) c f = f n g := by simp [aI]
theorem aJ_s {c : ClassId} {n : Nat} {g : Nat → Int64} {f} : aJ (some (.inl (c, (n, .inr (.inl g))))) c f = f n g := by simp [aJ]
theorem aQ_s {c : ClassId} {n : Nat} {g : Nat → Option Nat} {f} : aQ (some (.inl (c, (n, .inr (.inr (.inr (.inr g))))))) c f = f n g := by simp [aQ]
theorem mL_0 {Y : Nat → ClassId} {n : Nat} {x f} : mL Y (some (.inl (Y 0, (n, x)))) f = f n := by simp [mL]
theorem mL_1 {Y : Nat → ClassId} {n : Nat} {x f} : mL Y (some (.inl (Y 1, (n, x)))) f = f n := by simp [mL]
theorem mL_2 {Y : Nat → ClassId} {n : Nat} {x f} : mL Y (some (.inl (Y 2, (n, x)))) f = f n := by simp [mL]
theorem mL_3 {Y : Nat → ClassId} {n : Nat} {x f} : mL Y (some (.inl (Y 3, (n, x)))) f = f n := by simp [mL]
theorem mL_4 {Y : Nat → ClassId} {n : Nat} {x f} : mL Y (some (.inl (Y 4, (n, x)))) f = f n := by simp [mL]
theorem nth_0 {v : Value} {r : List Value} : nth (v :: r) 0 = some v := rfl
theorem nth_s {v : Value} {r : List Value} {n : Nat} : nth (v :: r) (n + 1) = nth r n := rfl
theorem rf_s {a : Nat} : va_rf (some a) = .ref a := rfl
theorem rf_n : va_rf none = .null := rfl
theorem fit_i {x : Int32} : fitv .int (.int x) = True := eq_true ⟨rfl, rfl⟩
theorem fit_r {C : String} {a : Nat} : fitv (.object C) (.ref a) = True := eq_true ⟨rfl, rfl⟩
theorem fit_a {t : FieldType} {a : Nat} : fitv (.array t) (.ref a) = True := eq_true ⟨rfl, rfl⟩
theorem fit_b {b : Bool} : fitv .boolean (.int (bI b)) = True := eq_true (by cases b <;> exact ⟨rfl, rfl⟩)
theorem fit_b0 : fitv .boolean (.int 0) = True := eq_true ⟨rfl, rfl⟩
theorem fit_b1 : fitv .boolean (.int 1) = True := eq_true ⟨rfl, rfl⟩
theorem nar_b {b : Bool} : vp_nar .boolean (bI b) = bI b := by cases b <;> rfl
theorem bI_t : bI true = 1 := rfl
theorem bI_f : bI false = 0 := rfl
theorem bI_eq0 {b : Bool} : (bI b = 0) = (b = false) := by cases b <;> simp [bI]
theorem bI_01 (b : Bool) : bI b = 0 ∨ bI b = 1 := by cases b <;> simp [bI]
theorem lgc_eq {x y : Int64} : (lg_cmp x y = 0) = (x = y) := by
  unfold lg_cmp
  by_cases h1 : x > y
  · rw [if_pos h1]
    have : ¬ x = y := fun e => by rw [e] at h1; exact absurd h1 (Int64.lt_irrefl)
    simp [this]
  · rw [if_neg h1]
    by_cases h2 : x = y
    · rw [if_pos h2]; simp [h2]
    · rw [if_neg h2]; simp [h2]
theorem va_nx {X : Int32} : ¬ nI 1 = 0 := by decide
theorem V_up {n : Nat} (P : Nat → Prop) (h0 : P n) (hs : ∀ i, i < n → P (i + 1) → P i) : ∀ i, i ≤ n → P i := by
  have key : ∀ k i : Nat, i + k = n → P i := by
    intro k
    induction k with
    | zero =>
      intro i e
      have e1 : i = n := by omega
      rw [e1]; exact h0
    | succ k ih => exact fun i e => hs i (by omega) (ih (i + 1) (by omega))
  exact fun i hi => key (n - i) i (by omega)
theorem up_id {h : AH} {a : Nat} {e : va_E} (ha : h a = some e) : up h a e = h := by
  funext q
  by_cases n : q = a
  · rw [n, up_same, ha]
  · rw [up_ne n]
theorem updL_id {f : Nat → Int64} {k : Nat} {v : Int64} (e : f k = v) : vp_updL f k v = f := by
  funext q
  by_cases n : q = k
  · simp [vp_updL, n, e]
  · simp [vp_updL, n]
theorem upd_id {f : Nat → Int32} {k : Nat} {v : Int32} (e : f k = v) : upd f k v = f := by
  funext q
  by_cases n : q = k
  · simp [upd, n, e]
  · simp [upd, n]
def rt (v : Value) (h : AH) : Option Value → AH → Prop := fun v' h' => v' = some v ∧ h = h'
def rv (h : AH) : Option Value → AH → Prop := fun v' h' => v' = none ∧ h = h'
theorem bI_yes {P : Prop} [Decidable P] (h : P) : bI (decide P) = 1 := by rw [decide_eq_true h]; rfl
theorem bI_no {P : Prop} [Decidable P] (h : ¬ P) : bI (decide P) = 0 := by rw [decide_eq_false h]; rfl
theorem i0 : (0 : Int32).toInt = 0 := rfl
theorem i1 : (1 : Int32).toInt = 1 := rfl
theorem n0 : (0 : Int32) = nI 0 := rfl
theorem n1 : (1 : Int32) = nI 1 := rfl
theorem n2 : (2 : Int32) = nI 2 := rfl
theorem n5 : (5 : Int32) = nI 5 := rfl
theorem n7 : (7 : Int32) = nI 7 := rfl
theorem n8 : (8 : Int32) = nI 8 := rfl
theorem n12 : (12 : Int32) = nI 12 := rfl
theorem n48 : (48 : Int32) = nI 48 := rfl
theorem n40 : (40 : Int32) = nI 40 := rfl
theorem n100 : (100 : Int32) = nI 100 := rfl
/-- nI over sums, products: all numbers small -/
theorem c_ge0 (n : Nat) (hn : n < 2 ^ 31 := by omega) : (nI n < 0) = False := eq_false (nI_pos hn)
theorem c_le (a b : Nat) (ha : a < 2 ^ 31 := by omega) (hb : b < 2 ^ 31 := by omega) (h : a ≤ b := by omega) : (nI a ≤ nI b) = True := eq_true ((nI_leI ha hb).mpr h)
theorem c_nle (a b : Nat) (ha : a < 2 ^ 31 := by omega) (hb : b < 2 ^ 31 := by omega) (h : b < a := by omega) : (nI a ≤ nI b) = False := eq_false (fun q => by have := (nI_leI ha hb).mp q; omega)
theorem c_lt (a b : Nat) (ha : a < 2 ^ 31 := by omega) (hb : b < 2 ^ 31 := by omega) (h : a < b := by omega) : (nI a < nI b) = True := eq_true ((nI_ltI ha hb).mpr h)
theorem c_nlt (a b : Nat) (ha : a < 2 ^ 31 := by omega) (hb : b < 2 ^ 31 := by omega) (h : b ≤ a := by omega) : (nI a < nI b) = False := eq_false (fun q => by have := (nI_ltI ha hb).mp q; omega)
theorem c_in (a b : Nat) (hb : b < 2 ^ 31 := by omega) (h : a < b := by omega) : vp_in (nI a) b = True := eq_true (vp_in_nI h hb)
theorem c_cl (a : Nat) (ha : a < 2 ^ 31 := by omega) : (nI a).toNatClampNeg = a := nI_clamp ha
theorem c_eq (a b : Nat) (ha : a < 2 ^ 31 := by omega) (hb : b < 2 ^ 31 := by omega) : (nI a = nI b) = (a = b) := propext (nI_eq ha hb)
theorem c_rem (a d : Nat) (ha : a < 2 ^ 31 := by omega) (h0 : 0 < d := by omega) (hd : d < 2 ^ 31 := by omega) : nI a - nI a / nI d * nI d = nI (a % d) := pk_rem ha h0 hd
theorem c_div (a d : Nat) (ha : a < 2 ^ 31 := by omega) (h0 : 0 < d := by omega) (hd : d < 2 ^ 31 := by omega) : nI a / nI d = nI (a / d) := pk_div ha h0 hd
