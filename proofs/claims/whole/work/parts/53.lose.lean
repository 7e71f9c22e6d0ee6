/-! ===== lose ===== -/
/-- the first n places made holes where they are shut -/
def clP (σ : SG) (n : Nat) : SG := fun f p => if f = 4 ∧ p < n ∧ shM σ p = true then 0 else σ f p
def loS (σ : SG) (i : Nat) (b : Bool) : SG := if b = true then clP (su σ 9 i 1) (1920 * ng σ) else su σ 9 i 0
theorem clP_row {σ : SG} {n f : Nat} (h : f ≠ 4) : clP σ n f = σ f := by
  funext p
  unfold clP
  rw [if_neg (fun z => h z.1)]
theorem clP_0 {σ : SG} : clP σ 0 = σ := by
  funext f p
  unfold clP
  rw [if_neg (fun z => by omega)]
theorem clP_sh {σ : SG} {n p : Nat} : shM (clP σ n) p = shM σ p := sh_row (clP_row (by omega)) p
theorem clP_s1 {σ : SG} {n : Nat} (h : shM σ n = true) : su (clP σ n) 4 n 0 = clP σ (n + 1) := by
  funext f p
  unfold su clP
  by_cases e : f = 4 ∧ p = n
  · obtain ⟨rfl, rfl⟩ := e
    rw [if_pos ⟨rfl, rfl⟩, if_pos ⟨rfl, by omega, h⟩]
  · rw [if_neg e]
    have e2 : (f = 4 ∧ p < n + 1 ∧ shM σ p = true) ↔ (f = 4 ∧ p < n ∧ shM σ p = true) := by
      constructor
      · rintro ⟨z1, z2, z3⟩; exact ⟨z1, by omega, z3⟩
      · rintro ⟨z1, z2, z3⟩; exact ⟨z1, by omega, z3⟩
    simp only [e2]
theorem clP_s0 {σ : SG} {n : Nat} (h : ¬ shM σ n = true) : clP σ n = clP σ (n + 1) := by
  funext f p
  unfold clP
  have e2 : (f = 4 ∧ p < n + 1 ∧ shM σ p = true) ↔ (f = 4 ∧ p < n ∧ shM σ p = true) := by
    constructor
    · rintro ⟨z1, z2, z3⟩
      refine ⟨z1, ?_, z3⟩
      have : p ≠ n := fun z => h (by rw [← z]; exact z3)
      omega
    · rintro ⟨z1, z2, z3⟩; exact ⟨z1, by omega, z3⟩
  simp only [e2]
theorem clP_cel {σ : SG} {n p : Nat} : cel (clP σ n) p = if p < n ∧ shM σ p = true then none else cel σ p := by
  have e : clP σ n 4 p = if p < n ∧ shM σ p = true then 0 else σ 4 p := by
    unfold clP
    by_cases q : p < n ∧ shM σ p = true
    · rw [if_pos ⟨rfl, q⟩, if_pos q]
    · rw [if_neg (fun z => q z.2), if_neg q]
  unfold cel
  rw [e, clP_row (by omega)]
  by_cases q : p < n ∧ shM σ p = true
  · rw [if_pos q, if_pos q, if_pos rfl]
  · rw [if_neg q, if_neg q]
theorem lo_GE9 {σ : SG} {i : Nat} {v : Int32} : GE σ (su σ 9 i v) := GE.q_su (by omega)
theorem clP_GE {σ : SG} {n : Nat} : GE σ (clP σ n) := fun f hf => clP_row (by omega)
theorem lo_GE {σ : SG} {i : Nat} {b : Bool} : GE σ (loS σ i b) := by
  unfold loS
  split
  · exact GE.q_tr lo_GE9 clP_GE
  · exact lo_GE9
theorem lo_row {σ : SG} {i : Nat} {b : Bool} {f : Nat} (h4 : f ≠ 4) (h9 : f ≠ 9) : loS σ i b f = σ f := by
  unfold loS
  split
  · rw [clP_row h4, su_ne h9]
  · rw [su_ne h9]
theorem lo_9 {σ : SG} {i : Nat} {b : Bool} : loS σ i b 9 = upd (σ 9) i (bI b) := by
  unfold loS
  cases b
  · rw [if_neg (by decide), su_row]; rfl
  · rw [if_pos rfl, clP_row (by omega), su_row]; rfl
theorem su_id {σ : SG} {f k : Nat} {v : Int32} (h : σ f k = v) : su σ f k v = σ := by
  funext f' k'
  unfold su
  split
  · rename_i e; rw [e.1, e.2, h]
  · rfl
theorem lo_same {σ : SG} (b : BI σ) (I : GI σ) {i : Nat} {c : Bool} (h : σ 9 i = bI c) : loS σ i c = σ := by
  have h8 := I.1.1
  unfold loS
  cases c
  · rw [if_neg (by decide)]; exact su_id h
  · rw [if_pos rfl, su_id (show σ 9 i = 1 from h)]
    funext f p
    unfold clP
    split
    · rename_i e
      obtain ⟨rfl, e1, e2⟩ := e
      exact (b.2.2.2.1 p (by omega) e2).symm
    · rfl
theorem sh_less {σ : SG} {i p : Nat} (h : shM (su σ 9 i 0) p = true) : shM σ p = true := by
  unfold shM at h ⊢
  simp only [Bool.and_eq_true, decide_eq_true_eq] at h ⊢
  obtain ⟨h1, h2⟩ := h
  refine ⟨fun z => h1 ?_, fun z => h2 ?_⟩
  · unfold su
    split
    · rfl
    · exact z
  · unfold su
    split
    · rfl
    · exact z
theorem lo_BI {σ : SG} (b : BI σ) {i : Nat} {c : Bool} : BI (loS σ i c) := by
  have E : GE σ (loS σ i c) := lo_GE
  have z4 : ∀ p, σ 4 p = 0 → loS σ i c 4 p = 0 := by
    intro p hp
    unfold loS
    split
    · unfold clP
      split
      · rfl
      · rw [su_ne (by omega)]; exact hp
    · rw [su_ne (by omega)]; exact hp
  obtain ⟨b1, b2, b3, b4, b5, b6⟩ := b
  refine ⟨fun f hf k => ?_, fun g hg => ?_, fun g hg => ?_, fun p hp hs => ?_, fun p hp hs => ?_, fun g q k hg hq hk hs => ?_⟩
  · by_cases f9 : f = 9
    · rw [f9, lo_9]
      unfold upd
      split
      · exact bI_01 c
      · exact b1 9 (by omega) k
    · by_cases f4 : f = 4
      · rw [f4]
        rcases b1 4 (by omega) k with z | z
        · exact Or.inl (z4 k z)
        · unfold loS
          split
          · unfold clP
            split
            · exact Or.inl rfl
            · rw [su_ne (by omega)]; exact Or.inr z
          · rw [su_ne (by omega)]; exact Or.inr z
      · rw [lo_row f4 f9]; exact b1 f hf k
  · rw [E.q_ng] at hg
    rw [E.q_nl, lo_row (by omega) (by omega)]
    exact b2 g hg
  · rw [E.q_ng] at hg
    rw [lo_row (by omega) (by omega)]
    exact b3 g hg
  · cases c
    · have e : loS σ i false = su σ 9 i 0 := rfl
      rw [e] at hs
      exact z4 p (b4 p hp (sh_less hs))
    · have e : loS σ i true = clP (su σ 9 i 1) (1920 * ng σ) := rfl
      rw [e, clP_sh] at hs
      by_cases q : p < 1920 * ng σ
      · rw [e]
        unfold clP
        rw [if_pos ⟨rfl, q, hs⟩]
      · exact z4 p (b5 p hp (Or.inl (by omega)))
  · rw [E.q_ng, E.q_nt 1 (by omega), E.q_nt 2 (by omega)] at hs
    exact z4 p (b5 p hp hs)
  · rw [E.q_ng] at hg
    rw [E.q_nl] at hq
    rw [E.q_nt 1 (by omega), E.q_nt 2 (by omega)] at hs
    rw [lo_row (by omega) (by omega)]
    exact b6 g q k hg hq hk hs
/-- the class's own loop, place by place -/
theorem bare_eq {lo : Nat → Int32} {w hh : Nat} {f : Nat → Int64} : ∀ x y, x < w → y < hh → (frd (fun F j => frd (fun F i => if shB lo (i / 8) (j / 8) then vp_updL F (j * w + i) HOLE else F) w F) hh f) (y * w + x) = if shB lo (x / 8) (y / 8) = true then HOLE else f (y * w + x) := by
  have key : ∀ j, ∀ x y, x < w → (frd (fun F j => frd (fun F i => if shB lo (i / 8) (j / 8) then vp_updL F (j * w + i) HOLE else F) w F) j f) (y * w + x) = if y < j ∧ shB lo (x / 8) (y / 8) = true then HOLE else f (y * w + x) := by
    intro j
    induction j with
    | zero => exact fun x y _ => by rw [if_neg (by omega)]; rfl
    | succ j a =>
      rw [frd_s]
      generalize frd (fun F j => frd (fun F i => if shB lo (i / 8) (j / 8) then vp_updL F (j * w + i) HOLE else F) w F) j f = S at a ⊢
      have key2 : ∀ i, i ≤ w → ∀ x y, x < w → (frd (fun F i => if shB lo (i / 8) (j / 8) then vp_updL F (j * w + i) HOLE else F) i S) (y * w + x) = if (y < j ∨ (y = j ∧ x < i)) ∧ shB lo (x / 8) (y / 8) = true then HOLE else f (y * w + x) := by
        intro i
        induction i with
        | zero =>
          refine fun _ x y hx => ?_
          show S _ = _
          rw [a x y hx]
          have e2 : ((y < j ∨ (y = j ∧ x < 0)) ∧ shB lo (x / 8) (y / 8) = true) ↔ (y < j ∧ shB lo (x / 8) (y / 8) = true) := by
            constructor
            · rintro ⟨z | z, z2⟩
              · exact ⟨z, z2⟩
              · omega
            · rintro ⟨z, z2⟩; exact ⟨Or.inl z, z2⟩
          simp only [e2]
        | succ i ih2 =>
          intro hi x y hx
          have c := ih2 (by omega)
          rw [frd_s]
          generalize frd (fun F i => if shB lo (i / 8) (j / 8) then vp_updL F (j * w + i) HOLE else F) i S = S9 at c ⊢
          by_cases e3 : y = j ∧ x = i
          · obtain ⟨rfl, rfl⟩ := e3
            by_cases s : shB lo (x / 8) (y / 8) = true
            · rw [if_pos s, if_pos ⟨Or.inr ⟨rfl, by omega⟩, s⟩]
              simp [vp_updL]
            · rw [if_neg s, c x y hx, if_neg (fun z => s z.2), if_neg (fun z => s z.2)]
          · have e2 : ((y < j ∨ (y = j ∧ x < i + 1)) ∧ shB lo (x / 8) (y / 8) = true) ↔ ((y < j ∨ (y = j ∧ x < i)) ∧ shB lo (x / 8) (y / 8) = true) := by
              constructor
              · rintro ⟨z, z2⟩; exact ⟨by omega, z2⟩
              · rintro ⟨z, z2⟩; exact ⟨by omega, z2⟩
            simp only [e2]
            by_cases s : shB lo (i / 8) (j / 8) = true
            · rw [if_pos s]
              have hne : ¬ y * w + x = j * w + i := fun z => e3 (by obtain ⟨z1, z2⟩ := idx_inj hx (by omega) z; exact ⟨z1, z2⟩)
              simp only [vp_updL, if_neg hne]
              exact c x y hx
            · rw [if_neg s]
              exact c x y hx
      intro x y hx
      rw [key2 w (Nat.le_refl _) x y hx]
      have e2 : ((y < j ∨ (y = j ∧ x < w)) ∧ shB lo (x / 8) (y / 8) = true) ↔ (y < j + 1 ∧ shB lo (x / 8) (y / 8) = true) := by
        constructor
        · rintro ⟨z, z2⟩; exact ⟨by omega, z2⟩
        · rintro ⟨z, z2⟩; exact ⟨by omega, z2⟩
      simp only [e2]
  intro x y hx hy
  rw [key hh x y hx]
  by_cases s : shB lo (x / 8) (y / 8) = true
  · rw [if_pos ⟨hy, s⟩, if_pos s]
  · rw [if_neg (fun z => s z.2), if_neg s]
def clR (lo : Nat → Int32) (w hh : Nat) (f : Nat → Int64) : Nat → Int64 := frd (fun F j => frd (fun F i => if shB lo (i / 8) (j / 8) then vp_updL F (j * w + i) HOLE else F) w F) hh f
/-- the rows of the first grids bared -/
def brR (σ : SG) (R : LF) (n : Nat) : LF := fun g q => if q = 0 ∧ g < n then clR (σ 9) (nt σ 1 g) (nt σ 2 g) (R g 0) else R g q
section
variable {l : Launch} {D : va_G} {Y : Nat → ClassId} {b0 : Nat} {h : AH} {MM : Nat → Prop} {σ : SG} {R : LF} {tt : TT} {A : AF} {T : TF}
theorem HR.ge (H : HR Y MM σ R tt A T h) {σ' : SG} (E : GE σ σ') (h9 : σ' 9 = σ 9) : HR Y MM σ' R tt A T h := fun k i j hl => by
  have hl := (E.q_lv k i j).mp hl
  obtain ⟨a, b, c⟩ := H k i j hl
  refine ⟨?_, b, c⟩
  rw [kx_GE (R := R) (tt := tt) E h9 (fun _ => rfl) (fun _ => rfl) (fun _ => rfl) (fun _ => rfl) (fun _ => rfl)]
  exact a
theorem k_lose_x (H : HR Y MM σ R tt A T h) {x : Int32} (hx : ¬ okN 0 4 x) (y : Int32) : Ct l D Y b0 mX5_lose 10 12 4000 [.ref (A 0 0 0), .int x, .int y] h noQ (tX xIOB h) := by
  refine Ct_of "GridStore" false rfl (by decide +kernel) (fun z => by cases z) (Nat.le_of_ble_eq_true rfl) ?_
  intro p e s mI args below meth c Z C hno hZ
  have thr : ∀ ls9, V p l e s mI args below meth c D b0 10 12 4000 Z 0 0 9 (ls9) ([]) (h) := by
    intro ls9
    exact V_throw C hZ hno t_X5_71 d_X5_lose_9 d_X5_lose_12 d_X5_lose_13 d_X5_lose_16 (Nat.le_of_ble_eq_true rfl) ⟨(Nat.le_of_ble_eq_true rfl), (Nat.le_of_ble_eq_true rfl)⟩ (Nat.le_of_ble_eq_true rfl) ⟨rfl, rfl⟩
  refine V_run C b_X5_lose_0 ?_
  simp only [k_X5_lose_0, r_nil, r_iconst, r_bipush, r_sipush, r_ldc, r_lconst0, r_lconst1, r_ldc2, r_null, r_iload_n, r_iload, r_lload_n, r_lload, r_aload_n, r_aload, r_istore_n, r_istore, r_lstore_n, r_lstore, r_astore_nR, r_astoreR, r_astore_nN, r_astoreN, r_iinc, r_iadd, r_isub, r_imul, r_iand, r_idiv, r_irem, r_ineg, r_ladd, r_lsub, r_lmul, r_lxor, r_ldiv, r_lcmp, r_i2l, r_l2i, r_dup, r_pop, r_dup2, r_ifeq, r_ifne, r_iflt, r_ifge, r_ifgt, r_ifle, r_icmpeq, r_icmpne, r_icmplt, r_icmpge, r_icmpgt, r_icmple, r_acmpne, r_ifnullN, r_ifnullR, r_ifnonnullN, r_ifnonnullR, r_goto, r_getf, r_putf, r_alen, r_iald, r_bald, r_lald, r_aald, r_iast, r_bast, r_last, r_aast, gl_c, s1_d, s2_d, ins_n, ins_c, rm1_n, rm1_c, rm2_n, rm2_c, cat_i, cat_l, cat_r, cat_n, oI_t, oJ_t, oA_t, oA_u, oV_t, mO_s, aI_s, aJ_s, aQ_s, mL_0, mL_1, mL_2, mL_3, mL_4, nth_0, nth_s, rf_s, rf_n, fit_i, fit_r, fit_a, fit_b, fit_b0, fit_b1, Option.toList_some, Option.toList_none, List.cons_append, List.nil_append, List.set_cons_zero, List.set_cons_succ, List.length_cons, List.length_nil, Nat.reduceAdd, Nat.reduceEqDiff, Nat.reduceLT, reduceIte, false_implies, true_implies, not_false_eq_true, not_true_eq_false, true_and, and_true, Nat.zero_add, lv_args, nI_1, Bool.false_eq_true, eq_self]
  refine ⟨fun _ => thr _, fun c1 => ⟨fun c2 => ?_, fun _ => thr _⟩⟩
  exfalso
  apply hx
  have t5 : (5 : Int32).toInt = 5 := rfl
  simp only [Int32.lt_iff_toInt_lt, Int32.le_iff_toInt_le, i0, t5] at c1 c2
  exact ⟨x.toInt.toNat, toI x _ (by omega) (by omega), by omega, by omega⟩
theorem k_lose (H : HR Y MM σ R tt A T h) (I : GI σ) (S : CS σ R) (b : BI σ) {i : Nat} (hi : i < 5) (c9 : Bool) : Ct l D Y b0 mX5_lose 10 12 4000 [.ref (A 0 0 0), .int (nI i), .int (bI c9)] h (sq Y MM (A 0 0 0) (loS σ i c9) h (.int (bI (decide (¬ σ 9 i = bI c9))))) noX := by
  refine Ct_of "GridStore" false rfl (by decide +kernel) (fun z => by cases z) (Nat.le_of_ble_eq_true rfl) ?_
  intro p e s mI args below meth c Z C hno hZ
  have h8 := I.1.1
  have L2 : lv σ 2 0 0 := lv_0 (by omega)
  have E1 : GE σ (su σ 9 i (bI c9)) := lo_GE9
  have I1 : GI (su σ 9 i (bI c9)) := E1.q_GI I
  have hm2 : ∀ e, ∀ a, MM a → up h (A 2 0 0) e a = h a := fun e a ha => up_ne (fun z => (H 2 0 0 L2).2.2 (by rw [← z]; exact ha))
  have H1 : HR Y MM (su σ 9 i (bI c9)) R tt A T (up h (A 2 0 0) (eZ Y 5 (upd (σ 9) i (bI c9)))) := by
    have := H.set (σ' := su σ 9 i (bI c9)) (R' := R) (tt' := tt) L2 (fun k i j => E1.q_lv k i j) (fun k' i' j' hl' hn => kx_AG ⟨⟨by rw [E1.q_ng]; exact Nat.le_refl _, by rw [E1.q_nv]; exact Nat.le_refl _⟩, fun g _ => by rw [E1 1 (by omega), E1 2 (by omega)]; exact ⟨rfl, rfl⟩, fun n _ f z1 z2 => by rw [su_ne (by omega)]⟩ I (fun _ _ _ _ => rfl) ((E1.q_lv _ _ _).mp hl') rfl (fun _ => ⟨E1.q_ng, E1.q_nv⟩) (fun e => absurd (by
      rcases (E1.q_lv _ _ _).mp hl' with q | q | q | q
      · rw [e, q.2.1, q.2.2]
      · omega
      · omega
      · omega) hn) (fun _ => E1.q_ng) (fun _ => E1.q_nv) (fun _ => E1.q_nl _) (fun _ => rfl) (fun _ => rfl) (fun _ => by rw [E1 17 (by omega)]))
    have e : kx Y (su σ 9 i (bI c9)) R tt A 2 0 0 = eZ Y 5 (upd (σ 9) i (bI c9)) := by
      simp only [kx, reduceIte, Nat.reduceEqDiff]
      rw [su_row]
    rw [e] at this
    exact this
  refine V_run C b_X5_lose_0 ?_
  simp only [k_X5_lose_0, n5, (c_ge0 i), (c_lt i 5), r_nil, r_iconst, r_bipush, r_sipush, r_ldc, r_lconst0, r_lconst1, r_ldc2, r_null, r_iload_n, r_iload, r_lload_n, r_lload, r_aload_n, r_aload, r_istore_n, r_istore, r_lstore_n, r_lstore, r_astore_nR, r_astoreR, r_astore_nN, r_astoreN, r_iinc, r_iadd, r_isub, r_imul, r_iand, r_idiv, r_irem, r_ineg, r_ladd, r_lsub, r_lmul, r_lxor, r_ldiv, r_lcmp, r_i2l, r_l2i, r_dup, r_pop, r_dup2, r_ifeq, r_ifne, r_iflt, r_ifge, r_ifgt, r_ifle, r_icmpeq, r_icmpne, r_icmplt, r_icmpge, r_icmpgt, r_icmple, r_acmpne, r_ifnullN, r_ifnullR, r_ifnonnullN, r_ifnonnullR, r_goto, r_getf, r_putf, r_alen, r_iald, r_bald, r_lald, r_aald, r_iast, r_bast, r_last, r_aast, gl_c, s1_d, s2_d, ins_n, ins_c, rm1_n, rm1_c, rm2_n, rm2_c, cat_i, cat_l, cat_r, cat_n, oI_t, oJ_t, oA_t, oA_u, oV_t, mO_s, aI_s, aJ_s, aQ_s, mL_0, mL_1, mL_2, mL_3, mL_4, nth_0, nth_s, rf_s, rf_n, fit_i, fit_r, fit_a, fit_b, fit_b0, fit_b1, Option.toList_some, Option.toList_none, List.cons_append, List.nil_append, List.set_cons_zero, List.set_cons_succ, List.length_cons, List.length_nil, Nat.reduceAdd, Nat.reduceEqDiff, Nat.reduceLT, reduceIte, false_implies, true_implies, not_false_eq_true, not_true_eq_false, true_and, and_true, Nat.zero_add, lv_args, nI_1, Bool.false_eq_true, eq_self]
  refine V_run C b_X5_lose_17 ?_
  simp only [k_X5_lose_17, H.c0, r_nil, r_iconst, r_bipush, r_sipush, r_ldc, r_lconst0, r_lconst1, r_ldc2, r_null, r_iload_n, r_iload, r_lload_n, r_lload, r_aload_n, r_aload, r_istore_n, r_istore, r_lstore_n, r_lstore, r_astore_nR, r_astoreR, r_astore_nN, r_astoreN, r_iinc, r_iadd, r_isub, r_imul, r_iand, r_idiv, r_irem, r_ineg, r_ladd, r_lsub, r_lmul, r_lxor, r_ldiv, r_lcmp, r_i2l, r_l2i, r_dup, r_pop, r_dup2, r_ifeq, r_ifne, r_iflt, r_ifge, r_ifgt, r_ifle, r_icmpeq, r_icmpne, r_icmplt, r_icmpge, r_icmpgt, r_icmple, r_acmpne, r_ifnullN, r_ifnullR, r_ifnonnullN, r_ifnonnullR, r_goto, r_getf, r_putf, r_alen, r_iald, r_bald, r_lald, r_aald, r_iast, r_bast, r_last, r_aast, gl_c, s1_d, s2_d, ins_n, ins_c, rm1_n, rm1_c, rm2_n, rm2_c, cat_i, cat_l, cat_r, cat_n, oI_t, oJ_t, oA_t, oA_u, oV_t, mO_s, aI_s, aJ_s, aQ_s, mL_0, mL_1, mL_2, mL_3, mL_4, nth_0, nth_s, rf_s, rf_n, fit_i, fit_r, fit_a, fit_b, fit_b0, fit_b1, Option.toList_some, Option.toList_none, List.cons_append, List.nil_append, List.set_cons_zero, List.set_cons_succ, List.length_cons, List.length_nil, Nat.reduceAdd, Nat.reduceEqDiff, Nat.reduceLT, reduceIte, false_implies, true_implies, not_false_eq_true, not_true_eq_false, true_and, and_true, Nat.zero_add, lv_args, nI_1, Bool.false_eq_true, eq_self]
  refine V_callV C c_X5_148 d_X5_lose_23 (s_mark H.c1 H.c2 hi c9) rfl rfl (H.c1) rfl (Nat.le_of_ble_eq_true rfl) ⟨(Nat.le_of_ble_eq_true rfl), (Nat.le_of_ble_eq_true rfl)⟩ (Nat.le_of_ble_eq_true rfl) (fun _ _ z => z.elim) ?_
  rintro _ _ ⟨rfl, rfl⟩
  refine V_run C b_X5_lose_26 ?_
  simp only [k_X5_lose_26, bI_eq0, r_nil, r_iconst, r_bipush, r_sipush, r_ldc, r_lconst0, r_lconst1, r_ldc2, r_null, r_iload_n, r_iload, r_lload_n, r_lload, r_aload_n, r_aload, r_istore_n, r_istore, r_lstore_n, r_lstore, r_astore_nR, r_astoreR, r_astore_nN, r_astoreN, r_iinc, r_iadd, r_isub, r_imul, r_iand, r_idiv, r_irem, r_ineg, r_ladd, r_lsub, r_lmul, r_lxor, r_ldiv, r_lcmp, r_i2l, r_l2i, r_dup, r_pop, r_dup2, r_ifeq, r_ifne, r_iflt, r_ifge, r_ifgt, r_ifle, r_icmpeq, r_icmpne, r_icmplt, r_icmpge, r_icmpgt, r_icmple, r_acmpne, r_ifnullN, r_ifnullR, r_ifnonnullN, r_ifnonnullR, r_goto, r_getf, r_putf, r_alen, r_iald, r_bald, r_lald, r_aald, r_iast, r_bast, r_last, r_aast, gl_c, s1_d, s2_d, ins_n, ins_c, rm1_n, rm1_c, rm2_n, rm2_c, cat_i, cat_l, cat_r, cat_n, oI_t, oJ_t, oA_t, oA_u, oV_t, mO_s, aI_s, aJ_s, aQ_s, mL_0, mL_1, mL_2, mL_3, mL_4, nth_0, nth_s, rf_s, rf_n, fit_i, fit_r, fit_a, fit_b, fit_b0, fit_b1, Option.toList_some, Option.toList_none, List.cons_append, List.nil_append, List.set_cons_zero, List.set_cons_succ, List.length_cons, List.length_nil, Nat.reduceAdd, Nat.reduceEqDiff, Nat.reduceLT, reduceIte, false_implies, true_implies, not_false_eq_true, not_true_eq_false, true_and, and_true, Nat.zero_add, lv_args, nI_1, Bool.false_eq_true, eq_self]
  refine ⟨fun c1 => ?_, fun c1 => ⟨fun c2 => ?_, fun c2 => ?_⟩⟩
  · have e1 : σ 9 i = bI c9 := by simpa using c1
    refine V_run C b_X5_lose_77 ?_
    simp only [k_X5_lose_77, r_nil, r_iconst, r_bipush, r_sipush, r_ldc, r_lconst0, r_lconst1, r_ldc2, r_null, r_iload_n, r_iload, r_lload_n, r_lload, r_aload_n, r_aload, r_istore_n, r_istore, r_lstore_n, r_lstore, r_astore_nR, r_astoreR, r_astore_nN, r_astoreN, r_iinc, r_iadd, r_isub, r_imul, r_iand, r_idiv, r_irem, r_ineg, r_ladd, r_lsub, r_lmul, r_lxor, r_ldiv, r_lcmp, r_i2l, r_l2i, r_dup, r_pop, r_dup2, r_ifeq, r_ifne, r_iflt, r_ifge, r_ifgt, r_ifle, r_icmpeq, r_icmpne, r_icmplt, r_icmpge, r_icmpgt, r_icmple, r_acmpne, r_ifnullN, r_ifnullR, r_ifnonnullN, r_ifnonnullR, r_goto, r_getf, r_putf, r_alen, r_iald, r_bald, r_lald, r_aald, r_iast, r_bast, r_last, r_aast, gl_c, s1_d, s2_d, ins_n, ins_c, rm1_n, rm1_c, rm2_n, rm2_c, cat_i, cat_l, cat_r, cat_n, oI_t, oJ_t, oA_t, oA_u, oV_t, mO_s, aI_s, aJ_s, aQ_s, mL_0, mL_1, mL_2, mL_3, mL_4, nth_0, nth_s, rf_s, rf_n, fit_i, fit_r, fit_a, fit_b, fit_b0, fit_b1, Option.toList_some, Option.toList_none, List.cons_append, List.nil_append, List.set_cons_zero, List.set_cons_succ, List.length_cons, List.length_nil, Nat.reduceAdd, Nat.reduceEqDiff, Nat.reduceLT, reduceIte, false_implies, true_implies, not_false_eq_true, not_true_eq_false, true_and, and_true, Nat.zero_add, lv_args, nI_1, Bool.false_eq_true, eq_self]
    refine V_zret C hZ rfl d_X5_lose_78 (bI_01 _) ⟨rfl, ?_⟩ ⟨(Nat.le_of_ble_eq_true rfl), (Nat.le_of_ble_eq_true rfl)⟩
    rw [lo_same b I e1, upd_id e1, up_id H.c2]
    exact SX.same H S
  · subst c2
    refine V_run C b_X5_lose_77 ?_
    simp only [k_X5_lose_77, r_nil, r_iconst, r_bipush, r_sipush, r_ldc, r_lconst0, r_lconst1, r_ldc2, r_null, r_iload_n, r_iload, r_lload_n, r_lload, r_aload_n, r_aload, r_istore_n, r_istore, r_lstore_n, r_lstore, r_astore_nR, r_astoreR, r_astore_nN, r_astoreN, r_iinc, r_iadd, r_isub, r_imul, r_iand, r_idiv, r_irem, r_ineg, r_ladd, r_lsub, r_lmul, r_lxor, r_ldiv, r_lcmp, r_i2l, r_l2i, r_dup, r_pop, r_dup2, r_ifeq, r_ifne, r_iflt, r_ifge, r_ifgt, r_ifle, r_icmpeq, r_icmpne, r_icmplt, r_icmpge, r_icmpgt, r_icmple, r_acmpne, r_ifnullN, r_ifnullR, r_ifnonnullN, r_ifnonnullR, r_goto, r_getf, r_putf, r_alen, r_iald, r_bald, r_lald, r_aald, r_iast, r_bast, r_last, r_aast, gl_c, s1_d, s2_d, ins_n, ins_c, rm1_n, rm1_c, rm2_n, rm2_c, cat_i, cat_l, cat_r, cat_n, oI_t, oJ_t, oA_t, oA_u, oV_t, mO_s, aI_s, aJ_s, aQ_s, mL_0, mL_1, mL_2, mL_3, mL_4, nth_0, nth_s, rf_s, rf_n, fit_i, fit_r, fit_a, fit_b, fit_b0, fit_b1, Option.toList_some, Option.toList_none, List.cons_append, List.nil_append, List.set_cons_zero, List.set_cons_succ, List.length_cons, List.length_nil, Nat.reduceAdd, Nat.reduceEqDiff, Nat.reduceLT, reduceIte, false_implies, true_implies, not_false_eq_true, not_true_eq_false, true_and, and_true, Nat.zero_add, lv_args, nI_1, Bool.false_eq_true, eq_self]
    refine V_zret C hZ rfl d_X5_lose_78 (bI_01 _) ⟨rfl, R, tt, A, T, ⟨H1, ?_, rfl⟩, fun a ha => hm2 _ a ha⟩ ⟨(Nat.le_of_ble_eq_true rfl), (Nat.le_of_ble_eq_true rfl)⟩
    refine ⟨fun g x y hg hx hy => ?_, fun g q x y hg hq hx hy => ?_⟩
    · rw [lo_GE.q_ng] at hg
      rw [lo_GE.q_nt 1 (by omega)] at hx ⊢
      rw [lo_GE.q_nt 2 (by omega)] at hy
      rw [S.1 g x y hg hx hy]
      rfl
    · rw [lo_GE.q_ng] at hg
      rw [lo_GE.q_nl] at hq
      rw [lo_GE.q_nt 1 (by omega)] at hx ⊢
      rw [lo_GE.q_nt 2 (by omega)] at hy
      rw [S.2 g q x y hg hq hx hy]
      rfl
  · have c3 := bt c2
    subst c3
    have hng1 : ng (su σ 9 i (bI true)) = ng σ := E1.q_ng
    refine V_up (n := 8) (fun g => ∀ h', HR Y MM (su σ 9 i (bI true)) (brR (su σ 9 i (bI true)) R g) tt A T h' → (∀ a, MM a → h' a = h a) → V p l e s mI args below meth c D b0 10 12 4000 Z 0 0 38 ([(0, .ref (A 0 0 0)), (1, .int (nI i)), (2, .int (bI true)), (3, .int (bI (decide (¬ σ 9 i = bI true)))), (4, .int (nI g))]) ([]) (h')) ?_ ?_ 0 (Nat.zero_le _) _ (by
      have e : brR (su σ 9 i (bI true)) R 0 = R := by
        funext g q
        unfold brR
        rw [if_neg (by omega)]
      rw [e]
      exact H1) (fun a ha => hm2 _ a ha)
    · intro h' H' M'
      refine V_run C b_X5_lose_38 ?_
      simp only [k_X5_lose_38, H'.c0, H'.c6, (c_le 8 8), r_nil, r_iconst, r_bipush, r_sipush, r_ldc, r_lconst0, r_lconst1, r_ldc2, r_null, r_iload_n, r_iload, r_lload_n, r_lload, r_aload_n, r_aload, r_istore_n, r_istore, r_lstore_n, r_lstore, r_astore_nR, r_astoreR, r_astore_nN, r_astoreN, r_iinc, r_iadd, r_isub, r_imul, r_iand, r_idiv, r_irem, r_ineg, r_ladd, r_lsub, r_lmul, r_lxor, r_ldiv, r_lcmp, r_i2l, r_l2i, r_dup, r_pop, r_dup2, r_ifeq, r_ifne, r_iflt, r_ifge, r_ifgt, r_ifle, r_icmpeq, r_icmpne, r_icmplt, r_icmpge, r_icmpgt, r_icmple, r_acmpne, r_ifnullN, r_ifnullR, r_ifnonnullN, r_ifnonnullR, r_goto, r_getf, r_putf, r_alen, r_iald, r_bald, r_lald, r_aald, r_iast, r_bast, r_last, r_aast, gl_c, s1_d, s2_d, ins_n, ins_c, rm1_n, rm1_c, rm2_n, rm2_c, cat_i, cat_l, cat_r, cat_n, oI_t, oJ_t, oA_t, oA_u, oV_t, mO_s, aI_s, aJ_s, aQ_s, mL_0, mL_1, mL_2, mL_3, mL_4, nth_0, nth_s, rf_s, rf_n, fit_i, fit_r, fit_a, fit_b, fit_b0, fit_b1, Option.toList_some, Option.toList_none, List.cons_append, List.nil_append, List.set_cons_zero, List.set_cons_succ, List.length_cons, List.length_nil, Nat.reduceAdd, Nat.reduceEqDiff, Nat.reduceLT, reduceIte, false_implies, true_implies, not_false_eq_true, not_true_eq_false, true_and, and_true, Nat.zero_add, lv_args, nI_1, Bool.false_eq_true, eq_self]
      refine V_run C b_X5_lose_77 ?_
      simp only [k_X5_lose_77, r_nil, r_iconst, r_bipush, r_sipush, r_ldc, r_lconst0, r_lconst1, r_ldc2, r_null, r_iload_n, r_iload, r_lload_n, r_lload, r_aload_n, r_aload, r_istore_n, r_istore, r_lstore_n, r_lstore, r_astore_nR, r_astoreR, r_astore_nN, r_astoreN, r_iinc, r_iadd, r_isub, r_imul, r_iand, r_idiv, r_irem, r_ineg, r_ladd, r_lsub, r_lmul, r_lxor, r_ldiv, r_lcmp, r_i2l, r_l2i, r_dup, r_pop, r_dup2, r_ifeq, r_ifne, r_iflt, r_ifge, r_ifgt, r_ifle, r_icmpeq, r_icmpne, r_icmplt, r_icmpge, r_icmpgt, r_icmple, r_acmpne, r_ifnullN, r_ifnullR, r_ifnonnullN, r_ifnonnullR, r_goto, r_getf, r_putf, r_alen, r_iald, r_bald, r_lald, r_aald, r_iast, r_bast, r_last, r_aast, gl_c, s1_d, s2_d, ins_n, ins_c, rm1_n, rm1_c, rm2_n, rm2_c, cat_i, cat_l, cat_r, cat_n, oI_t, oJ_t, oA_t, oA_u, oV_t, mO_s, aI_s, aJ_s, aQ_s, mL_0, mL_1, mL_2, mL_3, mL_4, nth_0, nth_s, rf_s, rf_n, fit_i, fit_r, fit_a, fit_b, fit_b0, fit_b1, Option.toList_some, Option.toList_none, List.cons_append, List.nil_append, List.set_cons_zero, List.set_cons_succ, List.length_cons, List.length_nil, Nat.reduceAdd, Nat.reduceEqDiff, Nat.reduceLT, reduceIte, false_implies, true_implies, not_false_eq_true, not_true_eq_false, true_and, and_true, Nat.zero_add, lv_args, nI_1, Bool.false_eq_true, eq_self]
      have E2 : GE (su σ 9 i (bI true)) (loS σ i true) := clP_GE
      have e9r : loS σ i true 9 = su σ 9 i (bI true) 9 := by rw [lo_9, su_row]
      refine V_zret C hZ rfl d_X5_lose_78 (bI_01 _) ⟨rfl, _, tt, A, T, ⟨H'.ge E2 e9r, ?_, rfl⟩, M'⟩ ⟨(Nat.le_of_ble_eq_true rfl), (Nat.le_of_ble_eq_true rfl)⟩
      refine ⟨fun g x y hg hx hy => ?_, fun g q x y hg hq hx hy => ?_⟩
      · rw [lo_GE.q_ng] at hg
        rw [lo_GE.q_nt 1 (by omega)] at hx ⊢
        rw [lo_GE.q_nt 2 (by omega)] at hy
        obtain ⟨w1, w2⟩ := I.b1 hg
        have e : brR (su σ 9 i (bI true)) R 8 g 0 = clR (su σ 9 i (bI true) 9) (nt σ 1 g) (nt σ 2 g) (R g 0) := by
          unfold brR
          rw [if_pos ⟨rfl, by omega⟩, E1.q_nt 1 (by omega), E1.q_nt 2 (by omega)]
        rw [e]
        unfold clR
        rw [bare_eq x y hx hy, shB_M (g := g) (by omega) (by omega)]
        have e3 : cel (loS σ i true) (1920 * g + 48 * y + x) = if 1920 * g + 48 * y + x < 1920 * ng σ ∧ shM (su σ 9 i 1) (1920 * g + 48 * y + x) = true then none else cel (su σ 9 i 1) (1920 * g + 48 * y + x) := clP_cel
        rw [e3]
        by_cases s : shM (su σ 9 i (bI true)) (1920 * g + 48 * y + x) = true
        · rw [if_pos s, if_pos ⟨by omega, s⟩]
          rfl
        · rw [if_neg s, if_neg (fun z => s z.2), S.1 g x y hg hx hy]
          rfl
      · rw [lo_GE.q_ng] at hg
        rw [lo_GE.q_nl] at hq
        rw [lo_GE.q_nt 1 (by omega)] at hx ⊢
        rw [lo_GE.q_nt 2 (by omega)] at hy
        have e : brR (su σ 9 i (bI true)) R 8 g (q + 1) = R g (q + 1) := by
          unfold brR
          rw [if_neg (by omega)]
        rw [e, S.2 g q x y hg hq hx hy]
        unfold lyr
        rw [lo_row (by omega) (by omega), lo_row (by omega) (by omega)]
    · intro g hg8 ih h' H' M'
      by_cases hg : g < ng σ
      · have hg1 : g < ng (su σ 9 i (bI true)) := by rw [hng1]; exact hg
        have e1 : (if g < ng (su σ 9 i (bI true)) then some (A 8 g 0) else none) = some (A 8 g 0) := if_pos hg1
        refine V_run C b_X5_lose_38 ?_
        simp only [k_X5_lose_38, H'.c0, H'.c6, (c_nle 8 g), (c_in g 8), (c_cl g), e1, (H'.c8 hg1), r_nil, r_iconst, r_bipush, r_sipush, r_ldc, r_lconst0, r_lconst1, r_ldc2, r_null, r_iload_n, r_iload, r_lload_n, r_lload, r_aload_n, r_aload, r_istore_n, r_istore, r_lstore_n, r_lstore, r_astore_nR, r_astoreR, r_astore_nN, r_astoreN, r_iinc, r_iadd, r_isub, r_imul, r_iand, r_idiv, r_irem, r_ineg, r_ladd, r_lsub, r_lmul, r_lxor, r_ldiv, r_lcmp, r_i2l, r_l2i, r_dup, r_pop, r_dup2, r_ifeq, r_ifne, r_iflt, r_ifge, r_ifgt, r_ifle, r_icmpeq, r_icmpne, r_icmplt, r_icmpge, r_icmpgt, r_icmple, r_acmpne, r_ifnullN, r_ifnullR, r_ifnonnullN, r_ifnonnullR, r_goto, r_getf, r_putf, r_alen, r_iald, r_bald, r_lald, r_aald, r_iast, r_bast, r_last, r_aast, gl_c, s1_d, s2_d, ins_n, ins_c, rm1_n, rm1_c, rm2_n, rm2_c, cat_i, cat_l, cat_r, cat_n, oI_t, oJ_t, oA_t, oA_u, oV_t, mO_s, aI_s, aJ_s, aQ_s, mL_0, mL_1, mL_2, mL_3, mL_4, nth_0, nth_s, rf_s, rf_n, fit_i, fit_r, fit_a, fit_b, fit_b0, fit_b1, Option.toList_some, Option.toList_none, List.cons_append, List.nil_append, List.set_cons_zero, List.set_cons_succ, List.length_cons, List.length_nil, Nat.reduceAdd, Nat.reduceEqDiff, Nat.reduceLT, reduceIte, false_implies, true_implies, not_false_eq_true, not_true_eq_false, true_and, and_true, Nat.zero_add, lv_args, nI_1, Bool.false_eq_true, eq_self]
        refine V_callV C c_X5_156 d_X5_lose_68 (s_bareLost (H'.G I1 hg1)) rfl rfl (H'.c9 hg1) rfl (Nat.le_of_ble_eq_true rfl) ⟨(Nat.le_of_ble_eq_true rfl), (Nat.le_of_ble_eq_true rfl)⟩ (Nat.le_of_ble_eq_true rfl) (fun _ _ z => z.elim) ?_
        rintro _ _ ⟨rfl, rfl⟩
        refine V_run C b_X5_lose_71 ?_
        simp only [k_X5_lose_71, r_nil, r_iconst, r_bipush, r_sipush, r_ldc, r_lconst0, r_lconst1, r_ldc2, r_null, r_iload_n, r_iload, r_lload_n, r_lload, r_aload_n, r_aload, r_istore_n, r_istore, r_lstore_n, r_lstore, r_astore_nR, r_astoreR, r_astore_nN, r_astoreN, r_iinc, r_iadd, r_isub, r_imul, r_iand, r_idiv, r_irem, r_ineg, r_ladd, r_lsub, r_lmul, r_lxor, r_ldiv, r_lcmp, r_i2l, r_l2i, r_dup, r_pop, r_dup2, r_ifeq, r_ifne, r_iflt, r_ifge, r_ifgt, r_ifle, r_icmpeq, r_icmpne, r_icmplt, r_icmpge, r_icmpgt, r_icmple, r_acmpne, r_ifnullN, r_ifnullR, r_ifnonnullN, r_ifnonnullR, r_goto, r_getf, r_putf, r_alen, r_iald, r_bald, r_lald, r_aald, r_iast, r_bast, r_last, r_aast, gl_c, s1_d, s2_d, ins_n, ins_c, rm1_n, rm1_c, rm2_n, rm2_c, cat_i, cat_l, cat_r, cat_n, oI_t, oJ_t, oA_t, oA_u, oV_t, mO_s, aI_s, aJ_s, aQ_s, mL_0, mL_1, mL_2, mL_3, mL_4, nth_0, nth_s, rf_s, rf_n, fit_i, fit_r, fit_a, fit_b, fit_b0, fit_b1, Option.toList_some, Option.toList_none, List.cons_append, List.nil_append, List.set_cons_zero, List.set_cons_succ, List.length_cons, List.length_nil, Nat.reduceAdd, Nat.reduceEqDiff, Nat.reduceLT, reduceIte, false_implies, true_implies, not_false_eq_true, not_true_eq_false, true_and, and_true, Nat.zero_add, lv_args, nI_1, Bool.false_eq_true, eq_self]
        refine ih _ ?_ (fun a ha => by rw [up_ne (fun z => (H' 11 g 0 (lv_g (by omega) (by omega) hg1)).2.2 (by rw [← z]; exact ha))]; exact M' a ha)
        have H2 := H'.setR GE.q_rfl rfl hg1 (clR (su σ 9 i (bI true) 9) (nt (su σ 9 i (bI true)) 1 g) (nt (su σ 9 i (bI true)) 2 g) (brR (su σ 9 i (bI true)) R g g 0))
        have e2 : upR (brR (su σ 9 i (bI true)) R g) g 0 (clR (su σ 9 i (bI true) 9) (nt (su σ 9 i (bI true)) 1 g) (nt (su σ 9 i (bI true)) 2 g) (brR (su σ 9 i (bI true)) R g g 0)) = brR (su σ 9 i (bI true)) R (g + 1) := by
          funext g' q'
          unfold upR
          by_cases z : g' = g ∧ q' = 0
          · obtain ⟨rfl, rfl⟩ := z
            rw [if_pos ⟨rfl, rfl⟩]
            unfold brR
            rw [if_neg (fun z => by omega), if_pos ⟨rfl, by omega⟩]
          · rw [if_neg z]
            unfold brR
            have e3 : (q' = 0 ∧ g' < g) ↔ (q' = 0 ∧ g' < g + 1) := by
              constructor
              · rintro ⟨z1, z2⟩; exact ⟨z1, by omega⟩
              · rintro ⟨z1, z2⟩; exact ⟨z1, by omega⟩
            simp only [e3]
        rw [e2] at H2
        exact H2
      · have hg1 : ¬ g < ng (su σ 9 i (bI true)) := by rw [hng1]; exact hg
        have e1 : (if g < ng (su σ 9 i (bI true)) then some (A 8 g 0) else none) = none := if_neg hg1
        refine V_run C b_X5_lose_38 ?_
        simp only [k_X5_lose_38, H'.c0, H'.c6, (c_nle 8 g), (c_in g 8), (c_cl g), e1, r_nil, r_iconst, r_bipush, r_sipush, r_ldc, r_lconst0, r_lconst1, r_ldc2, r_null, r_iload_n, r_iload, r_lload_n, r_lload, r_aload_n, r_aload, r_istore_n, r_istore, r_lstore_n, r_lstore, r_astore_nR, r_astoreR, r_astore_nN, r_astoreN, r_iinc, r_iadd, r_isub, r_imul, r_iand, r_idiv, r_irem, r_ineg, r_ladd, r_lsub, r_lmul, r_lxor, r_ldiv, r_lcmp, r_i2l, r_l2i, r_dup, r_pop, r_dup2, r_ifeq, r_ifne, r_iflt, r_ifge, r_ifgt, r_ifle, r_icmpeq, r_icmpne, r_icmplt, r_icmpge, r_icmpgt, r_icmple, r_acmpne, r_ifnullN, r_ifnullR, r_ifnonnullN, r_ifnonnullR, r_goto, r_getf, r_putf, r_alen, r_iald, r_bald, r_lald, r_aald, r_iast, r_bast, r_last, r_aast, gl_c, s1_d, s2_d, ins_n, ins_c, rm1_n, rm1_c, rm2_n, rm2_c, cat_i, cat_l, cat_r, cat_n, oI_t, oJ_t, oA_t, oA_u, oV_t, mO_s, aI_s, aJ_s, aQ_s, mL_0, mL_1, mL_2, mL_3, mL_4, nth_0, nth_s, rf_s, rf_n, fit_i, fit_r, fit_a, fit_b, fit_b0, fit_b1, Option.toList_some, Option.toList_none, List.cons_append, List.nil_append, List.set_cons_zero, List.set_cons_succ, List.length_cons, List.length_nil, Nat.reduceAdd, Nat.reduceEqDiff, Nat.reduceLT, reduceIte, false_implies, true_implies, not_false_eq_true, not_true_eq_false, true_and, and_true, Nat.zero_add, lv_args, nI_1, Bool.false_eq_true, eq_self]
        refine V_run C b_X5_lose_71 ?_
        simp only [k_X5_lose_71, r_nil, r_iconst, r_bipush, r_sipush, r_ldc, r_lconst0, r_lconst1, r_ldc2, r_null, r_iload_n, r_iload, r_lload_n, r_lload, r_aload_n, r_aload, r_istore_n, r_istore, r_lstore_n, r_lstore, r_astore_nR, r_astoreR, r_astore_nN, r_astoreN, r_iinc, r_iadd, r_isub, r_imul, r_iand, r_idiv, r_irem, r_ineg, r_ladd, r_lsub, r_lmul, r_lxor, r_ldiv, r_lcmp, r_i2l, r_l2i, r_dup, r_pop, r_dup2, r_ifeq, r_ifne, r_iflt, r_ifge, r_ifgt, r_ifle, r_icmpeq, r_icmpne, r_icmplt, r_icmpge, r_icmpgt, r_icmple, r_acmpne, r_ifnullN, r_ifnullR, r_ifnonnullN, r_ifnonnullR, r_goto, r_getf, r_putf, r_alen, r_iald, r_bald, r_lald, r_aald, r_iast, r_bast, r_last, r_aast, gl_c, s1_d, s2_d, ins_n, ins_c, rm1_n, rm1_c, rm2_n, rm2_c, cat_i, cat_l, cat_r, cat_n, oI_t, oJ_t, oA_t, oA_u, oV_t, mO_s, aI_s, aJ_s, aQ_s, mL_0, mL_1, mL_2, mL_3, mL_4, nth_0, nth_s, rf_s, rf_n, fit_i, fit_r, fit_a, fit_b, fit_b0, fit_b1, Option.toList_some, Option.toList_none, List.cons_append, List.nil_append, List.set_cons_zero, List.set_cons_succ, List.length_cons, List.length_nil, Nat.reduceAdd, Nat.reduceEqDiff, Nat.reduceLT, reduceIte, false_implies, true_implies, not_false_eq_true, not_true_eq_false, true_and, and_true, Nat.zero_add, lv_args, nI_1, Bool.false_eq_true, eq_self]
        refine ih _ ?_ M'
        intro k' i' j' hl
        obtain ⟨a, b, c⟩ := H' k' i' j' hl
        refine ⟨?_, b, c⟩
        have hr : ∀ q', i' < ng (su σ 9 i (bI true)) → brR (su σ 9 i (bI true)) R (g + 1) i' q' = brR (su σ 9 i (bI true)) R g i' q' := by
          intro q' hi'
          unfold brR
          have e3 : (q' = 0 ∧ i' < g + 1) ↔ (q' = 0 ∧ i' < g) := by
            constructor
            · rintro ⟨z1, z2⟩; exact ⟨z1, by omega⟩
            · rintro ⟨z1, z2⟩; exact ⟨z1, by omega⟩
          simp only [e3]
        rw [a, kx_GE (σ := su σ 9 i (bI true)) (R := brR (su σ 9 i (bI true)) R g) (tt := tt) GE.q_rfl rfl (fun _ => rfl) (fun _ => rfl) (fun _ => rfl) (fun e => hr 0 (lvg hl (by omega) (by omega))) (fun e => hr _ (lvg hl (by omega) (by omega)))]
end
