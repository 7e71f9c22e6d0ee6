/-! ===== back ===== -/
def opt (b : Bool) (v : Int32) : Option Int32 := if b = true then some v else none
theorem wrM_opt {σ : SG} {p : Nat} {b : Bool} {v : Int32} : wrM σ p b v = wrM σ p (isO (opt b v)) (vlO (opt b v)) := by
  cases b
  · rfl
  · rfl
theorem wdM_opt {σ : SG} {p : Nat} {b : Bool} {v : Int32} : wdM σ p b v = wdM σ p (isO (opt b v)) (vlO (opt b v)) := by
  cases b
  · rfl
  · rfl
theorem smF_0 {n : Nat} {f : Nat → Nat} (h : ∀ k, k < n → f k = 0) : smF n f = 0 := by
  induction n with
  | zero => rfl
  | succ n ih => rw [smF_s, ih (fun k hk => h k (by omega)), h n (by omega)]
theorem smF_add (n m : Nat) (f : Nat → Nat) : smF (n + m) f = smF n f + smF m (fun k => f (n + k)) := by
  induction m with
  | zero => rfl
  | succ m ih => rw [← Nat.add_assoc, smF_s, smF_s, ih]; omega
theorem smF_cut {n m : Nat} {f : Nat → Nat} (hm : m ≤ n) (h : ∀ k, m ≤ k → k < n → f k = 0) : smF n f = smF m f := by
  obtain ⟨d, rfl⟩ : ∃ d, n = m + d := ⟨n - m, by omega⟩
  rw [smF_add, smF_0 (fun k hk => h (m + k) (by omega) (by omega)), Nat.add_zero]
theorem smF_2 (a b : Nat) (f : Nat → Nat) : smF (a * b) f = smF b (fun y => smF a (fun x => f (a * y + x))) := by
  induction b with
  | zero => rfl
  | succ b ih => rw [Nat.mul_succ, smF_add, smF_s, ih]
theorem smF_le {n c : Nat} {f : Nat → Nat} (h : ∀ k, k < n → f k ≤ c) : smF n f ≤ n * c := by
  induction n with
  | zero => exact Nat.zero_le _
  | succ n ih =>
    have h1 := ih (fun k hk => h k (by omega))
    have h2 := h n (by omega)
    rw [smF_s, Nat.succ_mul]
    omega
/-- a grid's 48 times 40 places, where nothing lies outside it -/
theorem smF_grid {w hh : Nat} (hw : w ≤ 48) (hh2 : hh ≤ 40) {f : Nat → Nat} (h : ∀ x y, x < 48 → y < 40 → (w ≤ x ∨ hh ≤ y) → f (48 * y + x) = 0) : smF 1920 f = smF hh (fun y => smF w (fun x => f (48 * y + x))) := by
  have e : smF 1920 f = smF (48 * 40) f := rfl
  rw [e, smF_2, smF_cut hh2 (fun y h1 h2 => smF_0 (fun x hx => h x y hx h2 (Or.inr h1)))]
  exact smF_ext (fun y hy => smF_cut hw (fun x h1 h2 => h x y h2 (by omega) (Or.inl h1)))
theorem sh_row {σ σ' : SG} (e : σ' 9 = σ 9) (p : Nat) : shM σ' p = shM σ p := by unfold shM; rw [e]
theorem BI_wr0 {σ : SG} (b : BI σ) (p0 : Nat) : BI (wrM σ p0 (isO none) (vlO none)) := by
  have E : GE σ (wrM σ p0 (isO none) (vlO none)) := GE.q_wr
  have e9 : wrM σ p0 (isO none) (vlO none) 9 = σ 9 := wr_row (by omega) (by omega)
  have e7 : wrM σ p0 (isO none) (vlO none) 7 = σ 7 := wr_row (by omega) (by omega)
  have e8 : wrM σ p0 (isO none) (vlO none) 8 = σ 8 := wr_row (by omega) (by omega)
  have e4 : ∀ p, wrM σ p0 (isO none) (vlO none) 4 p = if shM σ p0 = true then σ 4 p else if p = p0 then 0 else σ 4 p := by
    intro p
    unfold wrM
    split
    · rfl
    · rw [su_ne (by omega)]; simp [su, isO, bI]
  have z4 : ∀ p, σ 4 p = 0 → wrM σ p0 (isO none) (vlO none) 4 p = 0 := by
    intro p hp
    rw [e4]
    split
    · exact hp
    · split
      · rfl
      · exact hp
  obtain ⟨b1, b2, b3, b4, b5, b6⟩ := b
  refine ⟨fun f hf k => ?_, fun g' hg' => ?_, fun g' hg' => ?_, fun p hp hs => ?_, fun p hp hs => ?_, fun g' q k hg' hq hk hs => ?_⟩
  · by_cases f4 : f = 4
    · subst f4
      rw [e4]
      split
      · exact b1 4 hf k
      · split
        · exact Or.inl rfl
        · exact b1 4 hf k
    · have : wrM σ p0 (isO none) (vlO none) f = σ f := by
        unfold wrM
        split
        · rfl
        · rw [su_ne (by omega), su_ne (by omega)]
      rw [this]
      exact b1 f hf k
  · rw [E.q_ng] at hg'
    rw [e8, E.q_nl]
    exact b2 g' hg'
  · rw [E.q_ng] at hg'
    rw [e8]
    exact b3 g' hg'
  · rw [sh_row e9] at hs
    exact z4 p (b4 p hp hs)
  · rw [E.q_ng, E.q_nt 1 (by omega), E.q_nt 2 (by omega)] at hs
    exact z4 p (b5 p hp hs)
  · rw [E.q_ng] at hg'
    rw [E.q_nl] at hq
    rw [E.q_nt 1 (by omega), E.q_nt 2 (by omega)] at hs
    rw [e7]
    exact b6 g' q k hg' hq hk hs
/-- a layer had back, place by place -/
def stB (g : Nat) (val : Nat → Option Int32) (S : SG × Nat) (k : Nat) : SG × Nat := (wrM S.1 (1920 * g + k) (isO (val k)) (vlO (val k)), S.2 + wdM S.1 (1920 * g + k) (isO (val k)) (vlO (val k)))
def baF (σ : SG) (g q n : Nat) : SG × Nat := frd (stB g (fun k => lyr σ (lyA g q k))) n (σ, 0)
section
variable {σ : SG} {g q : Nat}
theorem baF_s (n : Nat) : baF σ g q (n + 1) = stB g (fun k => lyr σ (lyA g q k)) (baF σ g q n) n := rfl
theorem ba_row {n f : Nat} (h3 : f ≠ 3) (h4 : f ≠ 4) : (baF σ g q n).1 f = σ f := by
  induction n with
  | zero => rfl
  | succ n ih => rw [baF_s]; exact (wr_row h3 h4).trans ih
theorem ba_far {n p : Nat} (hp : ¬ (1920 * g ≤ p ∧ p < 1920 * g + n)) : (baF σ g q n).1 3 p = σ 3 p ∧ (baF σ g q n).1 4 p = σ 4 p := by
  induction n with
  | zero => exact ⟨rfl, rfl⟩
  | succ n ih =>
    obtain ⟨a, b⟩ := ih (by omega)
    have hn : ¬ p = 1920 * g + n := by omega
    rw [baF_s]
    unfold stB wrM
    dsimp only
    split
    · exact ⟨a, b⟩
    · simp only [su, hn, and_false, if_false]
      exact ⟨by simpa [su] using a, by simpa [su] using b⟩
theorem ba_cel {n p : Nat} : cel (baF σ g q n).1 p = if 1920 * g ≤ p ∧ p < 1920 * g + n ∧ ¬ shM σ p = true then lyr σ (lyA g q (p - 1920 * g)) else cel σ p := by
  induction n with
  | zero => rw [if_neg (by omega)]; rfl
  | succ n ih =>
    rw [baF_s]
    unfold stB
    dsimp only
    rw [cel_wr, sh_row (ba_row (by omega) (by omega)), ih]
    by_cases e : p = 1920 * g + n
    · subst e
      by_cases s : shM σ (1920 * g + n) = true
      · rw [if_pos s, if_neg (by omega), if_neg (fun z => z.2.2 s)]
      · rw [if_neg s, if_pos rfl, if_pos ⟨by omega, by omega, s⟩, Nat.add_sub_cancel_left]
    · have e2 : (1920 * g ≤ p ∧ p < 1920 * g + (n + 1) ∧ ¬ shM σ p = true) ↔ (1920 * g ≤ p ∧ p < 1920 * g + n ∧ ¬ shM σ p = true) := by
        constructor
        · rintro ⟨z1, z2, z3⟩; exact ⟨z1, by omega, z3⟩
        · rintro ⟨z1, z2, z3⟩; exact ⟨z1, by omega, z3⟩
      rw [if_neg e, ite_self]
      simp only [e2]
theorem wdM_row {σ' : SG} {p : Nat} {b : Bool} {v : Int32} (e9 : σ' 9 = σ 9) (e3 : σ' 3 p = σ 3 p) (e4 : σ' 4 p = σ 4 p) : wdM σ' p b v = wdM σ p b v := by
  unfold wdM saM
  rw [sh_row e9, e3, e4]
theorem ba_cnt {n : Nat} : (baF σ g q n).2 = smF n (fun k => wdM σ (1920 * g + k) (isO (lyr σ (lyA g q k))) (vlO (lyr σ (lyA g q k)))) := by
  induction n with
  | zero => rfl
  | succ n ih =>
    rw [baF_s, smF_s]
    unfold stB
    dsimp only
    obtain ⟨a, b⟩ := ba_far (σ := σ) (g := g) (q := q) (n := n) (p := 1920 * g + n) (by omega)
    rw [ih, wdM_row (ba_row (by omega) (by omega)) a b]
theorem ba_BI (I : GI σ) (b : BI σ) (hg : g < ng σ) (hq : q < nl σ g) {n : Nat} (hn : n ≤ 1920) : BI (baF σ g q n).1 ∧ GE σ (baF σ g q n).1 := by
  induction n with
  | zero => exact ⟨b, GE.q_rfl⟩
  | succ n ih =>
    obtain ⟨a, E⟩ := ih (by omega)
    rw [baF_s]
    refine ⟨?_, GE.q_tr E GE.q_wr⟩
    unfold stB
    dsimp only
    by_cases c : n % 48 < nt σ 1 g ∧ n / 48 < nt σ 2 g
    · have e : 1920 * g + n = 1920 * g + 48 * (n / 48) + n % 48 := by omega
      rw [e]
      exact BI_wr a (by rw [E.q_ng]; exact hg) (by rw [E.q_nt 1 (by omega)]; exact c.1) (by rw [E.q_nt 2 (by omega)]; exact c.2) (E.q_GI I) _
    · have e : lyr σ (lyA g q n) = none := by
        unfold lyr
        rw [if_pos (b.2.2.2.2.2 g q n hg hq (by omega) (by omega))]
      rw [e]
      exact BI_wr0 a _
end
/-- the class's own loop, place by place -/
theorem allC_eq {lo : Nat → Int32} {w hh : Nat} {val : Nat → Nat → Int64} {f : Nat → Int64} : (∀ x y, x < w → y < hh → (allC lo w val hh f).1 (y * w + x) = if shB lo (x / 8) (y / 8) = true then f (y * w + x) else val x y) ∧ (allC lo w val hh f).2 = smF hh (fun y => smF w (fun x => wdC lo w f x y (val x y))) := by
  have key : ∀ j, (∀ x y, x < w → (allC lo w val j f).1 (y * w + x) = if y < j ∧ ¬ shB lo (x / 8) (y / 8) = true then val x y else f (y * w + x)) ∧ (allC lo w val j f).2 = smF j (fun y => smF w (fun x => wdC lo w f x y (val x y))) := by
    intro j
    induction j with
    | zero => exact ⟨fun x y _ => by rw [if_neg (by omega)]; rfl, rfl⟩
    | succ j ih =>
      obtain ⟨a, b⟩ := ih
      have e : allC lo w val (j + 1) f = frd (stC lo w val j) w (allC lo w val j f) := rfl
      rw [e]
      generalize allC lo w val j f = S at a b
      have key2 : ∀ i, i ≤ w → (∀ x y, x < w → (frd (stC lo w val j) i S).1 (y * w + x) = if (y < j ∨ (y = j ∧ x < i)) ∧ ¬ shB lo (x / 8) (y / 8) = true then val x y else f (y * w + x)) ∧ (frd (stC lo w val j) i S).2 = S.2 + smF i (fun x => wdC lo w f x j (val x j)) := by
        intro i
        induction i with
        | zero =>
          refine fun _ => ⟨fun x y hx => ?_, rfl⟩
          show S.1 _ = _
          rw [a x y hx]
          have e2 : ((y < j ∨ (y = j ∧ x < 0)) ∧ ¬ shB lo (x / 8) (y / 8) = true) ↔ (y < j ∧ ¬ shB lo (x / 8) (y / 8) = true) := by
            constructor
            · rintro ⟨z | z, z2⟩
              · exact ⟨z, z2⟩
              · omega
            · rintro ⟨z, z2⟩; exact ⟨Or.inl z, z2⟩
          simp only [e2]
        | succ i ih2 =>
          intro hi
          obtain ⟨c, d⟩ := ih2 (by omega)
          rw [frd_s]
          have old : (frd (stC lo w val j) i S).1 (j * w + i) = f (j * w + i) := by
            rw [c i j (by omega), if_neg (fun z => by omega)]
          generalize frd (stC lo w val j) i S = S9 at c d old ⊢
          refine ⟨fun x y hx => ?_, ?_⟩
          · unfold stC wrC
            dsimp only
            by_cases s : shB lo (i / 8) (j / 8) = true
            · rw [if_pos s, c x y hx]
              by_cases e3 : y = j ∧ x = i
              · obtain ⟨rfl, rfl⟩ := e3
                rw [if_neg (fun z => z.2 s), if_neg (fun z => z.2 s)]
              · have e2 : ((y < j ∨ (y = j ∧ x < i + 1)) ∧ ¬ shB lo (x / 8) (y / 8) = true) ↔ ((y < j ∨ (y = j ∧ x < i)) ∧ ¬ shB lo (x / 8) (y / 8) = true) := by
                  constructor
                  · rintro ⟨z, z2⟩; exact ⟨by omega, z2⟩
                  · rintro ⟨z, z2⟩; exact ⟨by omega, z2⟩
                simp only [e2]
            · rw [if_neg s]
              by_cases e3 : y = j ∧ x = i
              · obtain ⟨rfl, rfl⟩ := e3
                rw [if_pos ⟨Or.inr ⟨rfl, by omega⟩, s⟩]
                simp [vp_updL]
              · have hne : ¬ y * w + x = j * w + i := fun z => e3 (by obtain ⟨z1, z2⟩ := idx_inj hx (by omega) z; exact ⟨z1, z2⟩)
                simp only [vp_updL, if_neg hne]
                rw [c x y hx]
                have e2 : ((y < j ∨ (y = j ∧ x < i + 1)) ∧ ¬ shB lo (x / 8) (y / 8) = true) ↔ ((y < j ∨ (y = j ∧ x < i)) ∧ ¬ shB lo (x / 8) (y / 8) = true) := by
                  constructor
                  · rintro ⟨z, z2⟩; exact ⟨by omega, z2⟩
                  · rintro ⟨z, z2⟩; exact ⟨by omega, z2⟩
                simp only [e2]
          · unfold stC
            dsimp only
            rw [d, smF_s]
            have : wdC lo w S9.1 i j (val i j) = wdC lo w f i j (val i j) := by
              unfold wdC
              rw [old]
            rw [this]
            omega
      obtain ⟨c, d⟩ := key2 w (Nat.le_refl _)
      refine ⟨fun x y hx => ?_, ?_⟩
      · rw [c x y hx]
        have e2 : ((y < j ∨ (y = j ∧ x < w)) ∧ ¬ shB lo (x / 8) (y / 8) = true) ↔ (y < j + 1 ∧ ¬ shB lo (x / 8) (y / 8) = true) := by
          constructor
          · rintro ⟨z, z2⟩; exact ⟨by omega, z2⟩
          · rintro ⟨z, z2⟩; exact ⟨by omega, z2⟩
        simp only [e2]
      · rw [d, b, smF_s]
  obtain ⟨a, b⟩ := key hh
  refine ⟨fun x y hx hy => ?_, b⟩
  rw [a x y hx]
  by_cases s : shB lo (x / 8) (y / 8) = true
  · rw [if_pos s, if_neg (fun z => z.2 s)]
  · rw [if_neg s, if_pos ⟨hy, s⟩]
section
variable {l : Launch} {D : va_G} {Y : Nat → ClassId} {b0 : Nat} {h : AH} {MM : Nat → Prop} {σ : SG} {R : LF} {tt : TT} {A : AF} {T : TF}
theorem k_back_x (H : HR Y MM σ R tt A T h) (I : GI σ) {x : Int32} (hx : ¬ okG σ x) (y : Int32) : Ct l D Y b0 mX5_back 10 12 4000 [.ref (A 0 0 0), .int x, .int y] h noQ (tX xIOB h) := by
  refine Ct_of "GridStore" false rfl (by decide +kernel) (fun z => by cases z) (Nat.le_of_ble_eq_true rfl) ?_
  intro p e s mI args below meth c Z C hno hZ
  refine V_run C b_X5_back_0 ?_
  simp only [k_X5_back_0, r_nil, r_iconst, r_bipush, r_sipush, r_ldc, r_lconst0, r_lconst1, r_ldc2, r_null, r_iload_n, r_iload, r_lload_n, r_lload, r_aload_n, r_aload, r_istore_n, r_istore, r_lstore_n, r_lstore, r_astore_nR, r_astoreR, r_astore_nN, r_astoreN, r_iinc, r_iadd, r_isub, r_imul, r_iand, r_idiv, r_irem, r_ineg, r_ladd, r_lsub, r_lmul, r_lxor, r_ldiv, r_lcmp, r_i2l, r_l2i, r_dup, r_pop, r_dup2, r_ifeq, r_ifne, r_iflt, r_ifge, r_ifgt, r_ifle, r_icmpeq, r_icmpne, r_icmplt, r_icmpge, r_icmpgt, r_icmple, r_acmpne, r_ifnullN, r_ifnullR, r_ifnonnullN, r_ifnonnullR, r_goto, r_getf, r_putf, r_alen, r_iald, r_bald, r_lald, r_aald, r_iast, r_bast, r_last, r_aast, gl_c, s1_d, s2_d, ins_n, ins_c, rm1_n, rm1_c, rm2_n, rm2_c, cat_i, cat_l, cat_r, cat_n, oI_t, oJ_t, oA_t, oA_u, oV_t, mO_s, aI_s, aJ_s, aQ_s, mL_0, mL_1, mL_2, mL_3, mL_4, nth_0, nth_s, rf_s, rf_n, fit_i, fit_r, fit_a, fit_b, fit_b0, fit_b1, Option.toList_some, Option.toList_none, List.cons_append, List.nil_append, List.set_cons_zero, List.set_cons_succ, List.length_cons, List.length_nil, Nat.reduceAdd, Nat.reduceEqDiff, Nat.reduceLT, reduceIte, false_implies, true_implies, not_false_eq_true, not_true_eq_false, true_and, and_true, Nat.zero_add, lv_args, nI_1, Bool.false_eq_true, eq_self]
  refine V_callV C c_X5_106 d_X5_back_2 (k_gridOf_x H I hx) rfl rfl (H.c0) rfl (Nat.le_of_ble_eq_true rfl) ⟨(Nat.le_of_ble_eq_true rfl), (Nat.le_of_ble_eq_true rfl)⟩ (Nat.le_of_ble_eq_true rfl) ?_ (fun _ _ z => z.elim)
  rintro _ _ ⟨rfl, rfl⟩
  exact VX_out C hZ hno ⟨rfl, rfl⟩ ⟨(Nat.le_of_ble_eq_true rfl), (Nat.le_of_ble_eq_true rfl)⟩
theorem k_back_l (H : HR Y MM σ R tt A T h) (I : GI σ) (b : BI σ) {g : Nat} (hg : g < ng σ) {q : Int32} (hq : ¬ okL σ g q) : Ct l D Y b0 mX5_back 10 12 4000 [.ref (A 0 0 0), .int (nI g), .int q] h noQ (tX xIOB h) := by
  refine Ct_of "GridStore" false rfl (by decide +kernel) (fun z => by cases z) (Nat.le_of_ble_eq_true rfl) ?_
  intro p e s mI args below meth c Z C hno hZ
  refine V_run C b_X5_back_0 ?_
  simp only [k_X5_back_0, r_nil, r_iconst, r_bipush, r_sipush, r_ldc, r_lconst0, r_lconst1, r_ldc2, r_null, r_iload_n, r_iload, r_lload_n, r_lload, r_aload_n, r_aload, r_istore_n, r_istore, r_lstore_n, r_lstore, r_astore_nR, r_astoreR, r_astore_nN, r_astoreN, r_iinc, r_iadd, r_isub, r_imul, r_iand, r_idiv, r_irem, r_ineg, r_ladd, r_lsub, r_lmul, r_lxor, r_ldiv, r_lcmp, r_i2l, r_l2i, r_dup, r_pop, r_dup2, r_ifeq, r_ifne, r_iflt, r_ifge, r_ifgt, r_ifle, r_icmpeq, r_icmpne, r_icmplt, r_icmpge, r_icmpgt, r_icmple, r_acmpne, r_ifnullN, r_ifnullR, r_ifnonnullN, r_ifnonnullR, r_goto, r_getf, r_putf, r_alen, r_iald, r_bald, r_lald, r_aald, r_iast, r_bast, r_last, r_aast, gl_c, s1_d, s2_d, ins_n, ins_c, rm1_n, rm1_c, rm2_n, rm2_c, cat_i, cat_l, cat_r, cat_n, oI_t, oJ_t, oA_t, oA_u, oV_t, mO_s, aI_s, aJ_s, aQ_s, mL_0, mL_1, mL_2, mL_3, mL_4, nth_0, nth_s, rf_s, rf_n, fit_i, fit_r, fit_a, fit_b, fit_b0, fit_b1, Option.toList_some, Option.toList_none, List.cons_append, List.nil_append, List.set_cons_zero, List.set_cons_succ, List.length_cons, List.length_nil, Nat.reduceAdd, Nat.reduceEqDiff, Nat.reduceLT, reduceIte, false_implies, true_implies, not_false_eq_true, not_true_eq_false, true_and, and_true, Nat.zero_add, lv_args, nI_1, Bool.false_eq_true, eq_self]
  refine V_callV C c_X5_106 d_X5_back_2 (k_gridOf H I hg) rfl rfl (H.c0) rfl (Nat.le_of_ble_eq_true rfl) ⟨(Nat.le_of_ble_eq_true rfl), (Nat.le_of_ble_eq_true rfl)⟩ (Nat.le_of_ble_eq_true rfl) (fun _ _ z => z.elim) ?_
  rintro _ _ ⟨rfl, rfl⟩
  refine V_run C b_X5_back_5 ?_
  simp only [k_X5_back_5, r_nil, r_iconst, r_bipush, r_sipush, r_ldc, r_lconst0, r_lconst1, r_ldc2, r_null, r_iload_n, r_iload, r_lload_n, r_lload, r_aload_n, r_aload, r_istore_n, r_istore, r_lstore_n, r_lstore, r_astore_nR, r_astoreR, r_astore_nN, r_astoreN, r_iinc, r_iadd, r_isub, r_imul, r_iand, r_idiv, r_irem, r_ineg, r_ladd, r_lsub, r_lmul, r_lxor, r_ldiv, r_lcmp, r_i2l, r_l2i, r_dup, r_pop, r_dup2, r_ifeq, r_ifne, r_iflt, r_ifge, r_ifgt, r_ifle, r_icmpeq, r_icmpne, r_icmplt, r_icmpge, r_icmpgt, r_icmple, r_acmpne, r_ifnullN, r_ifnullR, r_ifnonnullN, r_ifnonnullR, r_goto, r_getf, r_putf, r_alen, r_iald, r_bald, r_lald, r_aald, r_iast, r_bast, r_last, r_aast, gl_c, s1_d, s2_d, ins_n, ins_c, rm1_n, rm1_c, rm2_n, rm2_c, cat_i, cat_l, cat_r, cat_n, oI_t, oJ_t, oA_t, oA_u, oV_t, mO_s, aI_s, aJ_s, aQ_s, mL_0, mL_1, mL_2, mL_3, mL_4, nth_0, nth_s, rf_s, rf_n, fit_i, fit_r, fit_a, fit_b, fit_b0, fit_b1, Option.toList_some, Option.toList_none, List.cons_append, List.nil_append, List.set_cons_zero, List.set_cons_succ, List.length_cons, List.length_nil, Nat.reduceAdd, Nat.reduceEqDiff, Nat.reduceLT, reduceIte, false_implies, true_implies, not_false_eq_true, not_true_eq_false, true_and, and_true, Nat.zero_add, lv_args, nI_1, Bool.false_eq_true, eq_self]
  refine V_callS C c_X5_124 d_X5_back_9 (k_layerOf_x H hg (b.2.1 g hg).2 hq) rfl rfl (Nat.le_of_ble_eq_true rfl) ⟨(Nat.le_of_ble_eq_true rfl), (Nat.le_of_ble_eq_true rfl)⟩ (Nat.le_of_ble_eq_true rfl) ?_ (fun _ _ z => z.elim)
  rintro _ _ ⟨rfl, rfl⟩
  exact VX_out C hZ hno ⟨rfl, rfl⟩ ⟨(Nat.le_of_ble_eq_true rfl), (Nat.le_of_ble_eq_true rfl)⟩
theorem k_back (H : HR Y MM σ R tt A T h) (I : GI σ) (S : CS σ R) (b : BI σ) {g : Nat} (hg : g < ng σ) {q : Nat} (hq : q < nl σ g) : Ct l D Y b0 mX5_back 10 12 4000 [.ref (A 0 0 0), .int (nI g), .int (nI q)] h (sq Y MM (A 0 0 0) (baF σ g q 1920).1 h (.int (nI (baF σ g q 1920).2))) noX := by
  refine Ct_of "GridStore" false rfl (by decide +kernel) (fun z => by cases z) (Nat.le_of_ble_eq_true rfl) ?_
  intro p e s mI args below meth c Z C hno hZ
  obtain ⟨w1, w2⟩ := I.b1 hg
  have h20 := (b.2.1 g hg).2
  obtain ⟨b', E⟩ := ba_BI I b hg hq (n := 1920) (Nat.le_refl _)
  have hne : A 14 g q ≠ A 11 g 0 := fun z => by
    have e1 := (H 14 g q (lv_l (by omega) (by omega) hg hq)).2.1
    rw [z, (H 11 g 0 (lv_g (by omega) (by omega) hg)).2.1] at e1
    cases e1
  obtain ⟨c1, c2⟩ := allC_eq (lo := σ 9) (w := nt σ 1 g) (hh := nt σ 2 g) (val := fun i j => R g (q + 1) (j * nt σ 1 g + i)) (f := R g 0)
  have ecnt : (allC (σ 9) (nt σ 1 g) (fun i j => R g (q + 1) (j * nt σ 1 g + i)) (nt σ 2 g) (R g 0)).2 = (baF σ g q 1920).2 := by
    rw [c2, ba_cnt, smF_grid w1 w2 (f := fun k => wdM σ (1920 * g + k) (isO (lyr σ (lyA g q k))) (vlO (lyr σ (lyA g q k))))]
    · refine smF_ext (fun y hy => smF_ext (fun x hx => ?_))
      rw [S.2 g q x y hg hq hx hy, wd_eq b S I hg hx hy, Nat.add_assoc]
    · intro x y hx hy hs
      have e1 : lyr σ (lyA g q (48 * y + x)) = none := by
        unfold lyr
        rw [if_pos (b.2.2.2.2.2 g q _ hg hq (by omega) (by omega))]
      have h8 := I.1.1
      have a1 : (1920 * g + (48 * y + x)) / 1920 = g := by omega
      have a2 : (1920 * g + (48 * y + x)) % 1920 = 48 * y + x := by omega
      have e2 : cel σ (1920 * g + (48 * y + x)) = none := by
        unfold cel
        rw [if_pos (b.2.2.2.2.1 _ (by omega) (by rw [a1, a2]; omega))]
      have e3 := cel_eq b (p := 1920 * g + (48 * y + x)) (o := none)
      rw [e1]
      unfold wdM
      split
      · rfl
      · rw [if_pos (by rw [← e3]; exact e2)]
  refine V_run C b_X5_back_0 ?_
  simp only [k_X5_back_0, r_nil, r_iconst, r_bipush, r_sipush, r_ldc, r_lconst0, r_lconst1, r_ldc2, r_null, r_iload_n, r_iload, r_lload_n, r_lload, r_aload_n, r_aload, r_istore_n, r_istore, r_lstore_n, r_lstore, r_astore_nR, r_astoreR, r_astore_nN, r_astoreN, r_iinc, r_iadd, r_isub, r_imul, r_iand, r_idiv, r_irem, r_ineg, r_ladd, r_lsub, r_lmul, r_lxor, r_ldiv, r_lcmp, r_i2l, r_l2i, r_dup, r_pop, r_dup2, r_ifeq, r_ifne, r_iflt, r_ifge, r_ifgt, r_ifle, r_icmpeq, r_icmpne, r_icmplt, r_icmpge, r_icmpgt, r_icmple, r_acmpne, r_ifnullN, r_ifnullR, r_ifnonnullN, r_ifnonnullR, r_goto, r_getf, r_putf, r_alen, r_iald, r_bald, r_lald, r_aald, r_iast, r_bast, r_last, r_aast, gl_c, s1_d, s2_d, ins_n, ins_c, rm1_n, rm1_c, rm2_n, rm2_c, cat_i, cat_l, cat_r, cat_n, oI_t, oJ_t, oA_t, oA_u, oV_t, mO_s, aI_s, aJ_s, aQ_s, mL_0, mL_1, mL_2, mL_3, mL_4, nth_0, nth_s, rf_s, rf_n, fit_i, fit_r, fit_a, fit_b, fit_b0, fit_b1, Option.toList_some, Option.toList_none, List.cons_append, List.nil_append, List.set_cons_zero, List.set_cons_succ, List.length_cons, List.length_nil, Nat.reduceAdd, Nat.reduceEqDiff, Nat.reduceLT, reduceIte, false_implies, true_implies, not_false_eq_true, not_true_eq_false, true_and, and_true, Nat.zero_add, lv_args, nI_1, Bool.false_eq_true, eq_self]
  refine V_callV C c_X5_106 d_X5_back_2 (k_gridOf H I hg) rfl rfl (H.c0) rfl (Nat.le_of_ble_eq_true rfl) ⟨(Nat.le_of_ble_eq_true rfl), (Nat.le_of_ble_eq_true rfl)⟩ (Nat.le_of_ble_eq_true rfl) (fun _ _ z => z.elim) ?_
  rintro _ _ ⟨rfl, rfl⟩
  refine V_run C b_X5_back_5 ?_
  simp only [k_X5_back_5, r_nil, r_iconst, r_bipush, r_sipush, r_ldc, r_lconst0, r_lconst1, r_ldc2, r_null, r_iload_n, r_iload, r_lload_n, r_lload, r_aload_n, r_aload, r_istore_n, r_istore, r_lstore_n, r_lstore, r_astore_nR, r_astoreR, r_astore_nN, r_astoreN, r_iinc, r_iadd, r_isub, r_imul, r_iand, r_idiv, r_irem, r_ineg, r_ladd, r_lsub, r_lmul, r_lxor, r_ldiv, r_lcmp, r_i2l, r_l2i, r_dup, r_pop, r_dup2, r_ifeq, r_ifne, r_iflt, r_ifge, r_ifgt, r_ifle, r_icmpeq, r_icmpne, r_icmplt, r_icmpge, r_icmpgt, r_icmple, r_acmpne, r_ifnullN, r_ifnullR, r_ifnonnullN, r_ifnonnullR, r_goto, r_getf, r_putf, r_alen, r_iald, r_bald, r_lald, r_aald, r_iast, r_bast, r_last, r_aast, gl_c, s1_d, s2_d, ins_n, ins_c, rm1_n, rm1_c, rm2_n, rm2_c, cat_i, cat_l, cat_r, cat_n, oI_t, oJ_t, oA_t, oA_u, oV_t, mO_s, aI_s, aJ_s, aQ_s, mL_0, mL_1, mL_2, mL_3, mL_4, nth_0, nth_s, rf_s, rf_n, fit_i, fit_r, fit_a, fit_b, fit_b0, fit_b1, Option.toList_some, Option.toList_none, List.cons_append, List.nil_append, List.set_cons_zero, List.set_cons_succ, List.length_cons, List.length_nil, Nat.reduceAdd, Nat.reduceEqDiff, Nat.reduceLT, reduceIte, false_implies, true_implies, not_false_eq_true, not_true_eq_false, true_and, and_true, Nat.zero_add, lv_args, nI_1, Bool.false_eq_true, eq_self]
  refine V_callS C c_X5_124 d_X5_back_9 (k_layerOf H hg hq h20) rfl rfl (Nat.le_of_ble_eq_true rfl) ⟨(Nat.le_of_ble_eq_true rfl), (Nat.le_of_ble_eq_true rfl)⟩ (Nat.le_of_ble_eq_true rfl) (fun _ _ z => z.elim) ?_
  rintro _ _ ⟨rfl, rfl⟩
  refine V_callV C c_X5_128 d_X5_back_12 (s_restore (H.G I hg) (H.c13 hg hq) (H.c14 hg hq) hne) rfl rfl (H.c9 hg) rfl (Nat.le_of_ble_eq_true rfl) ⟨(Nat.le_of_ble_eq_true rfl), (Nat.le_of_ble_eq_true rfl)⟩ (Nat.le_of_ble_eq_true rfl) (fun _ _ z => z.elim) ?_
  rintro _ _ ⟨rfl, rfl⟩
  rw [ecnt]
  refine V_iret C hZ rfl d_X5_back_15 ⟨rfl, _, tt, A, T, ⟨H.setR E (ba_row (by omega) (by omega)) hg _, ?_, rfl⟩, fun a ha => up_ne (fun z => (H 11 g 0 (lv_g (by omega) (by omega) hg)).2.2 (by rw [← z]; exact ha))⟩ ⟨(Nat.le_of_ble_eq_true rfl), (Nat.le_of_ble_eq_true rfl)⟩
  refine ⟨fun g' x y hg' hx hy => ?_, fun g' q' x y hg' hq' hx hy => ?_⟩
  · rw [E.q_ng] at hg'
    rw [E.q_nt 1 (by omega)] at hx ⊢
    rw [E.q_nt 2 (by omega)] at hy
    obtain ⟨w3, w4⟩ := I.b1 hg'
    rw [ba_cel]
    by_cases e : g' = g
    · subst e
      rw [upR_same, c1 x y hx hy, shB_M (g := g') (by omega) (by omega)]
      by_cases s : shM σ (1920 * g' + 48 * y + x) = true
      · rw [if_pos s, if_neg (fun z => z.2.2 s), S.1 g' x y hg' hx hy]
      · rw [if_neg s, if_pos ⟨by omega, by omega, s⟩, S.2 g' q x y hg' hq hx hy]
        rw [show 1920 * g' + 48 * y + x - 1920 * g' = 48 * y + x by omega]
    · rw [upR_ne (fun z => e z.1), if_neg (fun z => by omega), S.1 g' x y hg' hx hy]
  · rw [E.q_ng] at hg'
    rw [E.q_nl] at hq'
    rw [E.q_nt 1 (by omega)] at hx ⊢
    rw [E.q_nt 2 (by omega)] at hy
    rw [upR_ne (fun z => by omega), S.2 g' q' x y hg' hq' hx hy]
    unfold lyr
    rw [ba_row (by omega) (by omega), ba_row (by omega) (by omega)]
end
