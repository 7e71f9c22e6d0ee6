/-! ===== the reference's calls: read; how a rectangle of a window lies in its grid ===== -/
def sgP (c : CO) : Prop := (c.2.2.2.1 = 0 ∧ c.2.2.2.2.1 = 0 ∧ (c.2.2.1 = 1 ∨ c.2.2.1 = -1) ∧ (c.2.2.2.2.2 = 1 ∨ c.2.2.2.2.2 = -1)) ∨ (c.2.2.1 = 0 ∧ c.2.2.2.2.2 = 0 ∧ (c.2.2.2.1 = 1 ∨ c.2.2.2.1 = -1) ∧ (c.2.2.2.2.1 = 1 ∨ c.2.2.2.2.1 = -1))
theorem sg_tu {s : Nat × Nat × CO} {t : Nat} (h : sgP s.2.2) : sgP (tuA s t).2.2 := by
  obtain ⟨w, hq, c1, c2, c3, c4, c5, c6⟩ := s
  unfold sgP tuA at *
  dsimp only at *
  omega
theorem sg_fp {s : Nat × Nat × CO} (h : sgP s.2.2) : sgP (fpA s).2.2 := by
  obtain ⟨w, hq, c1, c2, c3, c4, c5, c6⟩ := s
  unfold sgP fpA at *
  dsimp only at *
  omega
theorem sg_tus {s : Nat × Nat × CO} (h : sgP s.2.2) : ∀ q, sgP (frd tuA q s).2.2
  | 0 => h
  | q + 1 => by rw [frd_s]; exact sg_tu (sg_tus h q)
theorem sg_aw (σ : SG) : ∀ f i, sgP (awF σ f i).2.2
  | 0, i => Or.inl ⟨rfl, rfl, Or.inl rfl, Or.inl rfl⟩
  | f + 1, i => by
    unfold awF
    split
    · exact Or.inl ⟨rfl, rfl, Or.inl rfl, Or.inl rfl⟩
    · have h0 : sgP (paA (awF σ f (nt σ 10 (i - 100))).2.2 (nt σ 11 (i - 100)) (nt σ 12 (i - 100))) := sg_aw σ f (nt σ 10 (i - 100))
      split
      · exact sg_tus (s := (_, _, paA _ _ _)) h0 _
      · exact sg_fp (sg_tus (s := (_, _, paA _ _ _)) h0 _)
theorem rect_pl {σ : SG} (I : GI σ) {i x y w hh : Nat} (hi : vI σ i) (hw1 : 1 ≤ w) (hh1 : 1 ≤ hh) (hx : x + w ≤ zW σ i) (hy : y + hh ≤ zH σ i) :
    (∀ a b, x ≤ a → a < x + w → y ≤ b → b < y + hh → min (pl σ i x y).2.1 (pl σ i (x + w - 1) (y + hh - 1)).2.1 ≤ (pl σ i a b).2.1 ∧ (pl σ i a b).2.1 ≤ max (pl σ i x y).2.1 (pl σ i (x + w - 1) (y + hh - 1)).2.1 ∧ min (pl σ i x y).2.2 (pl σ i (x + w - 1) (y + hh - 1)).2.2 ≤ (pl σ i a b).2.2 ∧ (pl σ i a b).2.2 ≤ max (pl σ i x y).2.2 (pl σ i (x + w - 1) (y + hh - 1)).2.2) ∧
    ∀ X Z, min (pl σ i x y).2.1 (pl σ i (x + w - 1) (y + hh - 1)).2.1 ≤ X → X ≤ max (pl σ i x y).2.1 (pl σ i (x + w - 1) (y + hh - 1)).2.1 → min (pl σ i x y).2.2 (pl σ i (x + w - 1) (y + hh - 1)).2.2 ≤ Z → Z ≤ max (pl σ i x y).2.2 (pl σ i (x + w - 1) (y + hh - 1)).2.2 → ∃ a b, x ≤ a ∧ a < x + w ∧ y ≤ b ∧ b < y + hh ∧ (pl σ i a b).2.1 = X ∧ (pl σ i a b).2.2 = Z := by
  have sg := sg_aw σ 13 i
  have hp : ∀ a b, a < zW σ i → b < zH σ i → (aw σ i).2.2.1 + (a : Int) * (aw σ i).2.2.2.2.1 + (b : Int) * (aw σ i).2.2.2.2.2.2.1 = ((pl σ i a b).2.1 : Int) ∧ (aw σ i).2.2.2.1 + (a : Int) * (aw σ i).2.2.2.2.2.1 + (b : Int) * (aw σ i).2.2.2.2.2.2.2 = ((pl σ i a b).2.2 : Int) := by
    intro a b ha hb
    have e := aw_pl I hi ha hb
    simp only [ev, Prod.mk.injEq] at e
    exact e
  have sg' : sgP (aw σ i).2.2 := sg
  generalize (aw σ i).2.2 = c at hp sg'
  obtain ⟨c1, c2, c3, c4, c5, c6⟩ := c
  unfold sgP at sg'
  dsimp only at hp sg'
  obtain ⟨p1, p2⟩ := hp x y (by omega) (by omega)
  obtain ⟨p3, p4⟩ := hp (x + w - 1) (y + hh - 1) (by omega) (by omega)
  rcases sg' with ⟨rfl, rfl, s1, s2⟩ | ⟨rfl, rfl, s1, s2⟩
  · rcases s1 with rfl | rfl
    · rcases s2 with rfl | rfl
      · refine ⟨fun a b h1 h2 h3 h4 => ?_, fun X Z h1 h2 h3 h4 => ?_⟩
        · obtain ⟨q1, q2⟩ := hp a b (by omega) (by omega)
          omega
        · obtain ⟨q1, q2⟩ := hp ((X : Int) - c1).toNat ((Z : Int) - c2).toNat (by omega) (by omega)
          exact ⟨((X : Int) - c1).toNat, ((Z : Int) - c2).toNat, by omega, by omega, by omega, by omega, by omega, by omega⟩
      · refine ⟨fun a b h1 h2 h3 h4 => ?_, fun X Z h1 h2 h3 h4 => ?_⟩
        · obtain ⟨q1, q2⟩ := hp a b (by omega) (by omega)
          omega
        · obtain ⟨q1, q2⟩ := hp ((X : Int) - c1).toNat (c2 - (Z : Int)).toNat (by omega) (by omega)
          exact ⟨((X : Int) - c1).toNat, (c2 - (Z : Int)).toNat, by omega, by omega, by omega, by omega, by omega, by omega⟩
    · rcases s2 with rfl | rfl
      · refine ⟨fun a b h1 h2 h3 h4 => ?_, fun X Z h1 h2 h3 h4 => ?_⟩
        · obtain ⟨q1, q2⟩ := hp a b (by omega) (by omega)
          omega
        · obtain ⟨q1, q2⟩ := hp (c1 - (X : Int)).toNat ((Z : Int) - c2).toNat (by omega) (by omega)
          exact ⟨(c1 - (X : Int)).toNat, ((Z : Int) - c2).toNat, by omega, by omega, by omega, by omega, by omega, by omega⟩
      · refine ⟨fun a b h1 h2 h3 h4 => ?_, fun X Z h1 h2 h3 h4 => ?_⟩
        · obtain ⟨q1, q2⟩ := hp a b (by omega) (by omega)
          omega
        · obtain ⟨q1, q2⟩ := hp (c1 - (X : Int)).toNat (c2 - (Z : Int)).toNat (by omega) (by omega)
          exact ⟨(c1 - (X : Int)).toNat, (c2 - (Z : Int)).toNat, by omega, by omega, by omega, by omega, by omega, by omega⟩
  · rcases s1 with rfl | rfl
    · rcases s2 with rfl | rfl
      · refine ⟨fun a b h1 h2 h3 h4 => ?_, fun X Z h1 h2 h3 h4 => ?_⟩
        · obtain ⟨q1, q2⟩ := hp a b (by omega) (by omega)
          omega
        · obtain ⟨q1, q2⟩ := hp ((Z : Int) - c2).toNat ((X : Int) - c1).toNat (by omega) (by omega)
          exact ⟨((Z : Int) - c2).toNat, ((X : Int) - c1).toNat, by omega, by omega, by omega, by omega, by omega, by omega⟩
      · refine ⟨fun a b h1 h2 h3 h4 => ?_, fun X Z h1 h2 h3 h4 => ?_⟩
        · obtain ⟨q1, q2⟩ := hp a b (by omega) (by omega)
          omega
        · obtain ⟨q1, q2⟩ := hp ((Z : Int) - c2).toNat (c1 - (X : Int)).toNat (by omega) (by omega)
          exact ⟨((Z : Int) - c2).toNat, (c1 - (X : Int)).toNat, by omega, by omega, by omega, by omega, by omega, by omega⟩
    · rcases s2 with rfl | rfl
      · refine ⟨fun a b h1 h2 h3 h4 => ?_, fun X Z h1 h2 h3 h4 => ?_⟩
        · obtain ⟨q1, q2⟩ := hp a b (by omega) (by omega)
          omega
        · obtain ⟨q1, q2⟩ := hp (c2 - (Z : Int)).toNat ((X : Int) - c1).toNat (by omega) (by omega)
          exact ⟨(c2 - (Z : Int)).toNat, ((X : Int) - c1).toNat, by omega, by omega, by omega, by omega, by omega, by omega⟩
      · refine ⟨fun a b h1 h2 h3 h4 => ?_, fun X Z h1 h2 h3 h4 => ?_⟩
        · obtain ⟨q1, q2⟩ := hp a b (by omega) (by omega)
          omega
        · obtain ⟨q1, q2⟩ := hp (c2 - (Z : Int)).toNat (c1 - (X : Int)).toNat (by omega) (by omega)
          exact ⟨(c2 - (Z : Int)).toNat, (c1 - (X : Int)).toNat, by omega, by omega, by omega, by omega, by omega, by omega⟩
theorem cntB_ext {p q : Nat → Bool} : ∀ {n : Nat}, (∀ k, k < n → p k = q k) → cntB p n = cntB q n
  | 0, _ => rfl
  | n + 1, h => by rw [cntB, cntB, cntB_ext (fun k hk => h k (by omega)), h n (by omega)]
theorem cntB_add {p q : Nat → Bool} {k0 : Nat} (h0 : p k0 = false) (h1 : q k0 = true) (h2 : ∀ k, k ≠ k0 → q k = p k) : ∀ {n : Nat}, k0 < n → cntB q n = cntB p n + 1
  | 0, h => absurd h (Nat.not_lt_zero _)
  | n + 1, h => by
    rw [cntB, cntB]
    by_cases e : k0 = n
    · subst e
      rw [h0, h1, cntB_ext (fun k hk => h2 k (by omega))]
      simp
    · rw [cntB_add h0 h1 h2 (by omega), h2 n (by omega)]
      omega
def cRb (A0 A1 B0 B1 : Nat) : Bool := !(decide (A0 ≤ A1) && decide (B0 ≤ B1)) || decide (cntB (fun k => decide (A0 ≤ k % 6 ∧ k % 6 ≤ A1 ∧ B0 ≤ k / 6 ∧ k / 6 ≤ B1)) 30 = (A1 - A0 + 1) * (B1 - B0 + 1))
theorem cR_all : ((List.range 6).all fun A0 => (List.range 6).all fun A1 => (List.range 5).all fun B0 => (List.range 5).all fun B1 => cRb A0 A1 B0 B1) = true := by decide +kernel
theorem cnt_rect (A0 : Nat) (h1 : A0 < 6) (A1 : Nat) (h2 : A1 < 6) (B0 : Nat) (h3 : B0 < 5) (B1 : Nat) (h4 : B1 < 5) (h5 : A0 ≤ A1) (h6 : B0 ≤ B1) : cntB (fun k => decide (A0 ≤ k % 6 ∧ k % 6 ≤ A1 ∧ B0 ≤ k / 6 ∧ k / 6 ≤ B1)) 30 = (A1 - A0 + 1) * (B1 - B0 + 1) := by
  have e := cR_all
  simp only [List.all_eq_true] at e
  have e2 := e A0 (List.mem_range.mpr h1) A1 (List.mem_range.mpr h2) B0 (List.mem_range.mpr h3) B1 (List.mem_range.mpr h4)
  unfold cRb at e2
  rw [decide_eq_true h5, decide_eq_true h6] at e2
  exact of_decide_eq_true e2
/-- the piece of a place -/
def pcM (p : Nat) : Nat := 6 * (p % 1920 / 48 / 8) + p % 1920 % 48 / 8
def s20 (σ : SG) (ρ : Nat → Int32) : SG := fun f => if f = 20 then ρ else σ f
theorem s20_20 {σ : SG} {ρ : Nat → Int32} : s20 σ ρ 20 = ρ := if_pos rfl
theorem s20_ne {σ : SG} {ρ : Nat → Int32} {f : Nat} (h : f ≠ 20) : s20 σ ρ f = σ f := if_neg h
theorem s20_id {σ : SG} : s20 σ (σ 20) = σ := by
  funext f
  unfold s20
  split
  · rename_i e; rw [e]
  · rfl
theorem s20_su {σ : SG} {ρ : Nat → Int32} {k : Nat} {v : Int32} : su (s20 σ ρ) 20 k v = s20 σ (upd ρ k v) := by
  funext f k'
  unfold su s20 upd
  by_cases e : f = 20
  · subst e
    by_cases e2 : k' = k
    · simp [e2]
    · simp [e2]
  · simp [e]
theorem s20_GE {σ : SG} {ρ : Nat → Int32} : GE σ (s20 σ ρ) := fun f hf => s20_ne (by omega)
def rdI (σ : SG) (i : Nat) (ρ : Nat → Int32) (n : Nat) (vis : Nat → Nat → Prop) : Prop := (∀ k, k < 30 → ρ k = 0 ∨ ρ k = 1) ∧ n = cntB (fun k => decide (¬ ρ k = 0)) 30 ∧ ∀ k, k < 30 → (¬ ρ k = 0 ↔ ∃ a b, vis a b ∧ pcM (pn σ i a b) = k)
theorem rdI_vis {σ : SG} {i n : Nat} {ρ : Nat → Int32} {vis vis' : Nat → Nat → Prop} (h : rdI σ i ρ n vis) (hv : ∀ a b, vis a b ↔ vis' a b) : rdI σ i ρ n vis' := by
  refine ⟨h.1, h.2.1, fun k hk => ?_⟩
  rw [h.2.2 k hk]
  exact ⟨fun ⟨a, b, q, e⟩ => ⟨a, b, (hv a b).mp q, e⟩, fun ⟨a, b, q, e⟩ => ⟨a, b, (hv a b).mpr q, e⟩⟩
theorem rdI_step {σ : SG} {i n a0 b0 : Nat} {ρ : Nat → Int32} {vis : Nat → Nat → Prop} (h : rdI σ i ρ n vis) (hk : pcM (pn σ i a0 b0) < 30) : rdI σ i (upd ρ (pcM (pn σ i a0 b0)) 1) (n + if ρ (pcM (pn σ i a0 b0)) = 0 then 1 else 0) (fun a b => vis a b ∨ (a = a0 ∧ b = b0)) := by
  obtain ⟨h1, h2, h3⟩ := h
  generalize hp : pcM (pn σ i a0 b0) = k0 at hk ⊢
  refine ⟨fun k hk2 => ?_, ?_, fun k hk2 => ?_⟩
  · unfold upd
    split
    · exact Or.inr rfl
    · exact h1 k hk2
  · by_cases z : ρ k0 = 0
    · rw [if_pos z, h2]
      refine (cntB_add (k0 := k0) ?_ ?_ (fun k hne => ?_) hk).symm
      · exact decide_eq_false (fun q => q z)
      · exact decide_eq_true (by simp [upd])
      · simp [upd, hne]
    · rw [if_neg z, Nat.add_zero, h2]
      refine cntB_ext (fun k hk2 => ?_)
      by_cases e : k = k0
      · subst e
        rw [decide_eq_true z]
        exact (decide_eq_true (by simp [upd])).symm
      · simp [upd, e]
  · by_cases e : k = k0
    · subst e
      constructor
      · intro _
        exact ⟨a0, b0, Or.inr ⟨rfl, rfl⟩, hp⟩
      · intro _
        simp [upd]
    · have e2 : upd ρ k0 1 k = ρ k := by simp [upd, e]
      rw [e2, h3 k hk2]
      constructor
      · rintro ⟨a, b, q, e3⟩
        exact ⟨a, b, Or.inl q, e3⟩
      · rintro ⟨a, b, q | ⟨rfl, rfl⟩, e3⟩
        · exact ⟨a, b, q, e3⟩
        · exact absurd (e3.symm.trans hp) e
theorem pcM_at {g X Z : Nat} (hX : X < 48) (hZ : Z < 40) : pcM (1920 * g + 48 * Z + X) = 6 * (Z / 8) + X / 8 := by
  unfold pcM
  have e1 : (1920 * g + 48 * Z + X) % 1920 = 48 * Z + X := by omega
  have e2 : (48 * Z + X) / 48 = Z := by omega
  have e3 : (48 * Z + X) % 48 = X := by omega
  rw [e1, e2, e3]
theorem rd_eq {σ : SG} (I : GI σ) {i x y w hh n : Nat} {ρ : Nat → Int32} (hi : vI σ i) (hw1 : 1 ≤ w) (hh1 : 1 ≤ hh) (hx : x + w ≤ zW σ i) (hy : y + hh ≤ zH σ i) (h : rdI σ i ρ n (fun a b => x ≤ a ∧ a < x + w ∧ y ≤ b ∧ b < y + hh)) : n = rdN σ i x y w hh := by
  obtain ⟨h1, h2, h3⟩ := h
  obtain ⟨r1, r2⟩ := rect_pl I hi hw1 hh1 hx hy
  have q1 : x < zW σ i := by omega
  have q2 : y < zH σ i := by omega
  obtain ⟨g1, g2, g3⟩ := pl_in2 I hi q1 q2
  obtain ⟨_, g4, g5⟩ := pl_in2 I hi (show x + w - 1 < zW σ i by omega) (show y + hh - 1 < zH σ i by omega)
  obtain ⟨w1, w2⟩ := I.b1 g1
  unfold rdN
  generalize (pl σ i x y).2.1 = X0 at *
  generalize (pl σ i x y).2.2 = Y0 at *
  generalize (pl σ i (x + w - 1) (y + hh - 1)).2.1 = X1 at *
  generalize (pl σ i (x + w - 1) (y + hh - 1)).2.2 = Y1 at *
  rw [h2, ← cnt_rect (min X0 X1 / 8) (by omega) (max X0 X1 / 8) (by omega) (min Y0 Y1 / 8) (by omega) (max Y0 Y1 / 8) (by omega) (by omega) (by omega)]
  refine cntB_ext (fun k hk => ?_)
  have e := h3 k hk
  have e2 : (∃ a b, (x ≤ a ∧ a < x + w ∧ y ≤ b ∧ b < y + hh) ∧ pcM (pn σ i a b) = k) ↔ (min X0 X1 / 8 ≤ k % 6 ∧ k % 6 ≤ max X0 X1 / 8 ∧ min Y0 Y1 / 8 ≤ k / 6 ∧ k / 6 ≤ max Y0 Y1 / 8) := by
    constructor
    · rintro ⟨a, b, ⟨s1, s2, s3, s4⟩, s5⟩
      obtain ⟨t1, t2, t3, t4⟩ := r1 a b s1 s2 s3 s4
      rw [pn_eq, pcM_at (by omega) (by omega)] at s5
      omega
    · rintro ⟨s1, s2, s3, s4⟩
      obtain ⟨a, b, t1, t2, t3, t4, t5, t6⟩ := r2 (max (min X0 X1) (8 * (k % 6))) (max (min Y0 Y1) (8 * (k / 6))) (by omega) (by omega) (by omega) (by omega)
      refine ⟨a, b, ⟨t1, t2, t3, t4⟩, ?_⟩
      rw [pn_eq, t5, t6, pcM_at (by omega) (by omega)]
      omega
  rw [e2] at e
  by_cases z : ρ k = 0
  · rw [decide_eq_false (fun q => q z), decide_eq_false (fun q => (e.mpr q) z)]
  · rw [decide_eq_true z, decide_eq_true (e.mp z)]
def clr0 (ρ : Nat → Int32) (n : Nat) : Nat → Int32 := fun q => if q < n then 0 else ρ q
theorem clr0_0 {ρ : Nat → Int32} : clr0 ρ 0 = ρ := by funext q; unfold clr0; rw [if_neg (by omega)]
theorem clr0_s {ρ : Nat → Int32} {n : Nat} : upd (clr0 ρ n) n 0 = clr0 ρ (n + 1) := by
  funext q
  unfold upd clr0
  by_cases e : q = n
  · rw [if_pos e, if_pos (by omega)]
  · rw [if_neg e]
    by_cases e2 : q < n
    · rw [if_pos e2, if_pos (by omega)]
    · rw [if_neg e2, if_neg (by omega)]
section
variable {l : Launch} {D : va_G} {Y : Nat → ClassId} {b0 : Nat} {h : AH} {B : Nat → Nat} {m : Nat} {t u : Int32} {σ : SG}
theorem m_read_x (M : MR Y B m t u σ h) (I : GI σ) {x : Int32} (hx : ¬ okI σ x) (z y w hq : Int32) : Ct l D Y b0 mX6_read 6 0 0 [.ref m, .int x, .int z, .int y, .int w, .int hq] h (mq Y B m h (.int 0) 1 σ) noX := by
  refine Ct_of "GridStoreModel" false rfl (by decide +kernel) (fun z => by cases z) (Nat.le_of_ble_eq_true rfl) ?_
  intro p e s mI args below meth c Z C hno hZ
  refine V_run C b_X6_read_0 ?_
  simp only [k_X6_read_0, M.1, len_m, set_m0, up_same, nm_5, nm_18, r_nil, r_iconst, r_bipush, r_sipush, r_ldc, r_lconst0, r_lconst1, r_ldc2, r_null, r_iload_n, r_iload, r_lload_n, r_lload, r_aload_n, r_aload, r_istore_n, r_istore, r_lstore_n, r_lstore, r_astore_nR, r_astoreR, r_astore_nN, r_astoreN, r_iinc, r_iadd, r_isub, r_imul, r_iand, r_idiv, r_irem, r_ineg, r_ladd, r_lsub, r_lmul, r_lxor, r_ldiv, r_lcmp, r_i2l, r_l2i, r_dup, r_pop, r_dup2, r_ifeq, r_ifne, r_iflt, r_ifge, r_ifgt, r_ifle, r_icmpeq, r_icmpne, r_icmplt, r_icmpge, r_icmpgt, r_icmple, r_acmpne, r_ifnullN, r_ifnullR, r_ifnonnullN, r_ifnonnullR, r_goto, r_getf, r_putf, r_alen, r_iald, r_bald, r_lald, r_aald, r_iast, r_bast, r_last, r_aast, gl_c, s1_d, s2_d, ins_n, ins_c, rm1_n, rm1_c, rm2_n, rm2_c, cat_i, cat_l, cat_r, cat_n, oI_t, oJ_t, oA_t, oA_u, oV_t, mO_s, aI_s, aJ_s, aQ_s, mL_0, mL_1, mL_2, mL_3, mL_4, nth_0, nth_s, rf_s, rf_n, fit_i, fit_r, fit_a, fit_b, fit_b0, fit_b1, Option.toList_some, Option.toList_none, List.cons_append, List.nil_append, List.set_cons_zero, List.set_cons_succ, List.length_cons, List.length_nil, Nat.reduceAdd, Nat.reduceEqDiff, Nat.reduceLT, reduceIte, false_implies, true_implies, not_false_eq_true, not_true_eq_false, true_and, and_true, Nat.zero_add, lv_args, nI_1, Bool.false_eq_true, eq_self]
  have M0 : MR Y B m 0 u σ (up h m (.inr (6, mob 0 u σ B))) := M.setm (fun _ _ => rfl)
  have F0 : frM B m h (up h m (.inr (6, mob 0 u σ B))) := frM.mm
  generalize up h m (.inr (6, mob 0 u σ B)) = h1 at M0 F0 ⊢
  refine V_callV C c_X6_96 d_X6_read_8 (m_noneP M0 I x) rfl rfl (M0.1) rfl (Nat.le_of_ble_eq_true rfl) ⟨(Nat.le_of_ble_eq_true rfl), (Nat.le_of_ble_eq_true rfl)⟩ (Nat.le_of_ble_eq_true rfl) (fun _ _ z => z.elim) ?_
  rintro _ _ ⟨rfl, rfl⟩
  rw [bP_t hx]
  refine V_run C b_X6_read_11 ?_
  simp only [k_X6_read_11, bI_t, r_nil, r_iconst, r_bipush, r_sipush, r_ldc, r_lconst0, r_lconst1, r_ldc2, r_null, r_iload_n, r_iload, r_lload_n, r_lload, r_aload_n, r_aload, r_istore_n, r_istore, r_lstore_n, r_lstore, r_astore_nR, r_astoreR, r_astore_nN, r_astoreN, r_iinc, r_iadd, r_isub, r_imul, r_iand, r_idiv, r_irem, r_ineg, r_ladd, r_lsub, r_lmul, r_lxor, r_ldiv, r_lcmp, r_i2l, r_l2i, r_dup, r_pop, r_dup2, r_ifeq, r_ifne, r_iflt, r_ifge, r_ifgt, r_ifle, r_icmpeq, r_icmpne, r_icmplt, r_icmpge, r_icmpgt, r_icmple, r_acmpne, r_ifnullN, r_ifnullR, r_ifnonnullN, r_ifnonnullR, r_goto, r_getf, r_putf, r_alen, r_iald, r_bald, r_lald, r_aald, r_iast, r_bast, r_last, r_aast, gl_c, s1_d, s2_d, ins_n, ins_c, rm1_n, rm1_c, rm2_n, rm2_c, cat_i, cat_l, cat_r, cat_n, oI_t, oJ_t, oA_t, oA_u, oV_t, mO_s, aI_s, aJ_s, aQ_s, mL_0, mL_1, mL_2, mL_3, mL_4, nth_0, nth_s, rf_s, rf_n, fit_i, fit_r, fit_a, fit_b, fit_b0, fit_b1, Option.toList_some, Option.toList_none, List.cons_append, List.nil_append, List.set_cons_zero, List.set_cons_succ, List.length_cons, List.length_nil, Nat.reduceAdd, Nat.reduceEqDiff, Nat.reduceLT, reduceIte, false_implies, true_implies, not_false_eq_true, not_true_eq_false, true_and, and_true, Nat.zero_add, lv_args, nI_1, Bool.false_eq_true, eq_self]
  refine V_callV C c_X6_92 d_X6_read_12 (m_thr1 M0 1) rfl rfl (M0).1 rfl (Nat.le_of_ble_eq_true rfl) ⟨(Nat.le_of_ble_eq_true rfl), (Nat.le_of_ble_eq_true rfl)⟩ (Nat.le_of_ble_eq_true rfl) (fun _ _ z => z.elim) ?_
  rintro _ h2 ⟨rfl, M2, F2⟩
  refine V_run C b_X6_read_15 ?_
  simp only [k_X6_read_15, e10, r_nil, r_iconst, r_bipush, r_sipush, r_ldc, r_lconst0, r_lconst1, r_ldc2, r_null, r_iload_n, r_iload, r_lload_n, r_lload, r_aload_n, r_aload, r_istore_n, r_istore, r_lstore_n, r_lstore, r_astore_nR, r_astoreR, r_astore_nN, r_astoreN, r_iinc, r_iadd, r_isub, r_imul, r_iand, r_idiv, r_irem, r_ineg, r_ladd, r_lsub, r_lmul, r_lxor, r_ldiv, r_lcmp, r_i2l, r_l2i, r_dup, r_pop, r_dup2, r_ifeq, r_ifne, r_iflt, r_ifge, r_ifgt, r_ifle, r_icmpeq, r_icmpne, r_icmplt, r_icmpge, r_icmpgt, r_icmple, r_acmpne, r_ifnullN, r_ifnullR, r_ifnonnullN, r_ifnonnullR, r_goto, r_getf, r_putf, r_alen, r_iald, r_bald, r_lald, r_aald, r_iast, r_bast, r_last, r_aast, gl_c, s1_d, s2_d, ins_n, ins_c, rm1_n, rm1_c, rm2_n, rm2_c, cat_i, cat_l, cat_r, cat_n, oI_t, oJ_t, oA_t, oA_u, oV_t, mO_s, aI_s, aJ_s, aQ_s, mL_0, mL_1, mL_2, mL_3, mL_4, nth_0, nth_s, rf_s, rf_n, fit_i, fit_r, fit_a, fit_b, fit_b0, fit_b1, Option.toList_some, Option.toList_none, List.cons_append, List.nil_append, List.set_cons_zero, List.set_cons_succ, List.length_cons, List.length_nil, Nat.reduceAdd, Nat.reduceEqDiff, Nat.reduceLT, reduceIte, false_implies, true_implies, not_false_eq_true, not_true_eq_false, true_and, and_true, Nat.zero_add, lv_args, nI_1, Bool.false_eq_true, eq_self]
  refine V_run C b_X6_read_37 ?_
  simp only [k_X6_read_37, r_nil, r_iconst, r_bipush, r_sipush, r_ldc, r_lconst0, r_lconst1, r_ldc2, r_null, r_iload_n, r_iload, r_lload_n, r_lload, r_aload_n, r_aload, r_istore_n, r_istore, r_lstore_n, r_lstore, r_astore_nR, r_astoreR, r_astore_nN, r_astoreN, r_iinc, r_iadd, r_isub, r_imul, r_iand, r_idiv, r_irem, r_ineg, r_ladd, r_lsub, r_lmul, r_lxor, r_ldiv, r_lcmp, r_i2l, r_l2i, r_dup, r_pop, r_dup2, r_ifeq, r_ifne, r_iflt, r_ifge, r_ifgt, r_ifle, r_icmpeq, r_icmpne, r_icmplt, r_icmpge, r_icmpgt, r_icmple, r_acmpne, r_ifnullN, r_ifnullR, r_ifnonnullN, r_ifnonnullR, r_goto, r_getf, r_putf, r_alen, r_iald, r_bald, r_lald, r_aald, r_iast, r_bast, r_last, r_aast, gl_c, s1_d, s2_d, ins_n, ins_c, rm1_n, rm1_c, rm2_n, rm2_c, cat_i, cat_l, cat_r, cat_n, oI_t, oJ_t, oA_t, oA_u, oV_t, mO_s, aI_s, aJ_s, aQ_s, mL_0, mL_1, mL_2, mL_3, mL_4, nth_0, nth_s, rf_s, rf_n, fit_i, fit_r, fit_a, fit_b, fit_b0, fit_b1, Option.toList_some, Option.toList_none, List.cons_append, List.nil_append, List.set_cons_zero, List.set_cons_succ, List.length_cons, List.length_nil, Nat.reduceAdd, Nat.reduceEqDiff, Nat.reduceLT, reduceIte, false_implies, true_implies, not_false_eq_true, not_true_eq_false, true_and, and_true, Nat.zero_add, lv_args, nI_1, Bool.false_eq_true, eq_self]
  exact V_iret C hZ rfl d_X6_read_38 ⟨rfl, ⟨u, M2⟩, F0.tr F2⟩ ⟨(Nat.le_of_ble_eq_true rfl), (Nat.le_of_ble_eq_true rfl)⟩
theorem m_read_r (M : MR Y B m t u σ h) (I : GI σ) {i : Nat} (hi : vI σ i) {x y w hq : Int32} (hr : ¬ okR σ i x y w hq) : Ct l D Y b0 mX6_read 6 0 0 [.ref m, .int (nI i), .int x, .int y, .int w, .int hq] h (mq Y B m h (.int 0) 2 σ) noX := by
  refine Ct_of "GridStoreModel" false rfl (by decide +kernel) (fun z => by cases z) (Nat.le_of_ble_eq_true rfl) ?_
  intro p e s mI args below meth c Z C hno hZ
  have ok : okI σ (nI i) := ⟨i, rfl, hi⟩
  refine V_run C b_X6_read_0 ?_
  simp only [k_X6_read_0, M.1, len_m, set_m0, up_same, nm_5, nm_18, r_nil, r_iconst, r_bipush, r_sipush, r_ldc, r_lconst0, r_lconst1, r_ldc2, r_null, r_iload_n, r_iload, r_lload_n, r_lload, r_aload_n, r_aload, r_istore_n, r_istore, r_lstore_n, r_lstore, r_astore_nR, r_astoreR, r_astore_nN, r_astoreN, r_iinc, r_iadd, r_isub, r_imul, r_iand, r_idiv, r_irem, r_ineg, r_ladd, r_lsub, r_lmul, r_lxor, r_ldiv, r_lcmp, r_i2l, r_l2i, r_dup, r_pop, r_dup2, r_ifeq, r_ifne, r_iflt, r_ifge, r_ifgt, r_ifle, r_icmpeq, r_icmpne, r_icmplt, r_icmpge, r_icmpgt, r_icmple, r_acmpne, r_ifnullN, r_ifnullR, r_ifnonnullN, r_ifnonnullR, r_goto, r_getf, r_putf, r_alen, r_iald, r_bald, r_lald, r_aald, r_iast, r_bast, r_last, r_aast, gl_c, s1_d, s2_d, ins_n, ins_c, rm1_n, rm1_c, rm2_n, rm2_c, cat_i, cat_l, cat_r, cat_n, oI_t, oJ_t, oA_t, oA_u, oV_t, mO_s, aI_s, aJ_s, aQ_s, mL_0, mL_1, mL_2, mL_3, mL_4, nth_0, nth_s, rf_s, rf_n, fit_i, fit_r, fit_a, fit_b, fit_b0, fit_b1, Option.toList_some, Option.toList_none, List.cons_append, List.nil_append, List.set_cons_zero, List.set_cons_succ, List.length_cons, List.length_nil, Nat.reduceAdd, Nat.reduceEqDiff, Nat.reduceLT, reduceIte, false_implies, true_implies, not_false_eq_true, not_true_eq_false, true_and, and_true, Nat.zero_add, lv_args, nI_1, Bool.false_eq_true, eq_self]
  have M0 : MR Y B m 0 u σ (up h m (.inr (6, mob 0 u σ B))) := M.setm (fun _ _ => rfl)
  have F0 : frM B m h (up h m (.inr (6, mob 0 u σ B))) := frM.mm
  generalize up h m (.inr (6, mob 0 u σ B)) = h1 at M0 F0 ⊢
  refine V_callV C c_X6_96 d_X6_read_8 (m_noneP M0 I (nI i)) rfl rfl (M0.1) rfl (Nat.le_of_ble_eq_true rfl) ⟨(Nat.le_of_ble_eq_true rfl), (Nat.le_of_ble_eq_true rfl)⟩ (Nat.le_of_ble_eq_true rfl) (fun _ _ z => z.elim) ?_
  rintro _ _ ⟨rfl, rfl⟩
  rw [bP_n ok]
  refine V_run C b_X6_read_11 ?_
  simp only [k_X6_read_11, bI_f, r_nil, r_iconst, r_bipush, r_sipush, r_ldc, r_lconst0, r_lconst1, r_ldc2, r_null, r_iload_n, r_iload, r_lload_n, r_lload, r_aload_n, r_aload, r_istore_n, r_istore, r_lstore_n, r_lstore, r_astore_nR, r_astoreR, r_astore_nN, r_astoreN, r_iinc, r_iadd, r_isub, r_imul, r_iand, r_idiv, r_irem, r_ineg, r_ladd, r_lsub, r_lmul, r_lxor, r_ldiv, r_lcmp, r_i2l, r_l2i, r_dup, r_pop, r_dup2, r_ifeq, r_ifne, r_iflt, r_ifge, r_ifgt, r_ifle, r_icmpeq, r_icmpne, r_icmplt, r_icmpge, r_icmpgt, r_icmple, r_acmpne, r_ifnullN, r_ifnullR, r_ifnonnullN, r_ifnonnullR, r_goto, r_getf, r_putf, r_alen, r_iald, r_bald, r_lald, r_aald, r_iast, r_bast, r_last, r_aast, gl_c, s1_d, s2_d, ins_n, ins_c, rm1_n, rm1_c, rm2_n, rm2_c, cat_i, cat_l, cat_r, cat_n, oI_t, oJ_t, oA_t, oA_u, oV_t, mO_s, aI_s, aJ_s, aQ_s, mL_0, mL_1, mL_2, mL_3, mL_4, nth_0, nth_s, rf_s, rf_n, fit_i, fit_r, fit_a, fit_b, fit_b0, fit_b1, Option.toList_some, Option.toList_none, List.cons_append, List.nil_append, List.set_cons_zero, List.set_cons_succ, List.length_cons, List.length_nil, Nat.reduceAdd, Nat.reduceEqDiff, Nat.reduceLT, reduceIte, false_implies, true_implies, not_false_eq_true, not_true_eq_false, true_and, and_true, Nat.zero_add, lv_args, nI_1, Bool.false_eq_true, eq_self]
  refine V_callV C c_X6_92 d_X6_read_12 (m_thr0 M0 1) rfl rfl (M0.1) rfl (Nat.le_of_ble_eq_true rfl) ⟨(Nat.le_of_ble_eq_true rfl), (Nat.le_of_ble_eq_true rfl)⟩ (Nat.le_of_ble_eq_true rfl) (fun _ _ z => z.elim) ?_
  rintro _ _ ⟨rfl, rfl⟩
  refine V_run C b_X6_read_15 ?_
  simp only [k_X6_read_15, r_nil, r_iconst, r_bipush, r_sipush, r_ldc, r_lconst0, r_lconst1, r_ldc2, r_null, r_iload_n, r_iload, r_lload_n, r_lload, r_aload_n, r_aload, r_istore_n, r_istore, r_lstore_n, r_lstore, r_astore_nR, r_astoreR, r_astore_nN, r_astoreN, r_iinc, r_iadd, r_isub, r_imul, r_iand, r_idiv, r_irem, r_ineg, r_ladd, r_lsub, r_lmul, r_lxor, r_ldiv, r_lcmp, r_i2l, r_l2i, r_dup, r_pop, r_dup2, r_ifeq, r_ifne, r_iflt, r_ifge, r_ifgt, r_ifle, r_icmpeq, r_icmpne, r_icmplt, r_icmpge, r_icmpgt, r_icmple, r_acmpne, r_ifnullN, r_ifnullR, r_ifnonnullN, r_ifnonnullR, r_goto, r_getf, r_putf, r_alen, r_iald, r_bald, r_lald, r_aald, r_iast, r_bast, r_last, r_aast, gl_c, s1_d, s2_d, ins_n, ins_c, rm1_n, rm1_c, rm2_n, rm2_c, cat_i, cat_l, cat_r, cat_n, oI_t, oJ_t, oA_t, oA_u, oV_t, mO_s, aI_s, aJ_s, aQ_s, mL_0, mL_1, mL_2, mL_3, mL_4, nth_0, nth_s, rf_s, rf_n, fit_i, fit_r, fit_a, fit_b, fit_b0, fit_b1, Option.toList_some, Option.toList_none, List.cons_append, List.nil_append, List.set_cons_zero, List.set_cons_succ, List.length_cons, List.length_nil, Nat.reduceAdd, Nat.reduceEqDiff, Nat.reduceLT, reduceIte, false_implies, true_implies, not_false_eq_true, not_true_eq_false, true_and, and_true, Nat.zero_add, lv_args, nI_1, Bool.false_eq_true, eq_self]
  refine V_callV C c_X6_99 d_X6_read_27 (m_noRect M0 I hi x y w hq) rfl rfl (M0.1) rfl (Nat.le_of_ble_eq_true rfl) ⟨(Nat.le_of_ble_eq_true rfl), (Nat.le_of_ble_eq_true rfl)⟩ (Nat.le_of_ble_eq_true rfl) (fun _ _ z => z.elim) ?_
  rintro _ _ ⟨rfl, rfl⟩
  rw [bP_t hr]
  refine V_run C b_X6_read_30 ?_
  simp only [k_X6_read_30, bI_t, r_nil, r_iconst, r_bipush, r_sipush, r_ldc, r_lconst0, r_lconst1, r_ldc2, r_null, r_iload_n, r_iload, r_lload_n, r_lload, r_aload_n, r_aload, r_istore_n, r_istore, r_lstore_n, r_lstore, r_astore_nR, r_astoreR, r_astore_nN, r_astoreN, r_iinc, r_iadd, r_isub, r_imul, r_iand, r_idiv, r_irem, r_ineg, r_ladd, r_lsub, r_lmul, r_lxor, r_ldiv, r_lcmp, r_i2l, r_l2i, r_dup, r_pop, r_dup2, r_ifeq, r_ifne, r_iflt, r_ifge, r_ifgt, r_ifle, r_icmpeq, r_icmpne, r_icmplt, r_icmpge, r_icmpgt, r_icmple, r_acmpne, r_ifnullN, r_ifnullR, r_ifnonnullN, r_ifnonnullR, r_goto, r_getf, r_putf, r_alen, r_iald, r_bald, r_lald, r_aald, r_iast, r_bast, r_last, r_aast, gl_c, s1_d, s2_d, ins_n, ins_c, rm1_n, rm1_c, rm2_n, rm2_c, cat_i, cat_l, cat_r, cat_n, oI_t, oJ_t, oA_t, oA_u, oV_t, mO_s, aI_s, aJ_s, aQ_s, mL_0, mL_1, mL_2, mL_3, mL_4, nth_0, nth_s, rf_s, rf_n, fit_i, fit_r, fit_a, fit_b, fit_b0, fit_b1, Option.toList_some, Option.toList_none, List.cons_append, List.nil_append, List.set_cons_zero, List.set_cons_succ, List.length_cons, List.length_nil, Nat.reduceAdd, Nat.reduceEqDiff, Nat.reduceLT, reduceIte, false_implies, true_implies, not_false_eq_true, not_true_eq_false, true_and, and_true, Nat.zero_add, lv_args, nI_1, Bool.false_eq_true, eq_self]
  refine V_callV C c_X6_92 d_X6_read_31 (m_thr1 M0 2) rfl rfl (M0).1 rfl (Nat.le_of_ble_eq_true rfl) ⟨(Nat.le_of_ble_eq_true rfl), (Nat.le_of_ble_eq_true rfl)⟩ (Nat.le_of_ble_eq_true rfl) (fun _ _ z => z.elim) ?_
  rintro _ h2 ⟨rfl, M2, F2⟩
  refine V_run C b_X6_read_34 ?_
  simp only [k_X6_read_34, e10, r_nil, r_iconst, r_bipush, r_sipush, r_ldc, r_lconst0, r_lconst1, r_ldc2, r_null, r_iload_n, r_iload, r_lload_n, r_lload, r_aload_n, r_aload, r_istore_n, r_istore, r_lstore_n, r_lstore, r_astore_nR, r_astoreR, r_astore_nN, r_astoreN, r_iinc, r_iadd, r_isub, r_imul, r_iand, r_idiv, r_irem, r_ineg, r_ladd, r_lsub, r_lmul, r_lxor, r_ldiv, r_lcmp, r_i2l, r_l2i, r_dup, r_pop, r_dup2, r_ifeq, r_ifne, r_iflt, r_ifge, r_ifgt, r_ifle, r_icmpeq, r_icmpne, r_icmplt, r_icmpge, r_icmpgt, r_icmple, r_acmpne, r_ifnullN, r_ifnullR, r_ifnonnullN, r_ifnonnullR, r_goto, r_getf, r_putf, r_alen, r_iald, r_bald, r_lald, r_aald, r_iast, r_bast, r_last, r_aast, gl_c, s1_d, s2_d, ins_n, ins_c, rm1_n, rm1_c, rm2_n, rm2_c, cat_i, cat_l, cat_r, cat_n, oI_t, oJ_t, oA_t, oA_u, oV_t, mO_s, aI_s, aJ_s, aQ_s, mL_0, mL_1, mL_2, mL_3, mL_4, nth_0, nth_s, rf_s, rf_n, fit_i, fit_r, fit_a, fit_b, fit_b0, fit_b1, Option.toList_some, Option.toList_none, List.cons_append, List.nil_append, List.set_cons_zero, List.set_cons_succ, List.length_cons, List.length_nil, Nat.reduceAdd, Nat.reduceEqDiff, Nat.reduceLT, reduceIte, false_implies, true_implies, not_false_eq_true, not_true_eq_false, true_and, and_true, Nat.zero_add, lv_args, nI_1, Bool.false_eq_true, eq_self]
  refine V_run C b_X6_read_37 ?_
  simp only [k_X6_read_37, r_nil, r_iconst, r_bipush, r_sipush, r_ldc, r_lconst0, r_lconst1, r_ldc2, r_null, r_iload_n, r_iload, r_lload_n, r_lload, r_aload_n, r_aload, r_istore_n, r_istore, r_lstore_n, r_lstore, r_astore_nR, r_astoreR, r_astore_nN, r_astoreN, r_iinc, r_iadd, r_isub, r_imul, r_iand, r_idiv, r_irem, r_ineg, r_ladd, r_lsub, r_lmul, r_lxor, r_ldiv, r_lcmp, r_i2l, r_l2i, r_dup, r_pop, r_dup2, r_ifeq, r_ifne, r_iflt, r_ifge, r_ifgt, r_ifle, r_icmpeq, r_icmpne, r_icmplt, r_icmpge, r_icmpgt, r_icmple, r_acmpne, r_ifnullN, r_ifnullR, r_ifnonnullN, r_ifnonnullR, r_goto, r_getf, r_putf, r_alen, r_iald, r_bald, r_lald, r_aald, r_iast, r_bast, r_last, r_aast, gl_c, s1_d, s2_d, ins_n, ins_c, rm1_n, rm1_c, rm2_n, rm2_c, cat_i, cat_l, cat_r, cat_n, oI_t, oJ_t, oA_t, oA_u, oV_t, mO_s, aI_s, aJ_s, aQ_s, mL_0, mL_1, mL_2, mL_3, mL_4, nth_0, nth_s, rf_s, rf_n, fit_i, fit_r, fit_a, fit_b, fit_b0, fit_b1, Option.toList_some, Option.toList_none, List.cons_append, List.nil_append, List.set_cons_zero, List.set_cons_succ, List.length_cons, List.length_nil, Nat.reduceAdd, Nat.reduceEqDiff, Nat.reduceLT, reduceIte, false_implies, true_implies, not_false_eq_true, not_true_eq_false, true_and, and_true, Nat.zero_add, lv_args, nI_1, Bool.false_eq_true, eq_self]
  exact V_iret C hZ rfl d_X6_read_38 ⟨rfl, ⟨u, M2⟩, F0.tr F2⟩ ⟨(Nat.le_of_ble_eq_true rfl), (Nat.le_of_ble_eq_true rfl)⟩
theorem m_read (M : MR Y B m t u σ h) (I : GI σ) {i : Nat} (hi : vI σ i) {x y w hh : Nat} (hw1 : 1 ≤ w) (hh1 : 1 ≤ hh) (hx : x + w ≤ zW σ i) (hy : y + hh ≤ zH σ i) : Ct l D Y b0 mX6_read 6 0 0 [.ref m, .int (nI i), .int (nI x), .int (nI y), .int (nI w), .int (nI hh)] h (fun v h' => ∃ ρ, mq Y B m h (.int (nI (rdN σ i x y w hh))) 0 (s20 σ ρ) v h') noX := by
  refine Ct_of "GridStoreModel" false rfl (by decide +kernel) (fun z => by cases z) (Nat.le_of_ble_eq_true rfl) ?_
  intro p e s mI args below meth c Z C hno hZ
  obtain ⟨w1, w2⟩ := zb I hi
  have ok : okI σ (nI i) := ⟨i, rfl, hi⟩
  have ok2 : okR σ i (nI x) (nI y) (nI w) (nI hh) := ⟨x, y, w, hh, rfl, rfl, rfl, rfl, hw1, hh1, hx, hy⟩
  refine V_run C b_X6_read_0 ?_
  simp only [k_X6_read_0, M.1, len_m, set_m0, up_same, nm_5, nm_18, r_nil, r_iconst, r_bipush, r_sipush, r_ldc, r_lconst0, r_lconst1, r_ldc2, r_null, r_iload_n, r_iload, r_lload_n, r_lload, r_aload_n, r_aload, r_istore_n, r_istore, r_lstore_n, r_lstore, r_astore_nR, r_astoreR, r_astore_nN, r_astoreN, r_iinc, r_iadd, r_isub, r_imul, r_iand, r_idiv, r_irem, r_ineg, r_ladd, r_lsub, r_lmul, r_lxor, r_ldiv, r_lcmp, r_i2l, r_l2i, r_dup, r_pop, r_dup2, r_ifeq, r_ifne, r_iflt, r_ifge, r_ifgt, r_ifle, r_icmpeq, r_icmpne, r_icmplt, r_icmpge, r_icmpgt, r_icmple, r_acmpne, r_ifnullN, r_ifnullR, r_ifnonnullN, r_ifnonnullR, r_goto, r_getf, r_putf, r_alen, r_iald, r_bald, r_lald, r_aald, r_iast, r_bast, r_last, r_aast, gl_c, s1_d, s2_d, ins_n, ins_c, rm1_n, rm1_c, rm2_n, rm2_c, cat_i, cat_l, cat_r, cat_n, oI_t, oJ_t, oA_t, oA_u, oV_t, mO_s, aI_s, aJ_s, aQ_s, mL_0, mL_1, mL_2, mL_3, mL_4, nth_0, nth_s, rf_s, rf_n, fit_i, fit_r, fit_a, fit_b, fit_b0, fit_b1, Option.toList_some, Option.toList_none, List.cons_append, List.nil_append, List.set_cons_zero, List.set_cons_succ, List.length_cons, List.length_nil, Nat.reduceAdd, Nat.reduceEqDiff, Nat.reduceLT, reduceIte, false_implies, true_implies, not_false_eq_true, not_true_eq_false, true_and, and_true, Nat.zero_add, lv_args, nI_1, Bool.false_eq_true, eq_self]
  have M0 : MR Y B m 0 u σ (up h m (.inr (6, mob 0 u σ B))) := M.setm (fun _ _ => rfl)
  have F0 : frM B m h (up h m (.inr (6, mob 0 u σ B))) := frM.mm
  generalize up h m (.inr (6, mob 0 u σ B)) = h1 at M0 F0 ⊢
  refine V_callV C c_X6_96 d_X6_read_8 (m_noneP M0 I (nI i)) rfl rfl (M0.1) rfl (Nat.le_of_ble_eq_true rfl) ⟨(Nat.le_of_ble_eq_true rfl), (Nat.le_of_ble_eq_true rfl)⟩ (Nat.le_of_ble_eq_true rfl) (fun _ _ z => z.elim) ?_
  rintro _ _ ⟨rfl, rfl⟩
  rw [bP_n ok]
  refine V_run C b_X6_read_11 ?_
  simp only [k_X6_read_11, bI_f, r_nil, r_iconst, r_bipush, r_sipush, r_ldc, r_lconst0, r_lconst1, r_ldc2, r_null, r_iload_n, r_iload, r_lload_n, r_lload, r_aload_n, r_aload, r_istore_n, r_istore, r_lstore_n, r_lstore, r_astore_nR, r_astoreR, r_astore_nN, r_astoreN, r_iinc, r_iadd, r_isub, r_imul, r_iand, r_idiv, r_irem, r_ineg, r_ladd, r_lsub, r_lmul, r_lxor, r_ldiv, r_lcmp, r_i2l, r_l2i, r_dup, r_pop, r_dup2, r_ifeq, r_ifne, r_iflt, r_ifge, r_ifgt, r_ifle, r_icmpeq, r_icmpne, r_icmplt, r_icmpge, r_icmpgt, r_icmple, r_acmpne, r_ifnullN, r_ifnullR, r_ifnonnullN, r_ifnonnullR, r_goto, r_getf, r_putf, r_alen, r_iald, r_bald, r_lald, r_aald, r_iast, r_bast, r_last, r_aast, gl_c, s1_d, s2_d, ins_n, ins_c, rm1_n, rm1_c, rm2_n, rm2_c, cat_i, cat_l, cat_r, cat_n, oI_t, oJ_t, oA_t, oA_u, oV_t, mO_s, aI_s, aJ_s, aQ_s, mL_0, mL_1, mL_2, mL_3, mL_4, nth_0, nth_s, rf_s, rf_n, fit_i, fit_r, fit_a, fit_b, fit_b0, fit_b1, Option.toList_some, Option.toList_none, List.cons_append, List.nil_append, List.set_cons_zero, List.set_cons_succ, List.length_cons, List.length_nil, Nat.reduceAdd, Nat.reduceEqDiff, Nat.reduceLT, reduceIte, false_implies, true_implies, not_false_eq_true, not_true_eq_false, true_and, and_true, Nat.zero_add, lv_args, nI_1, Bool.false_eq_true, eq_self]
  refine V_callV C c_X6_92 d_X6_read_12 (m_thr0 M0 1) rfl rfl (M0.1) rfl (Nat.le_of_ble_eq_true rfl) ⟨(Nat.le_of_ble_eq_true rfl), (Nat.le_of_ble_eq_true rfl)⟩ (Nat.le_of_ble_eq_true rfl) (fun _ _ z => z.elim) ?_
  rintro _ _ ⟨rfl, rfl⟩
  refine V_run C b_X6_read_15 ?_
  simp only [k_X6_read_15, r_nil, r_iconst, r_bipush, r_sipush, r_ldc, r_lconst0, r_lconst1, r_ldc2, r_null, r_iload_n, r_iload, r_lload_n, r_lload, r_aload_n, r_aload, r_istore_n, r_istore, r_lstore_n, r_lstore, r_astore_nR, r_astoreR, r_astore_nN, r_astoreN, r_iinc, r_iadd, r_isub, r_imul, r_iand, r_idiv, r_irem, r_ineg, r_ladd, r_lsub, r_lmul, r_lxor, r_ldiv, r_lcmp, r_i2l, r_l2i, r_dup, r_pop, r_dup2, r_ifeq, r_ifne, r_iflt, r_ifge, r_ifgt, r_ifle, r_icmpeq, r_icmpne, r_icmplt, r_icmpge, r_icmpgt, r_icmple, r_acmpne, r_ifnullN, r_ifnullR, r_ifnonnullN, r_ifnonnullR, r_goto, r_getf, r_putf, r_alen, r_iald, r_bald, r_lald, r_aald, r_iast, r_bast, r_last, r_aast, gl_c, s1_d, s2_d, ins_n, ins_c, rm1_n, rm1_c, rm2_n, rm2_c, cat_i, cat_l, cat_r, cat_n, oI_t, oJ_t, oA_t, oA_u, oV_t, mO_s, aI_s, aJ_s, aQ_s, mL_0, mL_1, mL_2, mL_3, mL_4, nth_0, nth_s, rf_s, rf_n, fit_i, fit_r, fit_a, fit_b, fit_b0, fit_b1, Option.toList_some, Option.toList_none, List.cons_append, List.nil_append, List.set_cons_zero, List.set_cons_succ, List.length_cons, List.length_nil, Nat.reduceAdd, Nat.reduceEqDiff, Nat.reduceLT, reduceIte, false_implies, true_implies, not_false_eq_true, not_true_eq_false, true_and, and_true, Nat.zero_add, lv_args, nI_1, Bool.false_eq_true, eq_self]
  refine V_callV C c_X6_99 d_X6_read_27 (m_noRect M0 I hi (nI x) (nI y) (nI w) (nI hh)) rfl rfl (M0.1) rfl (Nat.le_of_ble_eq_true rfl) ⟨(Nat.le_of_ble_eq_true rfl), (Nat.le_of_ble_eq_true rfl)⟩ (Nat.le_of_ble_eq_true rfl) (fun _ _ z => z.elim) ?_
  rintro _ _ ⟨rfl, rfl⟩
  rw [bP_n ok2]
  refine V_run C b_X6_read_30 ?_
  simp only [k_X6_read_30, bI_f, r_nil, r_iconst, r_bipush, r_sipush, r_ldc, r_lconst0, r_lconst1, r_ldc2, r_null, r_iload_n, r_iload, r_lload_n, r_lload, r_aload_n, r_aload, r_istore_n, r_istore, r_lstore_n, r_lstore, r_astore_nR, r_astoreR, r_astore_nN, r_astoreN, r_iinc, r_iadd, r_isub, r_imul, r_iand, r_idiv, r_irem, r_ineg, r_ladd, r_lsub, r_lmul, r_lxor, r_ldiv, r_lcmp, r_i2l, r_l2i, r_dup, r_pop, r_dup2, r_ifeq, r_ifne, r_iflt, r_ifge, r_ifgt, r_ifle, r_icmpeq, r_icmpne, r_icmplt, r_icmpge, r_icmpgt, r_icmple, r_acmpne, r_ifnullN, r_ifnullR, r_ifnonnullN, r_ifnonnullR, r_goto, r_getf, r_putf, r_alen, r_iald, r_bald, r_lald, r_aald, r_iast, r_bast, r_last, r_aast, gl_c, s1_d, s2_d, ins_n, ins_c, rm1_n, rm1_c, rm2_n, rm2_c, cat_i, cat_l, cat_r, cat_n, oI_t, oJ_t, oA_t, oA_u, oV_t, mO_s, aI_s, aJ_s, aQ_s, mL_0, mL_1, mL_2, mL_3, mL_4, nth_0, nth_s, rf_s, rf_n, fit_i, fit_r, fit_a, fit_b, fit_b0, fit_b1, Option.toList_some, Option.toList_none, List.cons_append, List.nil_append, List.set_cons_zero, List.set_cons_succ, List.length_cons, List.length_nil, Nat.reduceAdd, Nat.reduceEqDiff, Nat.reduceLT, reduceIte, false_implies, true_implies, not_false_eq_true, not_true_eq_false, true_and, and_true, Nat.zero_add, lv_args, nI_1, Bool.false_eq_true, eq_self]
  refine V_callV C c_X6_92 d_X6_read_31 (m_thr0 M0 2) rfl rfl (M0.1) rfl (Nat.le_of_ble_eq_true rfl) ⟨(Nat.le_of_ble_eq_true rfl), (Nat.le_of_ble_eq_true rfl)⟩ (Nat.le_of_ble_eq_true rfl) (fun _ _ z => z.elim) ?_
  rintro _ _ ⟨rfl, rfl⟩
  refine V_run C b_X6_read_34 ?_
  simp only [k_X6_read_34, r_nil, r_iconst, r_bipush, r_sipush, r_ldc, r_lconst0, r_lconst1, r_ldc2, r_null, r_iload_n, r_iload, r_lload_n, r_lload, r_aload_n, r_aload, r_istore_n, r_istore, r_lstore_n, r_lstore, r_astore_nR, r_astoreR, r_astore_nN, r_astoreN, r_iinc, r_iadd, r_isub, r_imul, r_iand, r_idiv, r_irem, r_ineg, r_ladd, r_lsub, r_lmul, r_lxor, r_ldiv, r_lcmp, r_i2l, r_l2i, r_dup, r_pop, r_dup2, r_ifeq, r_ifne, r_iflt, r_ifge, r_ifgt, r_ifle, r_icmpeq, r_icmpne, r_icmplt, r_icmpge, r_icmpgt, r_icmple, r_acmpne, r_ifnullN, r_ifnullR, r_ifnonnullN, r_ifnonnullR, r_goto, r_getf, r_putf, r_alen, r_iald, r_bald, r_lald, r_aald, r_iast, r_bast, r_last, r_aast, gl_c, s1_d, s2_d, ins_n, ins_c, rm1_n, rm1_c, rm2_n, rm2_c, cat_i, cat_l, cat_r, cat_n, oI_t, oJ_t, oA_t, oA_u, oV_t, mO_s, aI_s, aJ_s, aQ_s, mL_0, mL_1, mL_2, mL_3, mL_4, nth_0, nth_s, rf_s, rf_n, fit_i, fit_r, fit_a, fit_b, fit_b0, fit_b1, Option.toList_some, Option.toList_none, List.cons_append, List.nil_append, List.set_cons_zero, List.set_cons_succ, List.length_cons, List.length_nil, Nat.reduceAdd, Nat.reduceEqDiff, Nat.reduceLT, reduceIte, false_implies, true_implies, not_false_eq_true, not_true_eq_false, true_and, and_true, Nat.zero_add, lv_args, nI_1, Bool.false_eq_true, eq_self]
  refine V_run C b_X6_read_39 ?_
  simp only [k_X6_read_39, r_nil, r_iconst, r_bipush, r_sipush, r_ldc, r_lconst0, r_lconst1, r_ldc2, r_null, r_iload_n, r_iload, r_lload_n, r_lload, r_aload_n, r_aload, r_istore_n, r_istore, r_lstore_n, r_lstore, r_astore_nR, r_astoreR, r_astore_nN, r_astoreN, r_iinc, r_iadd, r_isub, r_imul, r_iand, r_idiv, r_irem, r_ineg, r_ladd, r_lsub, r_lmul, r_lxor, r_ldiv, r_lcmp, r_i2l, r_l2i, r_dup, r_pop, r_dup2, r_ifeq, r_ifne, r_iflt, r_ifge, r_ifgt, r_ifle, r_icmpeq, r_icmpne, r_icmplt, r_icmpge, r_icmpgt, r_icmple, r_acmpne, r_ifnullN, r_ifnullR, r_ifnonnullN, r_ifnonnullR, r_goto, r_getf, r_putf, r_alen, r_iald, r_bald, r_lald, r_aald, r_iast, r_bast, r_last, r_aast, gl_c, s1_d, s2_d, ins_n, ins_c, rm1_n, rm1_c, rm2_n, rm2_c, cat_i, cat_l, cat_r, cat_n, oI_t, oJ_t, oA_t, oA_u, oV_t, mO_s, aI_s, aJ_s, aQ_s, mL_0, mL_1, mL_2, mL_3, mL_4, nth_0, nth_s, rf_s, rf_n, fit_i, fit_r, fit_a, fit_b, fit_b0, fit_b1, Option.toList_some, Option.toList_none, List.cons_append, List.nil_append, List.set_cons_zero, List.set_cons_succ, List.length_cons, List.length_nil, Nat.reduceAdd, Nat.reduceEqDiff, Nat.reduceLT, reduceIte, false_implies, true_implies, not_false_eq_true, not_true_eq_false, true_and, and_true, Nat.zero_add, lv_args, nI_1, Bool.false_eq_true, eq_self]
  have en0 : vp_nar .boolean 0 = 0 := nar_b (b := false)
  have en1 : vp_nar .boolean 1 = 1 := nar_b (b := true)
  have x1 : ¬ nI 1920 = 0 := by decide
  have x2 : ¬ nI 48 = 0 := by decide
  have x3 : ¬ nI 8 = 0 := by decide
  have n6 : (6 : Int32) = nI 6 := rfl
  have n30 : (30 : Int32) = nI 30 := rfl
  have a0 : ∀ x : Int32, x + 0 = x := Int32.add_zero
  refine V_up (n := 30) (fun k => ∀ h', MR Y B m 0 u (s20 σ (clr0 (σ 20) k)) h' → frM B m h h' → V p l e s mI args below meth c D b0 6 0 0 Z 0 0 42 ([(0, .ref m), (1, .int (nI i)), (2, .int (nI x)), (3, .int (nI y)), (4, .int (nI w)), (5, .int (nI hh)), (6, .int (nI k))]) ([]) (h')) ?_ ?_ 0 (Nat.zero_le _) h1 (by rw [clr0_0, s20_id]; exact M0) F0
  · intro h' M' F'
    refine V_run C b_X6_read_42 ?_
    simp only [k_X6_read_42, n30, (c_le 30 30), r_nil, r_iconst, r_bipush, r_sipush, r_ldc, r_lconst0, r_lconst1, r_ldc2, r_null, r_iload_n, r_iload, r_lload_n, r_lload, r_aload_n, r_aload, r_istore_n, r_istore, r_lstore_n, r_lstore, r_astore_nR, r_astoreR, r_astore_nN, r_astoreN, r_iinc, r_iadd, r_isub, r_imul, r_iand, r_idiv, r_irem, r_ineg, r_ladd, r_lsub, r_lmul, r_lxor, r_ldiv, r_lcmp, r_i2l, r_l2i, r_dup, r_pop, r_dup2, r_ifeq, r_ifne, r_iflt, r_ifge, r_ifgt, r_ifle, r_icmpeq, r_icmpne, r_icmplt, r_icmpge, r_icmpgt, r_icmple, r_acmpne, r_ifnullN, r_ifnullR, r_ifnonnullN, r_ifnonnullR, r_goto, r_getf, r_putf, r_alen, r_iald, r_bald, r_lald, r_aald, r_iast, r_bast, r_last, r_aast, gl_c, s1_d, s2_d, ins_n, ins_c, rm1_n, rm1_c, rm2_n, rm2_c, cat_i, cat_l, cat_r, cat_n, oI_t, oJ_t, oA_t, oA_u, oV_t, mO_s, aI_s, aJ_s, aQ_s, mL_0, mL_1, mL_2, mL_3, mL_4, nth_0, nth_s, rf_s, rf_n, fit_i, fit_r, fit_a, fit_b, fit_b0, fit_b1, Option.toList_some, Option.toList_none, List.cons_append, List.nil_append, List.set_cons_zero, List.set_cons_succ, List.length_cons, List.length_nil, Nat.reduceAdd, Nat.reduceEqDiff, Nat.reduceLT, reduceIte, false_implies, true_implies, not_false_eq_true, not_true_eq_false, true_and, and_true, Nat.zero_add, lv_args, nI_1, Bool.false_eq_true, eq_self]
    have z0 : rdI σ i (clr0 (σ 20) 30) 0 (fun a b => x ≤ a ∧ a < x + w ∧ y ≤ b ∧ b < y + 0) := by
      have e : ∀ k, k < 30 → clr0 (σ 20) 30 k = 0 := fun k hk => if_pos hk
      refine ⟨fun k hk => Or.inl (e k hk), ?_, fun k hk => ⟨fun z => absurd (e k hk) z, fun ⟨a, b, z, _⟩ => by omega⟩⟩
      rw [cntB_ext (q := fun _ => false) (fun k hk => decide_eq_false (fun z => z (e k hk)))]
      rfl
    refine V_run C b_X6_read_63 ?_
    simp only [k_X6_read_63, r_nil, r_iconst, r_bipush, r_sipush, r_ldc, r_lconst0, r_lconst1, r_ldc2, r_null, r_iload_n, r_iload, r_lload_n, r_lload, r_aload_n, r_aload, r_istore_n, r_istore, r_lstore_n, r_lstore, r_astore_nR, r_astoreR, r_astore_nN, r_astoreN, r_iinc, r_iadd, r_isub, r_imul, r_iand, r_idiv, r_irem, r_ineg, r_ladd, r_lsub, r_lmul, r_lxor, r_ldiv, r_lcmp, r_i2l, r_l2i, r_dup, r_pop, r_dup2, r_ifeq, r_ifne, r_iflt, r_ifge, r_ifgt, r_ifle, r_icmpeq, r_icmpne, r_icmplt, r_icmpge, r_icmpgt, r_icmple, r_acmpne, r_ifnullN, r_ifnullR, r_ifnonnullN, r_ifnonnullR, r_goto, r_getf, r_putf, r_alen, r_iald, r_bald, r_lald, r_aald, r_iast, r_bast, r_last, r_aast, gl_c, s1_d, s2_d, ins_n, ins_c, rm1_n, rm1_c, rm2_n, rm2_c, cat_i, cat_l, cat_r, cat_n, oI_t, oJ_t, oA_t, oA_u, oV_t, mO_s, aI_s, aJ_s, aQ_s, mL_0, mL_1, mL_2, mL_3, mL_4, nth_0, nth_s, rf_s, rf_n, fit_i, fit_r, fit_a, fit_b, fit_b0, fit_b1, Option.toList_some, Option.toList_none, List.cons_append, List.nil_append, List.set_cons_zero, List.set_cons_succ, List.length_cons, List.length_nil, Nat.reduceAdd, Nat.reduceEqDiff, Nat.reduceLT, reduceIte, false_implies, true_implies, not_false_eq_true, not_true_eq_false, true_and, and_true, Nat.zero_add, lv_args, nI_1, Bool.false_eq_true, eq_self]
    refine V_up (n := hh) (fun r => ∀ (n : Nat) (ρ : Nat → Int32) (h' : AH), rdI σ i ρ n (fun a b => x ≤ a ∧ a < x + w ∧ y ≤ b ∧ b < y + r) → MR Y B m 0 u (s20 σ ρ) h' → frM B m h h' → V p l e s mI args below meth c D b0 6 0 0 Z 0 0 69 ([(0, .ref m), (1, .int (nI i)), (2, .int (nI x)), (3, .int (nI y)), (4, .int (nI w)), (5, .int (nI hh)), (6, .int (nI n)), (7, .int (nI (y + r)))]) ([]) (h')) ?_ ?_ 0 (Nat.zero_le _) 0 _ h' z0 M' F'
    · intro n ρ h2 R2 M2 F2
      refine V_run C b_X6_read_69 ?_
      simp only [k_X6_read_69, nI_add, (c_le (y+hh) (y+hh)), r_nil, r_iconst, r_bipush, r_sipush, r_ldc, r_lconst0, r_lconst1, r_ldc2, r_null, r_iload_n, r_iload, r_lload_n, r_lload, r_aload_n, r_aload, r_istore_n, r_istore, r_lstore_n, r_lstore, r_astore_nR, r_astoreR, r_astore_nN, r_astoreN, r_iinc, r_iadd, r_isub, r_imul, r_iand, r_idiv, r_irem, r_ineg, r_ladd, r_lsub, r_lmul, r_lxor, r_ldiv, r_lcmp, r_i2l, r_l2i, r_dup, r_pop, r_dup2, r_ifeq, r_ifne, r_iflt, r_ifge, r_ifgt, r_ifle, r_icmpeq, r_icmpne, r_icmplt, r_icmpge, r_icmpgt, r_icmple, r_acmpne, r_ifnullN, r_ifnullR, r_ifnonnullN, r_ifnonnullR, r_goto, r_getf, r_putf, r_alen, r_iald, r_bald, r_lald, r_aald, r_iast, r_bast, r_last, r_aast, gl_c, s1_d, s2_d, ins_n, ins_c, rm1_n, rm1_c, rm2_n, rm2_c, cat_i, cat_l, cat_r, cat_n, oI_t, oJ_t, oA_t, oA_u, oV_t, mO_s, aI_s, aJ_s, aQ_s, mL_0, mL_1, mL_2, mL_3, mL_4, nth_0, nth_s, rf_s, rf_n, fit_i, fit_r, fit_a, fit_b, fit_b0, fit_b1, Option.toList_some, Option.toList_none, List.cons_append, List.nil_append, List.set_cons_zero, List.set_cons_succ, List.length_cons, List.length_nil, Nat.reduceAdd, Nat.reduceEqDiff, Nat.reduceLT, reduceIte, false_implies, true_implies, not_false_eq_true, not_true_eq_false, true_and, and_true, Nat.zero_add, lv_args, nI_1, Bool.false_eq_true, eq_self]
      refine V_run C b_X6_read_167 ?_
      simp only [k_X6_read_167, r_nil, r_iconst, r_bipush, r_sipush, r_ldc, r_lconst0, r_lconst1, r_ldc2, r_null, r_iload_n, r_iload, r_lload_n, r_lload, r_aload_n, r_aload, r_istore_n, r_istore, r_lstore_n, r_lstore, r_astore_nR, r_astoreR, r_astore_nN, r_astoreN, r_iinc, r_iadd, r_isub, r_imul, r_iand, r_idiv, r_irem, r_ineg, r_ladd, r_lsub, r_lmul, r_lxor, r_ldiv, r_lcmp, r_i2l, r_l2i, r_dup, r_pop, r_dup2, r_ifeq, r_ifne, r_iflt, r_ifge, r_ifgt, r_ifle, r_icmpeq, r_icmpne, r_icmplt, r_icmpge, r_icmpgt, r_icmple, r_acmpne, r_ifnullN, r_ifnullR, r_ifnonnullN, r_ifnonnullR, r_goto, r_getf, r_putf, r_alen, r_iald, r_bald, r_lald, r_aald, r_iast, r_bast, r_last, r_aast, gl_c, s1_d, s2_d, ins_n, ins_c, rm1_n, rm1_c, rm2_n, rm2_c, cat_i, cat_l, cat_r, cat_n, oI_t, oJ_t, oA_t, oA_u, oV_t, mO_s, aI_s, aJ_s, aQ_s, mL_0, mL_1, mL_2, mL_3, mL_4, nth_0, nth_s, rf_s, rf_n, fit_i, fit_r, fit_a, fit_b, fit_b0, fit_b1, Option.toList_some, Option.toList_none, List.cons_append, List.nil_append, List.set_cons_zero, List.set_cons_succ, List.length_cons, List.length_nil, Nat.reduceAdd, Nat.reduceEqDiff, Nat.reduceLT, reduceIte, false_implies, true_implies, not_false_eq_true, not_true_eq_false, true_and, and_true, Nat.zero_add, lv_args, nI_1, Bool.false_eq_true, eq_self]
      exact V_iret C hZ rfl d_X6_read_169 ⟨ρ, by rw [rd_eq I hi hw1 hh1 hx hy R2], ⟨u, M2⟩, F2⟩ ⟨(Nat.le_of_ble_eq_true rfl), (Nat.le_of_ble_eq_true rfl)⟩
    · intro r hr ih n0' ρ0 h2 R2 M2 F2
      refine V_run C b_X6_read_69 ?_
      simp only [k_X6_read_69, nI_add, (c_nle (y+hh) (y+r)), r_nil, r_iconst, r_bipush, r_sipush, r_ldc, r_lconst0, r_lconst1, r_ldc2, r_null, r_iload_n, r_iload, r_lload_n, r_lload, r_aload_n, r_aload, r_istore_n, r_istore, r_lstore_n, r_lstore, r_astore_nR, r_astoreR, r_astore_nN, r_astoreN, r_iinc, r_iadd, r_isub, r_imul, r_iand, r_idiv, r_irem, r_ineg, r_ladd, r_lsub, r_lmul, r_lxor, r_ldiv, r_lcmp, r_i2l, r_l2i, r_dup, r_pop, r_dup2, r_ifeq, r_ifne, r_iflt, r_ifge, r_ifgt, r_ifle, r_icmpeq, r_icmpne, r_icmplt, r_icmpge, r_icmpgt, r_icmple, r_acmpne, r_ifnullN, r_ifnullR, r_ifnonnullN, r_ifnonnullR, r_goto, r_getf, r_putf, r_alen, r_iald, r_bald, r_lald, r_aald, r_iast, r_bast, r_last, r_aast, gl_c, s1_d, s2_d, ins_n, ins_c, rm1_n, rm1_c, rm2_n, rm2_c, cat_i, cat_l, cat_r, cat_n, oI_t, oJ_t, oA_t, oA_u, oV_t, mO_s, aI_s, aJ_s, aQ_s, mL_0, mL_1, mL_2, mL_3, mL_4, nth_0, nth_s, rf_s, rf_n, fit_i, fit_r, fit_a, fit_b, fit_b0, fit_b1, Option.toList_some, Option.toList_none, List.cons_append, List.nil_append, List.set_cons_zero, List.set_cons_succ, List.length_cons, List.length_nil, Nat.reduceAdd, Nat.reduceEqDiff, Nat.reduceLT, reduceIte, false_implies, true_implies, not_false_eq_true, not_true_eq_false, true_and, and_true, Nat.zero_add, lv_args, nI_1, Bool.false_eq_true, eq_self]
      refine V_up (n := w) (fun q => ∀ (n : Nat) (ρ : Nat → Int32) (h' : AH), rdI σ i ρ n (fun a b => (x ≤ a ∧ a < x + w ∧ y ≤ b ∧ b < y + r) ∨ (x ≤ a ∧ a < x + q ∧ b = y + r)) → MR Y B m 0 u (s20 σ ρ) h' → frM B m h h' → V p l e s mI args below meth c D b0 6 0 0 Z 0 0 81 ([(0, .ref m), (1, .int (nI i)), (2, .int (nI x)), (3, .int (nI y)), (4, .int (nI w)), (5, .int (nI hh)), (6, .int (nI n)), (7, .int (nI (y + r))), (8, .int (nI (x + q)))]) ([]) (h')) ?_ ?_ 0 (Nat.zero_le _) n0' ρ0 h2 (rdI_vis R2 (fun a b => by omega)) M2 F2
      · intro n ρ h3 R3 M3 F3
        refine V_run C b_X6_read_81 ?_
        simp only [k_X6_read_81, nI_add, (c_le (x+w) (x+w)), r_nil, r_iconst, r_bipush, r_sipush, r_ldc, r_lconst0, r_lconst1, r_ldc2, r_null, r_iload_n, r_iload, r_lload_n, r_lload, r_aload_n, r_aload, r_istore_n, r_istore, r_lstore_n, r_lstore, r_astore_nR, r_astoreR, r_astore_nN, r_astoreN, r_iinc, r_iadd, r_isub, r_imul, r_iand, r_idiv, r_irem, r_ineg, r_ladd, r_lsub, r_lmul, r_lxor, r_ldiv, r_lcmp, r_i2l, r_l2i, r_dup, r_pop, r_dup2, r_ifeq, r_ifne, r_iflt, r_ifge, r_ifgt, r_ifle, r_icmpeq, r_icmpne, r_icmplt, r_icmpge, r_icmpgt, r_icmple, r_acmpne, r_ifnullN, r_ifnullR, r_ifnonnullN, r_ifnonnullR, r_goto, r_getf, r_putf, r_alen, r_iald, r_bald, r_lald, r_aald, r_iast, r_bast, r_last, r_aast, gl_c, s1_d, s2_d, ins_n, ins_c, rm1_n, rm1_c, rm2_n, rm2_c, cat_i, cat_l, cat_r, cat_n, oI_t, oJ_t, oA_t, oA_u, oV_t, mO_s, aI_s, aJ_s, aQ_s, mL_0, mL_1, mL_2, mL_3, mL_4, nth_0, nth_s, rf_s, rf_n, fit_i, fit_r, fit_a, fit_b, fit_b0, fit_b1, Option.toList_some, Option.toList_none, List.cons_append, List.nil_append, List.set_cons_zero, List.set_cons_succ, List.length_cons, List.length_nil, Nat.reduceAdd, Nat.reduceEqDiff, Nat.reduceLT, reduceIte, false_implies, true_implies, not_false_eq_true, not_true_eq_false, true_and, and_true, Nat.zero_add, lv_args, nI_1, Bool.false_eq_true, eq_self]
        refine V_run C b_X6_read_161 ?_
        simp only [k_X6_read_161, r_nil, r_iconst, r_bipush, r_sipush, r_ldc, r_lconst0, r_lconst1, r_ldc2, r_null, r_iload_n, r_iload, r_lload_n, r_lload, r_aload_n, r_aload, r_istore_n, r_istore, r_lstore_n, r_lstore, r_astore_nR, r_astoreR, r_astore_nN, r_astoreN, r_iinc, r_iadd, r_isub, r_imul, r_iand, r_idiv, r_irem, r_ineg, r_ladd, r_lsub, r_lmul, r_lxor, r_ldiv, r_lcmp, r_i2l, r_l2i, r_dup, r_pop, r_dup2, r_ifeq, r_ifne, r_iflt, r_ifge, r_ifgt, r_ifle, r_icmpeq, r_icmpne, r_icmplt, r_icmpge, r_icmpgt, r_icmple, r_acmpne, r_ifnullN, r_ifnullR, r_ifnonnullN, r_ifnonnullR, r_goto, r_getf, r_putf, r_alen, r_iald, r_bald, r_lald, r_aald, r_iast, r_bast, r_last, r_aast, gl_c, s1_d, s2_d, ins_n, ins_c, rm1_n, rm1_c, rm2_n, rm2_c, cat_i, cat_l, cat_r, cat_n, oI_t, oJ_t, oA_t, oA_u, oV_t, mO_s, aI_s, aJ_s, aQ_s, mL_0, mL_1, mL_2, mL_3, mL_4, nth_0, nth_s, rf_s, rf_n, fit_i, fit_r, fit_a, fit_b, fit_b0, fit_b1, Option.toList_some, Option.toList_none, List.cons_append, List.nil_append, List.set_cons_zero, List.set_cons_succ, List.length_cons, List.length_nil, Nat.reduceAdd, Nat.reduceEqDiff, Nat.reduceLT, reduceIte, false_implies, true_implies, not_false_eq_true, not_true_eq_false, true_and, and_true, Nat.zero_add, lv_args, nI_1, Bool.false_eq_true, eq_self]
        exact V_drop [0, 1, 2, 3, 4, 5, 6, 7] rfl (ih n ρ h3 (rdI_vis R3 (fun a b => by omega)) M3 F3)
      · intro q hq ih2 n ρ h3 R3 M3 F3
        have E3 : GE σ (s20 σ ρ) := s20_GE
        have q1 : x + q < zW σ i := by omega
        have q2 : y + r < zH σ i := by omega
        have hp := pn_lt I hi q1 q2
        obtain ⟨g1, g2, g3⟩ := pl_in2 I hi q1 q2
        obtain ⟨w3, w4⟩ := I.b1 g1
        have hk : pcM (pn σ i (x + q) (y + r)) < 30 := by rw [pn_eq, pcM_at (by omega) (by omega)]; omega
        have R4 := rdI_vis (rdI_step (a0 := x + q) (b0 := y + r) R3 hk) (vis' := fun a b => (x ≤ a ∧ a < x + w ∧ y ≤ b ∧ b < y + r) ∨ (x ≤ a ∧ a < x + (q + 1) ∧ b = y + r)) (fun a b => by omega)
        have M4 := M3.s20 (pcM (pn σ i (x + q) (y + r))) 1
        rw [s20_su, s20_20] at M4
        have F4 : frM B m h3 (up h3 (B 20) (eZ Y 30 (upd ρ (pcM (pn σ i (x + q) (y + r))) 1))) := frM.s20
        have a20 := M3.a20
        rw [s20_20] at a20
        have k2 := fun (n' : Nat) (e : (n + if ρ (pcM (pn σ i (x + q) (y + r))) = 0 then 1 else 0) = n') => ih2 n' _ _ (e ▸ R4) M4 (F3.tr F4)
        clear ih2
        refine V_run C b_X6_read_81 ?_
        simp only [k_X6_read_81, nI_add, (c_nle (x+w) (x+q)), r_nil, r_iconst, r_bipush, r_sipush, r_ldc, r_lconst0, r_lconst1, r_ldc2, r_null, r_iload_n, r_iload, r_lload_n, r_lload, r_aload_n, r_aload, r_istore_n, r_istore, r_lstore_n, r_lstore, r_astore_nR, r_astoreR, r_astore_nN, r_astoreN, r_iinc, r_iadd, r_isub, r_imul, r_iand, r_idiv, r_irem, r_ineg, r_ladd, r_lsub, r_lmul, r_lxor, r_ldiv, r_lcmp, r_i2l, r_l2i, r_dup, r_pop, r_dup2, r_ifeq, r_ifne, r_iflt, r_ifge, r_ifgt, r_ifle, r_icmpeq, r_icmpne, r_icmplt, r_icmpge, r_icmpgt, r_icmple, r_acmpne, r_ifnullN, r_ifnullR, r_ifnonnullN, r_ifnonnullR, r_goto, r_getf, r_putf, r_alen, r_iald, r_bald, r_lald, r_aald, r_iast, r_bast, r_last, r_aast, gl_c, s1_d, s2_d, ins_n, ins_c, rm1_n, rm1_c, rm2_n, rm2_c, cat_i, cat_l, cat_r, cat_n, oI_t, oJ_t, oA_t, oA_u, oV_t, mO_s, aI_s, aJ_s, aQ_s, mL_0, mL_1, mL_2, mL_3, mL_4, nth_0, nth_s, rf_s, rf_n, fit_i, fit_r, fit_a, fit_b, fit_b0, fit_b1, Option.toList_some, Option.toList_none, List.cons_append, List.nil_append, List.set_cons_zero, List.set_cons_succ, List.length_cons, List.length_nil, Nat.reduceAdd, Nat.reduceEqDiff, Nat.reduceLT, reduceIte, false_implies, true_implies, not_false_eq_true, not_true_eq_false, true_and, and_true, Nat.zero_add, lv_args, nI_1, Bool.false_eq_true, eq_self]
        refine V_callV C c_X6_109 d_X6_read_96 (m_placeOf M3 (E3.q_GI I) (i := i) (by rw [E3.q_vI]; exact hi) (a := x + q) (b := y + r) (by rw [E3.q_zW]; exact q1) (by rw [E3.q_zH]; exact q2)) rfl rfl (M3.1) rfl (Nat.le_of_ble_eq_true rfl) ⟨(Nat.le_of_ble_eq_true rfl), (Nat.le_of_ble_eq_true rfl)⟩ (Nat.le_of_ble_eq_true rfl) (fun _ _ z => z.elim) ?_
        rintro _ _ ⟨rfl, rfl⟩
        rw [E3.q_pn]
        generalize pn σ i (x + q) (y + r) = p9 at hp hk k2 ⊢
        have m6 : nI 6 * nI (p9 % 1920 / 48 / 8) = nI (6 * (p9 % 1920 / 48 / 8)) := pk_mul _ _
        have epc : 6 * (p9 % 1920 / 48 / 8) + p9 % 1920 % 48 / 8 = pcM p9 := rfl
        refine V_run C b_X6_read_99 ?_
        simp only [k_X6_read_99, n1920, n48, n8, n6, x1, x2, x3, (c_rem p9 1920), (c_rem2 (p9%1920) 48), (c_div (p9%1920%48) 8), (c_div (p9%1920) 48), (c_div (p9%1920/48) 8), m6, nI_add, epc, M3.1, nm_20, a20, (c_in (pcM p9) 30), (c_cl (pcM p9)), r_nil, r_iconst, r_bipush, r_sipush, r_ldc, r_lconst0, r_lconst1, r_ldc2, r_null, r_iload_n, r_iload, r_lload_n, r_lload, r_aload_n, r_aload, r_istore_n, r_istore, r_lstore_n, r_lstore, r_astore_nR, r_astoreR, r_astore_nN, r_astoreN, r_iinc, r_iadd, r_isub, r_imul, r_iand, r_idiv, r_irem, r_ineg, r_ladd, r_lsub, r_lmul, r_lxor, r_ldiv, r_lcmp, r_i2l, r_l2i, r_dup, r_pop, r_dup2, r_ifeq, r_ifne, r_iflt, r_ifge, r_ifgt, r_ifle, r_icmpeq, r_icmpne, r_icmplt, r_icmpge, r_icmpgt, r_icmple, r_acmpne, r_ifnullN, r_ifnullR, r_ifnonnullN, r_ifnonnullR, r_goto, r_getf, r_putf, r_alen, r_iald, r_bald, r_lald, r_aald, r_iast, r_bast, r_last, r_aast, gl_c, s1_d, s2_d, ins_n, ins_c, rm1_n, rm1_c, rm2_n, rm2_c, cat_i, cat_l, cat_r, cat_n, oI_t, oJ_t, oA_t, oA_u, oV_t, mO_s, aI_s, aJ_s, aQ_s, mL_0, mL_1, mL_2, mL_3, mL_4, nth_0, nth_s, rf_s, rf_n, fit_i, fit_r, fit_a, fit_b, fit_b0, fit_b1, Option.toList_some, Option.toList_none, List.cons_append, List.nil_append, List.set_cons_zero, List.set_cons_succ, List.length_cons, List.length_nil, Nat.reduceAdd, Nat.reduceEqDiff, Nat.reduceLT, reduceIte, false_implies, true_implies, not_false_eq_true, not_true_eq_false, true_and, and_true, Nat.zero_add, lv_args, nI_1, Bool.false_eq_true, eq_self]
        refine ⟨fun c1 => ?_, fun c1 => ?_⟩
        · have k3 := k2 (n + 1) (by rw [if_pos c1])
          refine V_run C b_X6_read_143 ?_
          simp only [k_X6_read_143, r_nil, r_iconst, r_bipush, r_sipush, r_ldc, r_lconst0, r_lconst1, r_ldc2, r_null, r_iload_n, r_iload, r_lload_n, r_lload, r_aload_n, r_aload, r_istore_n, r_istore, r_lstore_n, r_lstore, r_astore_nR, r_astoreR, r_astore_nN, r_astoreN, r_iinc, r_iadd, r_isub, r_imul, r_iand, r_idiv, r_irem, r_ineg, r_ladd, r_lsub, r_lmul, r_lxor, r_ldiv, r_lcmp, r_i2l, r_l2i, r_dup, r_pop, r_dup2, r_ifeq, r_ifne, r_iflt, r_ifge, r_ifgt, r_ifle, r_icmpeq, r_icmpne, r_icmplt, r_icmpge, r_icmpgt, r_icmple, r_acmpne, r_ifnullN, r_ifnullR, r_ifnonnullN, r_ifnonnullR, r_goto, r_getf, r_putf, r_alen, r_iald, r_bald, r_lald, r_aald, r_iast, r_bast, r_last, r_aast, gl_c, s1_d, s2_d, ins_n, ins_c, rm1_n, rm1_c, rm2_n, rm2_c, cat_i, cat_l, cat_r, cat_n, oI_t, oJ_t, oA_t, oA_u, oV_t, mO_s, aI_s, aJ_s, aQ_s, mL_0, mL_1, mL_2, mL_3, mL_4, nth_0, nth_s, rf_s, rf_n, fit_i, fit_r, fit_a, fit_b, fit_b0, fit_b1, Option.toList_some, Option.toList_none, List.cons_append, List.nil_append, List.set_cons_zero, List.set_cons_succ, List.length_cons, List.length_nil, Nat.reduceAdd, Nat.reduceEqDiff, Nat.reduceLT, reduceIte, false_implies, true_implies, not_false_eq_true, not_true_eq_false, true_and, and_true, Nat.zero_add, lv_args, nI_1, Bool.false_eq_true, eq_self]
          refine V_run C b_X6_read_144 ?_
          simp only [k_X6_read_144, M3.1, nm_20, a20, (c_in (pcM p9) 30), (c_cl (pcM p9)), en1, r_nil, r_iconst, r_bipush, r_sipush, r_ldc, r_lconst0, r_lconst1, r_ldc2, r_null, r_iload_n, r_iload, r_lload_n, r_lload, r_aload_n, r_aload, r_istore_n, r_istore, r_lstore_n, r_lstore, r_astore_nR, r_astoreR, r_astore_nN, r_astoreN, r_iinc, r_iadd, r_isub, r_imul, r_iand, r_idiv, r_irem, r_ineg, r_ladd, r_lsub, r_lmul, r_lxor, r_ldiv, r_lcmp, r_i2l, r_l2i, r_dup, r_pop, r_dup2, r_ifeq, r_ifne, r_iflt, r_ifge, r_ifgt, r_ifle, r_icmpeq, r_icmpne, r_icmplt, r_icmpge, r_icmpgt, r_icmple, r_acmpne, r_ifnullN, r_ifnullR, r_ifnonnullN, r_ifnonnullR, r_goto, r_getf, r_putf, r_alen, r_iald, r_bald, r_lald, r_aald, r_iast, r_bast, r_last, r_aast, gl_c, s1_d, s2_d, ins_n, ins_c, rm1_n, rm1_c, rm2_n, rm2_c, cat_i, cat_l, cat_r, cat_n, oI_t, oJ_t, oA_t, oA_u, oV_t, mO_s, aI_s, aJ_s, aQ_s, mL_0, mL_1, mL_2, mL_3, mL_4, nth_0, nth_s, rf_s, rf_n, fit_i, fit_r, fit_a, fit_b, fit_b0, fit_b1, Option.toList_some, Option.toList_none, List.cons_append, List.nil_append, List.set_cons_zero, List.set_cons_succ, List.length_cons, List.length_nil, Nat.reduceAdd, Nat.reduceEqDiff, Nat.reduceLT, reduceIte, false_implies, true_implies, not_false_eq_true, not_true_eq_false, true_and, and_true, Nat.zero_add, lv_args, nI_1, Bool.false_eq_true, eq_self]
          exact V_drop [0, 1, 2, 3, 4, 5, 6, 7, 8] rfl k3
        · have k3 := k2 n (by rw [if_neg c1]; rfl)
          refine V_run C b_X6_read_144 ?_
          simp only [k_X6_read_144, a0, M3.1, nm_20, a20, (c_in (pcM p9) 30), (c_cl (pcM p9)), en1, r_nil, r_iconst, r_bipush, r_sipush, r_ldc, r_lconst0, r_lconst1, r_ldc2, r_null, r_iload_n, r_iload, r_lload_n, r_lload, r_aload_n, r_aload, r_istore_n, r_istore, r_lstore_n, r_lstore, r_astore_nR, r_astoreR, r_astore_nN, r_astoreN, r_iinc, r_iadd, r_isub, r_imul, r_iand, r_idiv, r_irem, r_ineg, r_ladd, r_lsub, r_lmul, r_lxor, r_ldiv, r_lcmp, r_i2l, r_l2i, r_dup, r_pop, r_dup2, r_ifeq, r_ifne, r_iflt, r_ifge, r_ifgt, r_ifle, r_icmpeq, r_icmpne, r_icmplt, r_icmpge, r_icmpgt, r_icmple, r_acmpne, r_ifnullN, r_ifnullR, r_ifnonnullN, r_ifnonnullR, r_goto, r_getf, r_putf, r_alen, r_iald, r_bald, r_lald, r_aald, r_iast, r_bast, r_last, r_aast, gl_c, s1_d, s2_d, ins_n, ins_c, rm1_n, rm1_c, rm2_n, rm2_c, cat_i, cat_l, cat_r, cat_n, oI_t, oJ_t, oA_t, oA_u, oV_t, mO_s, aI_s, aJ_s, aQ_s, mL_0, mL_1, mL_2, mL_3, mL_4, nth_0, nth_s, rf_s, rf_n, fit_i, fit_r, fit_a, fit_b, fit_b0, fit_b1, Option.toList_some, Option.toList_none, List.cons_append, List.nil_append, List.set_cons_zero, List.set_cons_succ, List.length_cons, List.length_nil, Nat.reduceAdd, Nat.reduceEqDiff, Nat.reduceLT, reduceIte, false_implies, true_implies, not_false_eq_true, not_true_eq_false, true_and, and_true, Nat.zero_add, lv_args, nI_1, Bool.false_eq_true, eq_self]
          exact V_drop [0, 1, 2, 3, 4, 5, 6, 7, 8] rfl k3
  · intro k hk ih h' M' F'
    have M2 := M'.s20 k 0
    rw [s20_su, s20_20, clr0_s] at M2
    have F2 : frM B m h' (up h' (B 20) (eZ Y 30 (clr0 (σ 20) (k + 1)))) := frM.s20
    have a20 := M'.a20
    rw [s20_20] at a20
    have k2 := ih _ M2 (F'.tr F2)
    refine V_run C b_X6_read_42 ?_
    simp only [k_X6_read_42, n30, (c_nle 30 k), M'.1, nm_20, a20, (c_in k 30), (c_cl k), en0, clr0_s, r_nil, r_iconst, r_bipush, r_sipush, r_ldc, r_lconst0, r_lconst1, r_ldc2, r_null, r_iload_n, r_iload, r_lload_n, r_lload, r_aload_n, r_aload, r_istore_n, r_istore, r_lstore_n, r_lstore, r_astore_nR, r_astoreR, r_astore_nN, r_astoreN, r_iinc, r_iadd, r_isub, r_imul, r_iand, r_idiv, r_irem, r_ineg, r_ladd, r_lsub, r_lmul, r_lxor, r_ldiv, r_lcmp, r_i2l, r_l2i, r_dup, r_pop, r_dup2, r_ifeq, r_ifne, r_iflt, r_ifge, r_ifgt, r_ifle, r_icmpeq, r_icmpne, r_icmplt, r_icmpge, r_icmpgt, r_icmple, r_acmpne, r_ifnullN, r_ifnullR, r_ifnonnullN, r_ifnonnullR, r_goto, r_getf, r_putf, r_alen, r_iald, r_bald, r_lald, r_aald, r_iast, r_bast, r_last, r_aast, gl_c, s1_d, s2_d, ins_n, ins_c, rm1_n, rm1_c, rm2_n, rm2_c, cat_i, cat_l, cat_r, cat_n, oI_t, oJ_t, oA_t, oA_u, oV_t, mO_s, aI_s, aJ_s, aQ_s, mL_0, mL_1, mL_2, mL_3, mL_4, nth_0, nth_s, rf_s, rf_n, fit_i, fit_r, fit_a, fit_b, fit_b0, fit_b1, Option.toList_some, Option.toList_none, List.cons_append, List.nil_append, List.set_cons_zero, List.set_cons_succ, List.length_cons, List.length_nil, Nat.reduceAdd, Nat.reduceEqDiff, Nat.reduceLT, reduceIte, false_implies, true_implies, not_false_eq_true, not_true_eq_false, true_and, and_true, Nat.zero_add, lv_args, nI_1, Bool.false_eq_true, eq_self]
    exact k2
end
