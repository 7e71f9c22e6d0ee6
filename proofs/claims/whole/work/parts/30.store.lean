/-! ===== the store in the heap: addresses by kind, rows of cells, affine views ===== -/
abbrev AF : Type := Nat → Nat → Nat → Nat
abbrev TF : Type := Nat → Nat × Nat × Nat
abbrev LF : Type := Nat → Nat → Nat → Int64
abbrev TT : Type := (Nat → Int64) × (Nat → Int32) × Int32 × Int32
abbrev CO : Type := Int × Int × Int × Int × Int × Int
def ev (c : CO) (u v : Int) : Int × Int := (c.1 + u * c.2.2.1 + v * c.2.2.2.2.1, c.2.1 + u * c.2.2.2.1 + v * c.2.2.2.2.2)
def paA (c : CO) (x y : Nat) : CO := ((ev c x y).1, (ev c x y).2, c.2.2)
def tuA (s : Nat × Nat × CO) (_ : Nat) : Nat × Nat × CO := (s.2.1, s.1, (s.2.2.1 + ((s.2.1 : Int) - 1) * s.2.2.2.2.2.2.1, s.2.2.2.1 + ((s.2.1 : Int) - 1) * s.2.2.2.2.2.2.2, -s.2.2.2.2.2.2.1, -s.2.2.2.2.2.2.2, s.2.2.2.2.1, s.2.2.2.2.2.1))
def fpA (s : Nat × Nat × CO) : Nat × Nat × CO := (s.1, s.2.1, (s.2.2.1 + ((s.1 : Int) - 1) * s.2.2.2.2.1, s.2.2.2.1 + ((s.1 : Int) - 1) * s.2.2.2.2.2.1, -s.2.2.2.2.1, -s.2.2.2.2.2.1, s.2.2.2.2.2.2))
theorem ev_pa (c : CO) (x y : Nat) (u v : Int) : ev (paA c x y) u v = ev c (u + x) (v + y) := by
  obtain ⟨c1, c2, c3, c4, c5, c6⟩ := c
  simp only [ev, paA, Prod.mk.injEq]
  constructor <;> (rw [Int.add_mul, Int.add_mul]; omega)
theorem ev_tu (s : Nat × Nat × CO) (t : Nat) (u v : Int) : ev (tuA s t).2.2 u v = ev s.2.2 v ((s.2.1 : Int) - 1 - u) := by
  obtain ⟨w, hq, c1, c2, c3, c4, c5, c6⟩ := s
  simp only [ev, tuA, Prod.mk.injEq]
  constructor <;> (rw [Int.sub_mul _ u, Int.mul_neg]; omega)
theorem ev_fp (s : Nat × Nat × CO) (u v : Int) : ev (fpA s).2.2 u v = ev s.2.2 ((s.1 : Int) - 1 - u) v := by
  obtain ⟨w, hq, c1, c2, c3, c4, c5, c6⟩ := s
  simp only [ev, fpA, Prod.mk.injEq]
  constructor <;> (rw [Int.sub_mul _ u, Int.mul_neg]; omega)
theorem frd_head {α : Type} (st : α → Nat → α) : ∀ (n : Nat) (s : α), frd st (n + 1) s = frd (fun x t => st x (t + 1)) n (st s 0)
  | 0, _ => rfl
  | n + 1, s => by rw [frd_s, frd_head st n s]; rfl
theorem tq_shift {w hgt : Nat} (x : Nat × Nat) (t : Nat) : tq w hgt x (t + 1) = tq hgt w x t := by
  unfold tq
  rcases Nat.mod_two_eq_zero_or_one t with e | e
  · rw [if_neg (by omega), if_pos e]
  · rw [if_pos (by omega), if_neg (by omega)]
theorem ev_turns : ∀ (q : Nat) (s : Nat × Nat × CO) (u v : Nat), u < (frd tuA q s).1 → v < (frd tuA q s).2.1 →
    ev (frd tuA q s).2.2 u v = ev s.2.2 (frd (tq (frd tuA q s).1 (frd tuA q s).2.1) q (u, v)).1 (frd (tq (frd tuA q s).1 (frd tuA q s).2.1) q (u, v)).2
  | 0, _, _, _, _, _ => rfl
  | q + 1, s, u, v, hu, hv => by
    have e1 : (frd tuA (q + 1) s).1 = (frd tuA q s).2.1 := rfl
    have e2 : (frd tuA (q + 1) s).2.1 = (frd tuA q s).1 := rfl
    rw [frd_head (tq _ _) q]
    have e3 : (fun (x : Nat × Nat) (t : Nat) => tq (frd tuA (q + 1) s).1 (frd tuA (q + 1) s).2.1 x (t + 1)) = tq (frd tuA q s).1 (frd tuA q s).2.1 := by
      funext x t
      rw [tq_shift, e1, e2]
    rw [e3]
    have e4 : tq (frd tuA (q + 1) s).1 (frd tuA (q + 1) s).2.1 (u, v) 0 = (v, (frd tuA q s).2.1 - 1 - u) := rfl
    rw [e4]
    rw [e1] at hu
    rw [e2] at hv
    rw [← ev_turns q s v ((frd tuA q s).2.1 - 1 - u) hv (by omega)]
    rw [frd_s, ev_tu]
    congr 1
    omega
/-- a window: wide, high, where it lies -/
def awF (σ : SG) : Nat → Nat → Nat × Nat × CO
  | 0, i => (nt σ 1 i, nt σ 2 i, (0, 0, 1, 0, 0, 1))
  | f + 1, i => if i < 100 then (nt σ 1 i, nt σ 2 i, (0, 0, 1, 0, 0, 1)) else if σ 16 (i - 100) = 0 then frd tuA (nt σ 15 (i - 100)) (nt σ 13 (i - 100), nt σ 14 (i - 100), paA (awF σ f (nt σ 10 (i - 100))).2.2 (nt σ 11 (i - 100)) (nt σ 12 (i - 100))) else fpA (frd tuA (nt σ 15 (i - 100)) (nt σ 13 (i - 100), nt σ 14 (i - 100), paA (awF σ f (nt σ 10 (i - 100))).2.2 (nt σ 11 (i - 100)) (nt σ 12 (i - 100))))
def aw (σ : SG) (i : Nat) : Nat × Nat × CO := awF σ 13 i
theorem tu_dims (s : Nat × Nat × CO) : ∀ q, (frd tuA q s).1 = (if q % 2 = 0 then s.1 else s.2.1) ∧ (frd tuA q s).2.1 = (if q % 2 = 0 then s.2.1 else s.1)
  | 0 => ⟨rfl, rfl⟩
  | q + 1 => by
    obtain ⟨a, b⟩ := tu_dims s q
    have e1 : (frd tuA (q + 1) s).1 = (frd tuA q s).2.1 := rfl
    have e2 : (frd tuA (q + 1) s).2.1 = (frd tuA q s).1 := rfl
    rw [e1, e2, a, b]
    rcases Nat.mod_two_eq_zero_or_one q with e | e
    · have e2 : ¬ (q + 1) % 2 = 0 := by omega
      simp [e, e2]
    · have e2 : (q + 1) % 2 = 0 := by omega
      simp [e, e2]
theorem aw_dims (σ : SG) (f i : Nat) (hf : i < 100 ∨ i - 100 < f) : (awF σ f i).1 = zW σ i ∧ (awF σ f i).2.1 = zH σ i := by
  cases f with
  | zero =>
    unfold awF zW zH
    rw [if_pos (by omega), if_pos (by omega)]
    exact ⟨rfl, rfl⟩
  | succ f =>
    unfold awF zW zH
    by_cases h1 : i < 100
    · rw [if_pos h1, if_pos h1, if_pos h1]
      exact ⟨rfl, rfl⟩
    · rw [if_neg h1, if_neg h1, if_neg h1]
      obtain ⟨a, b⟩ := tu_dims (nt σ 13 (i - 100), nt σ 14 (i - 100), paA (awF σ f (nt σ 10 (i - 100))).2.2 (nt σ 11 (i - 100)) (nt σ 12 (i - 100))) (nt σ 15 (i - 100))
      split
      · exact ⟨a, b⟩
      · exact ⟨a, b⟩
theorem awF_pl {σ : SG} (I : GI σ) : ∀ f i s, vI σ i → (i < 100 ∨ i - 100 < f) → s.1 < zW σ i → s.2 < zH σ i → ev (awF σ f i).2.2 (s.1 : Nat) (s.2 : Nat) = (((plF σ f i s).2.1 : Int), ((plF σ f i s).2.2 : Int)) := by
  intro f
  induction f with
  | zero =>
    intro i s hv hf h1 h2
    unfold awF plF
    simp only [ev, Prod.mk.injEq]
    constructor <;> omega
  | succ f ih =>
    intro i s hv hf h1 h2
    by_cases hi : i < 100
    · unfold awF plF
      rw [if_pos hi, if_pos hi]
      simp only [ev, Prod.mk.injEq]
      constructor <;> omega
    · have hn := vI_of I hv hi
      have hkk : 100 + (i - 100) = i := by omega
      obtain ⟨d1, d2⟩ := aw_dims σ (f + 1) i hf
      obtain ⟨⟨z1, z2⟩, ⟨z3, z4⟩, -⟩ := sz_bd I i hv
      have hin := vs_in I hn (s := s) (by rw [hkk]; exact h1) (by rw [hkk]; exact h2)
      have hr := ih _ (vs σ (i - 100) s) (vI_up I hv hi) (vI_rk I hv hi hf) hin.1 hin.2
      have e0 : plF σ (f + 1) i s = plF σ f (nt σ 10 (i - 100)) (vs σ (i - 100) s) := by
        conv => lhs; unfold plF
        rw [if_neg hi]
      rw [e0, ← hr]
      have ea : awF σ (f + 1) i = if σ 16 (i - 100) = 0 then frd tuA (nt σ 15 (i - 100)) (nt σ 13 (i - 100), nt σ 14 (i - 100), paA (awF σ f (nt σ 10 (i - 100))).2.2 (nt σ 11 (i - 100)) (nt σ 12 (i - 100))) else fpA (frd tuA (nt σ 15 (i - 100)) (nt σ 13 (i - 100), nt σ 14 (i - 100), paA (awF σ f (nt σ 10 (i - 100))).2.2 (nt σ 11 (i - 100)) (nt σ 12 (i - 100)))) := by
        conv => lhs; unfold awF
        rw [if_neg hi]
      have hvs : vs σ (i - 100) s = ((frd (tq (zW σ i) (zH σ i)) (nt σ 15 (i - 100)) (if σ 16 (i - 100) = 0 then s.1 else zW σ i - 1 - s.1, s.2)).1 + nt σ 11 (i - 100), (frd (tq (zW σ i) (zH σ i)) (nt σ 15 (i - 100)) (if σ 16 (i - 100) = 0 then s.1 else zW σ i - 1 - s.1, s.2)).2 + nt σ 12 (i - 100)) := by
        unfold vs
        rw [hkk]
      rw [ea] at d1 d2 ⊢
      rw [hvs]
      by_cases e16 : σ 16 (i - 100) = 0
      · rw [if_pos e16] at d1 d2 ⊢
        rw [if_pos e16]
        rw [ev_turns _ _ s.1 s.2 (by rw [d1]; exact h1) (by rw [d2]; exact h2), d1, d2]
        dsimp only
        rw [ev_pa]
        simp only [Int.natCast_add]
      · rw [if_neg e16] at d1 d2 ⊢
        rw [if_neg e16]
        have d1' : (frd tuA (nt σ 15 (i - 100)) (nt σ 13 (i - 100), nt σ 14 (i - 100), paA (awF σ f (nt σ 10 (i - 100))).2.2 (nt σ 11 (i - 100)) (nt σ 12 (i - 100)))).1 = zW σ i := d1
        have d2' : (frd tuA (nt σ 15 (i - 100)) (nt σ 13 (i - 100), nt σ 14 (i - 100), paA (awF σ f (nt σ 10 (i - 100))).2.2 (nt σ 11 (i - 100)) (nt σ 12 (i - 100)))).2.1 = zH σ i := d2
        rw [ev_fp, d1']
        have e5 : ((zW σ i : Int) - 1 - (s.1 : Int)) = ((zW σ i - 1 - s.1 : Nat) : Int) := by omega
        rw [e5, ev_turns _ _ (zW σ i - 1 - s.1) s.2 (by rw [d1']; omega) (by rw [d2']; exact h2), d1', d2']
        dsimp only
        rw [ev_pa]
        simp only [Int.natCast_add]
theorem aw_pl {σ : SG} (I : GI σ) {i a b : Nat} (hv : vI σ i) (h1 : a < zW σ i) (h2 : b < zH σ i) : ev (aw σ i).2.2 a b = (((pl σ i a b).2.1 : Int), ((pl σ i a b).2.2 : Int)) :=
  awF_pl I 13 i (a, b) hv (by have := vI_lt I hv; omega) h1 h2
