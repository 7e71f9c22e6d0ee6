/-! ===== sums of rectangles, direct and by corners ===== -/
def ads (S : Int64 × Nat) (o : Option Int32) : Int64 × Nat := match o with | none => S | some v => (S.1 + v.toInt64, S.2 + 1)
def rwS (co : Nat → Nat → Option Int32) (fx n r : Nat) (S : Int64 × Nat) : Int64 × Nat := frd (fun S k => ads S (co (fx + k) r)) n S
def dS (co : Nat → Nat → Option Int32) (fx n fy k : Nat) : Int64 × Nat := frd (fun S r => rwS co fx n (fy + r) S) k (0, 0)
abbrev cfO (co : Nat → Nat → Option Int32) : Nat → Nat → Int64 := fun a b => c2l (co a b)
theorem rS_s (co : Nat → Nat → Option Int32) (j x : Nat) : rS (cfO co) j (x + 1) = rS (cfO co) j x + (match co x j with | none => 0 | some v => v.toInt64) ∧ rN (cfO co) j (x + 1) = rN (cfO co) j x + (match co x j with | none => 0 | some _ => 1) := by
  rw [rS, rN]
  cases h : co x j with
  | none =>
    have e : cfO co x j = HOLE := by show c2l (co x j) = HOLE; rw [h]; rfl
    rw [if_pos e, if_pos e]
    exact ⟨rfl, rfl⟩
  | some v =>
    have e1 : cfO co x j = v.toInt64 := by show c2l (co x j) = _; rw [h]; rfl
    have e : ¬ cfO co x j = HOLE := by
      show ¬ c2l (co x j) = HOLE
      rw [c2l_hole, h]
      exact fun z => by cases z
    rw [if_neg e, if_neg e, e1]
    exact ⟨rfl, rfl⟩
theorem rwS_eq (co : Nat → Nat → Option Int32) (fx r : Nat) (S : Int64 × Nat) : ∀ n, (rwS co fx n r S).1 = S.1 + (rS (cfO co) r (fx + n) - rS (cfO co) r fx) ∧ (rwS co fx n r S).2 + rN (cfO co) r fx = S.2 + rN (cfO co) r (fx + n)
  | 0 => by
    refine ⟨?_, rfl⟩
    show S.1 = S.1 + (rS (cfO co) r fx - rS (cfO co) r fx)
    grind
  | n + 1 => by
    obtain ⟨a, b⟩ := rwS_eq co fx r S n
    obtain ⟨c, d⟩ := rS_s co r (fx + n)
    have e : rwS co fx (n + 1) r S = ads (rwS co fx n r S) (co (fx + n) r) := rfl
    have e2 : fx + (n + 1) = fx + n + 1 := rfl
    rw [e, e2, c, d]
    unfold ads
    cases h : co (fx + n) r with
    | none =>
      dsimp only
      refine ⟨?_, by omega⟩
      rw [a]
      grind
    | some v =>
      dsimp only
      refine ⟨?_, by omega⟩
      rw [a]
      grind
theorem dS_eq (co : Nat → Nat → Option Int32) (fx n fy : Nat) : ∀ k, (dS co fx n fy k).1 = pS (cfO co) (fx + n) (fy + k) - pS (cfO co) fx (fy + k) - pS (cfO co) (fx + n) fy + pS (cfO co) fx fy ∧ (dS co fx n fy k).2 + pN (cfO co) fx (fy + k) + pN (cfO co) (fx + n) fy = pN (cfO co) (fx + n) (fy + k) + pN (cfO co) fx fy
  | 0 => by
    have e : dS co fx n fy 0 = (0, 0) := rfl
    rw [e, Nat.add_zero]
    refine ⟨?_, by dsimp only; omega⟩
    show (0 : Int64) = _
    grind
  | k + 1 => by
    obtain ⟨a, b⟩ := dS_eq co fx n fy k
    obtain ⟨c, d⟩ := rwS_eq co fx (fy + k) (dS co fx n fy k) n
    have e : dS co fx n fy (k + 1) = rwS co fx n (fy + k) (dS co fx n fy k) := rfl
    have e2 : fy + (k + 1) = fy + k + 1 := rfl
    rw [e, e2, pS, pS, pN, pN, c]
    refine ⟨?_, by omega⟩
    rw [a]
    grind
theorem dS_SQ {co : Nat → Nat → Option Int32} {w hh : Nat} {ts : Nat → Int64} {tn : Nat → Int32} (hok : okT (cfO co) w ts tn hh 0) {fx tx fy ty : Nat} (h1 : fx ≤ tx) (h2 : tx ≤ w) (h3 : fy ≤ ty) (h4 : ty ≤ hh) :
    SQ ts w fx fy tx ty = (dS co fx (tx - fx) fy (ty - fy)).1 ∧ NQ tn w fx fy tx ty = nI (dS co fx (tx - fx) fy (ty - fy)).2 := by
  obtain ⟨a, b⟩ := dS_eq co fx (tx - fx) fy (ty - fy)
  rw [show fx + (tx - fx) = tx by omega, show fy + (ty - fy) = ty by omega] at a b
  unfold SQ NQ
  rw [(hok.1 tx ty h2 h4).1, (hok.1 fx ty (by omega) h4).1, (hok.1 tx fy h2 (by omega)).1, (hok.1 fx fy (by omega) (by omega)).1, (hok.1 tx ty h2 h4).2, (hok.1 fx ty (by omega) h4).2, (hok.1 tx fy h2 (by omega)).2, (hok.1 fx fy (by omega) (by omega)).2, a]
  refine ⟨rfl, ?_⟩
  have e := congrArg nI b
  rw [← nI_add, ← nI_add, ← nI_add] at e
  generalize nI (dS co fx (tx - fx) fy (ty - fy)).2 = x1 at e ⊢
  generalize nI (pN (cfO co) fx ty) = x2 at e ⊢
  generalize nI (pN (cfO co) tx fy) = x3 at e ⊢
  generalize nI (pN (cfO co) tx ty) = x4 at e ⊢
  generalize nI (pN (cfO co) fx fy) = x5 at e ⊢
  grind
theorem dS_le (co : Nat → Nat → Option Int32) (fx n fy : Nat) (k : Nat) : (dS co fx n fy k).2 ≤ k * n := by
  have h1 : ∀ r S, ∀ n, (rwS co fx n r S).2 ≤ S.2 + n := by
    intro r S n
    induction n with
    | zero => exact Nat.le_refl _
    | succ n ih =>
      have e : rwS co fx (n + 1) r S = ads (rwS co fx n r S) (co (fx + n) r) := rfl
      rw [e]
      unfold ads
      split
      · omega
      · dsimp only; omega
  induction k with
  | zero => exact Nat.zero_le _
  | succ k ih =>
    have e : dS co fx n fy (k + 1) = rwS co fx n (fy + k) (dS co fx n fy k) := rfl
    rw [e]
    have := h1 (fy + k) (dS co fx n fy k) n
    rw [Nat.succ_mul]
    omega
