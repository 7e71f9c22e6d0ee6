/-! ===== the state: the reference's own rows, by number ===== -/
abbrev SG : Type := Nat → Nat → Int32
def su (σ : SG) (f k : Nat) (v : Int32) : SG := fun f' k' => if f' = f ∧ k' = k then v else σ f' k'
def nt (σ : SG) (f k : Nat) : Nat := (σ f k).toNatClampNeg
def ng (σ : SG) : Nat := nt σ 5 0
def nv (σ : SG) : Nat := nt σ 18 0
theorem su_row {σ : SG} {f k : Nat} {v : Int32} : su σ f k v f = upd (σ f) k v := by
  funext q
  simp [su, upd]
theorem su_ne {σ : SG} {f f' k : Nat} {v : Int32} (n : f' ≠ f) : su σ f k v f' = σ f' := by
  funext q
  simp [su, n]
def mob (t u : Int32) (σ : SG) (B : Nat → Nat) : List Value := [.int t, .ref (B 1), .ref (B 2), .ref (B 3), .ref (B 4), .int (σ 5 0), .ref (B 6), .ref (B 7), .ref (B 8), .ref (B 9), .ref (B 10), .ref (B 11), .ref (B 12), .ref (B 13), .ref (B 14), .ref (B 15), .ref (B 16), .ref (B 17), .int (σ 18 0), .int u, .ref (B 20)]
section
variable {t u : Int32} {σ : SG} {B : Nat → Nat}
theorem nm_0 : nth (mob t u σ B) 0 = some (.int t) := rfl
theorem nm_1 : nth (mob t u σ B) 1 = some (.ref (B 1)) := rfl
theorem nm_2 : nth (mob t u σ B) 2 = some (.ref (B 2)) := rfl
theorem nm_3 : nth (mob t u σ B) 3 = some (.ref (B 3)) := rfl
theorem nm_4 : nth (mob t u σ B) 4 = some (.ref (B 4)) := rfl
theorem nm_5 : nth (mob t u σ B) 5 = some (.int (σ 5 0)) := rfl
theorem nm_6 : nth (mob t u σ B) 6 = some (.ref (B 6)) := rfl
theorem nm_7 : nth (mob t u σ B) 7 = some (.ref (B 7)) := rfl
theorem nm_8 : nth (mob t u σ B) 8 = some (.ref (B 8)) := rfl
theorem nm_9 : nth (mob t u σ B) 9 = some (.ref (B 9)) := rfl
theorem nm_10 : nth (mob t u σ B) 10 = some (.ref (B 10)) := rfl
theorem nm_11 : nth (mob t u σ B) 11 = some (.ref (B 11)) := rfl
theorem nm_12 : nth (mob t u σ B) 12 = some (.ref (B 12)) := rfl
theorem nm_13 : nth (mob t u σ B) 13 = some (.ref (B 13)) := rfl
theorem nm_14 : nth (mob t u σ B) 14 = some (.ref (B 14)) := rfl
theorem nm_15 : nth (mob t u σ B) 15 = some (.ref (B 15)) := rfl
theorem nm_16 : nth (mob t u σ B) 16 = some (.ref (B 16)) := rfl
theorem nm_17 : nth (mob t u σ B) 17 = some (.ref (B 17)) := rfl
theorem nm_18 : nth (mob t u σ B) 18 = some (.int (σ 18 0)) := rfl
theorem nm_19 : nth (mob t u σ B) 19 = some (.int u) := rfl
theorem nm_20 : nth (mob t u σ B) 20 = some (.ref (B 20)) := rfl
theorem len_m : (mob t u σ B).length = 21 := rfl
theorem set_m0 {v : Int32} : (mob t u σ B).set 0 (.int v) = mob v u σ B := rfl
theorem set_m19 {v : Int32} : (mob t u σ B).set 19 (.int v) = mob t v σ B := rfl
theorem set_m5 {v : Int32} : (mob t u σ B).set 5 (.int v) = mob t u (su σ 5 0 v) B := rfl
theorem set_m18 {v : Int32} : (mob t u σ B).set 18 (.int v) = mob t u (su σ 18 0 v) B := rfl
theorem mob_su {f k : Nat} {v : Int32} (h5 : f ≠ 5) (h18 : f ≠ 18) : mob t u (su σ f k v) B = mob t u σ B := by
  unfold mob
  rw [su_ne (Ne.symm h5), su_ne (Ne.symm h18)]
end
def mlen (f : Nat) : Nat := match f with
  | 1 => 8 | 2 => 8 | 3 => 15360 | 4 => 15360 | 6 => 307200 | 7 => 307200 | 8 => 8 | 9 => 5 | 20 => 30 | _ => 12
def mty (f : Nat) : Nat := match f with
  | 4 => 2 | 7 => 2 | 9 => 2 | 16 => 2 | 17 => 2 | 20 => 2 | _ => 0
def mar (f : Nat) : Prop := f ≤ 20 ∧ f ≠ 0 ∧ f ≠ 5 ∧ f ≠ 18 ∧ f ≠ 19
/-- the reference in the heap: thrown t, found u, isRead as row 20 of σ -/
def MR (Y : Nat → ClassId) (B : Nat → Nat) (m : Nat) (t u : Int32) (σ : SG) (h : AH) : Prop := h m = some (.inr (6, mob t u σ B)) ∧ (∀ f, mar f → h (B f) = some (.inl (Y (mty f), (mlen f, .inl (σ f))))) ∧ ∀ f f', mar f → mar f' → B f = B f' → f = f'
def MB (B : Nat → Nat) (m a : Nat) : Prop := a = m ∨ ∃ f, mar f ∧ a = B f
def frM (B : Nat → Nat) (m : Nat) (h h' : AH) : Prop := ∀ a, ¬ MB B m a → h' a = h a
theorem frM.rfl {B : Nat → Nat} {m : Nat} {h : AH} : frM B m h h := fun _ _ => Eq.refl _
theorem frM.tr {B : Nat → Nat} {m : Nat} {h h' h'' : AH} (x : frM B m h h') (y : frM B m h' h'') : frM B m h h'' := fun a n => (y a n).trans (x a n)
section
variable {Y : Nat → ClassId} {B : Nat → Nat} {m : Nat} {t u : Int32} {σ : SG} {h : AH}
theorem MR.a1 (M : MR Y B m t u σ h) : h (B 1) = some (eI Y 8 (σ 1)) := M.2.1 1 (by simp [mar])
theorem MR.a2 (M : MR Y B m t u σ h) : h (B 2) = some (eI Y 8 (σ 2)) := M.2.1 2 (by simp [mar])
theorem MR.a3 (M : MR Y B m t u σ h) : h (B 3) = some (eI Y 15360 (σ 3)) := M.2.1 3 (by simp [mar])
theorem MR.a4 (M : MR Y B m t u σ h) : h (B 4) = some (eZ Y 15360 (σ 4)) := M.2.1 4 (by simp [mar])
theorem MR.a6 (M : MR Y B m t u σ h) : h (B 6) = some (eI Y 307200 (σ 6)) := M.2.1 6 (by simp [mar])
theorem MR.a7 (M : MR Y B m t u σ h) : h (B 7) = some (eZ Y 307200 (σ 7)) := M.2.1 7 (by simp [mar])
theorem MR.a8 (M : MR Y B m t u σ h) : h (B 8) = some (eI Y 8 (σ 8)) := M.2.1 8 (by simp [mar])
theorem MR.a9 (M : MR Y B m t u σ h) : h (B 9) = some (eZ Y 5 (σ 9)) := M.2.1 9 (by simp [mar])
theorem MR.a10 (M : MR Y B m t u σ h) : h (B 10) = some (eI Y 12 (σ 10)) := M.2.1 10 (by simp [mar])
theorem MR.a11 (M : MR Y B m t u σ h) : h (B 11) = some (eI Y 12 (σ 11)) := M.2.1 11 (by simp [mar])
theorem MR.a12 (M : MR Y B m t u σ h) : h (B 12) = some (eI Y 12 (σ 12)) := M.2.1 12 (by simp [mar])
theorem MR.a13 (M : MR Y B m t u σ h) : h (B 13) = some (eI Y 12 (σ 13)) := M.2.1 13 (by simp [mar])
theorem MR.a14 (M : MR Y B m t u σ h) : h (B 14) = some (eI Y 12 (σ 14)) := M.2.1 14 (by simp [mar])
theorem MR.a15 (M : MR Y B m t u σ h) : h (B 15) = some (eI Y 12 (σ 15)) := M.2.1 15 (by simp [mar])
theorem MR.a16 (M : MR Y B m t u σ h) : h (B 16) = some (eZ Y 12 (σ 16)) := M.2.1 16 (by simp [mar])
theorem MR.a17 (M : MR Y B m t u σ h) : h (B 17) = some (eZ Y 12 (σ 17)) := M.2.1 17 (by simp [mar])
theorem MR.a20 (M : MR Y B m t u σ h) : h (B 20) = some (eZ Y 30 (σ 20)) := M.2.1 20 (by simp [mar])
theorem MR.ne (M : MR Y B m t u σ h) {f : Nat} (hf : mar f) : m ≠ B f := fun z => by
  have h1 := M.1
  rw [z, M.2.1 f hf] at h1
  cases h1
theorem MR.seta (M : MR Y B m t u σ h) {f : Nat} (hf : mar f) (k : Nat) (v : Int32) : MR Y B m t u (su σ f k v) (up h (B f) (.inl (Y (mty f), (mlen f, .inl (upd (σ f) k v))))) := by
  refine ⟨?_, fun f' hf' => ?_, M.2.2⟩
  · rw [up_ne (M.ne hf), mob_su hf.2.2.1 hf.2.2.2.1]
    exact M.1
  · by_cases e : f' = f
    · subst e
      rw [up_same, su_row]
    · rw [up_ne (fun z => e (M.2.2 _ _ hf' hf z)), su_ne e]
      exact M.2.1 f' hf'
theorem MR.setm (M : MR Y B m t u σ h) {t' u' : Int32} {σ' : SG} (hs : ∀ f, mar f → σ' f = σ f) : MR Y B m t' u' σ' (up h m (.inr (6, mob t' u' σ' B))) := by
  refine ⟨up_same, fun f hf => ?_, M.2.2⟩
  rw [up_ne (Ne.symm (M.ne hf)), hs f hf]
  exact M.2.1 f hf
theorem frM.a (f k : Nat) (hf : mar f) {e : va_E} : frM B m h (up h (B f) e) := fun a n => up_ne (fun z => n (Or.inr ⟨f, hf, z⟩))
theorem frM.mm {e : va_E} : frM B m h (up h m e) := fun a n => up_ne (fun z => n (Or.inl z))
end
/-- an answer of the reference: its value, its state behind, nothing else changed -/
def mp (Y : Nat → ClassId) (B : Nat → Nat) (m : Nat) (h : AH) (v : Value) (t u : Int32) (σ : SG) : Option Value → AH → Prop := fun v' h' => v' = some v ∧ MR Y B m t u σ h' ∧ frM B m h h'
/-! ===== geometry ===== -/
def zW (σ : SG) (i : Nat) : Nat := if i < 100 then nt σ 1 i else if nt σ 15 (i - 100) % 2 = 0 then nt σ 13 (i - 100) else nt σ 14 (i - 100)
def zH (σ : SG) (i : Nat) : Nat := if i < 100 then nt σ 2 i else if nt σ 15 (i - 100) % 2 = 0 then nt σ 14 (i - 100) else nt σ 13 (i - 100)
def vI (σ : SG) (i : Nat) : Prop := i < ng σ ∨ (100 ≤ i ∧ i < 100 + nv σ)
def GIg (σ : SG) (g : Nat) : Prop := σ 1 g = nI (nt σ 1 g) ∧ σ 2 g = nI (nt σ 2 g) ∧ 1 ≤ nt σ 1 g ∧ nt σ 1 g ≤ 48 ∧ 1 ≤ nt σ 2 g ∧ nt σ 2 g ≤ 40
def GIv (σ : SG) (n : Nat) : Prop := (σ 10 n = nI (nt σ 10 n) ∧ σ 11 n = nI (nt σ 11 n) ∧ σ 12 n = nI (nt σ 12 n) ∧ σ 13 n = nI (nt σ 13 n) ∧ σ 14 n = nI (nt σ 14 n) ∧ σ 15 n = nI (nt σ 15 n)) ∧ (nt σ 10 n < ng σ ∨ (100 ≤ nt σ 10 n ∧ nt σ 10 n < 100 + n)) ∧ (1 ≤ nt σ 13 n ∧ nt σ 11 n + nt σ 13 n ≤ zW σ (nt σ 10 n)) ∧ (1 ≤ nt σ 14 n ∧ nt σ 12 n + nt σ 14 n ≤ zH σ (nt σ 10 n)) ∧ nt σ 15 n ≤ 3 ∧ (σ 16 n = 0 ∨ σ 16 n = 1) ∧ (σ 17 n = 0 ∨ σ 17 n = 1)
def GI (σ : SG) : Prop := (ng σ ≤ 8 ∧ σ 5 0 = nI (ng σ)) ∧ (nv σ ≤ 12 ∧ σ 18 0 = nI (nv σ)) ∧ (∀ g, g < ng σ → GIg σ g) ∧ ∀ n, n < nv σ → GIv σ n
theorem sz_bd {σ : SG} (I : GI σ) : ∀ i, vI σ i → (1 ≤ zW σ i ∧ zW σ i ≤ 48) ∧ (1 ≤ zH σ i ∧ zH σ i ≤ 48) ∧ zW σ i * zH σ i ≤ 1920 := by
  intro i
  induction i using Nat.strongRecOn with
  | _ i ih =>
    intro hv
    obtain ⟨⟨h8, -⟩, ⟨h12, -⟩, hg, hn⟩ := I
    by_cases h1 : i < 100
    · have hi : i < ng σ := by rcases hv with q | q <;> omega
      obtain ⟨-, -, a1, a2, a3, a4⟩ := hg i hi
      unfold zW zH
      rw [if_pos h1, if_pos h1]
      exact ⟨⟨a1, a2⟩, ⟨a3, by omega⟩, Nat.mul_le_mul a2 a4⟩
    · have hi : i - 100 < nv σ := by rcases hv with q | q <;> omega
      obtain ⟨-, ho, ⟨b1, b2⟩, ⟨b3, b4⟩, -⟩ := hn _ hi
      obtain ⟨⟨c1, c2⟩, ⟨c3, c4⟩, c5⟩ := ih (nt σ 10 (i - 100)) (by omega) (ho.elim (fun q => Or.inl q) (fun q => Or.inr ⟨q.1, by omega⟩))
      have d1 : nt σ 13 (i - 100) * nt σ 14 (i - 100) ≤ zW σ (nt σ 10 (i - 100)) * zH σ (nt σ 10 (i - 100)) := Nat.mul_le_mul (by omega) (by omega)
      unfold zW zH
      rw [if_neg h1, if_neg h1]
      by_cases e : nt σ 15 (i - 100) % 2 = 0
      · rw [if_pos e, if_pos e]
        unfold zW zH at *
        exact ⟨⟨b1, by omega⟩, ⟨b3, by omega⟩, by omega⟩
      · rw [if_neg e, if_neg e]
        unfold zW zH at *
        exact ⟨⟨b3, by omega⟩, ⟨b1, by omega⟩, by rw [Nat.mul_comm]; omega⟩
def tq (w hgt : Nat) (s : Nat × Nat) (t : Nat) : Nat × Nat := (s.2, (if t % 2 = 0 then w else hgt) - 1 - s.1)
def vs (σ : SG) (n : Nat) (s : Nat × Nat) : Nat × Nat := ((frd (tq (zW σ (100 + n)) (zH σ (100 + n))) (nt σ 15 n) (if σ 16 n = 0 then s.1 else zW σ (100 + n) - 1 - s.1, s.2)).1 + nt σ 11 n, (frd (tq (zW σ (100 + n)) (zH σ (100 + n))) (nt σ 15 n) (if σ 16 n = 0 then s.1 else zW σ (100 + n) - 1 - s.1, s.2)).2 + nt σ 12 n)
def plF (σ : SG) : Nat → Nat → Nat × Nat → Nat × Nat × Nat
  | 0, i, s => (i, s)
  | f + 1, i, s => if i < 100 then (i, s) else plF σ f (nt σ 10 (i - 100)) (vs σ (i - 100) s)
def roF (σ : SG) : Nat → Nat → Nat
  | 0, i => i
  | f + 1, i => if i < 100 then i else roF σ f (nt σ 10 (i - 100))
def pl (σ : SG) (i u v : Nat) : Nat × Nat × Nat := plF σ 13 i (u, v)
def ro (σ : SG) (i : Nat) : Nat := roF σ 13 i
theorem plF_ro (σ : SG) : ∀ f i s, (plF σ f i s).1 = roF σ f i
  | 0, _, _ => rfl
  | f + 1, i, s => by
    unfold plF roF
    split
    · rfl
    · exact plF_ro σ f _ _
/-- the number of a place -/
def pq (p : Nat × Nat × Nat) : Nat := 1920 * p.1 + 48 * p.2.2 + p.2.1
def pn (σ : SG) (i u v : Nat) : Nat := pq (pl σ i u v)
theorem tq_in {w hgt : Nat} {s : Nat × Nat} (h1 : s.1 < w) (h2 : s.2 < hgt) : ∀ q, (frd (tq w hgt) q s).1 < (if q % 2 = 0 then w else hgt) ∧ (frd (tq w hgt) q s).2 < (if q % 2 = 0 then hgt else w)
  | 0 => ⟨h1, h2⟩
  | q + 1 => by
    obtain ⟨a, b⟩ := tq_in h1 h2 q
    rw [frd_s]
    unfold tq
    rcases Nat.mod_two_eq_zero_or_one q with e | e
    · have e1 : ¬ (q + 1) % 2 = 0 := by omega
      rw [if_pos e] at a b
      rw [if_neg e1, if_neg e1]
      refine ⟨b, ?_⟩
      show (if q % 2 = 0 then w else hgt) - 1 - _ < w
      rw [if_pos e]; unfold tq at a; omega
    · have e0 : ¬ q % 2 = 0 := by omega
      have e1 : (q + 1) % 2 = 0 := by omega
      rw [if_neg e0] at a b
      rw [if_pos e1, if_pos e1]
      refine ⟨b, ?_⟩
      show (if q % 2 = 0 then w else hgt) - 1 - _ < hgt
      rw [if_neg e0]; unfold tq at a; omega
theorem vs_in {σ : SG} (I : GI σ) {n : Nat} (hn : n < nv σ) {s : Nat × Nat} (h1 : s.1 < zW σ (100 + n)) (h2 : s.2 < zH σ (100 + n)) : (vs σ n s).1 < zW σ (nt σ 10 n) ∧ (vs σ n s).2 < zH σ (nt σ 10 n) := by
  obtain ⟨-, -, ⟨b1, b2⟩, ⟨b3, b4⟩, -⟩ := I.2.2.2 n hn
  have hs : (if σ 16 n = 0 then s.1 else zW σ (100 + n) - 1 - s.1, s.2).1 < zW σ (100 + n) := by
    dsimp only
    split <;> omega
  obtain ⟨a, b⟩ := tq_in (w := zW σ (100 + n)) (hgt := zH σ (100 + n)) (s := (if σ 16 n = 0 then s.1 else zW σ (100 + n) - 1 - s.1, s.2)) hs h2 (nt σ 15 n)
  have w1 : zW σ (100 + n) = if nt σ 15 n % 2 = 0 then nt σ 13 n else nt σ 14 n := by unfold zW; rw [if_neg (by omega), Nat.add_sub_cancel_left]
  have w2 : zH σ (100 + n) = if nt σ 15 n % 2 = 0 then nt σ 14 n else nt σ 13 n := by unfold zH; rw [if_neg (by omega), Nat.add_sub_cancel_left]
  unfold vs
  dsimp only
  by_cases e : nt σ 15 n % 2 = 0
  · rw [if_pos e] at a b w1 w2
    omega
  · rw [if_neg e] at a b w1 w2
    omega
theorem plF_in {σ : SG} (I : GI σ) : ∀ f i s, vI σ i → (i < 100 ∨ i - 100 < f) → s.1 < zW σ i → s.2 < zH σ i → (plF σ f i s).1 < ng σ ∧ (plF σ f i s).2.1 < nt σ 1 (plF σ f i s).1 ∧ (plF σ f i s).2.2 < nt σ 2 (plF σ f i s).1 := by
  intro f
  induction f with
  | zero =>
    intro i s hv hr h1 h2
    have hi : i < ng σ := by rcases hv with q | q <;> omega
    have h8 := I.1.1
    unfold zW at h1; unfold zH at h2
    rw [if_pos (by omega)] at h1 h2
    exact ⟨hi, h1, h2⟩
  | succ f ih =>
    intro i s hv hr h1 h2
    unfold plF
    by_cases hi : i < 100
    · rw [if_pos hi]
      have hg : i < ng σ := by rcases hv with q | q <;> omega
      unfold zW at h1; unfold zH at h2
      rw [if_pos hi] at h1 h2
      exact ⟨hg, h1, h2⟩
    · rw [if_neg hi]
      have hn : i - 100 < nv σ := by rcases hv with q | q <;> (have := I.1.1; omega)
      have e : 100 + (i - 100) = i := by omega
      obtain ⟨a, b⟩ := vs_in I hn (s := s) (by rw [e]; exact h1) (by rw [e]; exact h2)
      obtain ⟨-, ho, -⟩ := I.2.2.2 _ hn
      refine ih _ _ ?_ ?_ a b
      · rcases ho with q | q
        · exact Or.inl q
        · exact Or.inr ⟨q.1, by omega⟩
      · have := I.1.1
        rcases ho with q | q <;> omega
theorem pl_in {σ : SG} (I : GI σ) {i u v : Nat} (hv : vI σ i) (h1 : u < zW σ i) (h2 : v < zH σ i) : (pl σ i u v).1 < ng σ ∧ (pl σ i u v).2.1 < nt σ 1 (pl σ i u v).1 ∧ (pl σ i u v).2.2 < nt σ 2 (pl σ i u v).1 :=
  plF_in I 13 i (u, v) hv (by rcases hv with q | q <;> (have := I.1.1; have := I.2.1.1; omega)) h1 h2
theorem pq_lt {σ : SG} (I : GI σ) {p : Nat × Nat × Nat} (h1 : p.1 < ng σ) (h2 : p.2.1 < nt σ 1 p.1) (h3 : p.2.2 < nt σ 2 p.1) : pq p < 15360 := by
  obtain ⟨-, -, -, a, -, b⟩ := I.2.2.1 _ h1
  have := I.1.1
  unfold pq
  omega
theorem pn_lt {σ : SG} (I : GI σ) {i u v : Nat} (hv : vI σ i) (h1 : u < zW σ i) (h2 : v < zH σ i) : pn σ i u v < 15360 := by
  obtain ⟨a, b, c⟩ := pl_in I hv h1 h2
  exact pq_lt I a b c
