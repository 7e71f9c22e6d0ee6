/-! ===== the machine behind a light heap: words, worlds, cells by address ===== -/
abbrev AH : Type := Nat → Option va_E
abbrev Lo : Type := List (Nat × Value)
abbrev KT : Type := Nat → Lo → List Value → AH → Prop
abbrev En : Type := Instr × Nat × Nat × Int32 × Nat × Nat × FieldType
abbrev HOLE : Int64 := 4294967296
def ALL : List Cond := lw_tbl.filter goodWord
def tyF (T : u_T) (k : Nat) : FieldType := (parseFieldDescriptor (T k).2.2.1).getD .int
theorem uw_ok : ∀ r ∈ vwCl, ∀ w ∈ u_ws r.1 r.2.1 r.2.2, w ∈ ALL := by decide +kernel
theorem ty_ok : ∀ r ∈ vwCl, ∀ k, k < r.2.2 → parseFieldDescriptor (r.2.1 k).2.2.1 = some (tyF r.2.1 k) := by decide +kernel
theorem nm_ok : ∀ r ∈ vwCl, ∀ a, a < r.2.2 → ∀ b, b < r.2.2 → a ≠ b → (r.2.1 a).2.1 ≠ (r.2.1 b).2.1 := by decide +kernel
theorem all_good : GoodIn lw_tbl ALL := fun w h => ⟨(List.mem_filter.mp h).1, good_of_word (List.mem_filter.mp h).2⟩
theorem all_self : GoodIn ALL ALL := fun w h => ⟨h, good_of_word (List.mem_filter.mp h).2⟩
def up (h : AH) (a : Nat) (e : va_E) : AH := fun q => if q = a then some e else h q
theorem up_same {h : AH} {a : Nat} {e : va_E} : up h a e a = some e := if_pos rfl
theorem up_ne {h : AH} {a q : Nat} {e : va_E} (n : q ≠ a) : up h a e q = h q := if_neg n
def Rl (D : va_G) (b0 : Nat) (h : AH) (H : Heap) : Prop := ∀ (a : Nat) (e : va_E), h a = some e → b0 ≤ a ∧ va_at D vwCl (a, e) H
/-- the heap's cells as a list -/
def dm (h : AH) (n : Nat) : va_W := (List.range n).filterMap fun a => (h a).map fun e => (a, e)
theorem dm_mem {h : AH} {n a : Nat} {e : va_E} : (a, e) ∈ dm h n ↔ a < n ∧ h a = some e := by
  unfold dm
  rw [List.mem_filterMap]
  constructor
  · rintro ⟨x, hx, h1⟩
    cases hq : h x with
    | none => rw [hq] at h1; cases h1
    | some e1 =>
      rw [hq] at h1
      cases h1
      exact ⟨List.mem_range.mp hx, hq⟩
  · rintro ⟨h1, h2⟩
    exact ⟨a, List.mem_range.mpr h1, by rw [h2]; rfl⟩
theorem dm_pair (h : AH) (n : Nat) : (dm h n).Pairwise (fun p q => p.1 < q.1) := by
  unfold dm
  rw [List.pairwise_filterMap]
  refine List.Pairwise.imp ?_ List.pairwise_lt_range
  intro a b hab p hp q hq
  cases ha : h a with
  | none => rw [ha] at hp; cases hp
  | some e1 =>
    cases hb : h b with
    | none => rw [hb] at hq; cases hq
    | some e2 =>
      rw [ha] at hp; rw [hb] at hq
      cases hp; cases hq
      exact hab
theorem dm_inj {h : AH} {n i j : Nat} {p q : Nat × va_E} (hi : (dm h n)[i]? = some p) (hj : (dm h n)[j]? = some q) (e : p.1 = q.1) : i = j := by
  have hp := dm_pair h n
  rw [List.pairwise_iff_getElem] at hp
  obtain ⟨h1, h2⟩ := List.getElem?_eq_some_iff.mp hi
  obtain ⟨h3, h4⟩ := List.getElem?_eq_some_iff.mp hj
  rcases Nat.lt_trichotomy i j with q1 | q1 | q1
  · have := hp i j h1 h3 q1
    rw [h2, h4] at this; omega
  · exact q1
  · have := hp j i h3 h1 q1
    rw [h2, h4] at this; omega
section RlS
variable {D : va_G} {b0 : Nat} {h : AH} {H H1 : Heap}
theorem Rl.lt (hR : Rl D b0 h H) {a : Nat} {e : va_E} (ha : h a = some e) : a < H.size := va_at.lt (hR a e ha).2
theorem Rl.P (hR : Rl D b0 h H) : va_P D vwCl (dm h H.size) H := by
  intro k q hk
  have hm := List.mem_of_getElem? hk
  obtain ⟨a, e⟩ := q
  exact (hR a e (dm_mem.mp hm).2).2
theorem Rl.Dd (hR : Rl D b0 h H) : va_D (fun q => b0 ≤ q) (dm h H.size) := by
  refine ⟨fun i j p q hi hj e => dm_inj hi hj e, fun k q hk => ?_⟩
  have hm := List.mem_of_getElem? hk
  obtain ⟨a, e⟩ := q
  exact (hR a e (dm_mem.mp hm).2).1
theorem Rl.at (hR : Rl D b0 h H) {a : Nat} {e : va_E} (ha : h a = some e) : ∃ k : Nat, (dm h H.size)[k]? = some (a, e) := by
  have hm : (a, e) ∈ dm h H.size := dm_mem.mpr ⟨hR.lt ha, ha⟩
  exact List.getElem?_of_mem hm
theorem Rl.set (hR : Rl D b0 h H) {a k : Nat} {e e1 : va_E} (ha : h a = some e) (hk : (dm h H.size)[k]? = some (a, e)) (hP : va_P D vwCl ((dm h H.size).set k (a, e1)) H1) : Rl D b0 (up h a e1) H1 := by
  intro q x hq
  by_cases hqa : q = a
  · subst hqa
    rw [up_same] at hq
    cases hq
    refine ⟨(hR q e ha).1, hP k _ ?_⟩
    rw [List.getElem?_set_self (List.getElem?_eq_some_iff.mp hk).1]
  · rw [up_ne hqa] at hq
    obtain ⟨i, hi⟩ := hR.at hq
    refine ⟨(hR q x hq).1, hP i _ ?_⟩
    rw [List.getElem?_set_ne]
    · exact hi
    · intro e9
      subst e9
      rw [hk] at hi
      exact hqa (congrArg Prod.fst (Option.some.inj hi)).symm
theorem Rl.push (hR : Rl D b0 h H) {q0 : Nat} {e1 : va_E} (hP : va_P D vwCl (dm h H.size ++ [(q0, e1)]) H1) (hD : va_D (fun q => b0 ≤ q) (dm h H.size ++ [(q0, e1)])) : h q0 = none ∧ Rl D b0 (up h q0 e1) H1 := by
  have hlast : (dm h H.size ++ [(q0, e1)])[(dm h H.size).length]? = some (q0, e1) := by simp
  have hn : h q0 = none := by
    cases hq : h q0 with
    | none => rfl
    | some e =>
      obtain ⟨i, hi⟩ := hR.at hq
      have hil := (List.getElem?_eq_some_iff.mp hi).1
      have h1 : (dm h H.size ++ [(q0, e1)])[i]? = some (q0, e) := by rw [List.getElem?_append_left hil]; exact hi
      have := hD.1 i _ _ _ h1 hlast rfl
      omega
  refine ⟨hn, fun q x hq => ?_⟩
  by_cases hqa : q = q0
  · subst hqa
    rw [up_same] at hq
    cases hq
    exact ⟨hD.2 _ _ hlast, hP _ _ hlast⟩
  · rw [up_ne hqa] at hq
    obtain ⟨i, hi⟩ := hR.at hq
    have hil := (List.getElem?_eq_some_iff.mp hi).1
    exact ⟨(hR q x hq).1, hP i _ (by rw [List.getElem?_append_left hil]; exact hi)⟩
theorem Rl.kept (hR : Rl D b0 h H) (hk : ∀ q : Nat, q < H.size → H1[q]? = H[q]?) : Rl D b0 h H1 := fun a e ha =>
  ⟨(hR a e ha).1, (hR a e ha).2.kept (hk a (hR.lt ha))⟩
end RlS
/-! ===== locals ===== -/
def gl : Lo → Nat → Option Value
  | [], _ => none
  | (j, v) :: r, i => if j = i then some v else gl r i
theorem gl_mem : ∀ {ls : Lo} {i : Nat} {v : Value}, gl ls i = some v → (i, v) ∈ ls
  | [], _, _, h => by cases h
  | (j, w) :: r, i, v, h => by
    unfold gl at h
    by_cases e : j = i
    · rw [if_pos e] at h
      cases h; subst e
      exact List.mem_cons_self
    · rw [if_neg e] at h
      exact List.mem_cons_of_mem _ (gl_mem h)
def ins (i : Nat) (v : Value) : Lo → Lo
  | [] => [(i, v)]
  | (j, w) :: r => if i < j then (i, v) :: (j, w) :: r else (j, w) :: ins i v r
theorem ins_mem {i : Nat} {v : Value} {q : Nat × Value} : ∀ {ls : Lo}, q ∈ ins i v ls → q = (i, v) ∨ q ∈ ls
  | [], h => Or.inl (List.mem_singleton.mp h)
  | (j, w) :: r, h => by
    unfold ins at h
    by_cases e : i < j
    · rw [if_pos e] at h
      rcases List.mem_cons.mp h with h | h
      · exact Or.inl h
      · exact Or.inr h
    · rw [if_neg e] at h
      rcases List.mem_cons.mp h with h | h
      · exact Or.inr (by rw [h]; exact List.mem_cons_self)
      · rcases ins_mem h with h | h
        · exact Or.inl h
        · exact Or.inr (List.mem_cons_of_mem _ h)
def rm1 (i : Nat) : Lo → Lo
  | [] => []
  | (j, w) :: r => if j = i then rm1 i r else if j + 1 = i then (if w.category = 2 then rm1 i r else (j, w) :: rm1 i r) else (j, w) :: rm1 i r
def rm2 (i : Nat) : Lo → Lo
  | [] => []
  | (j, w) :: r => if j = i then rm2 i r else if j = i + 1 then rm2 i r else if j + 1 = i then (if w.category = 2 then rm2 i r else (j, w) :: rm2 i r) else (j, w) :: rm2 i r
theorem rm1_mem {i : Nat} {q : Nat × Value} : ∀ {ls : Lo}, q ∈ rm1 i ls → q ∈ ls ∧ q.1 ≠ i ∧ ¬ (q.1 + 1 = i ∧ q.2.category = 2)
  | [], h => by cases h
  | (j, w) :: r, h => by
    unfold rm1 at h
    split at h
    · exact ⟨List.mem_cons_of_mem _ (rm1_mem h).1, (rm1_mem h).2⟩
    · rename_i n1
      split at h
      · rename_i n2
        split at h
        · exact ⟨List.mem_cons_of_mem _ (rm1_mem h).1, (rm1_mem h).2⟩
        · rename_i n3
          rcases List.mem_cons.mp h with h | h
          · rw [h]; exact ⟨List.mem_cons_self, n1, fun z => n3 z.2⟩
          · exact ⟨List.mem_cons_of_mem _ (rm1_mem h).1, (rm1_mem h).2⟩
      · rename_i n2
        rcases List.mem_cons.mp h with h | h
        · rw [h]; exact ⟨List.mem_cons_self, n1, fun z => n2 z.1⟩
        · exact ⟨List.mem_cons_of_mem _ (rm1_mem h).1, (rm1_mem h).2⟩
theorem rm2_mem {i : Nat} {q : Nat × Value} : ∀ {ls : Lo}, q ∈ rm2 i ls → q ∈ ls ∧ q.1 ≠ i ∧ q.1 ≠ i + 1 ∧ ¬ (q.1 + 1 = i ∧ q.2.category = 2)
  | [], h => by cases h
  | (j, w) :: r, h => by
    unfold rm2 at h
    split at h
    · exact ⟨List.mem_cons_of_mem _ (rm2_mem h).1, (rm2_mem h).2⟩
    · rename_i n1
      split at h
      · exact ⟨List.mem_cons_of_mem _ (rm2_mem h).1, (rm2_mem h).2⟩
      · rename_i n0
        split at h
        · rename_i n2
          split at h
          · exact ⟨List.mem_cons_of_mem _ (rm2_mem h).1, (rm2_mem h).2⟩
          · rename_i n3
            rcases List.mem_cons.mp h with h | h
            · rw [h]; exact ⟨List.mem_cons_self, n1, n0, fun z => n3 z.2⟩
            · exact ⟨List.mem_cons_of_mem _ (rm2_mem h).1, (rm2_mem h).2⟩
        · rename_i n2
          rcases List.mem_cons.mp h with h | h
          · rw [h]; exact ⟨List.mem_cons_self, n1, n0, fun z => n2 z.1⟩
          · exact ⟨List.mem_cons_of_mem _ (rm2_mem h).1, (rm2_mem h).2⟩
def s1 (ls : Lo) (i : Nat) (v : Value) : Lo := ins i v (rm1 i ls)
def s2 (ls : Lo) (i : Nat) (v : Value) : Lo := ins i v (rm2 i ls)
theorem lh_mono {arr : Array Slot} {n : Nat} {l l' : Lo} (h : lv_has arr n l) (hm : ∀ q ∈ l', q ∈ l) : lv_has arr n l' := ⟨h.1, h.2.1, fun q hq => h.2.2 q (hm q hq)⟩
theorem lh_get {arr : Array Slot} {n i : Nat} {ls : Lo} {v : Value} (h : lv_has arr n ls) (hg : gl ls i = some v) : arr[i]? = some (.val v) := h.2.2 (i, v) (gl_mem hg)
theorem lh_s1 {arr : Array Slot} {n i : Nat} {ls : Lo} {v : Value} (h : lv_has arr n ((i, v) :: ls.filter (fun q => !(q.1 == i) && !(q.1 + 1 == i && q.2.category == 2)))) : lv_has arr n (s1 ls i v) := by
  refine lh_mono h fun q hq => ?_
  rcases ins_mem hq with e | e
  · rw [e]; exact List.mem_cons_self
  · obtain ⟨h1, h2, h3⟩ := rm1_mem e
    refine List.mem_cons_of_mem _ (List.mem_filter.mpr ⟨h1, ?_⟩)
    simp only [Bool.and_eq_true, Bool.not_eq_true', beq_eq_false_iff_ne, Bool.and_eq_false_iff]
    refine ⟨h2, ?_⟩
    by_cases h4 : q.1 + 1 = i
    · exact Or.inr (fun h5 => h3 ⟨h4, h5⟩)
    · exact Or.inl h4
theorem lh_s2 {arr : Array Slot} {n i : Nat} {ls : Lo} {v : Value} (h : lv_has arr n ((i, v) :: ls.filter (fun q => !(q.1 == i) && (!(q.1 == i + 1) && !(q.1 + 1 == i && q.2.category == 2))))) : lv_has arr n (s2 ls i v) := by
  refine lh_mono h fun q hq => ?_
  rcases ins_mem hq with e | e
  · rw [e]; exact List.mem_cons_self
  · obtain ⟨h1, h2, h0, h3⟩ := rm2_mem e
    refine List.mem_cons_of_mem _ (List.mem_filter.mpr ⟨h1, ?_⟩)
    simp only [Bool.and_eq_true, Bool.not_eq_true', beq_eq_false_iff_ne, Bool.and_eq_false_iff]
    refine ⟨h2, h0, ?_⟩
    by_cases h4 : q.1 + 1 = i
    · exact Or.inr (fun h5 => h3 ⟨h4, h5⟩)
    · exact Or.inl h4
