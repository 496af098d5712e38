section FoundRows
variable {n s T : Nat} {F : Int32}
theorem bz_up {k k' : Nat} (h : k ≤ k') : (bzs n F s k).1 ≤ (bzs n F s k').1 ∧ ∀ j, j < (bzs n F s k).1 → (bzs n F s k').2.1 j = (bzs n F s k).2.1 j ∧ (bzs n F s k').2.2 j = (bzs n F s k).2.2 j := by
  have := bz_mono (n := n) (F := F) (s := s) k (k' - k)
  rw [show k + (k' - k) = k' by omega] at this
  exact this
/-- what is found at last was there when its turn came -/
theorem bz_live (hn : n ≤ 4) (hv : vld n s = true) {k j : Nat} (hj : j < (bzs n F s k).1) : j < (bzs n F s (28 * j)).1 := by
  by_cases q : j = 0
  · subst q
    exact bz_pos _
  · obtain ⟨-, -, -, a4, -⟩ := bz_ok (F := F) hn hv k
    obtain ⟨c1, c2, c3, c4, c5⟩ := a4 j (by omega) hj
    exact Nat.lt_of_lt_of_le c5 (bz_up (by omega)).1
theorem bz_end (hn : n ≤ 4) (hv : vld n s = true) : ∀ d, 28 * (bzs n F s T).1 + d ≤ T → bzs n F s (28 * (bzs n F s T).1 + d) = bzs n F s (28 * (bzs n F s T).1) := by
  intro d
  induction d with
  | zero => intro _; rw [Nat.add_zero]
  | succ d ih =>
    intro h
    have e : bzs n F s (28 * (bzs n F s T).1 + (d + 1)) = bstp n F (bzs n F s (28 * (bzs n F s T).1 + d)) (28 * (bzs n F s T).1 + d) := rfl
    have hl : (bzs n F s (28 * (bzs n F s T).1 + d)).1 ≤ (bzs n F s T).1 := (bz_up (k' := T) (by omega)).1
    have h2 : bstp n F (bzs n F s (28 * (bzs n F s T).1 + d)) (28 * (bzs n F s T).1 + d) = bzs n F s (28 * (bzs n F s T).1 + d) := by
      unfold bstp
      rw [if_neg (by omega)]
    rw [e, h2]
    exact ih (by omega)
theorem bz_fin (hn : n ≤ 4) (hv : vld n s = true) (hT : 16240 ≤ T) : bzs n F s (28 * (bzs n F s T).1) = bzs n F s T := by
  have hl : (bzs n F s T).1 ≤ 580 := bz_len hn hv T
  have := bz_end (F := F) (T := T) hn hv (T - 28 * (bzs n F s T).1) (by omega)
  rw [show 28 * (bzs n F s T).1 + (T - 28 * (bzs n F s T).1) = T by omega] at this
  exact this.symm
/-- whatever can be done leads to one that is found, and not later than here -/
theorem bz_found (hn : n ≤ 4) (hv : vld n s = true) (hT : 16240 ≤ T) {i a : Nat} (hi : i < (bzs n F s T).1) (ha : a < 28) (hc : cdo n ((bzs n F s T).2.1 i) (FB F) a = true) : ∃ j, j < (bzs n F s T).1 ∧ (bzs n F s T).2.1 j = aft ((bzs n F s T).2.1 i) a ∧ (j = 0 ∨ (bzs n F s T).2.2 j ≤ 28 * i + a) := by
  have hl : (bzs n F s T).1 ≤ 580 := bz_len hn hv T
  have h0 := bz_live (F := F) hn hv (k := T) hi
  have h1 : i < (bzs n F s (28 * i + a)).1 := Nat.lt_of_lt_of_le h0 (bz_up (by omega)).1
  have u1 := bz_up (n := n) (F := F) (s := s) (k := 28 * i + a) (k' := T) (by omega)
  have u2 := bz_up (n := n) (F := F) (s := s) (k := 28 * i + a + 1) (k' := T) (by omega)
  have e1 : (bzs n F s (28 * i + a)).2.1 i = (bzs n F s T).2.1 i := ((u1.2 i h1).1).symm
  have e : bzs n F s (28 * i + a + 1) = bstp n F (bzs n F s (28 * i + a)) (28 * i + a) := rfl
  have d1 : (28 * i + a) / 28 = i := by omega
  have d2 : (28 * i + a) % 28 = a := by omega
  unfold bstp at e
  rw [d1, d2, if_pos h1, e1, if_pos hc] at e
  unfold breach at e
  cases hf : fnd (bzs n F s (28 * i + a)).2.1 (aft ((bzs n F s T).2.1 i) a) (bzs n F s (28 * i + a)).1 with
  | some j =>
    obtain ⟨f1, f2⟩ := fnd_s hf
    refine ⟨j, Nat.lt_of_lt_of_le f1 u1.1, ((u1.2 j f1).1).trans f2, ?_⟩
    by_cases q : j = 0
    · exact Or.inl q
    · right
      obtain ⟨-, -, -, a4, -⟩ := bz_ok (F := F) hn hv (28 * i + a)
      have := (a4 j (by omega) f1).1
      have w := (u1.2 j f1).2
      rw [w]; omega
  | none =>
    rw [hf] at e
    have e : bzs n F s (28 * i + a + 1) = badd (bzs n F s (28 * i + a)) (aft ((bzs n F s T).2.1 i) a) (28 * i + a) := e
    have l : (bzs n F s (28 * i + a)).1 < (bzs n F s (28 * i + a + 1)).1 := by rw [e]; exact Nat.lt_succ_self _
    have w := u2.2 _ l
    rw [e] at w
    have w1 : (bzs n F s T).2.1 (bzs n F s (28 * i + a)).1 = (if (bzs n F s (28 * i + a)).1 = (bzs n F s (28 * i + a)).1 then aft ((bzs n F s T).2.1 i) a else _) := w.1
    have w2 : (bzs n F s T).2.2 (bzs n F s (28 * i + a)).1 = (if (bzs n F s (28 * i + a)).1 = (bzs n F s (28 * i + a)).1 then 28 * i + a else _) := w.2
    rw [if_pos rfl] at w1 w2
    exact ⟨_, Nat.lt_of_lt_of_le l u2.1, w1, Or.inr (by omega)⟩
end FoundRows
