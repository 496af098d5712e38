section SearchRows
variable {n s : Nat} {F : Int32}
/-! the search: how many are found, which, and by which step 28 i + a each -/
abbrev BZ : Type := Nat × (Nat → Nat) × (Nat → Nat)
def FB (F : Int32) (d e : Nat) : Bool := bt F (4 * d + e)
def fnd (S : Nat → Nat) (t m : Nat) : Option Nat := ff (fun j => Nat.beq (S j) t) m 0
def badd (z : BZ) (t k : Nat) : BZ := (z.1 + 1, fun j => if j = z.1 then t else z.2.1 j, fun j => if j = z.1 then k else z.2.2 j)
def breach (z : BZ) (t k : Nat) : BZ := match fnd z.2.1 t z.1 with
  | some _ => z
  | none => badd z t k
def bstp (n : Nat) (F : Int32) (z : BZ) (k : Nat) : BZ := if k / 28 < z.1 then (if cdo n (z.2.1 (k / 28)) (FB F) (k % 28) = true then breach z (aft (z.2.1 (k / 28)) (k % 28)) k else z) else z
def bzs (n : Nat) (F : Int32) (s : Nat) : Nat → BZ
  | 0 => (1, fun _ => s, fun _ => 0)
  | k + 1 => bstp n F (bzs n F s k) k
theorem ff_no (P : Nat → Bool) : ∀ k i, ff P k i = none → ∀ j, i ≤ j → j < i + k → P j = false := by
  intro k
  induction k with
  | zero => intro i _ j h1 h2; exact absurd h2 (by omega)
  | succ k ih =>
    intro i h j h1 h2
    have h : (if P i = true then some i else ff P k (i + 1)) = none := h
    by_cases q : P i = true
    · rw [if_pos q] at h; cases h
    · rw [if_neg q] at h
      by_cases w : j = i
      · subst w
        cases hp : P j with
        | false => rfl
        | true => exact absurd hp q
      · exact ih (i + 1) h j (by omega) (by omega)
theorem fnd_s {S : Nat → Nat} {t m j : Nat} (h : fnd S t m = some j) : j < m ∧ S j = t := by
  have := ff_lt _ _ _ _ h
  exact ⟨by omega, Nat.eq_of_beq_eq_true this.2.2⟩
theorem fnd_n {S : Nat → Nat} {t m : Nat} (h : fnd S t m = none) {j : Nat} (hj : j < m) : S j ≠ t := fun e => by
  have := ff_no _ _ _ h j (by omega) (by omega)
  rw [nb_t e] at this
  cases this
/-- one step: nothing, or one more -/
theorem bstp_or (z : BZ) (k : Nat) : bstp n F z k = z ∨ (k / 28 < z.1 ∧ cdo n (z.2.1 (k / 28)) (FB F) (k % 28) = true ∧ fnd z.2.1 (aft (z.2.1 (k / 28)) (k % 28)) z.1 = none ∧ bstp n F z k = badd z (aft (z.2.1 (k / 28)) (k % 28)) k) := by
  unfold bstp
  by_cases h1 : k / 28 < z.1
  · rw [if_pos h1]
    by_cases h2 : cdo n (z.2.1 (k / 28)) (FB F) (k % 28) = true
    · rw [if_pos h2]
      unfold breach
      cases h3 : fnd z.2.1 (aft (z.2.1 (k / 28)) (k % 28)) z.1 with
      | some j => exact Or.inl rfl
      | none => exact Or.inr ⟨h1, h2, rfl, rfl⟩
    · rw [if_neg h2]; exact Or.inl rfl
  · rw [if_neg h1]; exact Or.inl rfl
/-- what has been found is found for good -/
theorem bz_mono (k : Nat) : ∀ d, (bzs n F s k).1 ≤ (bzs n F s (k + d)).1 ∧ ∀ j, j < (bzs n F s k).1 → (bzs n F s (k + d)).2.1 j = (bzs n F s k).2.1 j ∧ (bzs n F s (k + d)).2.2 j = (bzs n F s k).2.2 j := by
  intro d
  induction d with
  | zero => exact ⟨Nat.le_refl _, fun j _ => ⟨rfl, rfl⟩⟩
  | succ d ih =>
    have e : bzs n F s (k + (d + 1)) = bstp n F (bzs n F s (k + d)) (k + d) := rfl
    rw [e]
    rcases bstp_or (n := n) (F := F) (bzs n F s (k + d)) (k + d) with h | ⟨-, -, -, h⟩
    · rw [h]; exact ih
    · rw [h]
      refine ⟨Nat.le_trans ih.1 (Nat.le_succ _), fun j hj => ?_⟩
      have hne : j ≠ (bzs n F s (k + d)).1 := by have := ih.1; omega
      show (if j = (bzs n F s (k + d)).1 then _ else (bzs n F s (k + d)).2.1 j) = _ ∧ (if j = (bzs n F s (k + d)).1 then _ else (bzs n F s (k + d)).2.2 j) = _
      rw [if_neg hne, if_neg hne]
      exact ih.2 j hj
theorem bz_pos (k : Nat) : 1 ≤ (bzs n F s k).1 := by
  have := (bz_mono (n := n) (F := F) (s := s) 0 k).1
  rw [Nat.zero_add] at this
  exact this
/-- what is so of the search after k steps -/
def BOK (n : Nat) (F : Int32) (s k : Nat) (z : BZ) : Prop :=
  (∀ j, j < z.1 → vld n (z.2.1 j) = true) ∧
  (∀ i j, i < z.1 → j < z.1 → z.2.1 i = z.2.1 j → i = j) ∧
  (z.2.1 0 = s ∧ z.2.2 0 = 0) ∧
  (∀ j, 1 ≤ j → j < z.1 → z.2.2 j < k ∧ z.2.2 j / 28 < j ∧ cdo n (z.2.1 (z.2.2 j / 28)) (FB F) (z.2.2 j % 28) = true ∧ aft (z.2.1 (z.2.2 j / 28)) (z.2.2 j % 28) = z.2.1 j ∧ j < (bzs n F s (z.2.2 j + 1)).1) ∧
  (∀ i j, 1 ≤ i → i < j → j < z.1 → z.2.2 i < z.2.2 j)
theorem bz_ok (hn : n ≤ 4) (hv : vld n s = true) : ∀ k, BOK n F s k (bzs n F s k) := by
  intro k
  induction k with
  | zero =>
    refine ⟨fun j _ => hv, fun i j hi hj _ => ?_, ⟨rfl, rfl⟩, fun j h1 h2 => ?_, fun i j h1 h2 h3 => ?_⟩
    · have hi : i < 1 := hi
      have hj : j < 1 := hj
      omega
    · have h2 : j < 1 := h2
      omega
    · have h3 : j < 1 := h3
      omega
  | succ k ih =>
    obtain ⟨a1, a2, a3, a4, a5⟩ := ih
    have e : bzs n F s (k + 1) = bstp n F (bzs n F s k) k := rfl
    have hp := bz_pos (n := n) (F := F) (s := s) k
    rcases bstp_or (n := n) (F := F) (bzs n F s k) k with h | ⟨h1, h2, h3, h⟩
    · rw [e, h]
      refine ⟨a1, a2, a3, fun j b1 b2 => ?_, a5⟩
      obtain ⟨c1, c2⟩ := a4 j b1 b2
      exact ⟨by omega, c2⟩
    · have hl : (bzs n F s (k + 1)).1 = (bzs n F s k).1 + 1 := by rw [e, h]; rfl
      rw [e, h]
      generalize hz : bzs n F s k = z at *
      have nS : ∀ j, (badd z (aft (z.2.1 (k / 28)) (k % 28)) k).2.1 j = if j = z.1 then aft (z.2.1 (k / 28)) (k % 28) else z.2.1 j := fun _ => rfl
      have nK : ∀ j, (badd z (aft (z.2.1 (k / 28)) (k % 28)) k).2.2 j = if j = z.1 then k else z.2.2 j := fun _ => rfl
      have nL : (badd z (aft (z.2.1 (k / 28)) (k % 28)) k).1 = z.1 + 1 := rfl
      have hva := a1 (k / 28) h1
      obtain ⟨-, f2, -⟩ := af hn hva (Nat.mod_lt k (by omega)) h2
      refine ⟨fun j hj => ?_, fun i j hi hj he => ?_, ⟨?_, ?_⟩, fun j b1 b2 => ?_, fun i j b1 b2 b3 => ?_⟩
      · rw [nS]
        rw [nL] at hj
        by_cases q : j = z.1
        · rw [if_pos q]; exact f2
        · rw [if_neg q]; exact a1 j (by omega)
      · rw [nL] at hi hj
        rw [nS, nS] at he
        by_cases qi : i = z.1
        · by_cases qj : j = z.1
          · omega
          · rw [if_pos qi, if_neg qj] at he
            exact absurd he.symm (fnd_n h3 (by omega))
        · by_cases qj : j = z.1
          · rw [if_neg qi, if_pos qj] at he
            exact absurd he (fnd_n h3 (by omega))
          · rw [if_neg qi, if_neg qj] at he
            exact a2 i j (by omega) (by omega) he
      · rw [nS, if_neg (by omega)]; exact a3.1
      · rw [nK, if_neg (by omega)]; exact a3.2
      · rw [nL] at b2
        rw [nK]
        by_cases q : j = z.1
        · rw [if_pos q, nS, nS, if_neg (by omega), if_pos q]
          exact ⟨by omega, by omega, h2, rfl, by omega⟩
        · rw [if_neg q]
          obtain ⟨c1, c2, c3, c4, c5⟩ := a4 j b1 (by omega)
          rw [nS, nS, if_neg (by omega), if_neg q]
          exact ⟨by omega, c2, c3, c4, c5⟩
      · rw [nL] at b3
        rw [nK, nK]
        by_cases q : j = z.1
        · rw [if_pos q, if_neg (by omega)]
          exact (a4 i b1 (by omega)).1
        · rw [if_neg q, if_neg (by omega)]
          exact a5 i j b1 b2 (by omega)
set_option maxRecDepth 100000 in
theorem vls_len : (List.range 5).all (fun n => Nat.ble (vls n).length 580) = true := by decide +kernel
theorem bz_len (hn : n ≤ 4) (hv : vld n s = true) (k : Nat) : (bzs n F s k).1 ≤ 580 := by
  obtain ⟨a1, a2, -⟩ := bz_ok (F := F) hn hv k
  have h1 : ((List.range (bzs n F s k).1).map (bzs n F s k).2.1).Nodup := by
    rw [List.nodup_iff_pairwise_ne, List.pairwise_map]
    refine List.Pairwise.imp_of_mem (R := fun a b => a ≠ b) (fun {a b} ha hb hne he => hne (a2 a b (List.mem_range.mp ha) (List.mem_range.mp hb) he)) ?_
    exact List.nodup_iff_pairwise_ne.mp List.nodup_range
  have h2 : (List.range (bzs n F s k).1).map (bzs n F s k).2.1 ⊆ vls n := by
    intro x hx
    obtain ⟨j, hj, rfl⟩ := List.mem_map.mp hx
    exact vls_mem hn (a1 j (List.mem_range.mp hj))
  have h3 := List.Nodup.length_le_of_subset h1 h2
  rw [List.length_map, List.length_range] at h3
  have h4 := List.all_eq_true.mp vls_len n (List.mem_range.mpr (by omega))
  exact Nat.le_trans h3 (Nat.ble_eq.mp h4)
end SearchRows
