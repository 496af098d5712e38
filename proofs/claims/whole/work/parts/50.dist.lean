section DistRows
/-! distances over the order of finding: ky j is the step by which j was found, ld k where step k leads -/
variable {m t : Nat} {ky : Nat → Nat} {ld : Nat → Option Nat} {Tl : Nat → Bool} {f : Nat → Option Nat}
def TreeOK (m : Nat) (ky : Nat → Nat) (ld : Nat → Option Nat) : Prop :=
  1 ≤ m ∧ ky 0 = 0 ∧ (∀ j, 1 ≤ j → j < m → ky j / 28 < j ∧ ld (ky j) = some j) ∧ (∀ i j, 1 ≤ i → i < j → j < m → ky i < ky j) ∧ ∀ k j, k < 28 * m → ld k = some j → j < m ∧ (j = 0 ∨ ky j ≤ k)
def FarOK (m : Nat) (ld : Nat → Option Nat) (Tl : Nat → Bool) (f : Nat → Option Nat) : Prop :=
  (∀ i, i < m → (f i = some 0 ↔ Tl i = true)) ∧ (∀ i d, i < m → f i = some (d + 1) → ∃ k j, k / 28 = i ∧ ld k = some j ∧ f j = some d) ∧ ∀ k j d, k < 28 * m → ld k = some j → f j = some d → ∃ d', d' ≤ d + 1 ∧ f (k / 28) = some d'
def dpF (ky : Nat → Nat) : Nat → Nat → Nat
  | 0 => fun _ => 0
  | g + 1 => fun j => if j = 0 then 0 else dpF ky g (ky j / 28) + 1
def dp (ky : Nat → Nat) (j : Nat) : Nat := dpF ky j j
theorem dpF_0 (g : Nat) : dpF ky g 0 = 0 := by
  cases g with
  | zero => rfl
  | succ g => rfl
theorem dpF_eq (h : TreeOK m ky ld) : ∀ g j, j < m → j ≤ g → ∀ g', j ≤ g' → dpF ky g j = dpF ky g' j := by
  intro g
  induction g with
  | zero =>
    intro j _ h2 g' _
    have : j = 0 := by omega
    subst this
    rw [dpF_0, dpF_0]
  | succ g ih =>
    intro j h1 h2 g' h3
    by_cases q : j = 0
    · subst q
      rw [dpF_0, dpF_0]
    · obtain ⟨e, rfl⟩ : ∃ e, g' = e + 1 := ⟨g' - 1, by omega⟩
      have hp := (h.2.2.1 j (by omega) h1).1
      show (if j = 0 then 0 else dpF ky g (ky j / 28) + 1) = (if j = 0 then 0 else dpF ky e (ky j / 28) + 1)
      rw [if_neg q, if_neg q, ih (ky j / 28) (by omega) (by omega) e (by omega)]
theorem dp_0 : dp ky 0 = 0 := rfl
theorem dp_s (h : TreeOK m ky ld) {j : Nat} (h1 : 1 ≤ j) (h2 : j < m) : dp ky j = dp ky (ky j / 28) + 1 := by
  have hp := (h.2.2.1 j h1 h2).1
  obtain ⟨e, rfl⟩ : ∃ e, j = e + 1 := ⟨j - 1, by omega⟩
  show (if e + 1 = 0 then 0 else dpF ky e (ky (e + 1) / 28) + 1) = dpF ky (ky (e + 1) / 28) (ky (e + 1) / 28) + 1
  rw [if_neg (by omega), dpF_eq h e (ky (e + 1) / 28) (by omega) (by omega) (ky (e + 1) / 28) (Nat.le_refl _)]
theorem ky_mono (h : TreeOK m ky ld) {i j : Nat} (h1 : i ≤ j) (h2 : j < m) : ky i / 28 ≤ ky j / 28 := by
  by_cases q : i = 0
  · subst q
    rw [h.2.1]
    exact Nat.zero_le _
  · by_cases w : i = j
    · subst w
      exact Nat.le_refl _
    · have := h.2.2.2.1 i j (by omega) (by omega) h2
      omega
theorem dp_mono (h : TreeOK m ky ld) : ∀ g i, i ≤ g → ∀ j, i ≤ j → j < m → dp ky i ≤ dp ky j := by
  intro g
  induction g with
  | zero =>
    intro i h1 j _ _
    have : i = 0 := by omega
    subst this
    rw [dp_0]
    exact Nat.zero_le _
  | succ g ih =>
    intro i h1 j h2 h3
    by_cases q : i = 0
    · subst q
      rw [dp_0]
      exact Nat.zero_le _
    · have hp := (h.2.2.1 i (by omega) (by omega)).1
      have hq := (h.2.2.1 j (by omega) h3).1
      rw [dp_s h (j := i) (by omega) (by omega), dp_s h (j := j) (by omega) h3]
      exact Nat.succ_le_succ (ih (ky i / 28) (by omega) (ky j / 28) (ky_mono h h2 h3) (by omega))
theorem dp_edge (h : TreeOK m ky ld) {k j : Nat} (hk : k < 28 * m) (e : ld k = some j) : dp ky j ≤ dp ky (k / 28) + 1 := by
  obtain ⟨h1, h2⟩ := h.2.2.2.2 k j hk e
  by_cases q : j = 0
  · subst q
    rw [dp_0]
    exact Nat.zero_le _
  · have h2 : ky j ≤ k := h2.resolve_left q
    rw [dp_s h (by omega) h1]
    exact Nat.succ_le_succ (dp_mono h _ _ (Nat.le_refl _) (k / 28) (by omega) (by omega))
theorem dp_z (h : TreeOK m ky ld) {j : Nat} (h1 : j < m) (h2 : dp ky j = 0) : j = 0 := by
  by_cases q : j = 0
  · exact q
  · rw [dp_s h (by omega) h1] at h2
    omega
/-- t is the told one -/
def IsT (m t : Nat) (Tl : Nat → Bool) : Prop := t < m ∧ Tl t = true ∧ ∀ i, i < m → Tl i = true → i = t
theorem far_lo (h : TreeOK m ky ld) (hf : FarOK m ld Tl f) (ht : IsT m t Tl) : ∀ d i, i < m → f i = some d → dp ky t ≤ dp ky i + d := by
  intro d
  induction d with
  | zero =>
    intro i hi e
    rw [ht.2.2 i hi ((hf.1 i hi).mp e)]
    exact Nat.le_refl _
  | succ d ih =>
    intro i hi e
    obtain ⟨k, j, h1, h2, h3⟩ := hf.2.1 i d hi e
    have hk : k < 28 * m := by omega
    have h4 := dp_edge h hk h2
    have h5 := ih j (h.2.2.2.2 k j hk h2).1 h3
    rw [h1] at h4
    omega
def an (ky : Nat → Nat) (t : Nat) : Nat → Nat
  | 0 => t
  | d + 1 => ky (an ky t d) / 28
theorem an_dp (h : TreeOK m ky ld) (ht : t < m) : ∀ d, d ≤ dp ky t → an ky t d < m ∧ dp ky (an ky t d) + d = dp ky t := by
  intro d
  induction d with
  | zero => intro _; exact ⟨ht, rfl⟩
  | succ d ih =>
    intro hd
    obtain ⟨h1, h2⟩ := ih (by omega)
    have h3 : 1 ≤ an ky t d := by
      rcases Nat.eq_zero_or_pos (an ky t d) with q | q
      · rw [q, dp_0] at h2
        omega
      · exact q
    have h4 := dp_s h h3 h1
    have h5 := (h.2.2.1 _ h3 h1).1
    show ky (an ky t d) / 28 < m ∧ dp ky (ky (an ky t d) / 28) + (d + 1) = dp ky t
    exact ⟨by omega, by omega⟩
theorem an_1 (h : TreeOK m ky ld) (ht : t < m) {d : Nat} (hd : d < dp ky t) : 1 ≤ an ky t d := by
  obtain ⟨h1, h2⟩ := an_dp h ht d (by omega)
  rcases Nat.eq_zero_or_pos (an ky t d) with q | q
  · rw [q, dp_0] at h2
    omega
  · exact q
theorem far_an (h : TreeOK m ky ld) (hf : FarOK m ld Tl f) (ht : IsT m t Tl) : ∀ d, d ≤ dp ky t → f (an ky t d) = some d := by
  intro d
  induction d with
  | zero => intro _; exact (hf.1 t ht.1).mpr ht.2.1
  | succ d ih =>
    intro hd
    have e := ih (by omega)
    obtain ⟨h1, h2⟩ := an_dp h ht.1 d (by omega)
    obtain ⟨h3, h4⟩ := an_dp h ht.1 (d + 1) hd
    have h5 := an_1 h ht.1 (d := d) (by omega)
    have h6 := (h.2.2.1 _ h5 h1).2
    have hk : ky (an ky t d) < 28 * m := by
      have : ky (an ky t d) / 28 < m := h3
      omega
    obtain ⟨d', g1, g2⟩ := hf.2.2 _ _ _ hk h6 e
    have g2 : f (an ky t (d + 1)) = some d' := g2
    have g3 := far_lo h hf ht d' _ h3 g2
    rw [g2, show d' = d + 1 by omega]
theorem an_end (h : TreeOK m ky ld) (ht : t < m) : an ky t (dp ky t) = 0 := by
  obtain ⟨h1, h2⟩ := an_dp h ht (dp ky t) (Nat.le_refl _)
  exact dp_z h h1 (by omega)
theorem far_0 (h : TreeOK m ky ld) (hf : FarOK m ld Tl f) (ht : IsT m t Tl) : f 0 = some (dp ky t) := by
  rw [← far_an h hf ht (dp ky t) (Nat.le_refl _), an_end h ht.1]
theorem an_le (h : TreeOK m ky ld) (hf : FarOK m ld Tl f) (ht : IsT m t Tl) : ∀ d w, w < m → f w = some d → dp ky w + d = dp ky t → an ky t d ≤ w := by
  intro d
  induction d with
  | zero =>
    intro w hw e _
    rw [ht.2.2 w hw ((hf.1 w hw).mp e)]
    exact Nat.le_refl _
  | succ d ih =>
    intro w hw e hd
    obtain ⟨k, j, h1, h2, h3⟩ := hf.2.1 w d hw e
    have hk : k < 28 * m := by omega
    have h4 := dp_edge h hk h2
    obtain ⟨h5, h6⟩ := h.2.2.2.2 k j hk h2
    have h7 := far_lo h hf ht d j h5 h3
    rw [h1] at h4
    have h8 := ih j h5 h3 (by omega)
    have h9 : j ≠ 0 := fun q => by
      rw [q, dp_0] at h7 h4
      omega
    have h10 := ky_mono h h8 h5
    have h11 := h6.resolve_left h9
    show ky (an ky t d) / 28 ≤ w
    omega
/-- the tree's act is the first that leads nearer -/
theorem an_first (h : TreeOK m ky ld) (hf : FarOK m ld Tl f) (ht : IsT m t Tl) {d : Nat} (hd : d < dp ky t) : ∀ k, k / 28 = an ky t (d + 1) → k < ky (an ky t d) → ∀ j, ld k = some j → f j ≠ some d := by
  intro k h1 h2 j h3 h4
  obtain ⟨a1, a2⟩ := an_dp h ht.1 d (by omega)
  obtain ⟨b1, b2⟩ := an_dp h ht.1 (d + 1) hd
  have hk : k < 28 * m := by omega
  have h5 := dp_edge h hk h3
  obtain ⟨h6, h7⟩ := h.2.2.2.2 k j hk h3
  have h8 := far_lo h hf ht d j h6 h4
  rw [h1] at h5
  have h9 := an_le h hf ht d j h6 h4 (by omega)
  have h10 := an_1 h ht.1 hd
  have h11 : ky j ≤ k := h7.resolve_left (by omega)
  by_cases q : an ky t d = j
  · rw [q] at h2
    omega
  · have := h.2.2.2.1 _ j h10 (by omega) h6
    omega
theorem far_no (hf : FarOK m ld Tl f) (hl : ∀ k j, k < 28 * m → ld k = some j → j < m) (ht : ∀ i, i < m → Tl i = false) : ∀ d i, i < m → f i ≠ some d := by
  intro d
  induction d with
  | zero =>
    intro i hi e
    have := (hf.1 i hi).mp e
    rw [ht i hi] at this
    cases this
  | succ d ih =>
    intro i hi e
    obtain ⟨k, j, h1, h2, h3⟩ := hf.2.1 i d hi e
    exact ih j (hl k j (by omega) h2) h3
/-! the rings: ring r + 1 at step k -/
def fst_ (ld : Nat → Option Nat) (r : Nat) (f : Nat → Option Nat) (k : Nat) : Nat → Option Nat := match f (k / 28), ld k with
  | none, some j => if f j = some r then (fun i => if i = k / 28 then some (r + 1) else f i) else f
  | _, _ => f
def RS (m : Nat) (ld : Nat → Option Nat) (Tl : Nat → Bool) (r : Nat) (f : Nat → Option Nat) : Prop :=
  (∀ i, i < m → (f i = some 0 ↔ Tl i = true)) ∧ (∀ i d, i < m → f i = some (d + 1) → ∃ k j, k / 28 = i ∧ ld k = some j ∧ f j = some d) ∧ (∀ i d, i < m → f i = some d → d ≤ r) ∧ ∀ k j d, k < 28 * m → ld k = some j → f j = some d → d < r → ∃ d', d' ≤ d + 1 ∧ f (k / 28) = some d'
def RI (m : Nat) (ld : Nat → Option Nat) (Tl : Nat → Bool) (r : Nat) (f : Nat → Option Nat) (q : Nat) : Prop :=
  (∀ i, i < m → (f i = some 0 ↔ Tl i = true)) ∧ (∀ i d, i < m → f i = some (d + 1) → ∃ k j, k / 28 = i ∧ ld k = some j ∧ f j = some d) ∧ (∀ i d, i < m → f i = some d → d ≤ r + 1) ∧ ∀ k j d, k < 28 * m → ld k = some j → f j = some d → (d < r ∨ (d = r ∧ k < q)) → ∃ d', d' ≤ d + 1 ∧ f (k / 28) = some d'
theorem RS.ri {r : Nat} (h : RS m ld Tl r f) : RI m ld Tl r f 0 := by
  refine ⟨h.1, h.2.1, fun i d hi e => Nat.le_succ_of_le (h.2.2.1 i d hi e), fun k j d hk e1 e2 hd => h.2.2.2 k j d hk e1 e2 ?_⟩
  rcases hd with hd | ⟨-, hd⟩
  · exact hd
  · exact absurd hd (by omega)
theorem RI.rs {r : Nat} (h : RI m ld Tl r f (28 * m)) : RS m ld Tl (r + 1) f := by
  refine ⟨h.1, h.2.1, h.2.2.1, fun k j d hk e1 e2 hd => h.2.2.2 k j d hk e1 e2 ?_⟩
  rcases Nat.lt_or_ge d r with w | w
  · exact Or.inl w
  · exact Or.inr ⟨by omega, hk⟩
theorem RI.far {r : Nat} (h0 : RS m ld Tl r f) (h : RI m ld Tl r f (28 * m)) (hl : ∀ k j, k < 28 * m → ld k = some j → j < m) : FarOK m ld Tl f := by
  refine ⟨h.1, h.2.1, fun k j d hk e1 e2 => h.2.2.2 k j d hk e1 e2 ?_⟩
  have := h0.2.2.1 j d (hl k j hk e1) e2
  rcases Nat.lt_or_ge d r with w | w
  · exact Or.inl w
  · exact Or.inr ⟨by omega, hk⟩
/-- how many are not yet reached -/
def noF (f : Nat → Option Nat) : Nat → Nat
  | 0 => 0
  | k + 1 => noF f k + (if f k = none then 1 else 0)
theorem noF_le (f : Nat → Option Nat) : ∀ k, noF f k ≤ k := by
  intro k
  induction k with
  | zero => exact Nat.le_refl _
  | succ k ih =>
    show noF f k + (if f k = none then 1 else 0) ≤ k + 1
    split <;> omega
theorem noF_up {g : Nat → Option Nat} {i : Nat} (h1 : f i = none) (h2 : g i ≠ none) (h3 : ∀ x, x ≠ i → g x = f x) : ∀ k, (i < k → noF g k + 1 = noF f k) ∧ (k ≤ i → noF g k = noF f k) := by
  intro k
  induction k with
  | zero => exact ⟨fun h => absurd h (by omega), fun _ => rfl⟩
  | succ k ih =>
    have e1 : noF g (k + 1) = noF g k + (if g k = none then 1 else 0) := rfl
    have e2 : noF f (k + 1) = noF f k + (if f k = none then 1 else 0) := rfl
    refine ⟨fun h => ?_, fun h => ?_⟩
    · by_cases q : k = i
      · subst q
        rw [e1, e2, if_neg h2, if_pos h1, ih.2 (Nat.le_refl _)]
      · rw [e1, e2, h3 k q, ← ih.1 (by omega)]
        omega
    · rw [e1, e2, h3 k (by omega), ih.2 (by omega)]
/-- a step that changes nothing, or one that reaches one more -/
theorem fst_or (r : Nat) (f : Nat → Option Nat) (k : Nat) : (fst_ ld r f k = f ∧ ∀ j, f (k / 28) = none → ld k = some j → f j ≠ some r) ∨ ∃ j, f (k / 28) = none ∧ ld k = some j ∧ f j = some r ∧ fst_ ld r f k = fun i => if i = k / 28 then some (r + 1) else f i := by
  unfold fst_
  cases h1 : f (k / 28) with
  | some d => exact Or.inl ⟨rfl, fun j h _ => by cases h⟩
  | none =>
    cases h2 : ld k with
    | none => exact Or.inl ⟨rfl, fun j _ h => by cases h⟩
    | some j =>
      by_cases q : f j = some r
      · right
        refine ⟨j, rfl, rfl, q, ?_⟩
        show (if f j = some r then (fun i => if i = k / 28 then some (r + 1) else f i) else f) = _
        rw [if_pos q]
      · left
        refine ⟨?_, fun j' _ h => by cases h; exact q⟩
        show (if f j = some r then (fun i => if i = k / 28 then some (r + 1) else f i) else f) = _
        rw [if_neg q]
theorem RI.step {r k : Nat} (h : RI m ld Tl r f k) (hk : k < 28 * m) : RI m ld Tl r (fst_ ld r f k) (k + 1) := by
  obtain ⟨a1, a2, a3, a4⟩ := h
  have hkm : k / 28 < m := by omega
  rcases fst_or (ld := ld) r f k with ⟨e, h0⟩ | ⟨j0, g1, g2, g3, e⟩
  · rw [e]
    refine ⟨a1, a2, a3, fun k' j d hk' e1 e2 hd => ?_⟩
    by_cases q : d < r ∨ (d = r ∧ k' < k)
    · exact a4 k' j d hk' e1 e2 q
    · have hdr : d = r ∧ k' = k := by
        rcases hd with w | ⟨w1, w2⟩
        · exact absurd (Or.inl w) q
        · by_cases z : k' < k
          · exact absurd (Or.inr ⟨w1, z⟩) q
          · exact ⟨w1, by omega⟩
      obtain ⟨rfl, rfl⟩ := hdr
      cases hz : f (k' / 28) with
      | none => exact absurd e2 (h0 j hz e1)
      | some d' => exact ⟨d', a3 _ _ hkm hz, rfl⟩
  · have nj : ∀ x d, f x = some d → x ≠ k / 28 := fun x d hx hq => by rw [hq, g1] at hx; cases hx
    rw [e]
    refine ⟨fun i hi => ?_, fun i d hi hd => ?_, fun i d hi hd => ?_, fun k' j d hk' e1 e2 hd => ?_⟩
    · by_cases q : i = k / 28
      · subst q
        have w := a1 (k / 28) hi
        rw [g1] at w
        show (if k / 28 = k / 28 then some (r + 1) else f (k / 28)) = some 0 ↔ _
        rw [if_pos rfl]
        constructor
        · intro z; injection z with z; omega
        · intro z; exact absurd (w.mpr z) (by intro y; cases y)
      · show (if i = k / 28 then some (r + 1) else f i) = some 0 ↔ _
        rw [if_neg q]
        exact a1 i hi
    · have hd : (if i = k / 28 then some (r + 1) else f i) = some (d + 1) := hd
      by_cases q : i = k / 28
      · rw [if_pos q] at hd
        injection hd with hd
        refine ⟨k, j0, q.symm, g2, ?_⟩
        show (if j0 = k / 28 then some (r + 1) else f j0) = some d
        rw [if_neg (nj _ _ g3), g3, show d = r by omega]
      · rw [if_neg q] at hd
        obtain ⟨k', j, w1, w2, w3⟩ := a2 i d hi hd
        refine ⟨k', j, w1, w2, ?_⟩
        show (if j = k / 28 then some (r + 1) else f j) = some d
        rw [if_neg (nj _ _ w3), w3]
    · have hd : (if i = k / 28 then some (r + 1) else f i) = some d := hd
      by_cases q : i = k / 28
      · rw [if_pos q] at hd
        injection hd with hd
        omega
      · rw [if_neg q] at hd
        exact a3 i d hi hd
    · have e2 : (if j = k / 28 then some (r + 1) else f j) = some d := e2
      by_cases q : j = k / 28
      · rw [if_pos q] at e2
        injection e2 with e2
        omega
      · rw [if_neg q] at e2
        show ∃ d', d' ≤ d + 1 ∧ (if k' / 28 = k / 28 then some (r + 1) else f (k' / 28)) = some d'
        by_cases z : d < r ∨ (d = r ∧ k' < k)
        · obtain ⟨d', w1, w2⟩ := a4 k' j d hk' e1 e2 z
          exact ⟨d', w1, by rw [if_neg (nj _ _ w2), w2]⟩
        · have hdr : d = r ∧ k' = k := by
            rcases hd with w | ⟨w1, w2⟩
            · exact absurd (Or.inl w) z
            · by_cases y : k' < k
              · exact absurd (Or.inr ⟨w1, y⟩) z
              · exact ⟨w1, by omega⟩
          rw [hdr.2, if_pos rfl]
          exact ⟨r + 1, by omega, rfl⟩
/-- the first ring -/
theorem RS.init (hT : ∀ i, i < m → f i = if Tl i = true then some 0 else none) : RS m ld Tl 0 f := by
  refine ⟨fun i hi => ?_, fun i d hi e => ?_, fun i d hi e => ?_, fun k j d _ _ _ hd => absurd hd (by omega)⟩
  · rw [hT i hi]
    cases Tl i with
    | false => exact ⟨fun h => (by rw [if_neg (by decide)] at h; cases h), fun h => (by cases h)⟩
    | true => exact ⟨fun _ => rfl, fun _ => rfl⟩
  · rw [hT i hi] at e
    split at e
    · injection e with e; omega
    · cases e
  · rw [hT i hi] at e
    split at e
    · injection e with e; omega
    · cases e
end DistRows
