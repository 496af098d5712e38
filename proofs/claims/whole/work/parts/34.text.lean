section TextRows
variable {C : CaT} {N : Nat} {n s : Nat} {K G M : Nat → Nat} {σ τ : St}
/-- the text of dolls: may sign j stand where it stands -/
def okc (c : Nat → Int32) (j : Nat) : Bool := decide (f_X4_goesOn (nI j) (c j) (c (j - 1)) = some 1)
def kI (x : Int32) : Int32 := if x = (98 : Int32) then 1 else if x = (112 : Int32) then 0 else if x = (115 : Int32) then 2 else -9
theorem kI_of (x : Int32) : f_X4_kindOf x = some (kI x) := by
  unfold f_X4_kindOf kI
  split
  · rfl
  · split
    · rfl
    · split <;> rfl
theorem ok0 (c : Nat → Int32) : okc c 0 = decide (c 0 = 110) := by
  unfold okc f_X4_goesOn
  rw [if_pos (show nI 0 = (0 : Int32) from rfl)]
  by_cases q : c 0 = 110
  · rw [if_pos q, decide_eq_true q]; rfl
  · rw [if_neg q, decide_eq_false q]; rfl
theorem ok17 (c : Nat → Int32) : okc c 17 = false := by
  unfold okc f_X4_goesOn
  rw [if_neg (by decide), if_neg (by decide)]
  rfl
theorem okp {m f : Nat} (hm : m < 4) (hf : f < 4) : ¬ nI (1 + 4 * m + f) = (0 : Int32) ∧ nI (1 + 4 * m + f) < (17 : Int32) ∧ (nI (1 + 4 * m + f) - (1 : Int32)) - (nI (1 + 4 * m + f) - (1 : Int32)) / (4 : Int32) * (4 : Int32) = nI f := by
  refine ⟨nI_ne0 (by omega) (by omega), (nI_ltI (b := 17) (by omega) (by omega)).mpr (by omega), ?_⟩
  rw [show nI (1 + 4 * m + f) - (1 : Int32) = nI (4 * m + f) from (pk_sub (a := 1 + 4 * m + f) (b := 1) (by omega)).trans (by rw [show 1 + 4 * m + f - 1 = 4 * m + f by omega]), show (4 : Int32) = nI 4 from rfl, pk_rem (by omega) (by omega) (by omega), show (4 * m + f) % 4 = f by omega]
theorem ok1 (c : Nat → Int32) {m : Nat} (hm : m < 4) : okc c (1 + 4 * m) = decide (c (1 + 4 * m) = 59) := by
  obtain ⟨h1, h2, h3⟩ := okp (f := 0) hm (by omega)
  rw [Nat.add_zero] at h1 h2 h3
  unfold okc f_X4_goesOn
  rw [if_neg h1, if_pos h2, nm_v, h3, if_pos (show nI 0 = (0 : Int32) from rfl)]
  by_cases q : c (1 + 4 * m) = 59
  · rw [if_pos q, decide_eq_true q]; rfl
  · rw [if_neg q, decide_eq_false q]; rfl
theorem d01 : decide ((some (0 : Int32)) = some 1) = false := rfl
theorem d11 : decide ((some (1 : Int32)) = some 1) = true := rfl
theorem ok2 (c : Nat → Int32) {m : Nat} (hm : m < 4) : okc c (1 + 4 * m + 1) = decide (¬ kI (c (1 + 4 * m + 1)) = -9) := by
  obtain ⟨h1, h2, h3⟩ := okp (f := 1) hm (by omega)
  unfold okc f_X4_goesOn
  rw [if_neg h1, if_pos h2, nm_v, h3, if_neg (show ¬ nI 1 = (0 : Int32) by decide), if_pos (show nI 1 = (1 : Int32) from rfl), kI_of, bd_s]
  by_cases q : kI (c (1 + 4 * m + 1)) = -9
  · rw [if_pos q, d01]; exact (decide_eq_false (fun z => z q)).symm
  · rw [if_neg q, d11]; exact (decide_eq_true q).symm
theorem ok3 (c : Nat → Int32) {m : Nat} (hm : m < 4) : okc c (1 + 4 * m + 2) = decide (¬ c (1 + 4 * m + 2) < 49 ∧ ¬ 57 < c (1 + 4 * m + 2)) := by
  obtain ⟨h1, h2, h3⟩ := okp (f := 2) hm (by omega)
  unfold okc f_X4_goesOn
  rw [if_neg h1, if_pos h2, nm_v, h3, if_neg (show ¬ nI 2 = (0 : Int32) by decide), if_neg (show ¬ nI 2 = (1 : Int32) by decide), if_pos (show nI 2 = (2 : Int32) from rfl)]
  by_cases q : c (1 + 4 * m + 2) < 49
  · rw [if_pos q, d01]; exact (decide_eq_false (fun z => z.1 q)).symm
  · rw [if_neg q]
    by_cases q2 : 57 < c (1 + 4 * m + 2)
    · rw [if_pos q2, d01]; exact (decide_eq_false (fun z => z.2 q2)).symm
    · rw [if_neg q2, d11]; exact (decide_eq_true ⟨q, q2⟩).symm
theorem ok4 (c : Nat → Int32) {m : Nat} (hm : m < 4) : okc c (1 + 4 * m + 3) = decide (¬ c (1 + 4 * m + 3) < 48 ∧ ¬ c (1 + 4 * m + 2) ≤ c (1 + 4 * m + 3)) := by
  obtain ⟨h1, h2, h3⟩ := okp (f := 3) hm (by omega)
  unfold okc f_X4_goesOn
  rw [if_neg h1, if_pos h2, nm_v, h3, if_neg (show ¬ nI 3 = (0 : Int32) by decide), if_neg (show ¬ nI 3 = (1 : Int32) by decide), if_neg (show ¬ nI 3 = (2 : Int32) by decide), show 1 + 4 * m + 3 - 1 = 1 + 4 * m + 2 by omega]
  by_cases q : c (1 + 4 * m + 3) < 48
  · rw [if_pos q, d01]; exact (decide_eq_false (fun z => z.1 q)).symm
  · rw [if_neg q]
    by_cases q2 : c (1 + 4 * m + 2) ≤ c (1 + 4 * m + 3)
    · rw [if_pos q2, d01]; exact (decide_eq_false (fun z => z.2 q2)).symm
    · rw [if_neg q2, d11]; exact (decide_eq_true ⟨q, q2⟩).symm
theorem goes01 (x y z : Int32) : f_X4_goesOn x y z = some 0 ∨ f_X4_goesOn x y z = some 1 := by
  unfold f_X4_goesOn
  simp only [nm_v, kI_of, bd_s]
  repeat (first | exact Or.inl rfl | exact Or.inr rfl | split)
/-- the class's first fault -/
theorem fault5 (hN : 100 ≤ N) {k z a b q : Nat} {c : Nat → Int32} (hz : z ≤ 60) (hab : a + b ≤ z) (e5 : σ.1 5 k = nI z) (hc : ∀ j, j < b → σ.1 (12 + k) (a + j) = c j) (hq : q ≤ b) (h1 : ∀ j, j < q → okc c j = true) (h2 : q < b → okc c q = false) : f_X4_firstFault N k (nI a) (nI b) σ = some (if q < b then nI q else if b ≤ 1 then nI b else if b % 4 = 1 then -9 else nI b) := by
  unfold f_X4_firstFault
  have hr : ∀ j, j < b → ∃ y, f_X2_at k (nI a + nI j - 1) σ = some y ∧ (0 < j → y = c (j - 1)) := by
    intro j hj
    by_cases q0 : a + j = 0
    · refine ⟨0, ?_, fun h => absurd h (by omega)⟩
      rw [nI_add, q0]
      unfold f_X2_at
      rw [if_pos (by decide)]
    · have e : nI a + nI j - 1 = nI (a + j - 1) := by rw [nI_add]; exact pk_sub (a := a + j) (b := 1) (by omega)
      refine ⟨σ.1 (12 + k) (a + j - 1), by rw [e, at5 hz e5 (by omega)], fun h => ?_⟩
      rw [show a + j - 1 = a + (j - 1) by omega, hc (j - 1) (by omega)]
  have hb5 : ∀ j, j < b → f_X4_firstFault_b2 N k (nI a) (nI b) (nI j) σ = some (if okc c j = true then .inl (nI (j + 1)) else .inr (.inl (nI j))) := by
    intro j hj
    obtain ⟨y, y1, y2⟩ := hr j hj
    unfold f_X4_firstFault_b2
    rw [if_neg (nI_ge hj (by omega)), y1, nI_add, at5 hz e5 (by omega), hc j hj]
    simp only [bd_s]
    have e : f_X4_goesOn (nI j) (c j) y = f_X4_goesOn (nI j) (c j) (c (j - 1)) := by
      by_cases j0 : j = 0
      · subst j0
        unfold f_X4_goesOn
        rw [if_pos (show nI 0 = (0 : Int32) from rfl), if_pos (show nI 0 = (0 : Int32) from rfl)]
      · rw [y2 (by omega)]
    rw [e]
    unfold okc
    rcases goes01 (nI j) (c j) (c (j - 1)) with g | g
    · rw [g, bd_s, i00]; rfl
    · rw [g, bd_s, i10, nm_v, nI_1]; rfl
  by_cases w : q < b
  · have key := lp_for (fun s => f_X4_firstFault_b2 N k (nI a) (nI b) s σ) (fun i => nI i) (.inl (nI q)) q 0 (fun j _ hj => ?_) ?_ N (by omega)
    · rw [show (0 : Int32) = nI 0 from rfl, key, if_pos w]
      rfl
    · show f_X4_firstFault_b2 N k (nI a) (nI b) (nI j) σ = _
      rw [hb5 j (by omega), h1 j (by omega)]
      rfl
    · rw [Nat.zero_add]
      show f_X4_firstFault_b2 N k (nI a) (nI b) (nI q) σ = _
      rw [hb5 q w, h2 w]
      rfl
  · have qb : q = b := by omega
    subst qb
    have key := lp_for (fun s => f_X4_firstFault_b2 N k (nI a) (nI q) s σ) (fun i => nI i) (.inr ()) q 0 (fun j _ hj => ?_) ?_ N (by omega)
    · rw [show (0 : Int32) = nI 0 from rfl, key, if_neg w, bd_s]
      show f_X4_firstFault_j38 N (nI q) σ = _
      unfold f_X4_firstFault_j38 f_X4_firstFault_j55
      have c1 : nI q ≤ (1 : Int32) ↔ q ≤ 1 := nI_leI (b := 1) (by omega) (by omega)
      have c2 : nI q - nI q / (4 : Int32) * (4 : Int32) = nI (q % 4) := pk_rem (d := 4) (by omega) (by omega) (by omega)
      simp only [c1, c2]
      by_cases w1 : q ≤ 1
      · rw [if_pos w1, if_pos w1]
      · rw [if_neg w1, if_neg w1]
        by_cases w4 : q % 4 = 1
        · rw [w4]; rfl
        · rw [if_neg w4, if_neg (show ¬ nI (q % 4) = (1 : Int32) from fun z => w4 (nI_inj (a := q % 4) (b := 1) (by omega) (by omega) z))]
    · show f_X4_firstFault_b2 N k (nI a) (nI q) (nI j) σ = _
      rw [hb5 j (by omega), h1 j (by omega)]
      rfl
    · rw [Nat.zero_add]
      show f_X4_firstFault_b2 N k (nI a) (nI q) (nI q) σ = _
      unfold f_X4_firstFault_b2
      rw [if_pos (Int32.le_refl _)]
/-- the reference while it reads: only its place, its count and what it read differ -/
def Same (τ τ' : St) : Prop := (∀ g, g ≠ 0 → g ≠ 8 → τ'.1 g = τ.1 g) ∧ ∀ j, j ≠ 5 → j ≠ 6 → τ'.1 0 j = τ.1 0 j
theorem Same.w05 (h : Same τ σ) (v : Int32) : Same τ (wS σ 0 5 v) := ⟨fun g h0 h8 => by rw [wS_n _ _ _ h0]; exact h.1 g h0 h8, fun j h5 h6 => by rw [wS_0, upd_n _ _ h5]; exact h.2 j h5 h6⟩
theorem Same.w06 (h : Same τ σ) (v : Int32) : Same τ (wS σ 0 6 v) := ⟨fun g h0 h8 => by rw [wS_n _ _ _ h0]; exact h.1 g h0 h8, fun j h5 h6 => by rw [wS_0, upd_n _ _ h6]; exact h.2 j h5 h6⟩
theorem Same.w8 (h : Same τ σ) (i : Nat) (v : Int32) : Same τ (wS σ 8 i v) := ⟨fun g h0 h8 => by rw [wS_n _ _ _ h8]; exact h.1 g h0 h8, fun j h5 h6 => by rw [wS_n _ _ _ (by decide)]; exact h.2 j h5 h6⟩
theorem sign6 {B b p : Nat} {c : Nat → Int32} (v : Int32) (hB : B + b ≤ 240) (hp : p ≤ b) (ha : τ.1 0 5 = nI (B + p)) (hc : ∀ j, j < b → τ.1 3 (B + j) = c j) : f_X6_isSign (nI (B + b)) v τ = (if p < b ∧ c p = v then some (1, wS τ 0 5 (nI (B + (p + 1)))) else some (0, τ)) := by
  unfold f_X6_isSign
  rw [ha]
  by_cases q : p < b
  · rw [if_neg (nI_ge (by omega) (by omega)), ck_nI (by omega) (by omega), gd_t, nI_clamp (by omega), hc p q, nm_v, nI_1, Nat.add_assoc]
    by_cases w : c p = v
    · rw [if_pos w, if_pos ⟨q, w⟩]
    · rw [if_neg w, if_neg (fun z => w z.2)]
  · rw [if_pos (nI_le (by omega) (by omega)), if_neg (fun z => q z.1)]
theorem digit6 {B b p lo hi : Nat} {c : Nat → Int32} (hB : B + b ≤ 240) (hp : p ≤ b) (ha : τ.1 0 5 = nI (B + p)) (hc : ∀ j, j < b → τ.1 3 (B + j) = c j) : f_X6_digit (nI (B + b)) (nI lo) (nI hi) τ = (if p < b ∧ ¬ c p < nI (48 + lo) ∧ ¬ nI (48 + hi) < c p then some (c p - 48, wS τ 0 5 (nI (B + (p + 1)))) else some (-9, τ)) := by
  unfold f_X6_digit f_X6_within
  rw [ha]
  by_cases q : p < b
  · rw [if_neg (nI_ge (by omega) (by omega)), ck_nI (by omega) (by omega), gd_t, nI_clamp (by omega), hc p q, nm_v, nI_1, Nat.add_assoc, show (48 : Int32) = nI 48 from rfl, nI_add, nI_add]
    by_cases w1 : c p < nI (48 + lo)
    · rw [if_pos w1, if_neg (fun z => z.2.1 w1)]; rfl
    · rw [if_neg w1]
      by_cases w2 : nI (48 + hi) < c p
      · rw [if_pos w2, if_neg (fun z => z.2.2 w2)]; rfl
      · rw [if_neg w2, if_pos ⟨q, w1, w2⟩, bd_s, i10]
        have e1 : (wS τ 0 5 (nI (B + (p + 1)))).1 0 5 - 1 = nI (B + p) := by
          show nI (B + (p + 1)) - 1 = nI (B + p)
          exact (pk_sub (a := B + (p + 1)) (b := 1) (by omega)).trans (by rw [show B + (p + 1) - 1 = B + p by omega])
        rw [e1, ck_nI (by omega) (by omega), gd_t, nI_clamp (by omega), wS_n _ _ _ (by decide), hc p q]
  · rw [if_pos (nI_le (by omega) (by omega)), if_neg (fun z => q z.1)]
end TextRows
