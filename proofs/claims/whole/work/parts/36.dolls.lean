section DollsRows
variable {C : CaT} {N : Nat} {n s : Nat} {K G M : Nat → Nat} {σ τ τ' : St} {B b m : Nat} {c : Nat → Int32}
def TS (τ : St) (B b : Nat) (c : Nat → Int32) (m : Nat) (τ' : St) : Prop := Same τ τ' ∧ τ'.1 0 5 = nI (B + (1 + 4 * m)) ∧ τ'.1 0 6 = nI m ∧ 1 + 4 * m ≤ b ∧ (∀ j, j < 1 + 4 * m → okc c j = true) ∧ ∀ i, i < m → τ'.1 8 (3 * i) = kI (c (1 + 4 * i + 1)) ∧ τ'.1 8 (3 * i + 1) = c (1 + 4 * i + 2) - 48 ∧ τ'.1 8 (3 * i + 2) = c (1 + 4 * i + 3) - 48
def FR (τ : St) (B b : Nat) (c : Nat → Int32) (τ' : St) : Prop := Same τ τ' ∧ ∃ q, q ≤ b ∧ τ'.1 0 5 = nI (B + q) ∧ (∀ j, j < q → okc c j = true) ∧ (q < b → okc c q = false) ∧ (q = b → b ≤ 1 ∨ ¬ b % 4 = 1)
theorem Same.tr {ρ : St} (h : Same τ τ') (h2 : Same τ' ρ) : Same τ ρ := ⟨fun g h0 h8 => (h2.1 g h0 h8).trans (h.1 g h0 h8), fun j h5 h6 => (h2.2 j h5 h6).trans (h.2 j h5 h6)⟩
theorem rstep (hB : B + b ≤ 240) (hc : ∀ j, j < b → τ.1 3 (B + j) = c j) (hm : m < 4) (h : TS τ B b c m τ') (h0 : m = 0 ∨ 1 + 4 * m < b) : ∃ o, f_X6_readAll_j40 N (nI (B + b)) τ' = some o ∧ ((∃ ρ, o = .inl ρ ∧ TS τ B b c (m + 1) ρ) ∨ ∃ ρ, o = .inr (.inl (0, ρ)) ∧ FR τ B b c ρ) := by
  obtain ⟨s1, s2, s3, s4, s5, s6⟩ := h
  have hc' : ∀ j, j < b → τ'.1 3 (B + j) = c j := fun j hj => by rw [s1.1 3 (by decide) (by decide)]; exact hc j hj
  unfold f_X6_readAll_j40
  rw [sign6 59 hB s4 s2 hc']
  have k0 := ok1 c hm
  by_cases q : 1 + 4 * m < b ∧ c (1 + 4 * m) = 59
  · rw [if_pos q, bd2_s, i10]
    obtain ⟨q1, q2⟩ := q
    have o0 : okc c (1 + 4 * m) = true := by rw [k0]; exact decide_eq_true q2
    obtain ⟨r, ρ, r1, r2, r3⟩ := rdoll (τ := wS τ' 0 5 (nI (B + (1 + 4 * m + 1)))) (c := c) hB hm (by omega) (by rw [wS_0, upd_0]) (by rw [wS_0, upd_n _ _ (by decide)]; exact s3) (fun j hj => by rw [wS_n _ _ _ (by decide)]; exact hc' j hj)
    have S : Same τ ρ := (s1.w05 _).tr r2
    rw [r1, bd2_s]
    rcases r3 with ⟨rfl, w1, ⟨o1, o2, o3⟩, w3, w4, ⟨w5, w6, w7⟩, w8⟩ | ⟨rfl, f, f1, f2, f3, f4, f5, f6⟩
    · rw [i10]
      refine ⟨_, rfl, Or.inl ⟨ρ, rfl, S, w3, w4, by omega, fun j hj => ?_, fun i hi => ?_⟩⟩
      · by_cases j0 : j < 1 + 4 * m
        · exact s5 j j0
        · rcases (show j = 1 + 4 * m ∨ j = 1 + 4 * m + 1 ∨ j = 1 + 4 * m + 2 ∨ j = 1 + 4 * m + 3 by omega) with rfl | rfl | rfl | rfl
          · exact o0
          · exact o1
          · exact o2
          · exact o3
      · by_cases i0 : i = m
        · subst i0
          exact ⟨w5, w6, w7⟩
        · obtain ⟨z1, z2, z3⟩ := s6 i (by omega)
          refine ⟨?_, ?_, ?_⟩
          · rw [w8 _ (by omega), wS_n _ _ _ (by decide)]; exact z1
          · rw [w8 _ (by omega), wS_n _ _ _ (by decide)]; exact z2
          · rw [w8 _ (by omega), wS_n _ _ _ (by decide)]; exact z3
    · rw [i00]
      refine ⟨_, rfl, Or.inr ⟨ρ, rfl, S, 1 + 4 * m + f, f3, f6, fun j hj => ?_, f5, fun e => Or.inr (by omega)⟩⟩
      by_cases j0 : j < 1 + 4 * m
      · exact s5 j j0
      · by_cases j1 : j = 1 + 4 * m
        · subst j1; exact o0
        · have := f4 (j - (1 + 4 * m)) (by omega) (by omega)
          rw [show 1 + 4 * m + (j - (1 + 4 * m)) = j by omega] at this
          exact this
  · rw [if_neg q, bd2_s, i00]
    refine ⟨_, rfl, Or.inr ⟨τ', rfl, s1, 1 + 4 * m, s4, s2, s5, fun w => ?_, fun e => Or.inl (by omega)⟩⟩
    rw [k0]
    exact decide_eq_false (fun z => q ⟨w, z⟩)
theorem rloop (hB : B + b ≤ 240) (hc : ∀ j, j < b → τ.1 3 (B + j) = c j) : ∀ (k m : Nat), m + k = 4 → ∀ τ', TS τ B b c m τ' → ∀ N', k < N' → ∃ o, lpF (fun z => f_X6_readAll_b17 N (nI (B + b)) z) N' τ' = some o ∧ ((∃ ρ, o = .inl (0, ρ) ∧ FR τ B b c ρ) ∨ ∃ m' ρ, o = .inr ρ ∧ 1 ≤ m' ∧ m' ≤ 4 ∧ (m' = 4 ∨ 1 + 4 * m' = b) ∧ TS τ B b c m' ρ) := by
  intro k
  induction k with
  | zero =>
    intro m hm τ' h N' hN
    obtain ⟨a, rfl⟩ : ∃ a, N' = a + 1 := ⟨N' - 1, by omega⟩
    have : m = 4 := hm
    subst this
    have hB17 : f_X6_readAll_b17 N (nI (B + b)) τ' = some (.inr (.inr τ')) := by
      unfold f_X6_readAll_b17
      rw [h.2.2.1, if_neg (by decide), if_pos (by decide)]
    rw [lp_s, hB17]
    exact ⟨_, rfl, Or.inr ⟨4, τ', rfl, by omega, by omega, Or.inl rfl, h⟩⟩
  | succ k ih =>
    intro m hm τ' h N' hN
    obtain ⟨a, rfl⟩ : ∃ a, N' = a + 1 := ⟨N' - 1, by omega⟩
    have go : (m = 0 ∨ 1 + 4 * m < b) → f_X6_readAll_b17 N (nI (B + b)) τ' = f_X6_readAll_j40 N (nI (B + b)) τ' → ∃ o, lpF (fun z => f_X6_readAll_b17 N (nI (B + b)) z) (a + 1) τ' = some o ∧ ((∃ ρ, o = .inl (0, ρ) ∧ FR τ B b c ρ) ∨ ∃ m' ρ, o = .inr ρ ∧ 1 ≤ m' ∧ m' ≤ 4 ∧ (m' = 4 ∨ 1 + 4 * m' = b) ∧ TS τ B b c m' ρ) := by
      intro h0 hb
      obtain ⟨o, o1, o2⟩ := rstep (N := N) hB hc (by omega) h h0
      rw [lp_s, hb, o1]
      rcases o2 with ⟨ρ, rfl, t⟩ | ⟨ρ, rfl, t⟩
      · exact ih (m + 1) (by omega) ρ t a (by omega)
      · exact ⟨_, rfl, Or.inl ⟨ρ, rfl, t⟩⟩
    by_cases m0 : m = 0
    · refine go (Or.inl m0) ?_
      unfold f_X6_readAll_b17
      rw [h.2.2.1, m0]
      rfl
    · have c1 : ¬ nI m = (0 : Int32) := nI_ne0 (by omega) (by omega)
      have c2 : ¬ (4 : Int32) ≤ nI m := nI_ge (b := 4) (by omega) (by omega)
      by_cases q : 1 + 4 * m < b
      · refine go (Or.inr q) ?_
        unfold f_X6_readAll_b17
        rw [h.2.2.1, h.2.1, if_neg c1, if_neg c2, if_neg (nI_ge (by omega) (by omega))]
      · have hB17 : f_X6_readAll_b17 N (nI (B + b)) τ' = some (.inr (.inr τ')) := by
          unfold f_X6_readAll_b17
          rw [h.2.2.1, h.2.1, if_neg c1, if_neg c2, if_pos (nI_le (by omega) (by omega))]
        rw [lp_s, hB17]
        have := h.2.2.2.1
        exact ⟨_, rfl, Or.inr ⟨m, τ', rfl, by omega, by omega, Or.inr (by omega), h⟩⟩
theorem readAll6 (hN : 100 ≤ N) (hB : B + b ≤ 240) (hc : ∀ j, j < b → τ.1 3 (B + j) = c j) (ha : τ.1 0 5 = nI B) : ∃ r ρ, f_X6_readAll N (nI (B + b)) τ = some (r, ρ) ∧ ((r = 0 ∧ FR τ B b c ρ) ∨ (r = 1 ∧ ∃ m, 1 ≤ m ∧ m ≤ 4 ∧ b = 1 + 4 * m ∧ TS τ B b c m ρ)) := by
  unfold f_X6_readAll
  have S : Same τ (wS τ 0 6 0) := (Same.rf τ).w06 0
  rw [nm_v, sign6 (p := 0) (c := c) 110 hB (by omega) (by rw [wS_0, upd_n _ _ (by decide)]; exact ha) (fun j hj => by rw [wS_n _ _ _ (by decide)]; exact hc j hj)]
  by_cases q : 0 < b ∧ c 0 = 110
  · rw [if_pos q, bd2_s, i10]
    have T0 : TS τ B b c 0 (wS (wS τ 0 6 0) 0 5 (nI (B + (0 + 1)))) := ⟨S.w05 _, rfl, rfl, by omega, fun j hj => by
      have : j = 0 := by omega
      subst this
      rw [ok0]
      exact decide_eq_true q.2, fun i hi => absurd hi (by omega)⟩
    obtain ⟨o, o1, o2⟩ := rloop (N := N) hB hc 4 0 (by omega) _ T0 N (by omega)
    rw [o1, bd_s]
    rcases o2 with ⟨ρ, rfl, t⟩ | ⟨m, ρ, rfl, m1, m4, m5, t⟩
    · exact ⟨_, _, rfl, Or.inl ⟨rfl, t⟩⟩
    · show ∃ r ρ_1, f_X6_readAll_j60 N (nI (B + b)) ρ = some (r, ρ_1) ∧ _
      unfold f_X6_readAll_j60
      obtain ⟨t1, t2, t3, t4, t5, t6⟩ := t
      rw [t2]
      by_cases e : 1 + 4 * m = b
      · rw [if_pos (by rw [e])]
        exact ⟨_, _, rfl, Or.inr ⟨rfl, m, m1, m4, e.symm, t1, t2, t3, t4, t5, t6⟩⟩
      · have m44 : m = 4 := by omega
        subst m44
        rw [if_neg (fun z => e (by have := nI_inj (by omega) (by omega) z; omega))]
        exact ⟨_, _, rfl, Or.inl ⟨rfl, t1, 17, by omega, t2, t5, fun _ => ok17 c, fun w => by omega⟩⟩
  · rw [if_neg q, bd2_s, i00]
    refine ⟨_, _, rfl, Or.inl ⟨rfl, S, 0, by omega, ?_, fun j hj => absurd hj (by omega), fun w => ?_, fun e => Or.inl (by omega)⟩⟩
    · rw [wS_0, upd_n _ _ (by decide)]; exact ha
    · rw [ok0]
      exact decide_eq_false (fun z => q ⟨w, z⟩)
/-- the class takes the dolls -/
def tk5 (σ : St) (c : Nat → Int32) : Nat → St
  | 0 => σ
  | d + 1 => wS (wS (wS (tk5 σ c d) 1 d (kI (c (1 + 4 * d + 1)))) 2 d (c (1 + 4 * d + 2) - 48)) 3 d (c (1 + 4 * d + 3) - 48)
theorem tk5_g {g : Nat} (h1 : g ≠ 1) (h2 : g ≠ 2) (h3 : g ≠ 3) : ∀ m, (tk5 σ c m).1 g = σ.1 g := by
  intro m
  induction m with
  | zero => rfl
  | succ d ih =>
    show (wS (wS (wS (tk5 σ c d) 1 d (kI (c (1 + 4 * d + 1)))) 2 d (c (1 + 4 * d + 2) - 48)) 3 d (c (1 + 4 * d + 3) - 48)).1 g = _
    rw [wS_n _ _ _ h3, wS_n _ _ _ h2, wS_n _ _ _ h1]
    exact ih
theorem tk5_v : ∀ m i, i < m → (tk5 σ c m).1 1 i = kI (c (1 + 4 * i + 1)) ∧ (tk5 σ c m).1 2 i = c (1 + 4 * i + 2) - 48 ∧ (tk5 σ c m).1 3 i = c (1 + 4 * i + 3) - 48 := by
  intro m
  induction m with
  | zero => intro i h; exact absurd h (by omega)
  | succ d ih =>
    intro i h
    show (wS (wS (wS (tk5 σ c d) 1 d (kI (c (1 + 4 * d + 1)))) 2 d (c (1 + 4 * d + 2) - 48)) 3 d (c (1 + 4 * d + 3) - 48)).1 1 i = _ ∧ (wS (wS (wS (tk5 σ c d) 1 d (kI (c (1 + 4 * d + 1)))) 2 d (c (1 + 4 * d + 2) - 48)) 3 d (c (1 + 4 * d + 3) - 48)).1 2 i = _ ∧ (wS (wS (wS (tk5 σ c d) 1 d (kI (c (1 + 4 * d + 1)))) 2 d (c (1 + 4 * d + 2) - 48)) 3 d (c (1 + 4 * d + 3) - 48)).1 3 i = _
    rw [wS_n _ _ _ (show 1 ≠ 3 by decide), wS_n _ _ _ (show 1 ≠ 2 by decide), wS_0, wS_n _ _ _ (show 2 ≠ 3 by decide), wS_0, wS_0]
    by_cases q : i = d
    · subst q
      rw [upd_0, upd_0, upd_0]
      exact ⟨rfl, rfl, rfl⟩
    · rw [upd_n _ _ q, upd_n _ _ q, upd_n _ _ q, wS_n _ _ _ (show 2 ≠ 1 by decide), wS_n _ _ _ (show 3 ≠ 2 by decide), wS_n _ _ _ (show 3 ≠ 1 by decide)]
      exact ih i (by omega)
theorem take5 (hN : 100 ≤ N) {k z a : Nat} (hm1 : 1 ≤ m) (hm : m ≤ 4) (hz : z ≤ 60) (hab : a + (1 + 4 * m) ≤ z) (e5 : σ.1 5 k = nI z) (hc : ∀ j, j < 1 + 4 * m → σ.1 (12 + k) (a + j) = c j) : f_X5_take N k (nI a) (nI (1 + 4 * m)) σ = some (wS (wS (wS (tk5 (wS σ 0 0 (nI m)) c m) 0 1 0) 0 2 0) 0 3 0) := by
  have e0 : f_X4_dollsIn (nI (1 + 4 * m)) = some (nI m) := by
    unfold f_X4_dollsIn
    rw [show nI (1 + 4 * m) - (1 : Int32) = nI (4 * m) from (pk_sub (a := 1 + 4 * m) (b := 1) (by omega)).trans (by rw [show 1 + 4 * m - 1 = 4 * m by omega]), show (4 : Int32) = nI 4 from rfl, pk_div (by omega) (by omega) (by omega), show 4 * m / 4 = m by omega]
    by_cases q : m < 4
    · rw [if_pos ((nI_ltI (by omega) (by omega)).mpr q)]
    · have : m = 4 := by omega
      subst this
      rfl
  unfold f_X5_take
  rw [e0, bd_s, nm_v]
  have key := lp_for (fun w => f_X5_take_b11 N k (nI a) w.1 w.2) (fun i => (nI i, tk5 (wS σ 0 0 (nI m)) c i)) (tk5 (wS σ 0 0 (nI m)) c m) m 0 (fun d _ hd => ?_) ?_ N (by omega)
  · rw [show (((0 : Int32), wS σ 0 0 (nI m)) : Int32 × St) = (nI 0, tk5 (wS σ 0 0 (nI m)) c 0) from rfl, key]
    rfl
  · have hd : d < m := by omega
    show f_X5_take_b11 N k (nI a) (nI d) (tk5 (wS σ 0 0 (nI m)) c d) = some (.inl (nI (d + 1), wS (wS (wS (tk5 (wS σ 0 0 (nI m)) c d) 1 d (kI (c (1 + 4 * d + 1)))) 2 d (c (1 + 4 * d + 2) - 48)) 3 d (c (1 + 4 * d + 3) - 48)))
    have g0 : (tk5 (wS σ 0 0 (nI m)) c d).1 0 0 = nI m := by rw [tk5_g (by decide) (by decide) (by decide), wS_0, upd_0]
    have g5 : (tk5 (wS σ 0 0 (nI m)) c d).1 5 k = nI z := by rw [tk5_g (by decide) (by decide) (by decide), wS_n _ _ _ (by decide)]; exact e5
    have g12 : ∀ j, j < 1 + 4 * m → (tk5 (wS σ 0 0 (nI m)) c d).1 (12 + k) (a + j) = c j := fun j hj => by rw [tk5_g (by omega) (by omega) (by omega), wS_n _ _ _ (by omega)]; exact hc j hj
    generalize tk5 (wS σ 0 0 (nI m)) c d = ρ at g0 g5 g12 ⊢
    unfold f_X5_take_b11 f_X4_tellDoll
    rw [g0, if_neg (nI_ge hd (by omega)), ck_nI (by omega) (by omega), gd_t, nm_v, nI_clamp (by omega), show (4 : Int32) = nI 4 from rfl, pk_mul, nI_1, nI_add, nI_1, nI_1, show nI (a + 1 + 4 * d + 1) + (2 : Int32) = nI (a + 1 + 4 * d + 1 + 2) from nI_add _ 2]
    rw [at5 hz g5 (by omega), bd_s, kI_of, bd_s, nm_v, at5 hz (by rw [wS_n _ _ _ (by decide)]; exact g5) (by omega), bd_s, nm_v, at5 hz (by rw [wS_n _ _ _ (by decide), wS_n _ _ _ (by decide)]; exact g5) (by omega), bd_s, nm_v, bd_s, nm_v, nI_1, wS_n _ _ _ (by omega), wS_n _ _ _ (by omega), wS_n _ _ _ (by omega), show a + 1 + 4 * d + 1 = a + (1 + 4 * d + 1) by omega, show a + (1 + 4 * d + 1) + 1 = a + (1 + 4 * d + 2) by omega, show a + (1 + 4 * d + 1) + 2 = a + (1 + 4 * d + 3) by omega, g12 _ (by omega), g12 _ (by omega), g12 _ (by omega)]
  · rw [Nat.zero_add]
    show f_X5_take_b11 N k (nI a) (nI m) (tk5 (wS σ 0 0 (nI m)) c m) = _
    have g0 : (tk5 (wS σ 0 0 (nI m)) c m).1 0 0 = nI m := by rw [tk5_g (by decide) (by decide) (by decide), wS_0, upd_0]
    unfold f_X5_take_b11
    rw [g0, if_pos (Int32.le_refl _)]
/-- the reference takes them -/
def tk6 (τ : St) : Nat → St
  | 0 => τ
  | d + 1 => wS (wS (wS (wS (tk6 τ d) 4 d (τ.1 8 (3 * d))) 5 d (τ.1 8 (3 * d + 1))) 6 d (τ.1 8 (3 * d + 2))) 7 d 0
theorem tk6_g {g : Nat} (h1 : g ≠ 4) (h2 : g ≠ 5) (h3 : g ≠ 6) (h4 : g ≠ 7) : ∀ m, (tk6 τ m).1 g = τ.1 g := by
  intro m
  induction m with
  | zero => rfl
  | succ d ih =>
    show (wS (wS (wS (wS (tk6 τ d) 4 d (τ.1 8 (3 * d))) 5 d (τ.1 8 (3 * d + 1))) 6 d (τ.1 8 (3 * d + 2))) 7 d 0).1 g = _
    rw [wS_n _ _ _ h4, wS_n _ _ _ h3, wS_n _ _ _ h2, wS_n _ _ _ h1]
    exact ih
theorem tk6_v : ∀ m i, i < m → (tk6 τ m).1 4 i = τ.1 8 (3 * i) ∧ (tk6 τ m).1 5 i = τ.1 8 (3 * i + 1) ∧ (tk6 τ m).1 6 i = τ.1 8 (3 * i + 2) ∧ (tk6 τ m).1 7 i = 0 := by
  intro m
  induction m with
  | zero => intro i h; exact absurd h (by omega)
  | succ d ih =>
    intro i h
    have e4 : (tk6 τ (d + 1)).1 4 = upd ((tk6 τ d).1 4) d (τ.1 8 (3 * d)) := by
      show (wS (wS (wS (wS (tk6 τ d) 4 d (τ.1 8 (3 * d))) 5 d (τ.1 8 (3 * d + 1))) 6 d (τ.1 8 (3 * d + 2))) 7 d 0).1 4 = _
      rw [wS_n _ _ _ (by decide), wS_n _ _ _ (by decide), wS_n _ _ _ (by decide), wS_0]
    have e5 : (tk6 τ (d + 1)).1 5 = upd ((tk6 τ d).1 5) d (τ.1 8 (3 * d + 1)) := by
      show (wS (wS (wS (wS (tk6 τ d) 4 d (τ.1 8 (3 * d))) 5 d (τ.1 8 (3 * d + 1))) 6 d (τ.1 8 (3 * d + 2))) 7 d 0).1 5 = _
      rw [wS_n _ _ _ (by decide), wS_n _ _ _ (by decide), wS_0, wS_n _ _ _ (by decide)]
    have e6 : (tk6 τ (d + 1)).1 6 = upd ((tk6 τ d).1 6) d (τ.1 8 (3 * d + 2)) := by
      show (wS (wS (wS (wS (tk6 τ d) 4 d (τ.1 8 (3 * d))) 5 d (τ.1 8 (3 * d + 1))) 6 d (τ.1 8 (3 * d + 2))) 7 d 0).1 6 = _
      rw [wS_n _ _ _ (by decide), wS_0, wS_n _ _ _ (by decide), wS_n _ _ _ (by decide)]
    have e7 : (tk6 τ (d + 1)).1 7 = upd ((tk6 τ d).1 7) d 0 := by
      show (wS (wS (wS (wS (tk6 τ d) 4 d (τ.1 8 (3 * d))) 5 d (τ.1 8 (3 * d + 1))) 6 d (τ.1 8 (3 * d + 2))) 7 d 0).1 7 = _
      rw [wS_0, wS_n _ _ _ (by decide), wS_n _ _ _ (by decide), wS_n _ _ _ (by decide)]
    rw [e4, e5, e6, e7]
    by_cases q : i = d
    · subst q
      rw [upd_0, upd_0, upd_0, upd_0]
      exact ⟨rfl, rfl, rfl, rfl⟩
    · rw [upd_n _ _ q, upd_n _ _ q, upd_n _ _ q, upd_n _ _ q]
      exact ih i (by omega)
theorem take6 (hN : 100 ≤ N) (hm : m ≤ 4) (e2 : τ.1 0 2 = nI m) : lpF (fun w => f_X6_dolls_b95 N w.1 w.2) N ((0 : Int32), τ) = some (tk6 τ m) := by
  have key := lp_for (fun w => f_X6_dolls_b95 N w.1 w.2) (fun i => (nI i, tk6 τ i)) (tk6 τ m) m 0 (fun d _ hd => ?_) ?_ N (by omega)
  · exact key
  · have hd : d < m := by omega
    show f_X6_dolls_b95 N (nI d) (tk6 τ d) = some (.inl (nI (d + 1), wS (wS (wS (wS (tk6 τ d) 4 d (τ.1 8 (3 * d))) 5 d (τ.1 8 (3 * d + 1))) 6 d (τ.1 8 (3 * d + 2))) 7 d 0))
    have g0 : (tk6 τ d).1 0 2 = nI m := by rw [tk6_g (by decide) (by decide) (by decide) (by decide)]; exact e2
    have g8 : (tk6 τ d).1 8 = τ.1 8 := tk6_g (by decide) (by decide) (by decide) (by decide) d
    generalize tk6 τ d = ρ at g0 g8 ⊢
    unfold f_X6_dolls_b95
    rw [g0, if_neg (nI_ge hd (by omega)), show (3 : Int32) = nI 3 from rfl, pk_mul, nI_1, show nI (3 * d) + (2 : Int32) = nI (3 * d + 2) from nI_add _ 2, ck_nI (by omega) (by omega), ck_nI (by omega) (by omega), ck_nI (by omega) (by omega), ck_nI (by omega) (by omega)]
    simp only [gd_t, nm_v]
    rw [nI_clamp (by omega), nI_clamp (by omega), nI_clamp (by omega), nI_clamp (by omega), nI_1, g8, wS_n _ _ _ (show 8 ≠ 4 by decide), wS_n _ _ _ (show 8 ≠ 5 by decide), wS_n _ _ _ (show 8 ≠ 4 by decide), g8]
  · rw [Nat.zero_add]
    show f_X6_dolls_b95 N (nI m) (tk6 τ m) = _
    have g0 : (tk6 τ m).1 0 2 = nI m := by rw [tk6_g (by decide) (by decide) (by decide) (by decide)]; exact e2
    unfold f_X6_dolls_b95
    rw [g0, if_pos (Int32.le_refl _)]
theorem kI_lt {x : Int32} (h : ¬ kI x = -9) : ∃ k, k ≤ 2 ∧ kI x = nI k := by
  revert h
  unfold kI
  split
  · exact fun _ => ⟨1, by omega, rfl⟩
  · split
    · exact fun _ => ⟨0, by omega, rfl⟩
    · split
      · exact fun _ => ⟨2, by omega, rfl⟩
      · exact fun h => absurd rfl h
theorem told (hm : m ≤ 4) (h : ∀ j, j < 1 + 4 * m → okc c j = true) {d : Nat} (hd : d < m) : ∃ k g r, k ≤ 2 ∧ 1 ≤ g ∧ g ≤ 9 ∧ r < g ∧ kI (c (1 + 4 * d + 1)) = nI k ∧ c (1 + 4 * d + 2) - 48 = nI g ∧ c (1 + 4 * d + 3) - 48 = nI r := by
  have h1 := h (1 + 4 * d + 1) (by omega)
  have h2 := h (1 + 4 * d + 2) (by omega)
  have h3 := h (1 + 4 * d + 3) (by omega)
  rw [ok2 c (by omega)] at h1
  rw [ok3 c (by omega)] at h2
  rw [ok4 c (by omega)] at h3
  obtain ⟨k, k1, k2⟩ := kI_lt (of_decide_eq_true h1)
  obtain ⟨a1, a2⟩ := of_decide_eq_true h2
  obtain ⟨b1, b2⟩ := of_decide_eq_true h3
  obtain ⟨y, y1, y2, y3⟩ := rng (lo := 49) (hi := 57) (by omega) (by omega) a1 a2
  have b3 : ¬ nI (y - 1) < c (1 + 4 * d + 3) := by
    rw [show y - 1 = 48 + ((y - 48) - 1) by omega, ltle (g := y - 48) (by omega) (by omega), show 48 + (y - 48) = y by omega, ← y3]
    exact b2
  obtain ⟨x, x1, x2, x3⟩ := rng (lo := 48) (hi := y - 1) (by omega) (by omega) b1 b3
  exact ⟨k, y - 48, x - 48, k1, by omega, by omega, by omega, k2, by rw [y3]; exact pk_sub (a := y) (b := 48) (by omega), by rw [x3]; exact pk_sub (a := x) (b := 48) (by omega)⟩
end DollsRows
