section SDollsRows
variable {C : CaT} {N : Nat} {n s : Nat} {K G M : Nat → Nat} {σ τ : St}
theorem RA.new (hA : RA C n s K G M σ τ) {m : Nat} {K' G' M' : Nat → Nat} {σ' τ' : St} (hs : ∀ g, 4 ≤ g → σ'.1 g = σ.1 g) (hs0 : ∀ j, 4 ≤ j → σ'.1 0 j = σ.1 0 j) (ht : ∀ g, g ≠ 0 → (g < 4 ∨ 9 ≤ g) → τ'.1 g = τ.1 g) (ht0 : ∀ j, j < 2 → τ'.1 0 j = τ.1 0 j) (s1 : σ'.1 0 1 = 0) (s2 : σ'.1 0 2 = 0) (s3 : σ'.1 0 3 = 0) (t3 : τ'.1 0 3 = 0) (t4 : τ'.1 0 4 = 0) (t8 : τ'.1 0 8 = 0) (t7 : ∀ d, d < m → τ'.1 7 d = 0) (hd : RDl m K' G' M' σ' τ') : RA C m 0 K' G' M' σ' τ' := by
  obtain ⟨h1, h2, h3, h4, h5, h6⟩ := hA
  have hm := hd.1
  refine ⟨hd, ⟨vld0 m (by omega), s1, fun d hd => ?_, t4⟩, ⟨by rw [s2, t3], by rw [hs0 4 (by omega), ht0 1 (by omega)]; exact h3.2.1, by rw [hs0 5 (by omega), ht0 0 (by omega)]; exact h3.2.2⟩, ⟨0, by omega, s3, t8, fun j hj => absurd hj (by omega)⟩, h5.of (hs 4 (by omega)) (hs 5 (by omega)) (hs 12 (by omega)) (hs 13 (by omega)) (hs 14 (by omega)) (hs 15 (by omega)) (ht 1 (by decide) (by omega)) (ht 2 (by decide) (by omega)) (ht 3 (by decide) (by omega)), h6.of (hs0 6 (by omega)) (hs0 7 (by omega)) (hs0 8 (by omega)) (hs 9 (by omega)) (hs 10 (by omega)) (hs 11 (by omega))⟩
  rw [t7 d hd, pl0]
  rfl
/-- while the reference reads, all else stands -/
theorem RA.same (hA : RA C n s K G M σ τ) {τ' : St} (h : Same τ τ') : RA C n s K G M σ τ' := by
  obtain ⟨h1, h2, h3, h4, h5, h6⟩ := hA
  have z : ∀ j, j ≠ 5 → j ≠ 6 → τ'.1 0 j = τ.1 0 j := h.2
  have y : ∀ g, g ≠ 0 → g ≠ 8 → τ'.1 g = τ.1 g := h.1
  exact ⟨h1.of rfl rfl rfl rfl (z 2 (by decide) (by decide)) (y 4 (by decide) (by decide)) (y 5 (by decide) (by decide)) (y 6 (by decide) (by decide)), h2.of rfl (y 7 (by decide) (by decide)) (z 4 (by decide) (by decide)), h3.of rfl rfl rfl (z 3 (by decide) (by decide)) (z 1 (by decide) (by decide)) (z 0 (by decide) (by decide)), h4.of rfl rfl rfl rfl (z 8 (by decide) (by decide)) (y 16 (by decide) (by decide)) (y 17 (by decide) (by decide)) (y 18 (by decide) (by decide)), h5.of rfl rfl rfl rfl rfl rfl (y 1 (by decide) (by decide)) (y 2 (by decide) (by decide)) (y 3 (by decide) (by decide)), h6⟩
theorem s_dolls (hN : 100 ≤ N) : S_dolls N (RR C) := by
  intro v1 v2 v3 v4 σ τ h
  obtain ⟨n, s, K, G, M, hA0⟩ := h
  have hA := hA0.fault 0
  have hR := hA.toR
  unfold f_X5_dolls f_X6_dolls
  simp only [nm_v]
  generalize wS σ 0 5 0 = σ at hA hR ⊢
  generalize wS τ 0 0 0 = τ at hA hR ⊢
  rcases isS v1 with ⟨h1, h2⟩ | ⟨k, hk, rfl, h1, h2⟩
  · rw [h1, h2]; exact ⟨_, _, _, rfl, rfl, hR⟩
  rw [h1, h2, bd_s, bd_s, i10, i10]
  rcases isLn v2 with ⟨h3, h4⟩ | ⟨l0, hl0, rfl, h3, h4⟩
  · rw [h3, h4]; exact ⟨_, _, _, rfl, rfl, hR⟩
  rw [h3, h4, bd_s, bd_s, i10, i10]
  obtain ⟨c1, c2⟩ := ik hk
  rw [c1, gd_t, c2]
  obtain ⟨f, f1, f2, f3⟩ := flt hA hk (nI l0) v3 v4
  rw [f1, f2, bd_s, bd_s]
  by_cases f0 : f = 0
  · obtain ⟨ln, z, a, b, l1, l2, l3, l4, rfl, rfl, ⟨y1, y2⟩, -, y5⟩ := f3 f0
    rw [if_pos f0, if_pos f0, gd_t, gd_t, show (60 : Int32) = nI 60 from rfl, pk_mul, nI_add, nI_add]
    have hcs : ∀ j, j < b → σ.1 (12 + k) (a + j) = (fun j => σ.1 (12 + k) (a + j)) j := fun _ _ => rfl
    have hB : 60 * k + a + b ≤ 240 := by omega
    have hct : ∀ j, j < b → (wS τ 0 5 (nI (60 * k + a))).1 3 (60 * k + a + j) = (fun j => σ.1 (12 + k) (a + j)) j := by
      intro j hj
      show (wS τ 0 5 (nI (60 * k + a))).1 3 (60 * k + a + j) = σ.1 (12 + k) (a + j)
      rw [wS_n _ _ _ (by decide), y5 (a + j) (by omega), Nat.add_assoc]
    generalize (fun j => σ.1 (12 + k) (a + j)) = c at hcs hct
    have S0 : Same τ (wS τ 0 5 (nI (60 * k + a))) := (Same.rf τ).w05 _
    obtain ⟨r, ρ, r1, r2⟩ := readAll6 (c := c) hN hB hct (by rw [wS_0, upd_0])
    rw [r1, bd2_s]
    rcases r2 with ⟨rfl, g1, q, g2, g3, g4, g5, g6⟩ | ⟨rfl, m, m1, m4, rfl, t1, t2, t3, t4, t5, t6⟩
    · rw [i00, fault5 hN l2 l3 y2 hcs g2 g4 g5, bd_s, g3]
      have e1 : nI (60 * k + a + q) - nI (60 * k + a) = nI q := (pk_sub (a := 60 * k + a + q) (b := 60 * k + a) (by omega)).trans (by rw [show 60 * k + a + q - (60 * k + a) = q by omega])
      have e2 : (if q < b then nI q else if b ≤ 1 then nI b else if b % 4 = 1 then -9 else nI b) = nI q := by
        by_cases w : q < b
        · rw [if_pos w]
        · have : q = b := by omega
          subst this
          rw [if_neg w]
          by_cases w1 : q ≤ 1
          · rw [if_pos w1]
          · rw [if_neg w1, if_neg (by rcases g6 rfl with v | v; exact absurd v w1; exact v)]
      rw [e1, e2, if_neg (nI_neg9 (by omega))]
      exact ⟨_, _, _, rfl, rfl, (hA.same (S0.tr g1)).toR⟩
    · have e9 : (if 1 + 4 * m < 1 + 4 * m then nI (1 + 4 * m) else if 1 + 4 * m ≤ 1 then nI (1 + 4 * m) else if (1 + 4 * m) % 4 = 1 then -9 else nI (1 + 4 * m)) = (-9 : Int32) := by
        rw [if_neg (by omega), if_neg (by omega), if_pos (by omega)]
      rw [i10, fault5 (q := 1 + 4 * m) hN l2 l3 y2 hcs (by omega) t5 (fun w => absurd w (by omega)), bd_s, e9, if_pos rfl, take5 hN m1 m4 l2 l3 y2 hcs, bd_s, t3]
      have e2 : (wS ρ 0 2 (nI m)).1 0 2 = nI m := by rw [wS_0, upd_0]
      rw [take6 hN m4 e2, bd_s]
      unfold f_X6_dolls_j170
      simp only [nm_v]
      have v5 := tk5_v (σ := wS σ 0 0 (nI m)) (c := c) m
      have v6 := tk6_v (τ := wS ρ 0 2 (nI m)) m
      have w5 : ∀ g, g ≠ 1 → g ≠ 2 → g ≠ 3 → (tk5 (wS σ 0 0 (nI m)) c m).1 g = (wS σ 0 0 (nI m)).1 g := fun g a1 a2 a3 => tk5_g a1 a2 a3 m
      have w6 : ∀ g, g ≠ 4 → g ≠ 5 → g ≠ 6 → g ≠ 7 → (tk6 (wS ρ 0 2 (nI m)) m).1 g = (wS ρ 0 2 (nI m)).1 g := fun g a1 a2 a3 a4 => tk6_g a1 a2 a3 a4 m
      generalize tk5 (wS σ 0 0 (nI m)) c m = α at v5 w5 ⊢
      generalize tk6 (wS ρ 0 2 (nI m)) m = β at v6 w6 ⊢
      have S1 : Same τ ρ := S0.tr t1
      have α0 : α.1 0 0 = nI m := by rw [w5 0 (by decide) (by decide) (by decide), wS_0, upd_0]
      have β2 : β.1 0 2 = nI m := by rw [w6 0 (by decide) (by decide) (by decide) (by decide)]; exact e2
      have x1 : (wS (wS (wS α 0 1 0) 0 2 0) 0 3 0).1 0 0 = nI m := α0
      have x2 : (wS (wS (wS β 0 4 0) 0 3 0) 0 8 0).1 0 2 = nI m := β2
      rw [x1, x2]
      refine ⟨_, _, _, rfl, rfl, m, 0, fun d => (kI (c (1 + 4 * d + 1))).toNatClampNeg, fun d => (c (1 + 4 * d + 2) - 48).toNatClampNeg, fun d => (c (1 + 4 * d + 3) - 48).toNatClampNeg, hA.new (fun g hg => ?_) (fun j hj => ?_) (fun g h0 hg => ?_) (fun j hj => ?_) rfl rfl rfl rfl rfl rfl (fun d hd => ?_) ⟨m4, x1, x2, fun d hd => ?_, fun d hd => ?_⟩⟩
      · rw [wS_n _ _ _ (by omega), wS_n _ _ _ (by omega), wS_n _ _ _ (by omega), w5 g (by omega) (by omega) (by omega), wS_n _ _ _ (by omega)]
      · rw [wS_0, upd_n _ _ (by omega), wS_0, upd_n _ _ (by omega), wS_0, upd_n _ _ (by omega), w5 0 (by decide) (by decide) (by decide), wS_0, upd_n _ _ (by omega)]
      · rw [wS_n _ _ _ h0, wS_n _ _ _ h0, wS_n _ _ _ h0, w6 g (by omega) (by omega) (by omega) (by omega), wS_n _ _ _ h0, S1.1 g h0 (by omega)]
      · rw [wS_0, upd_n _ _ (by omega), wS_0, upd_n _ _ (by omega), wS_0, upd_n _ _ (by omega), w6 0 (by decide) (by decide) (by decide) (by decide), wS_0, upd_n _ _ (by omega), S1.2 j (by omega) (by omega)]
      · rw [wS_n _ _ _ (by decide), wS_n _ _ _ (by decide), wS_n _ _ _ (by decide)]; exact (v6 d hd).2.2.2
      · obtain ⟨kk, g, r, a1, a2, a3, a4, a5, a6, a7⟩ := told m4 t5 hd
        show (kI (c (1 + 4 * d + 1))).toNatClampNeg ≤ 2 ∧ 1 ≤ (c (1 + 4 * d + 2) - 48).toNatClampNeg ∧ (c (1 + 4 * d + 2) - 48).toNatClampNeg ≤ 9 ∧ (c (1 + 4 * d + 3) - 48).toNatClampNeg < (c (1 + 4 * d + 2) - 48).toNatClampNeg
        rw [a5, a6, a7, nI_clamp (by omega), nI_clamp (by omega), nI_clamp (by omega)]
        exact ⟨a1, a2, a3, a4⟩
      · obtain ⟨kk, g, r, a1, a2, a3, a4, a5, a6, a7⟩ := told m4 t5 hd
        obtain ⟨b1, b2, b3⟩ := v5 d hd
        obtain ⟨d1, d2, d3, -⟩ := v6 d hd
        obtain ⟨e1, e2, e3⟩ := t6 d hd
        have n8 : (wS ρ 0 2 (nI m)).1 8 = ρ.1 8 := wS_n _ _ _ (by decide)
        rw [n8, e1] at d1
        rw [n8, e2] at d2
        rw [n8, e3] at d3
        show (α.1 1 d = nI ((kI (c (1 + 4 * d + 1))).toNatClampNeg) ∧ α.1 2 d = nI ((c (1 + 4 * d + 2) - 48).toNatClampNeg) ∧ α.1 3 d = nI ((c (1 + 4 * d + 3) - 48).toNatClampNeg)) ∧ β.1 4 d = nI ((kI (c (1 + 4 * d + 1))).toNatClampNeg) ∧ β.1 5 d = nI ((c (1 + 4 * d + 2) - 48).toNatClampNeg) ∧ β.1 6 d = nI ((c (1 + 4 * d + 3) - 48).toNatClampNeg)
        rw [b1, b2, b3, d1, d2, d3, a5, a6, a7, nI_clamp (by omega), nI_clamp (by omega), nI_clamp (by omega)]
        exact ⟨⟨rfl, rfl, rfl⟩, rfl, rfl, rfl⟩
  · rw [if_neg f0, if_neg f0, come5, fails6]
    exact ⟨_, _, _, rfl, rfl, (hA.fault f).toR⟩
end SDollsRows
