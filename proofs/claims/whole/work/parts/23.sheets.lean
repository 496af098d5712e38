section SheetRows
variable {C : CaT} {N : Nat} {n s : Nat} {K G M : Nat → Nat} {σ τ σ' τ' : St}
theorem RA.sh (hA : RA C n s K G M σ τ) (k : Nat) (h1 : RS1 k σ' τ') (e4 : ∀ j, j ≠ k → σ'.1 4 j = σ.1 4 j) (e5 : ∀ j, j ≠ k → σ'.1 5 j = σ.1 5 j) (e12 : ∀ j, j < 4 → j ≠ k → σ'.1 (12 + j) = σ.1 (12 + j)) (t1 : ∀ j, j ≠ k → τ'.1 1 j = τ.1 1 j) (t2 : ∀ j, j ≠ k → τ'.1 2 j = τ.1 2 j) (t3 : ∀ j i, j < 4 → j ≠ k → i < 60 → τ'.1 3 (60 * j + i) = τ.1 3 (60 * j + i)) (eo : ∀ g, g ≠ 4 → g ≠ 5 → g < 12 → σ'.1 g = σ.1 g) (to : ∀ g, g ≠ 1 → g ≠ 2 → g ≠ 3 → τ'.1 g = τ.1 g) : RA C n s K G M σ' τ' := by
  obtain ⟨a, b, c, d, e, f⟩ := hA
  have z0 := eo 0 (by omega) (by omega) (by omega)
  have y0 := to 0 (by omega) (by omega) (by omega)
  refine ⟨a.of (by rw [z0]) (eo 1 (by omega) (by omega) (by omega)) (eo 2 (by omega) (by omega) (by omega)) (eo 3 (by omega) (by omega) (by omega)) (by rw [y0]) (to 4 (by omega) (by omega) (by omega)) (to 5 (by omega) (by omega) (by omega)) (to 6 (by omega) (by omega) (by omega)), b.of (by rw [z0]) (to 7 (by omega) (by omega) (by omega)) (by rw [y0]), c.of (by rw [z0]) (by rw [z0]) (by rw [z0]) (by rw [y0]) (by rw [y0]) (by rw [y0]), d.of (by rw [z0]) (eo 6 (by omega) (by omega) (by omega)) (eo 7 (by omega) (by omega) (by omega)) (eo 8 (by omega) (by omega) (by omega)) (by rw [y0]) (to 16 (by omega) (by omega) (by omega)) (to 17 (by omega) (by omega) (by omega)) (to 18 (by omega) (by omega) (by omega)), ?_, f.of (by rw [z0]) (by rw [z0]) (by rw [z0]) (eo 9 (by omega) (by omega) (by omega)) (eo 10 (by omega) (by omega) (by omega)) (eo 11 (by omega) (by omega) (by omega))⟩
  intro j hj
  by_cases q : j = k
  · rw [q]; exact h1
  · exact (e j hj).of (e4 j q) (e5 j q) (e12 j hj q) (t1 j q) (t2 j q) (fun i hi => t3 j i hj q hi)
theorem isS (v : Int32) : (f_X5_isSheet v = some 0 ∧ f_X6_isSheet v = some 0) ∨ ∃ k, k < 4 ∧ v = nI k ∧ f_X5_isSheet v = some 1 ∧ f_X6_isSheet v = some 1 := by
  unfold f_X5_isSheet f_X6_isSheet
  rcases pk_ix v (n := 4) (by omega) with h | h | ⟨k, hk, rfl⟩
  · rw [if_pos h, wi_lo h]; exact Or.inl ⟨rfl, rfl⟩
  · have h' : (4 : Int32) ≤ v := h
    have h3 : (3 : Int32) < v := by
      by_cases q : (3 : Int32) < v
      · exact q
      · exact absurd (Int32.le_trans h' (Int32.not_lt.mp q)) (by decide)
    rw [wi_hi h3, if_pos h']
    refine Or.inl ⟨?_, rfl⟩
    split <;> rfl
  · have a1 : ¬ nI k < 0 := nI_pos (by omega)
    have a2 : ¬ (4 : Int32) ≤ nI k := nI_ge (a := k) (b := 4) hk (by omega)
    have a3 : ¬ (3 : Int32) < nI k := nI_nlt (a := 3) (b := k) (by omega) (by omega)
    rw [if_neg a1, if_neg a2, wi_in a1 a3]
    exact Or.inr ⟨k, hk, rfl, rfl, rfl⟩
theorem isLn (v : Int32) : (f_X5_isLane v = some 0 ∧ f_X6_isSort v = some 0) ∨ ∃ k, k < 3 ∧ v = nI k ∧ f_X5_isLane v = some 1 ∧ f_X6_isSort v = some 1 := by
  unfold f_X5_isLane f_X6_isSort
  rcases pk_ix v (n := 3) (by omega) with h | h | ⟨k, hk, rfl⟩
  · rw [if_pos h, wi_lo h]; exact Or.inl ⟨rfl, rfl⟩
  · have h' : (3 : Int32) ≤ v := h
    have h3 : (2 : Int32) < v := by
      by_cases q : (2 : Int32) < v
      · exact q
      · exact absurd (Int32.le_trans h' (Int32.not_lt.mp q)) (by decide)
    rw [wi_hi h3, if_pos h3]
    refine Or.inl ⟨?_, rfl⟩
    split <;> rfl
  · have a1 : ¬ nI k < 0 := nI_pos (by omega)
    have a3 : ¬ (2 : Int32) < nI k := nI_nlt (a := 2) (b := k) (by omega) (by omega)
    rw [if_neg a1, if_neg a3, wi_in a1 a3]
    exact Or.inr ⟨k, hk, rfl, rfl, rfl⟩
theorem ik {k : Nat} (h : k < 4) : ck (nI k) 4 = true ∧ (nI k).toNatClampNeg = k := ⟨ck_nI h (by omega), nI_clamp (by omega)⟩
theorem s_lose : S_lose N (RR C) := by
  intro v1 σ τ h
  have hR := h
  obtain ⟨n, s, K, G, M, hA⟩ := h
  unfold f_X5_lose f_X6_lose
  rcases isS v1 with ⟨h1, h2⟩ | ⟨k, hk, rfl, h1, h2⟩
  · rw [h1, h2]; exact ⟨_, _, _, rfl, rfl, hR⟩
  · obtain ⟨c1, c2⟩ := ik hk
    rw [h1, h2]
    simp only [gd_t, bd_s, bd2_s, nm_v, i00, i10, i01, i11, ii00, ii10, c1, c2, f_X6_lose_j25, f_X2_hasNothing, f_X2_clear]
    rcases hA.2.2.2.2.1 k hk with ⟨e1, e2⟩ | ⟨ln, z, l1, l2, ⟨e1, e2⟩, ⟨e3, e4⟩, e5⟩
    · rw [e1, e2]
      simp only [if_true, gd_t, bd_s, bd2_s, nm_v, i00, i10, i01, i11, ii00, ii10]
      refine ⟨_, _, _, rfl, rfl, (hA.sh (σ' := σ) (τ' := wS τ 1 k (-9)) k (Or.inl ⟨e1, ?_⟩) (fun _ _ => rfl) (fun _ _ => rfl) (fun _ _ _ => rfl) (fun j hj => ?_) (fun _ _ => rfl) (fun _ _ _ _ _ => rfl) (fun _ _ _ _ => rfl) (fun g g1 g2 g3 => ?_)).toR⟩
      · rw [wS_0, upd_0]
      · rw [wS_0, upd_n _ _ hj]
      · rw [wS_n _ _ _ g1]
    · rw [e1, e3]
      have a1 : ¬ nI ln = (-1 : Int32) := nI_neg1 (by omega)
      have a2 : ¬ nI ln = (-9 : Int32) := nI_neg9 (by omega)
      simp only [if_neg a1, if_neg a2, gd_t, bd_s, bd2_s, nm_v, i00, i10, i01, i11, ii00, ii10]
      refine ⟨_, _, _, rfl, rfl, (hA.sh (σ' := wS (wS σ 4 k (-1)) 5 k 0) (τ' := wS τ 1 k (-9)) k (Or.inl ⟨?_, ?_⟩) (fun j hj => ?_) (fun j hj => ?_) (fun j h1 h2 => ?_) (fun j hj => ?_) (fun _ _ => rfl) (fun _ _ _ _ _ => rfl) (fun g g1 g2 g3 => ?_) (fun g g1 g2 g3 => ?_)).toR⟩
      · rw [wS_n _ _ _ (by omega), wS_0, upd_0]
      · rw [wS_0, upd_0]
      · rw [wS_n _ _ _ (by omega), wS_0, upd_n _ _ hj]
      · rw [wS_0, upd_n _ _ hj, wS_n _ _ _ (by omega)]
      · rw [wS_n _ _ _ (by omega), wS_n _ _ _ (by omega)]
      · rw [wS_0, upd_n _ _ hj]
      · rw [wS_n _ _ _ g2, wS_n _ _ _ g1]
      · rw [wS_n _ _ _ g1]
/-- the cells of sheet k are zero, as the reference writes them -/
theorem zero6 (hN : 100 ≤ N) {k : Nat} (hk : k < 4) (τ : St) : lpF (fun s => f_X6_sheet_b57 N (nI k) s.1 s.2) N ((0 : Int32), τ) = some (wG τ 3 (fun j => if 60 * k ≤ j ∧ j < 60 * k + 60 then 0 else τ.1 3 j)) := by
  have h0 : τ = wG τ 3 (fun j => if 60 * k ≤ j ∧ j < 60 * k + 0 then 0 else τ.1 3 j) := by
    have e : (fun j => if 60 * k ≤ j ∧ j < 60 * k + 0 then (0 : Int32) else τ.1 3 j) = τ.1 3 := by
      funext j
      rw [if_neg (by omega)]
    rw [e, wG_same]
  have key := lp_for (fun s => f_X6_sheet_b57 N (nI k) s.1 s.2) (fun i => (nI i, wG τ 3 (fun j => if 60 * k ≤ j ∧ j < 60 * k + i then 0 else τ.1 3 j))) (wG τ 3 (fun j => if 60 * k ≤ j ∧ j < 60 * k + 60 then 0 else τ.1 3 j)) 60 0 ?_ ?_ N (by omega)
  · have e1 : ((0 : Int32), τ) = (nI 0, wG τ 3 (fun j => if 60 * k ≤ j ∧ j < 60 * k + 0 then 0 else τ.1 3 j)) := by
      rw [← h0]; rfl
    rw [e1]
    exact key
  · intro i _ hi
    have hi : i < 60 := by omega
    show f_X6_sheet_b57 N (nI k) (nI i) _ = _
    unfold f_X6_sheet_b57
    have a1 : ¬ (60 : Int32) ≤ nI i := nI_ge (a := i) (b := 60) hi (by omega)
    have a2 : (60 : Int32) * nI k + nI i = nI (60 * k + i) := by rw [show (60 : Int32) = nI 60 from rfl, pk_mul, nI_add]
    rw [if_neg a1, a2, ck_nI (by omega) (by omega), gd_t, nm_v, nm_v, nI_clamp (by omega), wS_wG]
    show some (Sum.inl (nI i + 1, _)) = some (Sum.inl (nI (i + 1), _))
    rw [nI_1]
    congr 4
    funext j
    unfold upd
    by_cases q : j = 60 * k + i
    · rw [if_pos q, if_pos (by omega)]
    · rw [if_neg q]
      show (if 60 * k ≤ j ∧ j < 60 * k + i then (0 : Int32) else τ.1 3 j) = _
      by_cases q2 : 60 * k ≤ j ∧ j < 60 * k + i
      · rw [if_pos q2, if_pos (by omega)]
      · rw [if_neg q2, if_neg (by omega)]
  · show f_X6_sheet_b57 N (nI k) (nI 60) _ = _
    unfold f_X6_sheet_b57
    rw [if_pos (show (60 : Int32) ≤ nI 60 by decide)]
theorem s_sheet (hN : 100 ≤ N) : S_sheet N (RR C) := by
  intro v1 v2 v3 σ τ h
  obtain ⟨n, s, K, G, M, hA0⟩ := h
  have hA := hA0.fault 0
  have hR := hA.toR
  unfold f_X5_sheet f_X6_sheet
  simp only [nm_v]
  generalize wS σ 0 5 0 = σ at hA hR ⊢
  generalize wS τ 0 0 0 = τ at hA hR ⊢
  rcases isS v1 with ⟨h1, h2⟩ | ⟨k, hk, rfl, h1, h2⟩
  · rw [h1, h2]; exact ⟨_, _, _, rfl, rfl, hR⟩
  · obtain ⟨c1, c2⟩ := ik hk
    rw [h1, h2]
    rcases isLn v2 with ⟨h3, h4⟩ | ⟨ln, hln, rfl, h3, h4⟩
    · rw [h3, h4]; exact ⟨_, _, _, rfl, rfl, hR⟩
    · rw [h3, h4]
      simp only [gd_t, bd_s, bd2_s, nm_v, i00, i10, i01, i11, ii00, ii10, c1, c2, come5, fails6]
      by_cases q1 : v3 ≤ (60 : Int32)
      · by_cases q2 : (0 : Int32) ≤ v3
        · obtain ⟨z, hz, rfl⟩ : ∃ z, z ≤ 60 ∧ v3 = nI z := nI_of2 (M := 60) (n := 60) (by decide) (Int32.not_lt.mpr q2) q1
          simp only [if_pos q1, if_pos q2, zero6 hN hk, f_X6_sheet_j83, gd_t, bd_s, bd2_s, nm_v, i00, i10, i01, i11, ii00, ii10]
          unfold f_X2_renew
          have a1 : ¬ (60 : Int32) < nI z := nI_nlt (a := 60) (b := z) hz (by omega)
          have a2 : (if (0 : Int32) < nI z then nI z else 0) = nI z := by
            by_cases q : (0 : Int32) < nI z
            · rw [if_pos q]
            · rw [if_neg q]
              exact (Int32.le_antisymm (Int32.not_lt.mp q) q2).symm
          simp only [if_neg a1, a2, nm_v, bd_s]
          refine ⟨_, _, _, rfl, rfl, (hA.sh k (Or.inr ⟨ln, z, by omega, hz, ⟨?_, ?_⟩, ⟨?_, ?_⟩, fun j hj => ?_⟩) (fun j hj => ?_) (fun j hj => ?_) (fun j h1 h2 => ?_) (fun j hj => ?_) (fun j hj => ?_) (fun j i h1 h2 h3 => ?_) (fun g g1 g2 g3 => ?_) (fun g g1 g2 g3 => ?_)).toR⟩
          · rw [wG_n _ _ (by omega), wS_n _ _ _ (by omega), wS_0, upd_0]
          · rw [wG_n _ _ (by omega), wS_0, upd_0]
          · rw [wG_n _ _ (by omega), wS_n _ _ _ (by omega), wS_0, upd_0]
          · rw [wG_n _ _ (by omega), wS_0, upd_0]
          · rw [wG_0, wG_0]
            show (if j < 60 then (0 : Int32) else _) = if 60 * k ≤ 60 * k + j ∧ 60 * k + j < 60 * k + 60 then 0 else _
            rw [if_pos hj, if_pos (by omega)]
          · rw [wG_n _ _ (by omega), wS_n _ _ _ (by omega), wS_0, upd_n _ _ hj]
          · rw [wG_n _ _ (by omega), wS_0, upd_n _ _ hj, wS_n _ _ _ (by omega)]
          · rw [wG_n _ _ (by omega), wS_n _ _ _ (by omega), wS_n _ _ _ (by omega)]
          · rw [wG_n _ _ (by omega), wS_n _ _ _ (by omega), wS_0, upd_n _ _ hj]
          · rw [wG_n _ _ (by omega), wS_0, upd_n _ _ hj, wS_n _ _ _ (by omega)]
          · rw [wG_0]
            show (if 60 * k ≤ 60 * j + i ∧ 60 * j + i < 60 * k + 60 then (0 : Int32) else _) = _
            rw [if_neg (by omega), wS_n _ _ _ (by omega), wS_n _ _ _ (by omega)]
          · rw [wG_n _ _ (by omega), wS_n _ _ _ g2, wS_n _ _ _ g1]
          · rw [wG_n _ _ g3, wS_n _ _ _ g2, wS_n _ _ _ g1]
        · simp only [if_pos q1, if_neg q2]
          exact ⟨_, _, _, rfl, rfl, (hA.fault 4).toR⟩
      · simp only [if_neg q1]
        exact ⟨_, _, _, rfl, rfl, hR⟩
theorem nn (x : Int32) : x < 0 ∨ ∃ a, a < 2 ^ 31 ∧ x = nI a := by
  by_cases h : x < 0
  · exact Or.inl h
  · obtain ⟨j, h1, h2⟩ := nI_of h
    exact Or.inr ⟨j, h1, h2⟩
/-- whether there are m cells from i on -/
theorem hc5 {k z : Nat} (hz : z ≤ 60) (e : σ.1 5 k = nI z) (i m : Int32) : (f_X2_hasCells k i m σ = some 0 ∧ (m < 0 ∨ i < 0 ∨ ∃ a b, a < 2 ^ 31 ∧ b < 2 ^ 31 ∧ i = nI a ∧ m = nI b ∧ z < a + b)) ∨ ∃ a b, i = nI a ∧ m = nI b ∧ a + b ≤ z ∧ f_X2_hasCells k i m σ = some 1 := by
  unfold f_X2_hasCells
  rcases nn m with h | ⟨b, hb, rfl⟩
  · rw [if_pos h]; exact Or.inl ⟨rfl, Or.inl h⟩
  · rw [if_neg (nI_pos hb)]
    rcases nn i with h | ⟨a, ha, rfl⟩
    · rw [if_pos h]; exact Or.inl ⟨rfl, Or.inr (Or.inl h)⟩
    · rw [if_neg (nI_pos ha), e]
      by_cases q : z < a
      · rw [if_pos (nI_lt q ha)]
        exact Or.inl ⟨rfl, Or.inr (Or.inr ⟨a, b, ha, hb, rfl, rfl, by omega⟩)⟩
      · rw [if_neg (nI_nlt (by omega) (by omega)), pk_sub (by omega)]
        by_cases q2 : z - a < b
        · rw [if_pos (nI_lt q2 hb)]
          exact Or.inl ⟨rfl, Or.inr (Or.inr ⟨a, b, ha, hb, rfl, rfl, by omega⟩)⟩
        · rw [if_neg (nI_nlt (by omega) (by omega))]
          exact Or.inr ⟨a, b, rfl, rfl, by omega, rfl⟩
theorem flt (hA : RA C n s K G M σ τ) {k : Nat} (hk : k < 4) (v i m : Int32) : ∃ f : Int32, f_X2_faultOf k v i m σ = some f ∧ f_X6_against (nI k) v i m τ = some f ∧ (f = 0 → ∃ ln z a b, ln ≤ 2 ∧ z ≤ 60 ∧ a + b ≤ z ∧ v = nI ln ∧ i = nI a ∧ m = nI b ∧ (σ.1 4 k = nI ln ∧ σ.1 5 k = nI z) ∧ (τ.1 1 k = nI ln ∧ τ.1 2 k = nI z) ∧ ∀ j, j < 60 → σ.1 (12 + k) j = τ.1 3 (60 * k + j)) := by
  obtain ⟨c1, c2⟩ := ik hk
  unfold f_X2_faultOf f_X6_against f_X6_against_j23 f_X2_hasNothing f_X6_against_j70
  simp only [gd_t, bd_s, bd2_s, nm_v, i00, i10, i01, i11, ii00, ii10, c1, c2]
  rcases hA.2.2.2.2.1 k hk with ⟨e1, e2⟩ | ⟨ln, z, l1, l2, ⟨e1, e2⟩, ⟨e3, e4⟩, e5⟩
  · rw [e1, e2]
    exact ⟨1, rfl, rfl, fun q => absurd q (by decide)⟩
  · have a1 : ¬ nI ln = (-1 : Int32) := nI_neg1 (by omega)
    have a2 : ¬ nI ln = (-9 : Int32) := nI_neg9 (by omega)
    rw [e1, e3, e4]
    simp only [if_neg a1, if_neg a2, gd_t, bd_s, bd2_s, nm_v, i00, i10, i01, i11, ii00, ii10]
    by_cases q1 : nI ln = v
    · simp only [if_pos q1]
      rcases nn m with hm | ⟨b, hb, rfl⟩
      · simp only [if_neg (Int32.not_le.mpr hm)]
        exact ⟨4, rfl, rfl, fun q => absurd q (by decide)⟩
      · have b0 : (0 : Int32) ≤ nI b := nI_pos' hb
        simp only [if_pos b0]
        rcases hc5 l2 e2 i (nI b) with ⟨h1, h2⟩ | ⟨a, b', rfl, hb', hab, h1⟩
        · rw [h1]
          simp only [gd_t, bd_s, bd2_s, nm_v, i00, i10, i01, i11, ii00, ii10]
          refine ⟨3, rfl, ?_, fun q => absurd q (by decide)⟩
          rcases h2 with h2 | h2 | ⟨a, b', ha, hb2, rfl, hbb, hz⟩
          · exact absurd h2 (nI_pos hb)
          · rw [if_pos h2]
          · have := nI_inj hb hb2 hbb
            subst this
            rw [if_neg (nI_pos ha)]
            by_cases q2 : z < a
            · rw [if_pos (nI_lt q2 ha)]
            · rw [if_neg (nI_nlt (by omega) (by omega)), pk_sub (by omega), if_neg (nI_ge (by omega) hb)]
        · have hb3 : b' < 2 ^ 31 := by omega
          have := nI_inj hb hb3 hb'
          subst this
          rw [h1]
          simp only [gd_t, bd_s, bd2_s, nm_v, i00, i10, i01, i11, ii00, ii10]
          rw [if_neg (nI_pos (by omega)), if_neg (nI_nlt (by omega) (by omega)), pk_sub (by omega), if_pos (nI_le (by omega) (by omega))]
          exact ⟨0, rfl, rfl, fun _ => ⟨ln, z, a, b, l1, l2, hab, q1.symm, rfl, rfl, ⟨rfl, e2⟩, ⟨rfl, rfl⟩, e5⟩⟩
    · simp only [if_neg q1]
      exact ⟨2, rfl, rfl, fun q => absurd q (by decide)⟩
/-- the same of one cell, as the reference asks it -/
theorem wi1 {z : Nat} (hz : z ≤ 60) (i : Int32) : (f_X6_within i 0 (nI z - 1) = some 0 ∧ (i < 0 ∨ nI z ≤ i)) ∨ ∃ a, a < z ∧ i = nI a ∧ f_X6_within i 0 (nI z - 1) = some 1 := by
  have e : (nI z - (1 : Int32)).toInt = (z : Int) - 1 := pk_sub_toInt (a := z) (b := 1) (by omega) (by omega)
  rcases pk_ix i (n := z) (by omega) with h | h | ⟨a, ha, rfl⟩
  · exact Or.inl ⟨wi_lo h, Or.inl h⟩
  · refine Or.inl ⟨wi_hi ?_, Or.inr h⟩
    rw [Int32.lt_iff_toInt_lt, e]
    have := Int32.le_iff_toInt_le.mp h
    rw [nI_toInt (by omega)] at this
    omega
  · refine Or.inr ⟨a, ha, rfl, wi_in (nI_pos (by omega)) ?_⟩
    rw [Int32.lt_iff_toInt_lt, e, nI_toInt (by omega)]
    omega
theorem hc1 {k z : Nat} (hz : z ≤ 60) (e : σ.1 5 k = nI z) (i : Int32) (h : i < 0 ∨ nI z ≤ i) : f_X2_hasCells k i 1 σ = some 0 := by
  rcases hc5 hz e i 1 with ⟨h1, -⟩ | ⟨a, b, rfl, hb, hab, h1⟩
  · exact h1
  · have hb3 : b < 2 ^ 31 := by omega
    have := nI_inj (a := 1) (b := b) (by omega) hb3 hb
    subst this
    rcases h with h | h
    · exact absurd h (nI_pos (by omega))
    · exact absurd h (nI_ge (by omega) (by omega))
theorem hc1' {k z a : Nat} (hz : z ≤ 60) (e : σ.1 5 k = nI z) (h : a < z) : f_X2_hasCells k (nI a) 1 σ = some 1 := by
  rcases hc5 hz e (nI a) 1 with ⟨h1, h2⟩ | ⟨-, -, -, -, -, h1⟩
  · rcases h2 with h2 | h2 | ⟨a', b', ha, hb, ea, eb, hz'⟩
    · exact absurd h2 (by decide)
    · exact absurd h2 (nI_pos (by omega))
    · have e1 := nI_inj (by omega) ha ea
      have e2 := nI_inj (a := 1) (b := b') (by omega) hb eb
      omega
  · exact h1
def cutI (ln : Nat) (v : Int32) : Int32 := if ln = 0 then Int8.toInt32 (Int32.toInt8 v) else if ln = 1 then Int16.toInt32 (Int32.toInt16 v) else v
theorem s_put : S_put N (RR C) := by
  intro v1 v2 v3 σ τ h
  obtain ⟨n, s, K, G, M, hA0⟩ := h
  have hA := hA0.fault 0
  have hR := hA.toR
  unfold f_X5_put f_X6_put f_X6_put_j93
  simp only [nm_v]
  generalize wS σ 0 5 0 = σ at hA hR ⊢
  generalize wS τ 0 0 0 = τ at hA hR ⊢
  rcases isS v1 with ⟨h1, h2⟩ | ⟨k, hk, rfl, h1, h2⟩
  · rw [h1, h2]; exact ⟨_, _, _, rfl, rfl, hR⟩
  · obtain ⟨c1, c2⟩ := ik hk
    rw [h1, h2]
    simp only [gd_t, bd_s, bd2_s, nm_v, i00, i10, i01, i11, ii00, ii10, c1, c2, come5, fails6, f_X2_hasNothing]
    rcases hA.2.2.2.2.1 k hk with ⟨e1, e2⟩ | ⟨ln, z, l1, l2, ⟨e1, e2⟩, ⟨e3, e4⟩, e5⟩
    · rw [e1, e2]
      exact ⟨_, _, _, rfl, rfl, (hA.fault 1).toR⟩
    · have a1 : ¬ nI ln = (-1 : Int32) := nI_neg1 (by omega)
      have a2 : ¬ nI ln = (-9 : Int32) := nI_neg9 (by omega)
      rw [e1, e3, e4]
      simp only [if_neg a1, if_neg a2, gd_t, bd_s, bd2_s, nm_v, i00, i10, i01, i11, ii00, ii10]
      rcases wi1 l2 v2 with ⟨w1, w2⟩ | ⟨a, ha, rfl, w1⟩
      · rw [w1, hc1 l2 e2 v2 w2]
        exact ⟨_, _, _, rfl, rfl, (hA.fault 3).toR⟩
      · rw [w1, hc1' l2 e2 ha]
        simp only [gd_t, bd_s, bd2_s, nm_v, i00, i10, i01, i11, ii00, ii10]
        have i1 : (60 : Int32) * nI k + nI a = nI (60 * k + a) := by rw [show (60 : Int32) = nI 60 from rfl, pk_mul, nI_add]
        have i2 : ck (nI (60 * k + a)) 240 = true := ck_nI (by omega) (by omega)
        have i3 : ck (nI a) 60 = true := ck_nI (by omega) (by omega)
        have i4 : (nI (60 * k + a)).toNatClampNeg = 60 * k + a := nI_clamp (by omega)
        have i5 : (nI a).toNatClampNeg = a := nI_clamp (by omega)
        have x5 : f_X2_write k (nI a) v3 σ = some (wS σ (12 + k) a (cutI ln v3)) := by
          unfold f_X2_write f_X2_cut cutI
          rw [if_neg (nI_pos (by omega)), e2, if_neg (nI_ge ha (by omega)), e1, show (0 : Int32) = nI 0 from rfl, show (1 : Int32) = nI 1 from rfl]
          simp only [nI_eq (a := ln) (b := 0) (by omega) (by omega), nI_eq (a := ln) (b := 1) (by omega) (by omega), i3, i5]
          by_cases k0 : ln = 0
          · simp only [if_pos k0, gd_t, bd_s, bd2_s, nm_v, i00, i10, i01, i11, ii00, ii10]
          · by_cases k1 : ln = 1
            · simp only [if_neg k0, if_pos k1, gd_t, bd_s, bd2_s, nm_v, i00, i10, i01, i11, ii00, ii10]
            · simp only [if_neg k0, if_neg k1, gd_t, bd_s, bd2_s, nm_v, i00, i10, i01, i11, ii00, ii10]
        rw [x5]
        simp only [i1, i2, i4, gd_t, bd_s, bd2_s, nm_v, i00, i10, i01, i11, ii00, ii10]
        rw [show (0 : Int32) = nI 0 from rfl]
        simp only [nI_eq (a := ln) (b := 0) (by omega) (by omega)]
        have x6 : (if ln = 0 then some ((1 : Int32), wS τ 3 (60 * k + a) (Int8.toInt32 (Int32.toInt8 v3))) else if nI ln = (1 : Int32) then some ((1 : Int32), wS τ 3 (60 * k + a) (Int16.toInt32 (Int32.toInt16 v3))) else some ((1 : Int32), wS τ 3 (60 * k + a) v3)) = some ((1 : Int32), wS τ 3 (60 * k + a) (cutI ln v3)) := by
          unfold cutI
          by_cases k0 : ln = 0
          · rw [if_pos k0, if_pos k0]
          · rw [if_neg k0, if_neg k0, show (1 : Int32) = nI 1 from rfl]
            simp only [nI_eq (a := ln) (b := 1) (by omega) (by omega)]
            by_cases k1 : ln = 1
            · rw [if_pos k1, if_pos k1]
            · rw [if_neg k1, if_neg k1]
        rw [x6]
        refine ⟨_, _, _, rfl, rfl, (hA.sh (σ' := wS σ (12 + k) a (cutI ln v3)) (τ' := wS τ 3 (60 * k + a) (cutI ln v3)) k (Or.inr ⟨ln, z, l1, l2, ⟨?_, ?_⟩, ⟨e3, e4⟩, fun j hj => ?_⟩) (fun j hj => ?_) (fun j hj => ?_) (fun j h1 h2 => ?_) (fun _ _ => rfl) (fun _ _ => rfl) (fun j i h1 h2 h3 => ?_) (fun g g1 g2 g3 => ?_) (fun g g1 g2 g3 => ?_)).toR⟩
        · rw [wS_n _ _ _ (by omega)]; exact e1
        · rw [wS_n _ _ _ (by omega)]; exact e2
        · rw [wS_0, wS_0]
          by_cases q : j = a
          · rw [q, upd_0, upd_0]
          · rw [upd_n _ _ q, upd_n _ _ (by omega)]; exact e5 j hj
        · rw [wS_n _ _ _ (by omega)]
        · rw [wS_n _ _ _ (by omega)]
        · rw [wS_n _ _ _ (by omega)]
        · rw [wS_0, upd_n _ _ (by omega)]
        · rw [wS_n _ _ _ (by omega)]
        · rw [wS_n _ _ _ g3]
theorem ft1 {k : Nat} {v i m : Int32} (e : σ.1 4 k = -1) : f_X2_faultOf k v i m σ = some 1 := by
  unfold f_X2_faultOf f_X2_hasNothing
  rw [e]
  rfl
theorem ft2 {k : Nat} {x v i m : Int32} (e : σ.1 4 k = x) (h : ¬ x = -1) (h2 : ¬ x = v) : f_X2_faultOf k v i m σ = some 2 := by
  unfold f_X2_faultOf f_X2_hasNothing
  rw [e, if_neg h, bd_s, if_neg h2]
  rfl
theorem ft3 {k : Nat} {x v i : Int32} (e : σ.1 4 k = x) (h : ¬ x = -1) (h2 : x = v) (h3 : f_X2_hasCells k i 1 σ = some 0) : f_X2_faultOf k v i 1 σ = some 3 := by
  unfold f_X2_faultOf f_X2_hasNothing
  rw [e, if_neg h, bd_s, if_pos h2, h3]
  rfl
theorem ft0 {k : Nat} {x v i : Int32} (e : σ.1 4 k = x) (h : ¬ x = -1) (h2 : x = v) (h3 : f_X2_hasCells k i 1 σ = some 1) : f_X2_faultOf k v i 1 σ = some 0 := by
  unfold f_X2_faultOf f_X2_hasNothing
  rw [e, if_neg h, bd_s, if_pos h2, h3]
  rfl
theorem s_cell : S_cell N (RR C) := by
  intro v1 v2 v3 σ τ h
  obtain ⟨n, s, K, G, M, hA0⟩ := h
  have hA := hA0.fault 0
  have hR := hA.toR
  unfold f_X5_cell f_X6_cell f_X6_cell_j50 f_X6_lost
  simp only [nm_v]
  have zt : (wS τ 0 0 0).1 0 0 = 0 := rfl
  generalize wS σ 0 5 0 = σ at hA hR ⊢
  generalize wS τ 0 0 0 = τ at hA hR zt ⊢
  rcases isS v1 with ⟨h1, h2⟩ | ⟨k, hk, rfl, h1, h2⟩
  · rw [h1, h2]; exact ⟨_, _, _, rfl, rfl, hR⟩
  · obtain ⟨c1, c2⟩ := ik hk
    rw [h1, h2]
    rcases isLn v3 with ⟨h3, h4⟩ | ⟨lv, hlv, rfl, h3, h4⟩
    · rw [h3, h4]; exact ⟨_, _, _, rfl, rfl, hR⟩
    · rw [h3, h4]
      have tt : ∀ v : Int32, (wS σ 0 5 v).1 0 5 = v := fun _ => rfl
      simp only [gd_t, bd_s, bd2_s, nm_v, i00, i10, i01, i11, ii00, ii10, c1, c2, tt]
      rcases hA.2.2.2.2.1 k hk with ⟨e1, e2⟩ | ⟨ln, z, l1, l2, ⟨e1, e2⟩, ⟨e3, e4⟩, e5⟩
      · rw [ft1 e1, e2]
        exact ⟨_, _, _, rfl, rfl, (hA.fault 1).toR⟩
      · have a1 : ¬ nI ln = (-1 : Int32) := nI_neg1 (by omega)
        have a2 : ¬ nI ln = (-9 : Int32) := nI_neg9 (by omega)
        rw [e3, e4]
        simp only [if_neg a2]
        by_cases q1 : nI ln = nI lv
        · simp only [if_pos q1]
          rcases wi1 l2 v2 with ⟨w1, w2⟩ | ⟨a, ha, rfl, w1⟩
          · rw [w1, ft3 e1 a1 q1 (hc1 l2 e2 v2 w2)]
            exact ⟨_, _, _, rfl, rfl, (hA.fault 3).toR⟩
          · rw [w1, ft0 e1 a1 q1 (hc1' l2 e2 ha)]
            have i1 : (60 : Int32) * nI k + nI a = nI (60 * k + a) := by rw [show (60 : Int32) = nI 60 from rfl, pk_mul, nI_add]
            have i2 : ck (nI (60 * k + a)) 240 = true := ck_nI (by omega) (by omega)
            have i3 : ck (nI a) 60 = true := ck_nI (by omega) (by omega)
            have i4 : (nI (60 * k + a)).toNatClampNeg = 60 * k + a := nI_clamp (by omega)
            have i5 : (nI a).toNatClampNeg = a := nI_clamp (by omega)
            have x5 : f_X2_at k (nI a) (wS σ 0 5 0) = some (σ.1 (12 + k) a) := by
              unfold f_X2_at
              have y2 : (wS σ 0 5 0).1 5 k = nI z := e2
              rw [if_neg (nI_pos (by omega)), y2, if_neg (nI_ge ha (by omega)), i3, gd_t, i5, wS_n _ _ _ (by omega)]
            simp only [gd_t, bd_s, bd2_s, nm_v, i00, i10, i01, i11, ii00, ii10, i1, i2, i4, x5, ← e5 a (by omega)]
            obtain ⟨g1, g2, g3, g4, g5, g6⟩ := hA
            exact ⟨_, _, _, rfl, rfl, RA.toR (C := C) (n := n) (s := s) (K := K) (G := G) (M := M) ⟨g1.of, g2.of, ⟨g3.1, g3.2.1, zt.symm⟩, g4.of, g5.of, g6.of⟩⟩
        · rw [ft2 e1 a1 q1]
          simp only [if_neg q1]
          exact ⟨_, _, _, rfl, rfl, (hA.fault 2).toR⟩
end SheetRows
