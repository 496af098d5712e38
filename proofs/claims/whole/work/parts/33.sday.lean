section SDayRows
variable {C : CaT} {N : Nat} {n s : Nat} {K G M : Nat → Nat} {σ τ : St}
theorem s_day (hN : 100 ≤ N) : S_day N (RR C) := by
  intro v1 v2 v3 v4 v5 σ τ h
  obtain ⟨n, s, K, G, M, hA0⟩ := h
  have hA := hA0.fault 0
  have hR := hA.toR
  unfold f_X5_day f_X6_day
  simp only [nm_v]
  generalize wS σ 0 5 0 = σ at hA hR ⊢
  generalize wS τ 0 0 0 = τ at hA hR ⊢
  rcases isS v1 with ⟨h1, h2⟩ | ⟨k, hk, rfl, h1, h2⟩
  · rw [h1, h2]; exact ⟨_, _, _, rfl, rfl, hR⟩
  rw [h1, h2, bd_s, bd_s, i10, i10]
  rcases isLn v2 with ⟨h3, h4⟩ | ⟨l0, hl0, rfl, h3, h4⟩
  · rw [h3, h4]; exact ⟨_, _, _, rfl, rfl, hR⟩
  rw [h3, h4, bd_s, bd_s, i10, i10]
  by_cases q1 : v4 < 0
  · rw [if_pos q1, wi_lo q1]; exact ⟨_, _, _, rfl, rfl, hR⟩
  rw [if_neg q1]
  by_cases q2 : 20 < v4
  · rw [if_pos q2, wi_hi q2]; exact ⟨_, _, _, rfl, rfl, hR⟩
  rw [if_neg q2, wi_in q1 q2, bd_s, i10]
  obtain ⟨c1, c2⟩ := ik hk
  rcases ask v5 with ⟨h5, h6, h7⟩ | ⟨h5, h6⟩
  · rw [h5, h6, h7]; exact ⟨_, _, _, rfl, rfl, hR⟩
  have hm : (bd (f_X6_within v5 0 4) fun r_36 => if r_36 = 0 then bd (f_X6_within v5 10 13) fun r_39 => if r_39 = 0 then some (-2, τ) else f_X6_day_j57 N (nI k) (nI l0) v3 v4 v5 τ else f_X6_day_j57 N (nI k) (nI l0) v3 v4 v5 τ) = f_X6_day_j57 N (nI k) (nI l0) v3 v4 v5 τ := by
    rcases h6 with ⟨h7, -⟩ | ⟨h7, h8, -⟩
    · rw [h7]; rfl
    · rw [h7, h8]; rfl
  rw [hm, h5, bd_s, i10, c1, gd_t, c2]
  unfold f_X6_day_j57
  have hq5 : (∃ q, q < 5 ∧ v5 = nI q) ∨ ∃ q, q < 4 ∧ v5 = nI (10 + q) := by
    rcases h6 with ⟨-, h7⟩ | ⟨-, -, h7⟩
    · exact Or.inl h7
    · exact Or.inr h7
  obtain ⟨f, f1, f2, f3⟩ := flt hA hk (nI l0) v3 v4
  rw [f1, f2, bd_s, bd_s]
  by_cases f0 : f = 0
  · obtain ⟨ln, z, a, b, l1, l2, l3, l4, rfl, rfl, ⟨y1, y2⟩, -, y5⟩ := f3 f0
    have hb : b ≤ 20 := by
      rcases Nat.lt_or_ge 20 b with w | w
      · exact absurd ((nI_ltI (a := 20) (by omega) (by omega)).mpr w) q2
      · exact w
    rw [if_pos f0, if_pos f0, hA.1.2.1, hA.1.2.2.1]
    by_cases q0 : nI n = 0
    · rw [if_pos q0, if_pos q0]; exact ⟨_, _, _, rfl, rfl, hR⟩
    rw [if_neg q0, if_neg q0, gd_t, show (60 : Int32) = nI 60 from rfl, pk_mul, nI_add, nm_v]
    rcases allActs (v5 := v5) hN hk l2 l3 hb y2 y5 with ⟨g1, g2⟩ | ⟨g1, g2, x, gx⟩
    · rw [g1, g2]; exact ⟨_, _, _, rfl, rfl, hR⟩
    rw [g1, g2, bd_s, bd_s, i10, gd_t]
    show ∃ r σ' τ', _ ∧ f_X6_day_j136 N (nI b) v5 (nI (60 * k + a)) τ = some (r, τ') ∧ RR C σ' τ'
    unfold f_X6_day_j136
    rw [nestNow6 hN hA, bd_s]
    rcases wrong56 (x := x) hN hA hk l2 l3 hb l1 y1 y2 (fun j hj => (gx j hj).2.1) (fun j hj => (gx j hj).1) with ⟨j, τ', s', hj, w1, w2, w3⟩ | ⟨τ', w1, w2, w3, w4⟩
    · obtain ⟨r, r1, -⟩ := tellS hN w3 hq5
      obtain ⟨τ'', b1, b2⟩ := backTo hN hA w3
      rw [w1, w2, bd_s, bd2_s, r1, bd_s, b1, bd_s]
      by_cases q5 : v5 = 1
      · rw [if_pos q5, if_pos q5]; exact ⟨_, _, _, rfl, rfl, b2.toR⟩
      rw [if_neg q5, if_neg q5, if_neg (nI_neg9 (by omega)), if_neg (nI_neg9 (by omega))]
      exact ⟨_, _, _, rfl, rfl, b2.toR⟩
    · obtain ⟨r, r1, r2⟩ := tellS hN w3 hq5
      obtain ⟨τ'', b1, b2⟩ := backTo hN hA w3
      rw [w1, w2, bd_s, bd2_s, r1, bd_s, b1, bd_s]
      by_cases q5 : v5 = 1
      · rw [if_pos q5, if_pos q5]; exact ⟨_, _, _, rfl, rfl, b2.toR⟩
      have r3 : f_X5_ofStand N (nI (sd s x b)) v5 σ = some r := r2 q5
      rw [if_neg q5, if_neg q5, if_pos rfl, if_pos rfl, gd_t, standA hN hA l2 l3 hb y2 (fun j hj => (gx j hj).2.1) (fun j hj => (gx j hj).1) w4, bd_s, r3]
      exact ⟨_, _, _, rfl, rfl, b2.toR⟩
  · rw [if_neg f0, if_neg f0, come5, fails6]
    exact ⟨_, _, _, rfl, rfl, (hA.fault f).toR⟩
end SDayRows
