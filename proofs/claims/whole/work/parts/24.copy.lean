section CopyRows
variable {C : CaT} {N : Nat} {n s : Nat} {K G M : Nat → Nat} {σ τ : St}
theorem hcN {k z : Nat} (hz : z ≤ 60) (e : σ.1 5 k = nI z) {a m : Nat} (ha : a < 2 ^ 31) (hm : m < 2 ^ 31) : f_X2_hasCells k (nI a) (nI m) σ = some (if a + m ≤ z then 1 else 0) := by
  rcases hc5 hz e (nI a) (nI m) with ⟨h1, h2⟩ | ⟨a', b', ea, eb, hab, h1⟩
  · rw [h1]
    rcases h2 with h2 | h2 | ⟨a', b', ha', hb', ea, eb, hz'⟩
    · exact absurd h2 (nI_pos hm)
    · exact absurd h2 (nI_pos ha)
    · have e1 := nI_inj ha ha' ea
      have e2 := nI_inj hm hb' eb
      rw [if_neg (by omega)]
  · have e1 := nI_inj ha (by omega) ea
    have e2 := nI_inj hm (by omega) eb
    rw [h1, if_pos (by omega)]
theorem cpy6a (hN : 100 ≤ N) {p q a b m : Nat} (hp : p < 4) (hq : q < 4) (h1 : a + m ≤ 60) (h2 : b + m ≤ 60) (hd : b ≤ a) (τ : St) : lpF (fun s => f_X6_copy_b166 N (nI p) (nI a) (nI q) (nI b) (nI m) 0 s.1 s.2) N ((0 : Int32), τ) = some (wG τ 3 (fun x => if 60 * q + b ≤ x ∧ x < 60 * q + b + m then τ.1 3 (60 * p + a + (x - (60 * q + b))) else τ.1 3 x)) := by
  have h0 : τ = wG τ 3 (fun x => if 60 * q + b ≤ x ∧ x < 60 * q + b + 0 then τ.1 3 (60 * p + a + (x - (60 * q + b))) else τ.1 3 x) := by
    have e : (fun x => if 60 * q + b ≤ x ∧ x < 60 * q + b + 0 then τ.1 3 (60 * p + a + (x - (60 * q + b))) else τ.1 3 x) = τ.1 3 := by
      funext j
      rw [if_neg (by omega)]
    rw [e, wG_same]
  have key := lp_for (fun s => f_X6_copy_b166 N (nI p) (nI a) (nI q) (nI b) (nI m) 0 s.1 s.2) (fun i => (nI i, wG τ 3 (fun x => if 60 * q + b ≤ x ∧ x < 60 * q + b + i then τ.1 3 (60 * p + a + (x - (60 * q + b))) else τ.1 3 x))) (wG τ 3 (fun x => if 60 * q + b ≤ x ∧ x < 60 * q + b + m then τ.1 3 (60 * p + a + (x - (60 * q + b))) else τ.1 3 x)) m 0 ?_ ?_ N (by omega)
  · have e1 : ((0 : Int32), τ) = (nI 0, wG τ 3 (fun x => if 60 * q + b ≤ x ∧ x < 60 * q + b + 0 then τ.1 3 (60 * p + a + (x - (60 * q + b))) else τ.1 3 x)) := by
      rw [← h0]; rfl
    rw [e1]
    exact key
  · intro i _ hi
    have hi : i < m := by omega
    show f_X6_copy_b166 N (nI p) (nI a) (nI q) (nI b) (nI m) 0 (nI i) _ = _
    unfold f_X6_copy_b166 f_X6_copy_j190
    have a1 : ¬ nI m ≤ nI i := nI_ge hi (by omega)
    have a2 : (60 : Int32) * nI p + nI a + nI i = nI (60 * p + a + i) := by rw [show (60 : Int32) = nI 60 from rfl, pk_mul, nI_add, nI_add]
    have a3 : (60 : Int32) * nI q + nI b + nI i = nI (60 * q + b + i) := by rw [show (60 : Int32) = nI 60 from rfl, pk_mul, nI_add, nI_add]
    rw [if_neg a1, i00, a2, a3, ck_nI (by omega) (by omega), ck_nI (by omega) (by omega), gd_t, gd_t, nm_v, nm_v, nI_clamp (by omega), nI_clamp (by omega), wS_wG, wG_0]
    show some (Sum.inl (nI i + 1, _)) = some (Sum.inl (nI (i + 1), _))
    rw [nI_1]
    congr 4
    funext j
    unfold upd
    by_cases q1 : j = 60 * q + b + i
    · rw [if_pos q1]
      show (if 60 * q + b ≤ 60 * p + a + i ∧ 60 * p + a + i < 60 * q + b + i then _ else τ.1 3 (60 * p + a + i)) = (if 60 * q + b ≤ j ∧ j < 60 * q + b + (i + 1) then τ.1 3 (60 * p + a + (j - (60 * q + b))) else _)
      rw [if_neg (by omega), if_pos (by omega)]
      exact congrArg (τ.1 3) (by omega)
    · rw [if_neg q1]
      show (if 60 * q + b ≤ j ∧ j < 60 * q + b + i then _ else _) = _
      by_cases q2 : 60 * q + b ≤ j ∧ j < 60 * q + b + i
      · rw [if_pos q2, if_pos (by omega)]
      · rw [if_neg q2, if_neg (by omega)]
  · show f_X6_copy_b166 N (nI p) (nI a) (nI q) (nI b) (nI m) 0 (nI (0 + m)) _ = _
    rw [Nat.zero_add]
    unfold f_X6_copy_b166
    rw [if_pos (Int32.le_refl _)]
theorem cpy6b (hN : 100 ≤ N) {p q a b m : Nat} (hp : p < 4) (hq : q < 4) (h1 : a + m ≤ 60) (h2 : b + m ≤ 60) (hd : a < b) (τ : St) : lpF (fun s => f_X6_copy_b166 N (nI p) (nI a) (nI q) (nI b) (nI m) 1 s.1 s.2) N ((0 : Int32), τ) = some (wG τ 3 (fun x => if 60 * q + b ≤ x ∧ x < 60 * q + b + m then τ.1 3 (60 * p + a + (x - (60 * q + b))) else τ.1 3 x)) := by
  have h0 : τ = wG τ 3 (fun x => if 60 * q + b + (m - 0) ≤ x ∧ x < 60 * q + b + m then τ.1 3 (60 * p + a + (x - (60 * q + b))) else τ.1 3 x) := by
    have e : (fun x => if 60 * q + b + (m - 0) ≤ x ∧ x < 60 * q + b + m then τ.1 3 (60 * p + a + (x - (60 * q + b))) else τ.1 3 x) = τ.1 3 := by
      funext j
      rw [if_neg (by omega)]
    rw [e, wG_same]
  have key := lp_for (fun s => f_X6_copy_b166 N (nI p) (nI a) (nI q) (nI b) (nI m) 1 s.1 s.2) (fun i => (nI i, wG τ 3 (fun x => if 60 * q + b + (m - i) ≤ x ∧ x < 60 * q + b + m then τ.1 3 (60 * p + a + (x - (60 * q + b))) else τ.1 3 x))) (wG τ 3 (fun x => if 60 * q + b + (m - m) ≤ x ∧ x < 60 * q + b + m then τ.1 3 (60 * p + a + (x - (60 * q + b))) else τ.1 3 x)) m 0 ?_ ?_ N (by omega)
  · have e1 : ((0 : Int32), τ) = (nI 0, wG τ 3 (fun x => if 60 * q + b + (m - 0) ≤ x ∧ x < 60 * q + b + m then τ.1 3 (60 * p + a + (x - (60 * q + b))) else τ.1 3 x)) := by
      rw [← h0]; rfl
    rw [e1]
    refine key.trans ?_
    rw [Nat.sub_self]
    rfl
  · intro i _ hi
    have hi : i < m := by omega
    show f_X6_copy_b166 N (nI p) (nI a) (nI q) (nI b) (nI m) 1 (nI i) _ = _
    unfold f_X6_copy_b166 f_X6_copy_j190
    have a1 : ¬ nI m ≤ nI i := nI_ge hi (by omega)
    have a0 : nI m - (1 : Int32) - nI i = nI (m - 1 - i) := by rw [show (1 : Int32) = nI 1 from rfl, pk_sub (by omega), pk_sub (by omega)]
    have a2 : (60 : Int32) * nI p + nI a + nI (m - 1 - i) = nI (60 * p + a + (m - 1 - i)) := by rw [show (60 : Int32) = nI 60 from rfl, pk_mul, nI_add, nI_add]
    have a3 : (60 : Int32) * nI q + nI b + nI (m - 1 - i) = nI (60 * q + b + (m - 1 - i)) := by rw [show (60 : Int32) = nI 60 from rfl, pk_mul, nI_add, nI_add]
    rw [if_neg a1, i10, a0, a2, a3, ck_nI (by omega) (by omega), ck_nI (by omega) (by omega), gd_t, gd_t, nm_v, nm_v, nI_clamp (by omega), nI_clamp (by omega), wS_wG, wG_0]
    show some (Sum.inl (nI i + 1, _)) = some (Sum.inl (nI (i + 1), _))
    rw [nI_1]
    congr 4
    funext j
    unfold upd
    by_cases q1 : j = 60 * q + b + (m - 1 - i)
    · rw [if_pos q1]
      show (if 60 * q + b + (m - i) ≤ 60 * p + a + (m - 1 - i) ∧ 60 * p + a + (m - 1 - i) < 60 * q + b + m then _ else τ.1 3 (60 * p + a + (m - 1 - i))) = (if 60 * q + b + (m - (i + 1)) ≤ j ∧ j < 60 * q + b + m then τ.1 3 (60 * p + a + (j - (60 * q + b))) else _)
      rw [if_neg (by omega), if_pos (by omega)]
      exact congrArg (τ.1 3) (by omega)
    · rw [if_neg q1]
      show (if 60 * q + b + (m - i) ≤ j ∧ j < 60 * q + b + m then _ else _) = _
      by_cases q2 : 60 * q + b + (m - i) ≤ j ∧ j < 60 * q + b + m
      · rw [if_pos q2, if_pos (by omega)]
      · rw [if_neg q2, if_neg (by omega)]
  · show f_X6_copy_b166 N (nI p) (nI a) (nI q) (nI b) (nI m) 1 (nI (0 + m)) _ = _
    rw [Nat.zero_add]
    unfold f_X6_copy_b166
    rw [if_pos (Int32.le_refl _)]
theorem s_copy (hN : 100 ≤ N) : S_copy N (RR C) := by
  intro v1 v2 v3 v4 v5 σ τ h
  obtain ⟨n, s, K, G, M, hA0⟩ := h
  have hA := hA0.fault 0
  have hR := hA.toR
  unfold f_X5_copy f_X6_copy f_X5_copy_j106 f_X5_copy_j45 f_X6_copy_j43
  simp only [nm_v]
  generalize wS σ 0 5 0 = σ at hA hR ⊢
  generalize wS τ 0 0 0 = τ at hA hR ⊢
  rcases isS v1 with ⟨h1, h2⟩ | ⟨p, hp, rfl, h1, h2⟩
  · rw [h1, h2]; exact ⟨_, _, _, rfl, rfl, hR⟩
  · rw [h1, h2]
    rcases isS v3 with ⟨h3, h4⟩ | ⟨q, hq, rfl, h3, h4⟩
    · rw [h3, h4]; exact ⟨_, _, _, rfl, rfl, hR⟩
    · obtain ⟨c1, c2⟩ := ik hp
      obtain ⟨c3, c4⟩ := ik hq
      rw [h3, h4]
      simp only [gd_t, bd_s, bd2_s, nm_v, i00, i10, i01, i11, ii00, ii10, c1, c2, c3, c4, come5, fails6, f_X2_hasNothing, f_X2_isLike]
      rcases hA.2.2.2.2.1 p hp with ⟨e1, e2⟩ | ⟨ln, z, l1, l2, ⟨e1, e2⟩, ⟨e3, e4⟩, e5⟩
      · rw [e1, e2]
        exact ⟨_, _, _, rfl, rfl, (hA.fault 1).toR⟩
      · have a1 : ¬ nI ln = (-1 : Int32) := nI_neg1 (by omega)
        have a2 : ¬ nI ln = (-9 : Int32) := nI_neg9 (by omega)
        rw [e1, e3]
        simp only [if_neg a1, if_neg a2, gd_t, bd_s, bd2_s, nm_v, i00, i10, i01, i11, ii00, ii10]
        rcases hA.2.2.2.2.1 q hq with ⟨d1, d2⟩ | ⟨lm, y, m1, m2, ⟨d1, d2⟩, ⟨d3, d4⟩, d5⟩
        · rw [d1, d2]
          exact ⟨_, _, _, rfl, rfl, (hA.fault 1).toR⟩
        · have b1 : ¬ nI lm = (-1 : Int32) := nI_neg1 (by omega)
          have b2 : ¬ nI lm = (-9 : Int32) := nI_neg9 (by omega)
          rw [d1, d3, e4, d4]
          simp only [if_neg b1, if_neg b2, gd_t, bd_s, bd2_s, nm_v, i00, i10, i01, i11, ii00, ii10]
          by_cases qe : nI ln = nI lm
          · simp only [if_pos qe, gd_t, bd_s, bd2_s, nm_v, i00, i10, i01, i11, ii00, ii10]
            have bad5 : ∀ r : Int32, f_X2_hasCells p v2 v5 σ = some 0 ∨ (f_X2_hasCells p v2 v5 σ = some 1 ∧ f_X2_hasCells q v4 v5 σ = some 0) → (bd (f_X2_hasCells p v2 v5 σ) fun r_28 => if r_28 = 0 then some ((-10 : Int32) - 3, wS σ 0 5 3) else bd (f_X2_hasCells q v4 v5 σ) fun r_32 => if r_32 = 0 then some ((-10 : Int32) - 3, wS σ 0 5 3) else bd (f_X2_send p v2 q v4 v5 σ) fun σ_37 => some (v5, σ_37)) = some ((-10 : Int32) - 3, wS σ 0 5 3) := by
              intro r h
              rcases h with h | ⟨h, h'⟩
              · rw [h]; rfl
              · rw [h, h']; rfl
            have bad6 : ∀ y0 : Int32, f_X6_copy_j144 N τ = some ((-10 : Int32) - 3, wS τ 0 0 3) := fun _ => rfl
            rcases nn v5 with h5 | ⟨m, hm, rfl⟩
            · have z1 : f_X2_hasCells p v2 v5 σ = some 0 := by unfold f_X2_hasCells; rw [if_pos h5]
              rw [bad5 0 (Or.inl z1)]
              refine ⟨_, _, wS τ 0 0 3, rfl, ?_, (hA.fault 3).toR⟩
              unfold f_X6_copy_j109 f_X6_copy_j110
              rw [i00]
              split
              · rfl
              · split
                · rfl
                · first | rfl | (rw [if_pos h5]; rfl)
            · rcases nn v2 with h5 | ⟨a, ha, rfl⟩
              · have z1 : f_X2_hasCells p v2 (nI m) σ = some 0 := by unfold f_X2_hasCells; rw [if_neg (nI_pos hm), if_pos h5]
                rw [bad5 0 (Or.inl z1)]
                refine ⟨_, _, wS τ 0 0 3, rfl, ?_, (hA.fault 3).toR⟩
                rw [if_pos h5]
                rfl
              · rcases nn v4 with h5 | ⟨b, hb, rfl⟩
                · have z1 : f_X2_hasCells q v4 (nI m) σ = some 0 := by unfold f_X2_hasCells; rw [if_neg (nI_pos hm), if_pos h5]
                  have z2 := hcN l2 e2 ha hm
                  rw [bad5 0 (by
                    by_cases qq : a + m ≤ z
                    · rw [if_pos qq] at z2; exact Or.inr ⟨z2, z1⟩
                    · rw [if_neg qq] at z2; exact Or.inl z2)]
                  refine ⟨_, _, wS τ 0 0 3, rfl, ?_, (hA.fault 3).toR⟩
                  rw [if_neg (nI_pos ha), if_pos h5]
                  rfl
                · have z2 := hcN l2 e2 ha hm
                  have z3 := hcN m2 d2 hb hm
                  simp only [if_neg (nI_pos ha), if_neg (nI_pos hb), if_neg (nI_pos hm), nI_ltI (a := z) (b := a) (by omega) ha, nI_ltI (a := y) (b := b) (by omega) hb]
                  unfold f_X6_copy_j109 f_X6_copy_j110
                  rw [i00, i10]
                  by_cases g1 : a + m ≤ z
                  · by_cases g2 : b + m ≤ y
                    · rw [if_pos g1] at z2
                      rw [if_pos g2] at z3
                      have i1 : ¬ nI (z - a) < nI m := nI_nlt (by omega) (by omega)
                      have i2 : nI m ≤ nI (y - b) := nI_le (by omega) (by omega)
                      rw [if_neg (show ¬ z < a by omega), if_neg (show ¬ y < b by omega), c1, c3, gd_t, gd_t, c2, c4, e4, d4, pk_sub (by omega), pk_sub (by omega), if_neg i1, if_pos i2]
                      have x5 : f_X2_send p (nI a) q (nI b) (nI m) σ = some (wG σ (12 + q) (va_cpy (σ.1 (12 + p)) (σ.1 (12 + q)) a b m)) := by
                        unfold f_X2_send
                        rw [z2, z3]
                        simp only [gd_t, bd_s, bd2_s, nm_v, i00, i10, i01, i11, ii00, ii10, nI_clamp ha, nI_clamp hb, nI_clamp hm]
                        rw [decide_eq_true (nI_pos ha), decide_eq_true (nI_pos hb), decide_eq_true (nI_pos hm), decide_eq_true (show a + m ≤ 60 by omega), decide_eq_true (show b + m ≤ 60 by omega)]
                        rfl
                      rw [z2, z3, x5]
                      simp only [gd_t, bd_s, bd2_s, nm_v, i00, i10, i01, i11, ii00, ii10]
                      have x6 : (if nI b ≤ nI a then f_X6_copy_j161 N (nI p) (nI a) (nI q) (nI b) (nI m) 0 τ else f_X6_copy_j161 N (nI p) (nI a) (nI q) (nI b) (nI m) 1 τ) = some (nI m, wG τ 3 (fun x => if 60 * q + b ≤ x ∧ x < 60 * q + b + m then τ.1 3 (60 * p + a + (x - (60 * q + b))) else τ.1 3 x)) := by
                        unfold f_X6_copy_j161
                        by_cases qd : b ≤ a
                        · rw [if_pos (nI_le qd ha), cpy6a hN hp hq (by omega) (by omega) qd]
                          rfl
                        · rw [if_neg (nI_ge (by omega) hb), cpy6b hN hp hq (by omega) (by omega) (by omega)]
                          rfl
                      rw [x6]
                      refine ⟨_, _, _, rfl, rfl, (hA.sh (σ' := wG σ (12 + q) (va_cpy (σ.1 (12 + p)) (σ.1 (12 + q)) a b m)) (τ' := wG τ 3 (fun x => if 60 * q + b ≤ x ∧ x < 60 * q + b + m then τ.1 3 (60 * p + a + (x - (60 * q + b))) else τ.1 3 x)) q (Or.inr ⟨lm, y, m1, m2, ⟨?_, ?_⟩, ⟨d3, d4⟩, fun j hj => ?_⟩) (fun j hj => ?_) (fun j hj => ?_) (fun j h1 h2 => ?_) (fun _ _ => rfl) (fun _ _ => rfl) (fun j i h1 h2 h3 => ?_) (fun g g1 g2 g3 => ?_) (fun g g1 g2 g3 => ?_)).toR⟩
                      · rw [wG_n _ _ (by omega)]; exact d1
                      · rw [wG_n _ _ (by omega)]; exact d2
                      · rw [wG_0, wG_0]
                        show va_cpy (σ.1 (12 + p)) (σ.1 (12 + q)) a b m j = if 60 * q + b ≤ 60 * q + j ∧ 60 * q + j < 60 * q + b + m then _ else _
                        by_cases qj : b ≤ j ∧ j < b + m
                        · rw [pk_cpy_in qj.1 qj.2, if_pos (by omega), e5 _ (by omega)]
                          exact congrArg (τ.1 3) (by omega)
                        · rw [pk_cpy_out (by omega), if_neg (by omega)]
                          exact d5 j hj
                      · rw [wG_n _ _ (by omega)]
                      · rw [wG_n _ _ (by omega)]
                      · rw [wG_n _ _ (by omega)]
                      · rw [wG_0]
                        show (if 60 * q + b ≤ 60 * j + i ∧ 60 * j + i < 60 * q + b + m then _ else _) = _
                        rw [if_neg (by omega)]
                      · rw [wG_n _ _ (by omega)]
                      · rw [wG_n _ _ g3]
                    · rw [if_pos g1] at z2
                      rw [if_neg g2] at z3
                      rw [bad5 0 (Or.inr ⟨z2, z3⟩)]
                      refine ⟨_, _, wS τ 0 0 3, rfl, ?_, (hA.fault 3).toR⟩
                      rw [if_neg (show ¬ z < a by omega)]
                      by_cases g3 : y < b
                      · rw [if_pos g3]; rfl
                      · have i1 : ¬ nI (z - a) < nI m := nI_nlt (by omega) (by omega)
                        have i2 : ¬ nI m ≤ nI (y - b) := nI_ge (by omega) (by omega)
                        rw [if_neg g3, c1, c3, gd_t, gd_t, c2, c4, e4, d4, pk_sub (by omega), pk_sub (by omega), if_neg i1, if_neg i2]
                        rfl
                  · rw [if_neg g1] at z2
                    rw [bad5 0 (Or.inl z2)]
                    refine ⟨_, _, wS τ 0 0 3, rfl, ?_, (hA.fault 3).toR⟩
                    by_cases g3 : z < a
                    · rw [if_pos g3]; rfl
                    · rw [if_neg g3]
                      by_cases g4 : y < b
                      · rw [if_pos g4]; rfl
                      · have i1 : nI (z - a) < nI m := nI_lt (by omega) (by omega)
                        rw [if_neg g4, c1, gd_t, c2, e4, pk_sub (by omega), if_pos i1]
                        rfl
          · simp only [if_neg qe, gd_t, bd_s, bd2_s, nm_v, i00, i10, i01, i11, ii00, ii10]
            exact ⟨_, _, _, rfl, rfl, (hA.fault 2).toR⟩
end CopyRows
