section ReadAllRows
variable {C : CaT} {N : Nat} {n s : Nat} {K G M : Nat → Nat} {σ τ : St}
theorem rng {x : Int32} {lo hi : Nat} (hl : lo < 2 ^ 31) (hh : hi < 2 ^ 31) (h1 : ¬ x < nI lo) (h2 : ¬ nI hi < x) : ∃ y, lo ≤ y ∧ y ≤ hi ∧ x = nI y := by
  rcases nn x with h | ⟨a, ha, rfl⟩
  · exact absurd (Int32.lt_of_lt_of_le h (nI_pos' hl)) h1
  · refine ⟨a, ?_, ?_, rfl⟩
    · rcases Nat.lt_or_ge a lo with w | w
      · exact absurd ((nI_ltI ha hl).mpr w) h1
      · exact w
    · rcases Nat.lt_or_ge hi a with w | w
      · exact absurd ((nI_ltI hh ha).mpr w) h2
      · exact w
theorem ltle {x : Int32} {g : Nat} (h1 : 1 ≤ g) (h9 : g ≤ 9) : nI (48 + (g - 1)) < x ↔ nI (48 + g) ≤ x := by
  rw [Int32.lt_iff_toInt_lt, Int32.le_iff_toInt_le, nI_toInt (by omega), nI_toInt (by omega)]
  omega
theorem Same.rf (τ : St) : Same τ τ := ⟨fun _ _ _ => rfl, fun _ _ _ => rfl⟩
/-- one doll is read -/
theorem rdoll {B b m : Nat} {c : Nat → Int32} (hB : B + b ≤ 240) (hm : m < 4) (hp : 1 + 4 * m + 1 ≤ b) (ha : τ.1 0 5 = nI (B + (1 + 4 * m + 1))) (h6 : τ.1 0 6 = nI m) (hc : ∀ j, j < b → τ.1 3 (B + j) = c j) :
    ∃ r τ', f_X6_readDoll (nI (B + b)) τ = some (r, τ') ∧ Same τ τ' ∧
      ((r = 1 ∧ 1 + 4 * m + 4 ≤ b ∧ (okc c (1 + 4 * m + 1) = true ∧ okc c (1 + 4 * m + 2) = true ∧ okc c (1 + 4 * m + 3) = true) ∧ τ'.1 0 5 = nI (B + (1 + 4 * m + 4)) ∧ τ'.1 0 6 = nI (m + 1) ∧ (τ'.1 8 (3 * m) = kI (c (1 + 4 * m + 1)) ∧ τ'.1 8 (3 * m + 1) = c (1 + 4 * m + 2) - 48 ∧ τ'.1 8 (3 * m + 2) = c (1 + 4 * m + 3) - 48) ∧ ∀ i, i < 3 * m → τ'.1 8 i = τ.1 8 i) ∨
       (r = 0 ∧ ∃ f, 1 ≤ f ∧ f < 4 ∧ 1 + 4 * m + f ≤ b ∧ (∀ j, 1 ≤ j → j < f → okc c (1 + 4 * m + j) = true) ∧ (1 + 4 * m + f < b → okc c (1 + 4 * m + f) = false) ∧ τ'.1 0 5 = nI (B + (1 + 4 * m + f)))) := by
  have rd1 : f_X6_readDoll (nI (B + b)) τ = f_X6_readDoll_j66 (nI (B + b)) (nI (3 * m)) (nI (3 * m)) (if 1 + 4 * m + 1 < b then kI (c (1 + 4 * m + 1)) else -9) τ := by
    unfold f_X6_readDoll f_X6_readDoll_j21
    rw [ha, h6, show (3 : Int32) = nI 3 from rfl, pk_mul]
    by_cases q : 1 + 4 * m + 1 < b
    · rw [if_neg (nI_ge (by omega) (by omega)), ck_nI (by omega) (by omega), gd_t, nI_clamp (by omega), hc _ q, if_pos q, nm_v]
      unfold kI
      by_cases w1 : c (1 + 4 * m + 1) = 112
      · rw [if_pos w1, w1]; rfl
      · rw [if_neg w1, if_neg w1]
        by_cases w2 : c (1 + 4 * m + 1) = 98
        · rw [if_pos w2, if_pos w2]
        · rw [if_neg w2, if_neg w2]
          by_cases w3 : c (1 + 4 * m + 1) = 115
          · rw [if_pos w3, if_pos w3]
          · rw [if_neg w3, if_neg w3]
    · rw [if_pos (nI_le (by omega) (by omega)), if_neg q, nm_v, if_neg (by decide), if_neg (by decide), if_neg (by decide)]
  have k1 := ok2 c hm
  have k2 := ok3 c hm
  have k3 := ok4 c hm
  rw [rd1]
  unfold f_X6_readDoll_j66
  rw [ck_nI (by omega) (by omega), gd_t, nm_v, nI_clamp (by omega), gd_t, wS_0, upd_0]
  by_cases q1 : (if 1 + 4 * m + 1 < b then kI (c (1 + 4 * m + 1)) else -9) = -9
  · rw [if_pos q1]
    refine ⟨_, _, rfl, (Same.rf τ).w8 _ _, Or.inr ⟨rfl, 1, by omega, by omega, by omega, fun j _ _ => absurd (show j < 1 by assumption) (by omega), fun w => ?_, ?_⟩⟩
    · rw [if_pos w] at q1
      rw [k1]
      exact decide_eq_false (fun z => z q1)
    · rw [wS_n _ _ _ (by decide)]; exact ha
  rw [if_neg q1]
  have hp1 : 1 + 4 * m + 1 < b := by
    rcases Nat.lt_or_ge (1 + 4 * m + 1) b with w | w
    · exact w
    · exact absurd (if_neg (by omega)) q1
  rw [if_pos hp1] at q1 ⊢
  have o1 : okc c (1 + 4 * m + 1) = true := by rw [k1]; exact decide_eq_true q1
  have ha2 : (wS τ 8 (3 * m) (kI (c (1 + 4 * m + 1)))).1 0 5 + 1 = nI (B + (1 + 4 * m + 2)) := by
    rw [wS_n _ _ _ (by decide), ha, nI_1]
    congr 1
  rw [nm_v, ha2]
  have S0 : Same τ (wS (wS τ 8 (3 * m) (kI (c (1 + 4 * m + 1)))) 0 5 (nI (B + (1 + 4 * m + 2)))) := ((Same.rf τ).w8 _ _).w05 _
  have A0 : (wS (wS τ 8 (3 * m) (kI (c (1 + 4 * m + 1)))) 0 5 (nI (B + (1 + 4 * m + 2)))).1 0 5 = nI (B + (1 + 4 * m + 2)) := by rw [wS_0, upd_0]
  have B0 : (wS (wS τ 8 (3 * m) (kI (c (1 + 4 * m + 1)))) 0 5 (nI (B + (1 + 4 * m + 2)))).1 0 6 = nI m := by rw [wS_0, upd_n _ _ (by decide), wS_n _ _ _ (by decide)]; exact h6
  have D0 : (wS (wS τ 8 (3 * m) (kI (c (1 + 4 * m + 1)))) 0 5 (nI (B + (1 + 4 * m + 2)))).1 8 (3 * m) = kI (c (1 + 4 * m + 1)) := by rw [wS_n _ _ _ (by decide), wS_0, upd_0]
  have E0 : ∀ i, i < 3 * m → (wS (wS τ 8 (3 * m) (kI (c (1 + 4 * m + 1)))) 0 5 (nI (B + (1 + 4 * m + 2)))).1 8 i = τ.1 8 i := fun i hi => by rw [wS_n _ _ _ (by decide), wS_0, upd_n _ _ (by omega)]
  generalize wS (wS τ 8 (3 * m) (kI (c (1 + 4 * m + 1)))) 0 5 (nI (B + (1 + 4 * m + 2))) = ρ at S0 A0 B0 D0 E0 ⊢
  have hcρ : ∀ j, j < b → ρ.1 3 (B + j) = c j := fun j hj => by rw [S0.1 3 (by decide) (by decide)]; exact hc j hj
  have dg : f_X6_digit (nI (B + b)) (1 : Int32) (9 : Int32) ρ = (if 1 + 4 * m + 2 < b ∧ ¬ c (1 + 4 * m + 2) < nI (48 + 1) ∧ ¬ nI (48 + 9) < c (1 + 4 * m + 2) then some (c (1 + 4 * m + 2) - 48, wS ρ 0 5 (nI (B + (1 + 4 * m + 2 + 1)))) else some (-9, ρ)) := digit6 (lo := 1) (hi := 9) hB (by omega) A0 hcρ
  have x31 : nI (3 * m) + (1 : Int32) = nI (3 * m + 1) := nI_1 _
  have x32 : nI (3 * m) + (2 : Int32) = nI (3 * m + 2) := nI_add _ 2
  rw [dg, x31, x32, ck_nI (show 3 * m + 1 < 12 by omega) (by omega), ck_nI (show 3 * m + 2 < 12 by omega) (by omega)]
  by_cases q2 : 1 + 4 * m + 2 < b ∧ ¬ c (1 + 4 * m + 2) < nI (48 + 1) ∧ ¬ nI (48 + 9) < c (1 + 4 * m + 2)
  · rw [if_pos q2, bd2_s, gd_t, nm_v, gd_t, nI_clamp (by omega), wS_0, upd_0]
    obtain ⟨hp2, q3, q4⟩ := q2
    obtain ⟨y, y1, y2, y3⟩ := rng (by omega) (by omega) q3 q4
    have o2 : okc c (1 + 4 * m + 2) = true := by rw [k2]; exact decide_eq_true ⟨q3, q4⟩
    have g0 : c (1 + 4 * m + 2) - 48 = nI (y - 48) := by rw [y3]; exact pk_sub (a := y) (b := 48) (by omega)
    have g1 : ¬ c (1 + 4 * m + 2) - 48 = (-9 : Int32) := by rw [g0]; exact nI_neg9 (by omega)
    rw [if_neg g1, gd_t]
    have S1 : Same τ (wS (wS ρ 0 5 (nI (B + (1 + 4 * m + 2 + 1)))) 8 (3 * m + 1) (c (1 + 4 * m + 2) - 48)) := (S0.w05 _).w8 _ _
    have A1 : (wS (wS ρ 0 5 (nI (B + (1 + 4 * m + 2 + 1)))) 8 (3 * m + 1) (c (1 + 4 * m + 2) - 48)).1 0 5 = nI (B + (1 + 4 * m + 3)) := by rw [wS_n _ _ _ (by decide), wS_0, upd_0]
    have B1 : (wS (wS ρ 0 5 (nI (B + (1 + 4 * m + 2 + 1)))) 8 (3 * m + 1) (c (1 + 4 * m + 2) - 48)).1 0 6 = nI m := by rw [wS_n _ _ _ (by decide), wS_0, upd_n _ _ (by decide)]; exact B0
    have D1 : (wS (wS ρ 0 5 (nI (B + (1 + 4 * m + 2 + 1)))) 8 (3 * m + 1) (c (1 + 4 * m + 2) - 48)).1 8 (3 * m) = kI (c (1 + 4 * m + 1)) := by rw [wS_0, upd_n _ _ (by omega), wS_n _ _ _ (by decide)]; exact D0
    have F1 : (wS (wS ρ 0 5 (nI (B + (1 + 4 * m + 2 + 1)))) 8 (3 * m + 1) (c (1 + 4 * m + 2) - 48)).1 8 (3 * m + 1) = c (1 + 4 * m + 2) - 48 := by rw [wS_0, upd_0]
    have E1 : ∀ i, i < 3 * m → (wS (wS ρ 0 5 (nI (B + (1 + 4 * m + 2 + 1)))) 8 (3 * m + 1) (c (1 + 4 * m + 2) - 48)).1 8 i = τ.1 8 i := fun i hi => by rw [wS_0, upd_n _ _ (by omega), wS_n _ _ _ (by decide)]; exact E0 i hi
    generalize wS (wS ρ 0 5 (nI (B + (1 + 4 * m + 2 + 1)))) 8 (3 * m + 1) (c (1 + 4 * m + 2) - 48) = θ at S1 A1 B1 D1 E1 F1 ⊢
    have hcθ : ∀ j, j < b → θ.1 3 (B + j) = c j := fun j hj => by rw [S1.1 3 (by decide) (by decide)]; exact hc j hj
    have e1 : c (1 + 4 * m + 2) - 48 - (1 : Int32) = nI (y - 48 - 1) := by rw [g0]; exact pk_sub (a := y - 48) (b := 1) (by omega)
    have dg2 : f_X6_digit (nI (B + b)) (0 : Int32) (nI (y - 48 - 1)) θ = (if 1 + 4 * m + 3 < b ∧ ¬ c (1 + 4 * m + 3) < nI (48 + 0) ∧ ¬ nI (48 + (y - 48 - 1)) < c (1 + 4 * m + 3) then some (c (1 + 4 * m + 3) - 48, wS θ 0 5 (nI (B + (1 + 4 * m + 3 + 1)))) else some (-9, θ)) := digit6 (lo := 0) (hi := y - 48 - 1) hB (by omega) A1 hcθ
    rw [e1, dg2]
    have hiff : ∀ x : Int32, nI (48 + (y - 48 - 1)) < x ↔ c (1 + 4 * m + 2) ≤ x := fun x => by
      rw [ltle (g := y - 48) (by omega) (by omega), show 48 + (y - 48) = y by omega, ← y3]
    by_cases q5 : 1 + 4 * m + 3 < b ∧ ¬ c (1 + 4 * m + 3) < nI (48 + 0) ∧ ¬ nI (48 + (y - 48 - 1)) < c (1 + 4 * m + 3)
    · rw [if_pos q5, bd2_s, gd_t, nm_v, nm_v, gd_t, nI_clamp (by omega)]
      obtain ⟨hp3, q6, q7⟩ := q5
      obtain ⟨x, x1, x2, x3⟩ := rng (by omega) (by omega) q6 q7
      have o3 : okc c (1 + 4 * m + 3) = true := by rw [k3]; exact decide_eq_true ⟨q6, fun z => q7 ((hiff _).mpr z)⟩
      have g2 : ¬ c (1 + 4 * m + 3) - 48 = (-9 : Int32) := by rw [x3, show nI x - (48 : Int32) = nI (x - 48) from pk_sub (a := x) (b := 48) (by omega)]; exact nI_neg9 (by omega)
      have e2 : (wS (wS θ 0 5 (nI (B + (1 + 4 * m + 3 + 1)))) 8 (3 * m + 2) (c (1 + 4 * m + 3) - 48)).1 0 6 = nI m := by rw [wS_n _ _ _ (by decide), wS_0, upd_n _ _ (by decide)]; exact B1
      rw [e2, nI_1, wS_n _ _ _ (by decide), wS_0, upd_0, if_neg g2]
      refine ⟨_, _, rfl, ((S1.w05 _).w8 _ _).w06 _, Or.inl ⟨rfl, by omega, ⟨o1, o2, o3⟩, ?_, ?_, ⟨?_, ?_, ?_⟩, fun i hi => ?_⟩⟩
      · rw [wS_0, upd_n _ _ (by decide), wS_n _ _ _ (by decide), wS_0, upd_0]
      · rw [wS_0, upd_0]
      · rw [wS_n _ _ _ (by decide), wS_0, upd_n _ _ (by omega), wS_n _ _ _ (by decide)]; exact D1
      · rw [wS_n _ _ _ (by decide), wS_0, upd_n _ _ (by omega), wS_n _ _ _ (by decide)]; exact F1
      · rw [wS_n _ _ _ (by decide), wS_0, upd_0]
      · rw [wS_n _ _ _ (by decide), wS_0, upd_n _ _ (by omega), wS_n _ _ _ (by decide)]; exact E1 i hi
    · rw [if_neg q5, bd2_s, gd_t, nm_v, nm_v, gd_t, nI_clamp (by omega), wS_n _ _ _ (by decide), wS_0, upd_0, if_pos rfl]
      refine ⟨_, _, rfl, (S1.w8 _ _).w06 _, Or.inr ⟨rfl, 3, by omega, by omega, by omega, fun j h1 h3 => ?_, fun w => ?_, ?_⟩⟩
      · rcases (show j = 1 ∨ j = 2 by omega) with rfl | rfl
        · exact o1
        · exact o2
      · rw [k3]
        exact decide_eq_false (fun z => q5 ⟨w, z.1, fun v => z.2 ((hiff _).mp v)⟩)
      · rw [wS_0, upd_n _ _ (by decide), wS_n _ _ _ (by decide)]; exact A1
  · rw [if_neg q2, bd2_s, gd_t, nm_v, gd_t, nI_clamp (by omega), wS_0, upd_0, if_pos rfl]
    refine ⟨_, _, rfl, S0.w8 _ _, Or.inr ⟨rfl, 2, by omega, by omega, by omega, fun j h1 h3 => ?_, fun w => ?_, ?_⟩⟩
    · have : j = 1 := by omega
      subst this
      exact o1
    · rw [k2]
      exact decide_eq_false (fun z => q2 ⟨w, z.1, z.2⟩)
    · rw [wS_n _ _ _ (by decide)]; exact A0
end ReadAllRows
