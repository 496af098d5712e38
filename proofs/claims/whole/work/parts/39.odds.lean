section OddsRows
variable {C : CaT} {N : Nat} {n s : Nat} {K G M : Nat → Nat} {σ τ : St}
/-- the fuel of the loops -/
abbrev NN : Nat := 20000
theorem NN_le : 100 ≤ NN := by decide
def uP (f d e : Nat) : Bool := !Nat.beq d e && bi f (4 * d + e)
def uu (n f : Nat) : Nat → Nat
  | 0 => 0
  | d + 1 => uu n f d + cnt (uP f d) n
def od5 (v n F : Int32) : Option Int64 :=
  bd (f_J6_bitCount_0f7a4 F) fun r_5 =>
    nm (n * (n - (1 : Int32))) fun x3_7 =>
    bd (f_X5_commonDivisor NN r_5 x3_7) fun r_8 =>
    if v = 0 then (f_X5_odds_j57 NN r_8 r_5 sg0)
    else f_X5_odds_j57 NN r_8 x3_7 sg0
def od6 (v n u : Int32) : Option Int64 := f_X6_inLeastTerms NN (Int32.toInt64 u) (Int32.toInt64 (n * (n - (1 : Int32)))) v
def odB (n f : Nat) (v : Int32) : Bool := (od5 v (nI n) (nI f)).isSome && decide (od5 v (nI n) (nI f) = od6 v (nI n) (nI (uu n f n)))
set_option maxRecDepth 100000 in
set_option maxHeartbeats 4000000 in
theorem od_b : [2, 3, 4].all (fun n => (pos_ n).all (fun f => odB n f 0 && odB n f 1)) = true := by decide +kernel
theorem count6 (hN : 100 ≤ N) (hA : RA C n s K G M σ τ) {f : Nat} (hf : ∀ d, d < n → ∀ e, e < n → d ≠ e → bi f (4 * d + e) = fitB K G M d e) (v : Int32) : lpF (fun w => f_X6_odds_b25 N v w.1 w.2 τ) N ((0 : Int32), (0 : Int32)) = some (nI (uu n f n)) := by
  have hn := hA.1.1
  have e6 := hA.1.2.2.1
  have key := lp_for (fun w => f_X6_odds_b25 N v w.1 w.2 τ) (fun i => (nI (uu n f i), nI i)) (nI (uu n f n)) n 0 (fun d _ hd => ?_) ?_ N (by omega)
  · exact key
  · have hd : d < n := by omega
    show f_X6_odds_b25 N v (nI (uu n f d)) (nI d) τ = some (.inl (nI (uu n f d + cnt (uP f d) n), nI (d + 1)))
    unfold f_X6_odds_b25 f_X6_odds_j75
    rw [e6, if_neg (nI_ge hd (by omega))]
    generalize uu n f d = a
    have k2 := lp_for (fun w => f_X6_odds_b36 N v w.1 (nI d) w.2 τ) (fun i => (nI (a + cnt (uP f d) i), nI i)) (nI (a + cnt (uP f d) n)) n 0 (fun e _ he => ?_) ?_ N (by omega)
    · rw [show ((nI a, (0 : Int32)) : Int32 × Int32) = (nI (a + cnt (uP f d) 0), nI 0) from rfl, k2, bd_s, nm_v, nI_1]
    · have he : e < n := by omega
      show f_X6_odds_b36 N v (nI (a + cnt (uP f d) e)) (nI d) (nI e) τ = some (.inl (nI (a + (cnt (uP f d) e + (if uP f d e = true then 1 else 0))), nI (e + 1)))
      unfold f_X6_odds_b36 f_X6_odds_j66 f_X6_odds_j67 uP
      simp only [nm_v]
      rw [e6, if_neg (nI_ge he (by omega)), nI_1, nI_1, show (0 : Int32) = nI 0 from rfl, nI_add]
      by_cases q : d = e
      · rw [if_pos (congrArg nI q), nb_t q]
        rfl
      · rw [if_neg (fun z => q (nI_inj (by omega) (by omega) z)), into6 hA hd he, bd_s, nb_f q, hf d hd e he q]
        cases fitB K G M d e <;> rfl
    · rw [Nat.zero_add]
      show f_X6_odds_b36 N v (nI (a + cnt (uP f d) n)) (nI d) (nI n) τ = _
      unfold f_X6_odds_b36
      rw [e6, if_pos (Int32.le_refl _)]
  · rw [Nat.zero_add]
    show f_X6_odds_b25 N v (nI (uu n f n)) (nI n) τ = _
    unfold f_X6_odds_b25
    rw [e6, if_pos (Int32.le_refl _)]
theorem s_odds : S_odds NN (RR C) := by
  intro v1 σ τ h
  obtain ⟨n, s, K, G, M, hA⟩ := h
  have hn := hA.1.1
  have e5 := hA.1.2.1
  have e6 := hA.1.2.2.1
  have main : ∀ v : Int32, (v = 0 ∨ v = 1) → ∃ r, f_X5_odds_j9 NN v σ = some r ∧ (if (2 : Int32) ≤ τ.1 0 2 then bd (lpF (fun s => f_X6_odds_b25 NN v s.1 s.2 τ) NN ((0 : Int32), (0 : Int32))) (fun o => f_X6_odds_j81 NN v o τ) else some (-9223372036854775808 : Int64)) = some r := by
    intro v hv
    unfold f_X5_odds_j9
    rw [e5, e6]
    by_cases q : 2 ≤ n
    · have q2 : (2 : Int32) ≤ nI n := (nI_leI (a := 2) (by omega) (by omega)).mpr q
      obtain ⟨f, f1, f2, f3, f4⟩ := fcode hA
      rw [if_pos q2, if_pos q2, fitting5 NN_le hA, f3, bd_s, count6 NN_le hA f4 v, bd_s]
      have hb := List.all_eq_true.mp (List.all_eq_true.mp od_b n (by
        rcases (show n = 2 ∨ n = 3 ∨ n = 4 by omega) with rfl | rfl | rfl
        · exact List.mem_cons_self
        · exact List.mem_cons_of_mem _ List.mem_cons_self
        · exact List.mem_cons_of_mem _ (List.mem_cons_of_mem _ List.mem_cons_self))) f f1
      rw [Bool.and_eq_true] at hb
      have hB : odB n f v = true := by
        rcases hv with rfl | rfl
        · exact hb.1
        · exact hb.2
      unfold odB at hB
      rw [Bool.and_eq_true] at hB
      obtain ⟨b1, b2⟩ := hB
      have b2 := of_decide_eq_true b2
      obtain ⟨r, hr⟩ := Option.isSome_iff_exists.mp b1
      refine ⟨r, ?_, ?_⟩
      · exact hr
      · unfold f_X6_odds_j81
        rw [e6]
        show bd (od6 v (nI n) (nI (uu n f n))) _ = _
        rw [← b2, hr]
        rfl
    · have q2 : ¬ (2 : Int32) ≤ nI n := fun z => q ((nI_leI (a := 2) (by omega) (by omega)).mp z)
      rw [if_neg q2, if_neg q2]
      exact ⟨_, rfl, rfl⟩
  unfold f_X5_odds f_X6_odds
  by_cases q0 : v1 = 0
  · subst q0
    obtain ⟨r, r1, r2⟩ := main 0 (Or.inl rfl)
    rw [if_pos rfl, r1]
    refine ⟨r, rfl, ?_⟩
    rw [wi_in (by decide) (by decide), bd_s, i10]
    exact r2
  rw [if_neg q0]
  by_cases q1 : v1 = 1
  · subst q1
    obtain ⟨r, r1, r2⟩ := main 1 (Or.inr rfl)
    rw [if_pos rfl, r1]
    refine ⟨r, rfl, ?_⟩
    rw [wi_in (by decide) (by decide), bd_s, i10]
    exact r2
  · rw [if_neg q1, out01 q0 q1]
    exact ⟨_, rfl, rfl⟩
end OddsRows
