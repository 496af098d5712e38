section STidyRows
variable {C : CaT} {N : Nat} {n s : Nat} {K G M : Nat → Nat} {σ τ τ' ρ : St} {f r : Nat}
def Same13 (τ τ' : St) : Prop := ∀ g, g ≠ 13 → g ≠ 14 → τ'.1 g = τ.1 g
theorem RA.same13 (hA : RA C n s K G M σ τ) (y : Same13 τ τ') : RA C n s K G M σ τ' := by
  obtain ⟨h1, h2, h3, h4, h5, h6⟩ := hA
  have z := y 0 (by decide) (by decide)
  exact ⟨h1.of rfl rfl rfl rfl (by rw [z]) (y 4 (by decide) (by decide)) (y 5 (by decide) (by decide)) (y 6 (by decide) (by decide)), h2.of rfl (y 7 (by decide) (by decide)) (by rw [z]), h3.of rfl rfl rfl (by rw [z]) (by rw [z]) (by rw [z]), h4.of rfl rfl rfl rfl (by rw [z]) (y 16 (by decide) (by decide)) (y 17 (by decide) (by decide)) (y 18 (by decide) (by decide)), h5.of rfl rfl rfl rfl rfl rfl (y 1 (by decide) (by decide)) (y 2 (by decide) (by decide)) (y 3 (by decide) (by decide)), h6⟩
theorem Same13.w3 (h : Same13 τ τ') (i : Nat) (v : Int32) : Same13 τ (wS τ' 13 i v) := fun g h3 h4 => (wS_n _ _ _ h3).trans (h g h3 h4)
theorem Same13.w4 (h : Same13 τ τ') (i : Nat) (v : Int32) : Same13 τ (wS τ' 14 i v) := fun g h3 h4 => (wS_n _ _ _ h4).trans (h g h3 h4)
theorem isOfX (x : Int32) {i : Nat} (hi : i < 32) : f_X6_isOf x (nI i) = some (b2 (bt x i)) := by
  unfold f_X6_isOf
  rw [shr1 x hi]
  cases bt x i <;> rfl
theorem dg_lt (n r d : Nat) : dg n r d < n + 1 := Nat.mod_lt _ (by omega)
theorem digits6 (hN : 100 ≤ N) (hA : RA C n s K G M σ τ) (hn1 : 1 ≤ n) (h : Same13 τ τ') (hr : r < 2 ^ 20) : ∃ ρ, lpF (fun w => f_X6_canTidy_b12 N w.1 (0 : Int32) w.2.1 w.2.2) N (nI r, nI n - (1 : Int32), τ') = some ρ ∧ Same13 τ ρ ∧ ρ.1 14 = τ'.1 14 ∧ ∀ d, d < n → ρ.1 13 d = nI (dg n r d) := by
  have hn := hA.1.1
  have e0 : nI n - (1 : Int32) = nI (n - 0) + (-1) := by
    obtain ⟨m, rfl⟩ : ∃ m, n = m + 1 := ⟨n - 1, by omega⟩
    rw [Nat.sub_zero, pk_m1]
    exact pk_sub (a := m + 1) (b := 1) (by omega)
  have key := lp_inv (fun w => f_X6_canTidy_b12 N w.1 (0 : Int32) w.2.1 w.2.2) (fun k w => w.1 = nI (r / (n + 1) ^ k) ∧ w.2.1 = nI (n - k) + (-1) ∧ Same13 τ w.2.2 ∧ w.2.2.1 14 = τ'.1 14 ∧ ∀ d, d < n → n - k ≤ d → w.2.2.1 13 d = nI (dg n r d)) n (fun o => Same13 τ o ∧ o.1 14 = τ'.1 14 ∧ ∀ d, d < n → o.1 13 d = nI (dg n r d)) (fun k w hk hw => ?_) (fun w hw => ?_) n 0 (nI r, nI n - (1 : Int32), τ') (by omega) ⟨by rw [Nat.pow_zero, Nat.div_one], e0, h, rfl, fun d h1 h2 => absurd h1 (by omega)⟩ N (by omega)
  · obtain ⟨o, o1, o2, o3, o4⟩ := key
    exact ⟨o, o1, o2, o3, o4⟩
  · obtain ⟨w1, w2, w3⟩ := w
    obtain ⟨rfl, e2, h3, h4, h5⟩ := hw
    have e2 : w2 = nI (n - k) + (-1) := e2
    subst e2
    have h3 : Same13 τ w3 := h3
    have h4 : w3.1 14 = τ'.1 14 := h4
    have hq : r / (n + 1) ^ k < 2 ^ 20 := Nat.lt_of_le_of_lt (Nat.div_le_self _ _) hr
    have e6 := (hA.same13 h3).1.2.2.1
    obtain ⟨j, hj⟩ : ∃ j, n - k = j + 1 := ⟨n - 1 - k, by omega⟩
    have hB : f_X6_canTidy_b12 N (nI (r / (n + 1) ^ k)) (0 : Int32) (nI (n - k) + (-1)) w3 = some (.inl (nI (r / (n + 1) ^ k / (n + 1)), nI j + (-1), wS w3 13 j (nI (r / (n + 1) ^ k % (n + 1))))) := by
      unfold f_X6_canTidy_b12
      rw [hj, pk_m1, if_neg (nI_pos (by omega)), e6, nI_1, decide_eq_true (nI_ne0 (by omega) (by omega)), gd_t, ck_nI (by omega) (by omega), gd_t, nI_clamp (by omega), pk_rem (by omega) (by omega) (by omega), nm_v, wS_n _ _ _ (show 0 ≠ 13 by decide), e6, nI_1, decide_eq_true (nI_ne0 (by omega) (by omega)), gd_t, pk_div (by omega) (by omega) (by omega), nm_v, nm_v]
    refine ⟨_, hB, ?_, ?_, h3.w3 _ _, ?_, fun d h1 h2 => ?_⟩
    · show nI (r / (n + 1) ^ k / (n + 1)) = nI (r / (n + 1) ^ (k + 1))
      rw [Nat.pow_succ, Nat.div_div_eq_div_mul]
    · show nI j + (-1) = nI (n - (k + 1)) + (-1)
      rw [show n - (k + 1) = j by omega]
    · show (wS w3 13 j (nI (r / (n + 1) ^ k % (n + 1)))).1 14 = _
      rw [wS_n _ _ _ (by decide)]
      exact h4
    · show (wS w3 13 j (nI (r / (n + 1) ^ k % (n + 1)))).1 13 d = _
      rw [wS_0]
      by_cases q : d = j
      · rw [q, upd_0]
        unfold dg
        rw [show n - 1 - j = k by omega]
      · rw [upd_n _ _ q]
        exact h5 d h1 (by omega)
  · obtain ⟨w1, w2, w3⟩ := w
    obtain ⟨rfl, e2, h3, h4, h5⟩ := hw
    have e2 : w2 = nI (n - n) + (-1) := e2
    rw [Nat.sub_self] at e2
    subst e2
    refine ⟨w3, ?_, h3, h4, fun d hd => h5 d hd (by omega)⟩
    show f_X6_canTidy_b12 N (nI (r / (n + 1) ^ n)) (0 : Int32) (nI 0 + (-1)) w3 = _
    unfold f_X6_canTidy_b12
    rw [if_pos (by decide)]
def ta (n r : Nat) : Nat → Int32
  | 0 => 0
  | d + 1 => ta n r d ||| (if Nat.beq (dg n r d) 0 = true then 0 else (1 : Int32) <<< (nI (dg n r d - 1) &&& 31))
theorem ta_bt (hn : n ≤ 4) {i : Nat} (hi : i < 32) : ∀ d, bt (ta n r d) i = anyU (fun e => Nat.beq (dg n r e) (i + 1)) d := by
  intro d
  induction d with
  | zero => exact b_0 i
  | succ d ih =>
    show bt (ta n r d ||| (if Nat.beq (dg n r d) 0 = true then 0 else (1 : Int32) <<< (nI (dg n r d - 1) &&& 31))) i = (anyU (fun e => Nat.beq (dg n r e) (i + 1)) d || Nat.beq (dg n r d) (i + 1))
    have hl := dg_lt n r d
    rw [b_or, ih]
    congr 1
    by_cases q : dg n r d = 0
    · rw [if_pos (nb_t q), b_0, q]; rfl
    · rw [if_neg (by rw [nb_f q]; decide), b_shl _ (by omega) _ hi]
      by_cases y : dg n r d - 1 ≤ i
      · rw [decide_eq_true y, Bool.true_and, bt_1 _ (by omega)]
        by_cases z : dg n r d = i + 1
        · rw [nb_t z, decide_eq_true (by omega)]
        · rw [nb_f z, decide_eq_false (by omega)]
      · rw [decide_eq_false y, Bool.false_and, nb_f (by omega)]
theorem okr_no : ∀ k, okr n f r k = false → ∃ d, d < k ∧ okr n f r d = true ∧ okd n f r d = false := by
  intro k
  induction k with
  | zero => intro h; exact absurd h (by show ¬ true = false; decide)
  | succ k ih =>
    intro h
    have h : (okr n f r k && okd n f r k) = false := h
    cases q : okr n f r k with
    | false =>
      obtain ⟨d, h1, h2⟩ := ih q
      exact ⟨d, by omega, h2⟩
    | true =>
      rw [q, Bool.true_and] at h
      exact ⟨k, by omega, q, h⟩
theorem okr_lt : ∀ k d, d < k → okr n f r k = true → okd n f r d = true := by
  intro k
  induction k with
  | zero => intro d h; exact absurd h (by omega)
  | succ k ih =>
    intro d hd h
    have h : (okr n f r k && okd n f r k) = true := h
    rw [Bool.and_eq_true] at h
    by_cases q : d = k
    · rw [q]; exact h.2
    · exact ih d (by omega) h.1
theorem okr_le : ∀ k d, d ≤ k → okr n f r k = true → okr n f r d = true := by
  intro k
  induction k with
  | zero => intro d h; have : d = 0 := by omega
            subst this
            exact fun h => h
  | succ k ih =>
    intro d hd h
    by_cases q : d = k + 1
    · rw [q]; exact h
    · have h : (okr n f r k && okd n f r k) = true := h
      rw [Bool.and_eq_true] at h
      exact ih d (by omega) h.1
theorem check6 (hN : 100 ≤ N) (hA : RA C n s K G M σ ρ) (hf : ∀ d, d < n → ∀ e, e < n → d ≠ e → bi f (4 * d + e) = fitB K G M d e) (hd : ∀ d, d < n → ρ.1 13 d = nI (dg n r d)) : f_X6_canTidy_j47 N (0 : Int32) ρ = some (b2 (okr n f r n), ρ) := by
  have hn := hA.1.1
  have e6 := hA.1.2.2.1
  have hB : ∀ d, d < n → f_X6_canTidy_b50 N (ta n r d) (nI d) ρ = some (if okd n f r d = true then .inl (ta n r (d + 1), nI (d + 1)) else .inr (.inl (0, ρ))) := by
    intro d hdn
    unfold f_X6_canTidy_b50 f_X6_canTidy_j104 f_X6_canTidy_j118
    have hl := dg_lt n r d
    rw [e6, if_neg (nI_ge hdn (by omega)), ck_nI (by omega) (by omega), gd_t, nI_clamp (by omega), hd d hdn, nm_v]
    simp only [nm_v]
    rw [nI_1]
    show _ = some (if okd n f r d = true then Sum.inl (ta n r d ||| (if Nat.beq (dg n r d) 0 = true then 0 else (1 : Int32) <<< (nI (dg n r d - 1) &&& 31)), nI (d + 1)) else Sum.inr (Sum.inl (0, ρ)))
    unfold okd
    by_cases q : dg n r d = 0
    · rw [q]
      rfl
    · have x5 : nI (dg n r d) - (1 : Int32) = nI (dg n r d - 1) := pk_sub (a := dg n r d) (b := 1) (by omega)
      rw [x5, if_neg (nI_pos (by omega)), if_neg (nI_pos (by omega)), nb_f q, Bool.false_or, if_neg (show ¬ false = true by decide)]
      by_cases q2 : dg n r d = d + 1
      · rw [if_pos (by rw [q2]; rfl), nb_t q2]
        rfl
      · rw [if_neg (fun z => q2 (by have := nI_inj (by omega) (by omega) z; omega)), nb_f q2, into6 hA hdn (by omega), bd_s, hf d hdn (dg n r d - 1) (by omega) (by omega), isOfX _ (by omega), ta_bt hn (by omega), bd_s, show dg n r d - 1 + 1 = dg n r d by omega]
        cases fitB K G M d (dg n r d - 1) with
        | false => rfl
        | true =>
          cases anyU (fun e => Nat.beq (dg n r e) (dg n r d)) d with
          | false => rfl
          | true => rfl
  unfold f_X6_canTidy_j47
  cases h : okr n f r n with
  | true =>
    have key := lp_for (fun w => f_X6_canTidy_b50 N w.1 w.2 ρ) (fun i => (ta n r i, nI i)) (.inr ()) n 0 (fun d _ hdn => ?_) ?_ N (by omega)
    · rw [show (((0 : Int32), (0 : Int32)) : Int32 × Int32) = (ta n r 0, nI 0) from rfl, key]
      rfl
    · show f_X6_canTidy_b50 N (ta n r d) (nI d) ρ = _
      rw [hB d (by omega), okr_lt n d (by omega) h, if_pos rfl]
    · rw [Nat.zero_add]
      show f_X6_canTidy_b50 N (ta n r n) (nI n) ρ = _
      unfold f_X6_canTidy_b50
      rw [e6, if_pos (Int32.le_refl _)]
  | false =>
    obtain ⟨k, k1, k2, k3⟩ := okr_no n h
    have key := lp_for (fun w => f_X6_canTidy_b50 N w.1 w.2 ρ) (fun i => (ta n r i, nI i)) (.inl (0, ρ)) k 0 (fun d _ hdn => ?_) ?_ N (by omega)
    · rw [show (((0 : Int32), (0 : Int32)) : Int32 × Int32) = (ta n r 0, nI 0) from rfl, key]
      rfl
    · show f_X6_canTidy_b50 N (ta n r d) (nI d) ρ = _
      rw [hB d (by omega), okr_lt k d (by omega) k2, if_pos rfl]
    · rw [Nat.zero_add]
      show f_X6_canTidy_b50 N (ta n r k) (nI k) ρ = _
      rw [hB k k1, k3]
      rfl
theorem zeros6 (hN : 100 ≤ N) (hn : n ≤ 4) (e6 : ρ.1 0 2 = nI n) (hd : ∀ d, d < n → ρ.1 13 d = nI (dg n r d)) (v a b c : Int32) : lpF (fun w => f_X6_tidy_b76 N v a b c w.1 w.2 ρ) N ((0 : Int32), (0 : Int32)) = some (nI (zr n r)) := by
  have key := lp_for (fun w => f_X6_tidy_b76 N v a b c w.1 w.2 ρ) (fun i => (nI (cnt (fun d => Nat.beq (dg n r d) 0) i), nI i)) (nI (zr n r)) n 0 (fun d _ hdn => ?_) ?_ N (by omega)
  · exact key
  · have hdn : d < n := by omega
    show f_X6_tidy_b76 N v a b c (nI (cnt (fun d => Nat.beq (dg n r d) 0) d)) (nI d) ρ = some (.inl (nI (cnt (fun d => Nat.beq (dg n r d) 0) d + (if Nat.beq (dg n r d) 0 = true then 1 else 0)), nI (d + 1)))
    unfold f_X6_tidy_b76 f_X6_tidy_j102
    have hl := dg_lt n r d
    rw [e6, if_neg (nI_ge hdn (by omega)), ck_nI (by omega) (by omega), gd_t, nI_clamp (by omega), hd d hdn]
    simp only [nm_v]
    rw [nI_1, nI_1]
    by_cases q : dg n r d = 0
    · rw [q]; rfl
    · rw [if_neg (nI_ne0 (by omega) (by omega)), nb_f q, show (0 : Int32) = nI 0 from rfl, nI_add]
      rfl
  · rw [Nat.zero_add]
    show f_X6_tidy_b76 N v a b c (nI (cnt (fun d => Nat.beq (dg n r d) 0) n)) (nI n) ρ = _
    unfold f_X6_tidy_b76
    rw [e6, if_pos (Int32.le_refl _)]
    rfl
end STidyRows
