section TidyRowRows
variable {C : CaT} {N : Nat} {n s : Nat} {K G M : Nat → Nat} {σ τ τ' ρ : St} {f r : Nat}
theorem copy14 (hN : 100 ≤ N) (hA : RA C n s K G M σ τ) (h : Same13 τ ρ) (v a c x : Int32) : ∃ ρ', lpF (fun w => f_X6_tidy_b129 N v a c x w.1 w.2) N ((0 : Int32), ρ) = some ρ' ∧ Same13 τ ρ' ∧ ∀ d, d < n → ρ'.1 14 d = ρ.1 13 d := by
  have hn := hA.1.1
  have key := lp_inv (fun w => f_X6_tidy_b129 N v a c x w.1 w.2) (fun i w => w.1 = nI i ∧ Same13 τ w.2 ∧ w.2.1 13 = ρ.1 13 ∧ ∀ d, d < i → w.2.1 14 d = ρ.1 13 d) n (fun o => Same13 τ o ∧ ∀ d, d < n → o.1 14 d = ρ.1 13 d) (fun i w hi hw => ?_) (fun w hw => ?_) n 0 ((0 : Int32), ρ) (by omega) ⟨rfl, h, rfl, fun d hd => absurd hd (by omega)⟩ N (by omega)
  · obtain ⟨o, o1, o2, o3⟩ := key
    exact ⟨o, o1, o2, o3⟩
  · obtain ⟨w1, w2⟩ := w
    obtain ⟨rfl, h2, h3, h4⟩ := hw
    have h2 : Same13 τ w2 := h2
    have h3 : w2.1 13 = ρ.1 13 := h3
    refine ⟨(nI (i + 1), wS w2 14 i (w2.1 13 i)), ?_, rfl, h2.w4 _ _, ?_, fun d hd => ?_⟩
    · show f_X6_tidy_b129 N v a c x (nI i) w2 = _
      unfold f_X6_tidy_b129
      rw [(hA.same13 h2).1.2.2.1, if_neg (nI_ge hi (by omega)), ck_nI (by omega) (by omega), gd_t, gd_t, nm_v, nm_v, nI_1, nI_clamp (by omega)]
    · show (wS w2 14 i (w2.1 13 i)).1 13 = ρ.1 13
      rw [wS_n _ _ _ (by decide)]; exact h3
    · show (wS w2 14 i (w2.1 13 i)).1 14 d = ρ.1 13 d
      rw [wS_0]
      by_cases q : d = i
      · rw [q, upd_0, h3]
      · rw [upd_n _ _ q]; exact h4 d (by omega)
  · obtain ⟨w1, w2⟩ := w
    obtain ⟨rfl, h2, h3, h4⟩ := hw
    have h2 : Same13 τ w2 := h2
    refine ⟨w2, ?_, h2, h4⟩
    show f_X6_tidy_b129 N v a c x (nI n) w2 = _
    unfold f_X6_tidy_b129
    rw [(hA.same13 h2).1.2.2.1, if_pos (Int32.le_refl _)]
def bsI : Option (Nat × Nat) → Int32
  | none => -9
  | some (c, _) => nI c
def BI (n : Nat) (τ : St) (b : Option (Nat × Nat)) (x : Int32) (τ' : St) : Prop := x = bsI b ∧ Same13 τ τ' ∧ ∀ c q, b = some (c, q) → c ≤ 4 ∧ ∀ d, d < n → τ'.1 14 d = nI (dg n q d)
theorem zr_le (hn : n ≤ 4) : zr n r ≤ 4 := Nat.le_trans (cnt_le _ n) hn
theorem rowS (hN : 100 ≤ N) (hA : RA C n s K G M σ τ) (hn1 : 1 ≤ n) (hf : ∀ d, d < n → ∀ e, e < n → d ≠ e → bi f (4 * d + e) = fitB K G M d e) {R : Nat} {v x : Int32} {b : Option (Nat × Nat)} (hR : R < 2 ^ 20) (hr : r < R) (h : BI n τ b x τ') : ∃ x' ρ', f_X6_tidy_b55 N v (nI R) x (nI r) τ' = some (.inl (x', nI (r + 1), ρ')) ∧ BI n τ (bst n f r b) x' ρ' := by
  have hn := hA.1.1
  obtain ⟨rfl, h2, h3⟩ := h
  obtain ⟨ρ, d1, d2, d3, d4⟩ := digits6 (N := N) hN hA hn1 h2 (show r < 2 ^ 20 by omega)
  have hA' := hA.same13 d2
  have hz := zr_le (n := n) (r := r) hn
  have c1 : f_X6_canTidy N (nI r) τ' = some (b2 (okr n f r n), ρ) := by
    unfold f_X6_canTidy
    rw [(hA.same13 h2).1.2.2.1, nm_v, d1, bd_s]
    exact check6 hN hA' hf d4
  unfold f_X6_tidy_b55
  rw [if_neg (nI_ge hr (by omega)), c1, bd2_s]
  cases ho : okr n f r n with
  | false =>
    rw [b2_f, i00]
    unfold f_X6_tidy_j158
    rw [nm_v, nI_1]
    refine ⟨_, _, rfl, ?_⟩
    have e : bst n f r b = b := by
      unfold bst
      rw [ho]
      cases b with
      | none => rfl
      | some p => obtain ⟨c, q⟩ := p; rfl
    rw [e]
    exact ⟨rfl, d2, fun c q hb => ⟨(h3 c q hb).1, fun d hd => by rw [d3]; exact (h3 c q hb).2 d hd⟩⟩
  | true =>
    rw [b2_t, i10, zeros6 hN hn hA'.1.2.2.1 d4, bd_s]
    have take : ∃ x' ρ', f_X6_tidy_j123 N v (nI R) (nI r) (nI (zr n r)) ρ = some (.inl (x', nI (r + 1), ρ')) ∧ BI n τ (some (zr n r, r)) x' ρ' := by
      obtain ⟨ρ', c2, c3, c4⟩ := copy14 (N := N) hN hA d2 v (nI R) (nI (zr n r)) (nI r)
      unfold f_X6_tidy_j123 f_X6_tidy_j158
      rw [c2, bd_s, nm_v, nI_1]
      refine ⟨_, _, rfl, rfl, c3, fun c q hb => ?_⟩
      injection hb with hb
      injection hb with hb1 hb2
      subst hb1
      subst hb2
      exact ⟨hz, fun d hd => by rw [c4 d hd]; exact d4 d hd⟩
    unfold f_X6_tidy_j111
    cases b with
    | none =>
      have e : bst n f r none = some (zr n r, r) := by
        show (if okr n f r n = true then some (zr n r, r) else none) = _
        rw [if_pos ho]
      rw [if_pos (show bsI none = (-9 : Int32) from rfl), e]
      exact take
    | some p =>
      obtain ⟨c, q⟩ := p
      have hc := (h3 c q rfl).1
      rw [show bsI (some (c, q)) = nI c from rfl, if_neg (nI_neg9 (by omega))]
      by_cases w : zr n r < c
      · have e : bst n f r (some (c, q)) = some (zr n r, r) := by
          show (if (okr n f r n && Nat.blt (zr n r) c) = true then some (zr n r, r) else some (c, q)) = _
          rw [ho, Bool.true_and, if_pos (Nat.blt_eq.mpr w)]
        rw [if_neg (nI_ge w (by omega)), e]
        exact take
      · have e : bst n f r (some (c, q)) = some (c, q) := by
          show (if (okr n f r n && Nat.blt (zr n r) c) = true then some (zr n r, r) else some (c, q)) = _
          rw [ho, Bool.true_and, if_neg (fun z => w (Nat.blt_eq.mp z))]
        rw [if_pos (nI_le (by omega) (by omega)), e]
        unfold f_X6_tidy_j158
        rw [nm_v, nI_1]
        exact ⟨_, _, rfl, rfl, d2, fun c' q' hb => ⟨(h3 c' q' hb).1, fun d hd => by rw [d3]; exact (h3 c' q' hb).2 d hd⟩⟩
def bsF (n f : Nat) : Nat → Option (Nat × Nat)
  | 0 => none
  | r + 1 => bst n f r (bsF n f r)
theorem bsA_s (n f k r : Nat) (b : Option (Nat × Nat)) : bsA n f (k + 1) r b = bsA n f k (r + 1) (bst n f r b) := by
  cases b with
  | none =>
    show (if okr n f r n = true then bsA n f k (r + 1) (some (zr n r, r)) else bsA n f k (r + 1) none) = bsA n f k (r + 1) (if okr n f r n = true then some (zr n r, r) else none)
    split <;> rfl
  | some p =>
    obtain ⟨c, q⟩ := p
    show (if (okr n f r n && Nat.blt (zr n r) c) = true then bsA n f k (r + 1) (some (zr n r, r)) else bsA n f k (r + 1) (some (c, q))) = bsA n f k (r + 1) (if (okr n f r n && Nat.blt (zr n r) c) = true then some (zr n r, r) else some (c, q))
    split <;> rfl
theorem bsA_bsF (n f : Nat) : ∀ k r, bsA n f k r (bsF n f r) = bsF n f (r + k) := by
  intro k
  induction k with
  | zero => intro r; rfl
  | succ k ih =>
    intro r
    rw [bsA_s, show bst n f r (bsF n f r) = bsF n f (r + 1) from rfl, ih (r + 1), show r + 1 + k = r + (k + 1) by omega]
theorem prod6 (hN : 100 ≤ N) (hn : n ≤ 4) (e6 : τ.1 0 2 = nI n) (v : Int32) : lpF (fun w => f_X6_tidy_b26 N v w.1 w.2 τ) N ((1 : Int32), (0 : Int32)) = some (nI ((n + 1) ^ n)) := by
  have key := lp_for (fun w => f_X6_tidy_b26 N v w.1 w.2 τ) (fun i => (nI ((n + 1) ^ i), nI i)) (nI ((n + 1) ^ n)) n 0 (fun d _ hdn => ?_) ?_ N (by omega)
  · exact key
  · have hdn : d < n := by omega
    show f_X6_tidy_b26 N v (nI ((n + 1) ^ d)) (nI d) τ = some (.inl (nI ((n + 1) ^ (d + 1)), nI (d + 1)))
    unfold f_X6_tidy_b26
    rw [e6, if_neg (nI_ge hdn (by omega)), nI_1, nI_1, pk_mul, nm_v, nm_v, Nat.pow_succ]
  · rw [Nat.zero_add]
    show f_X6_tidy_b26 N v (nI ((n + 1) ^ n)) (nI n) τ = _
    unfold f_X6_tidy_b26
    rw [e6, if_pos (Int32.le_refl _)]
theorem pw_le (hn : n ≤ 4) : (n + 1) ^ n ≤ 625 := by
  rcases (show n = 0 ∨ n = 1 ∨ n = 2 ∨ n = 3 ∨ n = 4 by omega) with rfl | rfl | rfl | rfl | rfl <;> decide
theorem rows6 (hN : 1000 ≤ N) (hA : RA C n s K G M σ τ) (hn1 : 1 ≤ n) (hf : ∀ d, d < n → ∀ e, e < n → d ≠ e → bi f (4 * d + e) = fitB K G M d e) (v : Int32) : ∃ x ρ, lpF (fun w => f_X6_tidy_b55 N v (nI ((n + 1) ^ n)) w.1 w.2.1 w.2.2) N ((-9 : Int32), (0 : Int32), τ) = some (x, ρ) ∧ BI n τ (bsF n f ((n + 1) ^ n)) x ρ := by
  have hp := pw_le hA.1.1
  have key := lp_inv (fun w => f_X6_tidy_b55 N v (nI ((n + 1) ^ n)) w.1 w.2.1 w.2.2) (fun i w => w.2.1 = nI i ∧ BI n τ (bsF n f i) w.1 w.2.2) ((n + 1) ^ n) (fun o => BI n τ (bsF n f ((n + 1) ^ n)) o.1 o.2) (fun i w hi hw => ?_) (fun w hw => ?_) ((n + 1) ^ n) 0 ((-9 : Int32), (0 : Int32), τ) (by omega) ⟨rfl, rfl, fun _ _ _ => rfl, fun c q h => by cases h⟩ N (by omega)
  · obtain ⟨o, o1, o2⟩ := key
    exact ⟨o.1, o.2, o1, o2⟩
  · obtain ⟨w1, w2, w3⟩ := w
    obtain ⟨rfl, hw⟩ := hw
    obtain ⟨x', ρ', r1, r2⟩ := rowS (N := N) (v := v) (by omega) hA hn1 hf (R := (n + 1) ^ n) (by omega) hi hw
    exact ⟨_, r1, rfl, r2⟩
  · obtain ⟨w1, w2, w3⟩ := w
    obtain ⟨rfl, hw⟩ := hw
    refine ⟨(w1, w3), ?_, hw⟩
    show f_X6_tidy_b55 N v (nI ((n + 1) ^ n)) w1 (nI ((n + 1) ^ n)) w3 = _
    unfold f_X6_tidy_b55
    rw [if_pos (Int32.le_refl _)]
theorem td_all (hn1 : 1 ≤ n) (hn : n ≤ 4) (h : f ∈ pos_ n) : tdB n f = true := by
  rcases (show n = 1 ∨ n = 2 ∨ n = 3 ∨ n = 4 by omega) with rfl | rfl | rfl | rfl
  · exact List.all_eq_true.mp (List.all_eq_true.mp td_b1 1 List.mem_cons_self) f h
  · exact List.all_eq_true.mp (List.all_eq_true.mp td_b1 2 (List.mem_cons_of_mem _ List.mem_cons_self)) f h
  · exact List.all_eq_true.mp (List.all_eq_true.mp td_b1 3 (List.mem_cons_of_mem _ (List.mem_cons_of_mem _ List.mem_cons_self))) f h
  · have h : f ∈ po4a ++ (po4b ++ po4c) := h
    rcases List.mem_append.mp h with h | h
    · exact List.all_eq_true.mp td_b4a f h
    · rcases List.mem_append.mp h with h | h
      · exact List.all_eq_true.mp td_b4b f h
      · exact List.all_eq_true.mp td_b4c f h
theorem s_tidy : S_tidy NN (RR C) := by
  intro v σ τ h
  obtain ⟨n, s, K, G, M, hA⟩ := h
  have hn := hA.1.1
  have e5 := hA.1.2.1
  have e6 := hA.1.2.2.1
  unfold f_X5_tidy f_X6_tidy
  have k1 : (-1 : Int32).toInt = -1 := by decide
  have k3 : (3 : Int32).toInt = 3 := by decide
  have k4 : (4 : Int32).toInt = 4 := by decide
  by_cases h1 : v < (-1 : Int32)
  · rw [if_pos h1, wi_lo h1]
    exact ⟨_, _, rfl, rfl, hA.toR⟩
  rw [if_neg h1]
  by_cases h2 : (3 : Int32) < v
  · have h4 : ¬ v < (4 : Int32) := by
      rw [Int32.lt_iff_toInt_lt] at h2 ⊢
      omega
    rw [if_neg h4, wi_hi h2]
    exact ⟨_, _, rfl, rfl, hA.toR⟩
  have h4 : v < (4 : Int32) := by
    rw [Int32.lt_iff_toInt_lt] at h2 ⊢
    omega
  rw [if_pos h4, wi_in h1 h2, bd_s, i10, e5, e6]
  by_cases q : nI n = 0
  · rw [if_pos q, if_pos q]
    exact ⟨_, _, rfl, rfl, hA.toR⟩
  have n0 : 1 ≤ n := by
    rcases Nat.lt_or_ge n 1 with z | z
    · exact absurd (by rw [show n = 0 by omega]; rfl) q
    · exact z
  rw [if_neg q, if_neg q]
  obtain ⟨f, f1, f2, f3, f4⟩ := fcode hA
  obtain ⟨x, ρ, r1, r2⟩ := rows6 (N := NN) (by decide) hA n0 f4 v
  have hb := td_all n0 hn f1
  unfold tdB at hb
  have hbs : bsA n f ((n + 1) ^ n) 0 none = bsF n f ((n + 1) ^ n) := by
    have := bsA_bsF n f ((n + 1) ^ n) 0
    rw [Nat.zero_add] at this
    exact this
  rw [hbs] at hb
  rw [prod6 NN_le hn e6, bd_s]
  unfold f_X6_tidy_j49
  rw [r1, bd_s]
  obtain ⟨t1, t2, t3⟩ := r2
  cases hq : bsF n f ((n + 1) ^ n) with
  | none => rw [hq] at hb; exact absurd hb (by show ¬ false = true; decide)
  | some p =>
    obtain ⟨c, w⟩ := p
    rw [hq] at hb t1
    have hb : (decide (f_X5_leastOnTable NN 6 (0 : Int32) (0 : Int32) (nI n) (nI f) = some (nI c)) && (List.range n).all (fun v => decide (f_X5_tidyPlace NN (nI v) (nI f) (sgc n) = some (nI (dg n w v))))) = true := hb
    rw [Bool.and_eq_true] at hb
    have b1 := of_decide_eq_true hb.1
    have b2 : ∀ d, d < n → f_X5_tidyPlace NN (nI d) (nI f) (sgc n) = some (nI (dg n w d)) := fun d hd => of_decide_eq_true (List.all_eq_true.mp hb.2 d (List.mem_range.mpr hd))
    have t4 := (t3 c w hq).2
    have t1 : x = nI c := t1
    have e6' := (hA.same13 t2).1.2.2.1
    show ∃ r τ', _ ∧ f_X6_tidy_j164 NN v x ρ = some (r, τ') ∧ RR C σ τ'
    unfold f_X6_tidy_j164
    rw [e6', t1, fitting5 NN_le hA, f3, bd_s, b1]
    by_cases vm : v = (-1 : Int32)
    · subst vm
      have vn : (-1 : Int32) < nI n := by
        rw [Int32.lt_iff_toInt_lt, nI_toInt (by omega)]
        omega
      rw [if_pos vn, if_pos rfl, if_pos rfl]
      exact ⟨_, _, rfl, rfl, (hA.same13 t2).toR⟩
    · have v0 : ¬ v < 0 := by
        intro z
        rw [Int32.lt_iff_toInt_lt] at z h1
        have k0 : (0 : Int32).toInt = 0 := by decide
        exact vm (Int32.toInt_inj.mp (by omega))
      obtain ⟨d, hd, rfl⟩ : ∃ d, d < 4 ∧ v = nI d := by
        rcases pk_ix v (n := 4) (by omega) with z | z | z
        · exact absurd z v0
        · exact absurd h4 (Int32.not_lt.mpr z)
        · exact z
      rw [if_neg vm, if_neg vm]
      by_cases dn : d < n
      · have hfun : f_X5_tidyPlace NN (nI d) (nI f) σ = f_X5_tidyPlace NN (nI d) (nI f) (sgc n) := by
          have hf2 : (fun z : Int32 × Int32 × Int32 => f_X5_tidyPlace_b8 NN (nI d) (nI f) z.1 z.2.1 z.2.2 σ) = (fun z => f_X5_tidyPlace_b8 NN (nI d) (nI f) z.1 z.2.1 z.2.2 (sgc n)) := by
            funext z
            unfold f_X5_tidyPlace_b8
            rw [e5]
            rfl
          unfold f_X5_tidyPlace
          rw [hf2]
          rfl
        rw [if_pos ((nI_ltI (by omega) (by omega)).mpr dn), hfun, b2 d dn, if_neg (nI_ge dn (by omega)), ck_nI (by omega) (by omega), gd_t, nI_clamp (by omega), t4 d dn]
        exact ⟨_, _, rfl, rfl, (hA.same13 t2).toR⟩
      · rw [if_neg (fun z => dn ((nI_ltI (by omega) (by omega)).mp z)), if_pos (nI_le (by omega) (by omega))]
        exact ⟨_, _, rfl, rfl, (hA.same13 t2).toR⟩
end TidyRowRows
