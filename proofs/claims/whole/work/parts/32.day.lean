section DayRows
variable {C : CaT} {N : Nat} {n s : Nat} {K G M : Nat → Nat} {σ τ : St}
theorem at5 {k z j : Nat} (hz : z ≤ 60) (e : σ.1 5 k = nI z) (h : j < z) : f_X2_at k (nI j) σ = some (σ.1 (12 + k) j) := by
  unfold f_X2_at
  rw [e, if_neg (nI_pos (by omega)), if_neg (nI_ge h (by omega)), ck_nI (by omega) (by omega), gd_t, nI_clamp (by omega)]
theorem ask (v : Int32) : (f_X5_isAskedOfDay v = some 0 ∧ f_X6_within v 0 4 = some 0 ∧ f_X6_within v 10 13 = some 0) ∨ (f_X5_isAskedOfDay v = some 1 ∧ ((f_X6_within v 0 4 = some 1 ∧ ∃ q, q < 5 ∧ v = nI q) ∨ (f_X6_within v 0 4 = some 0 ∧ f_X6_within v 10 13 = some 1 ∧ ∃ q, q < 4 ∧ v = nI (10 + q)))) := by
  rcases nn v with h | ⟨a, ha, rfl⟩
  · left
    have h2 : v < (10 : Int32) := Int32.lt_trans h (by decide)
    unfold f_X5_isAskedOfDay f_X5_isAskedOfDay_j9
    rw [if_pos h, if_pos h2]
    exact ⟨rfl, wi_lo h, wi_lo h2⟩
  · unfold f_X5_isAskedOfDay f_X5_isAskedOfDay_j9 f_X5_isAskedOfDay_j21 f_X6_within
    have c0 : ¬ nI a < (0 : Int32) := nI_pos ha
    have c1 : nI a ≤ (4 : Int32) ↔ a ≤ 4 := nI_leI (b := 4) ha (by omega)
    have c2 : (4 : Int32) < nI a ↔ 4 < a := nI_ltI (a := 4) (by omega) ha
    have c3 : nI a < (10 : Int32) ↔ a < 10 := nI_ltI (b := 10) ha (by omega)
    have c4 : (14 : Int32) ≤ nI a ↔ 14 ≤ a := nI_leI (a := 14) (by omega) ha
    have c5 : (13 : Int32) < nI a ↔ 13 < a := nI_ltI (a := 13) (by omega) ha
    simp only [if_neg c0, c1, c2, c3, c4, c5]
    by_cases h4 : a ≤ 4
    · right
      rw [if_pos h4, if_neg (show ¬ 4 < a by omega)]
      exact ⟨rfl, Or.inl ⟨rfl, a, by omega, rfl⟩⟩
    · rw [if_neg h4, if_pos (show 4 < a by omega)]
      by_cases h10 : a < 10
      · left
        rw [if_pos h10, if_pos h10]
        exact ⟨rfl, rfl, rfl⟩
      · rw [if_neg h10, if_neg h10]
        by_cases h14 : 14 ≤ a
        · left
          rw [if_pos h14, if_pos (show 13 < a by omega)]
          exact ⟨rfl, rfl, rfl⟩
        · right
          rw [if_neg h14, if_neg (show ¬ 13 < a by omega)]
          exact ⟨rfl, Or.inr ⟨rfl, rfl, a - 10, by omega, by rw [show 10 + (a - 10) = a by omega]⟩⟩
/-- the reference's number of a nest -/
def nsk (s : Nat) : Nat → Nat
  | 0 => s / 4096
  | k + 1 => 5 * nsk s k + pl s k
def nst (s : Nat) : Nat := nsk s 4
theorem nestNow6 (hN : 100 ≤ N) (hA : RA C n s K G M σ τ) : f_X6_nestNow N τ = some (nI (nst s)) := by
  have hn := hA.1.1
  obtain ⟨hv, t1, t2, t3⟩ := hA.2.1
  obtain ⟨u1, u2, u3, -⟩ := vl hv
  have e6 := hA.1.2.2.1
  unfold f_X6_nestNow
  rw [t3, nm_v]
  have key := lp_for (fun z => f_X6_nestNow_b7 N z.1 z.2 τ) (fun i => (nI (nsk s i), nI i)) (nI (nsk s 4)) 4 0 (fun j _ hj => ?_) ?_ N (by omega)
  · rw [show ((nI (s / 4096), (0 : Int32)) : Int32 × Int32) = (nI (nsk s 0), nI 0) from rfl, key]
    rfl
  · have hj : j < 4 := by omega
    show f_X6_nestNow_b7 N (nI (nsk s j)) (nI j) τ = some (Sum.inl (nI (5 * nsk s j + pl s j), nI (j + 1)))
    unfold f_X6_nestNow_b7 f_X6_nestNow_j33
    rw [if_neg (show ¬ (4 : Int32) ≤ nI j from nI_ge (b := 4) hj (by omega)), e6, show (5 : Int32) = nI 5 from rfl, pk_mul, ck_nI (by omega) (by omega), gd_t, nI_clamp (by omega)]
    by_cases q : j < n
    · rw [if_neg (nI_ge q (by omega)), t2 j q, nm_v, nm_v, nI_add, nI_1]
    · rw [if_pos (nI_le (by omega) (by omega)), (u3 j hj (by omega)).1, nm_v, nm_v, nI_1, show (0 : Int32) = nI 0 from rfl, nI_add]
  · show f_X6_nestNow_b7 N (nI (nsk s 4)) (nI 4) τ = _
    unfold f_X6_nestNow_b7
    rw [if_pos (show (4 : Int32) ≤ nI 4 by decide)]
theorem bnst {q p k : Nat} (hp : p < 5) (hq : 5 * q + p < 2 ^ 31) (hk : k < 4) (τ : St) : f_X6_becomeNest_b4 N (nI (5 * q + p)) (nI k) τ = some (.inl (nI q, nI k + (-1), wS τ 7 k (nI p))) := by
  unfold f_X6_becomeNest_b4
  rw [if_neg (nI_pos (by omega)), ck_nI (by omega) (by omega), gd_t, nI_clamp (by omega), show (5 : Int32) = nI 5 from rfl, pk_rem hq (by omega) (by omega), pk_div hq (by omega) (by omega), nm_v, nm_v, nm_v, show (5 * q + p) % 5 = p by omega, show (5 * q + p) / 5 = q by omega]
theorem become6 (hN : 100 ≤ N) (hs : s < 65536) (hp : ∀ d, d < 4 → pl s d < 5) (τ : St) : ∃ τ', f_X6_becomeNest N (nI (nst s)) τ = some τ' ∧ (∀ j, j ≠ 4 → τ'.1 0 j = τ.1 0 j) ∧ (∀ g, g ≠ 0 → g ≠ 7 → τ'.1 g = τ.1 g) ∧ (∀ d, d < 4 → τ'.1 7 d = nI (pl s d)) ∧ τ'.1 0 4 = nI (s / 4096) := by
  have p0 := hp 0 (by omega)
  have p1 := hp 1 (by omega)
  have p2 := hp 2 (by omega)
  have p3 := hp 3 (by omega)
  have b0 : s / 4096 < 16 := by omega
  refine ⟨wS (wS (wS (wS (wS τ 7 3 (nI (pl s 3))) 7 2 (nI (pl s 2))) 7 1 (nI (pl s 1))) 7 0 (nI (pl s 0))) 0 4 (nI (s / 4096)), ?_, fun j hj => ?_, fun g h0 h7 => ?_, fun d hd => ?_, ?_⟩
  · unfold f_X6_becomeNest
    obtain ⟨a, rfl⟩ : ∃ a, N = a + 1 + 1 + 1 + 1 + 1 := ⟨N - 5, by omega⟩
    have e4 : nst s = 5 * nsk s 3 + pl s 3 := rfl
    have e3 : nsk s 3 = 5 * nsk s 2 + pl s 2 := rfl
    have e2 : nsk s 2 = 5 * nsk s 1 + pl s 1 := rfl
    have e1 : nsk s 1 = 5 * (s / 4096) + pl s 0 := rfl
    have s1 : f_X6_becomeNest_b4 (a + 1 + 1 + 1 + 1 + 1) (nI (nst s)) (3 : Int32) τ = some (.inl (nI (nsk s 3), nI 2, wS τ 7 3 (nI (pl s 3)))) := by
      rw [e4]; exact bnst (k := 3) p3 (by omega) (by omega) τ
    have s2 : ∀ τ, f_X6_becomeNest_b4 (a + 1 + 1 + 1 + 1 + 1) (nI (nsk s 3)) (nI 2) τ = some (.inl (nI (nsk s 2), nI 1, wS τ 7 2 (nI (pl s 2)))) := by
      intro τ; rw [e3]; exact bnst (k := 2) p2 (by omega) (by omega) τ
    have s3 : ∀ τ, f_X6_becomeNest_b4 (a + 1 + 1 + 1 + 1 + 1) (nI (nsk s 2)) (nI 1) τ = some (.inl (nI (nsk s 1), nI 0, wS τ 7 1 (nI (pl s 1)))) := by
      intro τ; rw [e2]; exact bnst (k := 1) p1 (by omega) (by omega) τ
    have s4 : ∀ τ, f_X6_becomeNest_b4 (a + 1 + 1 + 1 + 1 + 1) (nI (nsk s 1)) (nI 0) τ = some (.inl (nI (s / 4096), -1, wS τ 7 0 (nI (pl s 0)))) := by
      intro τ; rw [e1]; exact bnst (k := 0) p0 (by omega) (by omega) τ
    have s5 : ∀ τ, f_X6_becomeNest_b4 (a + 1 + 1 + 1 + 1 + 1) (nI (s / 4096)) (-1) τ = some (.inr (nI (s / 4096), τ)) := by
      intro τ; unfold f_X6_becomeNest_b4; rw [if_pos (by decide)]
    rw [lp_s]
    show bd (Option.bind (f_X6_becomeNest_b4 (a + 1 + 1 + 1 + 1 + 1) (nI (nst s)) (3 : Int32) τ) _) _ = _
    rw [s1, Option.bind_some, Sum.elim_inl, lp_s]
    show bd (Option.bind (f_X6_becomeNest_b4 (a + 1 + 1 + 1 + 1 + 1) (nI (nsk s 3)) (nI 2) _) _) _ = _
    rw [s2, Option.bind_some, Sum.elim_inl, lp_s]
    show bd (Option.bind (f_X6_becomeNest_b4 (a + 1 + 1 + 1 + 1 + 1) (nI (nsk s 2)) (nI 1) _) _) _ = _
    rw [s3, Option.bind_some, Sum.elim_inl, lp_s]
    show bd (Option.bind (f_X6_becomeNest_b4 (a + 1 + 1 + 1 + 1 + 1) (nI (nsk s 1)) (nI 0) _) _) _ = _
    rw [s4, Option.bind_some, Sum.elim_inl, lp_s]
    show bd (Option.bind (f_X6_becomeNest_b4 (a + 1 + 1 + 1 + 1 + 1) (nI (s / 4096)) (-1) _) _) _ = _
    rw [s5]
    rfl
  · rw [wS_0, upd_n _ _ hj, wS_n _ _ _ (by decide), wS_n _ _ _ (by decide), wS_n _ _ _ (by decide), wS_n _ _ _ (by decide)]
  · rw [wS_n _ _ _ h0, wS_n _ _ _ h7, wS_n _ _ _ h7, wS_n _ _ _ h7, wS_n _ _ _ h7]
  · rw [wS_n _ _ _ (by decide)]
    rcases (show d = 0 ∨ d = 1 ∨ d = 2 ∨ d = 3 by omega) with rfl | rfl | rfl | rfl <;> rfl
  · rfl
theorem RA.self (hA : RA C n s K G M σ τ) : RA C n s K G M (wS σ 0 1 (nI s)) τ := hA.st hA.2.1.1 (fun _ _ => rfl) (fun _ _ _ => rfl) hA.2.1.2.2.1 hA.2.1.2.2.2
theorem vpl (hn : n ≤ 4) (hv : vld n s = true) {d : Nat} (hd : d < 4) : pl s d < 5 := by
  obtain ⟨-, u2, u3, -⟩ := vl hv
  by_cases q : d < n
  · have := u2 d hd q; omega
  · rw [(u3 d hd (by omega)).1]; omega
/-- from any stand back to the first -/
theorem backTo (hN : 100 ≤ N) (hA : RA C n s K G M σ τ) {s' : Nat} {τ' : St} (hB : RA C n s' K G M (wS σ 0 1 (nI s')) τ') : ∃ τ'', f_X6_becomeNest N (nI (nst s)) τ' = some τ'' ∧ RA C n s K G M σ τ'' := by
  have hn := hA.1.1
  obtain ⟨hv, t1, -⟩ := hA.2.1
  obtain ⟨u1, -⟩ := vl hv
  obtain ⟨τ'', h1, h2, h3, h4, h5⟩ := become6 hN u1 (fun d hd => vpl hn hv hd) τ'
  have h := hB.st hv h2 h3 (fun d hd => h4 d (by omega)) h5
  rw [wS_wS, ← t1, wS_id] at h
  exact ⟨τ'', h1, h⟩
theorem handS6 (hN : 100 ≤ N) (hA : RA C n s K G M σ τ) : f_X6_handSet N τ = some (nI (ss (hnd s) n)) := by
  have hn := hA.1.1
  obtain ⟨hv, t1, t2, t3⟩ := hA.2.1
  have e6 := hA.1.2.2.1
  unfold f_X6_handSet
  rw [lp_ss _ (hnd s) n (fun i a hi ha => ?_) (fun a => ?_) hn (by omega)]
  · rfl
  · show f_X6_handSet_b4 N (nI a) (nI i) τ = _
    unfold f_X6_handSet_b4 f_X6_handSet_j28
    rw [e6, if_neg (nI_ge hi (by omega)), hand6 hN hn hv t2 t3 hi, bd_s]
    cases hnd s i with
    | false =>
      rw [b2_f, i00, nm_v, nm_v, nI_1, if_neg (by decide), (by decide : ∀ a, a < 16 → nI a ||| (0 : Int32) = nI a) a ha]
    | true => rw [b2_t, i10, nm_v, nm_v, nI_1, or4 a ha i (by omega)]; rfl
  · show f_X6_handSet_b4 N (nI a) (nI n) τ = _
    unfold f_X6_handSet_b4
    rw [e6, if_pos (Int32.le_refl _)]
theorem tellS (hN : 100 ≤ N) (hA : RA C n s K G M σ τ) {v : Int32} (hv5 : (∃ q, q < 5 ∧ v = nI q) ∨ ∃ q, q < 4 ∧ v = nI (10 + q)) : ∃ r, f_X6_tellDay N v τ = some r ∧ (v ≠ 1 → f_X5_ofStand N (nI s) v σ = some r) := by
  have hn := hA.1.1
  obtain ⟨hv, t1, t2, t3⟩ := hA.2.1
  obtain ⟨u1, -⟩ := vl hv
  have e5 := hA.1.2.1
  have e6 := hA.1.2.2.1
  rcases hv5 with ⟨q, hq, rfl⟩ | ⟨q, hq, rfl⟩
  · unfold f_X6_tellDay f_X6_tellDay_j116 f_X5_ofStand
    rw [if_pos (show nI q < (10 : Int32) from (nI_ltI (b := 10) (by omega) (by omega)).mpr (by omega)), onT6 hN hn e6 t2, most6 hN hn hv e6 t2, t3, handS6 hN hA, onT5 hN u1 hn e5, e5, handS5 hN u1 hn, open5 u1, most5 hN hn hv]
    rcases (show q = 0 ∨ q = 1 ∨ q = 2 ∨ q = 3 ∨ q = 4 by omega) with rfl | rfl | rfl | rfl | rfl
    · exact ⟨_, rfl, fun _ => rfl⟩
    · exact ⟨_, rfl, fun h => absurd rfl h⟩
    · exact ⟨_, rfl, fun _ => rfl⟩
    · exact ⟨_, rfl, fun _ => rfl⟩
    · exact ⟨_, rfl, fun _ => rfl⟩
  · unfold f_X6_tellDay f_X5_ofStand
    have a1 : nI (10 + q) - (10 : Int32) = nI q := (pk_sub (a := 10 + q) (b := 10) (by omega)).trans (by rw [show 10 + q - 10 = q by omega])
    have n0 : ¬ nI (10 + q) = (0 : Int32) := fun z => absurd (nI_inj (a := 10 + q) (b := 0) (by omega) (by omega) z) (by omega)
    have n1 : ¬ nI (10 + q) = (1 : Int32) := fun z => absurd (nI_inj (a := 10 + q) (b := 1) (by omega) (by omega) z) (by omega)
    have n2 : ¬ nI (10 + q) = (2 : Int32) := fun z => absurd (nI_inj (a := 10 + q) (b := 2) (by omega) (by omega) z) (by omega)
    have n3 : ¬ nI (10 + q) = (3 : Int32) := fun z => absurd (nI_inj (a := 10 + q) (b := 3) (by omega) (by omega) z) (by omega)
    have n4 : ¬ nI (10 + q) = (4 : Int32) := fun z => absurd (nI_inj (a := 10 + q) (b := 4) (by omega) (by omega) z) (by omega)
    rw [if_neg (show ¬ nI (10 + q) < (10 : Int32) from fun z => absurd ((nI_ltI (b := 10) (by omega) (by omega)).mp z) (by omega)), if_neg n0, if_neg n1, if_neg n2, if_neg n3, if_neg n4, a1]
    by_cases hd : q < n
    · rw [d6_in hA hd, d5_in hA hd, bd_s, bd_s, i10, i10, ck_nI (by omega) (by omega), gd_t, nI_clamp (by omega), t2 q hd, place5 (by omega) (by omega)]
      exact ⟨_, rfl, fun _ => rfl⟩
    · rw [d6_hi hA (nI_le (by omega) (by omega)), d5_hi hA (nI_le (by omega) (by omega))]
      exact ⟨_, rfl, fun _ => rfl⟩
/-- the stands of a day -/
def sd (s : Nat) (x : Nat → Nat) : Nat → Nat
  | 0 => s
  | j + 1 => aft (sd s x j) (x j)
theorem wrong56 (hN : 100 ≤ N) (hA : RA C n s K G M σ τ) {k z a b : Nat} {x : Nat → Nat} (hk : k < 4) (hz : z ≤ 60) (hab : a + b ≤ z) (hb : b ≤ 20) {ln : Nat} (hl : ln ≤ 2) (e4 : σ.1 4 k = nI ln) (e5 : σ.1 5 k = nI z) (h5 : ∀ j, j < b → σ.1 (12 + k) (a + j) = nI (x j)) (hx : ∀ j, j < b → x j < 28) :
    (∃ j τ' s', j < b ∧ f_X5_firstWrong N k (nI a) (nI b) σ = some (nI j) ∧ f_X6_goDay N (nI (60 * k + a)) (nI b) τ = some (nI j, τ') ∧ RA C n s' K G M (wS σ 0 1 (nI s')) τ') ∨ (∃ τ', f_X5_firstWrong N k (nI a) (nI b) σ = some (-9) ∧ f_X6_goDay N (nI (60 * k + a)) (nI b) τ = some (-9, τ') ∧ RA C n (sd s x b) K G M (wS σ 0 1 (nI (sd s x b))) τ' ∧ ∀ j, j < b → vld n (sd s x j) = true ∧ cdo n (sd s x j) (fP K G M) (x j) = true) := by
  obtain ⟨hv, t1, t2, t3⟩ := hA.2.1
  have hn := hA.1.1
  have key := lp_two (fun w => f_X5_firstWrong_b9 N k (nI a) (nI b) w.1 w.2 σ) (fun w => f_X6_goDay_b2 N (nI (60 * k + a)) (nI b) w.1 w.2)
    (fun o p => (∃ j τ' s', j < b ∧ o = .inl (nI j) ∧ p = .inl (nI j, τ') ∧ RA C n s' K G M (wS σ 0 1 (nI s')) τ') ∨ (∃ τ', o = .inr () ∧ p = .inr τ' ∧ RA C n (sd s x b) K G M (wS σ 0 1 (nI (sd s x b))) τ' ∧ ∀ j, j < b → vld n (sd s x j) = true ∧ cdo n (sd s x j) (fP K G M) (x j) = true)) b
    (fun i u w => u = (nI (sd s x i), nI i) ∧ w.1 = nI i ∧ RA C n (sd s x i) K G M (wS σ 0 1 (nI (sd s x i))) w.2 ∧ ∀ j, j < i → vld n (sd s x j) = true ∧ cdo n (sd s x j) (fP K G M) (x j) = true)
    (fun i u w hi hr => ?_) (fun u w hr => ?_) b 0 (nI s, nI 0) (nI 0, τ) (by omega) ⟨rfl, rfl, hA.self, fun j hj => absurd hj (by omega)⟩ N N (by omega) (by omega)
  · obtain ⟨o, p, k1, k2, k3⟩ := key
    unfold f_X5_firstWrong f_X6_goDay
    rw [t1, nm_v, show (0 : Int32) = nI 0 from rfl, k1, k2, bd_s, bd_s]
    rcases k3 with ⟨j, τ', s', hj, rfl, rfl, h⟩ | ⟨τ', rfl, rfl, h, h'⟩
    · exact Or.inl ⟨j, τ', s', hj, rfl, rfl, h⟩
    · exact Or.inr ⟨τ', rfl, rfl, h, h'⟩
  · obtain ⟨w1, w2⟩ := w
    obtain ⟨rfl, r2, r3, r4⟩ := hr
    have r2 : w1 = nI i := r2
    subst r2
    have r3 : RA C n (sd s x i) K G M (wS σ 0 1 (nI (sd s x i))) w2 := r3
    have hvi := r3.2.1.1
    obtain ⟨ui, -⟩ := vl hvi
    obtain ⟨r, r5, r6⟩ := doAt5 (s := s) hN hA ui
    have xi := hx i hi
    have hB5 : f_X5_firstWrong_b9 N k (nI a) (nI b) (nI (sd s x i)) (nI i) σ = (if cdo n (sd s x i) (fP K G M) (x i) = true then some (.inl (nI (sd s x (i + 1)), nI (i + 1))) else some (.inr (.inl (nI i)))) := by
      unfold f_X5_firstWrong_b9 f_X5_firstWrong_j47
      rw [if_neg (nI_ge hi (by omega)), nI_add, at5 hz e5 (by omega), bd_s, h5 i hi, isAct5 xi, bd_s, i10, r5, bd_s, hasX _ (by omega), bd_s, r6 _ (by omega), decide_eq_true xi, Bool.true_and]
      cases hcd : cdo n (sd s x i) (fP K G M) (x i) with
      | false => rfl
      | true =>
        rw [b2_t, i10, (af hn hvi xi hcd).1, bd_s, nm_v, nI_1]
        rfl
    have h3 : w2.1 3 (60 * k + a + i) = nI (x i) := by
      rcases r3.2.2.2.2.1 k hk with ⟨y1, -⟩ | ⟨ln', z', l1, l2, ⟨y1, y2⟩, -, y5⟩
      · have y1 : σ.1 4 k = -1 := y1
        rw [e4] at y1
        exact absurd y1 (nI_neg1 (by omega))
      · rw [Nat.add_assoc, ← y5 (a + i) (by omega), wS_n _ _ _ (by omega)]
        exact h5 i hi
    have hB6 : f_X6_goDay_b2 N (nI (60 * k + a)) (nI b) (nI i) w2 = (if b2 (cdo n (sd s x i) (fP K G M) (x i)) = 0 then some (.inr (.inl (nI i, w2))) else bd (f_X6_does (nI (x i)) w2) fun σ_7 => some (.inl (nI (i + 1), σ_7))) := by
      unfold f_X6_goDay_b2
      rw [if_neg (nI_ge hi (by omega)), nI_add, ck_nI (by omega) (by omega), gd_t, nI_clamp (by omega), h3, canDo6 hN r3 xi, bd_s, nI_1]
      rfl
    show (∃ s' t', f_X5_firstWrong_b9 N k (nI a) (nI b) (nI (sd s x i)) (nI i) σ = some (.inl s') ∧ f_X6_goDay_b2 N (nI (60 * k + a)) (nI b) (nI i) w2 = some (.inl t') ∧ _) ∨ ∃ o p, f_X5_firstWrong_b9 N k (nI a) (nI b) (nI (sd s x i)) (nI i) σ = some (.inr o) ∧ f_X6_goDay_b2 N (nI (60 * k + a)) (nI b) (nI i) w2 = some (.inr p) ∧ _
    rw [hB5, hB6]
    cases hcd : cdo n (sd s x i) (fP K G M) (x i) with
    | false => exact Or.inr ⟨_, _, rfl, rfl, Or.inl ⟨i, w2, sd s x i, hi, rfl, rfl, r3⟩⟩
    | true =>
      obtain ⟨τ', d1, d2⟩ := does6 r3 xi hcd
      rw [wS_wS] at d2
      rw [d1, b2_t, i10, if_pos rfl, bd_s]
      refine Or.inl ⟨_, _, rfl, rfl, rfl, rfl, d2, fun j hj => ?_⟩
      by_cases q : j = i
      · subst q; exact ⟨hvi, hcd⟩
      · exact r4 j (by omega)
  · obtain ⟨w1, w2⟩ := w
    obtain ⟨rfl, r2, r3, r4⟩ := hr
    have r2 : w1 = nI b := r2
    subst r2
    refine ⟨.inr (), .inr w2, ?_, ?_, Or.inr ⟨w2, rfl, rfl, r3, r4⟩⟩
    · show f_X5_firstWrong_b9 N k (nI a) (nI b) (nI (sd s x b)) (nI b) σ = _
      unfold f_X5_firstWrong_b9
      rw [if_pos (Int32.le_refl _)]
    · show f_X6_goDay_b2 N (nI (60 * k + a)) (nI b) (nI b) w2 = _
      unfold f_X6_goDay_b2
      rw [if_pos (Int32.le_refl _)]
theorem standA (hN : 100 ≤ N) (hA : RA C n s K G M σ τ) {k z a b : Nat} {x : Nat → Nat} (hz : z ≤ 60) (hab : a + b ≤ z) (hb : b ≤ 20) (e5 : σ.1 5 k = nI z) (h5 : ∀ j, j < b → σ.1 (12 + k) (a + j) = nI (x j)) (hx : ∀ j, j < b → x j < 28) (hc : ∀ j, j < b → vld n (sd s x j) = true ∧ cdo n (sd s x j) (fP K G M) (x j) = true) : f_X5_standAfter N k (nI a) (nI b) σ = some (nI (sd s x b)) := by
  have t1 := hA.2.1.2.1
  have hn := hA.1.1
  unfold f_X5_standAfter
  rw [t1, nm_v]
  have key := lp_for (fun w => f_X5_standAfter_b9 N k (nI a) (nI b) w.1 w.2 σ) (fun i => (nI (sd s x i), nI i)) (nI (sd s x b)) b 0 (fun j _ hj => ?_) ?_ N (by omega)
  · rw [show ((nI s, (0 : Int32)) : Int32 × Int32) = (nI (sd s x 0), nI 0) from rfl, key]
    rfl
  · have hj : j < b := by omega
    show f_X5_standAfter_b9 N k (nI a) (nI b) (nI (sd s x j)) (nI j) σ = _
    unfold f_X5_standAfter_b9
    rw [if_neg (nI_ge hj (by omega)), nI_add, at5 hz e5 (by omega), bd_s, h5 j hj, (af hn (hc j hj).1 (hx j hj) (hc j hj).2).1, bd_s, nm_v, nI_1]
    rfl
  · rw [Nat.zero_add]
    show f_X5_standAfter_b9 N k (nI a) (nI b) (nI (sd s x b)) (nI b) σ = _
    unfold f_X5_standAfter_b9
    rw [if_pos (Int32.le_refl _)]
/-- all cells of the day are acts, or both say no -/
theorem allActs (hN : 100 ≤ N) {k z a b : Nat} {v5 : Int32} (hk : k < 4) (hz : z ≤ 60) (hab : a + b ≤ z) (hb : b ≤ 20) (e5 : σ.1 5 k = nI z) (hc : ∀ j, j < 60 → σ.1 (12 + k) j = τ.1 3 (60 * k + j)) :
    (f_X2_isWithin N k (nI a) (nI b) 0 27 σ = some 0 ∧ lpF (fun w => f_X6_day_b101 N (nI b) v5 (nI (60 * k + a)) w τ) N (0 : Int32) = some (.inl (-2, τ))) ∨ (f_X2_isWithin N k (nI a) (nI b) 0 27 σ = some 1 ∧ lpF (fun w => f_X6_day_b101 N (nI b) v5 (nI (60 * k + a)) w τ) N (0 : Int32) = some (.inr ()) ∧ ∃ x : Nat → Nat, ∀ j, j < b → x j < 28 ∧ σ.1 (12 + k) (a + j) = nI (x j) ∧ τ.1 3 (60 * k + (a + j)) = nI (x j)) := by
  have key := lp_two (fun w => f_X2_isWithin_b3 N k (nI a) (nI b) 0 27 w σ) (fun w => f_X6_day_b101 N (nI b) v5 (nI (60 * k + a)) w τ)
    (fun o p => (o = .inl 0 ∧ p = .inl (-2, τ)) ∨ (o = .inr () ∧ p = .inr () ∧ ∀ j, j < b → ∃ y, y < 28 ∧ σ.1 (12 + k) (a + j) = nI y)) b
    (fun i u w => u = nI i ∧ w = nI i ∧ ∀ j, j < i → ∃ y, y < 28 ∧ σ.1 (12 + k) (a + j) = nI y)
    (fun i u w hi hr => ?_) (fun u w hr => ?_) b 0 (nI 0) (nI 0) (by omega) ⟨rfl, rfl, fun j hj => absurd hj (by omega)⟩ N N (by omega) (by omega)
  · obtain ⟨o, p, k1, k2, k3⟩ := key
    unfold f_X2_isWithin
    have k1 : lpF (fun w => f_X2_isWithin_b3 N k (nI a) (nI b) 0 27 w σ) N (0 : Int32) = some o := k1
    have k2 : lpF (fun w => f_X6_day_b101 N (nI b) v5 (nI (60 * k + a)) w τ) N (0 : Int32) = some p := k2
    rw [k1, k2, bd_s]
    rcases k3 with ⟨rfl, rfl⟩ | ⟨rfl, rfl, h⟩
    · exact Or.inl ⟨rfl, rfl⟩
    · refine Or.inr ⟨rfl, rfl, fun j => (σ.1 (12 + k) (a + j)).toNatClampNeg, fun j hj => ?_⟩
      obtain ⟨y, y1, y2⟩ := h j hj
      show (σ.1 (12 + k) (a + j)).toNatClampNeg < 28 ∧ σ.1 (12 + k) (a + j) = nI ((σ.1 (12 + k) (a + j)).toNatClampNeg) ∧ τ.1 3 (60 * k + (a + j)) = nI ((σ.1 (12 + k) (a + j)).toNatClampNeg)
      rw [← hc (a + j) (by omega), y2, nI_clamp (by omega)]
      exact ⟨y1, rfl, rfl⟩
  · obtain ⟨rfl, rfl, r3⟩ := hr
    have hB5 : f_X2_isWithin_b3 N k (nI a) (nI b) 0 27 (nI i) σ = (if σ.1 (12 + k) (a + i) < 0 then some (.inr (.inl 0)) else if σ.1 (12 + k) (a + i) ≤ 27 then some (.inl (nI (i + 1))) else some (.inr (.inl 0))) := by
      unfold f_X2_isWithin_b3
      rw [if_neg (nI_ge hi (by omega)), nI_add, at5 hz e5 (by omega), bd_s, nm_v, nI_1]
    have hB6 : f_X6_day_b101 N (nI b) v5 (nI (60 * k + a)) (nI i) τ = bd (f_X6_within (σ.1 (12 + k) (a + i)) 0 27) fun r => if r = 0 then some (.inr (.inl (-2, τ))) else some (.inl (nI (i + 1))) := by
      unfold f_X6_day_b101
      rw [if_neg (nI_ge hi (by omega)), nI_add, ck_nI (by omega) (by omega), gd_t, nI_clamp (by omega), Nat.add_assoc, ← hc (a + i) (by omega), nI_1]
      rfl
    show (∃ s' t', f_X2_isWithin_b3 N k (nI a) (nI b) 0 27 (nI i) σ = some (.inl s') ∧ f_X6_day_b101 N (nI b) v5 (nI (60 * k + a)) (nI i) τ = some (.inl t') ∧ _) ∨ ∃ o p, f_X2_isWithin_b3 N k (nI a) (nI b) 0 27 (nI i) σ = some (.inr o) ∧ f_X6_day_b101 N (nI b) v5 (nI (60 * k + a)) (nI i) τ = some (.inr p) ∧ _
    rw [hB5, hB6, show (27 : Int32) = nI 28 - 1 from rfl]
    rcases wi1 (z := 28) (by omega) (σ.1 (12 + k) (a + i)) with ⟨h1, h2⟩ | ⟨y, hy, h2, h1⟩
    · rw [h1]
      refine Or.inr ⟨.inl 0, .inl (-2, τ), ?_, rfl, Or.inl ⟨rfl, rfl⟩⟩
      rcases h2 with h2 | h2
      · rw [if_pos h2]
      · have h27 : ¬ σ.1 (12 + k) (a + i) ≤ nI 28 - 1 := fun q => absurd (Int32.le_trans h2 q) (by decide)
        rw [if_neg h27]
        split <;> rfl
    · rw [h1, h2, if_neg (nI_pos (by omega)), if_pos (show nI y ≤ nI 28 - 1 from nI_le (b := 27) (by omega) (by omega))]
      refine Or.inl ⟨_, _, rfl, rfl, rfl, rfl, fun j hj => ?_⟩
      by_cases q : j = i
      · subst q; exact ⟨y, hy, h2⟩
      · exact r3 j (by omega)
  · obtain ⟨rfl, rfl, r3⟩ := hr
    refine ⟨.inr (), .inr (), ?_, ?_, Or.inr ⟨rfl, rfl, r3⟩⟩
    · show f_X2_isWithin_b3 N k (nI a) (nI b) 0 27 (nI b) σ = _
      unfold f_X2_isWithin_b3
      rw [if_pos (Int32.le_refl _)]
    · show f_X6_day_b101 N (nI b) v5 (nI (60 * k + a)) (nI b) τ = _
      unfold f_X6_day_b101
      rw [if_pos (Int32.le_refl _)]
end DayRows
