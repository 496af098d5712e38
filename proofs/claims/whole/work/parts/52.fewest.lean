section FewestRows
variable {C : CaT} {N : Nat} {n s T : Nat} {K G M : Nat → Nat} {σ τ τ' ρ ρ' : St} {F : Int32} {x : Nat → Nat} {ld : Nat → Option Nat} {Tl : Nat → Bool} {f : Nat → Option Nat}
theorem treeZ (hn : n ≤ 4) (hv : vld n s = true) (hT : 16240 ≤ T) : TreeOK (bzs n F s T).1 (bzs n F s T).2.2 (ldz n F (bzs n F s T)) := by
  obtain ⟨a1, a2, a3, a4, a5⟩ := bz_ok (F := F) hn hv T
  refine ⟨bz_pos T, a3.2, fun j h1 h2 => ?_, a5, fun k j hk e => ?_⟩
  · obtain ⟨c1, c2, c3, c4, c5⟩ := a4 j h1 h2
    refine ⟨c2, ?_⟩
    unfold ldz
    rw [if_pos c3]
    exact fnd_at a2 h2 c4.symm
  · unfold ldz at e
    by_cases q : cdo n ((bzs n F s T).2.1 (k / 28)) (FB F) (k % 28) = true
    · rw [if_pos q] at e
      obtain ⟨e1, e2⟩ := fnd_s e
      obtain ⟨j', b1, b2_, b3⟩ := bz_found (F := F) hn hv hT (i := k / 28) (a := k % 28) (by omega) (Nat.mod_lt _ (by omega)) q
      have := a2 j j' e1 b1 (e2.trans b2_.symm)
      subst this
      refine ⟨e1, ?_⟩
      rcases b3 with b3 | b3
      · exact Or.inl b3
      · exact Or.inr (by omega)
    · rw [if_neg q] at e
      cases e
theorem dp_le {m : Nat} {ky : Nat → Nat} (h : TreeOK m ky ld) : ∀ g j, j ≤ g → j < m → dp ky j ≤ j := by
  intro g
  induction g with
  | zero =>
    intro j h1 _
    have : j = 0 := by omega
    subst this
    exact Nat.le_refl _
  | succ g ih =>
    intro j h1 h2
    by_cases q : j = 0
    · subst q
      exact Nat.le_refl _
    · have hp := (h.2.2.1 j (by omega) h2).1
      rw [dp_s h (by omega) h2]
      have := ih (ky j / 28) (by omega) (by omega)
      omega
theorem find5 (hN : 1000 ≤ N) {z : BZ} (hz : z.1 ≤ 580) (hv : ∀ j, j < z.1 → vld n (z.2.1 j) = true) (hg : GZ z σ) {c : Nat} (hc : c < 65536) : f_X1_find N (nI c) σ = some (o9 (fnd z.2.1 c z.1)) := by
  unfold f_X1_find
  have h := lp_ff (fun w => f_X1_find_b2 N (nI c) w σ) (fun j => Nat.beq (z.2.1 j) c) z.1 (fun i hi => ?_) ?_ z.1 0 (by omega) N (by omega)
  · rw [show (0 : Int32) = nI 0 from rfl, h, bd_s]
    unfold fnd
    cases ff (fun j => Nat.beq (z.2.1 j) c) z.1 0 with
    | none => rfl
    | some e => rfl
  · show f_X1_find_b2 N (nI c) (nI i) σ = _
    unfold f_X1_find_b2
    obtain ⟨u1, -⟩ := vl (hv i hi)
    rw [hg.1, if_neg (nI_ge hi (by omega)), ck_nI (by omega) (by omega), gd_t, nI_clamp (by omega), (hg.2 i hi).1, nbI (by omega) (by omega), nm_v, nI_1]
    show _ = some (if Nat.beq (z.2.1 i) c = true then _ else _)
    cases Nat.beq (z.2.1 i) c <;> rfl
  · show f_X1_find_b2 N (nI c) (nI z.1) σ = _
    unfold f_X1_find_b2
    rw [hg.1, if_pos (Int32.le_refl _)]
theorem lengthTo5 (hN : 1000 ≤ N) {z : BZ} {t : Nat} (hz : z.1 ≤ 580) (ht : t < z.1) (tr : TreeOK z.1 z.2.2 ld) (hg : GZ z σ) : f_X1_lengthTo N (nI t) σ = some (nI (dp z.2.2 t)) := by
  have hd := dp_le tr t t (Nat.le_refl _) ht
  unfold f_X1_lengthTo
  have key := lp_for (fun w => f_X1_lengthTo_b4 N w.1 w.2 σ) (fun i => (nI i, nI (an z.2.2 t i))) (nI (dp z.2.2 t)) (dp z.2.2 t) 0 (fun i _ hi => ?_) ?_ N (by omega)
  · rw [show (((0 : Int32), nI t) : Int32 × Int32) = (nI 0, nI (an z.2.2 t 0)) from rfl, key]
    rfl
  · have hi : i < dp z.2.2 t := by omega
    obtain ⟨h1, h2⟩ := an_dp tr ht i (by omega)
    have h3 := an_1 tr ht hi
    show f_X1_lengthTo_b4 N (nI i) (nI (an z.2.2 t i)) σ = _
    unfold f_X1_lengthTo_b4
    rw [if_neg (show ¬ nI (an z.2.2 t i) ≤ (0 : Int32) from nI_ge (a := 0) (b := an z.2.2 t i) (by omega) (by omega)), hg.1, if_neg (nI_ge h1 (by omega)), if_neg (show ¬ (580 : Int32) ≤ nI i from nI_ge (b := 580) (by omega) (by omega)), nm_v, nI_1, ck_nI (by omega) (by omega), gd_t, nI_clamp (by omega), (hg.2 _ h1).2.1, nm_v]
    rfl
  · rw [Nat.zero_add]
    show f_X1_lengthTo_b4 N (nI (dp z.2.2 t)) (nI (an z.2.2 t (dp z.2.2 t))) σ = _
    unfold f_X1_lengthTo_b4
    rw [an_end tr ht, if_pos (show nI 0 ≤ (0 : Int32) by decide)]
theorem nI_m1 {a : Nat} (h : 1 ≤ a) : nI a + (-1 : Int32) = nI (a - 1) := by
  rw [← pk_sub (b := 1) h, Int32.sub_eq_add_neg]
  rfl
theorem actTo5 (hN : 1000 ≤ N) {z : BZ} {t k : Nat} (hz : z.1 ≤ 580) (ht : t < z.1) (hk : k < 60) (tr : TreeOK z.1 z.2.2 ld) (hg : GZ z σ) : f_X1_actTo N (nI t) (nI k) σ = some (if k < dp z.2.2 t then nI (z.2.2 (an z.2.2 t (dp z.2.2 t - 1 - k)) % 28) else -9) := by
  have hd := dp_le tr t t (Nat.le_refl _) ht
  unfold f_X1_actTo f_X1_actTo_j58
  rw [lengthTo5 hN hz ht tr hg, bd_s, nm_v]
  by_cases q : k < dp z.2.2 t
  · rw [if_pos q, show nI (dp z.2.2 t) - (1 : Int32) = nI (dp z.2.2 t - 1) from pk_sub (a := dp z.2.2 t) (b := 1) (by omega)]
    have key := lp_for (fun w => f_X1_actTo_b11 N (nI k) w.1 w.2 σ) (fun i => (nI (dp z.2.2 t - 1 - i), nI (an z.2.2 t i))) (.inl (nI (z.2.2 (an z.2.2 t (dp z.2.2 t - 1 - k)) % 28))) (dp z.2.2 t - 1 - k) 0 (fun i _ hi => ?_) ?_ N (by omega)
    · have key : lpF (fun w => f_X1_actTo_b11 N (nI k) w.1 w.2 σ) N (nI (dp z.2.2 t - 1), nI t) = _ := key
      rw [key]
      rfl
    · have hi : i < dp z.2.2 t - 1 - k := by omega
      obtain ⟨h1, h2⟩ := an_dp tr ht i (by omega)
      have h3 := an_1 tr ht (d := i) (by omega)
      show f_X1_actTo_b11 N (nI k) (nI (dp z.2.2 t - 1 - i)) (nI (an z.2.2 t i)) σ = _
      unfold f_X1_actTo_b11
      rw [if_neg (show ¬ nI (an z.2.2 t i) ≤ (0 : Int32) from nI_ge (a := 0) (b := an z.2.2 t i) (by omega) (by omega)), hg.1, if_neg (nI_ge h1 (by omega)), if_neg (show ¬ nI (dp z.2.2 t - 1 - i) < nI k from fun w => absurd ((nI_ltI (by omega) (by omega)).mp w) (by omega)), if_neg (show ¬ nI (dp z.2.2 t - 1 - i) = nI k from fun w => absurd (nI_inj (by omega) (by omega) w) (by omega)), nI_m1 (by omega), nm_v, ck_nI (by omega) (by omega), gd_t, nI_clamp (by omega), (hg.2 _ h1).2.1, nm_v, show dp z.2.2 t - 1 - i - 1 = dp z.2.2 t - 1 - (i + 1) by omega]
      rfl
    · rw [Nat.zero_add]
      obtain ⟨h1, h2⟩ := an_dp tr ht (dp z.2.2 t - 1 - k) (by omega)
      have h3 := an_1 tr ht (d := dp z.2.2 t - 1 - k) (by omega)
      show f_X1_actTo_b11 N (nI k) (nI (dp z.2.2 t - 1 - (dp z.2.2 t - 1 - k))) (nI (an z.2.2 t (dp z.2.2 t - 1 - k))) σ = _
      unfold f_X1_actTo_b11
      rw [show dp z.2.2 t - 1 - (dp z.2.2 t - 1 - k) = k by omega]
      generalize an z.2.2 t (dp z.2.2 t - 1 - k) = v at *
      rw [if_neg (show ¬ nI v ≤ (0 : Int32) from nI_ge (a := 0) (b := v) (by omega) (by omega)), hg.1, if_neg (nI_ge h1 (by omega)), if_neg (show ¬ nI k < nI k from fun w => absurd ((nI_ltI (by omega) (by omega)).mp w) (by omega)), if_pos rfl, ck_nI (by omega) (by omega), gd_t, nI_clamp (by omega), (hg.2 _ h1).2.2]
  · rw [if_neg q]
    obtain ⟨c, rfl⟩ : ∃ c, N = c + 1 := ⟨N - 1, by omega⟩
    rw [lp_s]
    have hB : f_X1_actTo_b11 (c + 1) (nI k) (nI (dp z.2.2 t) - 1) (nI t) σ = some (.inr (.inr ())) := by
      unfold f_X1_actTo_b11
      by_cases w : dp z.2.2 t = 0
      · have := dp_z tr ht w
        subst this
        rw [if_pos (show nI 0 ≤ (0 : Int32) by decide)]
      · have t1 : 1 ≤ t := by omega
        rw [show nI (dp z.2.2 t) - (1 : Int32) = nI (dp z.2.2 t - 1) from pk_sub (a := dp z.2.2 t) (b := 1) (by omega), if_neg (show ¬ nI t ≤ (0 : Int32) from nI_ge (a := 0) (b := t) (by omega) (by omega)), hg.1, if_neg (nI_ge ht (by omega)), if_pos ((nI_ltI (by omega) (by omega)).mpr (by omega))]
    show bd (Option.bind (f_X1_actTo_b11 (c + 1) (nI k) (nI (dp z.2.2 t) - 1) (nI t) σ) _) _ = _
    rw [hB]
    rfl
/-- the reference's first act that leads nearer -/
theorem inner6f (hN : 1000 ≤ N) {z : BZ} {t d : Nat} {x4 x9 : Int32} (hz : z.1 ≤ 580) (tr : TreeOK z.1 z.2.2 (ldz n F z)) (fo : FarOK z.1 (ldz n F z) Tl f) (hb : ∀ i d, i < z.1 → f i = some d → d ≤ 580) (ht : IsT z.1 t Tl) (h1 : FZ n F z τ) (h2 : V12 z.1 f τ) (hd : d < dp z.2.2 t) : lpF (fun w => f_X6_fewest_b176 N x4 (nI (an z.2.2 t (d + 1))) w x9 τ) N (0 : Int32) = some (nI (z.2.2 (an z.2.2 t d) % 28)) := by
  obtain ⟨a1, a2⟩ := an_dp tr ht.1 d (by omega)
  obtain ⟨b1, b2_⟩ := an_dp tr ht.1 (d + 1) hd
  have a3 := an_1 tr ht.1 hd
  have eL := (tr.2.2.1 _ a3 a1).2
  have eF := far_an tr fo ht d (by omega)
  have eU := far_an tr fo ht (d + 1) hd
  have hf := an_first tr fo ht hd
  have hle := hb _ _ b1 eU
  have eu : z.2.2 (an z.2.2 t d) / 28 = an z.2.2 t (d + 1) := rfl
  generalize an z.2.2 t (d + 1) = u at *
  generalize an z.2.2 t d = v at *
  have key := lp_for (fun w => f_X6_fewest_b176 N x4 (nI u) w x9 τ) (fun a => nI a) (nI (z.2.2 v % 28)) (z.2.2 v % 28) 0 (fun a _ ha => ?_) ?_ N (by omega)
  · exact key
  · have ha : a < z.2.2 v % 28 := by omega
    have ek : ((28 : Int32) * nI u) + nI a = nI (28 * u + a) := by rw [show (28 : Int32) = nI 28 from rfl, pk_mul, nI_add]
    show f_X6_fewest_b176 N x4 (nI u) (nI a) x9 τ = _
    unfold f_X6_fewest_b176 f_X6_fewest_j224
    rw [ek, ck_nI (by omega) (by omega), gd_t, nI_clamp (by omega), h1.2 (28 * u + a) (by omega)]
    cases hl : ldz n F z (28 * u + a) with
    | none => rw [if_pos (show o9 none = (-9 : Int32) from rfl), nm_v, nI_1]
    | some j =>
      have hj := (tr.2.2.2.2 _ j (by omega) hl).1
      have hne := hf (28 * u + a) (by omega) (by omega) j hl
      have hoe : o9 (f j) = nI d ↔ f j = some d := o9_eq (fun e he => by have := hb j e hj he; omega) (by omega)
      rw [show o9 (some j) = nI j from rfl, if_neg (nI_neg9 (by omega)), gd_t, ck_nI (by omega) (by omega), gd_t, ck_nI (by omega) (by omega), gd_t, nI_clamp (by omega), nI_clamp (by omega), h2 j hj, h2 u b1, eU, show o9 (some (d + 1)) - (1 : Int32) = nI d from pk_sub (a := d + 1) (b := 1) (by omega), if_neg (fun w => hne (hoe.mp w)), nm_v, nI_1]
  · rw [Nat.zero_add]
    have ek : ((28 : Int32) * nI u) + nI (z.2.2 v % 28) = nI (z.2.2 v) := by rw [show (28 : Int32) = nI 28 from rfl, pk_mul, nI_add, show 28 * u + z.2.2 v % 28 = z.2.2 v by omega]
    show f_X6_fewest_b176 N x4 (nI u) (nI (z.2.2 v % 28)) x9 τ = _
    unfold f_X6_fewest_b176
    rw [ek, ck_nI (by omega) (by omega), gd_t, nI_clamp (by omega), h1.2 (z.2.2 v) (by omega), eL, show o9 (some v) = nI v from rfl, if_neg (nI_neg9 (by omega)), gd_t, ck_nI (by omega) (by omega), gd_t, ck_nI (by omega) (by omega), gd_t, nI_clamp (by omega), nI_clamp (by omega), h2 v a1, h2 u b1, eU, eF, show o9 (some (d + 1)) - (1 : Int32) = nI d from pk_sub (a := d + 1) (b := 1) (by omega), if_pos (show o9 (some d) = nI d from rfl)]
theorem walk6 (hN : 1000 ≤ N) {z : BZ} {t k : Nat} (hz : z.1 ≤ 580) (hk6 : k < 60) (tr : TreeOK z.1 z.2.2 (ldz n F z)) (fo : FarOK z.1 (ldz n F z) Tl f) (hb : ∀ i d, i < z.1 → f i = some d → d ≤ 580) (ht : IsT z.1 t Tl) (h1 : FZ n F z τ) (h2 : V12 z.1 f τ) (hk : k < dp z.2.2 t) : lpF (fun w => f_X6_fewest_b166 N (nI k) w.1 w.2.1 w.2.2 τ) N ((0 : Int32), (0 : Int32), (0 : Int32)) = some (nI (z.2.2 (an z.2.2 t (dp z.2.2 t - 1 - k)) % 28)) := by
  have key := lp_for (fun w => f_X6_fewest_b166 N (nI k) w.1 w.2.1 w.2.2 τ) (fun p => (nI (an z.2.2 t (dp z.2.2 t - p)), (if p = 0 then 0 else nI (z.2.2 (an z.2.2 t (dp z.2.2 t - p)) % 28)), nI p)) (nI (z.2.2 (an z.2.2 t (dp z.2.2 t - (k + 1))) % 28)) (k + 1) 0 (fun p _ hp => ?_) ?_ N (by omega)
  · have e0 : an z.2.2 t (dp z.2.2 t - 0) = 0 := an_end tr ht.1
    have key : lpF (fun w => f_X6_fewest_b166 N (nI k) w.1 w.2.1 w.2.2 τ) N (nI (an z.2.2 t (dp z.2.2 t - 0)), (0 : Int32), nI 0) = _ := key
    rw [e0] at key
    rw [show dp z.2.2 t - 1 - k = dp z.2.2 t - (k + 1) by omega]
    exact key
  · have hp : p < k + 1 := by omega
    obtain ⟨d, hd⟩ : ∃ d, d = dp z.2.2 t - (p + 1) := ⟨_, rfl⟩
    have hu : dp z.2.2 t - p = d + 1 := by omega
    obtain ⟨a1, a2⟩ := an_dp tr ht.1 d (by omega)
    obtain ⟨b1, b2_⟩ := an_dp tr ht.1 (d + 1) (by omega)
    have a3 := an_1 tr ht.1 (d := d) (by omega)
    have eL := (tr.2.2.1 _ a3 a1).2
    show f_X6_fewest_b166 N (nI k) (nI (an z.2.2 t (dp z.2.2 t - p))) (if p = 0 then 0 else nI (z.2.2 (an z.2.2 t (dp z.2.2 t - p)) % 28)) (nI p) τ = some (.inl (nI (an z.2.2 t (dp z.2.2 t - (p + 1))), (if p + 1 = 0 then 0 else nI (z.2.2 (an z.2.2 t (dp z.2.2 t - (p + 1))) % 28)), nI (p + 1)))
    rw [← hd, hu]
    unfold f_X6_fewest_b166 f_X6_fewest_j230
    have eu : an z.2.2 t (d + 1) = z.2.2 (an z.2.2 t d) / 28 := rfl
    have ek : ((28 : Int32) * nI (an z.2.2 t (d + 1))) + nI (z.2.2 (an z.2.2 t d) % 28) = nI (z.2.2 (an z.2.2 t d)) := by rw [show (28 : Int32) = nI 28 from rfl, pk_mul, nI_add, eu, show 28 * (z.2.2 (an z.2.2 t d) / 28) + z.2.2 (an z.2.2 t d) % 28 = z.2.2 (an z.2.2 t d) by omega]
    have hkm : z.2.2 (an z.2.2 t d) < 28 * z.1 := by
      rw [eu] at b1
      omega
    rw [if_neg (show ¬ nI k < nI p from fun w => absurd ((nI_ltI (by omega) (by omega)).mp w) (by omega)), inner6f hN hz tr fo hb ht h1 h2 (by omega), bd_s, ek, ck_nI (by omega) (by omega), gd_t, nI_clamp (by omega), h1.2 _ hkm, eL, nm_v, nm_v, nI_1, if_neg (by omega)]
    rfl
  · rw [Nat.zero_add]
    show f_X6_fewest_b166 N (nI k) (nI (an z.2.2 t (dp z.2.2 t - (k + 1)))) (if k + 1 = 0 then 0 else nI (z.2.2 (an z.2.2 t (dp z.2.2 t - (k + 1))) % 28)) (nI (k + 1)) τ = _
    unfold f_X6_fewest_b166
    rw [if_pos ((nI_ltI (by omega) (by omega)).mpr (by omega)), if_neg (by omega)]
/-- all told places are places, or both say no -/
theorem allN (hN : 100 ≤ N) (hn : n ≤ 4) (e6 : τ.1 0 2 = nI n) {k z a : Nat} {v4 : Int32} (hk : k < 4) (hz : z ≤ 60) (hab : a + n ≤ z) (e5 : σ.1 5 k = nI z) (hc : ∀ j, j < 60 → σ.1 (12 + k) j = τ.1 3 (60 * k + j)) :
    (f_X2_isWithin N k (nI a) (nI n) 0 (nI n) σ = some 0 ∧ lpF (fun w => f_X6_fewest_b81 N v4 (nI (60 * k + a)) w τ) N (0 : Int32) = some (.inl (-2, τ))) ∨ (f_X2_isWithin N k (nI a) (nI n) 0 (nI n) σ = some 1 ∧ lpF (fun w => f_X6_fewest_b81 N v4 (nI (60 * k + a)) w τ) N (0 : Int32) = some (.inr ()) ∧ ∃ x : Nat → Nat, ∀ j, j < n → x j ≤ n ∧ τ.1 3 (60 * k + (a + j)) = nI (x j)) := by
  have key := lp_two (fun w => f_X2_isWithin_b3 N k (nI a) (nI n) 0 (nI n) w σ) (fun w => f_X6_fewest_b81 N v4 (nI (60 * k + a)) w τ)
    (fun o p => (o = .inl 0 ∧ p = .inl (-2, τ)) ∨ (o = .inr () ∧ p = .inr () ∧ ∀ j, j < n → ∃ y, y ≤ n ∧ σ.1 (12 + k) (a + j) = nI y)) n
    (fun i u w => u = nI i ∧ w = nI i ∧ ∀ j, j < i → ∃ y, y ≤ n ∧ σ.1 (12 + k) (a + j) = nI y)
    (fun i u w hi hr => ?_) (fun u w hr => ?_) n 0 (nI 0) (nI 0) (by omega) ⟨rfl, rfl, fun j hj => absurd hj (by omega)⟩ N N (by omega) (by omega)
  · obtain ⟨o, p, k1, k2, k3⟩ := key
    unfold f_X2_isWithin
    have k1 : lpF (fun w => f_X2_isWithin_b3 N k (nI a) (nI n) 0 (nI n) w σ) N (0 : Int32) = some o := k1
    have k2 : lpF (fun w => f_X6_fewest_b81 N v4 (nI (60 * k + a)) w τ) N (0 : Int32) = some p := k2
    rw [k1, k2, bd_s]
    rcases k3 with ⟨rfl, rfl⟩ | ⟨rfl, rfl, h⟩
    · exact Or.inl ⟨rfl, rfl⟩
    · refine Or.inr ⟨rfl, rfl, fun j => (σ.1 (12 + k) (a + j)).toNatClampNeg, fun j hj => ?_⟩
      obtain ⟨y, y1, y2⟩ := h j hj
      show (σ.1 (12 + k) (a + j)).toNatClampNeg ≤ n ∧ τ.1 3 (60 * k + (a + j)) = nI ((σ.1 (12 + k) (a + j)).toNatClampNeg)
      rw [← hc (a + j) (by omega), y2, nI_clamp (by omega)]
      exact ⟨y1, rfl⟩
  · obtain ⟨rfl, rfl, r3⟩ := hr
    have en : nI n = nI (n + 1) - 1 := (pk_sub (a := n + 1) (b := 1) (by omega)).symm
    have hB5 : f_X2_isWithin_b3 N k (nI a) (nI n) 0 (nI n) (nI i) σ = (if σ.1 (12 + k) (a + i) < 0 then some (.inr (.inl 0)) else if σ.1 (12 + k) (a + i) ≤ nI n then some (.inl (nI (i + 1))) else some (.inr (.inl 0))) := by
      unfold f_X2_isWithin_b3
      rw [if_neg (nI_ge hi (by omega)), nI_add, at5 hz e5 (by omega), bd_s, nm_v, nI_1]
    have hB6 : f_X6_fewest_b81 N v4 (nI (60 * k + a)) (nI i) τ = bd (f_X6_within (σ.1 (12 + k) (a + i)) 0 (nI n)) fun r => if r = 0 then some (.inr (.inl (-2, τ))) else some (.inl (nI (i + 1))) := by
      unfold f_X6_fewest_b81
      rw [e6, if_neg (nI_ge hi (by omega)), nI_add, ck_nI (by omega) (by omega), gd_t, nI_clamp (by omega), Nat.add_assoc, ← hc (a + i) (by omega), nI_1]
      rfl
    show (∃ s' t', f_X2_isWithin_b3 N k (nI a) (nI n) 0 (nI n) (nI i) σ = some (.inl s') ∧ f_X6_fewest_b81 N v4 (nI (60 * k + a)) (nI i) τ = some (.inl t') ∧ _) ∨ ∃ o p, f_X2_isWithin_b3 N k (nI a) (nI n) 0 (nI n) (nI i) σ = some (.inr o) ∧ f_X6_fewest_b81 N v4 (nI (60 * k + a)) (nI i) τ = some (.inr p) ∧ _
    rw [hB5, hB6]
    rcases wi1 (z := n + 1) (by omega) (σ.1 (12 + k) (a + i)) with ⟨h1, h2⟩ | ⟨y, hy, h2, h1⟩
    · rw [← en] at h1
      rw [h1]
      refine Or.inr ⟨.inl 0, .inl (-2, τ), ?_, rfl, Or.inl ⟨rfl, rfl⟩⟩
      rcases h2 with h2 | h2
      · rw [if_pos h2]
      · have h27 : ¬ σ.1 (12 + k) (a + i) ≤ nI n := fun q => absurd (Int32.le_trans h2 q) (nI_ge (by omega) (by omega))
        rw [if_neg h27]
        split <;> rfl
    · rw [← en] at h1
      rw [h1, h2, if_neg (nI_pos (by omega)), if_pos (nI_le (by omega) (by omega))]
      refine Or.inl ⟨_, _, rfl, rfl, rfl, rfl, fun j hj => ?_⟩
      by_cases q : j = i
      · subst q; exact ⟨y, by omega, h2⟩
      · exact r3 j (by omega)
  · obtain ⟨rfl, rfl, r3⟩ := hr
    refine ⟨.inr (), .inr (), ?_, ?_, Or.inr ⟨rfl, rfl, r3⟩⟩
    · show f_X2_isWithin_b3 N k (nI a) (nI n) 0 (nI n) (nI n) σ = _
      unfold f_X2_isWithin_b3
      rw [if_pos (Int32.le_refl _)]
    · show f_X6_fewest_b81 N v4 (nI (60 * k + a)) (nI n) τ = _
      unfold f_X6_fewest_b81
      rw [e6, if_pos (Int32.le_refl _)]
theorem lt59 {v : Int32} (h : ¬ v < 60) : (59 : Int32) < v := by
  rw [Int32.lt_iff_toInt_lt] at h ⊢
  have a : (60 : Int32).toInt = 60 := by decide
  have b : (59 : Int32).toInt = 59 := by decide
  omega
theorem nlt59 {v : Int32} (h : v < 60) : ¬ (59 : Int32) < v := by
  rw [Int32.lt_iff_toInt_lt] at h ⊢
  have a : (60 : Int32).toInt = 60 := by decide
  have b : (59 : Int32).toInt = 59 := by decide
  omega
theorem m1or {v : Int32} (h1 : ¬ v < -1) (h2 : v < 60) : v = -1 ∨ ∃ k, k < 60 ∧ v = nI k := by
  rcases pk_ix v (n := 60) (by omega) with h | h | h
  · left
    apply Int32.toInt_inj.mp
    rw [Int32.lt_iff_toInt_lt] at h h1
    have a : (-1 : Int32).toInt = -1 := by decide
    have b : (0 : Int32).toInt = 0 := by decide
    omega
  · exact absurd (Int32.lt_of_lt_of_le h2 h) (fun w => Int32.lt_irrefl w)
  · exact Or.inr h
theorem s_fewest (hN : 17000 ≤ N) : S_fewest N (RR CC) := by
  intro v1 v2 v3 v4 σ τ h
  obtain ⟨n, s, K, G, M, hA0⟩ := h
  have hA := hA0.fault 0
  have hR := hA.toR
  unfold f_X5_fewest f_X6_fewest
  simp only [nm_v]
  generalize wS σ 0 5 0 = σ at hA hR ⊢
  generalize wS τ 0 0 0 = τ at hA hR ⊢
  have hn := hA.1.1
  obtain ⟨hv, t1, -⟩ := hA.2.1
  have e5 := hA.1.2.1
  have e6 := hA.1.2.2.1
  rw [e5, e6]
  by_cases q0 : nI n = 0
  · rw [if_pos q0, if_pos q0]; exact ⟨_, _, _, rfl, rfl, hR⟩
  rw [if_neg q0, if_neg q0]
  rcases isS v1 with ⟨h1, h2⟩ | ⟨k, hk, rfl, h1, h2⟩
  · rw [h1, h2]; exact ⟨_, _, _, rfl, rfl, hR⟩
  rw [h1, h2, bd_s, bd_s, i10, i10]
  rcases isLn v2 with ⟨h3, h4⟩ | ⟨l0, hl0, rfl, h3, h4⟩
  · rw [h3, h4]; exact ⟨_, _, _, rfl, rfl, hR⟩
  rw [h3, h4, bd_s, bd_s, i10, i10]
  by_cases q1 : v4 < -1
  · rw [if_pos q1, wi_lo q1]; exact ⟨_, _, _, rfl, rfl, hR⟩
  rw [if_neg q1]
  by_cases q2 : v4 < 60
  case neg => rw [if_neg q2, wi_hi (lt59 q2)]; exact ⟨_, _, _, rfl, rfl, hR⟩
  rw [if_pos q2, wi_in q1 (nlt59 q2), bd_s, i10]
  obtain ⟨c1, c2⟩ := ik hk
  rw [c1, gd_t, c2]
  obtain ⟨f, f1, f2, f3⟩ := flt hA hk (nI l0) v3 (nI n)
  rw [f1, f2, bd_s, bd_s]
  by_cases f0 : f = 0
  · obtain ⟨ln, z0, a, b, l1, l2, l3, l4, rfl, eb, ⟨y1, y2⟩, -, y5⟩ := f3 f0
    have eb := nI_inj (by omega) (by omega) eb
    subst eb
    rw [if_pos f0, if_pos f0, gd_t, show ((60 : Int32) * nI k) + nI a = nI (60 * k + a) from by rw [show (60 : Int32) = nI 60 from rfl, pk_mul, nI_add]]
    rcases allN (N := N) (v4 := v4) (by omega) hn e6 hk l2 l3 y2 y5 with ⟨g1, g2⟩ | ⟨g1, g2, x, gx⟩
    · rw [g1, g2]; exact ⟨_, _, _, rfl, rfl, hR⟩
    rw [g1, g2, bd_s, bd_s, i10]
    show ∃ r σ' τ', _ ∧ f_X6_fewest_j120 N v4 (nI (60 * k + a)) τ = some (r, τ') ∧ RR CC σ' τ'
    unfold f_X6_fewest_j120 f_X6_fewest_j251
    rw [fitting5 (by omega) hA, bd_s, t1]
    have hx4 : ∀ d, d < n → x d ≤ 4 := fun d hd => by have := (gx d hd).1; omega
    obtain ⟨σ', T, g3, g4, hT, g5, g6⟩ := go5 (N := N) (by omega) hA (fo (fP K G M) n n)
    obtain ⟨τ1, p1, p2, p3, p4⟩ := findN6 (F := fo (fP K G M) n n) hN g4 (cdo_F hn) hT
    have tr := treeZ (F := fo (fP K G M) n n) hn hv hT
    have hl := bz_len (F := fo (fP K G M) n n) hn hv T
    obtain ⟨ok1, ok2, -⟩ := bz_ok (F := fo (fP K G M) n n) hn hv T
    generalize hFF : fo (fP K G M) n n = FF at *
    generalize bzs n FF s T = z at *
    obtain ⟨f', j1, j2, j3⟩ := flt g4 hk (nI l0) (nI a) (nI n)
    have j4 : f' = 0 := by
      rw [f2] at j2
      injection j2 with j2
      rw [← j2, f0]
    obtain ⟨ln', z0', a', b', o1, o2, o3, o4, ea, eb, ⟨y1', y2'⟩, -, y5'⟩ := j3 j4
    have eb := nI_inj (by omega) (by omega) eb
    subst eb
    have ea := nI_inj (by omega) (by omega) ea
    subst ea
    have hx5 : ∀ d, d < n → σ'.1 (12 + k) (a + d) = nI (x d) := fun d hd => by rw [y5' (a + d) (by omega)]; exact (gx d hd).2
    have hx3 : ∀ d, d < n → τ1.1 3 (60 * k + a + d) = nI (x d) := by
      intro d hd
      rcases p2.2.2.2.2.1 k hk with ⟨w1, -⟩ | ⟨ln1, z1, m1, m2, -, -, m5⟩
      · rw [y1'] at w1
        exact absurd w1 (nI_neg1 (by omega))
      · rw [Nat.add_assoc, ← m5 (a + d) (by omega)]
        exact hx5 d hd
    obtain ⟨τ2, fa, r1, r2, r3, r4, r5, r6⟩ := findFar6 (N := N) (F := FF) (x := x) hN p2 (z := z) (B := 60 * k + a) hl ok1 (fun k j hk e => (tr.2.2.2.2 k j hk e).1) (by omega) hx3 hx4 ⟨p3, p4⟩
    have hc8 : tcd x n < 65536 := Nat.lt_of_lt_of_le (tcd_lt hx4 n (Nat.le_refl _) hn) (Nat.le_trans (Nat.pow_le_pow_right (by omega) hn) (by decide))
    have h0z : 0 < z.1 := Nat.lt_of_lt_of_le Nat.zero_lt_one tr.1
    rw [g3, bd_s, gd_t, told5 (N := N) (x := x) (by omega) hn o2 o3 g4.1.2.1 y2' hx5 hx4, bd_s, find5 (N := N) (by omega) hl ok1 g5 hc8, bd_s, p1, bd_s, r1, bd_s, show ck (0 : Int32) 1200 = true from rfl, show (0 : Int32).toNatClampNeg = 0 from rfl, r4 0 h0z]
    simp only [gd_t]
    cases hf : fnd z.2.1 (tcd x n) z.1 with
    | none =>
      have hno : ∀ i, i < z.1 → (fun i => tlB n x (z.2.1 i)) i = false := by
        intro i hi
        show tlB n x (z.2.1 i) = false
        cases htl : tlB n x (z.2.1 i) with
        | false => rfl
        | true => exact absurd ((tlB_iff hn hx4 (ok1 i hi)).mp htl) (fnd_n hf hi)
      have e0 : fa 0 = none := by
        cases hff : fa 0 with
        | none => rfl
        | some d => exact absurd hff (far_no r5 (fun k j hk e => (tr.2.2.2.2 k j hk e).1) hno d 0 h0z)
      rw [e0, if_pos (show o9 none = (-9 : Int32) from rfl)]
      by_cases w : v4 = -1
      · rw [if_pos w]; exact ⟨_, _, _, rfl, rfl, r2.toR⟩
      · have w9 : ¬ v4 < o9 none := by
          show ¬ v4 < (-9 : Int32)
          intro w9
          exact q1 (Int32.lt_trans w9 (by decide))
        rw [if_neg w, if_neg w9]; exact ⟨_, _, _, rfl, rfl, r2.toR⟩
    | some t =>
      obtain ⟨w1, w2⟩ := fnd_s hf
      have hIT : IsT z.1 t (fun i => tlB n x (z.2.1 i)) := ⟨w1, (tlB_iff hn hx4 (ok1 t w1)).mpr w2, fun i hi hti => ok2 i t hi w1 (((tlB_iff hn hx4 (ok1 i hi)).mp hti).trans w2.symm)⟩
      have e0 := far_0 tr r5 hIT
      have hdl := dp_le tr t t (Nat.le_refl _) w1
      rw [e0, show o9 (some t) = nI t from rfl, show o9 (some (dp z.2.2 t)) = nI (dp z.2.2 t) from rfl, if_neg (nI_neg9 (by omega)), lengthTo5 (N := N) (by omega) hl w1 tr g5, bd_s]
      rcases m1or q1 q2 with rfl | ⟨k', hk', rfl⟩
      · rw [if_pos rfl, if_pos rfl]; exact ⟨_, _, _, rfl, rfl, r2.toR⟩
      · rw [if_neg (nI_neg1 (by omega)), if_neg (nI_neg1 (by omega)), actTo5 (N := N) (by omega) hl w1 hk' tr g5, bd_s]
        by_cases w : k' < dp z.2.2 t
        · rw [if_pos w, if_pos ((nI_ltI (by omega) (by omega)).mpr w), walk6 (N := N) (by omega) hl hk' tr r5 r6 hIT r3 r4 w, bd_s]
          exact ⟨_, _, _, rfl, rfl, r2.toR⟩
        · rw [if_neg w, if_neg (fun y => w ((nI_ltI (by omega) (by omega)).mp y))]
          exact ⟨_, _, _, rfl, rfl, r2.toR⟩
  · rw [if_neg f0, if_neg f0, come5, fails6]
    exact ⟨_, _, _, rfl, rfl, (hA.fault f).toR⟩
end FewestRows
