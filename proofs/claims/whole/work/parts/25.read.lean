section ReadRows
variable {C : CaT} {N : Nat} {n s : Nat} {K G M : Nat → Nat} {σ τ : St}
/-- two loops side by side -/
theorem lp_two {S T O P : Type} (f : S → Option (S ⊕ O)) (g : T → Option (T ⊕ P)) (Q : O → P → Prop) (n : Nat) (Rel : Nat → S → T → Prop) (hs : ∀ i s t, i < n → Rel i s t → (∃ s' t', f s = some (.inl s') ∧ g t = some (.inl t') ∧ Rel (i + 1) s' t') ∨ ∃ o p, f s = some (.inr o) ∧ g t = some (.inr p) ∧ Q o p) (he : ∀ s t, Rel n s t → ∃ o p, f s = some (.inr o) ∧ g t = some (.inr p) ∧ Q o p) : ∀ (k i : Nat) (s : S) (t : T), i + k = n → Rel i s t → ∀ N N', k < N → k < N' → ∃ o p, lpF f N s = some o ∧ lpF g N' t = some p ∧ Q o p := by
  intro k
  induction k with
  | zero =>
    intro i s t hi hr N N' h1 h2
    obtain ⟨a, rfl⟩ : ∃ a, N = a + 1 := ⟨N - 1, by omega⟩
    obtain ⟨b, rfl⟩ : ∃ b, N' = b + 1 := ⟨N' - 1, by omega⟩
    have hi : i = n := hi
    subst hi
    obtain ⟨o, p, h3, h4, h5⟩ := he s t hr
    exact ⟨o, p, by rw [lp_s, h3]; rfl, by rw [lp_s, h4]; rfl, h5⟩
  | succ k ih =>
    intro i s t hi hr N N' h1 h2
    obtain ⟨a, rfl⟩ : ∃ a, N = a + 1 := ⟨N - 1, by omega⟩
    obtain ⟨b, rfl⟩ : ∃ b, N' = b + 1 := ⟨N' - 1, by omega⟩
    rcases hs i s t (by omega) hr with ⟨s', t', h3, h4, h5⟩ | ⟨o, p, h3, h4, h5⟩
    · obtain ⟨o, p, h6, h7, h8⟩ := ih (i + 1) s' t' (by omega) h5 a b (by omega) (by omega)
      exact ⟨o, p, by rw [lp_s, h3]; exact h6, by rw [lp_s, h4]; exact h7, h8⟩
    · exact ⟨o, p, by rw [lp_s, h3]; rfl, by rw [lp_s, h4]; rfl, h5⟩
/-- dolls as they are asked about: girth and room on their own -/
def WD (n : Nat) (K G M : Nat → Nat) (σ τ : St) : Prop :=
  n ≤ 4 ∧ σ.1 0 0 = nI n ∧ τ.1 0 2 = nI n ∧ (∀ d, d < n → K d ≤ 2 ∧ G d ≤ 9 ∧ M d ≤ 9) ∧
  ∀ d, d < n → (σ.1 1 d = nI (K d) ∧ σ.1 2 d = nI (G d) ∧ σ.1 3 d = nI (M d)) ∧ τ.1 4 d = nI (K d) ∧ τ.1 5 d = nI (G d) ∧ τ.1 6 d = nI (M d)
theorem RDl.wd (h : RDl n K G M σ τ) : WD n K G M σ τ := ⟨h.1, h.2.1, h.2.2.1, fun d hd => by obtain ⟨a, b, c, e⟩ := h.2.2.2.1 d hd; omega, h.2.2.2.2⟩
theorem wd_wide (hA : WD n K G M σ τ) {d : Nat} (h : d < n) : f_X0_wide d σ = some (nI (wid K G d)) ∧ f_X6_wideOf (nI d) τ = some (nI (wid K G d)) ∧ wid K G d ≤ 18 := by
  have h4 := hA.1
  obtain ⟨⟨e1, e2, e3⟩, e4, e5, e6⟩ := hA.2.2.2.2 d h
  obtain ⟨b1, b2, b3⟩ := hA.2.2.2.1 d h
  have c1 : ck (nI d) 4 = true := ck_nI (by omega) (by omega)
  have c2 : (nI d).toNatClampNeg = d := nI_clamp (by omega)
  refine ⟨?_, ?_, ?_⟩
  · unfold f_X0_wide wid
    rw [e1, e2, show (1 : Int32) = nI 1 from rfl, show (2 : Int32) = nI 2 from rfl]
    simp only [nI_eq (a := K d) (b := 1) (by omega) (by omega), nI_eq (a := K d) (b := 2) (by omega) (by omega)]
    split
    · rw [nI_add]
    · split
      · rw [pk_mul]
      · rfl
  · unfold f_X6_wideOf wid
    simp only [c1, c2, gd_t]
    rw [e4, e5, show (0 : Int32) = nI 0 from rfl, show (1 : Int32) = nI 1 from rfl, show (2 : Int32) = nI 2 from rfl]
    simp only [nI_eq (a := K d) (b := 1) (by omega) (by omega), nI_eq (a := K d) (b := 0) (by omega) (by omega)]
    by_cases k0 : K d = 0
    · rw [if_pos k0, if_neg (by omega), if_neg (by omega)]
    · rw [if_neg k0]
      by_cases k1 : K d = 1
      · rw [if_pos k1, if_pos k1, nI_add]
      · rw [if_neg k1, if_neg k1, if_pos (by omega), pk_mul]
  · unfold wid
    split
    · omega
    · split <;> omega
theorem wd_into (hA : WD n K G M σ τ) {a b : Nat} (ha : a < n) (hb : b < n) : f_X0_goesInto a b σ = some (if fitB K G M a b = true then 1 else 0) ∧ f_X6_fitsInto (nI a) (nI b) τ = some (if fitB K G M a b = true then 1 else 0) := by
  have h4 := hA.1
  obtain ⟨⟨e1, e2, e3⟩, e4, e5, e6⟩ := hA.2.2.2.2 b hb
  obtain ⟨b1, b2, b3⟩ := hA.2.2.2.1 b hb
  obtain ⟨w1, w2, w3⟩ := wd_wide hA ha
  have c1 : ck (nI b) 4 = true := ck_nI (by omega) (by omega)
  have c2 : (nI b).toNatClampNeg = b := nI_clamp (by omega)
  have key : (if nI (M b) < nI (wid K G a) then some (0 : Int32) else some 1) = some (if fitB K G M a b = true then 1 else 0) := by
    unfold fitB
    simp only [nI_ltI (a := M b) (b := wid K G a) (by omega) (by omega), decide_eq_true_eq]
    by_cases q : M b < wid K G a
    · rw [if_pos q, if_neg (by omega)]
    · rw [if_neg q, if_pos (by omega)]
  constructor
  · unfold f_X0_goesInto
    rw [w1, bd_s, e3]
    exact key
  · unfold f_X6_fitsInto
    rw [w2, bd_s, c1, gd_t, c2, e6]
    exact key
theorem wd_two (hA : WD n K G M σ τ) {a b : Nat} (ha : a < n) (hb : b < n) (hne : a ≠ b) : f_X5_areTwo (nI a) (nI b) σ = some 1 := by
  have h4 := hA.1
  unfold f_X5_areTwo f_X5_isDoll
  rw [hA.2.1, if_neg (nI_pos (by omega)), if_neg (nI_ge ha (by omega)), bd_s, i10, if_neg (nI_pos (by omega)), if_neg (nI_ge hb (by omega)), bd_s, i10, if_neg (fun q => hne (nI_inj (by omega) (by omega) q))]
theorem so (hN : 100 ≤ N) (hA : WD n K G M σ τ) (hr : RRd n σ τ) : ∃ r : Int32, (r = 0 ∨ r = 1) ∧ f_X5_readingsAreSo N σ = some r ∧ f_X6_areSo N τ = some r := by
  have h4 := hA.1
  obtain ⟨q, hq, e1, e2, e3⟩ := hr
  have key := lp_two (fun s => f_X5_readingsAreSo_b2 N s σ) (fun s => f_X6_areSo_b2 N s τ) (fun o p => (o = .inl 0 ∧ p = .inl 0) ∨ (o = .inr () ∧ p = .inr ())) q (fun i s t => s = nI i ∧ t = nI i) ?_ ?_ q 0 0 0 (by omega) ⟨rfl, rfl⟩ N N (by omega) (by omega)
  · obtain ⟨o, p, h1, h2, h3⟩ := key
    unfold f_X5_readingsAreSo f_X6_areSo
    rw [h1, h2]
    rcases h3 with ⟨rfl, rfl⟩ | ⟨rfl, rfl⟩
    · exact ⟨0, Or.inl rfl, rfl, rfl⟩
    · exact ⟨1, Or.inr rfl, rfl, rfl⟩
  · rintro i s t hi ⟨rfl, rfl⟩
    obtain ⟨a, b, f, ha, hb, hne, hf, ⟨x1, x2, x3⟩, y1, y2, y3⟩ := e3 i hi
    obtain ⟨w1, w2⟩ := wd_into hA ha hb
    have c0 : ck (nI i) 8 = true := ck_nI (by omega) (by omega)
    have c0' : (nI i).toNatClampNeg = i := nI_clamp (by omega)
    have c1 : ck (nI a) 4 = true := ck_nI (by omega) (by omega)
    have c2 : (nI a).toNatClampNeg = a := nI_clamp (by omega)
    have c3 : ck (nI b) 4 = true := ck_nI (by omega) (by omega)
    have c4 : (nI b).toNatClampNeg = b := nI_clamp (by omega)
    have a1 : ¬ nI q ≤ nI i := nI_ge hi (by omega)
    have a2 : ¬ (8 : Int32) ≤ nI i := nI_ge (a := i) (b := 8) (by omega) (by omega)
    have g5 : f_X5_readingsAreSo_b2 N (nI i) σ = if (if fitB K G M a b = true then (1 : Int32) else 0) = nI f then some (.inl (nI (i + 1))) else some (.inr (.inl 0)) := by
      unfold f_X5_readingsAreSo_b2 f_X5_readingsAreSo_j65
      simp only [e1, if_neg a1, if_neg a2, c0, c0', gd_t, bd_s, bd2_s, nm_v, i00, i10, i01, i11, ii00, ii10, x1, x2, x3, wd_two hA ha hb hne, c1, c2, c3, c4, w1, nI_1]
    have g6 : f_X6_areSo_b2 N (nI i) τ = if (if fitB K G M a b = true then (1 : Int32) else 0) = nI f then some (.inl (nI (i + 1))) else some (.inr (.inl 0)) := by
      unfold f_X6_areSo_b2 f_X6_areSo_j41
      simp only [e2, if_neg a1, c0, c0', gd_t, bd_s, bd2_s, nm_v, i00, i10, i01, i11, ii00, ii10, y1, y2, y3, w2, nI_1]
      rcases (show f = 0 ∨ f = 1 by omega) with rfl | rfl
      · rw [if_neg (show ¬ nI 0 = (1 : Int32) by decide)]; rfl
      · rw [if_pos (show nI 1 = (1 : Int32) by decide)]; rfl
    show (∃ s' t', f_X5_readingsAreSo_b2 N (nI i) σ = some (.inl s') ∧ f_X6_areSo_b2 N (nI i) τ = some (.inl t') ∧ _) ∨ ∃ o p, f_X5_readingsAreSo_b2 N (nI i) σ = some (.inr o) ∧ f_X6_areSo_b2 N (nI i) τ = some (.inr p) ∧ _
    rw [g5, g6]
    by_cases qq : (if fitB K G M a b = true then (1 : Int32) else 0) = nI f
    · rw [if_pos qq]
      exact Or.inl ⟨_, _, rfl, rfl, rfl, rfl⟩
    · rw [if_neg qq]
      exact Or.inr ⟨_, _, rfl, rfl, Or.inl ⟨rfl, rfl⟩⟩
  · rintro s t ⟨rfl, rfl⟩
    refine ⟨.inr (), .inr (), ?_, ?_, Or.inr ⟨rfl, rfl⟩⟩
    · show f_X5_readingsAreSo_b2 N (nI q) σ = _
      unfold f_X5_readingsAreSo_b2
      rw [e1, if_pos (Int32.le_refl _)]
    · show f_X6_areSo_b2 N (nI q) τ = _
      unfold f_X6_areSo_b2
      rw [e2, if_pos (Int32.le_refl _)]
theorem wS_id (σ : St) (g j : Nat) : wS σ g j (σ.1 g j) = σ := by
  obtain ⟨s1, s2⟩ := σ
  show (va_up s1 g (upd (s1 g) j (s1 g j)), s2) = (s1, s2)
  congr 1
  funext x
  by_cases h : x = g
  · subst h
    rw [va_up_self]
    funext y
    by_cases h2 : y = j
    · rw [h2, upd_0]
    · rw [upd_n _ _ h2]
  · rw [va_up_ne _ _ h]
theorem wS_wS (σ : St) (g j : Nat) (v w : Int32) : wS (wS σ g j v) g j w = wS σ g j w := by
  show (va_up (va_up σ.1 g (upd (σ.1 g) j v)) g (upd (va_up σ.1 g (upd (σ.1 g) j v) g) j w), σ.2) = (va_up σ.1 g (upd (σ.1 g) j w), σ.2)
  rw [va_up_self]
  congr 1
  funext x
  by_cases h : x = g
  · subst h
    rw [va_up_self, va_up_self]
    funext y
    by_cases h2 : y = j
    · rw [h2, upd_0, upd_0]
    · rw [upd_n _ _ h2, upd_n _ _ h2, upd_n _ _ h2]
  · rw [va_up_ne _ _ h, va_up_ne _ _ h, va_up_ne _ _ h]
theorem sh0 : ∀ v, v < 10 → (0 : Int32) <<< (nI v &&& 31) = 0 := by decide

theorem wd_girths (hA : WD n K G M σ τ) {d w : Nat} (hw : w ≤ 9) : WD n K (va_up G d w) M (wS σ 2 d (nI w)) (wS τ 5 d (nI w)) := by
  obtain ⟨a1, a2, a3, a4, a5⟩ := hA
  refine ⟨a1, a2, a3, fun x hx => ?_, fun x hx => ?_⟩
  · have := a4 x hx
    by_cases q : x = d
    · subst q; rw [va_up_self]; omega
    · rw [va_up_ne _ _ q]; exact this
  · obtain ⟨⟨p1, p2, p3⟩, p4, p5, p6⟩ := a5 x hx
    refine ⟨⟨p1, ?_, p3⟩, p4, ?_, p6⟩
    · rw [wS_0]
      by_cases q : x = d
      · subst q; rw [upd_0, va_up_self]
      · rw [upd_n _ _ q, va_up_ne _ _ q]; exact p2
    · rw [wS_0]
      by_cases q : x = d
      · subst q; rw [upd_0, va_up_self]
      · rw [upd_n _ _ q, va_up_ne _ _ q]; exact p5
theorem s_girths (hN : 100 ≤ N) : S_girths N (RR C) := by
  intro v1 σ τ h
  have hR := h
  obtain ⟨n, s, K, G, M, hA⟩ := h
  unfold f_X5_girths f_X6_girths
  rcases isD hA v1 with ⟨h1, h2⟩ | ⟨d, hd, rfl⟩
  · rw [h1, h2]; exact ⟨_, _, _, rfl, rfl, hR⟩
  · obtain ⟨⟨c1, c2⟩, ⟨e1, e2, e3⟩, e4, e5, e6⟩ := dv hA hd
    obtain ⟨b1, b2, b3, b4⟩ := db hA hd
    rw [d5_in hA hd, d6_in hA hd]
    simp only [gd_t, bd_s, bd2_s, nm_v, i00, i10, i01, i11, ii00, ii10, c1, c2, e2, e5]
    have key := lp_two (fun s => f_X5_girths_b25 N (nI d) (nI (G d)) s.1 s.2.1 s.2.2) (fun s => f_X6_girths_b22 N (nI d) (nI (G d)) s.1 s.2.1 s.2.2) (fun o p => o.1 = p.1 ∧ ∃ w, o.2 = wS σ 2 d (nI w) ∧ p.2 = wS τ 5 d (nI w)) 9 (fun i s t => s.1 = t.1 ∧ s.2.1 = nI (i + 1) ∧ t.2.1 = nI (i + 1) ∧ ∃ w, s.2.2 = wS σ 2 d (nI w) ∧ t.2.2 = wS τ 5 d (nI w)) ?_ ?_ 9 0 (0, 1, σ) (0, 1, τ) (by omega) ⟨rfl, rfl, rfl, G d, ?_, ?_⟩ N N (by omega) (by omega)
    · obtain ⟨⟨o1, o2⟩, ⟨p1, p2⟩, h1, h2, h3, w, h4, h5⟩ := key
      dsimp only at h3 h4 h5
      subst h3 h4 h5
      rw [h1, h2]
      simp only [gd_t, bd_s, bd2_s, nm_v, i00, i10, i01, i11, ii00, ii10, f_X5_girths_j62, f_X6_girths_j61, c1, c2, wS_wS]
      refine ⟨_, _, _, rfl, rfl, ?_⟩
      have z1 : wS σ 2 d (nI (G d)) = σ := by rw [← e2]; exact wS_id _ _ _
      have z2 : wS τ 5 d (nI (G d)) = τ := by rw [← e5]; exact wS_id _ _ _
      rw [z1, z2]
      exact hR
    · rintro i ⟨s1, s2, s3⟩ ⟨t1, t2, t3⟩ hi ⟨r1, r2, r3, w, r4, r5⟩
      dsimp only at r1 r2 r3 r4 r5
      subst r1 r2 r3 r4 r5
      left
      dsimp only
      unfold f_X5_girths_b25 f_X6_girths_b22 f_X6_girths_j53
      have a1 : ¬ (9 : Int32) < nI (i + 1) := nI_nlt (a := 9) (b := i + 1) (by omega) (by omega)
      have a2 : ¬ (9 : Int32) < nI (i + 1) := nI_nlt (a := 9) (b := i + 1) (by omega) (by omega)
      have hw : WD n _ _ _ (wS σ 2 d (nI (i + 1))) (wS τ 5 d (nI (i + 1))) := wd_girths hA.1.wd (by omega)
      obtain ⟨r, hr, g1, g2⟩ := so hN hw (hA.2.2.2.1.of)
      simp only [if_neg a1, if_neg a2, c1, c2, gd_t, bd_s, bd2_s, nm_v, i00, i10, i01, i11, ii00, ii10, wS_wS, g1, g2, f_X5_oneIf]
      rw [show nI (i + 1) + (1 : Int32) = nI (i + 1 + 1) by rw [nI_1]]
      rcases hr with rfl | rfl
      · simp only [gd_t, bd_s, bd2_s, nm_v, i00, i10, i01, i11, ii00, ii10]
        exact ⟨_, _, rfl, rfl, congrArg (fun y => s1 ||| y) (sh0 (i + 1) (by omega)), rfl, rfl, _, rfl, rfl⟩
      · simp only [gd_t, bd_s, bd2_s, nm_v, i00, i10, i01, i11, ii00, ii10]
        exact ⟨_, _, rfl, rfl, rfl, rfl, rfl, _, rfl, rfl⟩
    · rintro ⟨s1, s2, s3⟩ ⟨t1, t2, t3⟩ ⟨r1, r2, r3, w, r4, r5⟩
      dsimp only at r1 r2 r3 r4 r5
      subst r1 r2 r3 r4 r5
      dsimp only
      refine ⟨(s1, wS σ 2 d (nI w)), (s1, wS τ 5 d (nI w)), ?_, ?_, rfl, w, rfl, rfl⟩
      · unfold f_X5_girths_b25
        rw [if_pos (by decide)]
      · unfold f_X6_girths_b22
        rw [if_pos (by decide)]
    · show σ = wS σ 2 d (nI (G d))
      rw [← e2]; exact (wS_id _ _ _).symm
    · show τ = wS τ 5 d (nI (G d))
      rw [← e5]; exact (wS_id _ _ _).symm

theorem wd_rooms (hA : WD n K G M σ τ) {d w : Nat} (hw : w ≤ 9) : WD n K G (va_up M d w) (wS σ 3 d (nI w)) (wS τ 6 d (nI w)) := by
  obtain ⟨a1, a2, a3, a4, a5⟩ := hA
  refine ⟨a1, a2, a3, fun x hx => ?_, fun x hx => ?_⟩
  · have := a4 x hx
    by_cases q : x = d
    · subst q; rw [va_up_self]; omega
    · rw [va_up_ne _ _ q]; exact this
  · obtain ⟨⟨p1, p2, p3⟩, p4, p5, p6⟩ := a5 x hx
    refine ⟨⟨p1, p2, ?_⟩, p4, p5, ?_⟩
    · rw [wS_0]
      by_cases q : x = d
      · subst q; rw [upd_0, va_up_self]
      · rw [upd_n _ _ q, va_up_ne _ _ q]; exact p3
    · rw [wS_0]
      by_cases q : x = d
      · subst q; rw [upd_0, va_up_self]
      · rw [upd_n _ _ q, va_up_ne _ _ q]; exact p6
theorem s_rooms (hN : 100 ≤ N) : S_rooms N (RR C) := by
  intro v1 σ τ h
  have hR := h
  obtain ⟨n, s, K, G, M, hA⟩ := h
  unfold f_X5_rooms f_X6_rooms
  rcases isD hA v1 with ⟨h1, h2⟩ | ⟨d, hd, rfl⟩
  · rw [h1, h2]; exact ⟨_, _, _, rfl, rfl, hR⟩
  · obtain ⟨⟨c1, c2⟩, ⟨e1, e2, e3⟩, e4, e5, e6⟩ := dv hA hd
    obtain ⟨b1, b2, b3, b4⟩ := db hA hd
    rw [d5_in hA hd, d6_in hA hd]
    simp only [gd_t, bd_s, bd2_s, nm_v, i00, i10, i01, i11, ii00, ii10, c1, c2, e3, e6]
    have key := lp_two (fun s => f_X5_rooms_b25 N (nI d) (nI (M d)) s.1 s.2.1 s.2.2) (fun s => f_X6_rooms_b22 N (nI d) (nI (M d)) s.1 s.2.1 s.2.2) (fun o p => o.1 = p.1 ∧ ∃ w, o.2 = wS σ 3 d (nI w) ∧ p.2 = wS τ 6 d (nI w)) 10 (fun i s t => s.1 = t.1 ∧ s.2.1 = nI (i + 0) ∧ t.2.1 = nI (i + 0) ∧ ∃ w, s.2.2 = wS σ 3 d (nI w) ∧ t.2.2 = wS τ 6 d (nI w)) ?_ ?_ 10 0 (0, 0, σ) (0, 0, τ) (by omega) ⟨rfl, rfl, rfl, M d, ?_, ?_⟩ N N (by omega) (by omega)
    · obtain ⟨⟨o1, o2⟩, ⟨p1, p2⟩, h1, h2, h3, w, h4, h5⟩ := key
      dsimp only at h3 h4 h5
      subst h3 h4 h5
      rw [h1, h2]
      simp only [gd_t, bd_s, bd2_s, nm_v, i00, i10, i01, i11, ii00, ii10, f_X5_rooms_j62, f_X6_rooms_j61, c1, c2, wS_wS]
      refine ⟨_, _, _, rfl, rfl, ?_⟩
      have z1 : wS σ 3 d (nI (M d)) = σ := by rw [← e3]; exact wS_id _ _ _
      have z2 : wS τ 6 d (nI (M d)) = τ := by rw [← e6]; exact wS_id _ _ _
      rw [z1, z2]
      exact hR
    · rintro i ⟨s1, s2, s3⟩ ⟨t1, t2, t3⟩ hi ⟨r1, r2, r3, w, r4, r5⟩
      dsimp only at r1 r2 r3 r4 r5
      subst r1 r2 r3 r4 r5
      left
      dsimp only
      unfold f_X5_rooms_b25 f_X6_rooms_b22 f_X6_rooms_j53
      have a1 : ¬ (9 : Int32) < nI (i + 0) := nI_nlt (a := 9) (b := i + 0) (by omega) (by omega)
      have a2 : ¬ (9 : Int32) < nI (i + 0) := nI_nlt (a := 9) (b := i + 0) (by omega) (by omega)
      have hw : WD n _ _ _ (wS σ 3 d (nI (i + 0))) (wS τ 6 d (nI (i + 0))) := wd_rooms hA.1.wd (by omega)
      obtain ⟨r, hr, g1, g2⟩ := so hN hw (hA.2.2.2.1.of)
      simp only [if_neg a1, if_neg a2, c1, c2, gd_t, bd_s, bd2_s, nm_v, i00, i10, i01, i11, ii00, ii10, wS_wS, g1, g2, f_X5_oneIf]
      rw [show nI (i + 0) + (1 : Int32) = nI (i + 1 + 0) by rw [nI_1]]
      rcases hr with rfl | rfl
      · simp only [gd_t, bd_s, bd2_s, nm_v, i00, i10, i01, i11, ii00, ii10]
        exact ⟨_, _, rfl, rfl, congrArg (fun y => s1 ||| y) (sh0 (i + 0) (by omega)), rfl, rfl, _, rfl, rfl⟩
      · simp only [gd_t, bd_s, bd2_s, nm_v, i00, i10, i01, i11, ii00, ii10]
        exact ⟨_, _, rfl, rfl, rfl, rfl, rfl, _, rfl, rfl⟩
    · rintro ⟨s1, s2, s3⟩ ⟨t1, t2, t3⟩ ⟨r1, r2, r3, w, r4, r5⟩
      dsimp only at r1 r2 r3 r4 r5
      subst r1 r2 r3 r4 r5
      dsimp only
      refine ⟨(s1, wS σ 3 d (nI w)), (s1, wS τ 6 d (nI w)), ?_, ?_, rfl, w, rfl, rfl⟩
      · unfold f_X5_rooms_b25
        rw [if_pos (by decide)]
      · unfold f_X6_rooms_b22
        rw [if_pos (by decide)]
    · show σ = wS σ 3 d (nI (M d))
      rw [← e3]; exact (wS_id _ _ _).symm
    · show τ = wS τ 6 d (nI (M d))
      rw [← e6]; exact (wS_id _ _ _).symm

theorem wd_kinds (hA : WD n K G M σ τ) {d w : Nat} (hw : w ≤ 2) : WD n (va_up K d w) G M (wS σ 1 d (nI w)) (wS τ 4 d (nI w)) := by
  obtain ⟨a1, a2, a3, a4, a5⟩ := hA
  refine ⟨a1, a2, a3, fun x hx => ?_, fun x hx => ?_⟩
  · have := a4 x hx
    by_cases q : x = d
    · subst q; rw [va_up_self]; omega
    · rw [va_up_ne _ _ q]; exact this
  · obtain ⟨⟨p1, p2, p3⟩, p4, p5, p6⟩ := a5 x hx
    refine ⟨⟨?_, p2, p3⟩, ?_, p5, p6⟩
    · rw [wS_0]
      by_cases q : x = d
      · subst q; rw [upd_0, va_up_self]
      · rw [upd_n _ _ q, va_up_ne _ _ q]; exact p1
    · rw [wS_0]
      by_cases q : x = d
      · subst q; rw [upd_0, va_up_self]
      · rw [upd_n _ _ q, va_up_ne _ _ q]; exact p4
theorem s_kinds (hN : 100 ≤ N) : S_kinds N (RR C) := by
  intro v1 σ τ h
  have hR := h
  obtain ⟨n, s, K, G, M, hA⟩ := h
  unfold f_X5_kinds f_X6_kinds
  rcases isD hA v1 with ⟨h1, h2⟩ | ⟨d, hd, rfl⟩
  · rw [h1, h2]; exact ⟨_, _, _, rfl, rfl, hR⟩
  · obtain ⟨⟨c1, c2⟩, ⟨e1, e2, e3⟩, e4, e5, e6⟩ := dv hA hd
    obtain ⟨b1, b2, b3, b4⟩ := db hA hd
    rw [d5_in hA hd, d6_in hA hd]
    simp only [gd_t, bd_s, bd2_s, nm_v, i00, i10, i01, i11, ii00, ii10, c1, c2, e1, e4]
    have key := lp_two (fun s => f_X5_kinds_b25 N (nI d) (nI (K d)) s.1 s.2.1 s.2.2) (fun s => f_X6_kinds_b22 N (nI d) (nI (K d)) s.1 s.2.1 s.2.2) (fun o p => o.1 = p.1 ∧ ∃ w, o.2 = wS σ 1 d (nI w) ∧ p.2 = wS τ 4 d (nI w)) 3 (fun i s t => s.1 = t.1 ∧ s.2.1 = nI (i + 0) ∧ t.2.1 = nI (i + 0) ∧ ∃ w, s.2.2 = wS σ 1 d (nI w) ∧ t.2.2 = wS τ 4 d (nI w)) ?_ ?_ 3 0 (0, 0, σ) (0, 0, τ) (by omega) ⟨rfl, rfl, rfl, K d, ?_, ?_⟩ N N (by omega) (by omega)
    · obtain ⟨⟨o1, o2⟩, ⟨p1, p2⟩, h1, h2, h3, w, h4, h5⟩ := key
      dsimp only at h3 h4 h5
      subst h3 h4 h5
      rw [h1, h2]
      simp only [gd_t, bd_s, bd2_s, nm_v, i00, i10, i01, i11, ii00, ii10, f_X5_kinds_j61, f_X6_kinds_j60, c1, c2, wS_wS]
      refine ⟨_, _, _, rfl, rfl, ?_⟩
      have z1 : wS σ 1 d (nI (K d)) = σ := by rw [← e1]; exact wS_id _ _ _
      have z2 : wS τ 4 d (nI (K d)) = τ := by rw [← e4]; exact wS_id _ _ _
      rw [z1, z2]
      exact hR
    · rintro i ⟨s1, s2, s3⟩ ⟨t1, t2, t3⟩ hi ⟨r1, r2, r3, w, r4, r5⟩
      dsimp only at r1 r2 r3 r4 r5
      subst r1 r2 r3 r4 r5
      left
      dsimp only
      unfold f_X5_kinds_b25 f_X6_kinds_b22 f_X6_kinds_j52
      have a1 : ¬ (2 : Int32) < nI (i + 0) := nI_nlt (a := 2) (b := i + 0) (by omega) (by omega)
      have a2 : ¬ (3 : Int32) ≤ nI (i + 0) := nI_ge (a := i + 0) (b := 3) (by omega) (by omega)
      have hw : WD n _ _ _ (wS σ 1 d (nI (i + 0))) (wS τ 4 d (nI (i + 0))) := wd_kinds hA.1.wd (by omega)
      obtain ⟨r, hr, g1, g2⟩ := so hN hw (hA.2.2.2.1.of)
      simp only [if_neg a1, if_neg a2, c1, c2, gd_t, bd_s, bd2_s, nm_v, i00, i10, i01, i11, ii00, ii10, wS_wS, g1, g2, f_X5_oneIf]
      rw [show nI (i + 0) + (1 : Int32) = nI (i + 1 + 0) by rw [nI_1]]
      rcases hr with rfl | rfl
      · simp only [gd_t, bd_s, bd2_s, nm_v, i00, i10, i01, i11, ii00, ii10]
        exact ⟨_, _, rfl, rfl, congrArg (fun y => s1 ||| y) (sh0 (i + 0) (by omega)), rfl, rfl, _, rfl, rfl⟩
      · simp only [gd_t, bd_s, bd2_s, nm_v, i00, i10, i01, i11, ii00, ii10]
        exact ⟨_, _, rfl, rfl, rfl, rfl, rfl, _, rfl, rfl⟩
    · rintro ⟨s1, s2, s3⟩ ⟨t1, t2, t3⟩ ⟨r1, r2, r3, w, r4, r5⟩
      dsimp only at r1 r2 r3 r4 r5
      subst r1 r2 r3 r4 r5
      dsimp only
      refine ⟨(s1, wS σ 1 d (nI w)), (s1, wS τ 4 d (nI w)), ?_, ?_, rfl, w, rfl, rfl⟩
      · unfold f_X5_kinds_b25
        rw [if_pos (by decide)]
      · unfold f_X6_kinds_b22
        rw [if_pos (by decide)]
    · show σ = wS σ 1 d (nI (K d))
      rw [← e1]; exact (wS_id _ _ _).symm
    · show τ = wS τ 4 d (nI (K d))
      rw [← e4]; exact (wS_id _ _ _).symm
theorem out01 {v : Int32} (h0 : ¬ v = 0) (h1 : ¬ v = (1 : Int32)) : f_X6_within v 0 1 = some 0 := by
  rcases nn v with h | ⟨a, ha, rfl⟩
  · exact wi_lo h
  · refine wi_hi ?_
    have e0 : a ≠ 0 := fun q => h0 (by rw [q]; rfl)
    have e1 : a ≠ 1 := fun q => h1 (by rw [q]; rfl)
    exact nI_lt (a := 1) (b := a) (by omega) ha

theorem s_back : S_back N (RR C) := by
  intro v1 σ τ h
  have hR := h
  obtain ⟨n, s, K, G, M, hA⟩ := h
  obtain ⟨q, hq, e1, e2, e3⟩ := hA.2.2.2.1
  unfold f_X5_back f_X6_back
  rw [e1, e2]
  by_cases q1 : v1 < 0
  · rw [if_pos q1, wi_lo q1]; exact ⟨_, _, _, rfl, rfl, hR⟩
  · by_cases q2 : nI q < v1
    · rw [if_neg q1, if_neg (Int32.not_le.mpr q2), wi_hi q2]; exact ⟨_, _, _, rfl, rfl, hR⟩
    · rw [if_neg q1, if_pos (Int32.not_lt.mp q2), wi_in q1 q2]
      obtain ⟨j, hj, rfl⟩ : ∃ j, j ≤ q ∧ v1 = nI j := nI_of2 (nI_toInt (by omega)) q1 (Int32.not_lt.mp q2)
      rw [pk_sub hj]
      simp only [gd_t, bd_s, bd2_s, nm_v, i00, i10, i01, i11, ii00, ii10]
      obtain ⟨g1, g2, g3, g4, g5, g6⟩ := hA
      refine ⟨nI (q - j), _, _, rfl, rfl, RA.toR (C := C) (n := n) (s := s) (K := K) (G := G) (M := M) ⟨g1.of, g2.of, g3.of, ?_, g5.of, g6.of⟩⟩
      exact ⟨q - j, by omega, rfl, rfl, fun x hx => e3 x (by omega)⟩
theorem s_reading : S_reading N (RR C) := by
  intro v1 v2 v3 σ τ h
  have hR := h
  obtain ⟨n, s, K, G, M, hA⟩ := h
  have h4 := hA.1.1
  obtain ⟨q, hq, e1, e2, e3⟩ := hA.2.2.2.1
  unfold f_X5_reading f_X6_reading
  rcases isT hA v1 v2 with ⟨h1, h2⟩ | ⟨a, b, ha, hb, hne, rfl, rfl, h1, h2⟩
  · rw [h1, h2]; exact ⟨_, _, _, rfl, rfl, hR⟩
  · rw [h1, h2]
    simp only [gd_t, bd_s, bd2_s, nm_v, i00, i10, i01, i11, ii00, ii10]
    have t1 : ∀ (x : St) (g : Nat) (j : Nat) (v : Int32), g ≠ 0 → (wS x g j v).1 0 = x.1 0 := fun x g j v hg => wS_n _ _ _ (Ne.symm hg)
    by_cases q8 : q = 8
    · subst q8
      have b8 : ¬ nI 8 < (8 : Int32) := by decide
      unfold f_X5_reading_j23
      rw [e1, e2]
      simp only [if_neg b8, if_pos (show nI 8 = (8 : Int32) by decide)]
      by_cases z0 : v3 = 0
      · subst z0
        rw [i00, wi_in (by decide) (by decide)]
        exact ⟨_, _, _, rfl, rfl, hR⟩
      · by_cases z1 : v3 = (1 : Int32)
        · subst z1
          rw [i10, i11, wi_in (by decide) (by decide)]
          exact ⟨_, _, _, rfl, rfl, hR⟩
        · rw [if_neg z0, if_neg z1]
          have : f_X6_within v3 0 1 = some 0 := out01 z0 z1
          rw [this]
          exact ⟨_, _, _, rfl, rfl, hR⟩
    · have b8 : nI q < (8 : Int32) := nI_lt (a := q) (b := 8) (by omega) (by omega)
      have b9 : ¬ nI q = (8 : Int32) := fun z => q8 (nI_inj (a := q) (b := 8) (by omega) (by omega) z)
      have c1 : ck (nI q) 8 = true := ck_nI (by omega) (by omega)
      have c2 : (nI q).toNatClampNeg = q := nI_clamp (by omega)
      have fin : ∀ f : Nat, f ≤ 1 → RR C (wS (wS (wS (wS σ 6 q (nI a)) 7 q (nI b)) 8 q (nI f)) 0 3 (nI (q + 1))) (wS (wS (wS (wS τ 16 q (nI a)) 17 q (nI b)) 18 q (nI f)) 0 8 (nI (q + 1))) := by
        intro f hf
        obtain ⟨g1, g2, g3, g4, g5, g6⟩ := hA
        refine RA.toR (C := C) (n := n) (s := s) (K := K) (G := G) (M := M) ⟨g1.of, g2.of, g3.of, ⟨q + 1, by omega, rfl, rfl, fun x hx => ?_⟩, g5.of, g6.of⟩
        by_cases qx : x = q
        · subst qx
          refine ⟨a, b, f, ha, hb, hne, hf, ⟨?_, ?_, ?_⟩, ?_, ?_, ?_⟩
          · exact upd_0 _ _ _
          · exact upd_0 _ _ _
          · exact upd_0 _ _ _
          · exact upd_0 _ _ _
          · exact upd_0 _ _ _
          · exact upd_0 _ _ _
        · obtain ⟨a', b', f', y1, y2, y3, y4, ⟨x1, x2, x3⟩, x4, x5, x6⟩ := e3 x (by omega)
          refine ⟨a', b', f', y1, y2, y3, y4, ⟨?_, ?_, ?_⟩, ?_, ?_, ?_⟩
          · exact (upd_n (σ.1 6) _ qx).trans x1
          · exact (upd_n (σ.1 7) _ qx).trans x2
          · exact (upd_n (σ.1 8) _ qx).trans x3
          · exact (upd_n (τ.1 16) _ qx).trans x4
          · exact (upd_n (τ.1 17) _ qx).trans x5
          · exact (upd_n (τ.1 18) _ qx).trans x6
      have r1 : nI (q + 1) - (1 : Int32) = nI q := nI_pred q
      have u0 : ∀ (x : St) (j : Nat) (v : Int32), (wS x 0 j v).1 0 j = v := fun x j v => by rw [wS_0, upd_0]
      unfold f_X5_reading_j23 f_X5_reading_j73
      rw [e1, e2]
      simp only [if_pos b8, if_neg b9, c1, c2, gd_t, bd_s, bd2_s, nm_v, i00, i10, i01, i11, ii00, ii10, t1 _ 6 _ _ (by omega), t1 _ 7 _ _ (by omega), t1 _ 8 _ _ (by omega), t1 _ 16 _ _ (by omega), t1 _ 17 _ _ (by omega), t1 _ 18 _ _ (by omega), e1, e2, u0, nI_1, r1]
      by_cases z0 : v3 = 0
      · subst z0
        rw [wi_in (by decide) (by decide)]
        exact ⟨_, _, _, rfl, rfl, fin 0 (by omega)⟩
      · by_cases z1 : v3 = (1 : Int32)
        · subst z1
          rw [wi_in (by decide) (by decide)]
          exact ⟨_, _, _, rfl, rfl, fin 1 (by omega)⟩
        · rw [if_neg z0, if_neg z1]
          have : f_X6_within v3 0 1 = some 0 := out01 z0 z1
          rw [this]
          exact ⟨_, _, _, rfl, rfl, hR⟩
end ReadRows
