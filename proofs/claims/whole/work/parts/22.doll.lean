section DollRows
variable {C : CaT} {N : Nat} {n s : Nat} {K G M : Nat → Nat} {σ τ : St}
theorem s_trace : S_trace N (RR C) := by
  intro σ τ h
  obtain ⟨n, s, K, G, M, hA⟩ := h
  exact ⟨_, rfl, congrArg some hA.2.2.1.2.1.symm⟩
theorem s_fault : S_fault N (RR C) := by
  intro σ τ h
  obtain ⟨n, s, K, G, M, hA⟩ := h
  exact ⟨_, rfl, congrArg some hA.2.2.1.2.2.symm⟩
/-- what is read of doll d -/
theorem dv (hA : RA C n s K G M σ τ) {d : Nat} (h : d < n) : (ck (nI d) 4 = true ∧ (nI d).toNatClampNeg = d) ∧ (σ.1 1 d = nI (K d) ∧ σ.1 2 d = nI (G d) ∧ σ.1 3 d = nI (M d)) ∧ τ.1 4 d = nI (K d) ∧ τ.1 5 d = nI (G d) ∧ τ.1 6 d = nI (M d) := by
  have h4 := hA.1.1
  exact ⟨⟨ck_nI (by omega) (by omega), nI_clamp (by omega)⟩, hA.1.2.2.2.2 d h⟩
theorem db (hA : RA C n s K G M σ τ) {d : Nat} (h : d < n) : K d ≤ 2 ∧ 1 ≤ G d ∧ G d ≤ 9 ∧ M d < G d := hA.1.2.2.2.1 d h
def wid (K G : Nat → Nat) (d : Nat) : Nat := if K d = 1 then G d + 1 else if K d = 2 then 2 * G d else G d
theorem wide5 (hA : RA C n s K G M σ τ) {d : Nat} (h : d < n) : f_X0_wide d σ = some (nI (wid K G d)) := by
  obtain ⟨-, ⟨e1, e2, e3⟩, -⟩ := dv hA h
  obtain ⟨b1, b2, b3, b4⟩ := db hA h
  unfold f_X0_wide wid
  rw [e1, e2, show (1 : Int32) = nI 1 from rfl, show (2 : Int32) = nI 2 from rfl]
  simp only [nI_eq (a := K d) (b := 1) (by omega) (by omega), nI_eq (a := K d) (b := 2) (by omega) (by omega)]
  split
  · rw [nI_add]
  · split
    · rw [pk_mul]
    · rfl
theorem wide6 (hA : RA C n s K G M σ τ) {d : Nat} (h : d < n) : f_X6_wideOf (nI d) τ = some (nI (wid K G d)) := by
  obtain ⟨⟨c1, c2⟩, -, e1, e2, e3⟩ := dv hA h
  obtain ⟨b1, b2, b3, b4⟩ := db hA h
  unfold f_X6_wideOf wid
  simp only [c1, c2, gd_t]
  rw [e1, e2, show (0 : Int32) = nI 0 from rfl, show (1 : Int32) = nI 1 from rfl, show (2 : Int32) = nI 2 from rfl]
  simp only [nI_eq (a := K d) (b := 1) (by omega) (by omega), nI_eq (a := K d) (b := 0) (by omega) (by omega)]
  by_cases k0 : K d = 0
  · rw [if_pos k0, if_neg (by omega), if_neg (by omega)]
  · rw [if_neg k0]
    by_cases k1 : K d = 1
    · rw [if_pos k1, if_pos k1, nI_add]
    · rw [if_neg k1, if_neg k1, if_pos (by omega), pk_mul]
def fitB (K G M : Nat → Nat) (a b : Nat) : Bool := decide (wid K G a ≤ M b)
theorem wid_lt (hA : RA C n s K G M σ τ) {d : Nat} (h : d < n) : G d ≤ wid K G d ∧ wid K G d ≤ 18 := by
  obtain ⟨b1, b2, b3, b4⟩ := db hA h
  unfold wid
  split
  · omega
  · split <;> omega
theorem into5 (hA : RA C n s K G M σ τ) {a b : Nat} (ha : a < n) (hb : b < n) : f_X0_goesInto a b σ = some (if fitB K G M a b = true then 1 else 0) := by
  obtain ⟨-, ⟨e1, e2, e3⟩, -⟩ := dv hA hb
  obtain ⟨b1, b2, b3, b4⟩ := db hA hb
  have hw := wid_lt hA ha
  unfold f_X0_goesInto fitB
  rw [wide5 hA ha, bd_s, e3]
  simp only [nI_ltI (a := M b) (b := wid K G a) (by omega) (by omega), decide_eq_true_eq]
  by_cases q : M b < wid K G a
  · rw [if_pos q, if_neg (by omega)]
  · rw [if_neg q, if_pos (by omega)]
theorem into6 (hA : RA C n s K G M σ τ) {a b : Nat} (ha : a < n) (hb : b < n) : f_X6_fitsInto (nI a) (nI b) τ = some (if fitB K G M a b = true then 1 else 0) := by
  obtain ⟨⟨c1, c2⟩, -, e1, e2, e3⟩ := dv hA hb
  obtain ⟨b1, b2, b3, b4⟩ := db hA hb
  have hw := wid_lt hA ha
  unfold f_X6_fitsInto fitB
  rw [wide6 hA ha, bd_s, c1, gd_t, c2, e3]
  simp only [nI_ltI (a := M b) (b := wid K G a) (by omega) (by omega), decide_eq_true_eq]
  by_cases q : M b < wid K G a
  · rw [if_pos q, if_neg (by omega)]
  · rw [if_neg q, if_pos (by omega)]
/-- two unlike dolls: no, or a and b -/
theorem isT (hA : RA C n s K G M σ τ) (v w : Int32) : (f_X5_areTwo v w σ = some 0 ∧ f_X6_areTwo v w τ = some 0) ∨ ∃ a b, a < n ∧ b < n ∧ a ≠ b ∧ v = nI a ∧ w = nI b ∧ f_X5_areTwo v w σ = some 1 ∧ f_X6_areTwo v w τ = some 1 := by
  have h4 := hA.1.1
  unfold f_X5_areTwo f_X6_areTwo
  rcases isD hA v with ⟨h1, h2⟩ | ⟨a, ha, rfl⟩
  · rw [h1, h2]; exact Or.inl ⟨rfl, rfl⟩
  · rw [d5_in hA ha, d6_in hA ha]
    rcases isD hA w with ⟨h1, h2⟩ | ⟨b, hb, rfl⟩
    · rw [h1, h2]; exact Or.inl ⟨rfl, rfl⟩
    · rw [d5_in hA hb, d6_in hA hb]
      simp only [gd_t, bd_s, bd2_s, nm_v, i00, i10, i01, i11, ii00, ii10, nI_eq (a := a) (b := b) (by omega) (by omega)]
      by_cases q : a = b
      · rw [if_pos q]; exact Or.inl ⟨rfl, rfl⟩
      · rw [if_neg q]; exact Or.inr ⟨a, b, ha, hb, q, rfl, rfl, rfl, rfl⟩
theorem s_fits : S_fits N (RR C) := by
  intro v1 v2 σ τ h
  obtain ⟨n, s, K, G, M, hA⟩ := h
  unfold f_X5_fits f_X6_fits
  rcases isT hA v1 v2 with ⟨h1, h2⟩ | ⟨a, b, ha, hb, hne, rfl, rfl, h1, h2⟩
  · rw [h1, h2]; exact ⟨_, rfl, rfl⟩
  · obtain ⟨⟨c1, c2⟩, -⟩ := dv hA ha
    obtain ⟨⟨c3, c4⟩, -⟩ := dv hA hb
    rw [h1, h2]
    simp only [gd_t, bd_s, bd2_s, nm_v, i00, i10, i01, i11, ii00, ii10, c1, c2, c3, c4, into5 hA ha hb, into6 hA ha hb]
    by_cases q : fitB K G M a b = true
    · rw [if_pos q]; exact ⟨_, rfl, rfl⟩
    · rw [if_neg q]; exact ⟨_, rfl, rfl⟩
theorem RA.gir (hA : RA C n s K G M σ τ) {d g : Nat} (h : d < n) (h1 : 1 ≤ g) (h2 : g ≤ 9) (h3 : M d < g) : RA C n s K (va_up G d g) M (wS σ 2 d (nI g)) (wS τ 5 d (nI g)) := by
  obtain ⟨⟨a1, a2, a3, a4, a5⟩, b, c, e, f, i⟩ := hA
  refine ⟨⟨a1, a2, a3, fun x hx => ?_, fun x hx => ?_⟩, b.of, c.of, e.of, f.of, i.of⟩
  · by_cases q : x = d
    · subst q
      rw [va_up_self]
      exact ⟨(a4 x hx).1, h1, h2, h3⟩
    · rw [va_up_ne _ _ q]
      exact a4 x hx
  · obtain ⟨⟨p1, p2, p3⟩, p4, p5, p6⟩ := a5 x hx
    refine ⟨⟨p1, ?_, p3⟩, p4, ?_, p6⟩
    · rw [wS_0]
      by_cases q : x = d
      · subst q; rw [upd_0, va_up_self]
      · rw [upd_n _ _ q, va_up_ne _ _ q]; exact p2
    · rw [wS_0]
      by_cases q : x = d
      · subst q; rw [upd_0, va_up_self]
      · rw [upd_n _ _ q, va_up_ne _ _ q]; exact p5
theorem RA.rom (hA : RA C n s K G M σ τ) {d g : Nat} (h : d < n) (h3 : g < G d) : RA C n s K G (va_up M d g) (wS σ 3 d (nI g)) (wS τ 6 d (nI g)) := by
  obtain ⟨⟨a1, a2, a3, a4, a5⟩, b, c, e, f, i⟩ := hA
  refine ⟨⟨a1, a2, a3, fun x hx => ?_, fun x hx => ?_⟩, b.of, c.of, e.of, f.of, i.of⟩
  · by_cases q : x = d
    · subst q
      rw [va_up_self]
      exact ⟨(a4 x hx).1, (a4 x hx).2.1, (a4 x hx).2.2.1, h3⟩
    · rw [va_up_ne _ _ q]
      exact a4 x hx
  · obtain ⟨⟨p1, p2, p3⟩, p4, p5, p6⟩ := a5 x hx
    refine ⟨⟨p1, p2, ?_⟩, p4, p5, ?_⟩
    · rw [wS_0]
      by_cases q : x = d
      · subst q; rw [upd_0, va_up_self]
      · rw [upd_n _ _ q, va_up_ne _ _ q]; exact p3
    · rw [wS_0]
      by_cases q : x = d
      · subst q; rw [upd_0, va_up_self]
      · rw [upd_n _ _ q, va_up_ne _ _ q]; exact p6
theorem wi_lo {v a b : Int32} (h : v < a) : f_X6_within v a b = some 0 := if_pos h
theorem wi_hi {v a b : Int32} (h : b < v) : f_X6_within v a b = some 0 := by
  unfold f_X6_within
  rw [if_pos h]
  split <;> rfl
theorem wi_in {v a b : Int32} (h1 : ¬ v < a) (h2 : ¬ b < v) : f_X6_within v a b = some 1 := by
  unfold f_X6_within
  rw [if_neg h1, if_neg h2]
theorem s_girth : S_girth N (RR C) := by
  intro v1 v2 σ τ h
  have hR := h
  obtain ⟨n, s, K, G, M, hA⟩ := h
  unfold f_X5_girth f_X6_girth
  rcases isD hA v1 with ⟨h1, h2⟩ | ⟨d, hd, rfl⟩
  · rw [h1, h2]; exact ⟨_, _, _, rfl, rfl, hR⟩
  · obtain ⟨⟨c1, c2⟩, ⟨e1, e2, e3⟩, e4, e5, e6⟩ := dv hA hd
    obtain ⟨b1, b2, b3, b4⟩ := db hA hd
    rw [d5_in hA hd, d6_in hA hd]
    by_cases q1 : v2 < (1 : Int32)
    · rw [wi_lo q1]
      simp only [gd_t, bd_s, bd2_s, nm_v, i00, i10, i01, i11, ii00, ii10, if_pos q1]
      exact ⟨_, _, _, rfl, rfl, hR⟩
    · by_cases q2 : (9 : Int32) < v2
      · rw [wi_hi q2]
        simp only [gd_t, bd_s, bd2_s, nm_v, i00, i10, i01, i11, ii00, ii10, if_neg q1, if_pos q2]
        exact ⟨_, _, _, rfl, rfl, hR⟩
      · rw [wi_in q1 q2]
        obtain ⟨g, hg, rfl⟩ : ∃ g, g ≤ 9 ∧ v2 = nI g := nI_of2 (M := 9) (n := 9) (by decide) (fun q => q1 (Int32.lt_trans q (by decide))) (Int32.not_lt.mp q2)
        have hg1 : 1 ≤ g := by
          rcases Nat.lt_or_ge g 1 with q | q
          · exact absurd (show nI g < nI 1 from nI_lt q (by omega)) q1
          · exact q
        simp only [gd_t, bd_s, bd2_s, nm_v, i00, i10, i01, i11, ii00, ii10, if_neg q1, if_neg q2, c1, c2, e2, e3, e5, e6, nI_ltI (a := M d) (b := g) (by omega) (by omega)]
        by_cases q3 : M d < g
        · simp only [if_pos q3]
          exact ⟨_, _, _, rfl, rfl, (hA.gir hd hg1 hg q3).toR⟩
        · simp only [if_neg q3]
          exact ⟨_, _, _, rfl, rfl, hR⟩
theorem s_room : S_room N (RR C) := by
  intro v1 v2 σ τ h
  have hR := h
  obtain ⟨n, s, K, G, M, hA⟩ := h
  unfold f_X5_room f_X6_room
  rcases isD hA v1 with ⟨h1, h2⟩ | ⟨d, hd, rfl⟩
  · rw [h1, h2]; exact ⟨_, _, _, rfl, rfl, hR⟩
  · obtain ⟨⟨c1, c2⟩, ⟨e1, e2, e3⟩, e4, e5, e6⟩ := dv hA hd
    obtain ⟨b1, b2, b3, b4⟩ := db hA hd
    rw [d5_in hA hd, d6_in hA hd]
    by_cases q1 : v2 < 0
    · rw [wi_lo q1]
      simp only [gd_t, bd_s, bd2_s, nm_v, i00, i10, i01, i11, ii00, ii10, if_pos q1]
      exact ⟨_, _, _, rfl, rfl, hR⟩
    · by_cases q2 : (9 : Int32) < v2
      · rw [wi_hi q2]
        simp only [gd_t, bd_s, bd2_s, nm_v, i00, i10, i01, i11, ii00, ii10, if_neg q1, if_pos q2]
        exact ⟨_, _, _, rfl, rfl, hR⟩
      · rw [wi_in q1 q2]
        obtain ⟨g, hg, rfl⟩ : ∃ g, g ≤ 9 ∧ v2 = nI g := nI_of2 (M := 9) (n := 9) (by decide) q1 (Int32.not_lt.mp q2)
        simp only [gd_t, bd_s, bd2_s, nm_v, i00, i10, i01, i11, ii00, ii10, if_neg q1, if_neg q2, c1, c2, e2, e3, e5, e6, nI_ltI (a := g) (b := G d) (by omega) (by omega)]
        by_cases q3 : g < G d
        · simp only [if_pos q3]
          exact ⟨_, _, _, rfl, rfl, (hA.rom hd q3).toR⟩
        · simp only [if_neg q3]
          exact ⟨_, _, _, rfl, rfl, hR⟩
theorem come5 (v : Int32) (σ : St) : f_X5_come v σ = some ((-10 : Int32) - v, wS σ 0 5 v) := rfl
theorem fails6 (v : Int32) (σ : St) : f_X6_fails v σ = some ((-10 : Int32) - v, wS σ 0 0 v) := rfl
theorem s_as : S_as N (RR C) := by
  intro v1 v2 σ τ h
  obtain ⟨n, s, K, G, M, hA0⟩ := h
  have hA := hA0.fault 0
  have hR := hA.toR
  unfold f_X5_as f_X6_as
  simp only [nm_v]
  rcases isD hA v1 with ⟨h1, h2⟩ | ⟨d, hd, rfl⟩
  · rw [h1, h2]; exact ⟨_, _, _, rfl, rfl, hR⟩
  · obtain ⟨⟨c1, c2⟩, ⟨e1, e2, e3⟩, e4, e5, e6⟩ := dv hA hd
    obtain ⟨b1, b2, b3, b4⟩ := db hA hd
    rw [d5_in hA hd, d6_in hA hd]
    by_cases q1 : v2 < 0
    · rw [wi_lo q1]
      simp only [gd_t, bd_s, bd2_s, nm_v, i00, i10, i01, i11, ii00, ii10, if_pos q1]
      exact ⟨_, _, _, rfl, rfl, hR⟩
    · by_cases q2 : (2 : Int32) < v2
      · rw [wi_hi q2]
        simp only [gd_t, bd_s, bd2_s, nm_v, i00, i10, i01, i11, ii00, ii10, if_neg q1, if_neg (Int32.not_le.mpr q2)]
        exact ⟨_, _, _, rfl, rfl, hR⟩
      · rw [wi_in q1 q2]
        obtain ⟨g, hg, rfl⟩ : ∃ g, g ≤ 2 ∧ v2 = nI g := nI_of2 (M := 2) (n := 2) (by decide) q1 (Int32.not_lt.mp q2)
        simp only [gd_t, bd_s, bd2_s, nm_v, i00, i10, i01, i11, ii00, ii10, if_neg q1, if_pos (Int32.not_lt.mp q2), c1, c2, e1, e4, nI_ltI (a := K d) (b := g) (by omega) (by omega), nI_leI (a := g) (b := K d) (by omega) (by omega), come5, fails6]
        by_cases q3 : g ≤ K d
        · simp only [if_pos q3, if_neg (show ¬ K d < g by omega)]
          exact ⟨_, _, _, rfl, rfl, hR⟩
        · simp only [if_neg q3, if_pos (show K d < g by omega)]
          exact ⟨_, _, _, rfl, rfl, (hA.fault 2).toR⟩
theorem RA.lv (hA : RA C n s K G M σ τ) (k : Int32) : RA C n s K G M (wS σ 0 4 ((31 : Int32) * σ.1 0 4 + k)) (wS τ 0 1 ((31 : Int32) * τ.1 0 1 + k)) := by
  rw [hA.2.2.1.2.1]
  exact hA.tr _
theorem s_tell : S_tell N (RR C) := by
  intro v1 σ τ h
  have hR := h
  obtain ⟨n, s, K, G, M, hA⟩ := h
  unfold f_X5_tell f_X6_tell
  rcases isD hA v1 with ⟨h1, h2⟩ | ⟨d, hd, rfl⟩
  · rw [h1, h2]; exact ⟨_, _, _, rfl, rfl, hR⟩
  · obtain ⟨⟨c1, c2⟩, ⟨e1, e2, e3⟩, e4, e5, e6⟩ := dv hA hd
    obtain ⟨b1, b2, b3, b4⟩ := db hA hd
    rw [d5_in hA hd, d6_in hA hd]
    have t2 : ∀ (σ' : St) (v : Int32), (wS σ' 0 4 v).1 2 d = σ'.1 2 d := fun _ _ => rfl
    simp only [gd_t, bd_s, bd2_s, nm_v, i00, i10, i01, i11, ii00, ii10, c1, c2, e1, e4, e5, f_X5_tellBrushed, f_X5_tellSwollen, f_X5_tellPlain, f_X5_leave, f_X6_begins, t2, e2]
    by_cases k1 : nI (K d) = (1 : Int32)
    · simp only [if_pos k1]
      exact ⟨_, _, _, rfl, rfl, ((hA.lv 2).lv 1).toR⟩
    · by_cases k2 : nI (K d) = (2 : Int32)
      · simp only [if_neg k1, if_pos k2]
        have e : (2 : Int32) * nI (G d) + 100 = nI (G d) + 100 + nI (G d) := by
          rw [show (100 : Int32) = nI 100 from rfl, show (2 : Int32) = nI 2 from rfl, pk_mul, nI_add, nI_add, nI_add]
          congr 1
          omega
        rw [e]
        exact ⟨_, _, _, rfl, rfl, ((((hA.lv 3).lv 2).lv 1).lv 1).toR⟩
      · simp only [if_neg k1, if_neg k2]
        exact ⟨_, _, _, rfl, rfl, (hA.lv 1).toR⟩
theorem s_shake : S_shake N (RR C) := by
  intro v1 σ τ h
  have hR := h
  obtain ⟨n, s, K, G, M, hA⟩ := h
  unfold f_X5_shake f_X6_shake f_X6_shake_j26
  rcases isD hA v1 with ⟨h1, h2⟩ | ⟨d, hd, rfl⟩
  · rw [h1, h2]; exact ⟨_, _, _, rfl, rfl, hR⟩
  · obtain ⟨⟨c1, c2⟩, ⟨e1, e2, e3⟩, e4, e5, e6⟩ := dv hA hd
    obtain ⟨b1, b2, b3, b4⟩ := db hA hd
    rw [d5_in hA hd, d6_in hA hd]
    simp only [gd_t, bd_s, bd2_s, nm_v, i00, i10, i01, i11, ii00, ii10, c1, c2, e1, e4, f_X5_leave, f_X6_begins]
    have t4 : ∀ v : Int32, (wS τ 0 1 v).1 4 d = nI (K d) := fun _ => e4
    have t6 : ∀ v : Int32, (wS τ 0 1 v).1 6 d = nI (M d) := fun _ => e6
    have t3 : ∀ v : Int32, (wS σ 0 4 v).1 3 d = nI (M d) := fun _ => e3
    simp only [t4, t6, t3]
    by_cases k2 : nI (K d) = (2 : Int32)
    · simp only [if_pos k2]
      exact ⟨_, _, _, rfl, rfl, (hA.lv 5).toR⟩
    · simp only [if_neg k2]
      exact ⟨_, _, _, rfl, rfl, (hA.lv 4).toR⟩
end DollRows
