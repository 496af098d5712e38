section StandsRows
variable {C : CaT} {N : Nat} {n s T : Nat} {K G M : Nat → Nat} {σ τ τ' ρ ρ' : St} {F : Int32}
/-- which stands are counted -/
def stO (n w t : Nat) : Bool := if w = 1 then Nat.beq (t / 4096) 0 else if w = 2 then Nat.beq (cnt (tb t) n) 1 else if w = 3 then Nat.beq (cnt (hnd t) n) n else true
theorem full4s : ∀ n, n < 5 → ∀ p0 p1 p2 p3 : Bool, Nat.beq (ss (fun k => if k = 0 then p0 else if k = 1 then p1 else if k = 2 then p2 else p3) n) (2 ^ n - 1) = Nat.beq (cnt (fun k => if k = 0 then p0 else if k = 1 then p1 else if k = 2 then p2 else p3) n) n := by decide
theorem full4 (P : Nat → Bool) (hn : n ≤ 4) : Nat.beq (ss P n) (2 ^ n - 1) = Nat.beq (cnt P n) n := by
  have e := full4s n (by omega) (P 0) (P 1) (P 2) (P 3)
  have hq : ∀ d, d < n → P d = (fun k => if k = 0 then P 0 else if k = 1 then P 1 else if k = 2 then P 2 else P 3) d := by
    intro d hd
    rcases (show d = 0 ∨ d = 1 ∨ d = 2 ∨ d = 3 by omega) with rfl | rfl | rfl | rfl <;> rfl
  rw [ss_congr n hq, cnt_congr n hq, e]
theorem one4 : ∀ n, n < 5 → ((1 : Int32) <<< (nI n &&& 31)) - (1 : Int32) = nI (2 ^ n - 1) := by decide
theorem nbI {a b : Nat} (ha : a < 2 ^ 31) (hb : b < 2 ^ 31) {α : Type} (x y : α) : (if nI a = nI b then x else y) = if Nat.beq a b = true then x else y := by
  by_cases q : a = b
  · rw [if_pos (congrArg nI q), nb_t q, if_pos rfl]
  · rw [if_neg (fun z => q (nI_inj ha hb z)), nb_f q, if_neg (by decide)]
theorem w4 {w : Nat} (hw : w < 4) : w = 0 ∨ w = 1 ∨ w = 2 ∨ w = 3 := by omega
theorem isOf5 (hN : 100 ≤ N) (hn : n ≤ 4) {t w : Nat} (hv : vld n t = true) (hw : w < 4) (e7 : σ.1 0 7 = nI n) : f_X1_isOf N (nI w) (nI t) σ = some (b2 (stO n w t)) := by
  obtain ⟨u1, -⟩ := vl hv
  have c1 := cnt_le (tb t) n
  have c2 := cnt_le (hnd t) n
  unfold f_X1_isOf
  rw [e7, open5 u1, tableS5 hN u1 hn, handS5 hN u1 hn]
  simp only [bd_s, bits_cnt _ hn]
  rcases w4 hw with rfl | rfl | rfl | rfl
  · rfl
  · rw [if_pos (show nI 1 = (1 : Int32) from rfl), show (0 : Int32) = nI 0 from rfl, nbI (by omega) (by omega)]
    show _ = some (b2 (Nat.beq (t / 4096) 0))
    cases Nat.beq (t / 4096) 0 <;> rfl
  · rw [if_neg (show ¬ nI 2 = (1 : Int32) by decide), if_pos (show nI 2 = (2 : Int32) from rfl), show (1 : Int32) = nI 1 from rfl, nbI (by omega) (by omega)]
    show _ = some (b2 (Nat.beq (cnt (tb t) n) 1))
    cases Nat.beq (cnt (tb t) n) 1 <;> rfl
  · rw [if_neg (show ¬ nI 3 = (1 : Int32) by decide), if_neg (show ¬ nI 3 = (2 : Int32) by decide), if_pos (show nI 3 = (3 : Int32) from rfl), nbI (by omega) (by omega)]
    show _ = some (b2 (Nat.beq (cnt (hnd t) n) n))
    cases Nat.beq (cnt (hnd t) n) n <;> rfl
theorem howMany5 (hN : 1000 ≤ N) (hn : n ≤ 4) {z : BZ} {w : Nat} (hw : w < 4) (hz : z.1 ≤ 580) (hv : ∀ j, j < z.1 → vld n (z.2.1 j) = true) (hg : GZ z σ) (e7 : σ.1 0 7 = nI n) : f_X1_howMany N (nI w) σ = some (nI (cnt (fun j => stO n w (z.2.1 j)) z.1)) := by
  unfold f_X1_howMany
  have key := lp_for (fun x => f_X1_howMany_b4 N (nI w) x.1 x.2 σ) (fun i => (nI (cnt (fun j => stO n w (z.2.1 j)) i), nI i)) (nI (cnt (fun j => stO n w (z.2.1 j)) z.1)) z.1 0 (fun j _ hj => ?_) ?_ N (by omega)
  · rw [show (((0 : Int32), (0 : Int32)) : Int32 × Int32) = (nI (cnt (fun j => stO n w (z.2.1 j)) 0), nI 0) from rfl, key]
    rfl
  · have hj : j < z.1 := by omega
    show f_X1_howMany_b4 N (nI w) (nI (cnt (fun j => stO n w (z.2.1 j)) j)) (nI j) σ = some (Sum.inl (nI (cnt (fun j => stO n w (z.2.1 j)) j + (if stO n w (z.2.1 j) = true then 1 else 0)), nI (j + 1)))
    unfold f_X1_howMany_b4 f_X1_howMany_j29
    rw [hg.1, if_neg (nI_ge hj (by omega)), ck_nI (by omega) (by omega), gd_t, nI_clamp (by omega), (hg.2 j hj).1, isOf5 (by omega) hn (hv j hj) hw e7, bd_s]
    cases stO n w (z.2.1 j) with
    | false => rw [b2_f, i00, nm_v, nI_1]; rfl
    | true => rw [b2_t, i10, nm_v, nm_v, nI_1, nI_1]; rfl
  · rw [Nat.zero_add]
    show f_X1_howMany_b4 N (nI w) (nI (cnt (fun j => stO n w (z.2.1 j)) z.1)) (nI z.1) σ = _
    unfold f_X1_howMany_b4
    rw [hg.1, if_pos (Int32.le_refl _)]
/-- the reference's count of one stand -/
theorem stB6 (hN : 100 ≤ N) {t w c j : Nat} {x2 : Int32} (hw : w < 4) (hB : RA C n t K G M (wS σ 0 1 (nI t)) ρ) : (if nI w = 0 then f_X6_stands_j105 N (nI w) x2 (nI c) (nI j) ρ else if nI w = (1 : Int32) then (if ρ.1 0 4 = 0 then f_X6_stands_j105 N (nI w) x2 (nI c) (nI j) ρ else f_X6_stands_j72 N (nI w) x2 (nI c) (nI j) ρ) else f_X6_stands_j72 N (nI w) x2 (nI c) (nI j) ρ) = some (.inl (nI (c + (if stO n w t = true then 1 else 0)), nI (j + 1), ρ)) := by
  have hn := hB.1.1
  obtain ⟨hv, -, t2, t3⟩ := hB.2.1
  obtain ⟨u1, -⟩ := vl hv
  have e6 := hB.1.2.2.1
  have c1 := cnt_le (tb t) n
  have c2 := ss_lt (hnd t) n hn
  have j105 : f_X6_stands_j105 N (nI w) x2 (nI c) (nI j) ρ = some (.inl (nI (c + 1), nI (j + 1), ρ)) := by
    unfold f_X6_stands_j105 f_X6_stands_j110 f_X6_stands_j123
    rw [i10, nm_v, nm_v, nI_1, nI_1]
  have j109 : f_X6_stands_j109 N (nI w) x2 (nI c) (nI j) ρ = some (.inl (nI (c + 0), nI (j + 1), ρ)) := by
    unfold f_X6_stands_j109 f_X6_stands_j110 f_X6_stands_j123
    rw [i00, nm_v, nm_v, nI_1, show (0 : Int32) = nI 0 from rfl, nI_add]
  unfold f_X6_stands_j72 f_X6_stands_j85
  rw [onT6 hN hn e6 t2, handS6 hN hB, t3, e6, one4 n (by omega)]
  simp only [bd_s]
  rw [j105, j109]
  rcases w4 hw with rfl | rfl | rfl | rfl
  · rfl
  · rw [if_neg (show ¬ nI 1 = (0 : Int32) by decide), if_pos (show nI 1 = (1 : Int32) from rfl), if_neg (show ¬ nI 1 = (2 : Int32) by decide), if_neg (show ¬ nI 1 = (3 : Int32) by decide), show (0 : Int32) = nI 0 from rfl, nbI (by omega) (by omega)]
    show _ = some (Sum.inl (nI (c + (if Nat.beq (t / 4096) 0 = true then 1 else 0)), nI (j + 1), ρ))
    cases Nat.beq (t / 4096) 0 <;> rfl
  · rw [if_neg (show ¬ nI 2 = (0 : Int32) by decide), if_neg (show ¬ nI 2 = (1 : Int32) by decide), if_pos (show nI 2 = (2 : Int32) from rfl), if_neg (show ¬ nI 2 = (3 : Int32) by decide), show (1 : Int32) = nI 1 from rfl, nbI (by omega) (by omega)]
    show _ = some (Sum.inl (nI (c + (if Nat.beq (cnt (tb t) n) 1 = true then 1 else 0)), nI (j + 1), ρ))
    cases Nat.beq (cnt (tb t) n) 1 <;> rfl
  · have h2 : 2 ^ n ≤ 2 ^ 4 := Nat.pow_le_pow_right (by omega) hn
    rw [if_neg (show ¬ nI 3 = (0 : Int32) by decide), if_neg (show ¬ nI 3 = (1 : Int32) by decide), if_neg (show ¬ nI 3 = (2 : Int32) by decide), if_pos (show nI 3 = (3 : Int32) from rfl), nbI (by omega) (by omega), full4 _ hn]
    show _ = some (Sum.inl (nI (c + (if Nat.beq (cnt (hnd t) n) n = true then 1 else 0)), nI (j + 1), ρ))
    cases Nat.beq (cnt (hnd t) n) n <;> rfl
theorem cdo_F (hn : n ≤ 4) (t a : Nat) (ha : a < 28) : cdo n t (FB (fo (fP K G M) n n)) a = cdo n t (fP K G M) a := cdo_fo (fP K G M) hn ha
theorem s_stands (hN : 17000 ≤ N) : S_stands N (RR CC) := by
  intro v1 σ τ h
  obtain ⟨n, s, K, G, M, hA⟩ := h
  have hn := hA.1.1
  obtain ⟨hv, t1, -⟩ := hA.2.1
  have e5 := hA.1.2.1
  have e6 := hA.1.2.2.1
  unfold f_X5_stands f_X6_stands
  rw [show (3 : Int32) = nI 4 - 1 from rfl]
  rcases wi1 (z := 4) (by omega) v1 with ⟨h1, h2⟩ | ⟨w, hw, rfl, h1⟩
  · rw [h1, bd_s, i00]
    rcases h2 with h2 | h2
    · rw [if_pos h2]
      exact ⟨_, _, _, rfl, rfl, n, s, K, G, M, hA⟩
    · have h3 : ¬ v1 ≤ nI 4 - 1 := fun q => absurd (Int32.le_trans h2 q) (by decide)
      rw [if_neg h3]
      split <;> exact ⟨_, _, _, rfl, rfl, n, s, K, G, M, hA⟩
  · rw [h1, bd_s, i10, if_neg (nI_pos (by omega)), if_pos (show nI w ≤ nI 4 - 1 from nI_le (b := 3) (by omega) (by omega)), e5, e6]
    by_cases q : nI n = 0
    · rw [if_pos q, if_pos q]
      exact ⟨_, _, _, rfl, rfl, n, s, K, G, M, hA⟩
    rw [if_neg q, if_neg q, fitting5 (by omega) hA, bd_s, t1]
    obtain ⟨σ', T, g1, g2, g3, g4, g5⟩ := go5 (N := N) (by omega) hA (fo (fP K G M) n n)
    obtain ⟨τ', f1, f2, f3, f4⟩ := findN6 (F := fo (fP K G M) n n) hN g2 (cdo_F hn) g3
    have hl := bz_len (F := fo (fP K G M) n n) hn hv T
    obtain ⟨ok1, -⟩ := bz_ok (F := fo (fP K G M) n n) hn hv T
    rw [g1, bd_s, f1, bd_s, howMany5 (by omega) hn hw hl ok1 g4 g5, bd_s, nestNow6 (by omega) f2, bd_s]
    generalize bzs n (fo (fP K G M) n n) s T = z at *
    have key := lp_inv (fun x => f_X6_stands_b36 N (nI w) (nI (nst s)) x.1 x.2.1 x.2.2) (fun i x => x.1 = nI (cnt (fun j => stO n w (z.2.1 j)) i) ∧ x.2.1 = nI i ∧ (∃ s', RA CC n s' K G M (wS σ' 0 1 (nI s')) x.2.2) ∧ NZ z x.2.2) z.1 (fun o => o.1 = nI (cnt (fun j => stO n w (z.2.1 j)) z.1) ∧ ∃ s', RA CC n s' K G M (wS σ' 0 1 (nI s')) o.2)
      (fun i x hi hI => ?_) (fun x hI => ?_) z.1 0 ((0 : Int32), (0 : Int32), τ') (by omega) ⟨rfl, rfl, ⟨s, f2.self⟩, f3⟩ N (by omega)
    · obtain ⟨⟨o1, o2⟩, k1, k2, s', k3⟩ := key
      have k2 : o1 = nI (cnt (fun j => stO n w (z.2.1 j)) z.1) := k2
      subst k2
      obtain ⟨τ'', b1, b2_⟩ := backTo (N := N) (by omega) f2 k3
      have b1 : f_X6_becomeNest N (nI (nst s)) o2 = some τ'' := b1
      rw [k1, bd_s]
      show ∃ r σ' τ', _ ∧ f_X6_stands_j131 N (nI (nst s)) (nI (cnt (fun j => stO n w (z.2.1 j)) z.1)) o2 = some (r, τ') ∧ RR CC σ' τ'
      unfold f_X6_stands_j131
      rw [b1, bd_s]
      exact ⟨_, _, _, rfl, rfl, b2_.toR⟩
    · obtain ⟨x1, x2, x⟩ := x
      obtain ⟨q1, q2, ⟨s', q3⟩, q4⟩ := hI
      have q1 : x1 = nI (cnt (fun j => stO n w (z.2.1 j)) i) := q1
      have q2 : x2 = nI i := q2
      subst q1
      subst q2
      have q3 : RA CC n s' K G M (wS σ' 0 1 (nI s')) x := q3
      have q4 : NZ z x := q4
      obtain ⟨ρ, b1, b2_, b3⟩ := beN (N := N) (by omega) q3 (ok1 i hi)
      show ∃ s', f_X6_stands_b36 N (nI w) (nI (nst s)) (nI (cnt (fun j => stO n w (z.2.1 j)) i)) (nI i) x = some (Sum.inl s') ∧ _
      unfold f_X6_stands_b36
      rw [q4.1, if_neg (nI_ge hi (by omega)), ck_nI (by omega) (by omega), gd_t, nI_clamp (by omega), (q4.2.1 i hi).1, b1, bd_s, stB6 (by omega) hw b2_]
      exact ⟨_, rfl, rfl, rfl, ⟨_, b2_⟩, q4.sm b3⟩
    · obtain ⟨x1, x2, x⟩ := x
      obtain ⟨q1, q2, q3, q4⟩ := hI
      have q2 : x2 = nI z.1 := q2
      subst q2
      have q4 : NZ z x := q4
      refine ⟨(x1, x), ?_, q1, q3⟩
      show f_X6_stands_b36 N (nI w) (nI (nst s)) x1 (nI z.1) x = _
      unfold f_X6_stands_b36
      rw [q4.1, if_pos (Int32.le_refl _)]
end StandsRows
