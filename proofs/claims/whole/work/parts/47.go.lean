section GoRows
variable {C : CaT} {N : Nat} {n s : Nat} {K G M : Nat → Nat} {σ τ ρ ρ' : St} {F : Int32}
/-! the class's search against the pure one -/
def sbt (f : Nat → Int64) (t : Nat) : Bool := (f (t / 64)).toBitVec.getLsbD (t % 64)
set_option maxRecDepth 100000 in
theorem lb_1 : ∀ c, c < 64 → ∀ i, i < 64 → ((1 : Int64) <<< (Int32.toInt64 (nI c) &&& 63)).toBitVec.getLsbD i = decide (i = c) := by decide +kernel
theorem seen_and (w : Int64) {c : Nat} (hc : c < 64) : (w &&& ((1 : Int64) <<< (Int32.toInt64 (nI c) &&& 63))) = 0 ↔ w.toBitVec.getLsbD c = false := by
  constructor
  · intro h
    have h1 : (w &&& ((1 : Int64) <<< (Int32.toInt64 (nI c) &&& 63))).toBitVec.getLsbD c = false := by
      rw [h]
      exact BitVec.getLsbD_zero
    rw [Int64.toBitVec_and, BitVec.getLsbD_and, lb_1 c hc c hc, decide_eq_true rfl, Bool.and_true] at h1
    exact h1
  · intro h
    apply Int64.toBitVec_inj.mp
    apply BitVec.eq_of_getLsbD_eq
    intro i hi
    have z : (0 : Int64).toBitVec.getLsbD i = false := BitVec.getLsbD_zero
    rw [Int64.toBitVec_and, BitVec.getLsbD_and, lb_1 c hc i hi, z]
    by_cases q : i = c
    · rw [q, h, Bool.false_and]
    · rw [decide_eq_false q, Bool.and_false]
theorem sbt_up (f : Nat → Int64) (t u : Nat) : sbt (vp_updL f (t / 64) (f (t / 64) ||| ((1 : Int64) <<< (Int32.toInt64 (nI (t % 64)) &&& 63)))) u = (sbt f u || decide (u = t)) := by
  unfold sbt
  have hc : t % 64 < 64 := Nat.mod_lt _ (by omega)
  have hu : u % 64 < 64 := Nat.mod_lt _ (by omega)
  by_cases q : u / 64 = t / 64
  · rw [q, pk_uLs, Int64.toBitVec_or, BitVec.getLsbD_or, lb_1 _ hc _ hu]
    congr 1
    by_cases w : u = t
    · rw [decide_eq_true w, decide_eq_true (by rw [w])]
    · rw [decide_eq_false w, decide_eq_false (by omega)]
  · rw [pk_uLn q, decide_eq_false (fun w => q (by rw [w])), Bool.or_false]
/-- the class's arrays, and what it has seen -/
def GZ (z : BZ) (σ : St) : Prop := σ.1 0 6 = nI z.1 ∧ ∀ j, j < z.1 → σ.1 9 j = nI (z.2.1 j) ∧ σ.1 10 j = nI (z.2.2 j / 28) ∧ σ.1 11 j = nI (z.2.2 j % 28)
def GSn (z : BZ) (σ : St) : Prop := ∀ t, t < 65536 → (sbt σ.2 t = true ↔ ∃ j, j < z.1 ∧ z.2.1 j = t)
def SmG (σ σ' : St) : Prop := (∀ g, g ≠ 0 → g ≠ 9 → g ≠ 10 → g ≠ 11 → σ'.1 g = σ.1 g) ∧ ∀ j, j ≠ 6 → σ'.1 0 j = σ.1 0 j
theorem SmG.rf (σ : St) : SmG σ σ := ⟨fun _ _ _ _ _ => rfl, fun _ _ => rfl⟩
theorem SmG.tr (h1 : SmG σ ρ) (h2 : SmG ρ ρ') : SmG σ ρ' := ⟨fun g a b c d => (h2.1 g a b c d).trans (h1.1 g a b c d), fun j hj => (h2.2 j hj).trans (h1.2 j hj)⟩
theorem reach5 {z : BZ} {t k : Nat} {x2 x3 : Int32} (ht : t < 65536) (hl : fnd z.2.1 t z.1 = none → z.1 < 580) (e2 : x2 = nI (k / 28)) (e3 : x3 = nI (k % 28)) (h1 : GZ z σ) (h2 : GSn z σ) : ∃ σ', f_X1_reach (nI t) x2 x3 σ = some σ' ∧ GZ (breach z t k) σ' ∧ GSn (breach z t k) σ' ∧ SmG σ σ' := by
  have a1 : ((nI t >>> ((6 : Int32) &&& 31)) &&& ((1024 : Int32) - (1 : Int32))) = nI (t / 64) := by
    rw [pk_shrN (by omega) _ 6 (by decide), pk_andN (Nat.lt_of_le_of_lt (Nat.div_le_self _ _) (by omega)) 10 (by decide)]
    congr 1
    omega
  have a2 : nI t &&& (63 : Int32) = nI (t % 64) := pk_andN (by omega) 6 (by decide)
  have hc : t % 64 < 64 := Nat.mod_lt _ (by omega)
  unfold f_X1_reach
  rw [nm_v, nm_v, a1, a2, ck_nI (by omega) (by omega), gd_t, nI_clamp (by omega)]
  cases hb : sbt σ.2 t with
  | true =>
    obtain ⟨j, hj, ej⟩ := (h2 t ht).mp hb
    have hne : ¬ lg_cmp (σ.2 (t / 64) &&& ((1 : Int64) <<< (Int32.toInt64 (nI (t % 64)) &&& 63))) 0 = 0 := by
      rw [lg_cmp_eq, seen_and _ hc]
      intro q
      have hb : (σ.2 (t / 64)).toBitVec.getLsbD (t % 64) = true := hb
      rw [q] at hb
      cases hb
    rw [if_neg hne]
    have hz : breach z t k = z := by
      unfold breach
      cases hf : fnd z.2.1 t z.1 with
      | some j' => rfl
      | none => exact absurd ej (fnd_n hf hj)
    rw [hz]
    exact ⟨σ, rfl, h1, h2, SmG.rf σ⟩
  | false =>
    have heq : lg_cmp (σ.2 (t / 64) &&& ((1 : Int64) <<< (Int32.toInt64 (nI (t % 64)) &&& 63))) 0 = 0 := by
      rw [lg_cmp_eq, seen_and _ hc]
      exact hb
    have hf : fnd z.2.1 t z.1 = none := by
      cases hf : fnd z.2.1 t z.1 with
      | none => rfl
      | some j =>
        have := (h2 t ht).mpr ⟨j, fnd_s hf⟩
        rw [hb] at this
        cases this
    have hz : breach z t k = badd z t k := by
      unfold breach
      rw [hf]
    have hlt := hl hf
    rw [if_pos heq, h1.1, if_pos (show nI z.1 < (580 : Int32) from (nI_ltI (b := 580) (by omega) (by omega)).mpr hlt), gd_t, gd_t, nm_v]
    generalize hA : σ.2 (t / 64) ||| ((1 : Int64) <<< (Int32.toInt64 (nI (t % 64)) &&& 63)) = A
    rw [show (wL σ (t / 64) A).1 0 6 = nI z.1 from h1.1, ck_nI hlt (by omega), gd_t, nI_clamp (by omega), nm_v]
    rw [show (wS (wL σ (t / 64) A) 9 z.1 (nI t)).1 0 6 = nI z.1 from h1.1, ck_nI hlt (by omega), gd_t, nI_clamp (by omega), nm_v]
    rw [show (wS (wS (wL σ (t / 64) A) 9 z.1 (nI t)) 10 z.1 x2).1 0 6 = nI z.1 from h1.1, ck_nI hlt (by omega), gd_t, nI_clamp (by omega), nm_v]
    rw [show (wS (wS (wS (wL σ (t / 64) A) 9 z.1 (nI t)) 10 z.1 x2) 11 z.1 x3).1 0 6 = nI z.1 from h1.1, nI_1, nm_v, hz]
    refine ⟨_, rfl, ⟨rfl, fun j hj => ?_⟩, fun u hu => ?_, fun g g0 g9 g10 g11 => ?_, fun j hj => ?_⟩
    · show (if j = z.1 then nI t else σ.1 9 j) = nI (if j = z.1 then t else z.2.1 j) ∧ (if j = z.1 then x2 else σ.1 10 j) = nI ((if j = z.1 then k else z.2.2 j) / 28) ∧ (if j = z.1 then x3 else σ.1 11 j) = nI ((if j = z.1 then k else z.2.2 j) % 28)
      by_cases q : j = z.1
      · rw [if_pos q, if_pos q, if_pos q, if_pos q, if_pos q]
        exact ⟨rfl, e2, e3⟩
      · have hj : j < z.1 + 1 := hj
        rw [if_neg q, if_neg q, if_neg q, if_neg q, if_neg q]
        exact h1.2 j (by omega)
    · show sbt (vp_updL σ.2 (t / 64) A) u = true ↔ ∃ j, j < z.1 + 1 ∧ (if j = z.1 then t else z.2.1 j) = u
      rw [← hA, sbt_up, Bool.or_eq_true, decide_eq_true_eq, h2 u hu]
      constructor
      · rintro (⟨j, b1, b2⟩ | rfl)
        · exact ⟨j, by omega, by rw [if_neg (by omega)]; exact b2⟩
        · exact ⟨z.1, by omega, if_pos rfl⟩
      · rintro ⟨j, b1, b2⟩
        by_cases q : j = z.1
        · rw [if_pos q] at b2
          exact Or.inr b2.symm
        · rw [if_neg q] at b2
          exact Or.inl ⟨j, by omega, b2⟩
    · rw [wS_n _ _ _ g0, wS_n _ _ _ g11, wS_n _ _ _ g10, wS_n _ _ _ g9]
      rfl
    · rw [wS_0, upd_n _ _ hj]
      rfl
theorem bstp_i {i a : Nat} (ha : a < 28) {z : BZ} (hi : i < z.1) : bstp n F z (28 * i + a) = if cdo n (z.2.1 i) (FB F) a = true then breach z (aft (z.2.1 i) a) (28 * i + a) else z := by
  unfold bstp
  rw [show (28 * i + a) / 28 = i by omega, show (28 * i + a) % 28 = a by omega, if_pos hi]
theorem goOn5 (hN : 100 ≤ N) (hn : n ≤ 4) (hv : vld n s = true) {i : Nat} (hi : i < (bzs n F s (28 * i)).1) (g1 : GZ (bzs n F s (28 * i)) σ) (g2 : GSn (bzs n F s (28 * i)) σ) (e7 : σ.1 0 7 = nI n) (e8 : σ.1 0 8 = F) : ∃ σ', f_X1_goOn N (nI i) σ = some σ' ∧ GZ (bzs n F s (28 * (i + 1))) σ' ∧ GSn (bzs n F s (28 * (i + 1))) σ' ∧ SmG σ σ' := by
  have hl := bz_len (F := F) hn hv (28 * i)
  have hvi := (bz_ok (F := F) hn hv (28 * i)).1 i hi
  obtain ⟨u1, -⟩ := vl hvi
  obtain ⟨r, r1, r2⟩ := doable5 (s := (bzs n F s (28 * i)).2.1 i) hN hn u1 F
  unfold f_X1_goOn
  rw [ck_nI (by omega) (by omega), gd_t, nI_clamp (by omega), (g1.2 i hi).1, e7, e8, r1, bd_s]
  have key := lp_inv (fun w => f_X1_goOn_b20 N (nI i) r w.1 w.2) (fun a w => w.1 = nI a ∧ GZ (bzs n F s (28 * i + a)) w.2 ∧ GSn (bzs n F s (28 * i + a)) w.2 ∧ SmG σ w.2) 28 (fun o => GZ (bzs n F s (28 * (i + 1))) o ∧ GSn (bzs n F s (28 * (i + 1))) o ∧ SmG σ o)
    (fun a w ha hI => ?_) (fun w hI => ?_) 28 0 ((0 : Int32), σ) (by omega) ⟨rfl, g1, g2, SmG.rf σ⟩ N (by omega)
  · obtain ⟨o, k1, k2⟩ := key
    rw [k1]
    exact ⟨o, rfl, k2⟩
  · obtain ⟨x, w⟩ := w
    obtain ⟨q1, q2, q3, q4⟩ := hI
    have q1 : x = nI a := q1
    subst q1
    have q2 : GZ (bzs n F s (28 * i + a)) w := q2
    have q3 : GSn (bzs n F s (28 * i + a)) w := q3
    have q4 : SmG σ w := q4
    have up := bz_up (n := n) (F := F) (s := s) (k := 28 * i) (k' := 28 * i + a) (by omega)
    have hi' : i < (bzs n F s (28 * i + a)).1 := Nat.lt_of_lt_of_le hi up.1
    have eS : (bzs n F s (28 * i + a)).2.1 i = (bzs n F s (28 * i)).2.1 i := (up.2 i hi).1
    have e : bzs n F s (28 * i + (a + 1)) = if cdo n ((bzs n F s (28 * i)).2.1 i) (FB F) a = true then breach (bzs n F s (28 * i + a)) (aft ((bzs n F s (28 * i)).2.1 i) a) (28 * i + a) else bzs n F s (28 * i + a) := by
      show bstp n F (bzs n F s (28 * i + a)) (28 * i + a) = _
      rw [bstp_i ha hi', eS]
    have hl2 := bz_len (F := F) hn hv (28 * i + (a + 1))
    show ∃ s', f_X1_goOn_b20 N (nI i) r (nI a) w = some (Sum.inl s') ∧ _
    unfold f_X1_goOn_b20 f_X1_goOn_j50
    have r3 : bt r a = cdo n ((bzs n F s (28 * i)).2.1 i) (FB F) a := by
      rw [r2 a (by omega), decide_eq_true ha, Bool.true_and]
      rfl
    rw [if_neg (show ¬ (28 : Int32) ≤ nI a from nI_ge (b := 28) ha (by omega)), hasX r (by omega), bd_s, r3]
    cases hcd : cdo n ((bzs n F s (28 * i)).2.1 i) (FB F) a with
    | false =>
      rw [hcd, if_neg (by decide)] at e
      rw [b2_f, i00, nm_v, nI_1]
      refine ⟨_, rfl, rfl, ?_, ?_, q4⟩
      · rw [e]; exact q2
      · rw [e]; exact q3
    | true =>
      rw [hcd, if_pos rfl] at e
      obtain ⟨f1, f2, -⟩ := af hn hvi ha hcd
      obtain ⟨v1, -⟩ := vl f2
      obtain ⟨σ', h1, h2, h3, h4⟩ := reach5 (z := bzs n F s (28 * i + a)) (t := aft ((bzs n F s (28 * i)).2.1 i) a) (k := 28 * i + a) (x2 := nI i) (x3 := nI a) v1 (fun hf => by
        unfold breach at e
        rw [hf] at e
        have : (bzs n F s (28 * i + (a + 1))).1 = (bzs n F s (28 * i + a)).1 + 1 := by rw [e]; rfl
        omega) (by rw [show (28 * i + a) / 28 = i by omega]) (by rw [show (28 * i + a) % 28 = a by omega]) q2 q3
      rw [b2_t, i10, ck_nI (by omega) (by omega), gd_t, nI_clamp (by omega), (q2.2 i hi').1, eS, f1, bd_s, h1, bd_s, nm_v, nI_1]
      refine ⟨_, rfl, rfl, ?_, ?_, q4.tr h4⟩
      · rw [e]; exact h2
      · rw [e]; exact h3
  · obtain ⟨x, w⟩ := w
    obtain ⟨q1, q2, q3, q4⟩ := hI
    have q1 : x = nI 28 := q1
    subst q1
    refine ⟨w, ?_, ?_, ?_, q4⟩
    · show f_X1_goOn_b20 N (nI i) r (nI 28) w = _
      unfold f_X1_goOn_b20
      rw [if_pos (show (28 : Int32) ≤ nI 28 by decide)]
    · exact q2
    · exact q3
theorem bz_first : breach ((0, fun _ => s, fun _ => 0) : BZ) s 0 = bzs n F s 0 := by
  show ((0 + 1, (fun j => if j = 0 then s else s), fun j => if j = 0 then 0 else 0) : BZ) = (1, fun _ => s, fun _ => 0)
  simp only [ite_self, Nat.zero_add]
/-- the search made anew -/
theorem goJ5 (hN : 1000 ≤ N) (hn : n ≤ 4) (hv : vld n s = true) {T : Nat} (hT : 16240 ≤ T) (σ : St) : ∃ σ', f_X1_go_j34 N (nI s) (nI n) F σ = some σ' ∧ GZ (bzs n F s T) σ' ∧ SmG (wS (wS σ 0 7 (nI n)) 0 8 F) σ' := by
  obtain ⟨u1, -⟩ := vl hv
  unfold f_X1_go_j34
  rw [nm_v, nm_v, nm_v, nm_v]
  generalize h9 : wS (wS (wS (wLs σ (fun j => if j < 1024 then (0 : Int64) else σ.2 j)) 0 6 0) 0 7 (nI n)) 0 8 F = ρ
  have z1 : GZ ((0, fun _ => s, fun _ => 0) : BZ) ρ := by
    rw [← h9]
    exact ⟨rfl, fun j hj => absurd hj (Nat.not_lt_zero j)⟩
  have z2 : GSn ((0, fun _ => s, fun _ => 0) : BZ) ρ := by
    intro t ht
    have hb : sbt ρ.2 t = false := by
      rw [← h9]
      show (if t / 64 < 1024 then (0 : Int64) else σ.2 (t / 64)).toBitVec.getLsbD (t % 64) = false
      rw [if_pos (by omega)]
      exact BitVec.getLsbD_zero
    rw [hb]
    exact ⟨fun h => (by cases h), fun ⟨j, hj, _⟩ => absurd hj (Nat.not_lt_zero j)⟩
  have z3 : SmG (wS (wS σ 0 7 (nI n)) 0 8 F) ρ := by
    rw [← h9]
    refine ⟨fun g g0 _ _ _ => ?_, fun j hj => ?_⟩
    · rw [wS_n _ _ _ g0, wS_n _ _ _ g0, wS_n _ _ _ g0, wS_n _ _ _ g0, wS_n _ _ _ g0]
      rfl
    · show (if j = 8 then F else if j = 7 then nI n else if j = 6 then 0 else σ.1 0 j) = (if j = 8 then F else if j = 7 then nI n else σ.1 0 j)
      rw [if_neg hj]
  have e7 : ρ.1 0 7 = nI n := by rw [← h9]; rfl
  have e8 : ρ.1 0 8 = F := by rw [← h9]; rfl
  obtain ⟨ρ1, y1, y2, y3, y4⟩ := reach5 (z := ((0, fun _ => s, fun _ => 0) : BZ)) (t := s) (k := 0) (x2 := 0) (x3 := 0) u1 (fun _ => by show 0 < 580; omega) rfl rfl z1 z2
  rw [bz_first (n := n) (F := F)] at y2 y3
  rw [y1, bd_s]
  have key := lp_inv (fun w => f_X1_go_b67 N w.1 w.2) (fun i w => w.1 = nI i ∧ GZ (bzs n F s (28 * i)) w.2 ∧ GSn (bzs n F s (28 * i)) w.2 ∧ SmG ρ w.2) (bzs n F s T).1 (fun o => GZ (bzs n F s T) o ∧ SmG ρ o)
    (fun i w hi hI => ?_) (fun w hI => ?_) (bzs n F s T).1 0 ((0 : Int32), ρ1) (by omega) ⟨rfl, y2, y3, y4⟩ N (by have := bz_len (F := F) hn hv T; omega)
  · obtain ⟨o, k1, k2, k3⟩ := key
    rw [k1]
    exact ⟨o, rfl, k2, z3.tr k3⟩
  · obtain ⟨x, w⟩ := w
    obtain ⟨q1, q2, q3, q4⟩ := hI
    have q1 : x = nI i := q1
    subst q1
    have q2 : GZ (bzs n F s (28 * i)) w := q2
    have q3 : GSn (bzs n F s (28 * i)) w := q3
    have q4 : SmG ρ w := q4
    have hlT := bz_len (F := F) hn hv T
    have hl := bz_len (F := F) hn hv (28 * i)
    have hlive := bz_live (F := F) hn hv hi
    obtain ⟨σ', g1, g2, g3, g4⟩ := goOn5 (N := N) (by omega) hn hv hlive q2 q3 ((q4.2 7 (by decide)).trans e7) ((q4.2 8 (by decide)).trans e8)
    show ∃ s', f_X1_go_b67 N (nI i) w = some (Sum.inl s') ∧ _
    unfold f_X1_go_b67
    rw [q2.1, if_neg (nI_ge hlive (by omega)), if_neg (show ¬ (580 : Int32) ≤ nI i from nI_ge (b := 580) (by omega) (by omega)), g1, bd_s, nm_v, nI_1]
    exact ⟨_, rfl, rfl, g2, g3, q4.tr g4⟩
  · obtain ⟨x, w⟩ := w
    obtain ⟨q1, q2, q3, q4⟩ := hI
    have q1 : x = nI (bzs n F s T).1 := q1
    subst q1
    have q2 : GZ (bzs n F s (28 * (bzs n F s T).1)) w := q2
    rw [bz_fin hn hv hT] at q2
    refine ⟨w, ?_, q2, q4⟩
    show f_X1_go_b67 N (nI (bzs n F s T).1) w = _
    unfold f_X1_go_b67
    rw [q2.1, if_pos (Int32.le_refl _)]
/-- what the class keeps of its last search -/
def CC : CaT := fun mn ct ft re fm by_ => mn = 0 ∨ ∃ n s T : Nat, 16240 ≤ T ∧ n ≤ 4 ∧ vld n s = true ∧ ct = nI n ∧ mn = nI (bzs n ft s T).1 ∧ ∀ j, j < (bzs n ft s T).1 → re j = nI ((bzs n ft s T).2.1 j) ∧ fm j = nI ((bzs n ft s T).2.2 j / 28) ∧ by_ j = nI ((bzs n ft s T).2.2 j % 28)
theorem RA.smg (hA : RA C n s K G M σ τ) {x y : Int32} (h : SmG (wS (wS σ 0 7 x) 0 8 y) ρ) {C' : CaT} (hc : RCa C' ρ) : RA C' n s K G M ρ τ := by
  obtain ⟨h1, h2, h3, h4, h5, h6⟩ := hA
  have g : ∀ g, g ≠ 0 → g ≠ 9 → g ≠ 10 → g ≠ 11 → ρ.1 g = σ.1 g := fun g a b c d => by rw [h.1 g a b c d, wS_n _ _ _ a, wS_n _ _ _ a]
  have j : ∀ j, j ≠ 6 → j ≠ 7 → j ≠ 8 → ρ.1 0 j = σ.1 0 j := fun j a b c => by rw [h.2 j a, wS_0, upd_n _ _ c, wS_0, upd_n _ _ b]
  have e : ∀ g, 1 ≤ g → g ≤ 8 → ρ.1 g = σ.1 g := fun x a b => g x (by omega) (by omega) (by omega) (by omega)
  have e' : ∀ g, 12 ≤ g → ρ.1 g = σ.1 g := fun x a => g x (by omega) (by omega) (by omega) (by omega)
  have j' : ∀ x, x ≤ 5 → ρ.1 0 x = σ.1 0 x := fun x a => j x (by omega) (by omega) (by omega)
  exact ⟨h1.of (j' 0 (by omega)) (e 1 (by omega) (by omega)) (e 2 (by omega) (by omega)) (e 3 (by omega) (by omega)), h2.of (j' 1 (by omega)), h3.of (j' 2 (by omega)) (j' 4 (by omega)) (j' 5 (by omega)), h4.of (j' 3 (by omega)) (e 6 (by omega) (by omega)) (e 7 (by omega) (by omega)) (e 8 (by omega) (by omega)), h5.of (e 4 (by omega) (by omega)) (e 5 (by omega) (by omega)) (e' 12 (by omega)) (e' 13 (by omega)) (e' 14 (by omega)) (e' 15 (by omega)), hc⟩
/-- the class's search: made anew, or kept -/
theorem go5 (hN : 1000 ≤ N) (hA : RA CC n s K G M σ τ) (F : Int32) : ∃ σ' T, f_X1_go N (nI s) (nI n) F σ = some σ' ∧ RA CC n s K G M σ' τ ∧ 16240 ≤ T ∧ GZ (bzs n F s T) σ' ∧ σ'.1 0 7 = nI n := by
  have hn := hA.1.1
  obtain ⟨hv, t1, -⟩ := hA.2.1
  obtain ⟨u1, -⟩ := vl hv
  have hJ : ∃ σ' T, f_X1_go_j34 N (nI s) (nI n) F σ = some σ' ∧ RA CC n s K G M σ' τ ∧ 16240 ≤ T ∧ GZ (bzs n F s T) σ' ∧ σ'.1 0 7 = nI n := by
    obtain ⟨T, hT⟩ : ∃ T, 16240 ≤ T := ⟨_, Nat.le_refl _⟩
    obtain ⟨σ', h1, h2, h3⟩ := goJ5 (F := F) hN hn hv hT σ
    have e7 : σ'.1 0 7 = nI n := (h3.2 7 (by decide)).trans rfl
    have e8 : σ'.1 0 8 = F := (h3.2 8 (by decide)).trans rfl
    refine ⟨σ', T, h1, hA.smg h3 ?_, hT, h2, e7⟩
    show CC (σ'.1 0 6) (σ'.1 0 7) (σ'.1 0 8) (σ'.1 9) (σ'.1 10) (σ'.1 11)
    rw [e7, e8]
    exact Or.inr ⟨n, s, T, hT, hn, hv, rfl, h2.1, h2.2⟩
  unfold f_X1_go
  by_cases q : σ.1 0 6 ≤ 0
  · rw [if_pos q]; exact hJ
  rw [if_neg q, show ck (0 : Int32) 580 = true from rfl, gd_t]
  have hc : CC (σ.1 0 6) (σ.1 0 7) (σ.1 0 8) (σ.1 9) (σ.1 10) (σ.1 11) := hA.2.2.2.2.2
  rcases hc with hc | ⟨n', s', T, hT, hn', hv', c1, c2, c3⟩
  · rw [hc] at q
    exact absurd (Int32.le_refl _) q
  by_cases w1 : σ.1 9 (0 : Int32).toNatClampNeg = nI s
  · rw [if_pos w1]
    by_cases w2 : σ.1 0 7 = nI n
    · rw [if_pos w2]
      by_cases w3 : σ.1 0 8 = F
      · rw [if_pos w3]
        rw [c1] at w2
        have en := nI_inj (by omega) (by omega) w2
        have w1 : σ.1 9 0 = nI s := w1
        have h0 := (c3 0 (Nat.lt_of_lt_of_le Nat.zero_lt_one (bz_pos _))).1
        obtain ⟨v1, -⟩ := vl hv'
        have hz := (bz_ok (F := σ.1 0 8) hn' hv' T).2.2.1.1
        rw [hz, w1] at h0
        have es := nI_inj (by omega) (by omega) h0
        subst en
        subst es
        rw [w3] at c2 c3
        exact ⟨σ, T, rfl, hA, hT, ⟨c2, c3⟩, c1⟩
      · rw [if_neg w3]; exact hJ
    · rw [if_neg w2]; exact hJ
  · rw [if_neg w1]; exact hJ
end GoRows
