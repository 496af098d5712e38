section FarRows
variable {C : CaT} {N : Nat} {n s T : Nat} {K G M : Nat → Nat} {σ τ τ' ρ ρ' : St} {F : Int32} {x : Nat → Nat}
/-- all of k from i on -/
def al (P : Nat → Bool) : Nat → Nat → Bool
  | 0 => fun _ => true
  | k + 1 => fun i => P i && al P k (i + 1)
theorem al_t {P : Nat → Bool} : ∀ k i, al P k i = true ↔ ∀ d, i ≤ d → d < i + k → P d = true := by
  intro k
  induction k with
  | zero => intro i; exact ⟨fun _ d h1 h2 => absurd h2 (by omega), fun _ => rfl⟩
  | succ k ih =>
    intro i
    show (P i && al P k (i + 1)) = true ↔ _
    rw [Bool.and_eq_true, ih (i + 1)]
    constructor
    · rintro ⟨h1, h2⟩ d h3 h4
      by_cases q : d = i
      · rw [q]; exact h1
      · exact h2 d (by omega) (by omega)
    · intro h
      exact ⟨h i (by omega) (by omega), fun d h3 h4 => h d (by omega) (by omega)⟩
def tlB (n : Nat) (x : Nat → Nat) (t : Nat) : Bool := Nat.beq (t / 4096) 0 && al (fun d => Nat.beq (pl t d) (x d)) n 0
theorem toldL6 (hB : RA C n s K G M σ ρ) {B : Nat} (hb : B + n ≤ 240) (hx : ∀ d, d < n → ρ.1 3 (B + d) = nI (x d)) (h4 : ∀ d, d < n → x d ≤ 4) : ∀ (k i : Nat) (b : Bool), i + k = n → ∀ N', k < N' → lpF (fun w => f_X6_isTold_b15 N (nI B) w.1 w.2 ρ) N' (b2 b, nI i) = some (b2 (b && al (fun d => Nat.beq (pl s d) (x d)) k i)) := by
  have hn := hB.1.1
  obtain ⟨-, -, t2, t3⟩ := hB.2.1
  have e6 := hB.1.2.2.1
  intro k
  induction k with
  | zero =>
    intro i b hi N' hN
    obtain ⟨c, rfl⟩ : ∃ c, N' = c + 1 := ⟨N' - 1, by omega⟩
    have hi : i = n := hi
    subst hi
    rw [lp_s]
    show Option.bind (f_X6_isTold_b15 N (nI B) (b2 b) (nI i) ρ) _ = _
    have hB1 : f_X6_isTold_b15 N (nI B) (b2 b) (nI i) ρ = some (.inr (b2 b)) := by
      unfold f_X6_isTold_b15
      rw [e6, if_pos (Int32.le_refl _)]
    rw [hB1]
    show some (b2 b) = some (b2 (b && true))
    rw [Bool.and_true]
  | succ k ih =>
    intro i b hi N' hN
    obtain ⟨c, rfl⟩ : ∃ c, N' = c + 1 := ⟨N' - 1, by omega⟩
    have hin : i < n := by omega
    rw [lp_s]
    show Option.bind (f_X6_isTold_b15 N (nI B) (b2 b) (nI i) ρ) _ = some (b2 (b && (Nat.beq (pl s i) (x i) && al (fun d => Nat.beq (pl s d) (x d)) k (i + 1))))
    cases b with
    | false =>
      have hB1 : f_X6_isTold_b15 N (nI B) (b2 false) (nI i) ρ = some (.inr (b2 false)) := by
        unfold f_X6_isTold_b15
        rw [e6, if_neg (nI_ge hin (by omega)), if_pos (show b2 false = 0 from rfl)]
      rw [hB1]
      rfl
    | true =>
      have hx4 := h4 i hin
      have hp := pl_lt s i
      have hB1 : f_X6_isTold_b15 N (nI B) (b2 true) (nI i) ρ = some (.inl (b2 (Nat.beq (pl s i) (x i)), nI (i + 1))) := by
        unfold f_X6_isTold_b15 f_X6_isTold_j49
        rw [e6, if_neg (nI_ge hin (by omega)), if_neg (show ¬ b2 true = 0 by decide), ck_nI (by omega) (by omega), gd_t, nI_add, ck_nI (by omega) (by omega), gd_t, nI_clamp (by omega), nI_clamp (by omega), hx i hin, t2 i hin, nbI (by omega) (by omega), nm_v, nI_1]
        cases Nat.beq (pl s i) (x i) <;> rfl
      rw [hB1]
      show lpF _ c (b2 (Nat.beq (pl s i) (x i)), nI (i + 1)) = _
      rw [ih (i + 1) (Nat.beq (pl s i) (x i)) (by omega) c (by omega), Bool.true_and]
theorem isTold6 (hN : 100 ≤ N) (hB : RA C n s K G M σ ρ) {B : Nat} (hb : B + n ≤ 240) (hx : ∀ d, d < n → ρ.1 3 (B + d) = nI (x d)) (h4 : ∀ d, d < n → x d ≤ 4) : f_X6_isTold N (nI B) ρ = some (b2 (tlB n x s)) := by
  have hn := hB.1.1
  obtain ⟨hv, -, t2, t3⟩ := hB.2.1
  obtain ⟨u1, -⟩ := vl hv
  have hL := toldL6 (N := N) hB hb hx h4 n 0
  unfold f_X6_isTold f_X6_isTold_j12 f_X6_isTold_j56 tlB
  rw [t3, show (0 : Int32) = nI 0 from rfl, nbI (by omega) (by omega)]
  cases Nat.beq (s / 4096) 0 with
  | false =>
    have h := hL false (by omega) N (by omega)
    have h : lpF (fun w => f_X6_isTold_b15 N (nI B) w.1 w.2 ρ) N (nI 0, nI 0) = some (b2 (false && al (fun d => Nat.beq (pl s d) (x d)) n 0)) := h
    rw [if_neg (by decide), h, bd_s, isB_b2, gd_t]
  | true =>
    have h := hL true (by omega) N (by omega)
    have h : lpF (fun w => f_X6_isTold_b15 N (nI B) w.1 w.2 ρ) N ((1 : Int32), nI 0) = some (b2 (true && al (fun d => Nat.beq (pl s d) (x d)) n 0)) := h
    rw [if_pos rfl, h, bd_s, isB_b2, gd_t]
/-- the number of the told nest -/
def tcd (x : Nat → Nat) : Nat → Nat
  | 0 => 0
  | k + 1 => tcd x k + x k * 8 ^ k
theorem tcd_lt (h : ∀ d, d < n → x d ≤ 4) : ∀ k, k ≤ n → k ≤ 4 → tcd x k < 8 ^ k := by
  intro k
  induction k with
  | zero => intro _ _; exact (by decide : 0 < 8 ^ 0)
  | succ k ih =>
    intro h1 h2
    have a := ih (by omega) (by omega)
    have b := h k (by omega)
    show tcd x k + x k * 8 ^ k < 8 ^ (k + 1)
    rw [Nat.pow_succ]
    have c : x k * 8 ^ k ≤ 4 * 8 ^ k := Nat.mul_le_mul_right _ b
    omega
theorem tlB_iff (hn : n ≤ 4) (h4 : ∀ d, d < n → x d ≤ 4) {t : Nat} (hv : vld n t = true) : tlB n x t = true ↔ t = tcd x n := by
  obtain ⟨u1, -, u3, -⟩ := vl hv
  have e := st_pl t
  unfold tlB
  rw [Bool.and_eq_true, al_t]
  have hb : Nat.beq (t / 4096) 0 = true ↔ t / 4096 = 0 := by rw [Nat.beq_eq]
  have hP : (∀ d, 0 ≤ d → d < 0 + n → (fun d => Nat.beq (pl t d) (x d)) d = true) ↔ ∀ d, d < n → pl t d = x d :=
    ⟨fun h d hd => Nat.eq_of_beq_eq_true (h d (by omega) (by omega)), fun h d _ hd => nb_t (h d (by omega))⟩
  rw [hb, hP]
  rcases (show n = 0 ∨ n = 1 ∨ n = 2 ∨ n = 3 ∨ n = 4 by omega) with rfl | rfl | rfl | rfl | rfl
  · have c0 := (u3 0 (by omega) (by omega)).1
    have c1 := (u3 1 (by omega) (by omega)).1
    have c2 := (u3 2 (by omega) (by omega)).1
    have c3 := (u3 3 (by omega) (by omega)).1
    show _ ↔ t = 0
    constructor
    · rintro ⟨h1, h2⟩
      omega
    · intro h
      exact ⟨by omega, fun d hd => absurd hd (by omega)⟩
  · have c1 := (u3 1 (by omega) (by omega)).1
    have c2 := (u3 2 (by omega) (by omega)).1
    have c3 := (u3 3 (by omega) (by omega)).1
    have a0 := h4 0 (by omega)
    have p0 := pl_lt t 0
    show _ ↔ t = 0 + x 0 * 1
    constructor
    · rintro ⟨h1, h2⟩
      have b0 := h2 0 (by omega)
      omega
    · intro h
      refine ⟨by omega, fun d hd => ?_⟩
      have : d = 0 := by omega
      subst this
      omega
  · have c2 := (u3 2 (by omega) (by omega)).1
    have c3 := (u3 3 (by omega) (by omega)).1
    have a0 := h4 0 (by omega)
    have a1 := h4 1 (by omega)
    have p0 := pl_lt t 0
    have p1 := pl_lt t 1
    show _ ↔ t = 0 + x 0 * 1 + x 1 * 8
    constructor
    · rintro ⟨h1, h2⟩
      have b0 := h2 0 (by omega)
      have b1 := h2 1 (by omega)
      omega
    · intro h
      refine ⟨by omega, fun d hd => ?_⟩
      rcases (show d = 0 ∨ d = 1 by omega) with rfl | rfl <;> omega
  · have c3 := (u3 3 (by omega) (by omega)).1
    have a0 := h4 0 (by omega)
    have a1 := h4 1 (by omega)
    have a2 := h4 2 (by omega)
    have p0 := pl_lt t 0
    have p1 := pl_lt t 1
    have p2 := pl_lt t 2
    show _ ↔ t = 0 + x 0 * 1 + x 1 * 8 + x 2 * 64
    constructor
    · rintro ⟨h1, h2⟩
      have b0 := h2 0 (by omega)
      have b1 := h2 1 (by omega)
      have b2 := h2 2 (by omega)
      omega
    · intro h
      refine ⟨by omega, fun d hd => ?_⟩
      rcases (show d = 0 ∨ d = 1 ∨ d = 2 by omega) with rfl | rfl | rfl <;> omega
  · have a0 := h4 0 (by omega)
    have a1 := h4 1 (by omega)
    have a2 := h4 2 (by omega)
    have a3 := h4 3 (by omega)
    have p0 := pl_lt t 0
    have p1 := pl_lt t 1
    have p2 := pl_lt t 2
    have p3 := pl_lt t 3
    show _ ↔ t = 0 + x 0 * 1 + x 1 * 8 + x 2 * 64 + x 3 * 512
    constructor
    · rintro ⟨h1, h2⟩
      have b0 := h2 0 (by omega)
      have b1 := h2 1 (by omega)
      have b2 := h2 2 (by omega)
      have b3 := h2 3 (by omega)
      omega
    · intro h
      refine ⟨by omega, fun d hd => ?_⟩
      rcases (show d = 0 ∨ d = 1 ∨ d = 2 ∨ d = 3 by omega) with rfl | rfl | rfl | rfl <;> omega
set_option maxRecDepth 100000 in
theorem mvd : ∀ d, d < 4 → ∀ c, c < 8 ^ d → ∀ v, v < 5 → f_X3_moved (nI c) (nI d) (nI v) = some (nI (c + v * 8 ^ d)) := by decide +kernel
theorem told5 (hN : 100 ≤ N) (hn : n ≤ 4) {k z a : Nat} (hz : z ≤ 60) (hab : a + n ≤ z) (e0 : σ.1 0 0 = nI n) (e5 : σ.1 5 k = nI z) (hx : ∀ d, d < n → σ.1 (12 + k) (a + d) = nI (x d)) (h4 : ∀ d, d < n → x d ≤ 4) : f_X5_nestTold N k (nI a) σ = some (nI (tcd x n)) := by
  unfold f_X5_nestTold
  have key := lp_for (fun w => f_X5_nestTold_b5 N k (nI a) w.1 w.2 σ) (fun i => (nI (tcd x i), nI i)) (nI (tcd x n)) n 0 (fun j _ hj => ?_) ?_ N (by omega)
  · rw [show (((0 : Int32), (0 : Int32)) : Int32 × Int32) = (nI (tcd x 0), nI 0) from rfl, key]
    rfl
  · have hj : j < n := by omega
    show f_X5_nestTold_b5 N k (nI a) (nI (tcd x j)) (nI j) σ = _
    unfold f_X5_nestTold_b5
    have h4j := h4 j hj
    rw [e0, if_neg (nI_ge hj (by omega)), nI_add, at5 hz e5 (by omega), bd_s, hx j hj, mvd j (by omega) (tcd x j) (tcd_lt h4 j (by omega) (by omega)) (x j) (by omega), bd_s, nm_v, nI_1]
    rfl
  · rw [Nat.zero_add]
    show f_X5_nestTold_b5 N k (nI a) (nI (tcd x n)) (nI n) σ = _
    unfold f_X5_nestTold_b5
    rw [e0, if_pos (Int32.le_refl _)]
/-! the reference's distances -/
def FZ (n : Nat) (F : Int32) (z : BZ) (τ : St) : Prop := NZ z τ ∧ LZ n F z (28 * z.1) τ
theorem FZ.sm {z : BZ} (h : FZ n F z τ) (b : SmB τ τ') : FZ n F z τ' := ⟨h.1.sm b, h.2.of (b.2 11 (by decide) (by decide))⟩
theorem FZ.w12 {z : BZ} (h : FZ n F z τ) (i : Nat) (v : Int32) : FZ n F z (wS τ 12 i v) := ⟨h.1.of rfl rfl rfl, h.2.of rfl⟩
theorem sm12 (ρ : St) (k : Nat) (v : Int32) : SmN ρ (wS ρ 12 k v) := ⟨fun g _ _ _ _ h => wS_n _ _ _ h, fun j _ => by rw [wS_n _ _ _ (by decide)]⟩
def V12 (m : Nat) (f : Nat → Option Nat) (τ : St) : Prop := ∀ i, i < m → τ.1 12 i = o9 (f i)
theorem o9_none {f : Option Nat} {d : Nat} (hd : f = some d) (hb : d < 2 ^ 31) : ¬ o9 f = (-9 : Int32) := by
  rw [hd]
  exact nI_neg9 hb
theorem o9_eq {f : Option Nat} {r : Nat} (hb : ∀ d, f = some d → d < 2 ^ 31) (hr : r < 2 ^ 31) : o9 f = nI r ↔ f = some r := by
  cases f with
  | none =>
    exact ⟨fun h => absurd h.symm (nI_neg9 hr), fun h => (by cases h)⟩
  | some d =>
    have := hb d rfl
    exact ⟨fun h => by rw [nI_inj this hr h], fun h => by cases h; rfl⟩
/-- one step of a ring -/
theorem farS {z : BZ} {r k : Nat} {f : Nat → Option Nat} {b : Bool} (hz : z.1 ≤ 580) (hl : ∀ k j, k < 28 * z.1 → ldz n F z k = some j → j < z.1) (hr : r ≤ 600) (hfb : ∀ i d, i < z.1 → f i = some d → d ≤ r + 1) (hk : k < 28 * z.1) (h1 : FZ n F z ρ) (h2 : V12 z.1 f ρ) : ∃ ρ' b', f_X6_findFar_b70 N (b2 b) (nI (r + 1)) (nI k) ρ = some (.inl (b2 b', nI (k + 1), ρ')) ∧ SmN ρ ρ' ∧ FZ n F z ρ' ∧ V12 z.1 (fst_ (ldz n F z) r f k) ρ' ∧ ((b' = b ∧ fst_ (ldz n F z) r f k = f) ∨ (b' = true ∧ noF (fst_ (ldz n F z) r f k) z.1 < noF f z.1)) := by
  have hkm : k / 28 < z.1 := by omega
  have ek : nI k / (28 : Int32) = nI (k / 28) := by rw [show (28 : Int32) = nI 28 from rfl, pk_div (by omega) (by omega) (by omega)]
  have em : (28 : Int32) * nI z.1 = nI (28 * z.1) := by rw [show (28 : Int32) = nI 28 from rfl, pk_mul]
  have e11 := h1.2 k hk
  have e12 := h2 (k / 28) hkm
  have skip : ∀ g, g = f → ∃ ρ' b', f_X6_findFar_j142 N (b2 b) (nI (r + 1)) (nI k) ρ = some (.inl (b2 b', nI (k + 1), ρ')) ∧ SmN ρ ρ' ∧ FZ n F z ρ' ∧ V12 z.1 g ρ' ∧ ((b' = b ∧ g = f) ∨ (b' = true ∧ noF g z.1 < noF f z.1)) := by
    intro g hg
    subst hg
    unfold f_X6_findFar_j142
    rw [nm_v, nI_1]
    exact ⟨ρ, b, rfl, SmN.rf ρ, h1, h2, Or.inl ⟨rfl, rfl⟩⟩
  unfold f_X6_findFar_b70
  rw [h1.1.1, em, if_neg (nI_ge hk (by omega)), ek, ck_nI (by omega) (by omega), gd_t, nI_clamp (by omega), e12]
  cases hf : f (k / 28) with
  | some d =>
    have hd := hfb _ _ hkm hf
    rw [if_neg (o9_none rfl (by omega))]
    refine skip _ ?_
    unfold fst_
    rw [hf]
  | none =>
    rw [if_pos (show o9 none = (-9 : Int32) from rfl), ck_nI (by omega) (by omega), gd_t, nI_clamp (by omega), e11]
    cases hld : ldz n F z k with
    | none =>
      rw [if_pos (show o9 none = (-9 : Int32) from rfl)]
      refine skip _ ?_
      unfold fst_
      rw [hf, hld]
    | some j =>
      have hj := hl k j hk hld
      rw [show o9 (some j) = nI j from rfl, if_neg (nI_neg9 (by omega)), gd_t, ck_nI (by omega) (by omega), gd_t, nI_clamp (by omega), h2 j hj, show nI (r + 1) - (1 : Int32) = nI r from pk_sub (a := r + 1) (b := 1) (by omega)]
      have hoe : o9 (f j) = nI r ↔ f j = some r := o9_eq (fun d hd => by have := hfb j d hj hd; omega) (by omega)
      by_cases q : f j = some r
      · rw [if_pos (hoe.mpr q), gd_t, nm_v]
        unfold f_X6_findFar_j142
        rw [nm_v, nI_1]
        have hfs : fst_ (ldz n F z) r f k = fun i => if i = k / 28 then some (r + 1) else f i := by
          unfold fst_
          rw [hf, hld]
          exact if_pos q
        rw [hfs]
        refine ⟨_, true, rfl, sm12 _ _ _, h1.w12 _ _, fun i hi => ?_, Or.inr ⟨rfl, ?_⟩⟩
        · rw [wS_0]
          show upd (ρ.1 12) (k / 28) (nI (r + 1)) i = o9 (if i = k / 28 then some (r + 1) else f i)
          by_cases w : i = k / 28
          · rw [if_pos w, w, upd_0]
            rfl
          · rw [if_neg w, upd_n _ _ w]
            exact h2 i hi
        · have := (noF_up (f := f) (g := fun i => if i = k / 28 then some (r + 1) else f i) (i := k / 28) hf (by show ¬ (if k / 28 = k / 28 then some (r + 1) else f (k / 28)) = none; rw [if_pos rfl]; intro w; cases w) (fun y hy => if_neg hy) z.1).1 hkm
          omega
      · rw [if_neg (fun w => q (hoe.mp w))]
        refine skip _ ?_
        unfold fst_
        rw [hf, hld]
        exact if_neg q
/-- one ring -/
theorem farR (hN : 17000 ≤ N) {z : BZ} {r : Nat} {f : Nat → Option Nat} {Tl : Nat → Bool} (hz : z.1 ≤ 580) (hl : ∀ k j, k < 28 * z.1 → ldz n F z k = some j → j < z.1) (hr : r ≤ 600) (hS : RS z.1 (ldz n F z) Tl r f) (h1 : FZ n F z ρ) (h2 : V12 z.1 f ρ) : ∃ ρ' f' b, lpF (fun w => f_X6_findFar_b70 N w.1 (nI (r + 1)) w.2.1 w.2.2) N ((0 : Int32), (0 : Int32), ρ) = some (b2 b, ρ') ∧ SmN ρ ρ' ∧ FZ n F z ρ' ∧ V12 z.1 f' ρ' ∧ RI z.1 (ldz n F z) Tl r f' (28 * z.1) ∧ (b = false → f' = f) ∧ (b = true → noF f' z.1 < noF f z.1) := by
  have key := lp_inv (fun w => f_X6_findFar_b70 N w.1 (nI (r + 1)) w.2.1 w.2.2) (fun k w => ∃ f' b, w.1 = b2 b ∧ w.2.1 = nI k ∧ SmN ρ w.2.2 ∧ FZ n F z w.2.2 ∧ V12 z.1 f' w.2.2 ∧ RI z.1 (ldz n F z) Tl r f' k ∧ (b = false → f' = f) ∧ (b = true → noF f' z.1 < noF f z.1)) (28 * z.1) (fun o => ∃ f' b, o.1 = b2 b ∧ SmN ρ o.2 ∧ FZ n F z o.2 ∧ V12 z.1 f' o.2 ∧ RI z.1 (ldz n F z) Tl r f' (28 * z.1) ∧ (b = false → f' = f) ∧ (b = true → noF f' z.1 < noF f z.1))
    (fun k w hk hI => ?_) (fun w hI => ?_) (28 * z.1) 0 ((0 : Int32), (0 : Int32), ρ) (by omega) ⟨f, false, rfl, rfl, SmN.rf ρ, h1, h2, hS.ri, fun _ => rfl, fun h => (by cases h)⟩ N (by omega)
  · obtain ⟨⟨o1, o2⟩, k1, f', b, k2, k3⟩ := key
    have k2 : o1 = b2 b := k2
    subst k2
    exact ⟨o2, f', b, k1, k3⟩
  · obtain ⟨w1, w2, w⟩ := w
    obtain ⟨f', b, q1, q2, q3, q4, q5, q6, q7, q8⟩ := hI
    have q1 : w1 = b2 b := q1
    have q2 : w2 = nI k := q2
    subst q1
    subst q2
    have q3 : SmN ρ w := q3
    have q4 : FZ n F z w := q4
    have q5 : V12 z.1 f' w := q5
    obtain ⟨ρ', b', s1, s2, s3, s4, s5⟩ := farS (N := N) (b := b) hz hl hr q6.2.2.1 hk q4 q5
    refine ⟨_, s1, fst_ (ldz n F z) r f' k, b', rfl, rfl, q3.tr s2, s3, s4, q6.step hk, fun hb => ?_, fun hb => ?_⟩
    · rcases s5 with ⟨e1, e2⟩ | ⟨e1, -⟩
      · rw [e2]; exact q7 (e1.symm.trans hb)
      · rw [e1] at hb; cases hb
    · rcases s5 with ⟨e1, e2⟩ | ⟨-, e2⟩
      · rw [e2]; exact q8 (e1.symm.trans hb)
      · cases hbb : b with
        | false => rw [q7 hbb] at e2; rw [q7 hbb]; exact e2
        | true => exact Nat.lt_trans e2 (q8 hbb)
  · obtain ⟨w1, w2, w⟩ := w
    obtain ⟨f', b, q1, q2, q3, q4, q5, q6, q7, q8⟩ := hI
    have q2 : w2 = nI (28 * z.1) := q2
    subst q2
    have q4 : FZ n F z w := q4
    refine ⟨(w1, w), ?_, f', b, q1, q3, q4, q5, q6, q7, q8⟩
    show f_X6_findFar_b70 N w1 (nI (r + 1)) (nI (28 * z.1)) w = _
    unfold f_X6_findFar_b70
    rw [q4.1.1, show (28 : Int32) = nI 28 from rfl, pk_mul, if_pos (Int32.le_refl _)]
/-- all rings -/
theorem farA (hN : 17000 ≤ N) {z : BZ} {Tl : Nat → Bool} (hz : z.1 ≤ 580) (hl : ∀ k j, k < 28 * z.1 → ldz n F z k = some j → j < z.1) : ∀ (u r : Nat) (f : Nat → Option Nat) (ρ : St), r + noF f z.1 ≤ 580 → noF f z.1 ≤ u → RS z.1 (ldz n F z) Tl r f → FZ n F z ρ → V12 z.1 f ρ → ∀ N', u + 1 < N' → ∃ ρ' f', lpF (fun w => f_X6_findFar_b61 N w.1 w.2.1 w.2.2) N' ((1 : Int32), nI (r + 1), ρ) = some ρ' ∧ SmN ρ ρ' ∧ FZ n F z ρ' ∧ V12 z.1 f' ρ' ∧ FarOK z.1 (ldz n F z) Tl f' ∧ ∀ i d, i < z.1 → f' i = some d → d ≤ 580 := by
  intro u
  induction u with
  | zero =>
    intro r f ρ hr hu hS h1 h2 N' hN'
    obtain ⟨c, rfl⟩ : ∃ c, N' = c + 1 + 1 := ⟨N' - 2, by omega⟩
    obtain ⟨ρ', f', b, k1, k2, k3, k4, k5, k6, k7⟩ := farR hN hz hl (by omega) hS h1 h2
    have hB : f_X6_findFar_b61 N (1 : Int32) (nI (r + 1)) ρ = some (.inl (b2 b, nI (r + 1 + 1), ρ')) := by
      unfold f_X6_findFar_b61 f_X6_findFar_j148
      rw [i10, k1, bd_s, nm_v, nI_1]
    rw [lp_s]
    show ∃ ρ' f', Option.bind (f_X6_findFar_b61 N (1 : Int32) (nI (r + 1)) ρ) _ = some ρ' ∧ _
    rw [hB]
    cases hb : b with
    | true => have := k7 hb; omega
    | false =>
      have e := k6 hb
      subst e
      refine ⟨ρ', f', ?_, k2, k3, k4, RI.far hS k5 hl, fun i d hi hd => ?_⟩
      · show lpF (fun w => f_X6_findFar_b61 N w.1 w.2.1 w.2.2) (c + 1) (b2 false, nI (r + 1 + 1), ρ') = some ρ'
        rw [lp_s]
        rfl
      · have := hS.2.2.1 i d hi hd
        omega
  | succ u ih =>
    intro r f ρ hr hu hS h1 h2 N' hN'
    obtain ⟨c, rfl⟩ : ∃ c, N' = c + 1 + 1 := ⟨N' - 2, by omega⟩
    obtain ⟨ρ', f', b, k1, k2, k3, k4, k5, k6, k7⟩ := farR hN hz hl (by omega) hS h1 h2
    have hB : f_X6_findFar_b61 N (1 : Int32) (nI (r + 1)) ρ = some (.inl (b2 b, nI (r + 1 + 1), ρ')) := by
      unfold f_X6_findFar_b61 f_X6_findFar_j148
      rw [i10, k1, bd_s, nm_v, nI_1]
    rw [lp_s]
    show ∃ ρ' f', Option.bind (f_X6_findFar_b61 N (1 : Int32) (nI (r + 1)) ρ) _ = some ρ' ∧ _
    rw [hB]
    cases hb : b with
    | true =>
      have hlt := k7 hb
      obtain ⟨ρ2, f2, g1, g2, g3⟩ := ih (r + 1) f' ρ' (by omega) (by omega) k5.rs k3 k4 (c + 1) (by omega)
      exact ⟨ρ2, f2, g1, k2.tr g2, g3⟩
    | false =>
      have e := k6 hb
      subst e
      refine ⟨ρ', f', ?_, k2, k3, k4, RI.far hS k5 hl, fun i d hi hd => ?_⟩
      · show lpF (fun w => f_X6_findFar_b61 N w.1 w.2.1 w.2.2) (c + 1) (b2 false, nI (r + 1 + 1), ρ') = some ρ'
        rw [lp_s]
        rfl
      · have := hS.2.2.1 i d hi hd
        omega
theorem findFar6 (hN : 17000 ≤ N) (hA : RA C n s K G M σ τ) {z : BZ} {B : Nat} (hz : z.1 ≤ 580) (hv : ∀ j, j < z.1 → vld n (z.2.1 j) = true) (hl : ∀ k j, k < 28 * z.1 → ldz n F z k = some j → j < z.1) (hb : B + n ≤ 240) (hx : ∀ d, d < n → τ.1 3 (B + d) = nI (x d)) (h4 : ∀ d, d < n → x d ≤ 4) (h1 : FZ n F z τ) : ∃ τ' f, f_X6_findFar N (nI B) τ = some τ' ∧ RA C n s K G M σ τ' ∧ FZ n F z τ' ∧ V12 z.1 f τ' ∧ FarOK z.1 (ldz n F z) (fun i => tlB n x (z.2.1 i)) f ∧ ∀ i d, i < z.1 → f i = some d → d ≤ 580 := by
  have hn := hA.1.1
  have hvs := hA.2.1.1
  unfold f_X6_findFar
  rw [nestNow6 (by omega) hA, bd_s]
  have key := lp_inv (fun w => f_X6_findFar_b7 N (nI B) (nI (nst s)) w.1 w.2) (fun i w => w.1 = nI i ∧ (∃ s', RA C n s' K G M (wS σ 0 1 (nI s')) w.2) ∧ FZ n F z w.2 ∧ w.2.1 3 = τ.1 3 ∧ ∀ q, q < i → w.2.1 12 q = o9 (if tlB n x (z.2.1 q) = true then some 0 else none)) z.1 (fun o => (∃ s', RA C n s' K G M (wS σ 0 1 (nI s')) o) ∧ FZ n F z o ∧ ∀ q, q < z.1 → o.1 12 q = o9 (if tlB n x (z.2.1 q) = true then some 0 else none))
    (fun i w hi hI => ?_) (fun w hI => ?_) z.1 0 ((0 : Int32), τ) (by omega) ⟨rfl, ⟨s, hA.self⟩, h1, rfl, fun q hq => absurd hq (by omega)⟩ N (by omega)
  · obtain ⟨ρ, k1, ⟨s', k2⟩, k3, k4⟩ := key
    obtain ⟨ρ1, b1, b2_, b3⟩ := beN (N := N) (by omega) k2 hvs
    rw [← hA.2.1.2.1, wS_id] at b2_
    rw [k1, bd_s]
    unfold f_X6_findFar_j51
    rw [b1, bd_s]
    have hi0 : ∀ i, i < z.1 → (fun q => if tlB n x (z.2.1 q) = true then some 0 else none) i = if (fun i => tlB n x (z.2.1 i)) i = true then some 0 else none := fun i _ => rfl
    have hnf := noF_le (fun q => if tlB n x (z.2.1 q) = true then some 0 else none) z.1
    obtain ⟨ρ2, f2, g1, g2, g3, g4, g5, g6⟩ := farA (N := N) hN hz hl z.1 0 (fun q => if tlB n x (z.2.1 q) = true then some 0 else none) ρ1 (by omega) hnf (RS.init hi0) (k3.sm b3) (fun i hi => by rw [b3.2 12 (by decide) (by decide)]; exact k4 i hi) N (by omega)
    have g1 : lpF (fun w => f_X6_findFar_b61 N w.1 w.2.1 w.2.2) N ((1 : Int32), (1 : Int32), ρ1) = some ρ2 := g1
    rw [g1]
    exact ⟨ρ2, f2, rfl, b2_.smn g2, g3, g4, g5, g6⟩
  · obtain ⟨y, w⟩ := w
    obtain ⟨q1, ⟨s', q2⟩, q3, q4, q5⟩ := hI
    have q1 : y = nI i := q1
    subst q1
    have q2 : RA C n s' K G M (wS σ 0 1 (nI s')) w := q2
    have q3 : FZ n F z w := q3
    have q4 : w.1 3 = τ.1 3 := q4
    have q5 : ∀ q, q < i → w.1 12 q = o9 (if tlB n x (z.2.1 q) = true then some 0 else none) := q5
    obtain ⟨ρ, b1, b2_, b3⟩ := beN (N := N) (by omega) q2 (hv i hi)
    have e3 : ρ.1 3 = τ.1 3 := (b3.2 3 (by decide) (by decide)).trans q4
    have ht := isTold6 (N := N) (by omega) b2_ hb (fun d hd => by rw [e3]; exact hx d hd) h4
    show ∃ s', f_X6_findFar_b7 N (nI B) (nI (nst s)) (nI i) w = some (Sum.inl s') ∧ _
    unfold f_X6_findFar_b7 f_X6_findFar_j44
    rw [q3.1.1, if_neg (nI_ge hi (by omega)), ck_nI (by omega) (by omega), gd_t, nI_clamp (by omega), (q3.1.2.1 i hi).1, b1, bd_s, ht, bd_s, ib2, gd_t, gd_t, nm_v, nm_v, nm_v, nm_v, nI_1]
    have fin : ∀ v : Int32, v = o9 (if tlB n x (z.2.1 i) = true then some 0 else none) → (∃ s', RA C n s' K G M (wS σ 0 1 (nI s')) (wS ρ 12 i v)) ∧ FZ n F z (wS ρ 12 i v) ∧ (wS ρ 12 i v).1 3 = τ.1 3 ∧ ∀ q, q < i + 1 → (wS ρ 12 i v).1 12 q = o9 (if tlB n x (z.2.1 q) = true then some 0 else none) := by
      intro v hv
      refine ⟨⟨_, b2_.smn (sm12 _ _ _)⟩, (q3.sm b3).w12 _ _, e3, fun q hq => ?_⟩
      rw [wS_0]
      by_cases w' : q = i
      · rw [w', upd_0, hv]
      · rw [upd_n _ _ w', b3.2 12 (by decide) (by decide)]
        exact q5 q (by omega)
    cases htl : tlB n x (z.2.1 i) with
    | false =>
      rw [if_neg (by decide)]
      exact ⟨_, rfl, rfl, fin (-9) (by rw [htl]; rfl)⟩
    | true =>
      rw [if_pos rfl]
      exact ⟨_, rfl, rfl, fin 0 (by rw [htl]; rfl)⟩
  · obtain ⟨y, w⟩ := w
    obtain ⟨q1, q2, q3, q4, q5⟩ := hI
    have q1 : y = nI z.1 := q1
    subst q1
    have q3 : FZ n F z w := q3
    refine ⟨w, ?_, q2, q3, q5⟩
    show f_X6_findFar_b7 N (nI B) (nI (nst s)) (nI z.1) w = _
    unfold f_X6_findFar_b7
    rw [q3.1.1, if_pos (Int32.le_refl _)]
end FarRows
