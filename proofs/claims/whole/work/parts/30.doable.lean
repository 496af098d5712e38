section DoableRows
variable {C : CaT} {N : Nat} {n s : Nat} {K G M : Nat → Nat} {σ τ : St}
theorem bt_nI {m i : Nat} (hm : m < 2 ^ 31) : bt (nI m) i = bi m i := by
  unfold bt bi
  show (nI m).toBitVec.toNat.testBit i = _
  rw [pk_tn (by omega), Nat.testBit_eq_decide_div_mod_eq]
theorem bt_1 : ∀ i, i < 32 → bt 1 i = decide (i = 0) := by decide +kernel
theorem bt_b2 (b : Bool) {j : Nat} (hj : j < 32) : bt (b2 b) j = (b && decide (j = 0)) := by
  cases b with
  | false => exact b_0 j
  | true => exact bt_1 j hj
theorem shr1 (x : Int32) {i : Nat} (hi : i < 32) : (x >>> (nI i &&& 31)) &&& (1 : Int32) = b2 (bt x i) := by
  apply b_ext
  intro j hj
  rw [b_and, b_sshr i hi x hj, bt_1 j hj, bt_b2 _ hj]
  by_cases q : j = 0
  · subst q
    rw [if_pos (by omega), Nat.add_zero]
  · rw [decide_eq_false q, Bool.and_false, Bool.and_false]
theorem hasX (x : Int32) {i : Nat} (hi : i < 32) : f_X5_has x (nI i) = some (b2 (bt x i)) := by
  unfold f_X5_has
  rw [shr1 x hi]
  cases bt x i <;> rfl
theorem bi_big {m i : Nat} (hm : m < 16) (hi : 4 ≤ i) : bi m i = false := by
  have h : 2 ^ 4 ≤ 2 ^ i := Nat.pow_le_pow_right (by omega) hi
  unfold bi
  rw [Nat.div_eq_of_lt (by omega)]
  rfl
theorem bt_ss (P : Nat → Bool) (hn : n ≤ 4) (i : Nat) : bt (nI (ss P n)) i = (decide (i < n) && P i) := by
  have h := ss_lt P n hn
  rw [bt_nI (by omega)]
  by_cases q : i < 4
  · exact ss_bi P n hn i q
  · rw [bi_big h (by omega), decide_eq_false (by omega), Bool.false_and]
theorem oN_big (hs : s < 65536) {i : Nat} (hi : 4 ≤ i) : oN s i = false := bi_big (by omega) hi
theorem bt_op (hs : s < 65536) (i : Nat) : bt (nI (s / 4096)) i = oN s i := bt_nI (by omega)
theorem nb_f {a b : Nat} (h : a ≠ b) : Nat.beq a b = false := by
  cases q : Nat.beq a b with
  | false => rfl
  | true => exact absurd (Nat.eq_of_beq_eq_true q) h
theorem nb_t {a b : Nat} (h : a = b) : Nat.beq a b = true := Nat.beq_eq.mpr h
/-- one of the first k is so -/
def anyU (Q : Nat → Bool) : Nat → Bool
  | 0 => false
  | k + 1 => anyU Q k || Q k
theorem anyU_no {Q : Nat → Bool} : ∀ k, (∀ d, d < k → Q d = false) → anyU Q k = false := by
  intro k
  induction k with
  | zero => intro _; rfl
  | succ k ih =>
    intro h
    show (anyU Q k || Q k) = false
    rw [ih (fun d hd => h d (by omega)), h k (by omega)]
    rfl
theorem anyU_one {Q : Nat → Bool} {D : Nat} : ∀ k, (∀ d, d < k → d ≠ D → Q d = false) → anyU Q k = (decide (D < k) && Q D) := by
  intro k
  induction k with
  | zero => intro _; rfl
  | succ k ih =>
    intro h
    show (anyU Q k || Q k) = _
    rw [ih (fun d hd => h d (by omega))]
    by_cases q : D = k
    · subst q
      rw [decide_eq_false (by omega), decide_eq_true (by omega), Bool.false_and, Bool.false_or, Bool.true_and]
    · rw [h k (by omega) (fun z => q z.symm), Bool.or_false]
      by_cases z : D < k
      · rw [decide_eq_true z, decide_eq_true (by omega)]
      · rw [decide_eq_false z, decide_eq_false (by omega)]
theorem anyU_congr {Q R : Nat → Bool} : ∀ k, (∀ d, d < k → Q d = R d) → anyU Q k = anyU R k := by
  intro k
  induction k with
  | zero => intro _; rfl
  | succ k ih =>
    intro h
    show (anyU Q k || Q k) = (anyU R k || R k)
    rw [ih (fun d hd => h d (by omega)), h k (by omega)]
/-- those with one of X right in them -/
def ou (s : Nat) (X : Nat → Bool) (i : Nat) : Bool := anyU (fun d => X d && Nat.beq (pl s d) (i + 1)) 4
def oa (s : Nat) (X : Nat → Bool) : Nat → Int32
  | 0 => 0
  | k + 1 => if (X k && !Nat.beq (pl s k) 0) = true then oa s X k ||| ((1 : Int32) <<< (nI (pl s k - 1) &&& 31)) else oa s X k
theorem oa_bt (X : Nat → Bool) {i : Nat} (hi : i < 32) : ∀ k, bt (oa s X k) i = anyU (fun d => X d && Nat.beq (pl s d) (i + 1)) k := by
  intro k
  induction k with
  | zero => exact b_0 i
  | succ k ih =>
    show bt (if (X k && !Nat.beq (pl s k) 0) = true then oa s X k ||| ((1 : Int32) <<< (nI (pl s k - 1) &&& 31)) else oa s X k) i = (anyU (fun d => X d && Nat.beq (pl s d) (i + 1)) k || (X k && Nat.beq (pl s k) (i + 1)))
    have hp := pl_lt s k
    cases hx : X k with
    | false => rw [Bool.false_and, Bool.false_and, if_neg (by decide), ih, Bool.or_false]
    | true =>
      rw [Bool.true_and, Bool.true_and]
      by_cases q : pl s k = 0
      · rw [q, if_neg (by decide), ih, nb_f (by omega), Bool.or_false]
      · rw [nb_f q, if_pos (by decide), b_or, ih, b_shl _ (by omega) _ hi]
        by_cases z : pl s k = i + 1
        · rw [nb_t z, z, show i + 1 - 1 = i by omega, show i - i = 0 by omega, decide_eq_true (Nat.le_refl i)]
          rfl
        · rw [nb_f z]
          by_cases y : pl s k - 1 ≤ i
          · rw [bt_1 _ (by omega), decide_eq_false (show ¬ i - (pl s k - 1) = 0 by omega), Bool.and_false]
          · rw [decide_eq_false y, Bool.false_and]
theorem outers5 (hN : 100 ≤ N) (hs : s < 65536) (x : Int32) (X : Nat → Bool) (hX : ∀ d, d < 4 → bt x d = X d) : f_X3_outersOf N (nI s) x = some (oa s X 4) := by
  unfold f_X3_outersOf
  have key := lp_for (fun z => f_X3_outersOf_b4 N (nI s) x z.1 z.2) (fun i => (oa s X i, nI i)) (oa s X 4) 4 0 (fun j _ hj => ?_) ?_ N (by omega)
  · rw [show (((0 : Int32), (0 : Int32)) : Int32 × Int32) = (oa s X 0, nI 0) from rfl, key]
    rfl
  · have hj : j < 4 := by omega
    show f_X3_outersOf_b4 N (nI s) x (oa s X j) (nI j) = some (Sum.inl ((if (X j && !Nat.beq (pl s j) 0) = true then oa s X j ||| ((1 : Int32) <<< (nI (pl s j - 1) &&& 31)) else oa s X j), nI (j + 1)))
    unfold f_X3_outersOf_b4 f_X3_outersOf_j38
    have hp := pl_lt s j
    rw [if_neg (show ¬ (4 : Int32) ≤ nI j from nI_ge (a := j) (b := 4) hj (by omega)), place5 (by omega) (by omega), bd_s, hasX x (by omega), bd_s, hX j hj]
    cases hx : X j with
    | false => rw [b2_f, i00, nm_v, nI_1, Bool.false_and, if_neg (by decide)]
    | true =>
      rw [b2_t, i10]
      by_cases q : pl s j = 0
      · rw [q, show nI 0 = (0 : Int32) from rfl, i00, nm_v, nI_1]
        rfl
      · rw [if_neg (nI_ne0 (by omega) (by omega)), show nI (pl s j) - (1 : Int32) = nI (pl s j - 1) from pk_sub (a := pl s j) (b := 1) (by omega), nm_v, nm_v, nI_1, nb_f q]
        rfl
  · show f_X3_outersOf_b4 N (nI s) x (oa s X 4) (nI 4) = _
    unfold f_X3_outersOf_b4
    rw [if_pos (show (4 : Int32) ≤ nI 4 by decide)]
def hN_ (n s i : Nat) : Bool := decide (i < n) && hnd s i
def tN_ (n s i : Nat) : Bool := decide (i < n) && tb s i
def dP (n s i : Nat) : Bool := hN_ n s i && oN s i && !ou s (fun _ => true) i
theorem hN_big (hn : n ≤ 4) {i : Nat} (hi : 4 ≤ i) : hN_ n s i = false := by
  unfold hN_
  rw [decide_eq_false (by omega), Bool.false_and]
theorem dP_big (hn : n ≤ 4) {i : Nat} (hi : 4 ≤ i) : dP n s i = false := by
  unfold dP
  rw [hN_big hn hi, Bool.false_and, Bool.false_and]
/-- what can be done at s, as bits -/
def cdo (n s : Nat) (F : Nat → Nat → Bool) (a : Nat) : Bool :=
  if a < 4 then hN_ n s a && !oN s a
  else if a < 8 then hN_ n s (a - 4) && oN s (a - 4) && !ou s (oN s) (a - 4)
  else if a < 12 then hN_ n s (a - 8) && !tN_ n s (a - 8)
  else (tN_ n s ((a - 12) / 4) && !oN s ((a - 12) / 4)) && (dP n s ((a - 12) % 4) && F ((a - 12) / 4) ((a - 12) % 4))
def da (n s : Nat) (x7 x6 F : Int32) : Nat → Int32
  | 0 => x7
  | k + 1 => if (tN_ n s k && !oN s k) = true then da n s x7 x6 F k ||| ((x6 &&& (F >>> (nI (4 * k) &&& 31))) <<< (nI (12 + 4 * k) &&& 31)) else da n s x7 x6 F k
def dQ (n s : Nat) (F : Int32) (i d : Nat) : Bool := (tN_ n s d && !oN s d) && (decide (12 + 4 * d ≤ i) && (dP n s (i - (12 + 4 * d)) && (if 4 * d + (i - (12 + 4 * d)) < 32 then bt F (4 * d + (i - (12 + 4 * d))) else bt F 31)))
theorem da_bt {x7 x6 F : Int32} (h6 : ∀ i, i < 32 → bt x6 i = dP n s i) {i : Nat} (hi : i < 32) : ∀ k, k ≤ 4 → bt (da n s x7 x6 F k) i = (bt x7 i || anyU (dQ n s F i) k) := by
  intro k
  induction k with
  | zero => intro _; exact (Bool.or_false _).symm
  | succ k ih =>
    intro hk
    show bt (if (tN_ n s k && !oN s k) = true then da n s x7 x6 F k ||| ((x6 &&& (F >>> (nI (4 * k) &&& 31))) <<< (nI (12 + 4 * k) &&& 31)) else da n s x7 x6 F k) i = (bt x7 i || (anyU (dQ n s F i) k || dQ n s F i k))
    unfold dQ
    cases hx : (tN_ n s k && !oN s k) with
    | false => rw [if_neg (by decide), ih (by omega), Bool.false_and, Bool.or_false]; rfl
    | true =>
      rw [if_pos rfl, b_or, ih (by omega), b_shl _ (by omega) _ hi, Bool.true_and, ← Bool.or_assoc]
      by_cases z : 12 + 4 * k ≤ i
      · rw [decide_eq_true z, Bool.true_and, Bool.true_and, b_and, h6 _ (by omega), b_sshr _ (by omega) _ (by omega)]
        rfl
      · rw [decide_eq_false z, Bool.false_and, Bool.false_and]
        rfl
def dB (n s i : Nat) : Bool := ((hN_ n s i && !oN s i) || (decide (4 ≤ i) && (hN_ n s (i - 4) && oN s (i - 4) && !ou s (oN s) (i - 4)))) || (decide (8 ≤ i) && (hN_ n s (i - 8) && !tN_ n s (i - 8)))
theorem dB_cdo (hn : n ≤ 4) (hs : s < 65536) {F : Int32} {a : Nat} (ha : a < 32) : (dB n s a || anyU (dQ n s F a) n) = (decide (a < 28) && cdo n s (fun d e => bt F (4 * d + e)) a) := by
  unfold dB cdo
  by_cases h4 : a < 4
  · rw [if_pos h4, decide_eq_false (show ¬ 4 ≤ a by omega), decide_eq_false (show ¬ 8 ≤ a by omega), decide_eq_true (show a < 28 by omega), anyU_no n (fun d hd => by unfold dQ; rw [decide_eq_false (by omega), Bool.false_and, Bool.and_false])]
    simp only [Bool.false_and, Bool.or_false, Bool.true_and]
  rw [if_neg h4, hN_big hn (show 4 ≤ a by omega), Bool.false_and, Bool.false_or, decide_eq_true (show 4 ≤ a by omega), Bool.true_and]
  by_cases h8 : a < 8
  · rw [if_pos h8, decide_eq_false (show ¬ 8 ≤ a by omega), decide_eq_true (show a < 28 by omega), anyU_no n (fun d hd => by unfold dQ; rw [decide_eq_false (by omega), Bool.false_and, Bool.and_false])]
    simp only [Bool.false_and, Bool.or_false, Bool.true_and]
  rw [if_neg h8, hN_big hn (show 4 ≤ a - 4 by omega), Bool.false_and, Bool.false_and, Bool.false_or, decide_eq_true (show 8 ≤ a by omega), Bool.true_and]
  by_cases h12 : a < 12
  · rw [if_pos h12, decide_eq_true (show a < 28 by omega), anyU_no n (fun d hd => by unfold dQ; rw [decide_eq_false (by omega), Bool.false_and, Bool.and_false])]
    simp only [Bool.or_false, Bool.true_and]
  rw [if_neg h12, hN_big hn (show 4 ≤ a - 8 by omega), Bool.false_and, Bool.false_or]
  by_cases h28 : a < 28
  · rw [decide_eq_true h28, Bool.true_and, anyU_one (D := (a - 12) / 4) n (fun d hd hne => ?_)]
    · have e1 : a - (12 + 4 * ((a - 12) / 4)) = (a - 12) % 4 := by omega
      unfold dQ tN_
      rw [e1, decide_eq_true (show 12 + 4 * ((a - 12) / 4) ≤ a by omega), if_pos (show 4 * ((a - 12) / 4) + (a - 12) % 4 < 32 by omega)]
      cases decide ((a - 12) / 4 < n) with
      | false => rfl
      | true => rfl
    · unfold dQ
      by_cases z : 12 + 4 * d ≤ a
      · rw [dP_big hn (show 4 ≤ a - (12 + 4 * d) by omega), Bool.false_and, Bool.and_false, Bool.and_false]
      · rw [decide_eq_false z, Bool.false_and, Bool.and_false]
  · rw [decide_eq_false h28, Bool.false_and]
    refine anyU_no n (fun d hd => ?_)
    unfold dQ
    rw [dP_big hn (show 4 ≤ a - (12 + 4 * d) by omega), Bool.false_and, Bool.and_false, Bool.and_false]
theorem bt_15 : ∀ d, d < 4 → bt 15 d = true := by decide +kernel
theorem doable5 (hN : 100 ≤ N) (hn : n ≤ 4) (hs : s < 65536) (F : Int32) : ∃ r, f_X3_doable N (nI s) (nI n) F = some r ∧ ∀ a, a < 32 → bt r a = (decide (a < 28) && cdo n s (fun d e => bt F (4 * d + e)) a) := by
  have hh : ∀ i, bt (nI (ss (hnd s) n)) i = hN_ n s i := fun i => bt_ss (hnd s) hn i
  have ht : ∀ i, bt (nI (ss (tb s) n)) i = tN_ n s i := fun i => bt_ss (tb s) hn i
  have h6 : ∀ i, i < 32 → bt ((nI (ss (hnd s) n) &&& nI (s / 4096)) &&& (oa s (fun _ => true) 4 ^^^ (-1 : Int32))) i = dP n s i := by
    intro i hi
    rw [b_and, b_and, b_xor, hh, bt_op hs, oa_bt _ hi, b_m1 i hi, Bool.xor_true]
    rfl
  have h7 : ∀ i, i < 32 → bt (((nI (ss (hnd s) n) &&& (nI (s / 4096) ^^^ (-1 : Int32))) ||| (((nI (ss (hnd s) n) &&& nI (s / 4096)) &&& (oa s (oN s) 4 ^^^ (-1 : Int32))) <<< ((4 : Int32) &&& 31))) ||| ((nI (ss (hnd s) n) &&& (nI (ss (tb s) n) ^^^ (-1 : Int32))) <<< ((8 : Int32) &&& 31))) i = dB n s i := by
    intro i hi
    rw [show (4 : Int32) = nI 4 from rfl, show (8 : Int32) = nI 8 from rfl, b_or, b_or, b_shl 4 (by omega) _ hi, b_shl 8 (by omega) _ hi, b_and, b_xor, b_and, b_and, b_and, b_xor, b_xor, hh, hh, hh, ht, bt_op hs, bt_op hs, oa_bt _ (by omega), b_m1 i hi, b_m1 _ (by omega), b_m1 _ (by omega), Bool.xor_true, Bool.xor_true, Bool.xor_true]
    rfl
  unfold f_X3_doable
  rw [handS5 hN hs hn, bd_s, tableS5 hN hs hn, bd_s, open5 hs, bd_s, outers5 hN hs 15 (fun _ => true) bt_15, bd_s, nm_v, nm_v, outers5 hN hs (nI (s / 4096)) (oN s) (fun d _ => bt_op hs d), bd_s, nm_v, nm_v]
  generalize (nI (ss (hnd s) n) &&& nI (s / 4096)) &&& (oa s (fun _ => true) 4 ^^^ (-1 : Int32)) = x6 at h6 ⊢
  generalize ((nI (ss (hnd s) n) &&& (nI (s / 4096) ^^^ (-1 : Int32))) ||| (((nI (ss (hnd s) n) &&& nI (s / 4096)) &&& (oa s (oN s) 4 ^^^ (-1 : Int32))) <<< ((4 : Int32) &&& 31))) ||| ((nI (ss (hnd s) n) &&& (nI (ss (tb s) n) ^^^ (-1 : Int32))) <<< ((8 : Int32) &&& 31)) = x7 at h7 ⊢
  refine ⟨da n s x7 x6 F n, ?_, fun a ha => ?_⟩
  · have key := lp_for (fun z => f_X3_doable_b79 N (nI n) F (nI (ss (tb s) n)) (nI (s / 4096)) x6 z.1 z.2) (fun i => (da n s x7 x6 F i, nI i)) (da n s x7 x6 F n) n 0 (fun j _ hj => ?_) ?_ N (by omega)
    · rw [show ((x7, (0 : Int32)) : Int32 × Int32) = (da n s x7 x6 F 0, nI 0) from rfl, key]
      rfl
    · have hj : j < n := by omega
      show f_X3_doable_b79 N (nI n) F (nI (ss (tb s) n)) (nI (s / 4096)) x6 (da n s x7 x6 F j) (nI j) = some (Sum.inl ((if (tN_ n s j && !oN s j) = true then da n s x7 x6 F j ||| ((x6 &&& (F >>> (nI (4 * j) &&& 31))) <<< (nI (12 + 4 * j) &&& 31)) else da n s x7 x6 F j), nI (j + 1)))
      unfold f_X3_doable_b79 f_X3_doable_j122
      rw [if_neg (nI_ge hj (by omega)), hasX _ (by omega), bd_s, b_and, b_xor, ht, bt_op hs, b_m1 j (by omega), Bool.xor_true, show (4 : Int32) = nI 4 from rfl, show (12 : Int32) = nI 12 from rfl, pk_mul, nI_add]
      cases hx : (tN_ n s j && !oN s j) with
      | false => rw [b2_f, i00, nm_v, nI_1, if_neg (by decide)]
      | true => rw [b2_t, i10, nm_v, nm_v, nI_1, if_pos rfl]
    · rw [Nat.zero_add]
      show f_X3_doable_b79 N (nI n) F (nI (ss (tb s) n)) (nI (s / 4096)) x6 (da n s x7 x6 F n) (nI n) = _
      unfold f_X3_doable_b79
      rw [if_pos (Int32.le_refl _)]
  · rw [da_bt h6 ha n hn, h7 a ha, dB_cdo hn hs ha]
/-- what fits into what, as bits -/
def fr (P : Nat → Nat → Bool) (x : Int32) (d : Nat) : Nat → Int32
  | 0 => x
  | e + 1 => if P d e = true then fr P x d e ||| ((1 : Int32) <<< (nI (4 * d + e) &&& 31)) else fr P x d e
def fo (P : Nat → Nat → Bool) (n : Nat) : Nat → Int32
  | 0 => 0
  | d + 1 => fr P (fo P n d) d n
theorem fr_bt (P : Nat → Nat → Bool) (x : Int32) {d i : Nat} (hd : d < 4) (hi : i < 32) : ∀ k, k ≤ 4 → bt (fr P x d k) i = (bt x i || anyU (fun e => P d e && Nat.beq i (4 * d + e)) k) := by
  intro k
  induction k with
  | zero => intro _; exact (Bool.or_false _).symm
  | succ k ih =>
    intro hk
    show bt (if P d k = true then fr P x d k ||| ((1 : Int32) <<< (nI (4 * d + k) &&& 31)) else fr P x d k) i = (bt x i || (anyU (fun e => P d e && Nat.beq i (4 * d + e)) k || (P d k && Nat.beq i (4 * d + k))))
    cases hx : P d k with
    | false => rw [if_neg (by decide), ih (by omega), Bool.false_and, Bool.or_false]
    | true =>
      rw [if_pos rfl, b_or, ih (by omega), b_shl _ (by omega) _ hi, Bool.true_and, ← Bool.or_assoc]
      by_cases z : 4 * d + k ≤ i
      · rw [decide_eq_true z, Bool.true_and, bt_1 _ (by omega)]
        by_cases y : i = 4 * d + k
        · rw [nb_t y, decide_eq_true (by omega)]
        · rw [nb_f y, decide_eq_false (by omega)]
      · rw [decide_eq_false z, Bool.false_and, nb_f (by omega)]
theorem fo_bt (P : Nat → Nat → Bool) (hn : n ≤ 4) {i : Nat} (hi : i < 32) : ∀ k, k ≤ 4 → bt (fo P n k) i = anyU (fun d => anyU (fun e => P d e && Nat.beq i (4 * d + e)) n) k := by
  intro k
  induction k with
  | zero => intro _; exact b_0 i
  | succ k ih =>
    intro hk
    show bt (fr P (fo P n k) k n) i = (anyU (fun d => anyU (fun e => P d e && Nat.beq i (4 * d + e)) n) k || anyU (fun e => P k e && Nat.beq i (4 * k + e)) n)
    rw [fr_bt P _ (by omega) hi n hn, ih (by omega)]
theorem fo_at (P : Nat → Nat → Bool) (hn : n ≤ 4) {D E : Nat} (hD : D < 4) (hE : E < 4) : bt (fo P n n) (4 * D + E) = (decide (D < n) && (decide (E < n) && P D E)) := by
  rw [fo_bt P hn (by omega) n hn, anyU_one (D := D) n (fun d hd hne => anyU_no n (fun e he => by rw [nb_f (by omega), Bool.and_false])), anyU_one (D := E) n (fun e he hne => by rw [nb_f (by omega), Bool.and_false]), nb_t rfl, Bool.and_true]
theorem fo_big (P : Nat → Nat → Bool) (hn : n ≤ 4) {i : Nat} (h16 : 16 ≤ i) (hi : i < 32) : bt (fo P n n) i = false := by
  rw [fo_bt P hn hi n hn]
  exact anyU_no n (fun d hd => anyU_no n (fun e he => by rw [nb_f (by omega), Bool.and_false]))
def fP (K G M : Nat → Nat) (d e : Nat) : Bool := !Nat.beq d e && fitB K G M d e
theorem fitting5 (hN : 100 ≤ N) (hA : RA C n s K G M σ τ) : f_X5_fitting N σ = some (fo (fP K G M) n n) := by
  have hn := hA.1.1
  have e5 := hA.1.2.1
  unfold f_X5_fitting
  have key := lp_for (fun z => f_X5_fitting_b4 N z.1 z.2 σ) (fun i => (fo (fP K G M) n i, nI i)) (fo (fP K G M) n n) n 0 (fun d _ hd => ?_) ?_ N (by omega)
  · rw [show (((0 : Int32), (0 : Int32)) : Int32 × Int32) = (fo (fP K G M) n 0, nI 0) from rfl, key]
    rfl
  · have hd : d < n := by omega
    show f_X5_fitting_b4 N (fo (fP K G M) n d) (nI d) σ = some (Sum.inl (fr (fP K G M) (fo (fP K G M) n d) d n, nI (d + 1)))
    unfold f_X5_fitting_b4 f_X5_fitting_j61
    rw [e5, if_neg (nI_ge hd (by omega))]
    generalize fo (fP K G M) n d = x
    have k2 := lp_for (fun z => f_X5_fitting_b14 N z.1 (nI d) z.2 σ) (fun i => (fr (fP K G M) x d i, nI i)) (fr (fP K G M) x d n) n 0 (fun e _ he => ?_) ?_ N (by omega)
    · rw [show ((x, (0 : Int32)) : Int32 × Int32) = (fr (fP K G M) x d 0, nI 0) from rfl, k2, bd_s, nm_v, nI_1]
    · have he : e < n := by omega
      show f_X5_fitting_b14 N (fr (fP K G M) x d e) (nI d) (nI e) σ = some (Sum.inl ((if fP K G M d e = true then fr (fP K G M) x d e ||| ((1 : Int32) <<< (nI (4 * d + e) &&& 31)) else fr (fP K G M) x d e), nI (e + 1)))
      unfold f_X5_fitting_b14 f_X5_fitting_j55 fP
      rw [e5, if_neg (nI_ge he (by omega)), nm_v, nI_1]
      by_cases q : d = e
      · rw [if_pos (congrArg nI q), nb_t q]
        rfl
      · rw [if_neg (fun z => q (nI_inj (by omega) (by omega) z)), ck_nI (by omega) (by omega), ck_nI (by omega) (by omega), gd_t, gd_t, nI_clamp (by omega), nI_clamp (by omega), into5 hA hd he, bd_s, nb_f q, show (4 : Int32) = nI 4 from rfl, pk_mul, nI_add, Bool.not_false, Bool.true_and]
        cases fitB K G M d e with
        | false => rfl
        | true => rw [show (if true = true then (1 : Int32) else 0) = 1 from rfl, i10, nm_v, nm_v, if_pos rfl]
    · rw [Nat.zero_add]
      show f_X5_fitting_b14 N (fr (fP K G M) x d n) (nI d) (nI n) σ = _
      unfold f_X5_fitting_b14
      rw [e5, if_pos (Int32.le_refl _)]
  · rw [Nat.zero_add]
    show f_X5_fitting_b4 N (fo (fP K G M) n n) (nI n) σ = _
    unfold f_X5_fitting_b4
    rw [e5, if_pos (Int32.le_refl _)]
end DoableRows
