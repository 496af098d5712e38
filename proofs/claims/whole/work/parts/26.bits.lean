section BitRows
variable {N : Nat}
theorem shn : ∀ n, n < 32 → ((nI n &&& 31).toBitVec.smod 32).toNat = n := by decide
theorem has_n {m d : Nat} (hm : m < 2 ^ 31) (hd : d < 32) : (nI m >>> (nI d &&& 31)) &&& (1 : Int32) = nI (m / 2 ^ d % 2) := by
  rw [pk_shrN hm _ d (shn d hd), pk_andN (Nat.lt_of_le_of_lt (Nat.div_le_self _ _) (by omega)) 1 (by decide)]
/-- bit d of m -/
def bi (m d : Nat) : Bool := decide (m / 2 ^ d % 2 = 1)
theorem bi_ne {m d : Nat} (h : bi m d = false) : m / 2 ^ d % 2 = 0 := by
  have := of_decide_eq_false h
  omega
theorem bi_eq {m d : Nat} (h : bi m d = true) : m / 2 ^ d % 2 = 1 := of_decide_eq_true h
def b2 (b : Bool) : Int32 := if b = true then 1 else 0
theorem b2_t : b2 true = 1 := rfl
theorem b2_f : b2 false = 0 := rfl
theorem has5 {m d : Nat} (hm : m < 2 ^ 31) (hd : d < 32) : f_X5_has (nI m) (nI d) = some (b2 (bi m d)) := by
  unfold f_X5_has
  rw [has_n hm hd]
  cases h : bi m d with
  | false => rw [bi_ne h]; rfl
  | true => rw [bi_eq h]; rfl
theorem isOf6 {m d : Nat} (hm : m < 2 ^ 31) (hd : d < 32) : f_X6_isOf (nI m) (nI d) = some (b2 (bi m d)) := by
  unfold f_X6_isOf
  rw [has_n hm hd]
  cases h : bi m d with
  | false => rw [bi_ne h]; rfl
  | true => rw [bi_eq h]; rfl
theorem pl_lt (s d : Nat) : pl s d < 8 := Nat.mod_lt _ (by omega)
theorem place5 {s d : Nat} (hs : s < 2 ^ 31) (hd : d < 10) : f_X3_placeOf (nI s) (nI d) = some (nI (pl s d)) := by
  unfold f_X3_placeOf pl
  rw [show (3 : Int32) = nI 3 from rfl, pk_mul, pk_shrN hs _ (3 * d) (shn (3 * d) (by omega)), pk_andN (Nat.lt_of_le_of_lt (Nat.div_le_self _ _) (by omega)) 3 (by decide), Nat.pow_mul]
theorem open5 {s : Nat} (hs : s < 65536) : f_X3_openSet (nI s) = some (nI (s / 4096)) := by
  unfold f_X3_openSet
  rw [pk_shrN (by omega) _ 12 (by decide), pk_andN (by omega) 4 (by decide)]
  congr 2
  omega
/-- sets of four -/
theorem an4 : ∀ a, a < 16 → ∀ b, b < 16 → nI a &&& (nI b ^^^ (-1 : Int32)) = nI (a &&& (15 ^^^ b)) := by decide
theorem aa4 : ∀ a, a < 16 → ∀ b, b < 16 → nI a &&& nI b = nI (a &&& b) := by decide
theorem or4 : ∀ a, a < 16 → ∀ i, i < 4 → nI a ||| ((1 : Int32) <<< (nI i &&& 31)) = nI (a ||| 2 ^ i) := by decide
theorem lo4 : ∀ a, a < 16 → ∀ i, i < 4 → a ||| 2 ^ i < 16 := by decide
theorem la4 : ∀ a, a < 16 → ∀ b, b < 16 → a &&& b < 16 := by decide
theorem lx4 : ∀ b, b < 16 → 15 ^^^ b < 16 := by decide
theorem bo4 : ∀ a, a < 16 → ∀ i, i < 4 → ∀ j, j < 4 → bi (a ||| 2 ^ i) j = (bi a j || decide (i = j)) := by decide
theorem ba4 : ∀ a, a < 16 → ∀ b, b < 16 → ∀ j, j < 4 → bi (a &&& b) j = (bi a j && bi b j) := by decide
theorem bx4 : ∀ b, b < 16 → ∀ j, j < 4 → bi (15 ^^^ b) j = !bi b j := by decide
theorem bz (j : Nat) : bi 0 j = false := by
  unfold bi
  rw [Nat.zero_div]
  rfl
/-- the set of those below n of which P says so -/
def ss (P : Nat → Bool) : Nat → Nat
  | 0 => 0
  | k + 1 => if P k = true then ss P k ||| 2 ^ k else ss P k
theorem ss_lt (P : Nat → Bool) : ∀ n, n ≤ 4 → ss P n < 16 := by
  intro n
  induction n with
  | zero => intro _; exact (by decide : 0 < 16)
  | succ n ih =>
    intro h
    show (if P n = true then ss P n ||| 2 ^ n else ss P n) < 16
    split
    · exact lo4 _ (ih (by omega)) n (by omega)
    · exact ih (by omega)
theorem ss_bi (P : Nat → Bool) : ∀ n, n ≤ 4 → ∀ j, j < 4 → bi (ss P n) j = (decide (j < n) && P j) := by
  intro n
  induction n with
  | zero => intro _ j _; rw [show ss P 0 = 0 from rfl, bz]; rfl
  | succ n ih =>
    intro h j hj
    show bi (if P n = true then ss P n ||| 2 ^ n else ss P n) j = _
    have i1 := ih (by omega) j hj
    by_cases q : P n = true
    · rw [if_pos q, bo4 _ (ss_lt P n (by omega)) n (by omega) j hj, i1]
      by_cases e : n = j
      · subst e
        simp [q]
      · have : decide (j < n + 1) = decide (j < n) := by
          by_cases z : j < n
          · rw [decide_eq_true z, decide_eq_true (by omega)]
          · rw [decide_eq_false z, decide_eq_false (by omega)]
        rw [this, decide_eq_false e, Bool.or_false]
    · rw [if_neg q, i1]
      by_cases e : n = j
      · subst e
        have : P n = false := by cases hp : P n with | false => rfl | true => exact absurd hp q
        rw [this, Bool.and_false, Bool.and_false]
      · have : decide (j < n + 1) = decide (j < n) := by
          by_cases z : j < n
          · rw [decide_eq_true z, decide_eq_true (by omega)]
          · rw [decide_eq_false z, decide_eq_false (by omega)]
        rw [this]
/-- how many -/
def cnt (P : Nat → Bool) : Nat → Nat
  | 0 => 0
  | k + 1 => cnt P k + (if P k = true then 1 else 0)
theorem cnt_le (P : Nat → Bool) : ∀ n, cnt P n ≤ n := by
  intro n
  induction n with
  | zero => exact Nat.le_refl 0
  | succ n ih =>
    show cnt P n + (if P n = true then 1 else 0) ≤ n + 1
    split <;> omega
theorem bc4 : ∀ a, a < 16 → f_J6_bitCount_0f7a4 (nI a) = some (nI (a % 2 + a / 2 % 2 + a / 4 % 2 + a / 8 % 2)) := by decide
theorem bc4s : ∀ n, n < 5 → ∀ p0 p1 p2 p3 : Bool, (fun a => a % 2 + a / 2 % 2 + a / 4 % 2 + a / 8 % 2) (ss (fun k => if k = 0 then p0 else if k = 1 then p1 else if k = 2 then p2 else p3) n) = cnt (fun k => if k = 0 then p0 else if k = 1 then p1 else if k = 2 then p2 else p3) n := by decide
theorem ss_congr {P Q : Nat → Bool} : ∀ n, (∀ d, d < n → P d = Q d) → ss P n = ss Q n := by
  intro n
  induction n with
  | zero => intro _; rfl
  | succ n ih =>
    intro h
    show (if P n = true then ss P n ||| 2 ^ n else ss P n) = (if Q n = true then ss Q n ||| 2 ^ n else ss Q n)
    rw [ih (fun d hd => h d (by omega)), h n (by omega)]
theorem cnt_congr {P Q : Nat → Bool} : ∀ n, (∀ d, d < n → P d = Q d) → cnt P n = cnt Q n := by
  intro n
  induction n with
  | zero => intro _; rfl
  | succ n ih =>
    intro h
    show cnt P n + (if P n = true then 1 else 0) = cnt Q n + (if Q n = true then 1 else 0)
    rw [ih (fun d hd => h d (by omega)), h n (by omega)]
theorem bits_cnt (P : Nat → Bool) {n : Nat} (hn : n ≤ 4) : f_J6_bitCount_0f7a4 (nI (ss P n)) = some (nI (cnt P n)) := by
  have e := bc4s n (by omega) (P 0) (P 1) (P 2) (P 3)
  have hq : ∀ d, d < n → P d = (fun k => if k = 0 then P 0 else if k = 1 then P 1 else if k = 2 then P 2 else P 3) d := by
    intro d hd
    rcases (show d = 0 ∨ d = 1 ∨ d = 2 ∨ d = 3 by omega) with rfl | rfl | rfl | rfl <;> rfl
  rw [ss_congr n hq, cnt_congr n hq, bc4 _ (ss_lt _ n hn), ← e]
/-- a loop that gathers a set -/
theorem lp_ss (f : Int32 × Int32 → Option ((Int32 × Int32) ⊕ Int32)) (P : Nat → Bool) (n : Nat) (hs : ∀ i a, i < n → a < 16 → f (nI a, nI i) = some (.inl (nI (if P i = true then a ||| 2 ^ i else a), nI (i + 1)))) (he : ∀ a, f (nI a, nI n) = some (.inr (nI a))) (hn : n ≤ 4) {N : Nat} (hN : n < N) : lpF f N ((0 : Int32), (0 : Int32)) = some (nI (ss P n)) := by
  have key := lp_for f (fun i => (nI (ss P i), nI i)) (nI (ss P n)) n 0 (fun j _ hj => by
    rw [hs j (ss P j) (by omega) (ss_lt P j (by omega))]
    rfl) (by rw [Nat.zero_add]; exact he _) N hN
  exact key
end BitRows
