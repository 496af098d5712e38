section WithinRows
variable {C : CaT} {N : Nat} {n s : Nat} {K G M : Nat → Nat} {σ τ : St}
theorem inner5 (hN : 100 ≤ N) (hs : s < 65536) (hn : n ≤ 4) {d : Nat} (hd : d < 8) : f_X3_innerOf N (nI s) (nI d) (nI n) = some (o9 (inn n s d)) := by
  unfold f_X3_innerOf
  have h := lp_ff (fun z => f_X3_innerOf_b2 N (nI s) (nI d) (nI n) z) (fun e => Nat.beq (pl s e) (d + 1)) n (fun i hi => ?_) ?_ n 0 (by omega) N (by omega)
  · rw [show (0 : Int32) = nI 0 from rfl, h, bd_s]
    unfold inn
    cases ff (fun e => Nat.beq (pl s e) (d + 1)) n 0 with
    | none => rfl
    | some e => rfl
  · show f_X3_innerOf_b2 N (nI s) (nI d) (nI n) (nI i) = _
    unfold f_X3_innerOf_b2
    have := pl_lt s i
    rw [if_neg (nI_ge hi (by omega)), place5 (by omega) (by omega), bd_s, nI_1]
    by_cases q : pl s i = d + 1
    · rw [if_pos (congrArg nI q), if_pos (Nat.beq_eq.mpr q)]
    · rw [if_neg (fun z => q (nI_inj (by omega) (by omega) z)), if_neg (fun z => q (Nat.eq_of_beq_eq_true z)), nm_v, nI_1]
  · show f_X3_innerOf_b2 N (nI s) (nI d) (nI n) (nI n) = _
    unfold f_X3_innerOf_b2
    rw [if_pos (Int32.le_refl _)]
theorem inner6 (hN : 100 ≤ N) (hn : n ≤ 4) (e : τ.1 0 2 = nI n) (hw : ∀ d, d < n → τ.1 7 d = nI (pl s d)) {d : Nat} (hd : d < 8) : f_X6_inOf N (nI d) τ = some (o9 (inn n s d)) := by
  unfold f_X6_inOf
  have h := lp_ff (fun z => f_X6_inOf_b2 N (nI d) z τ) (fun e => Nat.beq (pl s e) (d + 1)) n (fun i hi => ?_) ?_ n 0 (by omega) N (by omega)
  · rw [show (0 : Int32) = nI 0 from rfl, h, bd_s]
    unfold inn
    cases ff (fun e => Nat.beq (pl s e) (d + 1)) n 0 with
    | none => rfl
    | some e => rfl
  · show f_X6_inOf_b2 N (nI d) (nI i) τ = _
    unfold f_X6_inOf_b2
    have := pl_lt s i
    rw [e, if_neg (nI_ge hi (by omega)), ck_nI (by omega) (by omega), gd_t, nI_clamp (by omega), hw i hi, show (1 : Int32) = nI 1 from rfl, nI_add, nI_add, Nat.add_comm 1 d]
    by_cases q : pl s i = d + 1
    · rw [if_pos (congrArg nI q), if_pos (Nat.beq_eq.mpr q)]
    · rw [if_neg (fun z => q (nI_inj (by omega) (by omega) z)), if_neg (fun z => q (Nat.eq_of_beq_eq_true z)), nm_v]
  · show f_X6_inOf_b2 N (nI d) (nI n) τ = _
    unfold f_X6_inOf_b2
    rw [e, if_pos (Int32.le_refl _)]
theorem o9_in {n s d : Nat} (hn : n ≤ 4) {e : Nat} (h : inn n s d = some e) : ¬ o9 (inn n s d) = (-9 : Int32) := by
  have := inn_lt h
  rw [h]
  exact nI_neg9 (by omega)
theorem mwl5 (hN : 100 ≤ N) (hs : s < 65536) (hn : n ≤ 4) : ∀ (k : Nat), k ≤ 4 → ∀ (x : Option Nat), (∀ e, x = some e → e < n) → en n s k x = true → ∀ c, ∀ N', k < N' → lpF (fun z => f_X3_manyWithin_b13 N (nI s) (nI n) z.1 z.2.1 z.2.2) N' (o9 x, nI c, nI (4 - k)) = some (nI (c + wi n s k x)) := by
  intro k
  induction k with
  | zero =>
    intro _ x hx hen c N' hN'
    obtain ⟨a, rfl⟩ : ∃ a, N' = a + 1 := ⟨N' - 1, by omega⟩
    rw [lp_s]
    show Option.bind (f_X3_manyWithin_b13 N (nI s) (nI n) (o9 x) (nI c) (nI 4)) _ = _
    have hB : f_X3_manyWithin_b13 N (nI s) (nI n) (o9 x) (nI c) (nI 4) = some (Sum.inr (nI c)) := by
      unfold f_X3_manyWithin_b13
      rw [if_pos (show (4 : Int32) ≤ nI 4 by decide)]
    rw [hB]
    rfl
  | succ k ih =>
    intro hk x hx hen c N' hN'
    obtain ⟨a, rfl⟩ : ∃ a, N' = a + 1 := ⟨N' - 1, by omega⟩
    rw [lp_s]
    show Option.bind (f_X3_manyWithin_b13 N (nI s) (nI n) (o9 x) (nI c) (nI (4 - (k + 1)))) _ = _
    have a1 : ¬ (4 : Int32) ≤ nI (4 - (k + 1)) := nI_ge (a := 4 - (k + 1)) (b := 4) (by omega) (by omega)
    cases x with
    | none =>
      have hB : f_X3_manyWithin_b13 N (nI s) (nI n) (o9 none) (nI c) (nI (4 - (k + 1))) = some (Sum.inr (nI c)) := by
        unfold f_X3_manyWithin_b13
        rw [if_neg a1, if_pos (show o9 none = (-9 : Int32) from rfl)]
      rw [hB]
      rfl
    | some e =>
      have he := hx e rfl
      have hB : f_X3_manyWithin_b13 N (nI s) (nI n) (o9 (some e)) (nI c) (nI (4 - (k + 1))) = some (Sum.inl (o9 (inn n s e), nI (c + 1), nI (4 - k))) := by
        unfold f_X3_manyWithin_b13
        rw [if_neg a1, show o9 (some e) = nI e from rfl, if_neg (nI_neg9 (by omega)), nm_v, nI_1, inner5 hN hs hn (by omega), bd_s, nm_v, nI_1, show 4 - (k + 1) + 1 = 4 - k by omega]
      rw [hB]
      show lpF _ a (o9 (inn n s e), nI (c + 1), nI (4 - k)) = some (nI (c + (wi n s k (inn n s e) + 1)))
      rw [ih (by omega) (inn n s e) (fun y hy => inn_lt hy) hen (c + 1) a (by omega), show c + 1 + wi n s k (inn n s e) = c + (wi n s k (inn n s e) + 1) by omega]
theorem mwl6 (hN : 100 ≤ N) (hn : n ≤ 4) (e2 : τ.1 0 2 = nI n) (hw : ∀ d, d < n → τ.1 7 d = nI (pl s d)) : ∀ (k : Nat), ∀ (x : Option Nat), (∀ e, x = some e → e < n) → en n s k x = true → ∀ c, ∀ N', k < N' → lpF (fun z => f_X6_manyWithin_b8 N z.1 z.2 τ) N' (nI c, o9 x) = some (nI (c + wi n s k x)) := by
  intro k
  induction k with
  | zero =>
    intro x hx hen c N' hN'
    obtain ⟨a, rfl⟩ : ∃ a, N' = a + 1 := ⟨N' - 1, by omega⟩
    cases x with
    | none => rw [lp_s]; rfl
    | some e => exact absurd hen (by show ¬ false = true; decide)
  | succ k ih =>
    intro x hx hen c N' hN'
    obtain ⟨a, rfl⟩ : ∃ a, N' = a + 1 := ⟨N' - 1, by omega⟩
    cases x with
    | none => rw [lp_s]; rfl
    | some e =>
      have he := hx e rfl
      have hB : f_X6_manyWithin_b8 N (nI c) (o9 (some e)) τ = some (Sum.inl (nI (c + 1), o9 (inn n s e))) := by
        unfold f_X6_manyWithin_b8
        rw [show o9 (some e) = nI e from rfl, if_neg (nI_neg9 (by omega)), nm_v, nI_1, inner6 hN hn e2 hw (by omega), bd_s]
      rw [lp_s]
      show Option.bind (f_X6_manyWithin_b8 N (nI c) (o9 (some e)) τ) _ = _
      rw [hB]
      show lpF _ a (nI (c + 1), o9 (inn n s e)) = some (nI (c + (wi n s k (inn n s e) + 1)))
      rw [ih (inn n s e) (fun y hy => inn_lt hy) hen (c + 1) a (by omega), show c + 1 + wi n s k (inn n s e) = c + (wi n s k (inn n s e) + 1) by omega]
theorem en_s : ∀ (k : Nat) (x : Option Nat), en n s k x = true → en n s (k + 1) x = true := by
  intro k
  induction k with
  | zero => intro x h; cases x with | none => rfl | some e => exact absurd h (by show ¬ false = true; decide)
  | succ k ih => intro x h; cases x with | none => rfl | some e => exact ih _ h
theorem wi_s : ∀ (k : Nat) (x : Option Nat), en n s k x = true → wi n s (k + 1) x = wi n s k x := by
  intro k
  induction k with
  | zero => intro x h; cases x with | none => rfl | some e => exact absurd h (by show ¬ false = true; decide)
  | succ k ih =>
    intro x h
    cases x with
    | none => rfl
    | some e =>
      show wi n s (k + 1) (inn n s e) + 1 = wi n s k (inn n s e) + 1
      rw [ih _ h]
def mwn (n s d : Nat) : Nat := wi n s 4 (inn n s d)
theorem wi_le : ∀ (k : Nat) (x : Option Nat), wi n s k x ≤ k := by
  intro k
  induction k with
  | zero => intro x; exact Nat.le_refl 0
  | succ k ih => intro x; cases x with | none => exact Nat.zero_le _ | some e => exact Nat.succ_le_succ (ih _)
theorem many5 (hN : 100 ≤ N) (hn : n ≤ 4) (hv : vld n s = true) {d : Nat} (hd : d < n) : f_X3_manyWithin N (nI s) (nI d) (nI n) = some (nI (mwn n s d)) := by
  obtain ⟨v1, -⟩ := vl hv
  unfold f_X3_manyWithin
  rw [inner5 hN v1 hn (by omega), bd_s, show ((o9 (inn n s d), (0 : Int32), (0 : Int32)) : Int32 × Int32 × Int32) = (o9 (inn n s d), nI 0, nI (4 - 4)) from rfl, mwl5 hN v1 hn 4 (by omega) _ (fun e he => inn_lt he) (en_s 3 _ (en3 hn hv hd)) 0 N (by omega), bd_s, Nat.zero_add]
  rfl
theorem many6 (hN : 100 ≤ N) (hn : n ≤ 4) (hv : vld n s = true) (e2 : τ.1 0 2 = nI n) (hw : ∀ d, d < n → τ.1 7 d = nI (pl s d)) {d : Nat} (hd : d < n) : f_X6_manyWithin N (nI d) τ = some (nI (mwn n s d)) := by
  unfold f_X6_manyWithin
  rw [inner6 hN hn e2 hw (by omega), bd_s, show (((0 : Int32), o9 (inn n s d)) : Int32 × Int32) = (nI 0, o9 (inn n s d)) from rfl, mwl6 hN hn e2 hw 4 _ (fun e he => inn_lt he) (en_s 3 _ (en3 hn hv hd)) 0 N (by omega), bd_s, Nat.zero_add]
  rfl
/-- the most, of the first k -/
def mx (P : Nat → Nat) : Nat → Nat
  | 0 => 0
  | k + 1 => if mx P k < P k then P k else mx P k
theorem mx_le {P : Nat → Nat} (h : ∀ d, P d ≤ 4) : ∀ k, mx P k ≤ 4 := by
  intro k
  induction k with
  | zero => exact Nat.zero_le _
  | succ k ih =>
    show (if mx P k < P k then P k else mx P k) ≤ 4
    split
    · exact h k
    · exact ih
theorem mwn_le (d : Nat) : mwn n s d ≤ 4 := wi_le 4 _
theorem most5 (hN : 100 ≤ N) (hn : n ≤ 4) (hv : vld n s = true) : f_X3_mostWithin N (nI s) (nI n) = some (nI (mx (mwn n s) n)) := by
  unfold f_X3_mostWithin
  have key := lp_for (fun z => f_X3_mostWithin_b4 N (nI s) (nI n) z.1 z.2) (fun i => (nI (mx (mwn n s) i), nI i)) (nI (mx (mwn n s) n)) n 0 (fun j _ hj => ?_) ?_ N (by omega)
  · rw [show (((0 : Int32), (0 : Int32)) : Int32 × Int32) = (nI (mx (mwn n s) 0), nI 0) from rfl, key]
    rfl
  · have hj : j < n := by omega
    show f_X3_mostWithin_b4 N (nI s) (nI n) (nI (mx (mwn n s) j)) (nI j) = some (Sum.inl (nI (if mx (mwn n s) j < mwn n s j then mwn n s j else mx (mwn n s) j), nI (j + 1)))
    unfold f_X3_mostWithin_b4
    have h1 := mx_le (P := mwn n s) mwn_le j
    have h2 := mwn_le (n := n) (s := s) j
    rw [if_neg (nI_ge hj (by omega)), many5 hN hn hv hj, bd_s, nm_v, nm_v, nI_1]
    by_cases q : mx (mwn n s) j < mwn n s j
    · rw [if_pos q, if_pos ((nI_ltI (by omega) (by omega)).mpr q)]
    · rw [if_neg q, if_neg (fun z => q ((nI_ltI (by omega) (by omega)).mp z))]
  · rw [Nat.zero_add]
    show f_X3_mostWithin_b4 N (nI s) (nI n) (nI (mx (mwn n s) n)) (nI n) = _
    unfold f_X3_mostWithin_b4
    rw [if_pos (Int32.le_refl _)]
theorem most6 (hN : 100 ≤ N) (hn : n ≤ 4) (hv : vld n s = true) (e2 : τ.1 0 2 = nI n) (hw : ∀ d, d < n → τ.1 7 d = nI (pl s d)) : lpF (fun z => f_X6_tellDay_b83 N z.1 z.2 τ) N ((0 : Int32), (0 : Int32)) = some (nI (mx (mwn n s) n)) := by
  have key := lp_for (fun z => f_X6_tellDay_b83 N z.1 z.2 τ) (fun i => (nI (mx (mwn n s) i), nI i)) (nI (mx (mwn n s) n)) n 0 (fun j _ hj => ?_) ?_ N (by omega)
  · exact key
  · have hj : j < n := by omega
    show f_X6_tellDay_b83 N (nI (mx (mwn n s) j)) (nI j) τ = some (Sum.inl (nI (if mx (mwn n s) j < mwn n s j then mwn n s j else mx (mwn n s) j), nI (j + 1)))
    unfold f_X6_tellDay_b83 f_X6_tellDay_j109
    have h1 := mx_le (P := mwn n s) mwn_le j
    have h2 := mwn_le (n := n) (s := s) j
    rw [e2, if_neg (nI_ge hj (by omega)), many6 hN hn hv e2 hw hj, bd_s, bd_s, nm_v, nm_v, nI_1]
    by_cases q : mx (mwn n s) j < mwn n s j
    · rw [if_pos q, if_neg (nI_ge q (by omega))]
    · rw [if_neg q, if_pos ((nI_leI (by omega) (by omega)).mpr (by omega))]
  · rw [Nat.zero_add]
    show f_X6_tellDay_b83 N (nI (mx (mwn n s) n)) (nI n) τ = _
    unfold f_X6_tellDay_b83
    rw [e2, if_pos (Int32.le_refl _)]
theorem isB_b2 (b : Bool) : isB (b2 b) = true := by cases b <;> rfl
theorem oneIf_b2 (b : Bool) : f_X5_oneIf (b2 b) = some (b2 b) := by cases b <;> rfl
theorem b2_bi (m d : Nat) : nI (m / 2 ^ d % 2) = b2 (bi m d) := by
  cases h : bi m d with
  | false => rw [bi_ne h]; rfl
  | true => rw [bi_eq h]; rfl
theorem s_ofDoll (hN : 100 ≤ N) : S_ofDoll N (RR C) := by
  intro v1 v2 σ τ h
  obtain ⟨n, s, K, G, M, hA⟩ := h
  have hn := hA.1.1
  obtain ⟨hv, t1, t2, t3⟩ := hA.2.1
  obtain ⟨u1, -⟩ := vl hv
  have e5 := hA.1.2.1
  have e6 := hA.1.2.2.1
  unfold f_X5_ofDoll f_X6_ofDoll
  rcases isD hA v1 with ⟨h1, h2⟩ | ⟨d, hd, rfl⟩
  · rw [h1, h2]; exact ⟨_, rfl, rfl⟩
  · obtain ⟨⟨c1, c2⟩, ⟨p1, p2, p3⟩, p4, p5, p6⟩ := dv hA hd
    rw [d5_in hA hd, d6_in hA hd, t1, t3, e5]
    simp only [gd_t, bd_s, bd2_s, nm_v, i00, i10, i01, i11, ii00, ii10, c1, c2, p1, p2, p3, p4, p5, p6]
    by_cases q0 : v2 = 0
    · rw [if_pos q0, if_pos q0]; exact ⟨_, rfl, rfl⟩
    rw [if_neg q0, if_neg q0]
    by_cases q1 : v2 = 1
    · rw [if_pos q1, if_pos q1]; exact ⟨_, rfl, rfl⟩
    rw [if_neg q1, if_neg q1]
    by_cases q2 : v2 = 2
    · rw [if_pos q2, if_pos q2]; exact ⟨_, rfl, rfl⟩
    rw [if_neg q2, if_neg q2]
    by_cases q3 : v2 = 3
    · rw [if_pos q3, if_pos q3, wide5 hA hd, wide6 hA hd]; exact ⟨_, rfl, rfl⟩
    rw [if_neg q3, if_neg q3]
    by_cases q4 : v2 = 4
    · rw [if_pos q4, if_pos q4, place5 (by omega) (by omega), t2 d hd]; exact ⟨_, rfl, rfl⟩
    rw [if_neg q4, if_neg q4]
    by_cases q5 : v2 = 5
    · rw [if_pos q5, if_pos q5, has_n (by omega) (by omega), b2_bi]
      unfold f_X3_isOpen
      rw [open5 u1, bd_s, has5 (by omega) (by omega), bd_s, isB_b2, gd_t, bd_s, oneIf_b2, bd_s]
      exact ⟨_, rfl, rfl⟩
    rw [if_neg q5, if_neg q5]
    by_cases q6 : v2 = 6
    · have hh := ss_lt (hnd s) n hn
      rw [if_pos q6, if_pos q6, handS5 hN u1 hn, bd_s, has5 (by omega) (by omega), bd_s, oneIf_b2, bd_s, ss_bi _ n hn d (by omega), hand6 hN hn hv t2 t3 hd, bd_s, decide_eq_true hd, Bool.true_and]
      cases hnd s d <;> exact ⟨_, rfl, rfl⟩
    rw [if_neg q6, if_neg q6]
    by_cases q7 : v2 = 7
    · rw [if_pos q7, if_pos q7, inner5 hN u1 hn (by omega), inner6 hN hn e6 t2 (by omega)]; exact ⟨_, rfl, rfl⟩
    rw [if_neg q7, if_neg q7]
    by_cases q8 : v2 = 8
    · rw [if_pos q8, if_pos q8, many5 hN hn hv hd, many6 hN hn hv e6 t2 hd]; exact ⟨_, rfl, rfl⟩
    rw [if_neg q8, if_neg q8]
    exact ⟨_, rfl, rfl⟩
theorem openN6 (hN : 100 ≤ N) (hn : n ≤ 4) (hs : s < 65536) (e2 : τ.1 0 2 = nI n) (ho : τ.1 0 4 = nI (s / 4096)) : lpF (fun z => f_X6_many_b48 N z.1 z.2 τ) N ((0 : Int32), (0 : Int32)) = some (nI (cnt (oN s) n)) := by
  have key := lp_for (fun z => f_X6_many_b48 N z.1 z.2 τ) (fun i => (nI (cnt (oN s) i), nI i)) (nI (cnt (oN s) n)) n 0 (fun j _ hj => ?_) ?_ N (by omega)
  · exact key
  · have hj : j < n := by omega
    show f_X6_many_b48 N (nI (cnt (oN s) j)) (nI j) τ = some (Sum.inl (nI (cnt (oN s) j + (if oN s j = true then 1 else 0)), nI (j + 1)))
    unfold f_X6_many_b48
    rw [e2, ho, if_neg (nI_ge hj (by omega)), has_n (by omega) (by omega), nm_v, nm_v, nI_1]
    unfold oN
    cases h : bi (s / 4096) j with
    | false => rw [bi_ne h, nI_add]; rfl
    | true => rw [bi_eq h, nI_add]; rfl
  · rw [Nat.zero_add]
    show f_X6_many_b48 N (nI (cnt (oN s) n)) (nI n) τ = _
    unfold f_X6_many_b48
    rw [e2, if_pos (Int32.le_refl _)]
theorem s_many (hN : 100 ≤ N) : S_many N (RR C) := by
  intro v1 σ τ h
  obtain ⟨n, s, K, G, M, hA⟩ := h
  have hn := hA.1.1
  obtain ⟨hv, t1, t2, t3⟩ := hA.2.1
  obtain ⟨u1, -⟩ := vl hv
  have e5 := hA.1.2.1
  have e6 := hA.1.2.2.1
  obtain ⟨q, _, r5, r6, _⟩ := hA.2.2.2.1
  unfold f_X5_many f_X6_many
  rw [t1]
  by_cases q0 : v1 = 0
  · rw [if_pos q0, if_pos q0, e5, e6]; exact ⟨_, rfl, rfl⟩
  rw [if_neg q0, if_neg q0]
  by_cases q1 : v1 = 1
  · rw [if_pos q1, if_pos q1, onT5 hN u1 hn e5, onT6 hN hn e6 t2]; exact ⟨_, rfl, rfl⟩
  rw [if_neg q1, if_neg q1]
  by_cases q2 : v1 = 2
  · rw [if_pos q2, if_pos q2, open5 u1, bd_s, openN6 hN hn u1 e6 t3, op_ss hn hv, bits_cnt _ hn]
    exact ⟨_, rfl, rfl⟩
  rw [if_neg q2, if_neg q2]
  by_cases q3 : v1 = 3
  · rw [if_pos q3, if_pos q3, hA.2.2.1.1]; exact ⟨_, rfl, rfl⟩
  rw [if_neg q3, if_neg q3]
  by_cases q4 : v1 = 4
  · rw [if_pos q4, if_pos q4, r5, r6]; exact ⟨_, rfl, rfl⟩
  rw [if_neg q4, if_neg q4]
  exact ⟨_, rfl, rfl⟩
/-- another stand -/
theorem RA.st (hA : RA C n s K G M σ τ) {s' : Nat} {τ' : St} (hv : vld n s' = true) (h0 : ∀ j, j ≠ 4 → τ'.1 0 j = τ.1 0 j) (hg : ∀ g, g ≠ 0 → g ≠ 7 → τ'.1 g = τ.1 g) (hw : ∀ d, d < n → τ'.1 7 d = nI (pl s' d)) (ho : τ'.1 0 4 = nI (s' / 4096)) : RA C n s' K G M (wS σ 0 1 (nI s')) τ' := by
  obtain ⟨h1, h2, h3, h4, h5, h6⟩ := hA
  refine ⟨h1.of rfl rfl rfl rfl (h0 2 (by decide)) (hg 4 (by decide) (by decide)) (hg 5 (by decide) (by decide)) (hg 6 (by decide) (by decide)), ⟨hv, rfl, hw, ho⟩, h3.of rfl rfl rfl (h0 3 (by decide)) (h0 1 (by decide)) (h0 0 (by decide)), h4.of rfl rfl rfl rfl (h0 8 (by decide)) (hg 16 (by decide) (by decide)) (hg 17 (by decide) (by decide)) (hg 18 (by decide) (by decide)), h5.of rfl rfl rfl rfl rfl rfl (hg 1 (by decide) (by decide)) (hg 2 (by decide) (by decide)) (hg 3 (by decide) (by decide)), h6.of⟩
theorem RA.tau (hA : RA C n s K G M σ τ) {τ' : St} (h0 : ∀ j, j ≠ 4 → τ'.1 0 j = τ.1 0 j) (hg : ∀ g, g ≠ 0 → g ≠ 7 → τ'.1 g = τ.1 g) (hw : ∀ d, d < n → τ'.1 7 d = nI (pl s d)) (ho : τ'.1 0 4 = nI (s / 4096)) : RA C n s K G M σ τ' := by
  obtain ⟨h1, ⟨hv, e1, -⟩, h3, h4, h5, h6⟩ := hA
  refine ⟨h1.of rfl rfl rfl rfl (h0 2 (by decide)) (hg 4 (by decide) (by decide)) (hg 5 (by decide) (by decide)) (hg 6 (by decide) (by decide)), ⟨hv, e1, hw, ho⟩, h3.of rfl rfl rfl (h0 3 (by decide)) (h0 1 (by decide)) (h0 0 (by decide)), h4.of rfl rfl rfl rfl (h0 8 (by decide)) (hg 16 (by decide) (by decide)) (hg 17 (by decide) (by decide)) (hg 18 (by decide) (by decide)), h5.of rfl rfl rfl rfl rfl rfl (hg 1 (by decide) (by decide)) (hg 2 (by decide) (by decide)) (hg 3 (by decide) (by decide)), h6.of⟩
theorem RA.acts (hA : RA C n s K G M σ τ) (v : Int32) : RA C n s K G M (wS σ 0 2 v) (wS τ 0 3 v) := by
  obtain ⟨h1, h2, h3, h4, h5, h6⟩ := hA
  exact ⟨h1.of, h2.of, ⟨rfl, h3.2.1, h3.2.2⟩, h4.of, h5.of, h6.of⟩
/-- the reference clears where the first k are -/
def clr (τ : St) : Nat → St
  | 0 => τ
  | k + 1 => wS (clr τ k) 7 k 0
theorem clr_g {g : Nat} (hg : g ≠ 7) : ∀ k, (clr τ k).1 g = τ.1 g := by
  intro k
  induction k with
  | zero => rfl
  | succ k ih => exact (wS_n _ k 0 hg).trans ih
theorem clr_w : ∀ k d, d < k → (clr τ k).1 7 d = 0 := by
  intro k
  induction k with
  | zero => intro d h; exact absurd h (by omega)
  | succ k ih =>
    intro d h
    show (wS (clr τ k) 7 k 0).1 7 d = 0
    rw [wS_0]
    by_cases q : d = k
    · subst q; rw [upd_0]
    · rw [upd_n _ _ q]; exact ih d (by omega)
theorem pl0 (d : Nat) : pl 0 d = 0 := by
  unfold pl
  rw [Nat.zero_div]
theorem s_anew (hN : 100 ≤ N) : S_anew N (RR C) := by
  intro σ τ h
  obtain ⟨n, s, K, G, M, hA⟩ := h
  have hn := hA.1.1
  obtain ⟨hv, t1, t2, t3⟩ := hA.2.1
  obtain ⟨u1, -⟩ := vl hv
  have e5 := hA.1.2.1
  have e6 := hA.1.2.2.1
  unfold f_X5_anew f_X6_anew
  rw [t1, e5, e6]
  by_cases q : nI n = 0
  · rw [if_pos q, if_pos q]
    exact ⟨_, _, _, rfl, rfl, n, s, K, G, M, hA⟩
  rw [if_neg q, if_neg q, onT5 hN u1 hn e5, onT6 hN hn e6 t2, bd_s, bd_s, nm_v, nm_v, nm_v]
  have key := lp_for (fun z => f_X6_anew_b22 N (nI n - nI (cnt (tb s) n)) z.1 z.2) (fun i => (nI i, clr τ i)) (clr τ n) n 0 (fun j _ hj => ?_) ?_ N (by omega)
  · rw [show (((0 : Int32), τ) : Int32 × St) = (nI 0, clr τ 0) from rfl, key, bd_s]
    refine ⟨_, _, _, rfl, rfl, n, 0, K, G, M, hA.st (s' := 0) (vld0 n (by omega)) (fun j hj => ?_) (fun g h0 h7 => ?_) (fun d hd => ?_) ?_⟩
    · rw [wS_0, upd_n _ _ hj, clr_g (by decide)]
    · rw [wS_n _ _ _ h0, clr_g h7]
    · rw [wS_n _ _ _ (by decide), clr_w n d hd, pl0]; rfl
    · rw [wS_0, upd_0]; rfl
  · have hj : j < n := by omega
    show f_X6_anew_b22 N (nI n - nI (cnt (tb s) n)) (nI j) (clr τ j) = _
    unfold f_X6_anew_b22
    rw [clr_g (by decide), e6, if_neg (nI_ge hj (by omega)), ck_nI (by omega) (by omega), gd_t, nI_clamp (by omega), nm_v, nm_v, nI_1]
    rfl
  · rw [Nat.zero_add]
    show f_X6_anew_b22 N (nI n - nI (cnt (tb s) n)) (nI n) (clr τ n) = _
    unfold f_X6_anew_b22
    rw [clr_g (by decide), e6, if_pos (Int32.le_refl _)]
end WithinRows
