section StandRows
variable {C : CaT} {N : Nat} {n s : Nat} {K G M : Nat → Nat} {σ τ : St}
def up1 (s x : Nat) : Nat := if x = 0 then 0 else pl s (x - 1)
theorem vl (h : vld n s = true) : s < 65536 ∧ (∀ d, d < 4 → d < n → pl s d ≤ n) ∧ (∀ d, d < 4 → n ≤ d → pl s d = 0 ∧ ob_ s d = 0) ∧ (∀ d, d < 4 → ∀ e, e < 4 → d ≠ e → pl s d = pl s e → pl s d = 0) ∧ (∀ d, d < 4 → ∀ e, e < 4 → pl s d = e + 1 → ob_ s d = 0 ∨ ob_ s e = 1) ∧ ∀ d, d < 4 → up1 s (up1 s (up1 s (pl s d))) = 0 := by
  unfold vld at h
  simp only [Bool.and_eq_true, List.all_eq_true, List.mem_range, decide_eq_true_eq, Bool.or_eq_true] at h
  obtain ⟨⟨⟨⟨h1, h2⟩, h3⟩, h4⟩, h5⟩ := h
  refine ⟨h1, fun d hd hn => ?_, fun d hd hn => ?_, fun d hd e he hne hp => ?_, fun d hd e he hp => ?_, h5⟩
  · have := h2 d hd
    rw [if_pos hn] at this
    exact of_decide_eq_true this
  · have := h2 d hd
    rw [if_neg (by omega)] at this
    exact of_decide_eq_true this
  · rcases h3 d hd e he with (h | h) | h
    · exact absurd h hne
    · exact absurd hp h
    · exact h
  · rcases h4 d hd e he with (h | h) | h
    · exact absurd hp h
    · exact Or.inl h
    · exact Or.inr h
/-- at hand: all are open from x on, up to the table -/
def hF (s : Nat) : Nat → Nat → Bool
  | 0 => fun _ => true
  | k + 1 => fun x => if x = 0 then true else if bi (s / 4096) (x - 1) = true then hF s k (pl s (x - 1)) else false
def hnd (s d : Nat) : Bool := hF s 4 (pl s d)
theorem got5 (hs : s < 65536) : ∀ (k : Nat), k ≤ 4 → ∀ x, x < 8 → ∀ N', k < N' → lpF (fun z => f_X3_canBeGotAt_b14 N (nI s) (nI (s / 4096)) z.1 z.2) N' (nI x, nI (4 - k)) = some (if hF s k x = true then .inr () else .inl 0) := by
  intro k
  induction k with
  | zero =>
    intro _ x hx N' hN
    obtain ⟨a, rfl⟩ : ∃ a, N' = a + 1 := ⟨N' - 1, by omega⟩
    rw [lp_s]
    show Option.bind (f_X3_canBeGotAt_b14 N (nI s) (nI (s / 4096)) (nI x) (nI (4 - 0))) _ = _
    unfold f_X3_canBeGotAt_b14
    rw [if_pos (show (4 : Int32) ≤ nI (4 - 0) by decide)]
    rfl
  | succ k ih =>
    intro hk x hx N' hN
    obtain ⟨a, rfl⟩ : ∃ a, N' = a + 1 := ⟨N' - 1, by omega⟩
    rw [lp_s]
    show Option.bind (f_X3_canBeGotAt_b14 N (nI s) (nI (s / 4096)) (nI x) (nI (4 - (k + 1)))) _ = _
    unfold f_X3_canBeGotAt_b14
    have a1 : ¬ (4 : Int32) ≤ nI (4 - (k + 1)) := nI_ge (a := 4 - (k + 1)) (b := 4) (by omega) (by omega)
    rw [if_neg a1]
    by_cases q : x = 0
    · subst q
      rfl
    · have a2 : ¬ nI x = 0 := nI_ne0 (by omega) (by omega)
      have a3 : nI x - (1 : Int32) = nI (x - 1) := pk_sub (a := x) (b := 1) (by omega)
      rw [if_neg a2, a3, has5 (by omega) (by omega), bd_s]
      show _ = some (if (if x = 0 then true else if bi (s / 4096) (x - 1) = true then hF s k (pl s (x - 1)) else false) = true then _ else _)
      rw [if_neg q]
      cases hb : bi (s / 4096) (x - 1) with
      | false => rfl
      | true =>
        rw [b2_t, i10, place5 (by omega) (by omega), bd_s, nm_v, nI_1, if_pos rfl, show 4 - (k + 1) + 1 = 4 - k by omega]
        exact ih (by omega) (pl s (x - 1)) (pl_lt _ _) a (by omega)
theorem hand5 (hN : 100 ≤ N) (hs : s < 65536) {d : Nat} (hd : d < 8) : f_X3_canBeGotAt N (nI s) (nI d) = some (b2 (hnd s d)) := by
  unfold f_X3_canBeGotAt
  rw [open5 hs, bd_s, place5 (by omega) (by omega), bd_s]
  have := got5 (N := N) hs 4 (by omega) (pl s d) (pl_lt _ _) N (by omega)
  rw [show ((nI (pl s d), (0 : Int32)) : Int32 × Int32) = (nI (pl s d), nI (4 - 4)) from rfl, this]
  unfold hnd b2
  cases hF s 4 (pl s d) <;> rfl
theorem handS5 (hN : 100 ≤ N) (hs : s < 65536) (hn : n ≤ 4) : f_X3_handSet N (nI s) (nI n) = some (nI (ss (hnd s) n)) := by
  unfold f_X3_handSet
  rw [lp_ss _ (hnd s) n (fun i a hi ha => ?_) (fun a => ?_) hn (by omega)]
  · rfl
  · show f_X3_handSet_b4 N (nI s) (nI n) (nI a) (nI i) = _
    unfold f_X3_handSet_b4 f_X3_handSet_j23
    rw [if_neg (nI_ge hi (by omega)), hand5 hN hs (by omega), bd_s]
    cases hnd s i with
    | false => rw [b2_f, i00, nm_v, nI_1]; rfl
    | true => rw [b2_t, i10, nm_v, nm_v, nI_1, or4 a ha i (by omega)]; rfl
  · show f_X3_handSet_b4 N (nI s) (nI n) (nI a) (nI n) = _
    unfold f_X3_handSet_b4
    rw [if_pos (Int32.le_refl _)]
def tb (s d : Nat) : Bool := decide (pl s d = 0)
theorem tableS5 (hN : 100 ≤ N) (hs : s < 65536) (hn : n ≤ 4) : f_X3_tableSet N (nI s) (nI n) = some (nI (ss (tb s) n)) := by
  unfold f_X3_tableSet
  rw [lp_ss _ (tb s) n (fun i a hi ha => ?_) (fun a => ?_) hn (by omega)]
  · rfl
  · show f_X3_tableSet_b4 N (nI s) (nI n) (nI a) (nI i) = _
    unfold f_X3_tableSet_b4 f_X3_tableSet_j23 tb
    rw [if_neg (nI_ge hi (by omega)), place5 (by omega) (by omega), bd_s]
    have := pl_lt s i
    by_cases q : pl s i = 0
    · rw [q, show nI 0 = (0 : Int32) from rfl, i00, nm_v, nm_v, nI_1, or4 a ha i (by omega)]; rfl
    · rw [if_neg (nI_ne0 (by omega) (by omega)), nm_v, nI_1, if_neg (by simp [q])]
  · show f_X3_tableSet_b4 N (nI s) (nI n) (nI a) (nI n) = _
    unfold f_X3_tableSet_b4
    rw [if_pos (Int32.le_refl _)]
theorem onT5 (hN : 100 ≤ N) (hs : s < 65536) (hn : n ≤ 4) (e : σ.1 0 0 = nI n) : f_X5_manyOnTable N (nI s) σ = some (nI (cnt (tb s) n)) := by
  unfold f_X5_manyOnTable
  rw [e, tableS5 hN hs hn, bd_s, bits_cnt _ hn]
  rfl
theorem onT6 (hN : 100 ≤ N) (hn : n ≤ 4) (e : τ.1 0 2 = nI n) (hw : ∀ d, d < n → τ.1 7 d = nI (pl s d)) : f_X6_onTable N τ = some (nI (cnt (tb s) n)) := by
  unfold f_X6_onTable
  have key := lp_for (fun z => f_X6_onTable_b4 N z.1 z.2 τ) (fun i => (nI (cnt (tb s) i), nI i)) (nI (cnt (tb s) n)) n 0 (fun j _ hj => ?_) ?_ N (by omega)
  · rw [show (((0 : Int32), (0 : Int32)) : Int32 × Int32) = (nI (cnt (tb s) 0), nI 0) from rfl, key]
    rfl
  · have hj : j < n := by omega
    show f_X6_onTable_b4 N (nI (cnt (tb s) j)) (nI j) τ = _
    unfold f_X6_onTable_b4 f_X6_onTable_j27
    have := pl_lt s j
    rw [e, if_neg (nI_ge hj (by omega)), ck_nI (by omega) (by omega), gd_t, nI_clamp (by omega), hw j hj]
    by_cases q : pl s j = 0
    · rw [q, show nI 0 = (0 : Int32) from rfl, i00, nm_v, nm_v, nI_1, nI_1]
      have : tb s j = true := decide_eq_true q
      show _ = some (Sum.inl (nI (cnt (tb s) j + (if tb s j = true then 1 else 0)), _))
      rw [if_pos this]
    · rw [if_neg (nI_ne0 (by omega) (by omega)), nm_v, nm_v, nI_1]
      have : ¬ tb s j = true := fun z => q (of_decide_eq_true z)
      show _ = some (Sum.inl (nI (cnt (tb s) j + (if tb s j = true then 1 else 0)), _))
      rw [if_neg this, show (0 : Int32) = nI 0 from rfl, nI_add]
  · rw [Nat.zero_add]
    show f_X6_onTable_b4 N (nI (cnt (tb s) n)) (nI n) τ = _
    unfold f_X6_onTable_b4
    rw [e, if_pos (Int32.le_refl _)]
/-- the reference's way up -/
theorem got6 (hs : s < 65536) (hn : n ≤ 4) (hp : ∀ d, d < 4 → d < n → pl s d ≤ n) (hw : ∀ d, d < n → τ.1 7 d = nI (pl s d)) (ho : τ.1 0 4 = nI (s / 4096)) : ∀ (k x : Nat), x ≤ n → (∀ z, z = x → (k = 0 → z = 0)) → (match k with | 0 => True | 1 => up1 s x = 0 | 2 => up1 s (up1 s x) = 0 | 3 => up1 s (up1 s (up1 s x)) = 0 | _ => up1 s (up1 s (up1 s (up1 s x))) = 0) → k ≤ 4 → ∀ N', k + 1 < N' → lpF (fun z => f_X6_isAtHand_b9 N z.1 z.2 τ) N' (nI x, (1 : Int32)) = some (b2 (hF s k x)) := by
  intro k
  induction k with
  | zero =>
    intro x hx h0 _ _ N' hN
    obtain ⟨a, rfl⟩ : ∃ a, N' = a + 1 := ⟨N' - 1, by omega⟩
    have : x = 0 := h0 x rfl rfl
    subst this
    rw [lp_s]
    rfl
  | succ k ih =>
    intro x hx _ hu hk N' hN
    obtain ⟨a, rfl⟩ : ∃ a, N' = a + 1 := ⟨N' - 1, by omega⟩
    rw [lp_s]
    show Option.bind (f_X6_isAtHand_b9 N (nI x) 1 τ) _ = _
    show _ = some (b2 (if x = 0 then true else if bi (s / 4096) (x - 1) = true then hF s k (pl s (x - 1)) else false))
    by_cases q : x = 0
    · subst q
      rfl
    · have a2 : ¬ nI x = 0 := nI_ne0 (by omega) (by omega)
      have a3 : nI x - (1 : Int32) = nI (x - 1) := pk_sub (a := x) (b := 1) (by omega)
      have hB : f_X6_isAtHand_b9 N (nI x) 1 τ = some (Sum.inl (nI (pl s (x - 1)), b2 (bi (s / 4096) (x - 1)))) := by
        unfold f_X6_isAtHand_b9
        rw [if_neg a2, i10, a3, ho, isOf6 (by omega) (by omega), bd_s, ck_nI (by omega) (by omega), gd_t, nm_v, nI_clamp (by omega), hw (x - 1) (by omega)]
      have hB0 : ∀ y : Int32, f_X6_isAtHand_b9 N y 0 τ = some (Sum.inr 0) := by
        intro y
        unfold f_X6_isAtHand_b9
        rw [i00]
        by_cases q2 : y = 0
        · rw [if_pos q2]
        · rw [if_neg q2]
      rw [hB, if_neg q]
      have hu1 : up1 s x = pl s (x - 1) := by unfold up1; rw [if_neg q]
      cases hb : bi (s / 4096) (x - 1) with
      | false =>
        rw [if_neg (by decide)]
        obtain ⟨a', rfl⟩ : ∃ a', a = a' + 1 := ⟨a - 1, by omega⟩
        have hq : (some (Sum.inl (nI (pl s (x - 1)), b2 false) : (Int32 × Int32) ⊕ Int32)).bind (Sum.elim (lpF (fun z => f_X6_isAtHand_b9 N z.fst z.snd τ) (a' + 1)) some) = lpF (fun z => f_X6_isAtHand_b9 N z.fst z.snd τ) (a' + 1) (nI (pl s (x - 1)), 0) := rfl
        rw [hq, lp_s]
        show Option.bind (f_X6_isAtHand_b9 N (nI (pl s (x - 1))) 0 τ) _ = _
        rw [hB0]
        rfl
      | true =>
        rw [if_pos rfl]
        have hle := hp (x - 1) (by omega) (by omega)
        refine ih (pl s (x - 1)) hle ?_ ?_ (by omega) a (by omega)
        · rintro z rfl hk0
          subst hk0
          exact hu1.symm.trans hu
        · match k, hu, hk with
          | 0, _, _ => trivial
          | 1, hu, _ => exact (congrArg (up1 s) hu1).symm.trans hu
          | 2, hu, _ => exact (congrArg (fun z => up1 s (up1 s z)) hu1).symm.trans hu
          | 3, hu, _ => exact (congrArg (fun z => up1 s (up1 s (up1 s z))) hu1).symm.trans hu
          | k + 4, _, hk => exact absurd hk (by omega)
theorem hand6 (hN : 100 ≤ N) (hn : n ≤ 4) (hv : vld n s = true) (hw : ∀ d, d < n → τ.1 7 d = nI (pl s d)) (ho : τ.1 0 4 = nI (s / 4096)) {d : Nat} (hd : d < n) : f_X6_isAtHand N (nI d) τ = some (b2 (hnd s d)) := by
  obtain ⟨v1, v2, v3, v4, v5, v6⟩ := vl hv
  unfold f_X6_isAtHand f_X6_isAtHand_j40
  rw [ck_nI (by omega) (by omega), gd_t, nm_v, nI_clamp (by omega), hw d hd]
  have h6 := v6 d (by omega)
  rw [got6 v1 hn v2 hw ho 4 (pl s d) (v2 d (by omega) hd) (fun _ _ h => absurd h (by omega)) (by show up1 s (up1 s (up1 s (up1 s (pl s d)))) = 0; rw [h6]; rfl) (by omega) N (by omega)]
  unfold hnd
  cases hF s 4 (pl s d) <;> rfl
end StandRows
