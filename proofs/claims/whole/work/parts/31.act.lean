section ActRows
variable {C : CaT} {N : Nat} {n s : Nat} {K G M : Nat → Nat} {σ τ : St}
/-- the number of the stand after a -/
def aft (s a : Nat) : Nat := if a < 4 then s + 4096 * 2 ^ a else if a < 8 then s - 4096 * 2 ^ (a - 4) else if a < 12 then s - pl s (a - 8) * 8 ^ (a - 8) else s + ((a - 12) % 4 + 1) * 8 ^ ((a - 12) / 4)
def plA (s a d : Nat) : Nat := if a < 8 then pl s d else if a < 12 then (if d = a - 8 then 0 else pl s d) else (if d = (a - 12) / 4 then (a - 12) % 4 + 1 else pl s d)
def opA (s a : Nat) : Nat := if a < 8 then s / 4096 ^^^ 2 ^ (a % 4) else s / 4096
def afB (n s a : Nat) : Bool := !cdo n s (fun _ _ => true) a || (decide (f_X3_after (nI s) (nI a) = some (nI (aft s a))) && (vld n (aft s a) && (Nat.beq (aft s a / 4096) (opA s a) && (List.range 4).all (fun d => Nat.beq (pl (aft s a) d) (plA s a d)))))
set_option maxRecDepth 100000 in
set_option maxHeartbeats 4000000 in
theorem af_b : (List.range 5).all (fun n => (vls n).all (fun s => (List.range 28).all (fun a => afB n s a))) = true := by decide +kernel
theorem cdo_all {F : Nat → Nat → Bool} {a : Nat} (h : cdo n s F a = true) : cdo n s (fun _ _ => true) a = true := by
  unfold cdo at h ⊢
  by_cases h4 : a < 4
  · rw [if_pos h4] at h ⊢; exact h
  rw [if_neg h4] at h ⊢
  by_cases h8 : a < 8
  · rw [if_pos h8] at h ⊢; exact h
  rw [if_neg h8] at h ⊢
  by_cases h12 : a < 12
  · rw [if_pos h12] at h ⊢; exact h
  rw [if_neg h12] at h ⊢
  rw [Bool.and_eq_true, Bool.and_eq_true, Bool.and_eq_true] at h
  rw [Bool.and_eq_true, Bool.and_eq_true, Bool.and_eq_true]
  exact ⟨h.1, h.2.1, rfl⟩
theorem af (hn : n ≤ 4) (hv : vld n s = true) {F : Nat → Nat → Bool} {a : Nat} (ha : a < 28) (hc : cdo n s F a = true) : f_X3_after (nI s) (nI a) = some (nI (aft s a)) ∧ vld n (aft s a) = true ∧ aft s a / 4096 = opA s a ∧ ∀ d, d < 4 → pl (aft s a) d = plA s a d := by
  have h := List.all_eq_true.mp (brute (fun n s => (List.range 28).all (fun a => afB n s a)) af_b hn hv) a (List.mem_range.mpr ha)
  unfold afB at h
  rw [cdo_all hc, Bool.not_true, Bool.false_or, Bool.and_eq_true, Bool.and_eq_true, Bool.and_eq_true] at h
  obtain ⟨h1, h2, h3, h4⟩ := h
  exact ⟨of_decide_eq_true h1, h2, Nat.eq_of_beq_eq_true h3, fun d hd => Nat.eq_of_beq_eq_true (List.all_eq_true.mp h4 d (List.mem_range.mpr hd))⟩
def ioB (n s d : Nat) : Bool := match inn n s d with
  | none => !ou s (fun _ => true) d && !ou s (oN s) d
  | some e => ou s (fun _ => true) d && decide (ou s (oN s) d = oN s e)
set_option maxRecDepth 100000 in
set_option maxHeartbeats 4000000 in
theorem io_b : (List.range 5).all (fun n => (vls n).all (fun s => (List.range 4).all (fun d => ioB n s d))) = true := by decide +kernel
theorem io_n (hn : n ≤ 4) (hv : vld n s = true) {d : Nat} (hd : d < 4) (h : inn n s d = none) : ou s (fun _ => true) d = false ∧ ou s (oN s) d = false := by
  have h1 := List.all_eq_true.mp (brute (fun n s => (List.range 4).all (fun d => ioB n s d)) io_b hn hv) d (List.mem_range.mpr hd)
  unfold ioB at h1
  rw [h] at h1
  have h1 : (!ou s (fun _ => true) d && !ou s (oN s) d) = true := h1
  rw [Bool.and_eq_true] at h1
  exact ⟨by have := h1.1; revert this; cases ou s (fun _ => true) d <;> decide, by have := h1.2; revert this; cases ou s (oN s) d <;> decide⟩
theorem io_s (hn : n ≤ 4) (hv : vld n s = true) {d e : Nat} (hd : d < 4) (h : inn n s d = some e) : ou s (fun _ => true) d = true ∧ ou s (oN s) d = oN s e := by
  have h1 := List.all_eq_true.mp (brute (fun n s => (List.range 4).all (fun d => ioB n s d)) io_b hn hv) d (List.mem_range.mpr hd)
  unfold ioB at h1
  rw [h] at h1
  have h1 : (ou s (fun _ => true) d && decide (ou s (oN s) d = oN s e)) = true := h1
  rw [Bool.and_eq_true] at h1
  exact ⟨h1.1, of_decide_eq_true h1.2⟩
theorem cdo_lo {F : Nat → Nat → Bool} {a : Nat} (ha : a < 12) : cdo n s F a = (decide (a % 4 < n) && (hnd s (a % 4) && (if a < 4 then !oN s (a % 4) else if a < 8 then oN s (a % 4) && !ou s (oN s) (a % 4) else !tb s (a % 4)))) := by
  unfold cdo hN_ tN_
  by_cases h4 : a < 4
  · rw [if_pos h4, if_pos h4, show a % 4 = a by omega, Bool.and_assoc]
  rw [if_neg h4, if_neg h4]
  by_cases h8 : a < 8
  · rw [if_pos h8, if_pos h8, show a - 4 = a % 4 by omega]
    simp only [Bool.and_assoc]
  rw [if_neg h8, if_neg h8, if_pos ha, show a - 8 = a % 4 by omega]
  cases decide (a % 4 < n) <;> rfl
theorem cdo_hi {F : Nat → Nat → Bool} {a : Nat} (ha : 12 ≤ a) : cdo n s F a = (decide ((a - 12) / 4 < n) && (decide ((a - 12) % 4 < n) && (tb s ((a - 12) / 4) && (!oN s ((a - 12) / 4) && (F ((a - 12) / 4) ((a - 12) % 4) && (hnd s ((a - 12) % 4) && (oN s ((a - 12) % 4) && !ou s (fun _ => true) ((a - 12) % 4)))))))) := by
  unfold cdo dP hN_ tN_
  rw [if_neg (by omega), if_neg (by omega), if_neg (by omega)]
  generalize decide ((a - 12) / 4 < n) = b1
  generalize decide ((a - 12) % 4 < n) = b2
  generalize tb s ((a - 12) / 4) = b3
  generalize oN s ((a - 12) / 4) = b4
  generalize F ((a - 12) / 4) ((a - 12) % 4) = b5
  generalize hnd s ((a - 12) % 4) = b6
  generalize oN s ((a - 12) % 4) = b7
  generalize ou s (fun _ => true) ((a - 12) % 4) = b8
  revert b1 b2 b3 b4 b5 b6 b7 b8
  decide
theorem cdo_fo (P : Nat → Nat → Bool) (hn : n ≤ 4) {a : Nat} (ha : a < 28) : cdo n s (fun d e => bt (fo P n n) (4 * d + e)) a = cdo n s P a := by
  by_cases h : a < 12
  · rw [cdo_lo h, cdo_lo h]
  · rw [cdo_hi (by omega), cdo_hi (by omega)]
    show (decide ((a - 12) / 4 < n) && (decide ((a - 12) % 4 < n) && (tb s ((a - 12) / 4) && (!oN s ((a - 12) / 4) && (bt (fo P n n) (4 * ((a - 12) / 4) + (a - 12) % 4) && _))))) = _
    rw [fo_at P hn (by omega) (by omega)]
    cases decide ((a - 12) / 4 < n) with
    | false => rfl
    | true =>
      cases decide ((a - 12) % 4 < n) with
      | false => rfl
      | true => rfl
theorem two6 (hA : RA C n s K G M σ τ) {D E : Nat} (hD : D < 4) (hE : E < 4) : f_X6_areTwo (nI D) (nI E) τ = some (b2 (decide (D < n) && (decide (E < n) && !Nat.beq D E))) := by
  unfold f_X6_areTwo
  by_cases h1 : D < n
  · rw [d6_in hA h1, bd_s, i10, decide_eq_true h1, Bool.true_and]
    by_cases h2 : E < n
    · rw [d6_in hA h2, bd_s, i10, decide_eq_true h2, Bool.true_and]
      by_cases q : D = E
      · rw [if_pos (congrArg nI q), nb_t q]; rfl
      · rw [if_neg (fun z => q (nI_inj (by omega) (by omega) z)), nb_f q]; rfl
    · rw [d6_hi hA (nI_le (by omega) (by omega)), bd_s, i00, decide_eq_false h2, Bool.false_and]; rfl
  · rw [d6_hi hA (nI_le (by omega) (by omega)), bd_s, i00, decide_eq_false h1, Bool.false_and]; rfl
theorem ib2 {α : Type} (b : Bool) (x y : α) : (if b2 b = 0 then x else y) = (if b = true then y else x) := by cases b <;> rfl
theorem canDo6 (hN : 100 ≤ N) (hA : RA C n s K G M σ τ) {a : Nat} (ha : a < 28) : f_X6_canDo N (nI a) τ = some (b2 (cdo n s (fP K G M) a)) := by
  have hn := hA.1.1
  obtain ⟨hv, t1, t2, t3⟩ := hA.2.1
  obtain ⟨u1, -⟩ := vl hv
  have e6 := hA.1.2.2.1
  unfold f_X6_canDo f_X6_canDo_j194
  by_cases h12 : a < 12
  · rw [if_pos (show nI a < (12 : Int32) from (nI_ltI (b := 12) (by omega) (by omega)).mpr h12), show (4 : Int32) = nI 4 from rfl, pk_rem (by omega) (by omega) (by omega), nm_v, cdo_lo h12]
    by_cases hd : a % 4 < n
    · rw [d6_in hA hd, bd_s, i10, hand6 hN hn hv t2 t3 hd, bd_s, decide_eq_true hd, Bool.true_and, ib2]
      cases hb : hnd s (a % 4) with
      | false => rfl
      | true =>
        rw [if_pos rfl, Bool.true_and, t3]
        by_cases h4 : a < 4
        · rw [if_neg (nI_ge h4 (by omega)), isOf6 (by omega) (by omega), bd_s, if_pos h4]
          unfold oN
          cases bi (s / 4096) (a % 4) <;> rfl
        · rw [if_pos (nI_le (by omega) (by omega)), if_neg h4]
          by_cases h8 : a < 8
          · rw [if_pos (show nI a < (8 : Int32) from (nI_ltI (b := 8) (by omega) (by omega)).mpr h8), isOf6 (by omega) (by omega), bd_s, if_pos h8]
            cases ho : oN s (a % 4) with
            | false =>
              have ho : bi (s / 4096) (a % 4) = false := ho
              rw [ho]; rfl
            | true =>
              have ho : bi (s / 4096) (a % 4) = true := ho
              rw [ho, b2_t, i10, inner6 hN hn e6 t2 (by omega), bd_s, bd_s]
              cases hi : inn n s (a % 4) with
              | none =>
                rw [(io_n hn hv (by omega) hi).2, if_pos (show o9 none = (-9 : Int32) from rfl)]
                rfl
              | some e =>
                have he := inn_lt hi
                rw [(io_s hn hv (by omega) hi).2, show o9 (some e) = nI e from rfl, if_neg (nI_neg9 (by omega)), isOf6 (by omega) (by omega), bd_s]
                unfold oN
                cases bi (s / 4096) e <;> rfl
          · rw [if_neg (show ¬ nI a < (8 : Int32) from fun z => h8 ((nI_ltI (b := 8) (by omega) (by omega)).mp z)), if_neg h8, ck_nI (by omega) (by omega), gd_t, nI_clamp (by omega), t2 _ hd]
            have hp := pl_lt s (a % 4)
            unfold tb
            by_cases q : pl s (a % 4) = 0
            · rw [q]; rfl
            · rw [if_neg (nI_ne0 (by omega) (by omega)), decide_eq_false q]; rfl
    · rw [d6_hi hA (nI_le (by omega) (by omega)), bd_s, i00, decide_eq_false hd, Bool.false_and]; rfl
  · rw [if_neg (show ¬ nI a < (12 : Int32) from fun z => h12 ((nI_ltI (b := 12) (by omega) (by omega)).mp z)), show nI a - (12 : Int32) = nI (a - 12) from pk_sub (a := a) (b := 12) (by omega), show (4 : Int32) = nI 4 from rfl, pk_rem (by omega) (by omega) (by omega), pk_div (by omega) (by omega) (by omega), nm_v, nm_v, cdo_hi (by omega), two6 hA (by omega) (by omega), bd_s, ib2]
    by_cases hD : (a - 12) / 4 < n
    · by_cases hE : (a - 12) % 4 < n
      · unfold fP
        rw [decide_eq_true hD, decide_eq_true hE, Bool.true_and, Bool.true_and, Bool.true_and, Bool.true_and]
        cases hne : Nat.beq ((a - 12) / 4) ((a - 12) % 4) with
        | true =>
          rw [Bool.not_true, Bool.false_and, Bool.false_and, Bool.and_false, Bool.and_false]
          rfl
        | false =>
          rw [Bool.not_false, if_pos rfl, Bool.true_and, ck_nI (by omega) (by omega), gd_t, nI_clamp (by omega), t2 _ hD, t3, isOf6 (by omega) (by omega), isOf6 (by omega) (by omega), into6 hA hD hE, hand6 hN hn hv t2 t3 hE, inner6 hN hn e6 t2 (by omega)]
          simp only [bd_s]
          have hp := pl_lt s ((a - 12) / 4)
          unfold tb
          by_cases q : pl s ((a - 12) / 4) = 0
          · rw [q, show nI 0 = (0 : Int32) from rfl, i00, ib2, decide_eq_true rfl, Bool.true_and]
            cases ho : oN s ((a - 12) / 4) with
            | true =>
              have ho : bi (s / 4096) ((a - 12) / 4) = true := ho
              rw [ho]; rfl
            | false =>
              have ho : bi (s / 4096) ((a - 12) / 4) = false := ho
              rw [ho, if_neg (by decide), Bool.not_false, Bool.true_and]
              cases fitB K G M ((a - 12) / 4) ((a - 12) % 4) with
              | false => rfl
              | true =>
                rw [show (if true = true then (1 : Int32) else 0) = 1 from rfl, i10, Bool.true_and, ib2]
                cases hnd s ((a - 12) % 4) with
                | false => rfl
                | true =>
                  rw [if_pos rfl, Bool.true_and, ib2]
                  cases hq : oN s ((a - 12) % 4) with
                  | false =>
                    have hq : bi (s / 4096) ((a - 12) % 4) = false := hq
                    rw [hq]; rfl
                  | true =>
                    have hq : bi (s / 4096) ((a - 12) % 4) = true := hq
                    rw [hq, if_pos rfl, Bool.true_and]
                    cases hi : inn n s ((a - 12) % 4) with
                    | none =>
                      rw [(io_n hn hv (by omega) hi).1]
                      rfl
                    | some e =>
                      have he := inn_lt hi
                      rw [(io_s hn hv (by omega) hi).1, show o9 (some e) = nI e from rfl, if_neg (nI_neg9 (by omega))]
                      rfl
          · rw [if_neg (nI_ne0 (by omega) (by omega)), decide_eq_false q]; rfl
      · rw [decide_eq_false hE, Bool.false_and, Bool.and_false, Bool.false_and, Bool.and_false]; rfl
    · rw [decide_eq_false hD, Bool.false_and, Bool.false_and]; rfl
theorem xo4 : ∀ o, o < 16 → ∀ d, d < 4 → nI o ^^^ ((1 : Int32) <<< (nI d &&& 31)) = nI (o ^^^ 2 ^ d) := by decide
/-- the reference's act, and the class's -/
theorem does6 (hA : RA C n s K G M σ τ) {F : Nat → Nat → Bool} {a : Nat} (ha : a < 28) (hc : cdo n s F a = true) : ∃ τ', f_X6_does (nI a) τ = some τ' ∧ RA C n (aft s a) K G M (wS σ 0 1 (nI (aft s a))) τ' := by
  have hn := hA.1.1
  obtain ⟨hv, t1, t2, t3⟩ := hA.2.1
  obtain ⟨u1, -⟩ := vl hv
  obtain ⟨-, f2, f3, f4⟩ := af hn hv ha hc
  unfold f_X6_does
  rw [show (4 : Int32) = nI 4 from rfl, pk_rem (by omega) (by omega) (by omega), nm_v]
  by_cases h12 : a < 12
  · rw [if_pos (show nI a < (12 : Int32) from (nI_ltI (b := 12) (by omega) (by omega)).mpr h12)]
    by_cases h8 : a < 8
    · rw [if_pos (show nI a < (8 : Int32) from (nI_ltI (b := 8) (by omega) (by omega)).mpr h8), nm_v, t3, xo4 _ (by omega) _ (by omega)]
      refine ⟨_, rfl, hA.st f2 (fun j hj => ?_) (fun g h0 h7 => ?_) (fun d hd => ?_) ?_⟩
      · rw [wS_0, upd_n _ _ hj]
      · rw [wS_n _ _ _ h0]
      · rw [wS_n _ _ _ (by decide), f4 d (by omega), t2 d hd]
        unfold plA
        rw [if_pos h8]
      · rw [wS_0, upd_0, f3]
        unfold opA
        rw [if_pos h8]
    · rw [if_neg (show ¬ nI a < (8 : Int32) from fun z => h8 ((nI_ltI (b := 8) (by omega) (by omega)).mp z)), ck_nI (by omega) (by omega), gd_t, nm_v, nI_clamp (by omega)]
      refine ⟨_, rfl, hA.st f2 (fun j hj => ?_) (fun g h0 h7 => ?_) (fun d hd => ?_) ?_⟩
      · rw [wS_n _ _ _ (by decide)]
      · rw [wS_n _ _ _ h7]
      · rw [wS_0, f4 d (by omega)]
        unfold plA
        rw [if_neg h8, if_pos h12, show a - 8 = a % 4 by omega]
        by_cases q : d = a % 4
        · rw [if_pos q, q, upd_0]; rfl
        · rw [if_neg q, upd_n _ _ q, t2 d hd]
      · rw [wS_n _ _ _ (by decide), f3, t3]
        unfold opA
        rw [if_neg h8]
  · rw [if_neg (show ¬ nI a < (12 : Int32) from fun z => h12 ((nI_ltI (b := 12) (by omega) (by omega)).mp z)), show nI a - (12 : Int32) = nI (a - 12) from pk_sub (a := a) (b := 12) (by omega), pk_rem (by omega) (by omega) (by omega), pk_div (by omega) (by omega) (by omega), ck_nI (by omega) (by omega), gd_t, nm_v, nI_clamp (by omega), show (1 : Int32) = nI 1 from rfl, nI_add]
    refine ⟨_, rfl, hA.st f2 (fun j hj => ?_) (fun g h0 h7 => ?_) (fun d hd => ?_) ?_⟩
    · rw [wS_n _ _ _ (by decide)]
    · rw [wS_n _ _ _ h7]
    · rw [wS_0, f4 d (by omega)]
      unfold plA
      rw [if_neg (by omega), if_neg h12]
      by_cases q : d = (a - 12) / 4
      · rw [if_pos q, q, upd_0, Nat.add_comm]
      · rw [if_neg q, upd_n _ _ q, t2 d hd]
    · rw [wS_n _ _ _ (by decide), f3, t3]
      unfold opA
      rw [if_neg (by omega)]
theorem doAt5 (hN : 100 ≤ N) (hA : RA C n s K G M σ τ) {s' : Nat} (hs : s' < 65536) : ∃ r, f_X5_doableAt N (nI s') σ = some r ∧ ∀ a, a < 32 → bt r a = (decide (a < 28) && cdo n s' (fP K G M) a) := by
  have hn := hA.1.1
  obtain ⟨r, h1, h2⟩ := doable5 (s := s') hN hn hs (fo (fP K G M) n n)
  refine ⟨r, ?_, fun a ha => ?_⟩
  · unfold f_X5_doableAt
    rw [fitting5 hN hA, bd_s, hA.1.2.1, h1, bd_s]
  · rw [h2 a ha]
    by_cases q : a < 28
    · rw [cdo_fo _ hn q]
    · rw [decide_eq_false q, Bool.false_and, Bool.false_and]
theorem isAct5 {a : Nat} (ha : a < 28) : f_X5_isAct (nI a) = some 1 := by
  unfold f_X5_isAct
  rw [if_neg (nI_pos (by omega)), if_neg (show ¬ (28 : Int32) ≤ nI a from nI_ge (b := 28) ha (by omega))]
theorem s_act (hN : 100 ≤ N) : S_act N (RR C) := by
  intro v1 σ τ h
  obtain ⟨n, s, K, G, M, hA⟩ := h
  have hn := hA.1.1
  obtain ⟨hv, t1, t2, t3⟩ := hA.2.1
  obtain ⟨u1, -⟩ := vl hv
  have e5 := hA.1.2.1
  have e6 := hA.1.2.2.1
  unfold f_X5_act f_X6_act
  rcases wi1 (z := 28) (by omega) v1 with ⟨h1, h2⟩ | ⟨a, ha, rfl, h1⟩
  · have h3 : f_X5_isAct v1 = some 0 := by
      unfold f_X5_isAct
      rcases h2 with h2 | h2
      · rw [if_pos h2]
      · rw [if_pos (show (28 : Int32) ≤ v1 from h2)]
        split <;> rfl
    rw [show (27 : Int32) = nI 28 - 1 from rfl, h1, h3]
    exact ⟨_, _, _, rfl, rfl, n, s, K, G, M, hA⟩
  · rw [show (27 : Int32) = nI 28 - 1 from rfl, h1, isAct5 ha, bd_s, bd_s, i10, i10, e5, e6, t1]
    by_cases q : nI n = 0
    · rw [if_pos q, if_pos q]
      exact ⟨_, _, _, rfl, rfl, n, s, K, G, M, hA⟩
    rw [if_neg q, if_neg q]
    obtain ⟨r, r1, r2⟩ := doAt5 hN hA u1
    rw [r1, bd_s, hasX _ (by omega), bd_s, r2 a (by omega), decide_eq_true ha, Bool.true_and, canDo6 hN hA ha, bd_s]
    cases hc : cdo n s (fP K G M) a with
    | false => exact ⟨_, _, _, rfl, rfl, n, s, K, G, M, hA⟩
    | true =>
      obtain ⟨τ', d1, d2⟩ := does6 hA ha hc
      have d3 := d2.acts (σ.1 0 2 + 1)
      have hv' := d2.2.1.1
      obtain ⟨u1', -⟩ := vl hv'
      rw [b2_t, i10, i10, (af hn hv ha hc).1, bd_s, d1, bd_s, nm_v, nm_v, nm_v]
      have e1 : (wS σ 0 1 (nI (aft s a))).1 0 2 = σ.1 0 2 := rfl
      have e2 : τ'.1 0 3 = σ.1 0 2 := d2.2.2.1.1.symm
      have e3 : (wS (wS σ 0 1 (nI (aft s a))) 0 2 (σ.1 0 2 + 1)).1 0 1 = nI (aft s a) := rfl
      rw [e1, e2, e3, onT5 hN u1' hn d3.1.2.1, onT6 hN hn d3.1.2.2.1 d3.2.1.2.2.1]
      exact ⟨_, _, _, rfl, rfl, n, _, K, G, M, d3⟩
/-- all that can be done, gathered -/
def ca (P : Nat → Bool) : Nat → Int32
  | 0 => 0
  | k + 1 => ca P k ||| (if P k = true then ((1 : Int32) <<< (nI k &&& 31)) else 0)
theorem ca_bt (P : Nat → Bool) {i : Nat} (hi : i < 32) : ∀ k, k ≤ 28 → bt (ca P k) i = (decide (i < k) && P i) := by
  intro k
  induction k with
  | zero => intro _; rw [decide_eq_false (by omega), Bool.false_and]; exact b_0 i
  | succ k ih =>
    intro hk
    show bt (ca P k ||| (if P k = true then ((1 : Int32) <<< (nI k &&& 31)) else 0)) i = _
    rw [b_or, ih (by omega)]
    have h : bt (if P k = true then ((1 : Int32) <<< (nI k &&& 31)) else 0) i = (P k && Nat.beq k i) := by
      cases P k with
      | false => rw [if_neg (by decide), b_0]; rfl
      | true =>
        rw [if_pos rfl, b_shl k (by omega) _ hi, Bool.true_and]
        by_cases z : k ≤ i
        · rw [decide_eq_true z, Bool.true_and, bt_1 _ (by omega)]
          by_cases y : k = i
          · rw [nb_t y, decide_eq_true (by omega)]
          · rw [nb_f y, decide_eq_false (by omega)]
        · rw [decide_eq_false z, Bool.false_and, nb_f (by omega)]
    rw [h]
    by_cases q : k = i
    · subst q
      rw [nb_t rfl, decide_eq_false (by omega), decide_eq_true (by omega), Bool.false_and, Bool.false_or, Bool.and_true, Bool.true_and]
    · rw [nb_f q, Bool.and_false, Bool.or_false]
      by_cases z : i < k
      · rw [decide_eq_true z, decide_eq_true (by omega)]
      · rw [decide_eq_false z, decide_eq_false (by omega)]
theorem s_can (hN : 100 ≤ N) : S_can N (RR C) := by
  intro σ τ h
  obtain ⟨n, s, K, G, M, hA⟩ := h
  have hn := hA.1.1
  obtain ⟨hv, t1, t2, t3⟩ := hA.2.1
  obtain ⟨u1, -⟩ := vl hv
  have e5 := hA.1.2.1
  have e6 := hA.1.2.2.1
  unfold f_X5_can f_X6_can
  rw [e5, e6, t1]
  by_cases q : nI n = 0
  · rw [if_pos q, if_pos q]
    exact ⟨_, rfl, rfl⟩
  rw [if_neg q, if_neg q]
  obtain ⟨r, r1, r2⟩ := doAt5 hN hA u1
  have hr : r = ca (cdo n s (fP K G M)) 28 := b_ext (fun i hi => by rw [r2 i hi, ca_bt _ hi 28 (by omega)])
  have key := lp_for (fun z => f_X6_can_b14 N z.1 z.2 τ) (fun i => (ca (cdo n s (fP K G M)) i, nI i)) (ca (cdo n s (fP K G M)) 28) 28 0 (fun j _ hj => ?_) ?_ N (by omega)
  · rw [r1, bd_s, show (((0 : Int32), (0 : Int32)) : Int32 × Int32) = (ca (cdo n s (fP K G M)) 0, nI 0) from rfl, key, bd_s, hr]
    exact ⟨_, rfl, rfl⟩
  · have hj : j < 28 := by omega
    show f_X6_can_b14 N (ca (cdo n s (fP K G M)) j) (nI j) τ = some (Sum.inl (ca (cdo n s (fP K G M)) j ||| (if cdo n s (fP K G M) j = true then ((1 : Int32) <<< (nI j &&& 31)) else 0), nI (j + 1)))
    unfold f_X6_can_b14 f_X6_can_j36
    rw [if_neg (show ¬ (28 : Int32) ≤ nI j from nI_ge (b := 28) hj (by omega)), canDo6 hN hA hj, bd_s]
    simp only [nm_v, nI_1]
    cases cdo n s (fP K G M) j <;> rfl
  · show f_X6_can_b14 N (ca (cdo n s (fP K G M)) 28) (nI 28) τ = _
    unfold f_X6_can_b14
    rw [if_pos (show (28 : Int32) ≤ nI 28 by decide)]
end ActRows
