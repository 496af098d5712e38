section ChainRows
variable {C : CaT} {N : Nat} {n s : Nat} {K G M : Nat → Nat} {σ τ τ' : St}
/-- a loop with an invariant -/
theorem lp_inv {S O : Type} (f : S → Option (S ⊕ O)) (I : Nat → S → Prop) (n : Nat) (Q : O → Prop) (hs : ∀ i s, i < n → I i s → ∃ s', f s = some (.inl s') ∧ I (i + 1) s') (he : ∀ s, I n s → ∃ o, f s = some (.inr o) ∧ Q o) : ∀ k i s, i + k = n → I i s → ∀ N, k < N → ∃ o, lpF f N s = some o ∧ Q o := by
  intro k
  induction k with
  | zero =>
    intro i s hi h N hN
    obtain ⟨a, rfl⟩ : ∃ a, N = a + 1 := ⟨N - 1, by omega⟩
    have hi : i = n := hi
    subst hi
    obtain ⟨o, h1, h2⟩ := he s h
    exact ⟨o, by rw [lp_s, h1]; rfl, h2⟩
  | succ k ih =>
    intro i s hi h N hN
    obtain ⟨a, rfl⟩ : ∃ a, N = a + 1 := ⟨N - 1, by omega⟩
    obtain ⟨s', h1, h2⟩ := hs i s (by omega) h
    obtain ⟨o, h3, h4⟩ := ih (i + 1) s' (by omega) h2 a (by omega)
    exact ⟨o, by rw [lp_s, h1]; exact h3, h4⟩
abbrev ChS : Type := Nat × (Nat → Nat)
def stV (f d e : Nat) (z : ChS) : Nat := if uP f d e = true then (if z.2 e < z.2 d + 1 then z.2 d + 1 else z.2 e) else z.2 e
def stp (f d e : Nat) (z : ChS) : ChS := (if z.1 < stV f d e z then stV f d e z else z.1, fun i => if Nat.beq i e = true then stV f d e z else z.2 i)
def in3 (f d : Nat) (z : ChS) : Nat → ChS
  | 0 => z
  | e + 1 => stp f d e (in3 f d z e)
def in2 (f n : Nat) (z : ChS) : Nat → ChS
  | 0 => z
  | d + 1 => in3 f d (in2 f n z d) n
def in1 (f n : Nat) (z : ChS) : Nat → ChS
  | 0 => z
  | r + 1 => in2 f n (in1 f n z r) n
def sgc (n : Nat) : St := (fun _ _ => nI n, fun _ => 0)
def chB (n f : Nat) : Bool := decide (lpF (fun w => f_X5_chain_b19 NN (nI f) w.1 w.2 (sgc n)) NN ((0 : Int32), (0 : Int32)) = some (nI (in1 f n (1, fun _ => 1) n).1))
set_option maxRecDepth 100000 in
set_option maxHeartbeats 4000000 in
theorem ch_b : [1, 2, 3, 4].all (fun n => (pos_ n).all (fun f => chB n f)) = true := by decide +kernel
def Same15 (τ τ' : St) : Prop := ∀ g, g ≠ 15 → τ'.1 g = τ.1 g
theorem RA.same15 (hA : RA C n s K G M σ τ) (y : Same15 τ τ') : RA C n s K G M σ τ' := by
  obtain ⟨h1, h2, h3, h4, h5, h6⟩ := hA
  have z := y 0 (by decide)
  exact ⟨h1.of rfl rfl rfl rfl (by rw [z]) (y 4 (by decide)) (y 5 (by decide)) (y 6 (by decide)), h2.of rfl (y 7 (by decide)) (by rw [z]), h3.of rfl rfl rfl (by rw [z]) (by rw [z]) (by rw [z]), h4.of rfl rfl rfl rfl (by rw [z]) (y 16 (by decide)) (y 17 (by decide)) (y 18 (by decide)), h5.of rfl rfl rfl rfl rfl rfl (y 1 (by decide)) (y 2 (by decide)) (y 3 (by decide)), h6⟩
theorem Same15.w (h : Same15 τ τ') (i : Nat) (v : Int32) : Same15 τ (wS τ' 15 i v) := fun g hg => (wS_n _ _ _ hg).trans (h g hg)
/-- the reference's state in the midst of chain -/
def ChI (n : Nat) (τ : St) (z : ChS) (T : Nat) (x : Int32) (τ' : St) : Prop := x = nI z.1 ∧ Same15 τ τ' ∧ z.1 ≤ T ∧ (∀ d, z.2 d ≤ T) ∧ ∀ d, d < n → τ'.1 15 d = nI (z.2 d)
theorem stV_le {f d e T : Nat} {z : ChS} (h : ∀ d, z.2 d ≤ T) : stV f d e z ≤ T + 1 := by
  have h1 := h d
  have h2 := h e
  unfold stV
  split
  · split <;> omega
  · omega
theorem ch_step (hA : RA C n s K G M σ τ) {f : Nat} (hf : ∀ d, d < n → ∀ e, e < n → d ≠ e → bi f (4 * d + e) = fitB K G M d e) {z : ChS} {T d e : Nat} {x x2 : Int32} (hT : T ≤ 1000) (hd : d < n) (he : e < n) (h : ChI n τ z T x τ') : ∃ x' ρ, f_X6_chain_b58 N x x2 (nI d) (nI e) τ' = some (.inl (x', nI (e + 1), ρ)) ∧ ChI n τ (stp f d e z) (T + 1) x' ρ := by
  obtain ⟨rfl, h2, h3, h4, h5⟩ := h
  have hA' := hA.same15 h2
  have hn := hA.1.1
  have e6 := hA'.1.2.2.1
  have zd := h4 d
  have ze := h4 e
  have sl := stV_le (f := f) (d := d) (e := e) h4
  have j137 : ∀ y : Int32, y = nI (stV f d e z) → ∃ x' ρ, f_X6_chain_j137 N (nI z.1) x2 (nI d) (nI e) (nI e) y τ' = some (.inl (x', nI (e + 1), ρ)) ∧ ChI n τ (stp f d e z) (T + 1) x' ρ := by
    rintro y rfl
    unfold f_X6_chain_j137 f_X6_chain_j160
    rw [ck_nI (by omega) (by omega), gd_t, nm_v, nI_clamp (by omega), gd_t, gd_t, wS_0, upd_0, nm_v, nm_v, nI_1]
    have hI : ∀ x', x' = nI (stp f d e z).1 → ChI n τ (stp f d e z) (T + 1) x' (wS τ' 15 e (nI (stV f d e z))) := by
      rintro x' rfl
      refine ⟨rfl, h2.w _ _, ?_, fun i => ?_, fun i hi => ?_⟩
      · show (if z.1 < stV f d e z then stV f d e z else z.1) ≤ T + 1
        split <;> omega
      · show (if Nat.beq i e = true then stV f d e z else z.2 i) ≤ T + 1
        have := h4 i
        split <;> omega
      · show (wS τ' 15 e (nI (stV f d e z))).1 15 i = nI (if Nat.beq i e = true then stV f d e z else z.2 i)
        rw [wS_0]
        by_cases q : i = e
        · rw [q, upd_0, if_pos (nb_t rfl)]
        · rw [upd_n _ _ q, if_neg (by rw [nb_f q]; decide)]
          exact h5 i hi
    by_cases q : z.1 < stV f d e z
    · rw [if_neg (nI_ge q (by omega))]
      exact ⟨_, _, rfl, hI _ (by show _ = nI (if z.1 < stV f d e z then stV f d e z else z.1); rw [if_pos q])⟩
    · rw [if_pos (nI_le (by omega) (by omega))]
      exact ⟨_, _, rfl, hI _ (by show _ = nI (if z.1 < stV f d e z then stV f d e z else z.1); rw [if_neg q])⟩
  unfold f_X6_chain_b58 f_X6_chain_j105 f_X6_chain_j106
  rw [e6, if_neg (nI_ge he (by omega)), i00, i10, ck_nI (by omega) (by omega), ck_nI (by omega) (by omega), gd_t, gd_t, gd_t, nI_clamp (by omega), nI_clamp (by omega), h5 d hd, h5 e he, nI_1]
  by_cases q : d = e
  · rw [if_pos (congrArg nI q)]
    refine j137 _ ?_
    unfold stV uP
    rw [nb_t q]
    rfl
  · rw [if_neg (fun w => q (nI_inj (by omega) (by omega) w)), into6 hA' hd he, bd_s]
    cases hb : fitB K G M d e with
    | false =>
      refine j137 _ ?_
      unfold stV uP
      rw [hf d hd e he q, hb, Bool.and_false]
      rfl
    | true =>
      have hu : uP f d e = true := by unfold uP; rw [hf d hd e he q, hb, nb_f q]; rfl
      show ∃ x' ρ, (if nI (z.2 d + 1) ≤ nI (z.2 e) then _ else _) = _ ∧ _
      by_cases w : z.2 e < z.2 d + 1
      · rw [if_neg (nI_ge w (by omega))]
        refine j137 _ ?_
        unfold stV
        rw [if_pos hu, if_pos w]
      · rw [if_pos (nI_le (by omega) (by omega))]
        refine j137 _ ?_
        unfold stV
        rw [if_pos hu, if_neg w]
theorem ch_3 (hN : 100 ≤ N) (hA : RA C n s K G M σ τ) {f : Nat} (hf : ∀ d, d < n → ∀ e, e < n → d ≠ e → bi f (4 * d + e) = fitB K G M d e) {z : ChS} {T d : Nat} {x x2 : Int32} (hT : T ≤ 900) (hd : d < n) (h : ChI n τ z T x τ') : ∃ x' ρ, f_X6_chain_b47 N x x2 (nI d) τ' = some (.inl (x', nI (d + 1), ρ)) ∧ ChI n τ (in3 f d z n) (T + n) x' ρ := by
  have hn := hA.1.1
  unfold f_X6_chain_b47 f_X6_chain_j167
  rw [(hA.same15 h.2.1).1.2.2.1, if_neg (nI_ge hd (by omega))]
  have key := lp_inv (fun w => f_X6_chain_b58 N w.1 x2 (nI d) w.2.1 w.2.2) (fun i w => w.2.1 = nI i ∧ ChI n τ (in3 f d z i) (T + i) w.1 w.2.2) n (fun o => ChI n τ (in3 f d z n) (T + n) o.1 o.2) (fun i w hi hw => ?_) (fun w hw => ?_) n 0 (x, (0 : Int32), τ') (by omega) ⟨rfl, h⟩ N (by omega)
  · obtain ⟨o, o1, o2⟩ := key
    rw [o1, bd_s, nm_v, nI_1]
    exact ⟨_, _, rfl, o2⟩
  · obtain ⟨w1, w2, w3⟩ := w
    obtain ⟨rfl, hw⟩ := hw
    obtain ⟨x', ρ, r1, r2⟩ := ch_step (N := N) (x2 := x2) hA hf (by omega) hd hi hw
    exact ⟨_, r1, rfl, r2⟩
  · obtain ⟨w1, w2, w3⟩ := w
    obtain ⟨rfl, hw⟩ := hw
    refine ⟨(w1, w3), ?_, hw⟩
    show f_X6_chain_b58 N w1 x2 (nI d) (nI n) w3 = _
    unfold f_X6_chain_b58
    have hw2 : Same15 τ w3 := hw.2.1
    rw [(hA.same15 hw2).1.2.2.1, if_pos (Int32.le_refl _)]
theorem ch_2 (hN : 100 ≤ N) (hA : RA C n s K G M σ τ) {f : Nat} (hf : ∀ d, d < n → ∀ e, e < n → d ≠ e → bi f (4 * d + e) = fitB K G M d e) {z : ChS} {T r : Nat} {x : Int32} (hT : T ≤ 800) (hr : r < n) (h : ChI n τ z T x τ') : ∃ x' ρ, f_X6_chain_b37 N x (nI r) τ' = some (.inl (x', nI (r + 1), ρ)) ∧ ChI n τ (in2 f n z n) (T + 16) x' ρ := by
  have hn := hA.1.1
  unfold f_X6_chain_b37 f_X6_chain_j173
  rw [(hA.same15 h.2.1).1.2.2.1, if_neg (nI_ge hr (by omega))]
  have key := lp_inv (fun w => f_X6_chain_b47 N w.1 (nI r) w.2.1 w.2.2) (fun i w => w.2.1 = nI i ∧ ChI n τ (in2 f n z i) (T + 4 * i) w.1 w.2.2) n (fun o => ChI n τ (in2 f n z n) (T + 16) o.1 o.2) (fun i w hi hw => ?_) (fun w hw => ?_) n 0 (x, (0 : Int32), τ') (by omega) ⟨rfl, h⟩ N (by omega)
  · obtain ⟨o, o1, o2⟩ := key
    rw [o1, bd_s, nm_v, nI_1]
    exact ⟨_, _, rfl, o2⟩
  · obtain ⟨w1, w2, w3⟩ := w
    obtain ⟨rfl, hw⟩ := hw
    obtain ⟨x', ρ, r1, r2, r3, r4, r5, r6⟩ := ch_3 (x2 := nI r) hN hA hf (by omega) hi hw
    exact ⟨_, r1, rfl, r2, r3, by show _ ≤ T + 4 * (i + 1); exact Nat.le_trans r4 (by omega), fun d => Nat.le_trans (r5 d) (by omega), r6⟩
  · obtain ⟨w1, w2, w3⟩ := w
    obtain ⟨rfl, hw⟩ := hw
    obtain ⟨hw1, hw2, hw3, hw4, hw5⟩ := hw
    refine ⟨(w1, w3), ?_, hw1, hw2, Nat.le_trans hw3 (by omega), fun d => Nat.le_trans (hw4 d) (by omega), hw5⟩
    show f_X6_chain_b47 N w1 (nI r) (nI n) w3 = _
    unfold f_X6_chain_b47
    have hw2 : Same15 τ w3 := hw2
    rw [(hA.same15 hw2).1.2.2.1, if_pos (Int32.le_refl _)]
theorem ch_1 (hN : 100 ≤ N) (hA : RA C n s K G M σ τ) {f : Nat} (hf : ∀ d, d < n → ∀ e, e < n → d ≠ e → bi f (4 * d + e) = fitB K G M d e) {z : ChS} {T : Nat} {x : Int32} (hT : T ≤ 100) (h : ChI n τ z T x τ') : ∃ x' ρ, lpF (fun w => f_X6_chain_b37 N w.1 w.2.1 w.2.2) N (x, (0 : Int32), τ') = some (x', ρ) ∧ ChI n τ (in1 f n z n) (T + 64) x' ρ := by
  have hn := hA.1.1
  have key := lp_inv (fun w => f_X6_chain_b37 N w.1 w.2.1 w.2.2) (fun i w => w.2.1 = nI i ∧ ChI n τ (in1 f n z i) (T + 16 * i) w.1 w.2.2) n (fun o => ChI n τ (in1 f n z n) (T + 64) o.1 o.2) (fun i w hi hw => ?_) (fun w hw => ?_) n 0 (x, (0 : Int32), τ') (by omega) ⟨rfl, h⟩ N (by omega)
  · obtain ⟨o, o1, o2⟩ := key
    exact ⟨o.1, o.2, o1, o2⟩
  · obtain ⟨w1, w2, w3⟩ := w
    obtain ⟨rfl, hw⟩ := hw
    obtain ⟨x', ρ, r1, r2, r3, r4, r5, r6⟩ := ch_2 hN hA hf (by omega) hi hw
    exact ⟨_, r1, rfl, r2, r3, by show _ ≤ T + 16 * (i + 1); exact Nat.le_trans r4 (by omega), fun d => Nat.le_trans (r5 d) (by omega), r6⟩
  · obtain ⟨w1, w2, w3⟩ := w
    obtain ⟨rfl, hw⟩ := hw
    obtain ⟨hw1, hw2, hw3, hw4, hw5⟩ := hw
    refine ⟨(w1, w3), ?_, hw1, hw2, Nat.le_trans hw3 (by omega), fun d => Nat.le_trans (hw4 d) (by omega), hw5⟩
    show f_X6_chain_b37 N w1 (nI n) w3 = _
    unfold f_X6_chain_b37
    have hw2 : Same15 τ w3 := hw2
    rw [(hA.same15 hw2).1.2.2.1, if_pos (Int32.le_refl _)]
theorem ch_0 (hN : 100 ≤ N) (hA : RA C n s K G M σ τ) : ∃ ρ, lpF (fun w => f_X6_chain_b12 N w.1 w.2) N ((0 : Int32), τ) = some ρ ∧ ChI n τ (1, fun _ => 1) 1 1 ρ := by
  have hn := hA.1.1
  have key := lp_inv (fun w => f_X6_chain_b12 N w.1 w.2) (fun i w => w.1 = nI i ∧ Same15 τ w.2 ∧ ∀ d, d < i → w.2.1 15 d = 1) n (fun o => Same15 τ o ∧ ∀ d, d < n → o.1 15 d = 1) (fun i w hi hw => ?_) (fun w hw => ?_) n 0 ((0 : Int32), τ) (by omega) ⟨rfl, fun _ _ => rfl, fun d hd => absurd hd (by omega)⟩ N (by omega)
  · obtain ⟨o, o1, o2⟩ := key
    exact ⟨o, o1, rfl, o2.1, by show 1 ≤ 1; omega, fun _ => by show 1 ≤ 1; omega, o2.2⟩
  · obtain ⟨w1, w2⟩ := w
    obtain ⟨rfl, h2, h3⟩ := hw
    have h2 : Same15 τ w2 := h2
    refine ⟨(nI (i + 1), wS w2 15 i 1), ?_, rfl, h2.w _ _, fun d hd => ?_⟩
    · show f_X6_chain_b12 N (nI i) w2 = _
      unfold f_X6_chain_b12
      rw [(hA.same15 h2).1.2.2.1, if_neg (nI_ge hi (by omega)), ck_nI (by omega) (by omega), gd_t, nm_v, nm_v, nI_1, nI_clamp (by omega)]
    · show (wS w2 15 i 1).1 15 d = 1
      rw [wS_0]
      by_cases q : d = i
      · rw [q, upd_0]
      · rw [upd_n _ _ q]; exact h3 d (by omega)
  · obtain ⟨w1, w2⟩ := w
    obtain ⟨rfl, h2, h3⟩ := hw
    have h2 : Same15 τ w2 := h2
    refine ⟨w2, ?_, h2, h3⟩
    show f_X6_chain_b12 N (nI n) w2 = _
    unfold f_X6_chain_b12
    rw [(hA.same15 h2).1.2.2.1, if_pos (Int32.le_refl _)]
theorem s_chain : S_chain NN (RR C) := by
  intro σ τ h
  obtain ⟨n, s, K, G, M, hA⟩ := h
  have hn := hA.1.1
  have e5 := hA.1.2.1
  have e6 := hA.1.2.2.1
  unfold f_X5_chain f_X6_chain
  rw [e5, e6]
  by_cases q : nI n = 0
  · rw [if_pos q, if_pos q]
    exact ⟨_, _, rfl, rfl, hA.toR⟩
  have n0 : n ≠ 0 := fun z => q (by rw [z]; rfl)
  rw [if_neg q, if_neg q]
  obtain ⟨f, f1, f2, f3, f4⟩ := fcode hA
  obtain ⟨ρ, r1, r2⟩ := ch_0 NN_le hA
  obtain ⟨x', ρ', r3, r4⟩ := ch_1 NN_le hA f4 (by omega) r2
  have hb := List.all_eq_true.mp (List.all_eq_true.mp ch_b n (by
    rcases (show n = 1 ∨ n = 2 ∨ n = 3 ∨ n = 4 by omega) with rfl | rfl | rfl | rfl
    · exact List.mem_cons_self
    · exact List.mem_cons_of_mem _ List.mem_cons_self
    · exact List.mem_cons_of_mem _ (List.mem_cons_of_mem _ List.mem_cons_self)
    · exact List.mem_cons_of_mem _ (List.mem_cons_of_mem _ (List.mem_cons_of_mem _ List.mem_cons_self)))) f f1
  have hb : lpF (fun w => f_X5_chain_b19 NN (nI f) w.1 w.2 (sgc n)) NN ((0 : Int32), (0 : Int32)) = some (nI (in1 f n (1, fun _ => 1) n).1) := of_decide_eq_true hb
  have hfun : (fun w : Int32 × Int32 => f_X5_chain_b19 NN (nI f) w.1 w.2 σ) = (fun w => f_X5_chain_b19 NN (nI f) w.1 w.2 (sgc n)) := by
    funext w
    unfold f_X5_chain_b19
    rw [e5]
    rfl
  rw [fitting5 NN_le hA, f3, bd_s, hfun, hb, bd_s, r1, bd_s]
  unfold f_X6_chain_j33
  rw [r3, bd_s]
  obtain ⟨t1, t2, -⟩ := r4
  refine ⟨_, ρ', rfl, ?_, (hA.same15 t2).toR⟩
  rw [t1]
  rfl
end ChainRows
