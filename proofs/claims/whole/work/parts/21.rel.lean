/-! ===== the relation between the class's state and the reference's ===== -/
/-- where doll d is (0: on the table, 1 and e), and whether it stands open, in the class's number of a stand -/
def pl (s d : Nat) : Nat := s / 8 ^ d % 8
def ob_ (s d : Nat) : Nat := s / 4096 / 2 ^ d % 2
/-- n dolls: where they are is a nest, and what is in one that is shut is shut -/
def vld (n s : Nat) : Bool :=
  decide (s < 65536) &&
  (List.range 4).all (fun d => if d < n then decide (pl s d ≤ n) else decide (pl s d = 0 ∧ ob_ s d = 0)) &&
  (List.range 4).all (fun d => (List.range 4).all (fun e => decide (d = e) || decide (pl s d ≠ pl s e) || decide (pl s d = 0))) &&
  (List.range 4).all (fun d => (List.range 4).all (fun e => decide (pl s d ≠ e + 1) || decide (ob_ s d = 0) || decide (ob_ s e = 1))) &&
  (List.range 4).all (fun d => decide ((fun x => if x = 0 then 0 else pl s (x - 1)) ((fun x => if x = 0 then 0 else pl s (x - 1)) ((fun x => if x = 0 then 0 else pl s (x - 1)) (pl s d))) = 0))
def RDl (n : Nat) (K G M : Nat → Nat) (σ τ : St) : Prop :=
  n ≤ 4 ∧ σ.1 0 0 = nI n ∧ τ.1 0 2 = nI n ∧ (∀ d, d < n → K d ≤ 2 ∧ 1 ≤ G d ∧ G d ≤ 9 ∧ M d < G d) ∧
  ∀ d, d < n → (σ.1 1 d = nI (K d) ∧ σ.1 2 d = nI (G d) ∧ σ.1 3 d = nI (M d)) ∧ τ.1 4 d = nI (K d) ∧ τ.1 5 d = nI (G d) ∧ τ.1 6 d = nI (M d)
def RSt (n s : Nat) (σ τ : St) : Prop := vld n s = true ∧ σ.1 0 1 = nI s ∧ (∀ d, d < n → τ.1 7 d = nI (pl s d)) ∧ τ.1 0 4 = nI (s / 4096)
def RSc (σ τ : St) : Prop := σ.1 0 2 = τ.1 0 3 ∧ σ.1 0 4 = τ.1 0 1 ∧ σ.1 0 5 = τ.1 0 0
def RRd (n : Nat) (σ τ : St) : Prop := ∃ q, q ≤ 8 ∧ σ.1 0 3 = nI q ∧ τ.1 0 8 = nI q ∧ ∀ j, j < q → ∃ a b f : Nat, a < n ∧ b < n ∧ a ≠ b ∧ f ≤ 1 ∧ (σ.1 6 j = nI a ∧ σ.1 7 j = nI b ∧ σ.1 8 j = nI f) ∧ τ.1 16 j = nI a ∧ τ.1 17 j = nI b ∧ τ.1 18 j = nI f
def RS1 (k : Nat) (σ τ : St) : Prop := (σ.1 4 k = -1 ∧ τ.1 1 k = -9) ∨ ∃ ln z : Nat, ln ≤ 2 ∧ z ≤ 60 ∧ (σ.1 4 k = nI ln ∧ σ.1 5 k = nI z) ∧ (τ.1 1 k = nI ln ∧ τ.1 2 k = nI z) ∧ ∀ j, j < 60 → σ.1 (12 + k) j = τ.1 3 (60 * k + j)
def RSh (σ τ : St) : Prop := ∀ k, k < 4 → RS1 k σ τ
section ROf
variable {n s : Nat} {K G M : Nat → Nat} {σ τ σ' τ' : St}
theorem RDl.of (h : RDl n K G M σ τ) (e0 : σ'.1 0 0 = σ.1 0 0 := by rfl) (e1 : σ'.1 1 = σ.1 1 := by rfl) (e2 : σ'.1 2 = σ.1 2 := by rfl) (e3 : σ'.1 3 = σ.1 3 := by rfl) (t0 : τ'.1 0 2 = τ.1 0 2 := by rfl) (t4 : τ'.1 4 = τ.1 4 := by rfl) (t5 : τ'.1 5 = τ.1 5 := by rfl) (t6 : τ'.1 6 = τ.1 6 := by rfl) : RDl n K G M σ' τ' := by
  unfold RDl
  rw [e0, e1, e2, e3, t0, t4, t5, t6]
  exact h
theorem RSt.of (h : RSt n s σ τ) (e1 : σ'.1 0 1 = σ.1 0 1 := by rfl) (t7 : τ'.1 7 = τ.1 7 := by rfl) (t4 : τ'.1 0 4 = τ.1 0 4 := by rfl) : RSt n s σ' τ' := by
  unfold RSt
  rw [e1, t7, t4]
  exact h
theorem RSc.of (h : RSc σ τ) (e2 : σ'.1 0 2 = σ.1 0 2 := by rfl) (e4 : σ'.1 0 4 = σ.1 0 4 := by rfl) (e5 : σ'.1 0 5 = σ.1 0 5 := by rfl) (t3 : τ'.1 0 3 = τ.1 0 3 := by rfl) (t1 : τ'.1 0 1 = τ.1 0 1 := by rfl) (t0 : τ'.1 0 0 = τ.1 0 0 := by rfl) : RSc σ' τ' := by
  unfold RSc
  rw [e2, e4, e5, t3, t1, t0]
  exact h
theorem RRd.of (h : RRd n σ τ) (e3 : σ'.1 0 3 = σ.1 0 3 := by rfl) (e6 : σ'.1 6 = σ.1 6 := by rfl) (e7 : σ'.1 7 = σ.1 7 := by rfl) (e8 : σ'.1 8 = σ.1 8 := by rfl) (t8 : τ'.1 0 8 = τ.1 0 8 := by rfl) (t16 : τ'.1 16 = τ.1 16 := by rfl) (t17 : τ'.1 17 = τ.1 17 := by rfl) (t18 : τ'.1 18 = τ.1 18 := by rfl) : RRd n σ' τ' := by
  unfold RRd
  rw [e3, e6, e7, e8, t8, t16, t17, t18]
  exact h
theorem RS1.of {k : Nat} (h : RS1 k σ τ) (e4 : σ'.1 4 k = σ.1 4 k) (e5 : σ'.1 5 k = σ.1 5 k) (e12 : σ'.1 (12 + k) = σ.1 (12 + k)) (t1 : τ'.1 1 k = τ.1 1 k) (t2 : τ'.1 2 k = τ.1 2 k) (t3 : ∀ j, j < 60 → τ'.1 3 (60 * k + j) = τ.1 3 (60 * k + j)) : RS1 k σ' τ' := by
  unfold RS1
  rw [e4, e5, e12, t1, t2]
  rcases h with h | ⟨ln, z, h1, h2, h3, h4, h5⟩
  · exact Or.inl h
  · exact Or.inr ⟨ln, z, h1, h2, h3, h4, fun j hj => by rw [t3 j hj]; exact h5 j hj⟩
theorem RSh.of (h : RSh σ τ) (e4 : σ'.1 4 = σ.1 4 := by rfl) (e5 : σ'.1 5 = σ.1 5 := by rfl) (e12 : σ'.1 12 = σ.1 12 := by rfl) (e13 : σ'.1 13 = σ.1 13 := by rfl) (e14 : σ'.1 14 = σ.1 14 := by rfl) (e15 : σ'.1 15 = σ.1 15 := by rfl) (t1 : τ'.1 1 = τ.1 1 := by rfl) (t2 : τ'.1 2 = τ.1 2 := by rfl) (t3 : τ'.1 3 = τ.1 3 := by rfl) : RSh σ' τ' := by
  intro k hk
  refine (h k hk).of (by rw [e4]) (by rw [e5]) ?_ (by rw [t1]) (by rw [t2]) (fun j _ => by rw [t3])
  match k, hk with
  | 0, _ => exact e12
  | 1, _ => exact e13
  | 2, _ => exact e14
  | 3, _ => exact e15
  | k + 4, h => exact absurd h (by omega)
end ROf
abbrev CaT : Type := Int32 → Int32 → Int32 → (Nat → Int32) → (Nat → Int32) → (Nat → Int32) → Prop
def RCa (C : CaT) (σ : St) : Prop := C (σ.1 0 6) (σ.1 0 7) (σ.1 0 8) (σ.1 9) (σ.1 10) (σ.1 11)
theorem RCa.of {C : CaT} {σ σ' : St} (h : RCa C σ) (e6 : σ'.1 0 6 = σ.1 0 6 := by rfl) (e7 : σ'.1 0 7 = σ.1 0 7 := by rfl) (e8 : σ'.1 0 8 = σ.1 0 8 := by rfl) (e9 : σ'.1 9 = σ.1 9 := by rfl) (e10 : σ'.1 10 = σ.1 10 := by rfl) (e11 : σ'.1 11 = σ.1 11 := by rfl) : RCa C σ' := by
  unfold RCa
  rw [e6, e7, e8, e9, e10, e11]
  exact h
def RA (C : CaT) (n s : Nat) (K G M : Nat → Nat) (σ τ : St) : Prop := RDl n K G M σ τ ∧ RSt n s σ τ ∧ RSc σ τ ∧ RRd n σ τ ∧ RSh σ τ ∧ RCa C σ
def RR (C : CaT) (σ τ : St) : Prop := ∃ (n s : Nat) (K G M : Nat → Nat), RA C n s K G M σ τ
section RFault
variable {C : CaT} {n s : Nat} {K G M : Nat → Nat} {σ τ : St}
theorem RA.fault (h : RA C n s K G M σ τ) (v : Int32) : RA C n s K G M (wS σ 0 5 v) (wS τ 0 0 v) := by
  obtain ⟨h1, h2, h3, h4, h5, h6⟩ := h
  exact ⟨h1.of, h2.of, ⟨h3.1, h3.2.1, rfl⟩, h4.of, h5.of, h6.of⟩
theorem RR.fault (h : RR C σ τ) (v : Int32) : RR C (wS σ 0 5 v) (wS τ 0 0 v) := by
  obtain ⟨n, s, K, G, M, h⟩ := h
  exact ⟨n, s, K, G, M, h.fault v⟩
theorem RA.tr (h : RA C n s K G M σ τ) (v : Int32) : RA C n s K G M (wS σ 0 4 v) (wS τ 0 1 v) := by
  obtain ⟨h1, h2, h3, h4, h5, h6⟩ := h
  exact ⟨h1.of, h2.of, ⟨h3.1, rfl, h3.2.2⟩, h4.of, h5.of, h6.of⟩
theorem RA.toR (h : RA C n s K G M σ τ) : RR C σ τ := ⟨n, s, K, G, M, h⟩
theorem d5_lo {v : Int32} (h : v < 0) : f_X5_isDoll v σ = some 0 := if_pos h
theorem d5_hi (hA : RA C n s K G M σ τ) {v : Int32} (h : nI n ≤ v) : f_X5_isDoll v σ = some 0 := by
  unfold f_X5_isDoll
  rw [hA.1.2.1, if_pos h]
  split <;> rfl
theorem d6_lo {v : Int32} (h : v < 0) : f_X6_isDoll v τ = some 0 := if_pos h
theorem d6_hi (hA : RA C n s K G M σ τ) {v : Int32} (h : nI n ≤ v) : f_X6_isDoll v τ = some 0 := by
  unfold f_X6_isDoll
  rw [hA.1.2.2.1, if_pos h]
  split <;> rfl
theorem d5_in (hA : RA C n s K G M σ τ) {d : Nat} (h : d < n) : f_X5_isDoll (nI d) σ = some 1 := by
  have h4 := hA.1.1
  unfold f_X5_isDoll
  rw [hA.1.2.1, if_neg (nI_pos (by omega)), if_neg (nI_ge h (by omega))]
theorem d6_in (hA : RA C n s K G M σ τ) {d : Nat} (h : d < n) : f_X6_isDoll (nI d) τ = some 1 := by
  have h4 := hA.1.1
  unfold f_X6_isDoll
  rw [hA.1.2.2.1, if_neg (nI_pos (by omega)), if_neg (nI_ge h (by omega))]
/-- a doll's number: none, or d -/
theorem isD (hA : RA C n s K G M σ τ) (v : Int32) : (f_X5_isDoll v σ = some 0 ∧ f_X6_isDoll v τ = some 0) ∨ ∃ d, d < n ∧ v = nI d := by
  have h4 := hA.1.1
  rcases pk_ix v (n := n) (by omega) with h | h | h
  · exact Or.inl ⟨d5_lo h, d6_lo h⟩
  · exact Or.inl ⟨d5_hi hA h, d6_hi hA h⟩
  · exact Or.inr h
end RFault
