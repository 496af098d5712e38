/-! ===== the pure side: rows on the lifted words ===== -/
section PB
variable {α β γ : Type}
theorem gd_t (x : Option α) : gd true x = x := rfl
theorem bd_s (a : α) (f : α → Option β) : bd (some a) f = f a := rfl
theorem bd2_s (a : α) (c : γ) (f : α → γ → Option β) : bd2 (some (a, c)) f = f a c := rfl
theorem nm_v (e : α) (f : α → Option β) : nm e f = f e := rfl
theorem i00 (a b : α) : (if (0 : Int32) = 0 then a else b) = a := rfl
theorem i10 (a b : α) : (if (1 : Int32) = 0 then a else b) = b := rfl
theorem i01 (a b : α) : (if (0 : Int32) = (1 : Int32) then a else b) = b := rfl
theorem i11 (a b : α) : (if (1 : Int32) = (1 : Int32) then a else b) = a := rfl
theorem ii00 (a b : α) : (if (0 : Int32) = (0 : Int32) then a else b) = a := rfl
theorem ii10 (a b : α) : (if (1 : Int32) = (0 : Int32) then a else b) = b := rfl
theorem lp_s {S O : Type} (f : S → Option (S ⊕ O)) (k : Nat) (s : S) : lpF f (k + 1) s = (f s).bind (Sum.elim (lpF f k) some) := rfl
/-- a loop whose states are known: n times on, then out -/
theorem lp_for {S O : Type} (f : S → Option (S ⊕ O)) (st : Nat → S) (o : O) : ∀ (n i : Nat), (∀ j, i ≤ j → j < i + n → f (st j) = some (.inl (st (j + 1)))) → f (st (i + n)) = some (.inr o) → ∀ N, n < N → lpF f N (st i) = some o := by
  intro n
  induction n with
  | zero =>
    intro i _ he N hN
    obtain ⟨k, rfl⟩ : ∃ k, N = k + 1 := ⟨N - 1, by omega⟩
    rw [lp_s]
    have he : f (st i) = some (.inr o) := he
    rw [he]
    rfl
  | succ n ih =>
    intro i hs he N hN
    obtain ⟨k, rfl⟩ : ∃ k, N = k + 1 := ⟨N - 1, by omega⟩
    rw [lp_s, hs i (by omega) (by omega)]
    show lpF f k (st (i + 1)) = some o
    refine ih (i + 1) (fun j h1 h2 => hs j (by omega) (by omega)) ?_ k (by omega)
    rw [show i + 1 + n = i + (n + 1) by omega]
    exact he
end PB
theorem up_same {α : Type} (f : Nat → α) (k : Nat) (v : α) : va_up f k v k = v := va_up_self f k v
theorem wS_0 (σ : St) (g j : Nat) (v : Int32) : (wS σ g j v).1 g = upd (σ.1 g) j v := va_up_self _ _ _
theorem wS_n (σ : St) {g g' : Nat} (j : Nat) (v : Int32) (h : g' ≠ g) : (wS σ g j v).1 g' = σ.1 g' := va_up_ne _ _ h
theorem wS_2 (σ : St) (g j : Nat) (v : Int32) : (wS σ g j v).2 = σ.2 := rfl
theorem wG_0 (σ : St) (g : Nat) (f : Nat → Int32) : (wG σ g f).1 g = f := va_up_self _ _ _
theorem wG_n (σ : St) {g g' : Nat} (f : Nat → Int32) (h : g' ≠ g) : (wG σ g f).1 g' = σ.1 g' := va_up_ne _ _ h
theorem upd_0 (f : Nat → Int32) (k : Nat) (v : Int32) : upd f k v k = v := by simp [upd]
theorem upd_n (f : Nat → Int32) {k j : Nat} (v : Int32) (h : j ≠ k) : upd f k v j = f j := by simp [upd, h]
theorem ck_nI {d n : Nat} (h : d < n) (hn : n < 2 ^ 31) : ck (nI d) n = true := by
  have h1 := vp_in_nI h hn
  unfold vp_in at h1
  unfold ck
  simp only [Bool.not_eq_true', Bool.or_eq_false_iff, decide_eq_false_iff_not]
  exact ⟨fun q => h1 (Or.inl q), fun q => h1 (Or.inr q)⟩
theorem nI_neg1 {a : Nat} (h : a < 2 ^ 31) : ¬ nI a = (-1 : Int32) := fun q => by
  have h1 := nI_toInt h
  rw [q] at h1
  have h2 : (-1 : Int32).toInt = -1 := by decide
  omega
theorem nI_neg9 {a : Nat} (h : a < 2 ^ 31) : ¬ nI a = (-9 : Int32) := fun q => by
  have h1 := nI_toInt h
  rw [q] at h1
  have h2 : (-9 : Int32).toInt = -9 := by decide
  omega
theorem nI_inj {a b : Nat} (ha : a < 2 ^ 31) (hb : b < 2 ^ 31) (h : nI a = nI b) : a = b := (nI_eq ha hb).mp h
