section NestRows
variable {C : CaT} {N : Nat} {n s T : Nat} {K G M : Nat → Nat} {σ τ τ' ρ ρ' : St} {F : Int32}
/-! the reference's search against the pure one -/
def SmN (τ τ' : St) : Prop := (∀ g, g ≠ 0 → g ≠ 9 → g ≠ 10 → g ≠ 11 → g ≠ 12 → τ'.1 g = τ.1 g) ∧ ∀ j, j ≠ 7 → τ'.1 0 j = τ.1 0 j
def SmB (τ τ' : St) : Prop := (∀ j, j ≠ 4 → τ'.1 0 j = τ.1 0 j) ∧ ∀ g, g ≠ 0 → g ≠ 7 → τ'.1 g = τ.1 g
theorem SmN.rf (τ : St) : SmN τ τ := ⟨fun _ _ _ _ _ _ => rfl, fun _ _ => rfl⟩
theorem SmN.tr (h1 : SmN τ ρ) (h2 : SmN ρ ρ') : SmN τ ρ' := ⟨fun g a b c d e => (h2.1 g a b c d e).trans (h1.1 g a b c d e), fun j hj => (h2.2 j hj).trans (h1.2 j hj)⟩
theorem gd_o {α : Type} {b : Bool} {x : Option α} {y : α} (h : gd b x = some y) : x = some y := by
  cases b with
  | false => exact absurd h (by show ¬ none = some y; intro q; cases q)
  | true => exact h
theorem does_sm {x : Int32} (h : f_X6_does x τ = some τ') : SmB τ τ' := by
  unfold f_X6_does at h
  rw [nm_v] at h
  by_cases q12 : x < 12
  · rw [if_pos q12] at h
    by_cases q8 : x < 8
    · rw [if_pos q8, nm_v] at h
      cases h
      exact ⟨fun j hj => by rw [wS_0, upd_n _ _ hj], fun g h0 h7 => wS_n _ _ _ h0⟩
    · rw [if_neg q8] at h
      have h := gd_o h
      rw [nm_v] at h
      cases h
      exact ⟨fun j hj => by rw [wS_n _ _ _ (by decide)], fun g h0 h7 => wS_n _ _ _ h7⟩
  · rw [if_neg q12] at h
    have h := gd_o h
    rw [nm_v] at h
    cases h
    exact ⟨fun j hj => by rw [wS_n _ _ _ (by decide)], fun g h0 h7 => wS_n _ _ _ h7⟩
theorem RA.smn (hA : RA C n s K G M σ τ) (h : SmN τ τ') : RA C n s K G M σ τ' := by
  obtain ⟨h1, h2, h3, h4, h5, h6⟩ := hA
  have e : ∀ g, 1 ≤ g → g ≤ 8 → τ'.1 g = τ.1 g := fun x a b => h.1 x (by omega) (by omega) (by omega) (by omega) (by omega)
  have e' : ∀ g, 13 ≤ g → τ'.1 g = τ.1 g := fun x a => h.1 x (by omega) (by omega) (by omega) (by omega) (by omega)
  exact ⟨h1.of rfl rfl rfl rfl (h.2 2 (by decide)) (e 4 (by omega) (by omega)) (e 5 (by omega) (by omega)) (e 6 (by omega) (by omega)), h2.of rfl (e 7 (by omega) (by omega)) (h.2 4 (by decide)), h3.of rfl rfl rfl (h.2 3 (by decide)) (h.2 1 (by decide)) (h.2 0 (by decide)), h4.of rfl rfl rfl rfl (h.2 8 (by decide)) (e' 16 (by omega)) (e' 17 (by omega)) (e' 18 (by omega)), h5.of rfl rfl rfl rfl rfl rfl (e 1 (by omega) (by omega)) (e 2 (by omega) (by omega)) (e 3 (by omega) (by omega)), h6⟩
theorem beN (hN : 100 ≤ N) (hB : RA C n s K G M (wS σ 0 1 (nI s)) τ) {t : Nat} (hv : vld n t = true) : ∃ τ', f_X6_becomeNest N (nI (nst t)) τ = some τ' ∧ RA C n t K G M (wS σ 0 1 (nI t)) τ' ∧ SmB τ τ' := by
  have hn := hB.1.1
  obtain ⟨u1, -⟩ := vl hv
  obtain ⟨τ', h1, h2, h3, h4, h5⟩ := become6 hN u1 (fun d hd => vpl hn hv hd) τ
  have h := hB.st hv h2 h3 (fun d hd => h4 d (by omega)) h5
  rw [wS_wS] at h
  exact ⟨τ', h1, h, h2, h3⟩
theorem nst_lt (hn : n ≤ 4) (hv : vld n s = true) : nst s < 10000 := by
  obtain ⟨u1, -⟩ := vl hv
  have p0 := vpl hn hv (d := 0) (by omega)
  have p1 := vpl hn hv (d := 1) (by omega)
  have p2 := vpl hn hv (d := 2) (by omega)
  have p3 := vpl hn hv (d := 3) (by omega)
  show 5 * (5 * (5 * (5 * (s / 4096) + pl s 0) + pl s 1) + pl s 2) + pl s 3 < 10000
  omega
theorem st_pl (s : Nat) : s = pl s 0 + 8 * pl s 1 + 64 * pl s 2 + 512 * pl s 3 + 4096 * (s / 4096) := by
  have h1 : s / 64 = s / 8 / 8 := by omega
  have h2 : s / 512 = s / 64 / 8 := by omega
  have h3 : s / 4096 = s / 512 / 8 := by omega
  unfold pl
  show s = s / 1 % 8 + 8 * (s / 8 % 8) + 64 * (s / 64 % 8) + 512 * (s / 512 % 8) + 4096 * (s / 4096)
  omega
theorem nst_inj {t : Nat} (hn : n ≤ 4) (hv : vld n s = true) (hw : vld n t = true) (e : nst s = nst t) : s = t := by
  have p0 := vpl hn hv (d := 0) (by omega)
  have p1 := vpl hn hv (d := 1) (by omega)
  have p2 := vpl hn hv (d := 2) (by omega)
  have p3 := vpl hn hv (d := 3) (by omega)
  have q0 := vpl hn hw (d := 0) (by omega)
  have q1 := vpl hn hw (d := 1) (by omega)
  have q2 := vpl hn hw (d := 2) (by omega)
  have q3 := vpl hn hw (d := 3) (by omega)
  have e : 5 * (5 * (5 * (5 * (s / 4096) + pl s 0) + pl s 1) + pl s 2) + pl s 3 = 5 * (5 * (5 * (5 * (t / 4096) + pl t 0) + pl t 1) + pl t 2) + pl t 3 := e
  have r3 : pl s 3 = pl t 3 := by omega
  have r2 : pl s 2 = pl t 2 := by omega
  have r1 : pl s 1 = pl t 1 := by omega
  have r0 : pl s 0 = pl t 0 := by omega
  have ro : s / 4096 = t / 4096 := by omega
  rw [st_pl s, st_pl t, r0, r1, r2, r3, ro]
/-- where a step leads -/
def ldz (n : Nat) (F : Int32) (z : BZ) (k : Nat) : Option Nat := if cdo n (z.2.1 (k / 28)) (FB F) (k % 28) = true then fnd z.2.1 (aft (z.2.1 (k / 28)) (k % 28)) z.1 else none
theorem ldz_at {z : BZ} {i a : Nat} (ha : a < 28) : ldz n F z (28 * i + a) = if cdo n (z.2.1 i) (FB F) a = true then fnd z.2.1 (aft (z.2.1 i) a) z.1 else none := by
  unfold ldz
  rw [show (28 * i + a) / 28 = i by omega, show (28 * i + a) % 28 = a by omega]
theorem fnd_at {S : Nat → Nat} {t m j : Nat} (hi : ∀ i j, i < m → j < m → S i = S j → i = j) (hj : j < m) (e : S j = t) : fnd S t m = some j := by
  cases h : fnd S t m with
  | none => exact absurd e (fnd_n h hj)
  | some i =>
    obtain ⟨h1, h2⟩ := fnd_s h
    rw [hi i j h1 hj (h2.trans e.symm)]
def NZ (z : BZ) (τ : St) : Prop := τ.1 0 7 = nI z.1 ∧ (∀ j, j < z.1 → τ.1 10 j = nI (nst (z.2.1 j)) ∧ τ.1 9 (nst (z.2.1 j)) = nI j) ∧ ∀ x, x < 10000 → (∀ j, j < z.1 → nst (z.2.1 j) ≠ x) → τ.1 9 x = -9
def LZ (n : Nat) (F : Int32) (z : BZ) (k : Nat) (τ : St) : Prop := ∀ q, q < k → τ.1 11 q = o9 (ldz n F z q)
theorem NZ.of {z : BZ} (h : NZ z τ) (e7 : τ'.1 0 7 = τ.1 0 7) (e9 : τ'.1 9 = τ.1 9) (e10 : τ'.1 10 = τ.1 10) : NZ z τ' := by
  unfold NZ
  rw [e7, e9, e10]
  exact h
theorem NZ.sm {z : BZ} (h : NZ z τ) (b : SmB τ τ') : NZ z τ' := h.of (b.1 7 (by decide)) (b.2 9 (by decide) (by decide)) (b.2 10 (by decide) (by decide))
theorem LZ.of {z : BZ} {k : Nat} (h : LZ n F z k τ) (e : τ'.1 11 = τ.1 11) : LZ n F z k τ' := fun q hq => by rw [e]; exact h q hq
theorem LZ.up {z : BZ} {k : Nat} {v : Int32} (h : LZ n F z k τ) (e : τ'.1 11 = upd (τ.1 11) k v) : LZ n F z k τ' := fun q hq => by rw [e, upd_n _ _ (by omega)]; exact h q hq
theorem LZ.on {z : BZ} {k : Nat} {v : Int32} (h : LZ n F z k τ) (e : τ'.1 11 = upd (τ.1 11) k v) (hv : v = o9 (ldz n F z k)) : LZ n F z (k + 1) τ' := by
  intro q hq
  by_cases w : q = k
  · rw [e, w, upd_0, hv]
  · rw [e, upd_n _ _ w]
    exact h q (by omega)
theorem sm11 (ρ : St) (k : Nat) (v : Int32) : SmN ρ (wS ρ 11 k v) := ⟨fun g _ _ _ h _ => wS_n _ _ _ h, fun j _ => by rw [wS_n _ _ _ (by decide)]⟩
/-- one nest, one act -/
theorem fnStep (hN : 100 ≤ N) (hn : n ≤ 4) (hv : vld n s = true) (hF : ∀ t a, a < 28 → cdo n t (FB F) a = cdo n t (fP K G M) a) (hT : 16240 ≤ T) {x1 : Int32} {i a s' : Nat} (hi : i < (bzs n F s T).1) (ha : a < 28) (hB : RA C n s' K G M (wS σ 0 1 (nI s')) ρ) (h1 : NZ (bzs n F s (28 * i + a)) ρ) (h2 : LZ n F (bzs n F s T) (28 * i + a) ρ) : ∃ ρ' s'', f_X6_findNests_b59 N x1 (nI i) (nI a) ρ = some (.inl (nI (a + 1), ρ')) ∧ RA C n s'' K G M (wS σ 0 1 (nI s'')) ρ' ∧ NZ (bzs n F s (28 * i + (a + 1))) ρ' ∧ LZ n F (bzs n F s T) (28 * i + (a + 1)) ρ' := by
  have hlT := bz_len (F := F) hn hv T
  have hlive := bz_live (F := F) hn hv hi
  have hle : 28 * i + a + 1 ≤ T := by omega
  have up0 := bz_up (n := n) (F := F) (s := s) (k := 28 * i) (k' := 28 * i + a) (by omega)
  have upT := bz_up (n := n) (F := F) (s := s) (k := 28 * i + a) (k' := T) (by omega)
  have upS := bz_up (n := n) (F := F) (s := s) (k := 28 * i + (a + 1)) (k' := T) (by omega)
  have hi' : i < (bzs n F s (28 * i + a)).1 := Nat.lt_of_lt_of_le hlive up0.1
  have hl := bz_len (F := F) hn hv (28 * i + a)
  have hl1 := bz_len (F := F) hn hv (28 * i + (a + 1))
  obtain ⟨ok1, ok2, -⟩ := bz_ok (F := F) hn hv (28 * i + a)
  obtain ⟨-, okT, -⟩ := bz_ok (F := F) hn hv T
  have eT : (bzs n F s T).2.1 i = (bzs n F s (28 * i + a)).2.1 i := (upT.2 i hi').1
  have e : bzs n F s (28 * i + (a + 1)) = if cdo n ((bzs n F s (28 * i + a)).2.1 i) (FB F) a = true then breach (bzs n F s (28 * i + a)) (aft ((bzs n F s (28 * i + a)).2.1 i) a) (28 * i + a) else bzs n F s (28 * i + a) := bstp_i ha hi'
  have el : ldz n F (bzs n F s T) (28 * i + a) = if cdo n ((bzs n F s (28 * i + a)).2.1 i) (FB F) a = true then fnd (bzs n F s T).2.1 (aft ((bzs n F s (28 * i + a)).2.1 i) a) (bzs n F s T).1 else none := by
    rw [ldz_at ha, eT]
  have hvi := ok1 i hi'
  generalize (bzs n F s T) = zT at *
  generalize (bzs n F s (28 * i + (a + 1))) = z1 at *
  generalize (bzs n F s (28 * i + a)) = z at *
  obtain ⟨ρ1, b1, b2_, b3⟩ := beN hN hB hvi
  have c1 := h1.sm b3
  have c2 : LZ n F zT (28 * i + a) ρ1 := h2.of (b3.2 11 (by decide) (by decide))
  have hC := b2_.smn (sm11 ρ1 (28 * i + a) (-9))
  have ek : ((28 : Int32) * nI i) + nI a = nI (28 * i + a) := by rw [show (28 : Int32) = nI 28 from rfl, pk_mul, nI_add]
  have ekc : ck (nI (28 * i + a)) 33600 = true := ck_nI (by omega) (by omega)
  unfold f_X6_findNests_b59
  rw [if_neg (show ¬ (28 : Int32) ≤ nI a from nI_ge (b := 28) ha (by omega)), ck_nI (by omega) (by omega), gd_t, nI_clamp (by omega), (h1.2.1 i hi').1, b1, bd_s, ek, ekc, gd_t, nI_clamp (by omega), nm_v, canDo6 hN hC ha, bd_s, ← hF _ _ ha]
  cases hcd : cdo n (z.2.1 i) (FB F) a with
  | false =>
    rw [hcd, if_neg (by decide)] at e el
    unfold f_X6_findNests_j169
    rw [b2_f, i00, nm_v, nI_1]
    refine ⟨_, _, rfl, hC, ?_, c2.on (k := 28 * i + a) (v := -9) rfl (by rw [el]; rfl)⟩
    rw [e]
    exact c1.of rfl rfl rfl
  | true =>
    rw [hcd, if_pos rfl] at e el
    obtain ⟨ρ3, d1, d2⟩ := does6 hC ha hcd
    rw [wS_wS] at d2
    have d3 := does_sm d1
    have hv' := d2.2.1.1
    have hlt := nst_lt hn hv'
    have c3 : NZ z ρ3 := (c1.of (τ' := wS ρ1 11 (28 * i + a) (-9)) rfl rfl rfl).sm d3
    have c4 : LZ n F zT (28 * i + a) ρ3 := (c2.up (τ' := wS ρ1 11 (28 * i + a) (-9)) (v := -9) rfl).of (d3.2 11 (by decide) (by decide))
    rw [b2_t, i10, d1, bd_s, nestNow6 hN d2, bd_s, ck_nI hlt (by omega), gd_t, nI_clamp (by omega)]
    unfold f_X6_findNests_j151 f_X6_findNests_j169
    generalize aft (z.2.1 i) a = t at *
    cases hf : fnd z.2.1 t z.1 with
    | some j =>
      obtain ⟨f1, f2⟩ := fnd_s hf
      have hz : breach z t (28 * i + a) = z := by
        unfold breach
        rw [hf]
      have v9 : ρ3.1 9 (nst t) = nI j := by rw [← f2]; exact (c3.2.1 j f1).2
      rw [v9, if_neg (nI_neg9 (by omega)), ck_nI hlt (by omega), gd_t, ek, ekc, gd_t, nI_clamp (by omega), nI_clamp (by omega), v9, nm_v, nm_v, nI_1]
      refine ⟨_, _, rfl, d2.smn (sm11 ρ3 _ _), ?_, c4.on (k := 28 * i + a) (v := nI j) rfl ?_⟩
      · rw [e, hz]
        exact c3.of rfl rfl rfl
      · rw [el, fnd_at okT (Nat.lt_of_lt_of_le f1 upT.1) (((upT.2 j f1).1).trans f2)]
        rfl
    | none =>
      have hz : breach z t (28 * i + a) = badd z t (28 * i + a) := by
        unfold breach
        rw [hf]
      rw [hz] at e
      have l1 : z1.1 = z.1 + 1 := by rw [e]; rfl
      have v9 : ρ3.1 9 (nst t) = -9 := c3.2.2 _ hlt (fun j hj q => fnd_n hf hj (nst_inj hn (ok1 j hj) hv' q))
      rw [v9, if_pos rfl, gd_t, c3.1, nm_v]
      rw [show (wS ρ3 9 (nst t) (nI z.1)).1 0 7 = nI z.1 from c3.1, ck_nI (by omega) (by omega), gd_t, nI_clamp (by omega), nm_v]
      rw [show (wS (wS ρ3 9 (nst t) (nI z.1)) 10 z.1 (nI (nst t))).1 0 7 = nI z.1 from c3.1, nI_1, nm_v, ck_nI hlt (by omega), gd_t, ek, ekc, gd_t, nI_clamp (by omega), nI_clamp (by omega), nm_v, nm_v, nI_1]
      have v9' : (wS (wS (wS ρ3 9 (nst t) (nI z.1)) 10 z.1 (nI (nst t))) 0 7 (nI (z.1 + 1))).1 9 (nst t) = nI z.1 := by
        show upd (ρ3.1 9) (nst t) (nI z.1) (nst t) = nI z.1
        rw [upd_0]
      rw [v9']
      refine ⟨_, _, rfl, d2.smn ⟨fun g g0 g9 g10 g11 _ => ?_, fun j hj => ?_⟩, ?_, c4.on (k := 28 * i + a) (v := nI z.1) rfl ?_⟩
      · rw [wS_n _ _ _ g11, wS_n _ _ _ g0, wS_n _ _ _ g10, wS_n _ _ _ g9]
      · rw [wS_n _ _ _ (by decide), wS_0, upd_n _ _ hj, wS_n _ _ _ (by decide), wS_n _ _ _ (by decide)]
      · rw [e]
        refine ⟨rfl, fun j hj => ?_, fun x hx hne => ?_⟩
        · show upd (ρ3.1 10) z.1 (nI (nst t)) j = nI (nst (if j = z.1 then t else z.2.1 j)) ∧ upd (ρ3.1 9) (nst t) (nI z.1) (nst (if j = z.1 then t else z.2.1 j)) = nI j
          by_cases q : j = z.1
          · rw [if_pos q, q, upd_0, upd_0]
            exact ⟨rfl, rfl⟩
          · have hj : j < z.1 + 1 := hj
            have hj' : j < z.1 := by omega
            rw [if_neg q, upd_n _ _ q, upd_n _ _ (fun w => fnd_n hf hj' (nst_inj hn (ok1 j hj') hv' w))]
            exact c3.2.1 j hj'
        · show upd (ρ3.1 9) (nst t) (nI z.1) x = -9
          have hx1 : x ≠ nst t := fun q => hne z.1 (Nat.lt_succ_self _) (by show nst (if z.1 = z.1 then t else z.2.1 z.1) = x; rw [if_pos rfl, q])
          rw [upd_n _ _ hx1]
          refine c3.2.2 x hx (fun j hj q => hne j (Nat.lt_succ_of_lt hj) ?_)
          show nst (if j = z.1 then t else z.2.1 j) = x
          rw [if_neg (by omega), q]
      · have w1 : z.1 < z1.1 := by omega
        have w2 := (upS.2 z.1 w1).1
        have w3 : z1.2.1 z.1 = t := by
          rw [e]
          exact if_pos rfl
        rw [el, fnd_at okT (Nat.lt_of_lt_of_le w1 upS.1) (w2.trans w3)]
        rfl
theorem findN6 (hN : 17000 ≤ N) (hA : RA C n s K G M σ τ) (hF : ∀ t a, a < 28 → cdo n t (FB F) a = cdo n t (fP K G M) a) (hT : 16240 ≤ T) : ∃ τ', f_X6_findNests N τ = some τ' ∧ RA C n s K G M σ τ' ∧ NZ (bzs n F s T) τ' ∧ LZ n F (bzs n F s T) (28 * (bzs n F s T).1) τ' := by
  have hn := hA.1.1
  have hv := hA.2.1.1
  have hlt := nst_lt hn hv
  unfold f_X6_findNests
  rw [nestNow6 (by omega) hA, bd_s]
  have key := lp_inv (fun w => f_X6_findNests_b7 N (nI (nst s)) w.1 w.2) (fun i w => w.1 = nI i ∧ SmN τ w.2 ∧ ∀ q, q < i → w.2.1 9 q = -9) 10000 (fun o => SmN τ o ∧ ∀ q, q < 10000 → o.1 9 q = -9)
    (fun i w hi hI => ?_) (fun w hI => ?_) 10000 0 ((0 : Int32), τ) (by omega) ⟨rfl, SmN.rf τ, fun q hq => absurd hq (by omega)⟩ N (by omega)
  · obtain ⟨ρ, k1, k2, k3⟩ := key
    rw [k1, bd_s]
    unfold f_X6_findNests_j28
    rw [show ck (0 : Int32) 1200 = true from rfl, gd_t, show Int32.toNatClampNeg (0 : Int32) = 0 from rfl, nm_v, ck_nI hlt (by omega), gd_t, nI_clamp (by omega), nm_v, nm_v]
    generalize hρ : wS (wS (wS ρ 10 0 (nI (nst s))) 9 (nst s) 0) 0 7 1 = ρ0
    have y1 : SmN ρ ρ0 := by
      rw [← hρ]
      refine ⟨fun g g0 g9 g10 _ _ => ?_, fun j hj => ?_⟩
      · rw [wS_n _ _ _ g0, wS_n _ _ _ g9, wS_n _ _ _ g10]
      · rw [wS_0, upd_n _ _ hj, wS_n _ _ _ (by decide), wS_n _ _ _ (by decide)]
    have y2 : NZ (bzs n F s 0) ρ0 := by
      rw [← hρ]
      refine ⟨rfl, fun j hj => ?_, fun x hx hne => ?_⟩
      · have hj : j < 1 := hj
        have : j = 0 := by omega
        subst this
        refine ⟨rfl, ?_⟩
        show upd (ρ.1 9) (nst s) 0 (nst s) = nI 0
        rw [upd_0]
        rfl
      · have hxs : x ≠ nst s := fun q => hne 0 Nat.zero_lt_one q.symm
        show upd (ρ.1 9) (nst s) 0 x = -9
        rw [upd_n _ _ hxs]
        exact k3 x hx
    have hA0 := (hA.smn (k2.tr y1)).self
    have key2 := lp_inv (fun w => f_X6_findNests_b49 N (nI (nst s)) w.1 w.2) (fun i w => w.1 = nI i ∧ (∃ s', RA C n s' K G M (wS σ 0 1 (nI s')) w.2) ∧ NZ (bzs n F s (28 * i)) w.2 ∧ LZ n F (bzs n F s T) (28 * i) w.2) (bzs n F s T).1 (fun o => (∃ s', RA C n s' K G M (wS σ 0 1 (nI s')) o) ∧ NZ (bzs n F s T) o ∧ LZ n F (bzs n F s T) (28 * (bzs n F s T).1) o)
      (fun i w hi hI => ?_) (fun w hI => ?_) (bzs n F s T).1 0 ((0 : Int32), ρ0) (by omega) ⟨rfl, ⟨s, hA0⟩, y2, fun q hq => absurd hq (by omega)⟩ N (by have := bz_len (F := F) hn hv T; omega)
    · obtain ⟨ρ1, g1, ⟨s', g2⟩, g3, g4⟩ := key2
      obtain ⟨ρ2, b1, b2_, b3⟩ := beN (N := N) (by omega) g2 hv
      rw [g1, bd_s]
      unfold f_X6_findNests_j181
      rw [b1, bd_s]
      rw [← hA.2.1.2.1, wS_id] at b2_
      exact ⟨ρ2, rfl, b2_, g3.sm b3, g4.of (b3.2 11 (by decide) (by decide))⟩
    · obtain ⟨x, w⟩ := w
      obtain ⟨q1, ⟨s', q2⟩, q3, q4⟩ := hI
      have q1 : x = nI i := q1
      subst q1
      have q2 : RA C n s' K G M (wS σ 0 1 (nI s')) w := q2
      have q3 : NZ (bzs n F s (28 * i)) w := q3
      have q4 : LZ n F (bzs n F s T) (28 * i) w := q4
      have hl := bz_len (F := F) hn hv (28 * i)
      have hlive := bz_live (F := F) hn hv hi
      have key3 := lp_inv (fun w => f_X6_findNests_b59 N (nI (nst s)) (nI i) w.1 w.2) (fun a w => w.1 = nI a ∧ (∃ s', RA C n s' K G M (wS σ 0 1 (nI s')) w.2) ∧ NZ (bzs n F s (28 * i + a)) w.2 ∧ LZ n F (bzs n F s T) (28 * i + a) w.2) 28 (fun o => (∃ s', RA C n s' K G M (wS σ 0 1 (nI s')) o) ∧ NZ (bzs n F s (28 * (i + 1))) o ∧ LZ n F (bzs n F s T) (28 * (i + 1)) o)
        (fun a w ha hI => ?_) (fun w hI => ?_) 28 0 ((0 : Int32), w) (by omega) ⟨rfl, ⟨s', q2⟩, q3, q4⟩ N (by omega)
      · obtain ⟨o, g1, g2, g3, g4⟩ := key3
        show ∃ s', f_X6_findNests_b49 N (nI (nst s)) (nI i) w = some (Sum.inl s') ∧ _
        unfold f_X6_findNests_b49 f_X6_findNests_j175
        rw [q3.1, if_neg (nI_ge hlive (by omega)), g1, bd_s, nm_v, nI_1]
        exact ⟨_, rfl, rfl, g2, g3, g4⟩
      · obtain ⟨x, w⟩ := w
        obtain ⟨q1, ⟨s', q2⟩, q3, q4⟩ := hI
        have q1 : x = nI a := q1
        subst q1
        obtain ⟨ρ', s'', h1, h2, h3, h4⟩ := fnStep (N := N) (x1 := nI (nst s)) (by omega) hn hv hF hT hi ha q2 q3 q4
        exact ⟨(nI (a + 1), ρ'), h1, rfl, ⟨s'', h2⟩, h3, h4⟩
      · obtain ⟨x, w⟩ := w
        obtain ⟨q1, q2, q3, q4⟩ := hI
        have q1 : x = nI 28 := q1
        subst q1
        refine ⟨w, ?_, q2, q3, q4⟩
        show f_X6_findNests_b59 N (nI (nst s)) (nI i) (nI 28) w = _
        unfold f_X6_findNests_b59
        rw [if_pos (show (28 : Int32) ≤ nI 28 by decide)]
    · obtain ⟨x, w⟩ := w
      obtain ⟨q1, q2, q3, q4⟩ := hI
      have q1 : x = nI (bzs n F s T).1 := q1
      subst q1
      have q3 : NZ (bzs n F s (28 * (bzs n F s T).1)) w := q3
      rw [bz_fin hn hv hT] at q3
      refine ⟨w, ?_, q2, q3, q4⟩
      show f_X6_findNests_b49 N (nI (nst s)) (nI (bzs n F s T).1) w = _
      unfold f_X6_findNests_b49
      rw [q3.1, if_pos (Int32.le_refl _)]
  · obtain ⟨x, w⟩ := w
    obtain ⟨q1, q2, q3⟩ := hI
    have q1 : x = nI i := q1
    subst q1
    have q2 : SmN τ w := q2
    have q3 : ∀ q, q < i → w.1 9 q = -9 := q3
    show ∃ s', f_X6_findNests_b7 N (nI (nst s)) (nI i) w = some (Sum.inl s') ∧ _
    unfold f_X6_findNests_b7
    rw [if_neg (show ¬ (10000 : Int32) ≤ nI i from nI_ge (b := 10000) hi (by omega)), ck_nI hi (by omega), gd_t, nI_clamp (by omega), nm_v, nm_v, nI_1]
    refine ⟨_, rfl, rfl, q2.tr ⟨fun g _ g9 _ _ _ => wS_n _ _ _ g9, fun j _ => by rw [wS_n _ _ _ (by decide)]⟩, fun q hq => ?_⟩
    show (wS w 9 i (-9)).1 9 q = -9
    rw [wS_0]
    by_cases z : q = i
    · rw [z, upd_0]
    · rw [upd_n _ _ z]
      exact q3 q (by omega)
  · obtain ⟨x, w⟩ := w
    obtain ⟨q1, q2, q3⟩ := hI
    have q1 : x = nI 10000 := q1
    subst q1
    refine ⟨w, ?_, q2, q3⟩
    show f_X6_findNests_b7 N (nI (nst s)) (nI 10000) w = _
    unfold f_X6_findNests_b7
    rw [if_pos (show (10000 : Int32) ≤ nI 10000 by decide)]
end NestRows
