/-! what can fit into what, by the number of dolls: the orders -/
def po4a : List Nat := [0, 2, 4, 6, 8, 10, 12, 14, 16, 64, 68, 70, 72, 76, 78, 80, 84, 128, 132, 136, 138, 140, 142, 144, 152, 192, 196, 200, 204, 206, 208, 212, 216, 220, 256, 272, 336, 384, 400, 464, 512, 514, 518, 520, 522, 526, 768, 770, 784, 2048, 2050, 2056, 2058, 2060, 2062, 2064, 2176, 2184, 2186, 2188, 2190, 2192, 2200, 2240, 2248, 2252, 2254, 2256, 2264, 2268, 2304, 2312, 2320]
def po4b : List Nat := [2432, 2440, 2448, 2456, 2512, 2520, 2560, 2562, 2568, 2570, 2574, 2688, 2696, 2698, 2702, 2816, 2818, 2824, 2826, 2832, 2944, 2952, 2954, 2960, 2968, 4096, 4112, 4160, 4176, 4240, 4304, 4352, 4368, 4432, 4496, 4560, 4608, 4864, 4880, 6400, 6416, 6544, 6608, 6912, 6928, 7056, 8192, 8194, 8196, 8198, 8202, 8206, 8448, 8704, 8706, 8710, 8714, 8718, 8960, 8962, 10752, 10754, 10762, 10766, 11008, 11010, 11018, 12288, 12290, 12304, 12544, 12560, 12800]
def po4c : List Nat := [12802, 13056, 13058, 13072, 15104, 15106, 15120, 16384, 16386, 16388, 16390, 16396, 16398, 16400, 16448, 16452, 16454, 16460, 16462, 16464, 16468, 16576, 16580, 16588, 16590, 16592, 16596, 16604, 20480, 20484, 20496, 20544, 20548, 20560, 20564, 20688, 20692, 20736, 20752, 20816, 20944, 24576, 24578, 24580, 24582, 24590, 24640, 24644, 24646, 24654, 25088, 25090, 25094, 25102, 28672, 28674, 28676, 28678, 28688, 28736, 28740, 28742, 28752, 28756, 28928, 28944, 29008, 29184, 29186, 29190, 29440, 29442, 29456]
def pos_ : Nat → List Nat
  | 0 => [0]
  | 1 => [0]
  | 2 => [0, 2, 16]
  | 3 => [0, 2, 4, 6, 16, 64, 68, 70, 80, 84, 256, 272, 336, 512, 514, 518, 768, 770, 784]
  | _ => po4a ++ (po4b ++ po4c)
section PosRows
variable {C : CaT} {N : Nat} {n s : Nat} {K G M : Nat → Nat} {σ τ : St}
def lk (p01 p02 p03 p10 p12 p13 p20 p21 p23 p30 p31 p32 : Bool) (d e : Nat) : Bool := if d = 0 then (if e = 1 then p01 else if e = 2 then p02 else if e = 3 then p03 else false) else if d = 1 then (if e = 0 then p10 else if e = 2 then p12 else if e = 3 then p13 else false) else if d = 2 then (if e = 0 then p20 else if e = 1 then p21 else if e = 3 then p23 else false) else if d = 3 then (if e = 0 then p30 else if e = 1 then p31 else if e = 2 then p32 else false) else false
def isPo (P : Nat → Nat → Bool) : Bool := (List.range 4).all fun d => (List.range 4).all fun e => !P d e || (List.range 4).all fun g => !P e g || P d g
def inN (P : Nat → Nat → Bool) (n : Nat) : Bool := (List.range 4).all fun d => (List.range 4).all fun e => !P d e || (decide (d < n) && decide (e < n))
def poC (P : Nat → Nat → Bool) (n : Nat) : Bool := !inN P n || (!isPo P || (pos_ n).any (fun f => decide (fo P n n = nI f)))
set_option maxRecDepth 100000 in
set_option maxHeartbeats 4000000 in
theorem po_b : ∀ n, n < 5 → ∀ p01 p02 p03 p10 p12 p13 p20 p21 p23 p30 p31 p32 : Bool, poC (lk p01 p02 p03 p10 p12 p13 p20 p21 p23 p30 p31 p32) n = true := by decide +kernel
set_option maxRecDepth 100000 in
theorem pos_lt : (List.range 5).all (fun n => (pos_ n).all (fun f => Nat.blt f 65536)) = true := by decide +kernel
theorem fr_congr {P Q : Nat → Nat → Bool} {x : Int32} {d : Nat} : ∀ k, (∀ e, e < k → P d e = Q d e) → fr P x d k = fr Q x d k := by
  intro k
  induction k with
  | zero => intro _; rfl
  | succ k ih =>
    intro h
    show (if P d k = true then fr P x d k ||| ((1 : Int32) <<< (nI (4 * d + k) &&& 31)) else fr P x d k) = (if Q d k = true then fr Q x d k ||| ((1 : Int32) <<< (nI (4 * d + k) &&& 31)) else fr Q x d k)
    rw [ih (fun e he => h e (by omega)), h k (by omega)]
theorem fo_congr {P Q : Nat → Nat → Bool} : ∀ k, (∀ d, d < k → ∀ e, e < n → P d e = Q d e) → fo P n k = fo Q n k := by
  intro k
  induction k with
  | zero => intro _; rfl
  | succ k ih =>
    intro h
    show fr P (fo P n k) k n = fr Q (fo Q n k) k n
    rw [ih (fun d hd => h d (by omega)), fr_congr n (h k (by omega))]
theorem fit_tr (hA : RA C n s K G M σ τ) {a b c : Nat} (ha : a < n) (hb : b < n) (hc : c < n) (h1 : fitB K G M a b = true) (h2 : fitB K G M b c = true) : fitB K G M a c = true ∧ a ≠ c := by
  unfold fitB at *
  have h1 := of_decide_eq_true h1
  have h2 := of_decide_eq_true h2
  have := (wid_lt hA hb).1
  have := (wid_lt hA ha).1
  have := (db hA hb).2.2.2
  have := (db hA ha).2.2.2
  refine ⟨decide_eq_true (by omega), fun e => ?_⟩
  subst e
  omega
/-- what fits into what is one of the orders -/
theorem fcode (hA : RA C n s K G M σ τ) : ∃ f, f ∈ pos_ n ∧ f < 65536 ∧ fo (fP K G M) n n = nI f ∧ ∀ d, d < n → ∀ e, e < n → d ≠ e → bi f (4 * d + e) = fitB K G M d e := by
  have hn := hA.1.1
  have hl : ∀ Q : Nat → Nat → Bool, (∀ d, d < 4 → Q d d = false) → ∀ d, d < 4 → ∀ e, e < 4 → lk (Q 0 1) (Q 0 2) (Q 0 3) (Q 1 0) (Q 1 2) (Q 1 3) (Q 2 0) (Q 2 1) (Q 2 3) (Q 3 0) (Q 3 1) (Q 3 2) d e = Q d e := by
    intro Q hQ d hd e he
    rcases (show d = 0 ∨ d = 1 ∨ d = 2 ∨ d = 3 by omega) with rfl | rfl | rfl | rfl <;> rcases (show e = 0 ∨ e = 1 ∨ e = 2 ∨ e = 3 by omega) with rfl | rfl | rfl | rfl <;> first | rfl | exact (hQ _ (by omega)).symm
  have hQ : ∀ d, d < 4 → (fun d e => decide (d < n) && (decide (e < n) && fP K G M d e)) d d = false := by
    intro d _
    show (decide (d < n) && (decide (d < n) && fP K G M d d)) = false
    unfold fP
    rw [nb_t rfl, Bool.not_true, Bool.false_and, Bool.and_false, Bool.and_false]
  have hl2 := hl (fun d e => decide (d < n) && (decide (e < n) && fP K G M d e)) hQ
  have hb := po_b n (by omega) ((fun d e => decide (d < n) && (decide (e < n) && fP K G M d e)) 0 1) ((fun d e => decide (d < n) && (decide (e < n) && fP K G M d e)) 0 2) ((fun d e => decide (d < n) && (decide (e < n) && fP K G M d e)) 0 3) ((fun d e => decide (d < n) && (decide (e < n) && fP K G M d e)) 1 0) ((fun d e => decide (d < n) && (decide (e < n) && fP K G M d e)) 1 2) ((fun d e => decide (d < n) && (decide (e < n) && fP K G M d e)) 1 3) ((fun d e => decide (d < n) && (decide (e < n) && fP K G M d e)) 2 0) ((fun d e => decide (d < n) && (decide (e < n) && fP K G M d e)) 2 1) ((fun d e => decide (d < n) && (decide (e < n) && fP K G M d e)) 2 3) ((fun d e => decide (d < n) && (decide (e < n) && fP K G M d e)) 3 0) ((fun d e => decide (d < n) && (decide (e < n) && fP K G M d e)) 3 1) ((fun d e => decide (d < n) && (decide (e < n) && fP K G M d e)) 3 2)
  generalize lk ((fun d e => decide (d < n) && (decide (e < n) && fP K G M d e)) 0 1) ((fun d e => decide (d < n) && (decide (e < n) && fP K G M d e)) 0 2) ((fun d e => decide (d < n) && (decide (e < n) && fP K G M d e)) 0 3) ((fun d e => decide (d < n) && (decide (e < n) && fP K G M d e)) 1 0) ((fun d e => decide (d < n) && (decide (e < n) && fP K G M d e)) 1 2) ((fun d e => decide (d < n) && (decide (e < n) && fP K G M d e)) 1 3) ((fun d e => decide (d < n) && (decide (e < n) && fP K G M d e)) 2 0) ((fun d e => decide (d < n) && (decide (e < n) && fP K G M d e)) 2 1) ((fun d e => decide (d < n) && (decide (e < n) && fP K G M d e)) 2 3) ((fun d e => decide (d < n) && (decide (e < n) && fP K G M d e)) 3 0) ((fun d e => decide (d < n) && (decide (e < n) && fP K G M d e)) 3 1) ((fun d e => decide (d < n) && (decide (e < n) && fP K G M d e)) 3 2) = L at hb hl2
  have hl3 : ∀ d, d < 4 → ∀ e, e < 4 → L d e = (decide (d < n) && (decide (e < n) && fP K G M d e)) := hl2
  have ht : ∀ d, d < 4 → ∀ e, e < 4 → L d e = true → d < n ∧ e < n ∧ d ≠ e ∧ fitB K G M d e = true := by
    intro d hd e he h
    rw [hl3 d hd e he, Bool.and_eq_true, Bool.and_eq_true] at h
    obtain ⟨h1, h2, h3⟩ := h
    unfold fP at h3
    rw [Bool.and_eq_true] at h3
    refine ⟨of_decide_eq_true h1, of_decide_eq_true h2, fun q => ?_, h3.2⟩
    have := h3.1
    rw [nb_t q] at this
    exact absurd this (by decide)
  have i1 : inN L n = true := by
    unfold inN
    rw [List.all_eq_true]
    intro d hd
    rw [List.all_eq_true]
    intro e he
    have hd := List.mem_range.mp hd
    have he := List.mem_range.mp he
    cases q : L d e with
    | false => rfl
    | true =>
      obtain ⟨h1, h2, -⟩ := ht d hd e he q
      rw [decide_eq_true h1, decide_eq_true h2]
      rfl
  have i2 : isPo L = true := by
    unfold isPo
    rw [List.all_eq_true]
    intro d hd
    rw [List.all_eq_true]
    intro e he
    have hd := List.mem_range.mp hd
    have he := List.mem_range.mp he
    cases q : L d e with
    | false => rfl
    | true =>
      show (List.range 4).all (fun g => !L e g || L d g) = true
      rw [List.all_eq_true]
      intro g hg
      have hg := List.mem_range.mp hg
      cases q2 : L e g with
      | false => rfl
      | true =>
        show L d g = true
        obtain ⟨h1, h2, h3, h4⟩ := ht d hd e he q
        obtain ⟨h5, h6, h7, h8⟩ := ht e he g hg q2
        obtain ⟨h9, h10⟩ := fit_tr hA h1 h2 h6 h4 h8
        rw [hl3 d hd g hg, decide_eq_true h1, decide_eq_true h6]
        unfold fP
        rw [nb_f h10, h9]
        rfl
  unfold poC at hb
  rw [i1, i2, Bool.not_true, Bool.false_or, Bool.false_or] at hb
  obtain ⟨f, f1, f2⟩ := List.any_eq_true.mp hb
  have f2 : fo L n n = nI f := of_decide_eq_true f2
  have f3 : fo (fP K G M) n n = nI f := by
    rw [← f2]
    refine fo_congr n (fun d hd e he => ?_)
    rw [hl3 d (by omega) e (by omega), decide_eq_true hd, decide_eq_true he, Bool.true_and, Bool.true_and]
  have f4 : f < 65536 := by
    have := List.all_eq_true.mp (List.all_eq_true.mp pos_lt n (List.mem_range.mpr (by omega))) f f1
    exact Nat.ble_eq.mp this
  refine ⟨f, f1, f4, f3, fun d hd e he hne => ?_⟩
  rw [← bt_nI (by omega), ← f3, fo_at _ hn (by omega) (by omega), decide_eq_true hd, decide_eq_true he, Bool.true_and, Bool.true_and]
  unfold fP
  rw [nb_f hne, Bool.not_false, Bool.true_and]
end PosRows
