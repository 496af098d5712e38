def sg0 : St := (fun g => if g = 2 then (fun _ => 1) else if g = 4 then (fun _ => -1) else (fun _ => 0), fun _ => 0)
def tu0 : St := (fun g => if g = 1 then (upd (upd (upd (upd (fun _ => 0) 0 (-9 : Int32)) 1 (-9 : Int32)) 2 (-9 : Int32)) 3 (-9 : Int32)) else (fun _ => 0), fun _ => 0)
def aA (q0 : Nat) (b : Nat → Nat) : Nat → Nat := fun k => [q0, (b 0), (b 1), (b 2), (b 3), (b 4), (b 5), (b 6), (b 7), (b 8), (b 9), (b 10), (b 11), (b 12), (b 13), (b 14), (b 16), (b 18), (b 20), (b 15), (b 17), (b 19), (b 21)].getD k 0
def aB (m0 : Nat) (e : Nat → Nat) : Nat → Nat := fun k => [m0, (e 0), (e 1), (e 2), (e 3), (e 4), (e 5), (e 6), (e 7), (e 8), (e 9), (e 10), (e 11), (e 12), (e 13), (e 14), (e 15), (e 16), (e 17)].getD k 0
theorem va_P_row {D : va_G} {cl : List vw_C} {ws : va_W} {H : Heap} {k q n : Nat} {x : ClassId} {f f' : Nat → Option Nat} (h : va_P D cl ws H) (hk : ws[k]? = some (q, .inl (x, n, .inr (.inr (.inr (.inr f)))))) (he : ∀ j, j < n → f j = f' j) : va_P D cl (ws.set k (q, .inl (x, n, .inr (.inr (.inr (.inr f')))))) H := by
  intro i z hz
  by_cases hi : i = k
  · subst hi
    rw [List.getElem?_set_self (List.getElem?_eq_some_iff.mp hk).1] at hz
    cases hz
    have h1 := h i _ hk
    show H[q]? = some (vp_cell x (n, .inr (.inr (.inr (.inr f')))))
    have h2 : H[q]? = some (vp_cell x (n, .inr (.inr (.inr (.inr f))))) := h1
    rw [h2, vp_cell_q, vp_cell_q]
    unfold arrV
    congr 2
    congr 1
    funext j
    exact congrArg va_rf (he j.val j.isLt)
  · rw [List.getElem?_set_ne (Ne.symm hi)] at hz
    exact h i z hz
theorem init_P {D : va_G} {c : Nat → ClassId} {q0 : Nat} {b : Nat → Nat} {H : Heap} (h : va_P D vwCl [(q0, .inr (3, [.ref (b 0), .ref (b 1), .ref (b 2), .ref (b 3), .ref (b 4), .ref (b 5), .int 0, .int 0, .int 0, .int 0, .int 0, .int 0])), ((b 0), .inl (c 3, 4, .inr (.inr (.inr (.inr (va_up (va_up (va_up (va_up (fun _ => none) 0 (some (b 10))) 1 (some (b 11))) 2 (some (b 12))) 3 (some (b 13)))))))), ((b 1), .inl (c 4, 4, .inr (.inr (.inr (.inr (va_up (va_up (va_up (va_up (fun _ => none) 0 (some (b 14))) 1 (some (b 16))) 2 (some (b 18))) 3 (some (b 20)))))))), ((b 2), .inl (c 0, 8, .inl (fun _ => 0))), ((b 3), .inl (c 0, 8, .inl (fun _ => 0))), ((b 4), .inl (c 2, 8, .inl (fun _ => 0))), ((b 5), .inr (1, [.ref (b 6), .ref (b 7), .ref (b 8), .ref (b 9), .int 0, .int 0, .int 0])), ((b 6), .inl (c 0, 580, .inl (fun _ => 0))), ((b 7), .inl (c 0, 580, .inl (fun _ => 0))), ((b 8), .inl (c 0, 580, .inl (fun _ => 0))), ((b 9), .inl (c 1, 1024, .inr (.inl (fun _ => 0)))), ((b 10), .inr (0, [.int 0, .int (1 : Int32), .int 0])), ((b 11), .inr (0, [.int 0, .int (1 : Int32), .int 0])), ((b 12), .inr (0, [.int 0, .int (1 : Int32), .int 0])), ((b 13), .inr (0, [.int 0, .int (1 : Int32), .int 0])), ((b 14), .inr (2, [.ref (b 15), .int (-1 : Int32), .int 0])), ((b 15), .inl (c 0, 60, .inl (fun _ => 0))), ((b 16), .inr (2, [.ref (b 17), .int (-1 : Int32), .int 0])), ((b 17), .inl (c 0, 60, .inl (fun _ => 0))), ((b 18), .inr (2, [.ref (b 19), .int (-1 : Int32), .int 0])), ((b 19), .inl (c 0, 60, .inl (fun _ => 0))), ((b 20), .inr (2, [.ref (b 21), .int (-1 : Int32), .int 0])), ((b 21), .inl (c 0, 60, .inl (fun _ => 0)))] H) : va_P D vwCl (cW (aA q0 b) c sg0) H := by
  have h1 := h.sub (ws' := [(q0, .inr (3, [.ref (b 0), .ref (b 1), .ref (b 2), .ref (b 3), .ref (b 4), .ref (b 5), .int 0, .int 0, .int 0, .int 0, .int 0, .int 0])), ((b 0), .inl (c 3, 4, .inr (.inr (.inr (.inr (va_up (va_up (va_up (va_up (fun _ => none) 0 (some (b 10))) 1 (some (b 11))) 2 (some (b 12))) 3 (some (b 13)))))))), ((b 1), .inl (c 4, 4, .inr (.inr (.inr (.inr (va_up (va_up (va_up (va_up (fun _ => none) 0 (some (b 14))) 1 (some (b 16))) 2 (some (b 18))) 3 (some (b 20)))))))), ((b 2), .inl (c 0, 8, .inl (fun _ => 0))), ((b 3), .inl (c 0, 8, .inl (fun _ => 0))), ((b 4), .inl (c 2, 8, .inl (fun _ => 0))), ((b 5), .inr (1, [.ref (b 6), .ref (b 7), .ref (b 8), .ref (b 9), .int 0, .int 0, .int 0])), ((b 6), .inl (c 0, 580, .inl (fun _ => 0))), ((b 7), .inl (c 0, 580, .inl (fun _ => 0))), ((b 8), .inl (c 0, 580, .inl (fun _ => 0))), ((b 9), .inl (c 1, 1024, .inr (.inl (fun _ => 0)))), ((b 10), .inr (0, [.int 0, .int (1 : Int32), .int 0])), ((b 11), .inr (0, [.int 0, .int (1 : Int32), .int 0])), ((b 12), .inr (0, [.int 0, .int (1 : Int32), .int 0])), ((b 13), .inr (0, [.int 0, .int (1 : Int32), .int 0])), ((b 14), .inr (2, [.ref (b 15), .int (-1 : Int32), .int 0])), ((b 16), .inr (2, [.ref (b 17), .int (-1 : Int32), .int 0])), ((b 18), .inr (2, [.ref (b 19), .int (-1 : Int32), .int 0])), ((b 20), .inr (2, [.ref (b 21), .int (-1 : Int32), .int 0])), ((b 15), .inl (c 0, 60, .inl (fun _ => 0))), ((b 17), .inl (c 0, 60, .inl (fun _ => 0))), ((b 19), .inl (c 0, 60, .inl (fun _ => 0))), ((b 21), .inl (c 0, 60, .inl (fun _ => 0)))]) [0, 1, 2, 3, 4, 5, 6, 7, 8, 9, 10, 11, 12, 13, 14, 15, 17, 19, 21, 16, 18, 20, 22] rfl
  have h2 := va_P_row (k := 1) (f' := fun d => some (aA q0 b (11 + d))) h1 rfl (fun j hj => by rcases (show j = 0 ∨ j = 1 ∨ j = 2 ∨ j = 3 by omega) with rfl | rfl | rfl | rfl <;> rfl)
  have h3 := va_P_row (k := 2) (f' := fun d => some (aA q0 b (15 + d))) h2 rfl (fun j hj => by rcases (show j = 0 ∨ j = 1 ∨ j = 2 ∨ j = 3 by omega) with rfl | rfl | rfl | rfl <;> rfl)
  exact h3
theorem init_D {A : Nat → Prop} {c : Nat → ClassId} {q0 : Nat} {b : Nat → Nat} (h : va_D A [(q0, .inr (3, [.ref (b 0), .ref (b 1), .ref (b 2), .ref (b 3), .ref (b 4), .ref (b 5), .int 0, .int 0, .int 0, .int 0, .int 0, .int 0])), ((b 0), .inl (c 3, 4, .inr (.inr (.inr (.inr (va_up (va_up (va_up (va_up (fun _ => none) 0 (some (b 10))) 1 (some (b 11))) 2 (some (b 12))) 3 (some (b 13)))))))), ((b 1), .inl (c 4, 4, .inr (.inr (.inr (.inr (va_up (va_up (va_up (va_up (fun _ => none) 0 (some (b 14))) 1 (some (b 16))) 2 (some (b 18))) 3 (some (b 20)))))))), ((b 2), .inl (c 0, 8, .inl (fun _ => 0))), ((b 3), .inl (c 0, 8, .inl (fun _ => 0))), ((b 4), .inl (c 2, 8, .inl (fun _ => 0))), ((b 5), .inr (1, [.ref (b 6), .ref (b 7), .ref (b 8), .ref (b 9), .int 0, .int 0, .int 0])), ((b 6), .inl (c 0, 580, .inl (fun _ => 0))), ((b 7), .inl (c 0, 580, .inl (fun _ => 0))), ((b 8), .inl (c 0, 580, .inl (fun _ => 0))), ((b 9), .inl (c 1, 1024, .inr (.inl (fun _ => 0)))), ((b 10), .inr (0, [.int 0, .int (1 : Int32), .int 0])), ((b 11), .inr (0, [.int 0, .int (1 : Int32), .int 0])), ((b 12), .inr (0, [.int 0, .int (1 : Int32), .int 0])), ((b 13), .inr (0, [.int 0, .int (1 : Int32), .int 0])), ((b 14), .inr (2, [.ref (b 15), .int (-1 : Int32), .int 0])), ((b 15), .inl (c 0, 60, .inl (fun _ => 0))), ((b 16), .inr (2, [.ref (b 17), .int (-1 : Int32), .int 0])), ((b 17), .inl (c 0, 60, .inl (fun _ => 0))), ((b 18), .inr (2, [.ref (b 19), .int (-1 : Int32), .int 0])), ((b 19), .inl (c 0, 60, .inl (fun _ => 0))), ((b 20), .inr (2, [.ref (b 21), .int (-1 : Int32), .int 0])), ((b 21), .inl (c 0, 60, .inl (fun _ => 0)))]) : va_D A (cW (aA q0 b) c sg0) := by
  have h1 := h.sub (ws' := [(q0, .inr (3, [.ref (b 0), .ref (b 1), .ref (b 2), .ref (b 3), .ref (b 4), .ref (b 5), .int 0, .int 0, .int 0, .int 0, .int 0, .int 0])), ((b 0), .inl (c 3, 4, .inr (.inr (.inr (.inr (va_up (va_up (va_up (va_up (fun _ => none) 0 (some (b 10))) 1 (some (b 11))) 2 (some (b 12))) 3 (some (b 13)))))))), ((b 1), .inl (c 4, 4, .inr (.inr (.inr (.inr (va_up (va_up (va_up (va_up (fun _ => none) 0 (some (b 14))) 1 (some (b 16))) 2 (some (b 18))) 3 (some (b 20)))))))), ((b 2), .inl (c 0, 8, .inl (fun _ => 0))), ((b 3), .inl (c 0, 8, .inl (fun _ => 0))), ((b 4), .inl (c 2, 8, .inl (fun _ => 0))), ((b 5), .inr (1, [.ref (b 6), .ref (b 7), .ref (b 8), .ref (b 9), .int 0, .int 0, .int 0])), ((b 6), .inl (c 0, 580, .inl (fun _ => 0))), ((b 7), .inl (c 0, 580, .inl (fun _ => 0))), ((b 8), .inl (c 0, 580, .inl (fun _ => 0))), ((b 9), .inl (c 1, 1024, .inr (.inl (fun _ => 0)))), ((b 10), .inr (0, [.int 0, .int (1 : Int32), .int 0])), ((b 11), .inr (0, [.int 0, .int (1 : Int32), .int 0])), ((b 12), .inr (0, [.int 0, .int (1 : Int32), .int 0])), ((b 13), .inr (0, [.int 0, .int (1 : Int32), .int 0])), ((b 14), .inr (2, [.ref (b 15), .int (-1 : Int32), .int 0])), ((b 16), .inr (2, [.ref (b 17), .int (-1 : Int32), .int 0])), ((b 18), .inr (2, [.ref (b 19), .int (-1 : Int32), .int 0])), ((b 20), .inr (2, [.ref (b 21), .int (-1 : Int32), .int 0])), ((b 15), .inl (c 0, 60, .inl (fun _ => 0))), ((b 17), .inl (c 0, 60, .inl (fun _ => 0))), ((b 19), .inl (c 0, 60, .inl (fun _ => 0))), ((b 21), .inl (c 0, 60, .inl (fun _ => 0)))]) [0, 1, 2, 3, 4, 5, 6, 7, 8, 9, 10, 11, 12, 13, 14, 15, 17, 19, 21, 16, 18, 20, 22] (by decide) rfl
  exact va_D_cong (w := [(q0, .inr (3, [.ref (b 0), .ref (b 1), .ref (b 2), .ref (b 3), .ref (b 4), .ref (b 5), .int 0, .int 0, .int 0, .int 0, .int 0, .int 0])), ((b 0), .inl (c 3, 4, .inr (.inr (.inr (.inr (va_up (va_up (va_up (va_up (fun _ => none) 0 (some (b 10))) 1 (some (b 11))) 2 (some (b 12))) 3 (some (b 13)))))))), ((b 1), .inl (c 4, 4, .inr (.inr (.inr (.inr (va_up (va_up (va_up (va_up (fun _ => none) 0 (some (b 14))) 1 (some (b 16))) 2 (some (b 18))) 3 (some (b 20)))))))), ((b 2), .inl (c 0, 8, .inl (fun _ => 0))), ((b 3), .inl (c 0, 8, .inl (fun _ => 0))), ((b 4), .inl (c 2, 8, .inl (fun _ => 0))), ((b 5), .inr (1, [.ref (b 6), .ref (b 7), .ref (b 8), .ref (b 9), .int 0, .int 0, .int 0])), ((b 6), .inl (c 0, 580, .inl (fun _ => 0))), ((b 7), .inl (c 0, 580, .inl (fun _ => 0))), ((b 8), .inl (c 0, 580, .inl (fun _ => 0))), ((b 9), .inl (c 1, 1024, .inr (.inl (fun _ => 0)))), ((b 10), .inr (0, [.int 0, .int (1 : Int32), .int 0])), ((b 11), .inr (0, [.int 0, .int (1 : Int32), .int 0])), ((b 12), .inr (0, [.int 0, .int (1 : Int32), .int 0])), ((b 13), .inr (0, [.int 0, .int (1 : Int32), .int 0])), ((b 14), .inr (2, [.ref (b 15), .int (-1 : Int32), .int 0])), ((b 16), .inr (2, [.ref (b 17), .int (-1 : Int32), .int 0])), ((b 18), .inr (2, [.ref (b 19), .int (-1 : Int32), .int 0])), ((b 20), .inr (2, [.ref (b 21), .int (-1 : Int32), .int 0])), ((b 15), .inl (c 0, 60, .inl (fun _ => 0))), ((b 17), .inl (c 0, 60, .inl (fun _ => 0))), ((b 19), .inl (c 0, 60, .inl (fun _ => 0))), ((b 21), .inl (c 0, 60, .inl (fun _ => 0)))]) rfl h1
set_option maxRecDepth 100000 in
set_option maxHeartbeats 8000000 in
theorem whole_start_of {N : Nat} {R : St → St → Prop} (hR0 : R sg0 tu0) (hsim : Sims N R) {p : Program} {e : Env} {s : State} {m : MethodId} {below : List Frame} {meth : Method} {c : Code} (l : Launch) {b L : Nat} {xs : Nat → Int32} (hL : L ≤ 3072) (C0 : lw_At p s m meth c b L xs) : W p l e room_1 s m #[Value.ref b] below meth c s.heap [] 0 0 (lw_Z below #[Value.ref b] s) (entryFrame m ([Value.ref b] : List Value).toArray 4) := by
  obtain ⟨hx, hb, hr, hml, hown, hts, hX, hbl, hlocks, hgv⟩ := id C0
  have ht : ∀ w ∈ gW, w.before #[Value.ref b] s = true := fun w h => hts w (gW_tbl w h)
  have S : CallFix p m c code 4 s #[Value.ref b] gW RL := ⟨hx, hb, hml, hown, ht⟩
  have hA : ∀ q : Nat, s.heap.size ≤ q → (fun q : Nat => s.heap.size ≤ q) q := fun _ h => h
  obtain ⟨k0, j0, hKn0⟩ := u_known (C := RX0) (T := TX0) (N := 3) (n := 3) ht gX0 (ht _ q25)
  obtain ⟨k1, j1, hKn1⟩ := u_known (C := RX1) (T := TX1) (N := 7) (n := 7) ht gX1 (ht _ q22)
  obtain ⟨k2, j2, hKn2⟩ := u_known (C := RX2) (T := TX2) (N := 3) (n := 3) ht gX2 (ht _ q27)
  obtain ⟨k3, j3, hKn3⟩ := u_known (C := RX5) (T := TX5) (N := 12) (n := 12) ht gX5 (ht _ q1)
  obtain ⟨k4, j4, hKn4⟩ := u_known (C := RX6) (T := TX6) (N := 27) (n := 27) ht gX6 (ht _ q4)
  obtain ⟨cI, kI, pI, fI, gI, hI⟩ := Cond.arrayClass_spec (ht _ q16)
  obtain ⟨cJ, kJ, pJ, fJ, gJ, hJ⟩ := Cond.arrayClass_spec (ht _ q35)
  obtain ⟨cZ, kZ, pZ, fZ, gZ, hZ⟩ := Cond.arrayClass_spec (ht _ q19)
  have aD : (Cond.arrayOver (.object "NestedDolls$Doll")).before #[Value.ref b] s = true := hts _ (List.mem_append_right _ (List.mem_append_left _ (List.mem_of_getElem? (i := 21) rfl)))
  have aS : (Cond.arrayOver (.object "NestedDolls$Sheet")).before #[Value.ref b] s = true := hts _ (List.mem_append_right _ (List.mem_append_left _ (List.mem_of_getElem? (i := 23) rfl)))
  obtain ⟨pD, cD, kD, fD, -, gD, hDk, nD⟩ := Cond.arrayOver_spec aD
  obtain ⟨pS, cS, kS, fS, -, gS, hSk, nS⟩ := Cond.arrayOver_spec aS
  obtain ⟨dC, dI, hKc⟩ : ∃ (dC : Nat → ClassId) (dI : Nat → Nat → Nat), ∀ (k : Nat) (q : vw_C), vwCl[k]? = some q → u_Kn s q.1 q.2.1 q.2.2 (dC k) (dI k) := by
    refine ⟨fun k => if k = 0 then k0 else if k = 1 then k1 else if k = 2 then k2 else if k = 3 then k3 else k4, fun k => if k = 0 then j0 else if k = 1 then j1 else if k = 2 then j2 else if k = 3 then j3 else j4, ?_⟩
    intro k q hq
    match k, hq with
    | 0, hq => cases hq; exact hKn0
    | 1, hq => cases hq; exact hKn1
    | 2, hq => cases hq; exact hKn2
    | 3, hq => cases hq; exact hKn3
    | 4, hq => cases hq; exact hKn4
    | k + 5, hq => simp [vwCl] at hq
  obtain ⟨cA, hcA⟩ : ∃ cA : Nat → ClassId, va_K (dC, dI) vwCl (tyW cA) s := by
    refine ⟨fun k => if k = 0 then cI else if k = 1 then cJ else if k = 2 then cZ else if k = 3 then cD else cS, hKc, ?_⟩
    intro k q hq
    match k, hq with
    | 0, hq => cases hq; exact ⟨fun n z => ⟨fun k h => (by cases h), kI, gI, pI, hI⟩, fI⟩
    | 1, hq => cases hq; exact ⟨fun n z => ⟨fun k h => (by cases h), kJ, gJ, pJ, hJ⟩, fJ⟩
    | 2, hq => cases hq; exact ⟨fun n z => ⟨fun k h => (by cases h), kZ, gZ, pZ, hZ⟩, fZ⟩
    | 3, hq => cases hq; exact ⟨fun n z => ⟨fun k h => (by cases h), kD, gD, pD, hDk⟩, kD, pD, gD, hDk, fD, nD⟩
    | 4, hq => cases hq; exact ⟨fun n z => ⟨fun k h => (by cases h), kS, gS, pS, hSk⟩, kS, pS, gS, hSk, fS, nS⟩
    | k + 5, hq => simp [tyW] at hq
  obtain ⟨D, hDe⟩ : ∃ D : va_G, D = (dC, dI) := ⟨_, rfl⟩
  rw [← hDe] at hcA
  have hK : KK D cA s := ⟨hcA, va_Nw.of rfl (hts nwA (List.mem_append_right _ (List.mem_append_left _ (List.mem_of_getElem? (i := 201) rfl)))), va_Nw.of rfl (hts nwB (List.mem_append_right _ (List.mem_append_right _ (List.mem_append_left _ (List.mem_of_getElem? (i := 106) rfl)))))⟩
  have hI : KI s := ⟨va_AO.of aD, va_AO.of aS, va_Nw.of rfl (hts (.methodLinkNest RX5 36 yX1_init "NestedDolls") (List.mem_append_right _ (List.mem_append_left _ (List.mem_of_getElem? (i := 26) rfl)))), va_Nw.of rfl (hts (.methodLinkNest RX5 41 yX0_init "NestedDolls") (List.mem_append_right _ (List.mem_append_left _ (List.mem_of_getElem? (i := 56) rfl)))), va_Nw.of rfl (hts (.methodLinkNest RX5 42 yX2_init "NestedDolls") (List.mem_append_right _ (List.mem_append_left _ (List.mem_of_getElem? (i := 77) rfl))))⟩
  have hS : va_S (fun q : Nat => s.heap.size ≤ q) s.heap s.heap [] := va_S.rf
  have hP : va_P D vwCl [] s.heap := fun k q h => by simp at h
  have hD : va_D (fun q : Nat => s.heap.size ≤ q) [] := ⟨fun i j p q h => by simp at h, fun k q h => by simp at h⟩
  have hl := lv_entry ([.ref b]) (n := 4) (Nat.le_of_ble_eq_true rfl)
  rw [lg_entry_eq]
  generalize (lg_sl ([.ref b]) ++ List.replicate (4 - (lg_sl ([.ref b])).length) Slot.unset).toArray = ls at hl ⊢
  have hl : lv_has ls 4 [(0, .ref b)] := hl
  refine va_new (D := D) (ci := 3) (fs := [.null, .null, .null, .null, .null, .null, .int 0, .int 0, .int 0, .int 0, .int 0, .int 0]) (C := RX5) (T := TX5) (N := 12) hx hb ht gX5 tyX5 tyX5_ok hown (ht _ q0) (ht _ q1) (ht _ q2) hK.1 hP hD hS hA rfl (fun j hj => by rcases (show j = 0 ∨ j = 1 ∨ j = 2 ∨ j = 3 ∨ j = 4 ∨ j = 5 ∨ j = 6 ∨ j = 7 ∨ j = 8 ∨ j = 9 ∨ j = 10 ∨ j = 11 by omega) with rfl | rfl | rfl | rfl | rfl | rfl | rfl | rfl | rfl | rfl | rfl | rfl <;> rfl) (Nat.le_of_ble_eq_true rfl) (Nat.le_of_ble_eq_true rfl) dL_law_0 (fun q0 H hP hD hS => ?_)
  have hP : va_P D vwCl [(q0, .inr (3, [.null, .null, .null, .null, .null, .null, .int 0, .int 0, .int 0, .int 0, .int 0, .int 0]))] H := hP
  have hD : va_D (fun q : Nat => s.heap.size ≤ q) [(q0, .inr (3, [.null, .null, .null, .null, .null, .null, .int 0, .int 0, .int 0, .int 0, .int 0, .int 0]))] := hD
  refine W.widen (k := 1) (n := 12) (Nat.le_of_ble_eq_true rfl) (Nat.le_of_ble_eq_true rfl) ?_
  refine lv_dup hx hb dL_law_3 rfl ?_
  refine xi_I (rest := [.ref q0]) (wr := []) S k_X5_init q6 q7 rfl ⟨(Nat.le_of_ble_eq_true rfl), (Nat.le_of_ble_eq_true rfl)⟩ ⟨rfl, rfl⟩ (c_X5_init l D cA q0) hK hI hP hD hS hA [0] [] rfl rfl rfl (by decide) (by decide) (by decide) hl.1 rfl (Nat.le_of_ble_eq_true rfl) dL_law_4 ⟨(Nat.le_of_ble_eq_true rfl), (Nat.le_of_ble_eq_true rfl)⟩ (fun b5 H locs hP hD hS => ?_)
  have hP := init_P hP
  have hD := init_D (c := cA) hD
  refine W.widen (k := 23) (n := 3079) (Nat.le_of_ble_eq_true rfl) (Nat.le_of_ble_eq_true rfl) ?_
  refine lv_astore_n (lv' := [(1, .ref q0), (0, .ref b)]) hx hb dL_law_7 rfl hl (by decide) rfl (fun ls hl => ?_)
  refine va_new (D := D) (ci := 4) (fs := [.int 0, .int 0, .null, .null, .null, .int 0, .int 0, .null, .null, .null, .null, .int 0, .int 0, .int 0, .null, .null, .null, .null, .null, .int 0, .null, .null, .null, .int 0, .null, .null, .null]) (C := RX6) (T := TX6) (N := 27) hx hb ht gX6 tyX6 tyX6_ok hown (ht _ q3) (ht _ q4) (ht _ q5) hK.1 hP hD hS hA rfl (fun j hj => by rcases (show j = 0 ∨ j = 1 ∨ j = 2 ∨ j = 3 ∨ j = 4 ∨ j = 5 ∨ j = 6 ∨ j = 7 ∨ j = 8 ∨ j = 9 ∨ j = 10 ∨ j = 11 ∨ j = 12 ∨ j = 13 ∨ j = 14 ∨ j = 15 ∨ j = 16 ∨ j = 17 ∨ j = 18 ∨ j = 19 ∨ j = 20 ∨ j = 21 ∨ j = 22 ∨ j = 23 ∨ j = 24 ∨ j = 25 ∨ j = 26 by omega) with rfl | rfl | rfl | rfl | rfl | rfl | rfl | rfl | rfl | rfl | rfl | rfl | rfl | rfl | rfl | rfl | rfl | rfl | rfl | rfl | rfl | rfl | rfl | rfl | rfl | rfl | rfl <;> rfl) (Nat.le_of_ble_eq_true rfl) (Nat.le_of_ble_eq_true rfl) dL_law_8 (fun m0 H hP hD hS => ?_)
  refine W.widen (k := 24) (n := 3106) (Nat.le_of_ble_eq_true rfl) (Nat.le_of_ble_eq_true rfl) ?_
  refine lv_dup hx hb dL_law_11 rfl ?_
  refine xi_I (rest := [.ref m0]) (wr := cW (aA q0 b5) cA sg0) S k_X6_init q46 q47 rfl ⟨(Nat.le_of_ble_eq_true rfl), (Nat.le_of_ble_eq_true rfl)⟩ ⟨rfl, rfl⟩ (c_X6_init l D cA m0) hK hI hP hD hS hA [23] (List.range 23) rfl rfl rfl (by decide) (by decide) (by decide) hl.1 rfl (Nat.le_of_ble_eq_true rfl) dL_law_12 ⟨(Nat.le_of_ble_eq_true rfl), (Nat.le_of_ble_eq_true rfl)⟩ (fun b6 H locs hP hD hS => ?_)
  have hP : va_P D vwCl (cW (aA q0 b5) cA sg0 ++ mW (aB m0 b6) cA tu0) H := hP
  have hD : va_D (fun q : Nat => s.heap.size ≤ q) (cW (aA q0 b5) cA sg0 ++ mW (aB m0 b6) cA tu0) := hD
  refine W.widen (k := 42) (n := 49418) (Nat.le_of_ble_eq_true rfl) (Nat.le_of_ble_eq_true rfl) ?_
  refine lv_astore_n (lv' := [(2, .ref m0), (1, .ref q0), (0, .ref b)]) hx hb dL_law_15 rfl hl (by decide) rfl (fun ls hl => ?_)
  refine lv_iconst (v := (0 : Int32)) hx hb dL_law_16 (by decide) ?_
  refine lv_istore_n (lv' := [(3, .int (0 : Int32)), (2, .ref m0), (1, .ref q0), (0, .ref b)]) hx hb dL_law_17 rfl hl (by decide) rfl (fun ls hl => ?_)
  exact law_loop (a := aA q0 b5) (b := aB m0 b6) C0 hK hsim hL (L + 1) 0 (by omega) (by omega) sg0 tu0 _ _ _ hR0 hl hP hD hS
