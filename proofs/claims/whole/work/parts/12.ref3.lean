theorem dX6_nestNow_0 : decode cX6_nestNow 0 = .ok (.aload_n 0, 1) := by decide +kernel
theorem dX6_nestNow_1 : decode cX6_nestNow 1 = .ok (.getfield 105, 3) := by decide +kernel
theorem dX6_nestNow_4 : decode cX6_nestNow 4 = .ok (.istore_n 1, 1) := by decide +kernel
theorem dX6_nestNow_5 : decode cX6_nestNow 5 = .ok (.iconst 0, 1) := by decide +kernel
theorem dX6_nestNow_6 : decode cX6_nestNow 6 = .ok (.istore_n 2, 1) := by decide +kernel
theorem dX6_nestNow_7 : decode cX6_nestNow 7 = .ok (.iload_n 2, 1) := by decide +kernel
theorem dX6_nestNow_8 : decode cX6_nestNow 8 = .ok (.iconst 4, 1) := by decide +kernel
theorem dX6_nestNow_9 : decode cX6_nestNow 9 = .ok (.if_icmp .ge 32, 3) := by decide +kernel
theorem dX6_nestNow_12 : decode cX6_nestNow 12 = .ok (.iconst 5, 1) := by decide +kernel
theorem dX6_nestNow_13 : decode cX6_nestNow 13 = .ok (.iload_n 1, 1) := by decide +kernel
theorem dX6_nestNow_14 : decode cX6_nestNow 14 = .ok (.imul, 1) := by decide +kernel
theorem dX6_nestNow_15 : decode cX6_nestNow 15 = .ok (.iload_n 2, 1) := by decide +kernel
theorem dX6_nestNow_16 : decode cX6_nestNow 16 = .ok (.aload_n 0, 1) := by decide +kernel
theorem dX6_nestNow_17 : decode cX6_nestNow 17 = .ok (.getfield 75, 3) := by decide +kernel
theorem dX6_nestNow_20 : decode cX6_nestNow 20 = .ok (.if_icmp .ge 12, 3) := by decide +kernel
theorem dX6_nestNow_23 : decode cX6_nestNow 23 = .ok (.aload_n 0, 1) := by decide +kernel
theorem dX6_nestNow_24 : decode cX6_nestNow 24 = .ok (.getfield 28, 3) := by decide +kernel
theorem dX6_nestNow_27 : decode cX6_nestNow 27 = .ok (.iload_n 2, 1) := by decide +kernel
theorem dX6_nestNow_28 : decode cX6_nestNow 28 = .ok (.iaload, 1) := by decide +kernel
theorem dX6_nestNow_29 : decode cX6_nestNow 29 = .ok (.goto 4, 3) := by decide +kernel
theorem dX6_nestNow_32 : decode cX6_nestNow 32 = .ok (.iconst 0, 1) := by decide +kernel
theorem dX6_nestNow_33 : decode cX6_nestNow 33 = .ok (.iadd, 1) := by decide +kernel
theorem dX6_nestNow_34 : decode cX6_nestNow 34 = .ok (.istore_n 1, 1) := by decide +kernel
theorem dX6_nestNow_35 : decode cX6_nestNow 35 = .ok (.iinc 2 1, 3) := by decide +kernel
theorem dX6_nestNow_38 : decode cX6_nestNow 38 = .ok (.goto (-31), 3) := by decide +kernel
theorem dX6_nestNow_41 : decode cX6_nestNow 41 = .ok (.iload_n 1, 1) := by decide +kernel
theorem dX6_nestNow_42 : decode cX6_nestNow 42 = .ok (.ireturn, 1) := by decide +kernel
def f_X6_nestNow_j41 (N : Nat) (x1 : Int32) (σ : St) : Option Int32 :=
  some x1
def f_X6_nestNow_j33 (N : Nat) (x2 : Int32) (y0 : Int32) (y1 : Int32) (σ : St) : Option ((Int32 × Int32) ⊕ ((Int32))) :=
  nm (y0 + y1) fun x1_1 =>
  nm (x2 + (1 : Int32)) fun x2_2 =>
  some (.inl (x1_1, x2_2))
def f_X6_nestNow_b7 (N : Nat) (x1 : Int32) (x2 : Int32) (σ : St) : Option ((Int32 × Int32) ⊕ ((Int32))) :=
  if (4 : Int32) ≤ x2 then (some (.inr x1))
  else if (σ.1 0 2) ≤ x2 then (f_X6_nestNow_j33 N x2 ((5 : Int32) * x1) (0 : Int32) σ)
  else gd (ck x2 4) <|
  f_X6_nestNow_j33 N x2 ((5 : Int32) * x1) (σ.1 7 x2.toNatClampNeg) σ
def f_X6_nestNow (N : Nat) (σ : St) : Option Int32 :=
  nm (σ.1 0 4) fun x1_6 =>
  bd (lpF (fun s => f_X6_nestNow_b7 N s.1 s.2 σ) N (x1_6, (0 : Int32))) (fun o => f_X6_nestNow_j41 N o σ)
abbrev rmX6_nestNow : Room := { frames := 0, cells := 0, slots := 0, locals := 0 }
set_option maxRecDepth 100000 in
set_option maxHeartbeats 4000000 in
theorem c_X6_nestNow (l : Launch) (D : va_G) (a : Nat → Nat) (c : Nat → ClassId) (A : Nat → Prop) (hD : ∀ σ, va_D A (mW a c σ)) (N : Nat) (σ : St) (r : Int32) (hf : f_X6_nestNow N σ = some r) : MetI l yX6_nestNow cX6_nestNow 3 (some .int) rmX6_nestNow (mW a c) D c A [.ref (a 0)] σ r σ := by
  refine mkI (by decide) (Nat.le_of_ble_eq_true rfl) rfl ?_
  intro p e s m args below meth cd Q ls h0 hK hP hret hl
  obtain ⟨S, hr, hlk⟩ := h0
  obtain ⟨hx, hb, hml, hown, ht⟩ := id S
  have hS : va_S A s.heap s.heap [] := va_S.rf
  have hl : lv_has ls 3 [(0, .ref (a 0))] := hl
  have hf := obs hf
  have j41 : ∀ (x1 : Int32) (H : Heap) (locs : List Loc) (ls : Array Slot), lv_has ls 3 [(1, .int x1)] → va_P D vwCl (mW a c σ) H → va_S A s.heap H locs → Option.bind (f_X6_nestNow_j41 N x1 σ) some = some r → W p l e rmX6_nestNow s m args below meth cd H locs 0 0 Q (F0 m 41 ls []) := by
    intro x1 H locs ls hl hP hS hf
    have hf := oun (f_X6_nestNow_j41.eq_1 _ _ _) hf
    refine lv_iload_n hx hb dX6_nestNow_41 rfl (lv_at hl 0 rfl) ?_
    exact hret _ _ _ _ _ _ dX6_nestNow_42 rfl hP hS ⟨Option.some.inj hf, rfl⟩
  have L7 : ∀ (k : Nat) (x1 : Int32) (x2 : Int32) (H : Heap) (locs : List Loc) (ls : Array Slot), lv_has ls 3 [(0, .ref (a 0)), (1, .int x1), (2, .int x2)] → va_P D vwCl (mW a c σ) H → va_S A s.heap H locs → Option.bind (bd (lpF (fun s => f_X6_nestNow_b7 N s.1 s.2 σ) k (x1, x2)) (fun o => f_X6_nestNow_j41 N o σ)) some = some r → W p l e rmX6_nestNow s m args below meth cd H locs 0 0 Q (F0 m 7 ls []) := by
    intro k
    induction k with
    | zero =>
      intro x1 x2 H locs ls hl hP hS hf
      exact (ol0 hf).elim
    | succ k ih =>
      intro x1 x2 H locs ls hl hP hS hf
      obtain ⟨K7, hf, hc7, hx7⟩ := ol1 hf
      have j33 : ∀ (x2 : Int32) (y0 : Int32) (y1 : Int32) (H : Heap) (locs : List Loc) (ls : Array Slot), lv_has ls 3 [(0, .ref (a 0)), (2, .int x2)] → va_P D vwCl (mW a c σ) H → va_S A s.heap H locs → Option.bind (f_X6_nestNow_j33 N x2 y0 y1 σ) K7 = some r → W p l e rmX6_nestNow s m args below meth cd H locs 0 0 Q (F0 m 33 ls [.int y1, .int y0]) := by
        intro x2 y0 y1 H locs ls hl hP hS hf
        have hf := oun (f_X6_nestNow_j33.eq_1 _ _ _ _ _) hf
        refine lv_iadd hx hb dX6_nestNow_33 ?_
        obtain ⟨x1_1, ex1_1, hf⟩ := onm hf
        refine lv_nm ex1_1 ?_
        refine lv_istore_n (lv' := [(1, .int x1_1), (0, .ref (a 0)), (2, .int x2)]) hx hb dX6_nestNow_34 rfl hl (by decide) rfl (fun ls hl => ?_)
        obtain ⟨x2_2, ex2_2, hf⟩ := onm hf
        refine lv_iinc (v := x2_2) (lv' := [(2, .int x2_2), (1, .int x1_1), (0, .ref (a 0))]) hx hb dX6_nestNow_35 hl (k := 2) rfl ex2_2 (by decide) rfl (fun ls hl => ?_)
        refine lv_goto (tgt := 7) hx hb dX6_nestNow_38 (by decide) ?_
        exact ih x1_1 x2_2 _ _ _ (lv_sub hl [2, 1, 0] rfl) hP hS (okx hf (hc7 _))
      have hf := oun (f_X6_nestNow_b7.eq_1 N x1 x2 σ) hf
      refine lv_iload_n hx hb dX6_nestNow_7 rfl (lv_at hl 2 rfl) ?_
      refine lv_iconst (v := (4 : Int32)) hx hb dX6_nestNow_8 (by decide) ?_
      refine lv_icmp_ge (tgt := 41) hx hb dX6_nestNow_9 (by decide) (fun c_3 => ?_) (fun c_3 => ?_)
      · have hf := oit c_3 hf
        exact j41 x1 _ _ _ (lv_sub hl [1] rfl) hP hS (okx hf (hx7 _))
      have hf := oif c_3 hf
      refine lv_iconst (v := (5 : Int32)) hx hb dX6_nestNow_12 (by decide) ?_
      refine lv_iload_n hx hb dX6_nestNow_13 rfl (lv_at hl 1 rfl) ?_
      refine lv_imul hx hb dX6_nestNow_14 ?_
      refine lv_iload_n hx hb dX6_nestNow_15 rfl (lv_at hl 2 rfl) ?_
      refine lv_aload_n hx hb dX6_nestNow_16 rfl (lv_at hl 0 rfl) ?_
      refine va_get (D := D) (ci := 4) (v := .int (σ.1 0 2)) (C := RX6) (T := TX6) (N := 27) hx hb ht gX6 hown hK.1 hP 0 (mw0 a c σ) rfl 5 (by decide) (ht _ q139) (fun _ h9 => h9) rfl dX6_nestNow_17 ?_
      refine lv_icmp_ge (tgt := 32) hx hb dX6_nestNow_20 (by decide) (fun c_4 => ?_) (fun c_4 => ?_)
      · have hf := oit c_4 hf
        refine lv_iconst (v := (0 : Int32)) hx hb dX6_nestNow_32 (by decide) ?_
        exact j33 x2 ((5 : Int32) * x1) (0 : Int32) _ _ _ (lv_sub hl [0, 2] rfl) hP hS hf
      have hf := oif c_4 hf
      refine lv_aload_n hx hb dX6_nestNow_23 rfl (lv_at hl 0 rfl) ?_
      refine va_get (D := D) (ci := 4) (v := .ref (a 7)) (C := RX6) (T := TX6) (N := 27) hx hb ht gX6 hown hK.1 hP 0 (mw0 a c σ) rfl 10 (by decide) (ht _ q56) (fun _ h9 => h9) rfl dX6_nestNow_24 ?_
      refine lv_iload_n hx hb dX6_nestNow_27 rfl (lv_at hl 2 rfl) ?_
      obtain ⟨g_5, hf⟩ := ogd hf
      refine va_iald hx hb hK.1 hP 7 0 (mw7 a c σ) rfl (ck_in g_5) dX6_nestNow_28 ?_
      refine lv_goto (tgt := 33) hx hb dX6_nestNow_29 (by decide) ?_
      exact j33 x2 ((5 : Int32) * x1) (σ.1 7 x2.toNatClampNeg) _ _ _ (lv_sub hl [0, 2] rfl) hP hS hf
  have hf := oun (f_X6_nestNow.eq_1 _ _) hf
  refine lv_aload_n hx hb dX6_nestNow_0 rfl (lv_at hl 0 rfl) ?_
  refine va_get (D := D) (ci := 4) (v := .int (σ.1 0 4)) (C := RX6) (T := TX6) (N := 27) hx hb ht gX6 hown hK.1 hP 0 (mw0 a c σ) rfl 11 (by decide) (ht _ q140) (fun _ h9 => h9) rfl dX6_nestNow_1 ?_
  obtain ⟨x1_6, ex1_6, hf⟩ := onm hf
  refine lv_nm ex1_6 ?_
  refine lv_istore_n (lv' := [(1, .int x1_6), (0, .ref (a 0))]) hx hb dX6_nestNow_4 rfl hl (by decide) rfl (fun ls hl => ?_)
  refine lv_iconst (v := (0 : Int32)) hx hb dX6_nestNow_5 (by decide) ?_
  refine lv_istore_n (lv' := [(2, .int (0 : Int32)), (1, .int x1_6), (0, .ref (a 0))]) hx hb dX6_nestNow_6 rfl hl (by decide) rfl (fun ls hl => ?_)
  exact L7 N x1_6 (0 : Int32) _ _ _ (lv_sub hl [2, 1, 0] rfl) hP hS hf
theorem dX6_handSet_0 : decode cX6_handSet 0 = .ok (.iconst 0, 1) := by decide +kernel
theorem dX6_handSet_1 : decode cX6_handSet 1 = .ok (.istore_n 1, 1) := by decide +kernel
theorem dX6_handSet_2 : decode cX6_handSet 2 = .ok (.iconst 0, 1) := by decide +kernel
theorem dX6_handSet_3 : decode cX6_handSet 3 = .ok (.istore_n 2, 1) := by decide +kernel
theorem dX6_handSet_4 : decode cX6_handSet 4 = .ok (.iload_n 2, 1) := by decide +kernel
theorem dX6_handSet_5 : decode cX6_handSet 5 = .ok (.aload_n 0, 1) := by decide +kernel
theorem dX6_handSet_6 : decode cX6_handSet 6 = .ok (.getfield 75, 3) := by decide +kernel
theorem dX6_handSet_9 : decode cX6_handSet 9 = .ok (.if_icmp .ge 27, 3) := by decide +kernel
theorem dX6_handSet_12 : decode cX6_handSet 12 = .ok (.iload_n 1, 1) := by decide +kernel
theorem dX6_handSet_13 : decode cX6_handSet 13 = .ok (.aload_n 0, 1) := by decide +kernel
theorem dX6_handSet_14 : decode cX6_handSet 14 = .ok (.iload_n 2, 1) := by decide +kernel
theorem dX6_handSet_15 : decode cX6_handSet 15 = .ok (.invokevirtual 134, 3) := by decide +kernel
theorem dX6_handSet_18 : decode cX6_handSet 18 = .ok (.ifCond .eq 9, 3) := by decide +kernel
theorem dX6_handSet_21 : decode cX6_handSet 21 = .ok (.iconst 1, 1) := by decide +kernel
theorem dX6_handSet_22 : decode cX6_handSet 22 = .ok (.iload_n 2, 1) := by decide +kernel
theorem dX6_handSet_23 : decode cX6_handSet 23 = .ok (.ishl, 1) := by decide +kernel
theorem dX6_handSet_24 : decode cX6_handSet 24 = .ok (.goto 4, 3) := by decide +kernel
theorem dX6_handSet_27 : decode cX6_handSet 27 = .ok (.iconst 0, 1) := by decide +kernel
theorem dX6_handSet_28 : decode cX6_handSet 28 = .ok (.ior, 1) := by decide +kernel
theorem dX6_handSet_29 : decode cX6_handSet 29 = .ok (.istore_n 1, 1) := by decide +kernel
theorem dX6_handSet_30 : decode cX6_handSet 30 = .ok (.iinc 2 1, 3) := by decide +kernel
theorem dX6_handSet_33 : decode cX6_handSet 33 = .ok (.goto (-29), 3) := by decide +kernel
theorem dX6_handSet_36 : decode cX6_handSet 36 = .ok (.iload_n 1, 1) := by decide +kernel
theorem dX6_handSet_37 : decode cX6_handSet 37 = .ok (.ireturn, 1) := by decide +kernel
def f_X6_handSet_j36 (N : Nat) (x1 : Int32) (σ : St) : Option Int32 :=
  some x1
def f_X6_handSet_j28 (N : Nat) (x2 : Int32) (y0 : Int32) (y1 : Int32) (σ : St) : Option ((Int32 × Int32) ⊕ ((Int32))) :=
  nm (y0 ||| y1) fun x1_1 =>
  nm (x2 + (1 : Int32)) fun x2_2 =>
  some (.inl (x1_1, x2_2))
def f_X6_handSet_b4 (N : Nat) (x1 : Int32) (x2 : Int32) (σ : St) : Option ((Int32 × Int32) ⊕ ((Int32))) :=
  if (σ.1 0 2) ≤ x2 then (some (.inr x1))
  else bd (f_X6_isAtHand N x2 σ) fun r_4 =>
  if r_4 = 0 then (f_X6_handSet_j28 N x2 x1 (0 : Int32) σ)
  else f_X6_handSet_j28 N x2 x1 ((1 : Int32) <<< (x2 &&& 31)) σ
def f_X6_handSet (N : Nat) (σ : St) : Option Int32 :=
  bd (lpF (fun s => f_X6_handSet_b4 N s.1 s.2 σ) N ((0 : Int32), (0 : Int32))) (fun o => f_X6_handSet_j36 N o σ)
abbrev rmX6_handSet : Room := { frames := 2, cells := 0, slots := 0, locals := 44 }
set_option maxRecDepth 100000 in
set_option maxHeartbeats 4000000 in
theorem c_X6_handSet (l : Launch) (D : va_G) (a : Nat → Nat) (c : Nat → ClassId) (A : Nat → Prop) (hD : ∀ σ, va_D A (mW a c σ)) (N : Nat) (σ : St) (r : Int32) (hf : f_X6_handSet N σ = some r) : MetI l yX6_handSet cX6_handSet 3 (some .int) rmX6_handSet (mW a c) D c A [.ref (a 0)] σ r σ := by
  refine mkI (by decide) (Nat.le_of_ble_eq_true rfl) rfl ?_
  intro p e s m args below meth cd Q ls h0 hK hP hret hl
  obtain ⟨S, hr, hlk⟩ := h0
  obtain ⟨hx, hb, hml, hown, ht⟩ := id S
  have hS : va_S A s.heap s.heap [] := va_S.rf
  have hl : lv_has ls 3 [(0, .ref (a 0))] := hl
  have hf := obs hf
  have j36 : ∀ (x1 : Int32) (H : Heap) (locs : List Loc) (ls : Array Slot), lv_has ls 3 [(1, .int x1)] → va_P D vwCl (mW a c σ) H → va_S A s.heap H locs → Option.bind (f_X6_handSet_j36 N x1 σ) some = some r → W p l e rmX6_handSet s m args below meth cd H locs 0 0 Q (F0 m 36 ls []) := by
    intro x1 H locs ls hl hP hS hf
    have hf := oun (f_X6_handSet_j36.eq_1 _ _ _) hf
    refine lv_iload_n hx hb dX6_handSet_36 rfl (lv_at hl 0 rfl) ?_
    exact hret _ _ _ _ _ _ dX6_handSet_37 rfl hP hS ⟨Option.some.inj hf, rfl⟩
  have L4 : ∀ (k : Nat) (x1 : Int32) (x2 : Int32) (H : Heap) (locs : List Loc) (ls : Array Slot), lv_has ls 3 [(0, .ref (a 0)), (1, .int x1), (2, .int x2)] → va_P D vwCl (mW a c σ) H → va_S A s.heap H locs → Option.bind (bd (lpF (fun s => f_X6_handSet_b4 N s.1 s.2 σ) k (x1, x2)) (fun o => f_X6_handSet_j36 N o σ)) some = some r → W p l e rmX6_handSet s m args below meth cd H locs 0 0 Q (F0 m 4 ls []) := by
    intro k
    induction k with
    | zero =>
      intro x1 x2 H locs ls hl hP hS hf
      exact (ol0 hf).elim
    | succ k ih =>
      intro x1 x2 H locs ls hl hP hS hf
      obtain ⟨K4, hf, hc4, hx4⟩ := ol1 hf
      have j28 : ∀ (x2 : Int32) (y0 : Int32) (y1 : Int32) (H : Heap) (locs : List Loc) (ls : Array Slot), lv_has ls 3 [(0, .ref (a 0)), (2, .int x2)] → va_P D vwCl (mW a c σ) H → va_S A s.heap H locs → Option.bind (f_X6_handSet_j28 N x2 y0 y1 σ) K4 = some r → W p l e rmX6_handSet s m args below meth cd H locs 0 0 Q (F0 m 28 ls [.int y1, .int y0]) := by
        intro x2 y0 y1 H locs ls hl hP hS hf
        have hf := oun (f_X6_handSet_j28.eq_1 _ _ _ _ _) hf
        refine lv_ior hx hb dX6_handSet_28 ?_
        obtain ⟨x1_1, ex1_1, hf⟩ := onm hf
        refine lv_nm ex1_1 ?_
        refine lv_istore_n (lv' := [(1, .int x1_1), (0, .ref (a 0)), (2, .int x2)]) hx hb dX6_handSet_29 rfl hl (by decide) rfl (fun ls hl => ?_)
        obtain ⟨x2_2, ex2_2, hf⟩ := onm hf
        refine lv_iinc (v := x2_2) (lv' := [(2, .int x2_2), (1, .int x1_1), (0, .ref (a 0))]) hx hb dX6_handSet_30 hl (k := 2) rfl ex2_2 (by decide) rfl (fun ls hl => ?_)
        refine lv_goto (tgt := 4) hx hb dX6_handSet_33 (by decide) ?_
        exact ih x1_1 x2_2 _ _ _ (lv_sub hl [2, 1, 0] rfl) hP hS (okx hf (hc4 _))
      have hf := oun (f_X6_handSet_b4.eq_1 N x1 x2 σ) hf
      refine lv_iload_n hx hb dX6_handSet_4 rfl (lv_at hl 2 rfl) ?_
      refine lv_aload_n hx hb dX6_handSet_5 rfl (lv_at hl 0 rfl) ?_
      refine va_get (D := D) (ci := 4) (v := .int (σ.1 0 2)) (C := RX6) (T := TX6) (N := 27) hx hb ht gX6 hown hK.1 hP 0 (mw0 a c σ) rfl 5 (by decide) (ht _ q139) (fun _ h9 => h9) rfl dX6_handSet_6 ?_
      refine lv_icmp_ge (tgt := 36) hx hb dX6_handSet_9 (by decide) (fun c_3 => ?_) (fun c_3 => ?_)
      · have hf := oit c_3 hf
        exact j36 x1 _ _ _ (lv_sub hl [1] rfl) hP hS (okx hf (hx4 _))
      have hf := oif c_3 hf
      refine lv_iload_n hx hb dX6_handSet_12 rfl (lv_at hl 1 rfl) ?_
      refine lv_aload_n hx hb dX6_handSet_13 rfl (lv_at hl 0 rfl) ?_
      refine lv_iload_n hx hb dX6_handSet_14 rfl (lv_at hl 2 rfl) ?_
      obtain ⟨r_4, h_5, hf⟩ := obd hf
      refine xv_I (As := [.int x2]) (rest := [.int x1]) S k_X6_isAtHand q234 q235 q236 ⟨Nat.le_of_ble_eq_true rfl, Nat.le_of_ble_eq_true rfl⟩ ⟨rfl, rfl⟩ (c_X6_isAtHand l D a c A hD N x2 σ r_4 h_5) hK hP hS (va_recv hK.1 hP (rfl : vwCl[4]? = some (RX6, TX6, 27)) (mw0 a c σ)) rfl hl.1 rfl (Nat.le_of_ble_eq_true rfl) dX6_handSet_15 ⟨Nat.zero_le _, Nat.zero_le _⟩ (fun H locs hP hS => ?_)
      refine lv_if_eq (tgt := 27) hx hb dX6_handSet_18 (by decide) (fun c_6 => ?_) (fun c_6 => ?_)
      · have hf := oit c_6 hf
        refine lv_iconst (v := (0 : Int32)) hx hb dX6_handSet_27 (by decide) ?_
        exact j28 x2 x1 (0 : Int32) _ _ _ (lv_sub hl [0, 2] rfl) hP hS hf
      have hf := oif c_6 hf
      refine lv_iconst (v := (1 : Int32)) hx hb dX6_handSet_21 (by decide) ?_
      refine lv_iload_n hx hb dX6_handSet_22 rfl (lv_at hl 2 rfl) ?_
      refine lv_ishl hx hb dX6_handSet_23 ?_
      refine lv_goto (tgt := 28) hx hb dX6_handSet_24 (by decide) ?_
      exact j28 x2 x1 ((1 : Int32) <<< (x2 &&& 31)) _ _ _ (lv_sub hl [0, 2] rfl) hP hS hf
  have hf := oun (f_X6_handSet.eq_1 _ _) hf
  refine lv_iconst (v := (0 : Int32)) hx hb dX6_handSet_0 (by decide) ?_
  refine lv_istore_n (lv' := [(1, .int (0 : Int32)), (0, .ref (a 0))]) hx hb dX6_handSet_1 rfl hl (by decide) rfl (fun ls hl => ?_)
  refine lv_iconst (v := (0 : Int32)) hx hb dX6_handSet_2 (by decide) ?_
  refine lv_istore_n (lv' := [(2, .int (0 : Int32)), (1, .int (0 : Int32)), (0, .ref (a 0))]) hx hb dX6_handSet_3 rfl hl (by decide) rfl (fun ls hl => ?_)
  exact L4 N (0 : Int32) (0 : Int32) _ _ _ (lv_sub hl [2, 1, 0] rfl) hP hS hf
theorem dX6_tellDay_0 : decode cX6_tellDay 0 = .ok (.iload_n 1, 1) := by decide +kernel
theorem dX6_tellDay_1 : decode cX6_tellDay 1 = .ok (.bipush 10, 2) := by decide +kernel
theorem dX6_tellDay_3 : decode cX6_tellDay 3 = .ok (.if_icmp .lt 29, 3) := by decide +kernel
theorem dX6_tellDay_6 : decode cX6_tellDay 6 = .ok (.aload_n 0, 1) := by decide +kernel
theorem dX6_tellDay_7 : decode cX6_tellDay 7 = .ok (.iload_n 1, 1) := by decide +kernel
theorem dX6_tellDay_8 : decode cX6_tellDay 8 = .ok (.bipush 10, 2) := by decide +kernel
theorem dX6_tellDay_10 : decode cX6_tellDay 10 = .ok (.isub, 1) := by decide +kernel
theorem dX6_tellDay_11 : decode cX6_tellDay 11 = .ok (.invokevirtual 78, 3) := by decide +kernel
theorem dX6_tellDay_14 : decode cX6_tellDay 14 = .ok (.ifCond .eq 15, 3) := by decide +kernel
theorem dX6_tellDay_17 : decode cX6_tellDay 17 = .ok (.aload_n 0, 1) := by decide +kernel
theorem dX6_tellDay_18 : decode cX6_tellDay 18 = .ok (.getfield 28, 3) := by decide +kernel
theorem dX6_tellDay_21 : decode cX6_tellDay 21 = .ok (.iload_n 1, 1) := by decide +kernel
theorem dX6_tellDay_22 : decode cX6_tellDay 22 = .ok (.bipush 10, 2) := by decide +kernel
theorem dX6_tellDay_24 : decode cX6_tellDay 24 = .ok (.isub, 1) := by decide +kernel
theorem dX6_tellDay_25 : decode cX6_tellDay 25 = .ok (.iaload, 1) := by decide +kernel
theorem dX6_tellDay_26 : decode cX6_tellDay 26 = .ok (.goto 5, 3) := by decide +kernel
theorem dX6_tellDay_29 : decode cX6_tellDay 29 = .ok (.bipush (-9), 2) := by decide +kernel
theorem dX6_tellDay_31 : decode cX6_tellDay 31 = .ok (.ireturn, 1) := by decide +kernel
theorem dX6_tellDay_32 : decode cX6_tellDay 32 = .ok (.iload_n 1, 1) := by decide +kernel
theorem dX6_tellDay_33 : decode cX6_tellDay 33 = .ok (.tableswitch 46 0 3 #[31, 46, 36, 41], 31) := by decide +kernel
theorem dX6_tellDay_64 : decode cX6_tellDay 64 = .ok (.aload_n 0, 1) := by decide +kernel
theorem dX6_tellDay_65 : decode cX6_tellDay 65 = .ok (.invokevirtual 153, 3) := by decide +kernel
theorem dX6_tellDay_68 : decode cX6_tellDay 68 = .ok (.ireturn, 1) := by decide +kernel
theorem dX6_tellDay_69 : decode cX6_tellDay 69 = .ok (.aload_n 0, 1) := by decide +kernel
theorem dX6_tellDay_70 : decode cX6_tellDay 70 = .ok (.getfield 105, 3) := by decide +kernel
theorem dX6_tellDay_73 : decode cX6_tellDay 73 = .ok (.ireturn, 1) := by decide +kernel
theorem dX6_tellDay_74 : decode cX6_tellDay 74 = .ok (.aload_n 0, 1) := by decide +kernel
theorem dX6_tellDay_75 : decode cX6_tellDay 75 = .ok (.invokevirtual 170, 3) := by decide +kernel
theorem dX6_tellDay_78 : decode cX6_tellDay 78 = .ok (.ireturn, 1) := by decide +kernel
theorem dX6_tellDay_79 : decode cX6_tellDay 79 = .ok (.iconst 0, 1) := by decide +kernel
theorem dX6_tellDay_80 : decode cX6_tellDay 80 = .ok (.istore_n 2, 1) := by decide +kernel
theorem dX6_tellDay_81 : decode cX6_tellDay 81 = .ok (.iconst 0, 1) := by decide +kernel
theorem dX6_tellDay_82 : decode cX6_tellDay 82 = .ok (.istore_n 3, 1) := by decide +kernel
theorem dX6_tellDay_83 : decode cX6_tellDay 83 = .ok (.iload_n 3, 1) := by decide +kernel
theorem dX6_tellDay_84 : decode cX6_tellDay 84 = .ok (.aload_n 0, 1) := by decide +kernel
theorem dX6_tellDay_85 : decode cX6_tellDay 85 = .ok (.getfield 75, 3) := by decide +kernel
theorem dX6_tellDay_88 : decode cX6_tellDay 88 = .ok (.if_icmp .ge 28, 3) := by decide +kernel
theorem dX6_tellDay_91 : decode cX6_tellDay 91 = .ok (.aload_n 0, 1) := by decide +kernel
theorem dX6_tellDay_92 : decode cX6_tellDay 92 = .ok (.iload_n 3, 1) := by decide +kernel
theorem dX6_tellDay_93 : decode cX6_tellDay 93 = .ok (.invokevirtual 137, 3) := by decide +kernel
theorem dX6_tellDay_96 : decode cX6_tellDay 96 = .ok (.iload_n 2, 1) := by decide +kernel
theorem dX6_tellDay_97 : decode cX6_tellDay 97 = .ok (.if_icmp .le 11, 3) := by decide +kernel
theorem dX6_tellDay_100 : decode cX6_tellDay 100 = .ok (.aload_n 0, 1) := by decide +kernel
theorem dX6_tellDay_101 : decode cX6_tellDay 101 = .ok (.iload_n 3, 1) := by decide +kernel
theorem dX6_tellDay_102 : decode cX6_tellDay 102 = .ok (.invokevirtual 137, 3) := by decide +kernel
theorem dX6_tellDay_105 : decode cX6_tellDay 105 = .ok (.goto 4, 3) := by decide +kernel
theorem dX6_tellDay_108 : decode cX6_tellDay 108 = .ok (.iload_n 2, 1) := by decide +kernel
theorem dX6_tellDay_109 : decode cX6_tellDay 109 = .ok (.istore_n 2, 1) := by decide +kernel
theorem dX6_tellDay_110 : decode cX6_tellDay 110 = .ok (.iinc 3 1, 3) := by decide +kernel
theorem dX6_tellDay_113 : decode cX6_tellDay 113 = .ok (.goto (-30), 3) := by decide +kernel
theorem dX6_tellDay_116 : decode cX6_tellDay 116 = .ok (.iload_n 2, 1) := by decide +kernel
theorem dX6_tellDay_117 : decode cX6_tellDay 117 = .ok (.ireturn, 1) := by decide +kernel
def f_X6_tellDay_j116 (N : Nat) (x2 : Int32) (σ : St) : Option Int32 :=
  some x2
def f_X6_tellDay_j109 (N : Nat) (x3 : Int32) (y0 : Int32) (σ : St) : Option ((Int32 × Int32) ⊕ ((Int32))) :=
  nm (x3 + (1 : Int32)) fun x3_1 =>
  some (.inl (y0, x3_1))
def f_X6_tellDay_b83 (N : Nat) (x2 : Int32) (x3 : Int32) (σ : St) : Option ((Int32 × Int32) ⊕ ((Int32))) :=
  if (σ.1 0 2) ≤ x3 then (some (.inr x2))
  else bd (f_X6_manyWithin N x3 σ) fun r_3 =>
  if r_3 ≤ x2 then (f_X6_tellDay_j109 N x3 x2 σ)
  else bd (f_X6_manyWithin N x3 σ) fun r_6 =>
  f_X6_tellDay_j109 N x3 r_6 σ
def f_X6_tellDay (N : Nat) (x1 : Int32) (σ : St) : Option Int32 :=
  if x1 < (10 : Int32) then (if x1 = (0 : Int32) then (bd (f_X6_onTable N σ) fun r_10 =>
      some r_10)
    else if x1 = (1 : Int32) then (bd (lpF (fun s => f_X6_tellDay_b83 N s.1 s.2 σ) N ((0 : Int32), (0 : Int32))) (fun o => f_X6_tellDay_j116 N o σ))
    else if x1 = (2 : Int32) then (some (σ.1 0 4))
    else if x1 = (3 : Int32) then (bd (f_X6_handSet N σ) fun r_15 =>
      some r_15)
    else bd (lpF (fun s => f_X6_tellDay_b83 N s.1 s.2 σ) N ((0 : Int32), (0 : Int32))) (fun o => f_X6_tellDay_j116 N o σ))
  else bd (f_X6_isDoll (x1 - (10 : Int32)) σ) fun r_17 =>
  if r_17 = 0 then (some (-9 : Int32))
  else gd (ck (x1 - (10 : Int32)) 4) <|
  some (σ.1 7 (x1 - (10 : Int32)).toNatClampNeg)
abbrev rmX6_tellDay : Room := { frames := 3, cells := 0, slots := 0, locals := 66 }
set_option maxRecDepth 100000 in
set_option maxHeartbeats 4000000 in
theorem c_X6_tellDay (l : Launch) (D : va_G) (a : Nat → Nat) (c : Nat → ClassId) (A : Nat → Prop) (hD : ∀ σ, va_D A (mW a c σ)) (N : Nat) (x1 : Int32) (σ : St) (r : Int32) (hf : f_X6_tellDay N x1 σ = some r) : MetI l yX6_tellDay cX6_tellDay 4 (some .int) rmX6_tellDay (mW a c) D c A [.ref (a 0), .int x1] σ r σ := by
  refine mkI (by decide) (Nat.le_of_ble_eq_true rfl) rfl ?_
  intro p e s m args below meth cd Q ls h0 hK hP hret hl
  obtain ⟨S, hr, hlk⟩ := h0
  obtain ⟨hx, hb, hml, hown, ht⟩ := id S
  have hS : va_S A s.heap s.heap [] := va_S.rf
  have hl : lv_has ls 4 [(0, .ref (a 0)), (1, .int x1)] := hl
  have hf := obs hf
  have j116 : ∀ (x2 : Int32) (H : Heap) (locs : List Loc) (ls : Array Slot), lv_has ls 4 [(2, .int x2)] → va_P D vwCl (mW a c σ) H → va_S A s.heap H locs → Option.bind (f_X6_tellDay_j116 N x2 σ) some = some r → W p l e rmX6_tellDay s m args below meth cd H locs 0 0 Q (F0 m 116 ls []) := by
    intro x2 H locs ls hl hP hS hf
    have hf := oun (f_X6_tellDay_j116.eq_1 _ _ _) hf
    refine lv_iload_n hx hb dX6_tellDay_116 rfl (lv_at hl 0 rfl) ?_
    exact hret _ _ _ _ _ _ dX6_tellDay_117 rfl hP hS ⟨Option.some.inj hf, rfl⟩
  have L83 : ∀ (k : Nat) (x2 : Int32) (x3 : Int32) (H : Heap) (locs : List Loc) (ls : Array Slot), lv_has ls 4 [(0, .ref (a 0)), (2, .int x2), (3, .int x3)] → va_P D vwCl (mW a c σ) H → va_S A s.heap H locs → Option.bind (bd (lpF (fun s => f_X6_tellDay_b83 N s.1 s.2 σ) k (x2, x3)) (fun o => f_X6_tellDay_j116 N o σ)) some = some r → W p l e rmX6_tellDay s m args below meth cd H locs 0 0 Q (F0 m 83 ls []) := by
    intro k
    induction k with
    | zero =>
      intro x2 x3 H locs ls hl hP hS hf
      exact (ol0 hf).elim
    | succ k ih =>
      intro x2 x3 H locs ls hl hP hS hf
      obtain ⟨K83, hf, hc83, hx83⟩ := ol1 hf
      have j109 : ∀ (x3 : Int32) (y0 : Int32) (H : Heap) (locs : List Loc) (ls : Array Slot), lv_has ls 4 [(0, .ref (a 0)), (3, .int x3)] → va_P D vwCl (mW a c σ) H → va_S A s.heap H locs → Option.bind (f_X6_tellDay_j109 N x3 y0 σ) K83 = some r → W p l e rmX6_tellDay s m args below meth cd H locs 0 0 Q (F0 m 109 ls [.int y0]) := by
        intro x3 y0 H locs ls hl hP hS hf
        have hf := oun (f_X6_tellDay_j109.eq_1 _ _ _ _) hf
        refine lv_istore_n (lv' := [(2, .int y0), (0, .ref (a 0)), (3, .int x3)]) hx hb dX6_tellDay_109 rfl hl (by decide) rfl (fun ls hl => ?_)
        obtain ⟨x3_1, ex3_1, hf⟩ := onm hf
        refine lv_iinc (v := x3_1) (lv' := [(3, .int x3_1), (2, .int y0), (0, .ref (a 0))]) hx hb dX6_tellDay_110 hl (k := 2) rfl ex3_1 (by decide) rfl (fun ls hl => ?_)
        refine lv_goto (tgt := 83) hx hb dX6_tellDay_113 (by decide) ?_
        exact ih y0 x3_1 _ _ _ (lv_sub hl [2, 1, 0] rfl) hP hS (okx hf (hc83 _))
      have hf := oun (f_X6_tellDay_b83.eq_1 N x2 x3 σ) hf
      refine lv_iload_n hx hb dX6_tellDay_83 rfl (lv_at hl 2 rfl) ?_
      refine lv_aload_n hx hb dX6_tellDay_84 rfl (lv_at hl 0 rfl) ?_
      refine va_get (D := D) (ci := 4) (v := .int (σ.1 0 2)) (C := RX6) (T := TX6) (N := 27) hx hb ht gX6 hown hK.1 hP 0 (mw0 a c σ) rfl 5 (by decide) (ht _ q139) (fun _ h9 => h9) rfl dX6_tellDay_85 ?_
      refine lv_icmp_ge (tgt := 116) hx hb dX6_tellDay_88 (by decide) (fun c_2 => ?_) (fun c_2 => ?_)
      · have hf := oit c_2 hf
        exact j116 x2 _ _ _ (lv_sub hl [1] rfl) hP hS (okx hf (hx83 _))
      have hf := oif c_2 hf
      refine lv_aload_n hx hb dX6_tellDay_91 rfl (lv_at hl 0 rfl) ?_
      refine lv_iload_n hx hb dX6_tellDay_92 rfl (lv_at hl 2 rfl) ?_
      obtain ⟨r_3, h_4, hf⟩ := obd hf
      refine xv_I (As := [.int x3]) (rest := []) S k_X6_manyWithin q245 q246 q247 ⟨Nat.le_of_ble_eq_true rfl, Nat.le_of_ble_eq_true rfl⟩ ⟨rfl, rfl⟩ (c_X6_manyWithin l D a c A hD N x3 σ r_3 h_4) hK hP hS (va_recv hK.1 hP (rfl : vwCl[4]? = some (RX6, TX6, 27)) (mw0 a c σ)) rfl hl.1 rfl (Nat.le_of_ble_eq_true rfl) dX6_tellDay_93 ⟨Nat.zero_le _, Nat.zero_le _⟩ (fun H locs hP hS => ?_)
      refine lv_iload_n hx hb dX6_tellDay_96 rfl (lv_at hl 1 rfl) ?_
      refine lv_icmp_le (tgt := 108) hx hb dX6_tellDay_97 (by decide) (fun c_5 => ?_) (fun c_5 => ?_)
      · have hf := oit c_5 hf
        refine lv_iload_n hx hb dX6_tellDay_108 rfl (lv_at hl 1 rfl) ?_
        exact j109 x3 x2 _ _ _ (lv_sub hl [0, 2] rfl) hP hS hf
      have hf := oif c_5 hf
      refine lv_aload_n hx hb dX6_tellDay_100 rfl (lv_at hl 0 rfl) ?_
      refine lv_iload_n hx hb dX6_tellDay_101 rfl (lv_at hl 2 rfl) ?_
      obtain ⟨r_6, h_7, hf⟩ := obd hf
      refine xv_I (As := [.int x3]) (rest := []) S k_X6_manyWithin q245 q246 q247 ⟨Nat.le_of_ble_eq_true rfl, Nat.le_of_ble_eq_true rfl⟩ ⟨rfl, rfl⟩ (c_X6_manyWithin l D a c A hD N x3 σ r_6 h_7) hK hP hS (va_recv hK.1 hP (rfl : vwCl[4]? = some (RX6, TX6, 27)) (mw0 a c σ)) rfl hl.1 rfl (Nat.le_of_ble_eq_true rfl) dX6_tellDay_102 ⟨Nat.zero_le _, Nat.zero_le _⟩ (fun H locs hP hS => ?_)
      refine lv_goto (tgt := 109) hx hb dX6_tellDay_105 (by decide) ?_
      exact j109 x3 r_6 _ _ _ (lv_sub hl [0, 2] rfl) hP hS hf
  have hf := oun (f_X6_tellDay.eq_1 _ _ _) hf
  refine lv_iload_n hx hb dX6_tellDay_0 rfl (lv_at hl 1 rfl) ?_
  refine lv_bipush (v := (10 : Int32)) hx hb dX6_tellDay_1 (by decide) ?_
  refine lv_icmp_lt (tgt := 32) hx hb dX6_tellDay_3 (by decide) (fun c_8 => ?_) (fun c_8 => ?_)
  · have hf := oit c_8 hf
    refine lv_iload_n hx hb dX6_tellDay_32 rfl (lv_at hl 1 rfl) ?_
    by_cases c_9 : x1 = (0 : Int32)
    · have hf := oit c_9 hf
      refine lv_tableIn (tgt := 64) (off := 31) hx hb dX6_tellDay_33 (by rw [c_9]; decide) (by rw [c_9]; decide) (by rw [c_9]; decide) (by decide) ?_
      refine lv_aload_n hx hb dX6_tellDay_64 rfl (lv_at hl 0 rfl) ?_
      obtain ⟨r_10, h_11, hf⟩ := obd hf
      refine xv_I (As := []) (rest := []) S k_X6_onTable q346 q347 q348 ⟨Nat.le_of_ble_eq_true rfl, Nat.le_of_ble_eq_true rfl⟩ ⟨rfl, rfl⟩ (c_X6_onTable l D a c A hD N σ r_10 h_11) hK hP hS (va_recv hK.1 hP (rfl : vwCl[4]? = some (RX6, TX6, 27)) (mw0 a c σ)) rfl hl.1 rfl (Nat.le_of_ble_eq_true rfl) dX6_tellDay_65 ⟨Nat.zero_le _, Nat.zero_le _⟩ (fun H locs hP hS => ?_)
      exact hret _ _ _ _ _ _ dX6_tellDay_68 rfl hP hS ⟨Option.some.inj hf, rfl⟩
    have hf := oif c_9 hf
    by_cases c_12 : x1 = (1 : Int32)
    · have hf := oit c_12 hf
      refine lv_tableIn (tgt := 79) (off := 46) hx hb dX6_tellDay_33 (by rw [c_12]; decide) (by rw [c_12]; decide) (by rw [c_12]; decide) (by decide) ?_
      refine lv_iconst (v := (0 : Int32)) hx hb dX6_tellDay_79 (by decide) ?_
      refine lv_istore_n (lv' := [(2, .int (0 : Int32)), (0, .ref (a 0)), (1, .int x1)]) hx hb dX6_tellDay_80 rfl hl (by decide) rfl (fun ls hl => ?_)
      refine lv_iconst (v := (0 : Int32)) hx hb dX6_tellDay_81 (by decide) ?_
      refine lv_istore_n (lv' := [(3, .int (0 : Int32)), (2, .int (0 : Int32)), (0, .ref (a 0)), (1, .int x1)]) hx hb dX6_tellDay_82 rfl hl (by decide) rfl (fun ls hl => ?_)
      exact L83 N (0 : Int32) (0 : Int32) _ _ _ (lv_sub hl [2, 1, 0] rfl) hP hS hf
    have hf := oif c_12 hf
    by_cases c_13 : x1 = (2 : Int32)
    · have hf := oit c_13 hf
      refine lv_tableIn (tgt := 69) (off := 36) hx hb dX6_tellDay_33 (by rw [c_13]; decide) (by rw [c_13]; decide) (by rw [c_13]; decide) (by decide) ?_
      refine lv_aload_n hx hb dX6_tellDay_69 rfl (lv_at hl 0 rfl) ?_
      refine va_get (D := D) (ci := 4) (v := .int (σ.1 0 4)) (C := RX6) (T := TX6) (N := 27) hx hb ht gX6 hown hK.1 hP 0 (mw0 a c σ) rfl 11 (by decide) (ht _ q140) (fun _ h9 => h9) rfl dX6_tellDay_70 ?_
      exact hret _ _ _ _ _ _ dX6_tellDay_73 rfl hP hS ⟨Option.some.inj hf, rfl⟩
    have hf := oif c_13 hf
    by_cases c_14 : x1 = (3 : Int32)
    · have hf := oit c_14 hf
      refine lv_tableIn (tgt := 74) (off := 41) hx hb dX6_tellDay_33 (by rw [c_14]; decide) (by rw [c_14]; decide) (by rw [c_14]; decide) (by decide) ?_
      refine lv_aload_n hx hb dX6_tellDay_74 rfl (lv_at hl 0 rfl) ?_
      obtain ⟨r_15, h_16, hf⟩ := obd hf
      refine xv_I (As := []) (rest := []) S k_X6_handSet q415 q416 q417 ⟨Nat.le_of_ble_eq_true rfl, Nat.le_of_ble_eq_true rfl⟩ ⟨rfl, rfl⟩ (c_X6_handSet l D a c A hD N σ r_15 h_16) hK hP hS (va_recv hK.1 hP (rfl : vwCl[4]? = some (RX6, TX6, 27)) (mw0 a c σ)) rfl hl.1 rfl (Nat.le_of_ble_eq_true rfl) dX6_tellDay_75 ⟨Nat.zero_le _, Nat.zero_le _⟩ (fun H locs hP hS => ?_)
      exact hret _ _ _ _ _ _ dX6_tellDay_78 rfl hP hS ⟨Option.some.inj hf, rfl⟩
    have hf := oif c_14 hf
    refine lv_tableOut (tgt := 79) hx hb dX6_tellDay_33 (by have z0 := lv_neT c_9 (a := 0) rfl; have z1 := lv_neT c_12 (a := 1) rfl; have z2 := lv_neT c_13 (a := 2) rfl; have z3 := lv_neT c_14 (a := 3) rfl; omega) (by decide) ?_
    refine lv_iconst (v := (0 : Int32)) hx hb dX6_tellDay_79 (by decide) ?_
    refine lv_istore_n (lv' := [(2, .int (0 : Int32)), (0, .ref (a 0)), (1, .int x1)]) hx hb dX6_tellDay_80 rfl hl (by decide) rfl (fun ls hl => ?_)
    refine lv_iconst (v := (0 : Int32)) hx hb dX6_tellDay_81 (by decide) ?_
    refine lv_istore_n (lv' := [(3, .int (0 : Int32)), (2, .int (0 : Int32)), (0, .ref (a 0)), (1, .int x1)]) hx hb dX6_tellDay_82 rfl hl (by decide) rfl (fun ls hl => ?_)
    exact L83 N (0 : Int32) (0 : Int32) _ _ _ (lv_sub hl [2, 1, 0] rfl) hP hS hf
  have hf := oif c_8 hf
  refine lv_aload_n hx hb dX6_tellDay_6 rfl (lv_at hl 0 rfl) ?_
  refine lv_iload_n hx hb dX6_tellDay_7 rfl (lv_at hl 1 rfl) ?_
  refine lv_bipush (v := (10 : Int32)) hx hb dX6_tellDay_8 (by decide) ?_
  refine lv_isub hx hb dX6_tellDay_10 ?_
  obtain ⟨r_17, h_18, hf⟩ := obd hf
  refine xv_I (As := [.int (x1 - (10 : Int32))]) (rest := []) S k_X6_isDoll q226 q227 q228 ⟨Nat.le_of_ble_eq_true rfl, Nat.le_of_ble_eq_true rfl⟩ ⟨rfl, rfl⟩ (c_X6_isDoll l D a c A hD (x1 - (10 : Int32)) σ r_17 h_18) hK hP hS (va_recv hK.1 hP (rfl : vwCl[4]? = some (RX6, TX6, 27)) (mw0 a c σ)) rfl hl.1 rfl (Nat.le_of_ble_eq_true rfl) dX6_tellDay_11 ⟨Nat.zero_le _, Nat.zero_le _⟩ (fun H locs hP hS => ?_)
  refine lv_if_eq (tgt := 29) hx hb dX6_tellDay_14 (by decide) (fun c_19 => ?_) (fun c_19 => ?_)
  · have hf := oit c_19 hf
    refine lv_bipush (v := (-9 : Int32)) hx hb dX6_tellDay_29 (by decide) ?_
    exact hret _ _ _ _ _ _ dX6_tellDay_31 rfl hP hS ⟨Option.some.inj hf, rfl⟩
  have hf := oif c_19 hf
  refine lv_aload_n hx hb dX6_tellDay_17 rfl (lv_at hl 0 rfl) ?_
  refine va_get (D := D) (ci := 4) (v := .ref (a 7)) (C := RX6) (T := TX6) (N := 27) hx hb ht gX6 hown hK.1 hP 0 (mw0 a c σ) rfl 10 (by decide) (ht _ q56) (fun _ h9 => h9) rfl dX6_tellDay_18 ?_
  refine lv_iload_n hx hb dX6_tellDay_21 rfl (lv_at hl 1 rfl) ?_
  refine lv_bipush (v := (10 : Int32)) hx hb dX6_tellDay_22 (by decide) ?_
  refine lv_isub hx hb dX6_tellDay_24 ?_
  obtain ⟨g_20, hf⟩ := ogd hf
  refine va_iald hx hb hK.1 hP 7 0 (mw7 a c σ) rfl (ck_in g_20) dX6_tellDay_25 ?_
  refine lv_goto (tgt := 31) hx hb dX6_tellDay_26 (by decide) ?_
  exact hret _ _ _ _ _ _ dX6_tellDay_31 rfl hP hS ⟨Option.some.inj hf, rfl⟩
theorem dX6_day_0 : decode cX6_day 0 = .ok (.aload_n 0, 1) := by decide +kernel
theorem dX6_day_1 : decode cX6_day 1 = .ok (.iconst 0, 1) := by decide +kernel
theorem dX6_day_2 : decode cX6_day 2 = .ok (.putfield 65, 3) := by decide +kernel
theorem dX6_day_5 : decode cX6_day 5 = .ok (.iload_n 1, 1) := by decide +kernel
theorem dX6_day_6 : decode cX6_day 6 = .ok (.invokestatic 85, 3) := by decide +kernel
theorem dX6_day_9 : decode cX6_day 9 = .ok (.ifCond .ne 5, 3) := by decide +kernel
theorem dX6_day_12 : decode cX6_day 12 = .ok (.iconst (-1), 1) := by decide +kernel
theorem dX6_day_13 : decode cX6_day 13 = .ok (.ireturn, 1) := by decide +kernel
theorem dX6_day_14 : decode cX6_day 14 = .ok (.iload_n 2, 1) := by decide +kernel
theorem dX6_day_15 : decode cX6_day 15 = .ok (.invokestatic 88, 3) := by decide +kernel
theorem dX6_day_18 : decode cX6_day 18 = .ok (.ifCond .eq 36, 3) := by decide +kernel
theorem dX6_day_21 : decode cX6_day 21 = .ok (.iload 4, 2) := by decide +kernel
theorem dX6_day_23 : decode cX6_day 23 = .ok (.iconst 0, 1) := by decide +kernel
theorem dX6_day_24 : decode cX6_day 24 = .ok (.bipush 20, 2) := by decide +kernel
theorem dX6_day_26 : decode cX6_day 26 = .ok (.invokestatic 71, 3) := by decide +kernel
theorem dX6_day_29 : decode cX6_day 29 = .ok (.ifCond .eq 25, 3) := by decide +kernel
theorem dX6_day_32 : decode cX6_day 32 = .ok (.iload 5, 2) := by decide +kernel
theorem dX6_day_34 : decode cX6_day 34 = .ok (.iconst 0, 1) := by decide +kernel
theorem dX6_day_35 : decode cX6_day 35 = .ok (.iconst 4, 1) := by decide +kernel
theorem dX6_day_36 : decode cX6_day 36 = .ok (.invokestatic 71, 3) := by decide +kernel
theorem dX6_day_39 : decode cX6_day 39 = .ok (.ifCond .ne 18, 3) := by decide +kernel
theorem dX6_day_42 : decode cX6_day 42 = .ok (.iload 5, 2) := by decide +kernel
theorem dX6_day_44 : decode cX6_day 44 = .ok (.bipush 10, 2) := by decide +kernel
theorem dX6_day_46 : decode cX6_day 46 = .ok (.bipush 13, 2) := by decide +kernel
theorem dX6_day_48 : decode cX6_day 48 = .ok (.invokestatic 71, 3) := by decide +kernel
theorem dX6_day_51 : decode cX6_day 51 = .ok (.ifCond .ne 6, 3) := by decide +kernel
theorem dX6_day_54 : decode cX6_day 54 = .ok (.bipush (-2), 2) := by decide +kernel
theorem dX6_day_56 : decode cX6_day 56 = .ok (.ireturn, 1) := by decide +kernel
theorem dX6_day_57 : decode cX6_day 57 = .ok (.aload_n 0, 1) := by decide +kernel
theorem dX6_day_58 : decode cX6_day 58 = .ok (.iload_n 1, 1) := by decide +kernel
theorem dX6_day_59 : decode cX6_day 59 = .ok (.iload_n 2, 1) := by decide +kernel
theorem dX6_day_60 : decode cX6_day 60 = .ok (.iload_n 3, 1) := by decide +kernel
theorem dX6_day_61 : decode cX6_day 61 = .ok (.iload 4, 2) := by decide +kernel
theorem dX6_day_63 : decode cX6_day 63 = .ok (.invokevirtual 91, 3) := by decide +kernel
theorem dX6_day_66 : decode cX6_day 66 = .ok (.istore 6, 2) := by decide +kernel
theorem dX6_day_68 : decode cX6_day 68 = .ok (.iload 6, 2) := by decide +kernel
theorem dX6_day_70 : decode cX6_day 70 = .ok (.ifCond .eq 10, 3) := by decide +kernel
theorem dX6_day_73 : decode cX6_day 73 = .ok (.aload_n 0, 1) := by decide +kernel
theorem dX6_day_74 : decode cX6_day 74 = .ok (.iload 6, 2) := by decide +kernel
theorem dX6_day_76 : decode cX6_day 76 = .ok (.invokevirtual 95, 3) := by decide +kernel
theorem dX6_day_79 : decode cX6_day 79 = .ok (.ireturn, 1) := by decide +kernel
theorem dX6_day_80 : decode cX6_day 80 = .ok (.aload_n 0, 1) := by decide +kernel
theorem dX6_day_81 : decode cX6_day 81 = .ok (.getfield 75, 3) := by decide +kernel
theorem dX6_day_84 : decode cX6_day 84 = .ok (.ifCond .ne 6, 3) := by decide +kernel
theorem dX6_day_87 : decode cX6_day 87 = .ok (.bipush (-3), 2) := by decide +kernel
theorem dX6_day_89 : decode cX6_day 89 = .ok (.ireturn, 1) := by decide +kernel
theorem dX6_day_90 : decode cX6_day 90 = .ok (.bipush 60, 2) := by decide +kernel
theorem dX6_day_92 : decode cX6_day 92 = .ok (.iload_n 1, 1) := by decide +kernel
theorem dX6_day_93 : decode cX6_day 93 = .ok (.imul, 1) := by decide +kernel
theorem dX6_day_94 : decode cX6_day 94 = .ok (.iload_n 3, 1) := by decide +kernel
theorem dX6_day_95 : decode cX6_day 95 = .ok (.iadd, 1) := by decide +kernel
theorem dX6_day_96 : decode cX6_day 96 = .ok (.istore 7, 2) := by decide +kernel
theorem dX6_day_98 : decode cX6_day 98 = .ok (.iconst 0, 1) := by decide +kernel
theorem dX6_day_99 : decode cX6_day 99 = .ok (.istore 8, 2) := by decide +kernel
theorem dX6_day_101 : decode cX6_day 101 = .ok (.iload 8, 2) := by decide +kernel
theorem dX6_day_103 : decode cX6_day 103 = .ok (.iload 4, 2) := by decide +kernel
theorem dX6_day_105 : decode cX6_day 105 = .ok (.if_icmp .ge 31, 3) := by decide +kernel
theorem dX6_day_108 : decode cX6_day 108 = .ok (.aload_n 0, 1) := by decide +kernel
theorem dX6_day_109 : decode cX6_day 109 = .ok (.getfield 16, 3) := by decide +kernel
theorem dX6_day_112 : decode cX6_day 112 = .ok (.iload 7, 2) := by decide +kernel
theorem dX6_day_114 : decode cX6_day 114 = .ok (.iload 8, 2) := by decide +kernel
theorem dX6_day_116 : decode cX6_day 116 = .ok (.iadd, 1) := by decide +kernel
theorem dX6_day_117 : decode cX6_day 117 = .ok (.iaload, 1) := by decide +kernel
theorem dX6_day_118 : decode cX6_day 118 = .ok (.iconst 0, 1) := by decide +kernel
theorem dX6_day_119 : decode cX6_day 119 = .ok (.bipush 27, 2) := by decide +kernel
theorem dX6_day_121 : decode cX6_day 121 = .ok (.invokestatic 71, 3) := by decide +kernel
theorem dX6_day_124 : decode cX6_day 124 = .ok (.ifCond .ne 6, 3) := by decide +kernel
theorem dX6_day_127 : decode cX6_day 127 = .ok (.bipush (-2), 2) := by decide +kernel
theorem dX6_day_129 : decode cX6_day 129 = .ok (.ireturn, 1) := by decide +kernel
theorem dX6_day_130 : decode cX6_day 130 = .ok (.iinc 8 1, 3) := by decide +kernel
theorem dX6_day_133 : decode cX6_day 133 = .ok (.goto (-32), 3) := by decide +kernel
theorem dX6_day_136 : decode cX6_day 136 = .ok (.aload_n 0, 1) := by decide +kernel
theorem dX6_day_137 : decode cX6_day 137 = .ok (.invokevirtual 157, 3) := by decide +kernel
theorem dX6_day_140 : decode cX6_day 140 = .ok (.istore 8, 2) := by decide +kernel
theorem dX6_day_142 : decode cX6_day 142 = .ok (.aload_n 0, 1) := by decide +kernel
theorem dX6_day_143 : decode cX6_day 143 = .ok (.iload 7, 2) := by decide +kernel
theorem dX6_day_145 : decode cX6_day 145 = .ok (.iload 4, 2) := by decide +kernel
theorem dX6_day_147 : decode cX6_day 147 = .ok (.invokevirtual 160, 3) := by decide +kernel
theorem dX6_day_150 : decode cX6_day 150 = .ok (.istore 9, 2) := by decide +kernel
theorem dX6_day_152 : decode cX6_day 152 = .ok (.aload_n 0, 1) := by decide +kernel
theorem dX6_day_153 : decode cX6_day 153 = .ok (.iload 5, 2) := by decide +kernel
theorem dX6_day_155 : decode cX6_day 155 = .ok (.invokevirtual 164, 3) := by decide +kernel
theorem dX6_day_158 : decode cX6_day 158 = .ok (.istore 10, 2) := by decide +kernel
theorem dX6_day_160 : decode cX6_day 160 = .ok (.aload_n 0, 1) := by decide +kernel
theorem dX6_day_161 : decode cX6_day 161 = .ok (.iload 8, 2) := by decide +kernel
theorem dX6_day_163 : decode cX6_day 163 = .ok (.invokevirtual 167, 3) := by decide +kernel
theorem dX6_day_166 : decode cX6_day 166 = .ok (.iload 5, 2) := by decide +kernel
theorem dX6_day_168 : decode cX6_day 168 = .ok (.iconst 1, 1) := by decide +kernel
theorem dX6_day_169 : decode cX6_day 169 = .ok (.if_icmp .ne 8, 3) := by decide +kernel
theorem dX6_day_172 : decode cX6_day 172 = .ok (.iload 9, 2) := by decide +kernel
theorem dX6_day_174 : decode cX6_day 174 = .ok (.goto 20, 3) := by decide +kernel
theorem dX6_day_177 : decode cX6_day 177 = .ok (.iload 9, 2) := by decide +kernel
theorem dX6_day_179 : decode cX6_day 179 = .ok (.bipush (-9), 2) := by decide +kernel
theorem dX6_day_181 : decode cX6_day 181 = .ok (.if_icmp .ne 8, 3) := by decide +kernel
theorem dX6_day_184 : decode cX6_day 184 = .ok (.iload 10, 2) := by decide +kernel
theorem dX6_day_186 : decode cX6_day 186 = .ok (.goto 8, 3) := by decide +kernel
theorem dX6_day_189 : decode cX6_day 189 = .ok (.bipush (-100), 2) := by decide +kernel
theorem dX6_day_191 : decode cX6_day 191 = .ok (.iload 9, 2) := by decide +kernel
theorem dX6_day_193 : decode cX6_day 193 = .ok (.isub, 1) := by decide +kernel
theorem dX6_day_194 : decode cX6_day 194 = .ok (.ireturn, 1) := by decide +kernel
def f_X6_day_j136 (N : Nat) (x4 : Int32) (x5 : Int32) (x7 : Int32) (σ : St) : Option (Int32 × St) :=
  bd (f_X6_nestNow N σ) fun r_1 =>
  bd2 (f_X6_goDay N x7 x4 σ) fun r_3 σ_4 =>
  bd (f_X6_tellDay N x5 σ_4) fun r_6 =>
  bd (f_X6_becomeNest N r_1 σ_4) fun σ_8 =>
  if x5 = (1 : Int32) then (some (r_3, σ_8))
  else if r_3 = (-9 : Int32) then (some (r_6, σ_8))
    else some (((-100 : Int32) - r_3), σ_8)
def f_X6_day_b101 (N : Nat) (x4 : Int32) (x5 : Int32) (x7 : Int32) (x8 : Int32) (σ : St) : Option ((Int32) ⊕ ((Int32 × St) ⊕ (Unit))) :=
  if x4 ≤ x8 then (some (.inr (.inr ())))
  else gd (ck (x7 + x8) 240) <|
  bd (f_X6_within (σ.1 3 (x7 + x8).toNatClampNeg) (0 : Int32) (27 : Int32)) fun r_14 =>
  if r_14 = 0 then (some (.inr (.inl ((-2 : Int32), σ))))
  else nm (x8 + (1 : Int32)) fun x8_17 =>
    some (.inl x8_17)
def f_X6_day_j57 (N : Nat) (x1 : Int32) (x2 : Int32) (x3 : Int32) (x4 : Int32) (x5 : Int32) (σ : St) : Option (Int32 × St) :=
  bd (f_X6_against x1 x2 x3 x4 σ) fun r_18 =>
  if r_18 = 0 then (if (σ.1 0 2) = 0 then (some ((-3 : Int32), σ))
    else nm (((60 : Int32) * x1) + x3) fun x7_22 =>
      bd (lpF (fun s => f_X6_day_b101 N x4 x5 x7_22 s σ) N (0 : Int32)) (Sum.elim (fun v => some v) (fun o => f_X6_day_j136 N x4 x5 x7_22 σ)))
  else bd2 (f_X6_fails r_18 σ) fun r_23 σ_24 =>
  some (r_23, σ_24)
def f_X6_day (N : Nat) (x1 : Int32) (x2 : Int32) (x3 : Int32) (x4 : Int32) (x5 : Int32) (σ : St) : Option (Int32 × St) :=
  nm (wS σ 0 0 (0 : Int32)) fun σ_26 =>
  bd (f_X6_isSheet x1) fun r_27 =>
  if r_27 = 0 then (some ((-1 : Int32), σ_26))
  else bd (f_X6_isSort x2) fun r_30 =>
    if r_30 = 0 then (some ((-2 : Int32), σ_26))
    else bd (f_X6_within x4 (0 : Int32) (20 : Int32)) fun r_33 =>
    if r_33 = 0 then (some ((-2 : Int32), σ_26))
    else bd (f_X6_within x5 (0 : Int32) (4 : Int32)) fun r_36 =>
    if r_36 = 0 then (bd (f_X6_within x5 (10 : Int32) (13 : Int32)) fun r_39 =>
      if r_39 = 0 then (some ((-2 : Int32), σ_26))
      else f_X6_day_j57 N x1 x2 x3 x4 x5 σ_26)
    else f_X6_day_j57 N x1 x2 x3 x4 x5 σ_26
abbrev rmX6_day : Room := { frames := 4, cells := 0, slots := 0, locals := 90 }
set_option maxRecDepth 100000 in
set_option maxHeartbeats 4000000 in
theorem c_X6_day (l : Launch) (D : va_G) (a : Nat → Nat) (c : Nat → ClassId) (A : Nat → Prop) (hD : ∀ σ, va_D A (mW a c σ)) (N : Nat) (x1 : Int32) (x2 : Int32) (x3 : Int32) (x4 : Int32) (x5 : Int32) (σ : St) (r : Int32) (u : St) (hf : f_X6_day N x1 x2 x3 x4 x5 σ = some (r, u)) : MetI l yX6_day cX6_day 11 (some .int) rmX6_day (mW a c) D c A [.ref (a 0), .int x1, .int x2, .int x3, .int x4, .int x5] σ r u := by
  refine mkI (by decide) (Nat.le_of_ble_eq_true rfl) rfl ?_
  intro p e s m args below meth cd Q ls h0 hK hP hret hl
  obtain ⟨S, hr, hlk⟩ := h0
  obtain ⟨hx, hb, hml, hown, ht⟩ := id S
  have hS : va_S A s.heap s.heap [] := va_S.rf
  have hl : lv_has ls 11 [(0, .ref (a 0)), (1, .int x1), (2, .int x2), (3, .int x3), (4, .int x4), (5, .int x5)] := hl
  have hf := obs hf
  have j136 : ∀ (x4 : Int32) (x5 : Int32) (x7 : Int32) (σ : St) (H : Heap) (locs : List Loc) (ls : Array Slot), lv_has ls 11 [(0, .ref (a 0)), (4, .int x4), (5, .int x5), (7, .int x7)] → va_P D vwCl (mW a c σ) H → va_S A s.heap H locs → Option.bind (f_X6_day_j136 N x4 x5 x7 σ) some = some (r, u) → W p l e rmX6_day s m args below meth cd H locs 0 0 Q (F0 m 136 ls []) := by
    intro x4 x5 x7 σ H locs ls hl hP hS hf
    have hf := oun (f_X6_day_j136.eq_1 _ _ _ _ _) hf
    refine lv_aload_n hx hb dX6_day_136 rfl (lv_at hl 0 rfl) ?_
    obtain ⟨r_1, h_2, hf⟩ := obd hf
    refine xv_I (As := []) (rest := []) S k_X6_nestNow q403 q404 q405 ⟨Nat.le_of_ble_eq_true rfl, Nat.le_of_ble_eq_true rfl⟩ ⟨rfl, rfl⟩ (c_X6_nestNow l D a c A hD N σ r_1 h_2) hK hP hS (va_recv hK.1 hP (rfl : vwCl[4]? = some (RX6, TX6, 27)) (mw0 a c σ)) rfl hl.1 rfl (Nat.le_of_ble_eq_true rfl) dX6_day_137 ⟨Nat.zero_le _, Nat.zero_le _⟩ (fun H locs hP hS => ?_)
    refine lv_istore (lv' := [(8, .int r_1), (0, .ref (a 0)), (4, .int x4), (5, .int x5), (7, .int x7)]) hx hb dX6_day_140 hl (by decide) rfl (fun ls hl => ?_)
    refine lv_aload_n hx hb dX6_day_142 rfl (lv_at hl 1 rfl) ?_
    refine lv_iload hx hb dX6_day_143 (lv_at hl 4 rfl) ?_
    refine lv_iload hx hb dX6_day_145 (lv_at hl 2 rfl) ?_
    obtain ⟨r_3, σ_4, h_5, hf⟩ := obd2 hf
    refine xv_I (As := [.int x7, .int x4]) (rest := []) S k_X6_goDay q407 q408 q409 ⟨Nat.le_of_ble_eq_true rfl, Nat.le_of_ble_eq_true rfl⟩ ⟨rfl, rfl⟩ (c_X6_goDay l D a c A hD N x7 x4 σ r_3 σ_4 h_5) hK hP hS (va_recv hK.1 hP (rfl : vwCl[4]? = some (RX6, TX6, 27)) (mw0 a c σ)) rfl hl.1 rfl (Nat.le_of_ble_eq_true rfl) dX6_day_147 ⟨Nat.zero_le _, Nat.zero_le _⟩ (fun H locs hP hS => ?_)
    refine lv_istore (lv' := [(9, .int r_3), (8, .int r_1), (0, .ref (a 0)), (4, .int x4), (5, .int x5), (7, .int x7)]) hx hb dX6_day_150 hl (by decide) rfl (fun ls hl => ?_)
    refine lv_aload_n hx hb dX6_day_152 rfl (lv_at hl 2 rfl) ?_
    refine lv_iload hx hb dX6_day_153 (lv_at hl 4 rfl) ?_
    obtain ⟨r_6, h_7, hf⟩ := obd hf
    refine xv_I (As := [.int x5]) (rest := []) S k_X6_tellDay q411 q412 q413 ⟨Nat.le_of_ble_eq_true rfl, Nat.le_of_ble_eq_true rfl⟩ ⟨rfl, rfl⟩ (c_X6_tellDay l D a c A hD N x5 σ_4 r_6 h_7) hK hP hS (va_recv hK.1 hP (rfl : vwCl[4]? = some (RX6, TX6, 27)) (mw0 a c σ_4)) rfl hl.1 rfl (Nat.le_of_ble_eq_true rfl) dX6_day_155 ⟨Nat.zero_le _, Nat.zero_le _⟩ (fun H locs hP hS => ?_)
    refine lv_istore (lv' := [(10, .int r_6), (9, .int r_3), (8, .int r_1), (0, .ref (a 0)), (4, .int x4), (5, .int x5), (7, .int x7)]) hx hb dX6_day_158 hl (by decide) rfl (fun ls hl => ?_)
    refine lv_aload_n hx hb dX6_day_160 rfl (lv_at hl 3 rfl) ?_
    refine lv_iload hx hb dX6_day_161 (lv_at hl 2 rfl) ?_
    obtain ⟨σ_8, h_9, hf⟩ := obd hf
    refine xv_V (As := [.int r_1]) (rest := []) S k_X6_becomeNest q419 q420 q421 ⟨Nat.le_of_ble_eq_true rfl, Nat.le_of_ble_eq_true rfl⟩ ⟨rfl, rfl⟩ (c_X6_becomeNest l D a c A hD N r_1 σ_4 σ_8 h_9) hK hP hS (va_recv hK.1 hP (rfl : vwCl[4]? = some (RX6, TX6, 27)) (mw0 a c σ_4)) rfl hl.1 rfl (Nat.le_of_ble_eq_true rfl) dX6_day_163 ⟨Nat.zero_le _, Nat.zero_le _⟩ (fun H locs hP hS => ?_)
    refine lv_iload hx hb dX6_day_166 (lv_at hl 5 rfl) ?_
    refine lv_iconst (v := (1 : Int32)) hx hb dX6_day_168 (by decide) ?_
    refine lv_icmp_ne (tgt := 177) hx hb dX6_day_169 (by decide) (fun c_10 => ?_) (fun c_10 => ?_)
    · have hf := oif c_10 hf
      refine lv_iload hx hb dX6_day_177 (lv_at hl 1 rfl) ?_
      refine lv_bipush (v := (-9 : Int32)) hx hb dX6_day_179 (by decide) ?_
      refine lv_icmp_ne (tgt := 189) hx hb dX6_day_181 (by decide) (fun c_11 => ?_) (fun c_11 => ?_)
      · have hf := oif c_11 hf
        refine lv_bipush (v := (-100 : Int32)) hx hb dX6_day_189 (by decide) ?_
        refine lv_iload hx hb dX6_day_191 (lv_at hl 1 rfl) ?_
        refine lv_isub hx hb dX6_day_193 ?_
        exact hret _ _ _ _ _ _ dX6_day_194 rfl hP hS (oret hf)
      have hf := oit c_11 hf
      refine lv_iload hx hb dX6_day_184 (lv_at hl 0 rfl) ?_
      refine lv_goto (tgt := 194) hx hb dX6_day_186 (by decide) ?_
      exact hret _ _ _ _ _ _ dX6_day_194 rfl hP hS (oret hf)
    have hf := oit c_10 hf
    refine lv_iload hx hb dX6_day_172 (lv_at hl 1 rfl) ?_
    refine lv_goto (tgt := 194) hx hb dX6_day_174 (by decide) ?_
    exact hret _ _ _ _ _ _ dX6_day_194 rfl hP hS (oret hf)
  have L101 : ∀ (x4 : Int32) (x5 : Int32) (x7 : Int32) (σ : St) (k : Nat) (x8 : Int32) (H : Heap) (locs : List Loc) (ls : Array Slot), lv_has ls 11 [(0, .ref (a 0)), (4, .int x4), (5, .int x5), (7, .int x7), (8, .int x8)] → va_P D vwCl (mW a c σ) H → va_S A s.heap H locs → Option.bind (bd (lpF (fun s => f_X6_day_b101 N x4 x5 x7 s σ) k x8) (Sum.elim (fun v => some v) (fun o => f_X6_day_j136 N x4 x5 x7 σ))) some = some (r, u) → W p l e rmX6_day s m args below meth cd H locs 0 0 Q (F0 m 101 ls []) := by
    intro x4 x5 x7 σ k
    induction k with
    | zero =>
      intro x8 H locs ls hl hP hS hf
      exact (ol0 hf).elim
    | succ k ih =>
      intro x8 H locs ls hl hP hS hf
      obtain ⟨K101, hf, hc101, hx101⟩ := ol1 hf
      have hf := oun (f_X6_day_b101.eq_1 N x4 x5 x7 x8 σ) hf
      refine lv_iload hx hb dX6_day_101 (lv_at hl 4 rfl) ?_
      refine lv_iload hx hb dX6_day_103 (lv_at hl 1 rfl) ?_
      refine lv_icmp_ge (tgt := 136) hx hb dX6_day_105 (by decide) (fun c_12 => ?_) (fun c_12 => ?_)
      · have hf := oit c_12 hf
        exact j136 x4 x5 x7 σ _ _ _ (lv_sub hl [0, 1, 2, 3] rfl) hP hS (okx hf (hx101 _))
      have hf := oif c_12 hf
      refine lv_aload_n hx hb dX6_day_108 rfl (lv_at hl 0 rfl) ?_
      refine va_get (D := D) (ci := 4) (v := .ref (a 3)) (C := RX6) (T := TX6) (N := 27) hx hb ht gX6 hown hK.1 hP 0 (mw0 a c σ) rfl 4 (by decide) (ht _ q52) (fun _ h9 => h9) rfl dX6_day_109 ?_
      refine lv_iload hx hb dX6_day_112 (lv_at hl 3 rfl) ?_
      refine lv_iload hx hb dX6_day_114 (lv_at hl 4 rfl) ?_
      refine lv_iadd hx hb dX6_day_116 ?_
      obtain ⟨g_13, hf⟩ := ogd hf
      refine va_iald hx hb hK.1 hP 3 0 (mw3 a c σ) rfl (ck_in g_13) dX6_day_117 ?_
      refine lv_iconst (v := (0 : Int32)) hx hb dX6_day_118 (by decide) ?_
      refine lv_bipush (v := (27 : Int32)) hx hb dX6_day_119 (by decide) ?_
      obtain ⟨r_14, h_15, hf⟩ := obd hf
      refine xs_S (As := [.int (σ.1 3 (x7 + x8).toNatClampNeg), .int (0 : Int32), .int (27 : Int32)]) (rest := []) S k_X6_within q146 q147 ⟨Nat.le_of_ble_eq_true rfl, Nat.le_of_ble_eq_true rfl⟩ ⟨rfl, rfl⟩ (c_X6_within l (σ.1 3 (x7 + x8).toNatClampNeg) (0 : Int32) (27 : Int32) r_14 h_15) hK.2 rfl hl.1 rfl (Nat.le_of_ble_eq_true rfl) dX6_day_121 ⟨Nat.zero_le _, Nat.zero_le _⟩ ?_
      refine lv_if_ne (tgt := 130) hx hb dX6_day_124 (by decide) (fun c_16 => ?_) (fun c_16 => ?_)
      · have hf := oif c_16 hf
        obtain ⟨x8_17, ex8_17, hf⟩ := onm hf
        refine lv_iinc (v := x8_17) (lv' := [(8, .int x8_17), (0, .ref (a 0)), (4, .int x4), (5, .int x5), (7, .int x7)]) hx hb dX6_day_130 hl (k := 4) rfl ex8_17 (by decide) rfl (fun ls hl => ?_)
        refine lv_goto (tgt := 101) hx hb dX6_day_133 (by decide) ?_
        exact ih x8_17 _ _ _ (lv_sub hl [1, 2, 3, 4, 0] rfl) hP hS (okx hf (hc101 _))
      have hf := oit c_16 hf
      refine lv_bipush (v := (-2 : Int32)) hx hb dX6_day_127 (by decide) ?_
      have hf := okx hf (hx101 _)
      exact hret _ _ _ _ _ _ dX6_day_129 rfl hP hS (oret hf)
  have j57 : ∀ (x1 : Int32) (x2 : Int32) (x3 : Int32) (x4 : Int32) (x5 : Int32) (σ : St) (H : Heap) (locs : List Loc) (ls : Array Slot), lv_has ls 11 [(0, .ref (a 0)), (1, .int x1), (2, .int x2), (3, .int x3), (4, .int x4), (5, .int x5)] → va_P D vwCl (mW a c σ) H → va_S A s.heap H locs → Option.bind (f_X6_day_j57 N x1 x2 x3 x4 x5 σ) some = some (r, u) → W p l e rmX6_day s m args below meth cd H locs 0 0 Q (F0 m 57 ls []) := by
    intro x1 x2 x3 x4 x5 σ H locs ls hl hP hS hf
    have hf := oun (f_X6_day_j57.eq_1 _ _ _ _ _ _ _) hf
    refine lv_aload_n hx hb dX6_day_57 rfl (lv_at hl 0 rfl) ?_
    refine lv_iload_n hx hb dX6_day_58 rfl (lv_at hl 1 rfl) ?_
    refine lv_iload_n hx hb dX6_day_59 rfl (lv_at hl 2 rfl) ?_
    refine lv_iload_n hx hb dX6_day_60 rfl (lv_at hl 3 rfl) ?_
    refine lv_iload hx hb dX6_day_61 (lv_at hl 4 rfl) ?_
    obtain ⟨r_18, h_19, hf⟩ := obd hf
    refine xv_I (As := [.int x1, .int x2, .int x3, .int x4]) (rest := []) S k_X6_against q152 q153 q154 ⟨Nat.le_of_ble_eq_true rfl, Nat.le_of_ble_eq_true rfl⟩ ⟨rfl, rfl⟩ (c_X6_against l D a c A hD x1 x2 x3 x4 σ r_18 h_19) hK hP hS (va_recv hK.1 hP (rfl : vwCl[4]? = some (RX6, TX6, 27)) (mw0 a c σ)) rfl hl.1 rfl (Nat.le_of_ble_eq_true rfl) dX6_day_63 ⟨Nat.zero_le _, Nat.zero_le _⟩ (fun H locs hP hS => ?_)
    refine lv_istore (lv' := [(6, .int r_18), (0, .ref (a 0)), (1, .int x1), (2, .int x2), (3, .int x3), (4, .int x4), (5, .int x5)]) hx hb dX6_day_66 hl (by decide) rfl (fun ls hl => ?_)
    refine lv_iload hx hb dX6_day_68 (lv_at hl 0 rfl) ?_
    refine lv_if_eq (tgt := 80) hx hb dX6_day_70 (by decide) (fun c_20 => ?_) (fun c_20 => ?_)
    · have hf := oit c_20 hf
      refine lv_aload_n hx hb dX6_day_80 rfl (lv_at hl 1 rfl) ?_
      refine va_get (D := D) (ci := 4) (v := .int (σ.1 0 2)) (C := RX6) (T := TX6) (N := 27) hx hb ht gX6 hown hK.1 hP 0 (mw0 a c σ) rfl 5 (by decide) (ht _ q139) (fun _ h9 => h9) rfl dX6_day_81 ?_
      refine lv_if_ne (tgt := 90) hx hb dX6_day_84 (by decide) (fun c_21 => ?_) (fun c_21 => ?_)
      · have hf := oif c_21 hf
        refine lv_bipush (v := (60 : Int32)) hx hb dX6_day_90 (by decide) ?_
        refine lv_iload_n hx hb dX6_day_92 rfl (lv_at hl 2 rfl) ?_
        refine lv_imul hx hb dX6_day_93 ?_
        refine lv_iload_n hx hb dX6_day_94 rfl (lv_at hl 4 rfl) ?_
        refine lv_iadd hx hb dX6_day_95 ?_
        obtain ⟨x7_22, ex7_22, hf⟩ := onm hf
        refine lv_nm ex7_22 ?_
        refine lv_istore (lv' := [(7, .int x7_22), (6, .int r_18), (0, .ref (a 0)), (1, .int x1), (2, .int x2), (3, .int x3), (4, .int x4), (5, .int x5)]) hx hb dX6_day_96 hl (by decide) rfl (fun ls hl => ?_)
        refine lv_iconst (v := (0 : Int32)) hx hb dX6_day_98 (by decide) ?_
        refine lv_istore (lv' := [(8, .int (0 : Int32)), (7, .int x7_22), (6, .int r_18), (0, .ref (a 0)), (1, .int x1), (2, .int x2), (3, .int x3), (4, .int x4), (5, .int x5)]) hx hb dX6_day_99 hl (by decide) rfl (fun ls hl => ?_)
        exact L101 x4 x5 x7_22 σ N (0 : Int32) _ _ _ (lv_sub hl [3, 7, 8, 1, 0] rfl) hP hS hf
      have hf := oit c_21 hf
      refine lv_bipush (v := (-3 : Int32)) hx hb dX6_day_87 (by decide) ?_
      exact hret _ _ _ _ _ _ dX6_day_89 rfl hP hS (oret hf)
    have hf := oif c_20 hf
    refine lv_aload_n hx hb dX6_day_73 rfl (lv_at hl 1 rfl) ?_
    refine lv_iload hx hb dX6_day_74 (lv_at hl 0 rfl) ?_
    obtain ⟨r_23, σ_24, h_25, hf⟩ := obd2 hf
    refine xv_I (As := [.int r_18]) (rest := []) S k_X6_fails q156 q157 q158 ⟨Nat.le_of_ble_eq_true rfl, Nat.le_of_ble_eq_true rfl⟩ ⟨rfl, rfl⟩ (c_X6_fails l D a c A hD r_18 σ r_23 σ_24 h_25) hK hP hS (va_recv hK.1 hP (rfl : vwCl[4]? = some (RX6, TX6, 27)) (mw0 a c σ)) rfl hl.1 rfl (Nat.le_of_ble_eq_true rfl) dX6_day_76 ⟨Nat.zero_le _, Nat.zero_le _⟩ (fun H locs hP hS => ?_)
    exact hret _ _ _ _ _ _ dX6_day_79 rfl hP hS (oret hf)
  have hf := oun (f_X6_day.eq_1 _ _ _ _ _ _ _) hf
  refine lv_aload_n hx hb dX6_day_0 rfl (lv_at hl 0 rfl) ?_
  refine lv_iconst (v := (0 : Int32)) hx hb dX6_day_1 (by decide) ?_
  refine va_put (D := D) (ci := 4) (v := .int (0 : Int32)) (ty := .int) (C := RX6) (T := TX6) (N := 27) hx hb ht gX6 tyX6 tyX6_ok nmX6 hown hK.1 hP (hD σ) hS 0 (mw0 a c σ) rfl 0 (by decide) (ht _ q136) (fun _ h9 => h9) rfl (by decide +kernel) rfl rfl (Nat.le_of_ble_eq_true rfl) dX6_day_2 (fun H locs hP _ hS => ?_)
  have hP := vP_eq (mpX6_fault a c σ (0 : Int32)) hP
  obtain ⟨σ_26, eσ_26, hf⟩ := onm hf
  rw [eσ_26] at hP
  refine lv_iload_n hx hb dX6_day_5 rfl (lv_at hl 1 rfl) ?_
  obtain ⟨r_27, h_28, hf⟩ := obd hf
  refine xs_S (As := [.int x1]) (rest := []) S k_X6_isSheet q143 q144 ⟨Nat.le_of_ble_eq_true rfl, Nat.le_of_ble_eq_true rfl⟩ ⟨rfl, rfl⟩ (c_X6_isSheet l x1 r_27 h_28) hK.2 rfl hl.1 rfl (Nat.le_of_ble_eq_true rfl) dX6_day_6 ⟨Nat.zero_le _, Nat.zero_le _⟩ ?_
  refine lv_if_ne (tgt := 14) hx hb dX6_day_9 (by decide) (fun c_29 => ?_) (fun c_29 => ?_)
  · have hf := oif c_29 hf
    refine lv_iload_n hx hb dX6_day_14 rfl (lv_at hl 2 rfl) ?_
    obtain ⟨r_30, h_31, hf⟩ := obd hf
    refine xs_S (As := [.int x2]) (rest := []) S k_X6_isSort q149 q150 ⟨Nat.le_of_ble_eq_true rfl, Nat.le_of_ble_eq_true rfl⟩ ⟨rfl, rfl⟩ (c_X6_isSort l x2 r_30 h_31) hK.2 rfl hl.1 rfl (Nat.le_of_ble_eq_true rfl) dX6_day_15 ⟨Nat.zero_le _, Nat.zero_le _⟩ ?_
    refine lv_if_eq (tgt := 54) hx hb dX6_day_18 (by decide) (fun c_32 => ?_) (fun c_32 => ?_)
    · have hf := oit c_32 hf
      refine lv_bipush (v := (-2 : Int32)) hx hb dX6_day_54 (by decide) ?_
      exact hret _ _ _ _ _ _ dX6_day_56 rfl hP hS (oret hf)
    have hf := oif c_32 hf
    refine lv_iload hx hb dX6_day_21 (lv_at hl 4 rfl) ?_
    refine lv_iconst (v := (0 : Int32)) hx hb dX6_day_23 (by decide) ?_
    refine lv_bipush (v := (20 : Int32)) hx hb dX6_day_24 (by decide) ?_
    obtain ⟨r_33, h_34, hf⟩ := obd hf
    refine xs_S (As := [.int x4, .int (0 : Int32), .int (20 : Int32)]) (rest := []) S k_X6_within q146 q147 ⟨Nat.le_of_ble_eq_true rfl, Nat.le_of_ble_eq_true rfl⟩ ⟨rfl, rfl⟩ (c_X6_within l x4 (0 : Int32) (20 : Int32) r_33 h_34) hK.2 rfl hl.1 rfl (Nat.le_of_ble_eq_true rfl) dX6_day_26 ⟨Nat.zero_le _, Nat.zero_le _⟩ ?_
    refine lv_if_eq (tgt := 54) hx hb dX6_day_29 (by decide) (fun c_35 => ?_) (fun c_35 => ?_)
    · have hf := oit c_35 hf
      refine lv_bipush (v := (-2 : Int32)) hx hb dX6_day_54 (by decide) ?_
      exact hret _ _ _ _ _ _ dX6_day_56 rfl hP hS (oret hf)
    have hf := oif c_35 hf
    refine lv_iload hx hb dX6_day_32 (lv_at hl 5 rfl) ?_
    refine lv_iconst (v := (0 : Int32)) hx hb dX6_day_34 (by decide) ?_
    refine lv_iconst (v := (4 : Int32)) hx hb dX6_day_35 (by decide) ?_
    obtain ⟨r_36, h_37, hf⟩ := obd hf
    refine xs_S (As := [.int x5, .int (0 : Int32), .int (4 : Int32)]) (rest := []) S k_X6_within q146 q147 ⟨Nat.le_of_ble_eq_true rfl, Nat.le_of_ble_eq_true rfl⟩ ⟨rfl, rfl⟩ (c_X6_within l x5 (0 : Int32) (4 : Int32) r_36 h_37) hK.2 rfl hl.1 rfl (Nat.le_of_ble_eq_true rfl) dX6_day_36 ⟨Nat.zero_le _, Nat.zero_le _⟩ ?_
    refine lv_if_ne (tgt := 57) hx hb dX6_day_39 (by decide) (fun c_38 => ?_) (fun c_38 => ?_)
    · have hf := oif c_38 hf
      exact j57 x1 x2 x3 x4 x5 σ_26 _ _ _ (lv_sub hl [0, 1, 2, 3, 4, 5] rfl) hP hS hf
    have hf := oit c_38 hf
    refine lv_iload hx hb dX6_day_42 (lv_at hl 5 rfl) ?_
    refine lv_bipush (v := (10 : Int32)) hx hb dX6_day_44 (by decide) ?_
    refine lv_bipush (v := (13 : Int32)) hx hb dX6_day_46 (by decide) ?_
    obtain ⟨r_39, h_40, hf⟩ := obd hf
    refine xs_S (As := [.int x5, .int (10 : Int32), .int (13 : Int32)]) (rest := []) S k_X6_within q146 q147 ⟨Nat.le_of_ble_eq_true rfl, Nat.le_of_ble_eq_true rfl⟩ ⟨rfl, rfl⟩ (c_X6_within l x5 (10 : Int32) (13 : Int32) r_39 h_40) hK.2 rfl hl.1 rfl (Nat.le_of_ble_eq_true rfl) dX6_day_48 ⟨Nat.zero_le _, Nat.zero_le _⟩ ?_
    refine lv_if_ne (tgt := 57) hx hb dX6_day_51 (by decide) (fun c_41 => ?_) (fun c_41 => ?_)
    · have hf := oif c_41 hf
      exact j57 x1 x2 x3 x4 x5 σ_26 _ _ _ (lv_sub hl [0, 1, 2, 3, 4, 5] rfl) hP hS hf
    have hf := oit c_41 hf
    refine lv_bipush (v := (-2 : Int32)) hx hb dX6_day_54 (by decide) ?_
    exact hret _ _ _ _ _ _ dX6_day_56 rfl hP hS (oret hf)
  have hf := oit c_29 hf
  refine lv_iconst (v := (-1 : Int32)) hx hb dX6_day_12 (by decide) ?_
  exact hret _ _ _ _ _ _ dX6_day_13 rfl hP hS (oret hf)
theorem dX6_isTold_0 : decode cX6_isTold 0 = .ok (.aload_n 0, 1) := by decide +kernel
theorem dX6_isTold_1 : decode cX6_isTold 1 = .ok (.getfield 105, 3) := by decide +kernel
theorem dX6_isTold_4 : decode cX6_isTold 4 = .ok (.ifCond .ne 7, 3) := by decide +kernel
theorem dX6_isTold_7 : decode cX6_isTold 7 = .ok (.iconst 1, 1) := by decide +kernel
theorem dX6_isTold_8 : decode cX6_isTold 8 = .ok (.goto 4, 3) := by decide +kernel
theorem dX6_isTold_11 : decode cX6_isTold 11 = .ok (.iconst 0, 1) := by decide +kernel
theorem dX6_isTold_12 : decode cX6_isTold 12 = .ok (.istore_n 2, 1) := by decide +kernel
theorem dX6_isTold_13 : decode cX6_isTold 13 = .ok (.iconst 0, 1) := by decide +kernel
theorem dX6_isTold_14 : decode cX6_isTold 14 = .ok (.istore_n 3, 1) := by decide +kernel
theorem dX6_isTold_15 : decode cX6_isTold 15 = .ok (.iload_n 3, 1) := by decide +kernel
theorem dX6_isTold_16 : decode cX6_isTold 16 = .ok (.aload_n 0, 1) := by decide +kernel
theorem dX6_isTold_17 : decode cX6_isTold 17 = .ok (.getfield 75, 3) := by decide +kernel
theorem dX6_isTold_20 : decode cX6_isTold 20 = .ok (.if_icmp .ge 36, 3) := by decide +kernel
theorem dX6_isTold_23 : decode cX6_isTold 23 = .ok (.iload_n 2, 1) := by decide +kernel
theorem dX6_isTold_24 : decode cX6_isTold 24 = .ok (.ifCond .eq 32, 3) := by decide +kernel
theorem dX6_isTold_27 : decode cX6_isTold 27 = .ok (.aload_n 0, 1) := by decide +kernel
theorem dX6_isTold_28 : decode cX6_isTold 28 = .ok (.getfield 28, 3) := by decide +kernel
theorem dX6_isTold_31 : decode cX6_isTold 31 = .ok (.iload_n 3, 1) := by decide +kernel
theorem dX6_isTold_32 : decode cX6_isTold 32 = .ok (.iaload, 1) := by decide +kernel
theorem dX6_isTold_33 : decode cX6_isTold 33 = .ok (.aload_n 0, 1) := by decide +kernel
theorem dX6_isTold_34 : decode cX6_isTold 34 = .ok (.getfield 16, 3) := by decide +kernel
theorem dX6_isTold_37 : decode cX6_isTold 37 = .ok (.iload_n 1, 1) := by decide +kernel
theorem dX6_isTold_38 : decode cX6_isTold 38 = .ok (.iload_n 3, 1) := by decide +kernel
theorem dX6_isTold_39 : decode cX6_isTold 39 = .ok (.iadd, 1) := by decide +kernel
theorem dX6_isTold_40 : decode cX6_isTold 40 = .ok (.iaload, 1) := by decide +kernel
theorem dX6_isTold_41 : decode cX6_isTold 41 = .ok (.if_icmp .ne 7, 3) := by decide +kernel
theorem dX6_isTold_44 : decode cX6_isTold 44 = .ok (.iconst 1, 1) := by decide +kernel
theorem dX6_isTold_45 : decode cX6_isTold 45 = .ok (.goto 4, 3) := by decide +kernel
theorem dX6_isTold_48 : decode cX6_isTold 48 = .ok (.iconst 0, 1) := by decide +kernel
theorem dX6_isTold_49 : decode cX6_isTold 49 = .ok (.istore_n 2, 1) := by decide +kernel
theorem dX6_isTold_50 : decode cX6_isTold 50 = .ok (.iinc 3 1, 3) := by decide +kernel
theorem dX6_isTold_53 : decode cX6_isTold 53 = .ok (.goto (-38), 3) := by decide +kernel
theorem dX6_isTold_56 : decode cX6_isTold 56 = .ok (.iload_n 2, 1) := by decide +kernel
theorem dX6_isTold_57 : decode cX6_isTold 57 = .ok (.ireturn, 1) := by decide +kernel
def f_X6_isTold_j56 (N : Nat) (x2 : Int32) (σ : St) : Option Int32 :=
  gd (isB x2) <|
  some x2
def f_X6_isTold_j49 (N : Nat) (x1 : Int32) (x3 : Int32) (y0 : Int32) (σ : St) : Option ((Int32 × Int32) ⊕ ((Int32))) :=
  nm (x3 + (1 : Int32)) fun x3_2 =>
  some (.inl (y0, x3_2))
def f_X6_isTold_b15 (N : Nat) (x1 : Int32) (x2 : Int32) (x3 : Int32) (σ : St) : Option ((Int32 × Int32) ⊕ ((Int32))) :=
  if (σ.1 0 2) ≤ x3 then (some (.inr x2))
  else if x2 = 0 then (some (.inr x2))
  else gd (ck x3 4) <|
  gd (ck (x1 + x3) 240) <|
  if (σ.1 7 x3.toNatClampNeg) = (σ.1 3 (x1 + x3).toNatClampNeg) then (f_X6_isTold_j49 N x1 x3 (1 : Int32) σ)
  else f_X6_isTold_j49 N x1 x3 (0 : Int32) σ
def f_X6_isTold_j12 (N : Nat) (x1 : Int32) (y0 : Int32) (σ : St) : Option Int32 :=
  bd (lpF (fun s => f_X6_isTold_b15 N x1 s.1 s.2 σ) N (y0, (0 : Int32))) (fun o => f_X6_isTold_j56 N o σ)
def f_X6_isTold (N : Nat) (x1 : Int32) (σ : St) : Option Int32 :=
  if (σ.1 0 4) = 0 then (f_X6_isTold_j12 N x1 (1 : Int32) σ)
  else f_X6_isTold_j12 N x1 (0 : Int32) σ
abbrev rmX6_isTold : Room := { frames := 0, cells := 0, slots := 0, locals := 0 }
set_option maxRecDepth 100000 in
set_option maxHeartbeats 4000000 in
theorem c_X6_isTold (l : Launch) (D : va_G) (a : Nat → Nat) (c : Nat → ClassId) (A : Nat → Prop) (hD : ∀ σ, va_D A (mW a c σ)) (N : Nat) (x1 : Int32) (σ : St) (r : Int32) (hf : f_X6_isTold N x1 σ = some r) : MetI l yX6_isTold cX6_isTold 4 (some .boolean) rmX6_isTold (mW a c) D c A [.ref (a 0), .int x1] σ r σ := by
  refine mkI (by decide) (Nat.le_of_ble_eq_true rfl) rfl ?_
  intro p e s m args below meth cd Q ls h0 hK hP hret hl
  obtain ⟨S, hr, hlk⟩ := h0
  obtain ⟨hx, hb, hml, hown, ht⟩ := id S
  have hS : va_S A s.heap s.heap [] := va_S.rf
  have hl : lv_has ls 4 [(0, .ref (a 0)), (1, .int x1)] := hl
  have hf := obs hf
  have j56 : ∀ (x2 : Int32) (H : Heap) (locs : List Loc) (ls : Array Slot), lv_has ls 4 [(2, .int x2)] → va_P D vwCl (mW a c σ) H → va_S A s.heap H locs → Option.bind (f_X6_isTold_j56 N x2 σ) some = some r → W p l e rmX6_isTold s m args below meth cd H locs 0 0 Q (F0 m 56 ls []) := by
    intro x2 H locs ls hl hP hS hf
    have hf := oun (f_X6_isTold_j56.eq_1 _ _ _) hf
    refine lv_iload_n hx hb dX6_isTold_56 rfl (lv_at hl 0 rfl) ?_
    obtain ⟨g_1, hf⟩ := ogd hf
    exact hret _ _ _ _ _ _ dX6_isTold_57 (isB_n g_1) hP hS ⟨Option.some.inj hf, rfl⟩
  have L15 : ∀ (x1 : Int32) (k : Nat) (x2 : Int32) (x3 : Int32) (H : Heap) (locs : List Loc) (ls : Array Slot), lv_has ls 4 [(0, .ref (a 0)), (1, .int x1), (2, .int x2), (3, .int x3)] → va_P D vwCl (mW a c σ) H → va_S A s.heap H locs → Option.bind (bd (lpF (fun s => f_X6_isTold_b15 N x1 s.1 s.2 σ) k (x2, x3)) (fun o => f_X6_isTold_j56 N o σ)) some = some r → W p l e rmX6_isTold s m args below meth cd H locs 0 0 Q (F0 m 15 ls []) := by
    intro x1 k
    induction k with
    | zero =>
      intro x2 x3 H locs ls hl hP hS hf
      exact (ol0 hf).elim
    | succ k ih =>
      intro x2 x3 H locs ls hl hP hS hf
      obtain ⟨K15, hf, hc15, hx15⟩ := ol1 hf
      have j49 : ∀ (x3 : Int32) (y0 : Int32) (H : Heap) (locs : List Loc) (ls : Array Slot), lv_has ls 4 [(0, .ref (a 0)), (1, .int x1), (3, .int x3)] → va_P D vwCl (mW a c σ) H → va_S A s.heap H locs → Option.bind (f_X6_isTold_j49 N x1 x3 y0 σ) K15 = some r → W p l e rmX6_isTold s m args below meth cd H locs 0 0 Q (F0 m 49 ls [.int y0]) := by
        intro x3 y0 H locs ls hl hP hS hf
        have hf := oun (f_X6_isTold_j49.eq_1 _ _ _ _ _) hf
        refine lv_istore_n (lv' := [(2, .int y0), (0, .ref (a 0)), (1, .int x1), (3, .int x3)]) hx hb dX6_isTold_49 rfl hl (by decide) rfl (fun ls hl => ?_)
        obtain ⟨x3_2, ex3_2, hf⟩ := onm hf
        refine lv_iinc (v := x3_2) (lv' := [(3, .int x3_2), (2, .int y0), (0, .ref (a 0)), (1, .int x1)]) hx hb dX6_isTold_50 hl (k := 3) rfl ex3_2 (by decide) rfl (fun ls hl => ?_)
        refine lv_goto (tgt := 15) hx hb dX6_isTold_53 (by decide) ?_
        exact ih y0 x3_2 _ _ _ (lv_sub hl [2, 3, 1, 0] rfl) hP hS (okx hf (hc15 _))
      have hf := oun (f_X6_isTold_b15.eq_1 N x1 x2 x3 σ) hf
      refine lv_iload_n hx hb dX6_isTold_15 rfl (lv_at hl 3 rfl) ?_
      refine lv_aload_n hx hb dX6_isTold_16 rfl (lv_at hl 0 rfl) ?_
      refine va_get (D := D) (ci := 4) (v := .int (σ.1 0 2)) (C := RX6) (T := TX6) (N := 27) hx hb ht gX6 hown hK.1 hP 0 (mw0 a c σ) rfl 5 (by decide) (ht _ q139) (fun _ h9 => h9) rfl dX6_isTold_17 ?_
      refine lv_icmp_ge (tgt := 56) hx hb dX6_isTold_20 (by decide) (fun c_3 => ?_) (fun c_3 => ?_)
      · have hf := oit c_3 hf
        exact j56 x2 _ _ _ (lv_sub hl [2] rfl) hP hS (okx hf (hx15 _))
      have hf := oif c_3 hf
      refine lv_iload_n hx hb dX6_isTold_23 rfl (lv_at hl 2 rfl) ?_
      refine lv_if_eq (tgt := 56) hx hb dX6_isTold_24 (by decide) (fun c_4 => ?_) (fun c_4 => ?_)
      · have hf := oit c_4 hf
        exact j56 x2 _ _ _ (lv_sub hl [2] rfl) hP hS (okx hf (hx15 _))
      have hf := oif c_4 hf
      refine lv_aload_n hx hb dX6_isTold_27 rfl (lv_at hl 0 rfl) ?_
      refine va_get (D := D) (ci := 4) (v := .ref (a 7)) (C := RX6) (T := TX6) (N := 27) hx hb ht gX6 hown hK.1 hP 0 (mw0 a c σ) rfl 10 (by decide) (ht _ q56) (fun _ h9 => h9) rfl dX6_isTold_28 ?_
      refine lv_iload_n hx hb dX6_isTold_31 rfl (lv_at hl 3 rfl) ?_
      obtain ⟨g_5, hf⟩ := ogd hf
      refine va_iald hx hb hK.1 hP 7 0 (mw7 a c σ) rfl (ck_in g_5) dX6_isTold_32 ?_
      refine lv_aload_n hx hb dX6_isTold_33 rfl (lv_at hl 0 rfl) ?_
      refine va_get (D := D) (ci := 4) (v := .ref (a 3)) (C := RX6) (T := TX6) (N := 27) hx hb ht gX6 hown hK.1 hP 0 (mw0 a c σ) rfl 4 (by decide) (ht _ q52) (fun _ h9 => h9) rfl dX6_isTold_34 ?_
      refine lv_iload_n hx hb dX6_isTold_37 rfl (lv_at hl 1 rfl) ?_
      refine lv_iload_n hx hb dX6_isTold_38 rfl (lv_at hl 3 rfl) ?_
      refine lv_iadd hx hb dX6_isTold_39 ?_
      obtain ⟨g_6, hf⟩ := ogd hf
      refine va_iald hx hb hK.1 hP 3 0 (mw3 a c σ) rfl (ck_in g_6) dX6_isTold_40 ?_
      refine lv_icmp_ne (tgt := 48) hx hb dX6_isTold_41 (by decide) (fun c_7 => ?_) (fun c_7 => ?_)
      · have hf := oif c_7 hf
        refine lv_iconst (v := (0 : Int32)) hx hb dX6_isTold_48 (by decide) ?_
        exact j49 x3 (0 : Int32) _ _ _ (lv_sub hl [0, 1, 3] rfl) hP hS hf
      have hf := oit c_7 hf
      refine lv_iconst (v := (1 : Int32)) hx hb dX6_isTold_44 (by decide) ?_
      refine lv_goto (tgt := 49) hx hb dX6_isTold_45 (by decide) ?_
      exact j49 x3 (1 : Int32) _ _ _ (lv_sub hl [0, 1, 3] rfl) hP hS hf
  have j12 : ∀ (x1 : Int32) (y0 : Int32) (H : Heap) (locs : List Loc) (ls : Array Slot), lv_has ls 4 [(0, .ref (a 0)), (1, .int x1)] → va_P D vwCl (mW a c σ) H → va_S A s.heap H locs → Option.bind (f_X6_isTold_j12 N x1 y0 σ) some = some r → W p l e rmX6_isTold s m args below meth cd H locs 0 0 Q (F0 m 12 ls [.int y0]) := by
    intro x1 y0 H locs ls hl hP hS hf
    have hf := oun (f_X6_isTold_j12.eq_1 _ _ _ _) hf
    refine lv_istore_n (lv' := [(2, .int y0), (0, .ref (a 0)), (1, .int x1)]) hx hb dX6_isTold_12 rfl hl (by decide) rfl (fun ls hl => ?_)
    refine lv_iconst (v := (0 : Int32)) hx hb dX6_isTold_13 (by decide) ?_
    refine lv_istore_n (lv' := [(3, .int (0 : Int32)), (2, .int y0), (0, .ref (a 0)), (1, .int x1)]) hx hb dX6_isTold_14 rfl hl (by decide) rfl (fun ls hl => ?_)
    exact L15 x1 N y0 (0 : Int32) _ _ _ (lv_sub hl [2, 3, 1, 0] rfl) hP hS hf
  have hf := oun (f_X6_isTold.eq_1 _ _ _) hf
  refine lv_aload_n hx hb dX6_isTold_0 rfl (lv_at hl 0 rfl) ?_
  refine va_get (D := D) (ci := 4) (v := .int (σ.1 0 4)) (C := RX6) (T := TX6) (N := 27) hx hb ht gX6 hown hK.1 hP 0 (mw0 a c σ) rfl 11 (by decide) (ht _ q140) (fun _ h9 => h9) rfl dX6_isTold_1 ?_
  refine lv_if_ne (tgt := 11) hx hb dX6_isTold_4 (by decide) (fun c_8 => ?_) (fun c_8 => ?_)
  · have hf := oif c_8 hf
    refine lv_iconst (v := (0 : Int32)) hx hb dX6_isTold_11 (by decide) ?_
    exact j12 x1 (0 : Int32) _ _ _ (lv_sub hl [0, 1] rfl) hP hS hf
  have hf := oit c_8 hf
  refine lv_iconst (v := (1 : Int32)) hx hb dX6_isTold_7 (by decide) ?_
  refine lv_goto (tgt := 12) hx hb dX6_isTold_8 (by decide) ?_
  exact j12 x1 (1 : Int32) _ _ _ (lv_sub hl [0, 1] rfl) hP hS hf
theorem dX6_findFar_0 : decode cX6_findFar 0 = .ok (.aload_n 0, 1) := by decide +kernel
theorem dX6_findFar_1 : decode cX6_findFar 1 = .ok (.invokevirtual 157, 3) := by decide +kernel
theorem dX6_findFar_4 : decode cX6_findFar 4 = .ok (.istore_n 2, 1) := by decide +kernel
theorem dX6_findFar_5 : decode cX6_findFar 5 = .ok (.iconst 0, 1) := by decide +kernel
theorem dX6_findFar_6 : decode cX6_findFar 6 = .ok (.istore_n 3, 1) := by decide +kernel
theorem dX6_findFar_7 : decode cX6_findFar 7 = .ok (.iload_n 3, 1) := by decide +kernel
theorem dX6_findFar_8 : decode cX6_findFar 8 = .ok (.aload_n 0, 1) := by decide +kernel
theorem dX6_findFar_9 : decode cX6_findFar 9 = .ok (.getfield 173, 3) := by decide +kernel
theorem dX6_findFar_12 : decode cX6_findFar 12 = .ok (.if_icmp .ge 39, 3) := by decide +kernel
theorem dX6_findFar_15 : decode cX6_findFar 15 = .ok (.aload_n 0, 1) := by decide +kernel
theorem dX6_findFar_16 : decode cX6_findFar 16 = .ok (.aload_n 0, 1) := by decide +kernel
theorem dX6_findFar_17 : decode cX6_findFar 17 = .ok (.getfield 37, 3) := by decide +kernel
theorem dX6_findFar_20 : decode cX6_findFar 20 = .ok (.iload_n 3, 1) := by decide +kernel
theorem dX6_findFar_21 : decode cX6_findFar 21 = .ok (.iaload, 1) := by decide +kernel
theorem dX6_findFar_22 : decode cX6_findFar 22 = .ok (.invokevirtual 167, 3) := by decide +kernel
theorem dX6_findFar_25 : decode cX6_findFar 25 = .ok (.aload_n 0, 1) := by decide +kernel
theorem dX6_findFar_26 : decode cX6_findFar 26 = .ok (.getfield 44, 3) := by decide +kernel
theorem dX6_findFar_29 : decode cX6_findFar 29 = .ok (.iload_n 3, 1) := by decide +kernel
theorem dX6_findFar_30 : decode cX6_findFar 30 = .ok (.aload_n 0, 1) := by decide +kernel
theorem dX6_findFar_31 : decode cX6_findFar 31 = .ok (.iload_n 1, 1) := by decide +kernel
theorem dX6_findFar_32 : decode cX6_findFar 32 = .ok (.invokevirtual 176, 3) := by decide +kernel
theorem dX6_findFar_35 : decode cX6_findFar 35 = .ok (.ifCond .eq 7, 3) := by decide +kernel
theorem dX6_findFar_38 : decode cX6_findFar 38 = .ok (.iconst 0, 1) := by decide +kernel
theorem dX6_findFar_39 : decode cX6_findFar 39 = .ok (.goto 5, 3) := by decide +kernel
theorem dX6_findFar_42 : decode cX6_findFar 42 = .ok (.bipush (-9), 2) := by decide +kernel
theorem dX6_findFar_44 : decode cX6_findFar 44 = .ok (.iastore, 1) := by decide +kernel
theorem dX6_findFar_45 : decode cX6_findFar 45 = .ok (.iinc 3 1, 3) := by decide +kernel
theorem dX6_findFar_48 : decode cX6_findFar 48 = .ok (.goto (-41), 3) := by decide +kernel
theorem dX6_findFar_51 : decode cX6_findFar 51 = .ok (.aload_n 0, 1) := by decide +kernel
theorem dX6_findFar_52 : decode cX6_findFar 52 = .ok (.iload_n 2, 1) := by decide +kernel
theorem dX6_findFar_53 : decode cX6_findFar 53 = .ok (.invokevirtual 167, 3) := by decide +kernel
theorem dX6_findFar_56 : decode cX6_findFar 56 = .ok (.iconst 1, 1) := by decide +kernel
theorem dX6_findFar_57 : decode cX6_findFar 57 = .ok (.istore_n 3, 1) := by decide +kernel
theorem dX6_findFar_58 : decode cX6_findFar 58 = .ok (.iconst 1, 1) := by decide +kernel
theorem dX6_findFar_59 : decode cX6_findFar 59 = .ok (.istore 4, 2) := by decide +kernel
theorem dX6_findFar_61 : decode cX6_findFar 61 = .ok (.iload_n 3, 1) := by decide +kernel
theorem dX6_findFar_62 : decode cX6_findFar 62 = .ok (.ifCond .eq 92, 3) := by decide +kernel
theorem dX6_findFar_65 : decode cX6_findFar 65 = .ok (.iconst 0, 1) := by decide +kernel
theorem dX6_findFar_66 : decode cX6_findFar 66 = .ok (.istore_n 3, 1) := by decide +kernel
theorem dX6_findFar_67 : decode cX6_findFar 67 = .ok (.iconst 0, 1) := by decide +kernel
theorem dX6_findFar_68 : decode cX6_findFar 68 = .ok (.istore 5, 2) := by decide +kernel
theorem dX6_findFar_70 : decode cX6_findFar 70 = .ok (.iload 5, 2) := by decide +kernel
theorem dX6_findFar_72 : decode cX6_findFar 72 = .ok (.bipush 28, 2) := by decide +kernel
theorem dX6_findFar_74 : decode cX6_findFar 74 = .ok (.aload_n 0, 1) := by decide +kernel
theorem dX6_findFar_75 : decode cX6_findFar 75 = .ok (.getfield 173, 3) := by decide +kernel
theorem dX6_findFar_78 : decode cX6_findFar 78 = .ok (.imul, 1) := by decide +kernel
theorem dX6_findFar_79 : decode cX6_findFar 79 = .ok (.if_icmp .ge 69, 3) := by decide +kernel
theorem dX6_findFar_82 : decode cX6_findFar 82 = .ok (.aload_n 0, 1) := by decide +kernel
theorem dX6_findFar_83 : decode cX6_findFar 83 = .ok (.getfield 44, 3) := by decide +kernel
theorem dX6_findFar_86 : decode cX6_findFar 86 = .ok (.iload 5, 2) := by decide +kernel
theorem dX6_findFar_88 : decode cX6_findFar 88 = .ok (.bipush 28, 2) := by decide +kernel
theorem dX6_findFar_90 : decode cX6_findFar 90 = .ok (.idiv, 1) := by decide +kernel
theorem dX6_findFar_91 : decode cX6_findFar 91 = .ok (.iaload, 1) := by decide +kernel
theorem dX6_findFar_92 : decode cX6_findFar 92 = .ok (.bipush (-9), 2) := by decide +kernel
theorem dX6_findFar_94 : decode cX6_findFar 94 = .ok (.if_icmp .ne 48, 3) := by decide +kernel
theorem dX6_findFar_97 : decode cX6_findFar 97 = .ok (.aload_n 0, 1) := by decide +kernel
theorem dX6_findFar_98 : decode cX6_findFar 98 = .ok (.getfield 41, 3) := by decide +kernel
theorem dX6_findFar_101 : decode cX6_findFar 101 = .ok (.iload 5, 2) := by decide +kernel
theorem dX6_findFar_103 : decode cX6_findFar 103 = .ok (.iaload, 1) := by decide +kernel
theorem dX6_findFar_104 : decode cX6_findFar 104 = .ok (.bipush (-9), 2) := by decide +kernel
theorem dX6_findFar_106 : decode cX6_findFar 106 = .ok (.if_icmp .eq 36, 3) := by decide +kernel
theorem dX6_findFar_109 : decode cX6_findFar 109 = .ok (.aload_n 0, 1) := by decide +kernel
theorem dX6_findFar_110 : decode cX6_findFar 110 = .ok (.getfield 44, 3) := by decide +kernel
theorem dX6_findFar_113 : decode cX6_findFar 113 = .ok (.aload_n 0, 1) := by decide +kernel
theorem dX6_findFar_114 : decode cX6_findFar 114 = .ok (.getfield 41, 3) := by decide +kernel
theorem dX6_findFar_117 : decode cX6_findFar 117 = .ok (.iload 5, 2) := by decide +kernel
theorem dX6_findFar_119 : decode cX6_findFar 119 = .ok (.iaload, 1) := by decide +kernel
theorem dX6_findFar_120 : decode cX6_findFar 120 = .ok (.iaload, 1) := by decide +kernel
theorem dX6_findFar_121 : decode cX6_findFar 121 = .ok (.iload 4, 2) := by decide +kernel
theorem dX6_findFar_123 : decode cX6_findFar 123 = .ok (.iconst 1, 1) := by decide +kernel
theorem dX6_findFar_124 : decode cX6_findFar 124 = .ok (.isub, 1) := by decide +kernel
theorem dX6_findFar_125 : decode cX6_findFar 125 = .ok (.if_icmp .ne 17, 3) := by decide +kernel
theorem dX6_findFar_128 : decode cX6_findFar 128 = .ok (.aload_n 0, 1) := by decide +kernel
theorem dX6_findFar_129 : decode cX6_findFar 129 = .ok (.getfield 44, 3) := by decide +kernel
theorem dX6_findFar_132 : decode cX6_findFar 132 = .ok (.iload 5, 2) := by decide +kernel
theorem dX6_findFar_134 : decode cX6_findFar 134 = .ok (.bipush 28, 2) := by decide +kernel
theorem dX6_findFar_136 : decode cX6_findFar 136 = .ok (.idiv, 1) := by decide +kernel
theorem dX6_findFar_137 : decode cX6_findFar 137 = .ok (.iload 4, 2) := by decide +kernel
theorem dX6_findFar_139 : decode cX6_findFar 139 = .ok (.iastore, 1) := by decide +kernel
theorem dX6_findFar_140 : decode cX6_findFar 140 = .ok (.iconst 1, 1) := by decide +kernel
theorem dX6_findFar_141 : decode cX6_findFar 141 = .ok (.istore_n 3, 1) := by decide +kernel
theorem dX6_findFar_142 : decode cX6_findFar 142 = .ok (.iinc 5 1, 3) := by decide +kernel
theorem dX6_findFar_145 : decode cX6_findFar 145 = .ok (.goto (-75), 3) := by decide +kernel
theorem dX6_findFar_148 : decode cX6_findFar 148 = .ok (.iinc 4 1, 3) := by decide +kernel
theorem dX6_findFar_151 : decode cX6_findFar 151 = .ok (.goto (-90), 3) := by decide +kernel
theorem dX6_findFar_154 : decode cX6_findFar 154 = .ok (.return_, 1) := by decide +kernel
def f_X6_findFar_j154 (N : Nat) (σ : St) : Option St :=
  some σ
def f_X6_findFar_j148 (N : Nat) (x3 : Int32) (x4 : Int32) (σ : St) : Option ((Int32 × Int32 × St) ⊕ ((St))) :=
  nm (x4 + (1 : Int32)) fun x4_1 =>
  some (.inl (x3, x4_1, σ))
def f_X6_findFar_j142 (N : Nat) (x3 : Int32) (x4 : Int32) (x5 : Int32) (σ : St) : Option ((Int32 × Int32 × St) ⊕ ((Int32 × St))) :=
  nm (x5 + (1 : Int32)) fun x5_2 =>
  some (.inl (x3, x5_2, σ))
def f_X6_findFar_b70 (N : Nat) (x3 : Int32) (x4 : Int32) (x5 : Int32) (σ : St) : Option ((Int32 × Int32 × St) ⊕ ((Int32 × St))) :=
  if ((28 : Int32) * (σ.1 0 7)) ≤ x5 then (some (.inr (x3, σ)))
  else gd (ck (x5 / (28 : Int32)) 1200) <|
  if (σ.1 12 (x5 / (28 : Int32)).toNatClampNeg) = (-9 : Int32) then (gd (ck x5 33600) <|
    if (σ.1 11 x5.toNatClampNeg) = (-9 : Int32) then (f_X6_findFar_j142 N x3 x4 x5 σ)
    else gd (ck x5 33600) <|
    gd (ck (σ.1 11 x5.toNatClampNeg) 1200) <|
    if (σ.1 12 (σ.1 11 x5.toNatClampNeg).toNatClampNeg) = (x4 - (1 : Int32)) then (gd (ck (x5 / (28 : Int32)) 1200) <|
      nm (wS σ 12 (Int32.toNatClampNeg (x5 / (28 : Int32))) x4) fun σ_12 =>
      f_X6_findFar_j142 N (1 : Int32) x4 x5 σ_12)
    else f_X6_findFar_j142 N x3 x4 x5 σ)
  else f_X6_findFar_j142 N x3 x4 x5 σ
def f_X6_findFar_b61 (N : Nat) (x3 : Int32) (x4 : Int32) (σ : St) : Option ((Int32 × Int32 × St) ⊕ ((St))) :=
  if x3 = 0 then (some (.inr σ))
  else bd (lpF (fun s => f_X6_findFar_b70 N s.1 x4 s.2.1 s.2.2) N ((0 : Int32), (0 : Int32), σ)) (fun o => f_X6_findFar_j148 N o.1 x4 o.2)
def f_X6_findFar_j51 (N : Nat) (x2 : Int32) (σ : St) : Option St :=
  bd (f_X6_becomeNest N x2 σ) fun σ_14 =>
  bd (lpF (fun s => f_X6_findFar_b61 N s.1 s.2.1 s.2.2) N ((1 : Int32), (1 : Int32), σ_14)) (fun o => f_X6_findFar_j154 N o)
def f_X6_findFar_j44 (N : Nat) (x1 : Int32) (x2 : Int32) (x3 : Int32) (y1 : Int32) (y2 : Int32) (σ : St) : Option ((Int32 × St) ⊕ ((St))) :=
  gd (ck y1 1200) <|
  nm (wS σ 12 (Int32.toNatClampNeg y1) y2) fun σ_17 =>
  nm (x3 + (1 : Int32)) fun x3_18 =>
  some (.inl (x3_18, σ_17))
def f_X6_findFar_b7 (N : Nat) (x1 : Int32) (x2 : Int32) (x3 : Int32) (σ : St) : Option ((Int32 × St) ⊕ ((St))) :=
  if (σ.1 0 7) ≤ x3 then (some (.inr σ))
  else gd (ck x3 1200) <|
  bd (f_X6_becomeNest N (σ.1 10 x3.toNatClampNeg) σ) fun σ_21 =>
  bd (f_X6_isTold N x1 σ_21) fun r_23 =>
  if r_23 = 0 then (f_X6_findFar_j44 N x1 x2 x3 x3 (-9 : Int32) σ_21)
  else f_X6_findFar_j44 N x1 x2 x3 x3 (0 : Int32) σ_21
def f_X6_findFar (N : Nat) (x1 : Int32) (σ : St) : Option St :=
  bd (f_X6_nestNow N σ) fun r_26 =>
  bd (lpF (fun s => f_X6_findFar_b7 N x1 r_26 s.1 s.2) N ((0 : Int32), σ)) (fun o => f_X6_findFar_j51 N r_26 o)
abbrev rmX6_findFar : Room := { frames := 1, cells := 0, slots := 0, locals := 23 }
set_option maxRecDepth 100000 in
set_option maxHeartbeats 4000000 in
theorem c_X6_findFar (l : Launch) (D : va_G) (a : Nat → Nat) (c : Nat → ClassId) (A : Nat → Prop) (hD : ∀ σ, va_D A (mW a c σ)) (N : Nat) (x1 : Int32) (σ : St) (u : St) (hf : f_X6_findFar N x1 σ = some u) : MetV l yX6_findFar cX6_findFar 6 (none) rmX6_findFar (mW a c) D c A [.ref (a 0), .int x1] σ u := by
  refine mkV (by decide) (Nat.le_of_ble_eq_true rfl) rfl ?_
  intro p e s m args below meth cd Q ls h0 hK hP hret hl
  obtain ⟨S, hr, hlk⟩ := h0
  obtain ⟨hx, hb, hml, hown, ht⟩ := id S
  have hS : va_S A s.heap s.heap [] := va_S.rf
  have hl : lv_has ls 6 [(0, .ref (a 0)), (1, .int x1)] := hl
  have hf := obs hf
  have j154 : ∀ (σ : St) (H : Heap) (locs : List Loc) (ls : Array Slot), lv_has ls 6 [] → va_P D vwCl (mW a c σ) H → va_S A s.heap H locs → Option.bind (f_X6_findFar_j154 N σ) some = some u → W p l e rmX6_findFar s m args below meth cd H locs 0 0 Q (F0 m 154 ls []) := by
    intro σ H locs ls hl hP hS hf
    have hf := oun (f_X6_findFar_j154.eq_1 _ _) hf
    exact hret _ _ _ _ _ dX6_findFar_154 hP hS (Option.some.inj hf)
  have L61 : ∀ (k : Nat) (x3 : Int32) (x4 : Int32) (σ : St) (H : Heap) (locs : List Loc) (ls : Array Slot), lv_has ls 6 [(0, .ref (a 0)), (3, .int x3), (4, .int x4)] → va_P D vwCl (mW a c σ) H → va_S A s.heap H locs → Option.bind (bd (lpF (fun s => f_X6_findFar_b61 N s.1 s.2.1 s.2.2) k (x3, x4, σ)) (fun o => f_X6_findFar_j154 N o)) some = some u → W p l e rmX6_findFar s m args below meth cd H locs 0 0 Q (F0 m 61 ls []) := by
    intro k
    induction k with
    | zero =>
      intro x3 x4 σ H locs ls hl hP hS hf
      exact (ol0 hf).elim
    | succ k ih =>
      intro x3 x4 σ H locs ls hl hP hS hf
      obtain ⟨K61, hf, hc61, hx61⟩ := ol1 hf
      have j148 : ∀ (x3 : Int32) (x4 : Int32) (σ : St) (H : Heap) (locs : List Loc) (ls : Array Slot), lv_has ls 6 [(0, .ref (a 0)), (3, .int x3), (4, .int x4)] → va_P D vwCl (mW a c σ) H → va_S A s.heap H locs → Option.bind (f_X6_findFar_j148 N x3 x4 σ) K61 = some u → W p l e rmX6_findFar s m args below meth cd H locs 0 0 Q (F0 m 148 ls []) := by
        intro x3 x4 σ H locs ls hl hP hS hf
        have hf := oun (f_X6_findFar_j148.eq_1 _ _ _ _) hf
        obtain ⟨x4_1, ex4_1, hf⟩ := onm hf
        refine lv_iinc (v := x4_1) (lv' := [(4, .int x4_1), (0, .ref (a 0)), (3, .int x3)]) hx hb dX6_findFar_148 hl (k := 2) rfl ex4_1 (by decide) rfl (fun ls hl => ?_)
        refine lv_goto (tgt := 61) hx hb dX6_findFar_151 (by decide) ?_
        exact ih x3 x4_1 σ _ _ _ (lv_sub hl [1, 2, 0] rfl) hP hS (okx hf (hc61 _))
      have L70 : ∀ (x4 : Int32) (k : Nat) (x3 : Int32) (x5 : Int32) (σ : St) (H : Heap) (locs : List Loc) (ls : Array Slot), lv_has ls 6 [(0, .ref (a 0)), (3, .int x3), (4, .int x4), (5, .int x5)] → va_P D vwCl (mW a c σ) H → va_S A s.heap H locs → Option.bind (bd (lpF (fun s => f_X6_findFar_b70 N s.1 x4 s.2.1 s.2.2) k (x3, x5, σ)) (fun o => f_X6_findFar_j148 N o.1 x4 o.2)) K61 = some u → W p l e rmX6_findFar s m args below meth cd H locs 0 0 Q (F0 m 70 ls []) := by
        intro x4 k
        induction k with
        | zero =>
          intro x3 x5 σ H locs ls hl hP hS hf
          exact (ol0 hf).elim
        | succ k ih =>
          intro x3 x5 σ H locs ls hl hP hS hf
          obtain ⟨K70, hf, hc70, hx70⟩ := ol1 hf
          have j142 : ∀ (x3 : Int32) (x5 : Int32) (σ : St) (H : Heap) (locs : List Loc) (ls : Array Slot), lv_has ls 6 [(0, .ref (a 0)), (3, .int x3), (4, .int x4), (5, .int x5)] → va_P D vwCl (mW a c σ) H → va_S A s.heap H locs → Option.bind (f_X6_findFar_j142 N x3 x4 x5 σ) K70 = some u → W p l e rmX6_findFar s m args below meth cd H locs 0 0 Q (F0 m 142 ls []) := by
            intro x3 x5 σ H locs ls hl hP hS hf
            have hf := oun (f_X6_findFar_j142.eq_1 _ _ _ _ _) hf
            obtain ⟨x5_2, ex5_2, hf⟩ := onm hf
            refine lv_iinc (v := x5_2) (lv' := [(5, .int x5_2), (0, .ref (a 0)), (3, .int x3), (4, .int x4)]) hx hb dX6_findFar_142 hl (k := 3) rfl ex5_2 (by decide) rfl (fun ls hl => ?_)
            refine lv_goto (tgt := 70) hx hb dX6_findFar_145 (by decide) ?_
            exact ih x3 x5_2 σ _ _ _ (lv_sub hl [1, 2, 3, 0] rfl) hP hS (okx hf (hc70 _))
          have hf := oun (f_X6_findFar_b70.eq_1 N x3 x4 x5 σ) hf
          refine lv_iload hx hb dX6_findFar_70 (lv_at hl 3 rfl) ?_
          refine lv_bipush (v := (28 : Int32)) hx hb dX6_findFar_72 (by decide) ?_
          refine lv_aload_n hx hb dX6_findFar_74 rfl (lv_at hl 0 rfl) ?_
          refine va_get (D := D) (ci := 4) (v := .int (σ.1 0 7)) (C := RX6) (T := TX6) (N := 27) hx hb ht gX6 hown hK.1 hP 0 (mw0 a c σ) rfl 19 (by decide) (ht _ q474) (fun _ h9 => h9) rfl dX6_findFar_75 ?_
          refine lv_imul hx hb dX6_findFar_78 ?_
          refine lv_icmp_ge (tgt := 148) hx hb dX6_findFar_79 (by decide) (fun c_3 => ?_) (fun c_3 => ?_)
          · have hf := oit c_3 hf
            exact j148 x3 x4 σ _ _ _ (lv_sub hl [0, 1, 2] rfl) hP hS (okx hf (hx70 _))
          have hf := oif c_3 hf
          refine lv_aload_n hx hb dX6_findFar_82 rfl (lv_at hl 0 rfl) ?_
          refine va_get (D := D) (ci := 4) (v := .ref (a 12)) (C := RX6) (T := TX6) (N := 27) hx hb ht gX6 hown hK.1 hP 0 (mw0 a c σ) rfl 18 (by decide) (ht _ q62) (fun _ h9 => h9) rfl dX6_findFar_83 ?_
          refine lv_iload hx hb dX6_findFar_86 (lv_at hl 3 rfl) ?_
          refine lv_bipush (v := (28 : Int32)) hx hb dX6_findFar_88 (by decide) ?_
          refine lv_idiv hx hb dX6_findFar_90 (by decide) ?_
          obtain ⟨g_4, hf⟩ := ogd hf
          refine va_iald hx hb hK.1 hP 12 0 (mw12 a c σ) rfl (ck_in g_4) dX6_findFar_91 ?_
          refine lv_bipush (v := (-9 : Int32)) hx hb dX6_findFar_92 (by decide) ?_
          refine lv_icmp_ne (tgt := 142) hx hb dX6_findFar_94 (by decide) (fun c_5 => ?_) (fun c_5 => ?_)
          · have hf := oif c_5 hf
            exact j142 x3 x5 σ _ _ _ (lv_sub hl [0, 1, 2, 3] rfl) hP hS hf
          have hf := oit c_5 hf
          refine lv_aload_n hx hb dX6_findFar_97 rfl (lv_at hl 0 rfl) ?_
          refine va_get (D := D) (ci := 4) (v := .ref (a 11)) (C := RX6) (T := TX6) (N := 27) hx hb ht gX6 hown hK.1 hP 0 (mw0 a c σ) rfl 17 (by decide) (ht _ q61) (fun _ h9 => h9) rfl dX6_findFar_98 ?_
          refine lv_iload hx hb dX6_findFar_101 (lv_at hl 3 rfl) ?_
          obtain ⟨g_6, hf⟩ := ogd hf
          refine va_iald hx hb hK.1 hP 11 0 (mw11 a c σ) rfl (ck_in g_6) dX6_findFar_103 ?_
          refine lv_bipush (v := (-9 : Int32)) hx hb dX6_findFar_104 (by decide) ?_
          refine lv_icmp_eq (tgt := 142) hx hb dX6_findFar_106 (by decide) (fun c_7 => ?_) (fun c_7 => ?_)
          · have hf := oit c_7 hf
            exact j142 x3 x5 σ _ _ _ (lv_sub hl [0, 1, 2, 3] rfl) hP hS hf
          have hf := oif c_7 hf
          refine lv_aload_n hx hb dX6_findFar_109 rfl (lv_at hl 0 rfl) ?_
          refine va_get (D := D) (ci := 4) (v := .ref (a 12)) (C := RX6) (T := TX6) (N := 27) hx hb ht gX6 hown hK.1 hP 0 (mw0 a c σ) rfl 18 (by decide) (ht _ q62) (fun _ h9 => h9) rfl dX6_findFar_110 ?_
          refine lv_aload_n hx hb dX6_findFar_113 rfl (lv_at hl 0 rfl) ?_
          refine va_get (D := D) (ci := 4) (v := .ref (a 11)) (C := RX6) (T := TX6) (N := 27) hx hb ht gX6 hown hK.1 hP 0 (mw0 a c σ) rfl 17 (by decide) (ht _ q61) (fun _ h9 => h9) rfl dX6_findFar_114 ?_
          refine lv_iload hx hb dX6_findFar_117 (lv_at hl 3 rfl) ?_
          obtain ⟨g_8, hf⟩ := ogd hf
          refine va_iald hx hb hK.1 hP 11 0 (mw11 a c σ) rfl (ck_in g_8) dX6_findFar_119 ?_
          obtain ⟨g_9, hf⟩ := ogd hf
          refine va_iald hx hb hK.1 hP 12 0 (mw12 a c σ) rfl (ck_in g_9) dX6_findFar_120 ?_
          refine lv_iload hx hb dX6_findFar_121 (lv_at hl 2 rfl) ?_
          refine lv_iconst (v := (1 : Int32)) hx hb dX6_findFar_123 (by decide) ?_
          refine lv_isub hx hb dX6_findFar_124 ?_
          refine lv_icmp_ne (tgt := 142) hx hb dX6_findFar_125 (by decide) (fun c_10 => ?_) (fun c_10 => ?_)
          · have hf := oif c_10 hf
            exact j142 x3 x5 σ _ _ _ (lv_sub hl [0, 1, 2, 3] rfl) hP hS hf
          have hf := oit c_10 hf
          refine lv_aload_n hx hb dX6_findFar_128 rfl (lv_at hl 0 rfl) ?_
          refine va_get (D := D) (ci := 4) (v := .ref (a 12)) (C := RX6) (T := TX6) (N := 27) hx hb ht gX6 hown hK.1 hP 0 (mw0 a c σ) rfl 18 (by decide) (ht _ q62) (fun _ h9 => h9) rfl dX6_findFar_129 ?_
          refine lv_iload hx hb dX6_findFar_132 (lv_at hl 3 rfl) ?_
          refine lv_bipush (v := (28 : Int32)) hx hb dX6_findFar_134 (by decide) ?_
          refine lv_idiv hx hb dX6_findFar_136 (by decide) ?_
          refine lv_iload hx hb dX6_findFar_137 (lv_at hl 2 rfl) ?_
          obtain ⟨g_11, hf⟩ := ogd hf
          refine va_iast hx hb hK.1 hP (hD σ) hS 12 0 (mw12 a c σ) rfl (ck_in g_11) dX6_findFar_139 (fun H locs hP _ hS => ?_)
          have hP := vP_eq (mpA_m12 a c σ (Int32.toNatClampNeg (x5 / (28 : Int32))) x4) hP
          obtain ⟨σ_12, eσ_12, hf⟩ := onm hf
          rw [eσ_12] at hP
          refine lv_iconst (v := (1 : Int32)) hx hb dX6_findFar_140 (by decide) ?_
          refine lv_istore_n (lv' := [(3, .int (1 : Int32)), (0, .ref (a 0)), (4, .int x4), (5, .int x5)]) hx hb dX6_findFar_141 rfl hl (by decide) rfl (fun ls hl => ?_)
          exact j142 (1 : Int32) x5 σ_12 _ _ _ (lv_sub hl [1, 0, 2, 3] rfl) hP hS hf
      have hf := oun (f_X6_findFar_b61.eq_1 N x3 x4 σ) hf
      refine lv_iload_n hx hb dX6_findFar_61 rfl (lv_at hl 1 rfl) ?_
      refine lv_if_eq (tgt := 154) hx hb dX6_findFar_62 (by decide) (fun c_13 => ?_) (fun c_13 => ?_)
      · have hf := oit c_13 hf
        exact j154 σ _ _ _ (lv_sub hl [] rfl) hP hS (okx hf (hx61 _))
      have hf := oif c_13 hf
      refine lv_iconst (v := (0 : Int32)) hx hb dX6_findFar_65 (by decide) ?_
      refine lv_istore_n (lv' := [(3, .int (0 : Int32)), (0, .ref (a 0)), (4, .int x4)]) hx hb dX6_findFar_66 rfl hl (by decide) rfl (fun ls hl => ?_)
      refine lv_iconst (v := (0 : Int32)) hx hb dX6_findFar_67 (by decide) ?_
      refine lv_istore (lv' := [(5, .int (0 : Int32)), (3, .int (0 : Int32)), (0, .ref (a 0)), (4, .int x4)]) hx hb dX6_findFar_68 hl (by decide) rfl (fun ls hl => ?_)
      exact L70 x4 N (0 : Int32) (0 : Int32) σ _ _ _ (lv_sub hl [2, 1, 3, 0] rfl) hP hS hf
  have j51 : ∀ (x2 : Int32) (σ : St) (H : Heap) (locs : List Loc) (ls : Array Slot), lv_has ls 6 [(0, .ref (a 0)), (2, .int x2)] → va_P D vwCl (mW a c σ) H → va_S A s.heap H locs → Option.bind (f_X6_findFar_j51 N x2 σ) some = some u → W p l e rmX6_findFar s m args below meth cd H locs 0 0 Q (F0 m 51 ls []) := by
    intro x2 σ H locs ls hl hP hS hf
    have hf := oun (f_X6_findFar_j51.eq_1 _ _ _) hf
    refine lv_aload_n hx hb dX6_findFar_51 rfl (lv_at hl 0 rfl) ?_
    refine lv_iload_n hx hb dX6_findFar_52 rfl (lv_at hl 1 rfl) ?_
    obtain ⟨σ_14, h_15, hf⟩ := obd hf
    refine xv_V (As := [.int x2]) (rest := []) S k_X6_becomeNest q419 q420 q421 ⟨Nat.le_of_ble_eq_true rfl, Nat.le_of_ble_eq_true rfl⟩ ⟨rfl, rfl⟩ (c_X6_becomeNest l D a c A hD N x2 σ σ_14 h_15) hK hP hS (va_recv hK.1 hP (rfl : vwCl[4]? = some (RX6, TX6, 27)) (mw0 a c σ)) rfl hl.1 rfl (Nat.le_of_ble_eq_true rfl) dX6_findFar_53 ⟨Nat.zero_le _, Nat.zero_le _⟩ (fun H locs hP hS => ?_)
    refine lv_iconst (v := (1 : Int32)) hx hb dX6_findFar_56 (by decide) ?_
    refine lv_istore_n (lv' := [(3, .int (1 : Int32)), (0, .ref (a 0)), (2, .int x2)]) hx hb dX6_findFar_57 rfl hl (by decide) rfl (fun ls hl => ?_)
    refine lv_iconst (v := (1 : Int32)) hx hb dX6_findFar_58 (by decide) ?_
    refine lv_istore (lv' := [(4, .int (1 : Int32)), (3, .int (1 : Int32)), (0, .ref (a 0)), (2, .int x2)]) hx hb dX6_findFar_59 hl (by decide) rfl (fun ls hl => ?_)
    exact L61 N (1 : Int32) (1 : Int32) σ_14 _ _ _ (lv_sub hl [2, 1, 0] rfl) hP hS hf
  have L7 : ∀ (x1 : Int32) (x2 : Int32) (k : Nat) (x3 : Int32) (σ : St) (H : Heap) (locs : List Loc) (ls : Array Slot), lv_has ls 6 [(0, .ref (a 0)), (1, .int x1), (2, .int x2), (3, .int x3)] → va_P D vwCl (mW a c σ) H → va_S A s.heap H locs → Option.bind (bd (lpF (fun s => f_X6_findFar_b7 N x1 x2 s.1 s.2) k (x3, σ)) (fun o => f_X6_findFar_j51 N x2 o)) some = some u → W p l e rmX6_findFar s m args below meth cd H locs 0 0 Q (F0 m 7 ls []) := by
    intro x1 x2 k
    induction k with
    | zero =>
      intro x3 σ H locs ls hl hP hS hf
      exact (ol0 hf).elim
    | succ k ih =>
      intro x3 σ H locs ls hl hP hS hf
      obtain ⟨K7, hf, hc7, hx7⟩ := ol1 hf
      have j44 : ∀ (x3 : Int32) (y1 : Int32) (y2 : Int32) (σ : St) (H : Heap) (locs : List Loc) (ls : Array Slot), lv_has ls 6 [(0, .ref (a 0)), (1, .int x1), (2, .int x2), (3, .int x3)] → va_P D vwCl (mW a c σ) H → va_S A s.heap H locs → Option.bind (f_X6_findFar_j44 N x1 x2 x3 y1 y2 σ) K7 = some u → W p l e rmX6_findFar s m args below meth cd H locs 0 0 Q (F0 m 44 ls [.int y2, .int y1, .ref (a 12)]) := by
        intro x3 y1 y2 σ H locs ls hl hP hS hf
        have hf := oun (f_X6_findFar_j44.eq_1 _ _ _ _ _ _ _) hf
        obtain ⟨g_16, hf⟩ := ogd hf
        refine va_iast hx hb hK.1 hP (hD σ) hS 12 0 (mw12 a c σ) rfl (ck_in g_16) dX6_findFar_44 (fun H locs hP _ hS => ?_)
        have hP := vP_eq (mpA_m12 a c σ (Int32.toNatClampNeg y1) y2) hP
        obtain ⟨σ_17, eσ_17, hf⟩ := onm hf
        rw [eσ_17] at hP
        obtain ⟨x3_18, ex3_18, hf⟩ := onm hf
        refine lv_iinc (v := x3_18) (lv' := [(3, .int x3_18), (0, .ref (a 0)), (1, .int x1), (2, .int x2)]) hx hb dX6_findFar_45 hl (k := 3) rfl ex3_18 (by decide) rfl (fun ls hl => ?_)
        refine lv_goto (tgt := 7) hx hb dX6_findFar_48 (by decide) ?_
        exact ih x3_18 σ_17 _ _ _ (lv_sub hl [1, 2, 3, 0] rfl) hP hS (okx hf (hc7 _))
      have hf := oun (f_X6_findFar_b7.eq_1 N x1 x2 x3 σ) hf
      refine lv_iload_n hx hb dX6_findFar_7 rfl (lv_at hl 3 rfl) ?_
      refine lv_aload_n hx hb dX6_findFar_8 rfl (lv_at hl 0 rfl) ?_
      refine va_get (D := D) (ci := 4) (v := .int (σ.1 0 7)) (C := RX6) (T := TX6) (N := 27) hx hb ht gX6 hown hK.1 hP 0 (mw0 a c σ) rfl 19 (by decide) (ht _ q474) (fun _ h9 => h9) rfl dX6_findFar_9 ?_
      refine lv_icmp_ge (tgt := 51) hx hb dX6_findFar_12 (by decide) (fun c_19 => ?_) (fun c_19 => ?_)
      · have hf := oit c_19 hf
        exact j51 x2 σ _ _ _ (lv_sub hl [0, 2] rfl) hP hS (okx hf (hx7 _))
      have hf := oif c_19 hf
      refine lv_aload_n hx hb dX6_findFar_15 rfl (lv_at hl 0 rfl) ?_
      refine lv_aload_n hx hb dX6_findFar_16 rfl (lv_at hl 0 rfl) ?_
      refine va_get (D := D) (ci := 4) (v := .ref (a 10)) (C := RX6) (T := TX6) (N := 27) hx hb ht gX6 hown hK.1 hP 0 (mw0 a c σ) rfl 16 (by decide) (ht _ q59) (fun _ h9 => h9) rfl dX6_findFar_17 ?_
      refine lv_iload_n hx hb dX6_findFar_20 rfl (lv_at hl 3 rfl) ?_
      obtain ⟨g_20, hf⟩ := ogd hf
      refine va_iald hx hb hK.1 hP 10 0 (mw10 a c σ) rfl (ck_in g_20) dX6_findFar_21 ?_
      obtain ⟨σ_21, h_22, hf⟩ := obd hf
      refine xv_V (As := [.int (σ.1 10 x3.toNatClampNeg)]) (rest := []) S k_X6_becomeNest q419 q420 q421 ⟨Nat.le_of_ble_eq_true rfl, Nat.le_of_ble_eq_true rfl⟩ ⟨rfl, rfl⟩ (c_X6_becomeNest l D a c A hD N (σ.1 10 x3.toNatClampNeg) σ σ_21 h_22) hK hP hS (va_recv hK.1 hP (rfl : vwCl[4]? = some (RX6, TX6, 27)) (mw0 a c σ)) rfl hl.1 rfl (Nat.le_of_ble_eq_true rfl) dX6_findFar_22 ⟨Nat.zero_le _, Nat.zero_le _⟩ (fun H locs hP hS => ?_)
      refine lv_aload_n hx hb dX6_findFar_25 rfl (lv_at hl 0 rfl) ?_
      refine va_get (D := D) (ci := 4) (v := .ref (a 12)) (C := RX6) (T := TX6) (N := 27) hx hb ht gX6 hown hK.1 hP 0 (mw0 a c σ_21) rfl 18 (by decide) (ht _ q62) (fun _ h9 => h9) rfl dX6_findFar_26 ?_
      refine lv_iload_n hx hb dX6_findFar_29 rfl (lv_at hl 3 rfl) ?_
      refine lv_aload_n hx hb dX6_findFar_30 rfl (lv_at hl 0 rfl) ?_
      refine lv_iload_n hx hb dX6_findFar_31 rfl (lv_at hl 1 rfl) ?_
      obtain ⟨r_23, h_24, hf⟩ := obd hf
      refine xv_I (As := [.int x1]) (rest := [.int x3, .ref (a 12)]) S k_X6_isTold q479 q480 q481 ⟨Nat.le_of_ble_eq_true rfl, Nat.le_of_ble_eq_true rfl⟩ ⟨rfl, rfl⟩ (c_X6_isTold l D a c A hD N x1 σ_21 r_23 h_24) hK hP hS (va_recv hK.1 hP (rfl : vwCl[4]? = some (RX6, TX6, 27)) (mw0 a c σ_21)) rfl hl.1 rfl (Nat.le_of_ble_eq_true rfl) dX6_findFar_32 ⟨Nat.zero_le _, Nat.zero_le _⟩ (fun H locs hP hS => ?_)
      refine lv_if_eq (tgt := 42) hx hb dX6_findFar_35 (by decide) (fun c_25 => ?_) (fun c_25 => ?_)
      · have hf := oit c_25 hf
        refine lv_bipush (v := (-9 : Int32)) hx hb dX6_findFar_42 (by decide) ?_
        exact j44 x3 x3 (-9 : Int32) σ_21 _ _ _ (lv_sub hl [0, 1, 2, 3] rfl) hP hS hf
      have hf := oif c_25 hf
      refine lv_iconst (v := (0 : Int32)) hx hb dX6_findFar_38 (by decide) ?_
      refine lv_goto (tgt := 44) hx hb dX6_findFar_39 (by decide) ?_
      exact j44 x3 x3 (0 : Int32) σ_21 _ _ _ (lv_sub hl [0, 1, 2, 3] rfl) hP hS hf
  have hf := oun (f_X6_findFar.eq_1 _ _ _) hf
  refine lv_aload_n hx hb dX6_findFar_0 rfl (lv_at hl 0 rfl) ?_
  obtain ⟨r_26, h_27, hf⟩ := obd hf
  refine xv_I (As := []) (rest := []) S k_X6_nestNow q403 q404 q405 ⟨Nat.le_of_ble_eq_true rfl, Nat.le_of_ble_eq_true rfl⟩ ⟨rfl, rfl⟩ (c_X6_nestNow l D a c A hD N σ r_26 h_27) hK hP hS (va_recv hK.1 hP (rfl : vwCl[4]? = some (RX6, TX6, 27)) (mw0 a c σ)) rfl hl.1 rfl (Nat.le_of_ble_eq_true rfl) dX6_findFar_1 ⟨Nat.zero_le _, Nat.zero_le _⟩ (fun H locs hP hS => ?_)
  refine lv_istore_n (lv' := [(2, .int r_26), (0, .ref (a 0)), (1, .int x1)]) hx hb dX6_findFar_4 rfl hl (by decide) rfl (fun ls hl => ?_)
  refine lv_iconst (v := (0 : Int32)) hx hb dX6_findFar_5 (by decide) ?_
  refine lv_istore_n (lv' := [(3, .int (0 : Int32)), (2, .int r_26), (0, .ref (a 0)), (1, .int x1)]) hx hb dX6_findFar_6 rfl hl (by decide) rfl (fun ls hl => ?_)
  exact L7 x1 r_26 N (0 : Int32) σ _ _ _ (lv_sub hl [2, 3, 1, 0] rfl) hP hS hf
theorem dX6_findNests_0 : decode cX6_findNests 0 = .ok (.aload_n 0, 1) := by decide +kernel
theorem dX6_findNests_1 : decode cX6_findNests 1 = .ok (.invokevirtual 157, 3) := by decide +kernel
theorem dX6_findNests_4 : decode cX6_findNests 4 = .ok (.istore_n 1, 1) := by decide +kernel
theorem dX6_findNests_5 : decode cX6_findNests 5 = .ok (.iconst 0, 1) := by decide +kernel
theorem dX6_findNests_6 : decode cX6_findNests 6 = .ok (.istore_n 2, 1) := by decide +kernel
theorem dX6_findNests_7 : decode cX6_findNests 7 = .ok (.iload_n 2, 1) := by decide +kernel
theorem dX6_findNests_8 : decode cX6_findNests 8 = .ok (.sipush 10000, 3) := by decide +kernel
theorem dX6_findNests_11 : decode cX6_findNests 11 = .ok (.if_icmp .ge 17, 3) := by decide +kernel
theorem dX6_findNests_14 : decode cX6_findNests 14 = .ok (.aload_n 0, 1) := by decide +kernel
theorem dX6_findNests_15 : decode cX6_findNests 15 = .ok (.getfield 34, 3) := by decide +kernel
theorem dX6_findNests_18 : decode cX6_findNests 18 = .ok (.iload_n 2, 1) := by decide +kernel
theorem dX6_findNests_19 : decode cX6_findNests 19 = .ok (.bipush (-9), 2) := by decide +kernel
theorem dX6_findNests_21 : decode cX6_findNests 21 = .ok (.iastore, 1) := by decide +kernel
theorem dX6_findNests_22 : decode cX6_findNests 22 = .ok (.iinc 2 1, 3) := by decide +kernel
theorem dX6_findNests_25 : decode cX6_findNests 25 = .ok (.goto (-18), 3) := by decide +kernel
theorem dX6_findNests_28 : decode cX6_findNests 28 = .ok (.aload_n 0, 1) := by decide +kernel
theorem dX6_findNests_29 : decode cX6_findNests 29 = .ok (.getfield 37, 3) := by decide +kernel
theorem dX6_findNests_32 : decode cX6_findNests 32 = .ok (.iconst 0, 1) := by decide +kernel
theorem dX6_findNests_33 : decode cX6_findNests 33 = .ok (.iload_n 1, 1) := by decide +kernel
theorem dX6_findNests_34 : decode cX6_findNests 34 = .ok (.iastore, 1) := by decide +kernel
theorem dX6_findNests_35 : decode cX6_findNests 35 = .ok (.aload_n 0, 1) := by decide +kernel
theorem dX6_findNests_36 : decode cX6_findNests 36 = .ok (.getfield 34, 3) := by decide +kernel
theorem dX6_findNests_39 : decode cX6_findNests 39 = .ok (.iload_n 1, 1) := by decide +kernel
theorem dX6_findNests_40 : decode cX6_findNests 40 = .ok (.iconst 0, 1) := by decide +kernel
theorem dX6_findNests_41 : decode cX6_findNests 41 = .ok (.iastore, 1) := by decide +kernel
theorem dX6_findNests_42 : decode cX6_findNests 42 = .ok (.aload_n 0, 1) := by decide +kernel
theorem dX6_findNests_43 : decode cX6_findNests 43 = .ok (.iconst 1, 1) := by decide +kernel
theorem dX6_findNests_44 : decode cX6_findNests 44 = .ok (.putfield 173, 3) := by decide +kernel
theorem dX6_findNests_47 : decode cX6_findNests 47 = .ok (.iconst 0, 1) := by decide +kernel
theorem dX6_findNests_48 : decode cX6_findNests 48 = .ok (.istore_n 2, 1) := by decide +kernel
theorem dX6_findNests_49 : decode cX6_findNests 49 = .ok (.iload_n 2, 1) := by decide +kernel
theorem dX6_findNests_50 : decode cX6_findNests 50 = .ok (.aload_n 0, 1) := by decide +kernel
theorem dX6_findNests_51 : decode cX6_findNests 51 = .ok (.getfield 173, 3) := by decide +kernel
theorem dX6_findNests_54 : decode cX6_findNests 54 = .ok (.if_icmp .ge 127, 3) := by decide +kernel
theorem dX6_findNests_57 : decode cX6_findNests 57 = .ok (.iconst 0, 1) := by decide +kernel
theorem dX6_findNests_58 : decode cX6_findNests 58 = .ok (.istore_n 3, 1) := by decide +kernel
theorem dX6_findNests_59 : decode cX6_findNests 59 = .ok (.iload_n 3, 1) := by decide +kernel
theorem dX6_findNests_60 : decode cX6_findNests 60 = .ok (.bipush 28, 2) := by decide +kernel
theorem dX6_findNests_62 : decode cX6_findNests 62 = .ok (.if_icmp .ge 113, 3) := by decide +kernel
theorem dX6_findNests_65 : decode cX6_findNests 65 = .ok (.aload_n 0, 1) := by decide +kernel
theorem dX6_findNests_66 : decode cX6_findNests 66 = .ok (.aload_n 0, 1) := by decide +kernel
theorem dX6_findNests_67 : decode cX6_findNests 67 = .ok (.getfield 37, 3) := by decide +kernel
theorem dX6_findNests_70 : decode cX6_findNests 70 = .ok (.iload_n 2, 1) := by decide +kernel
theorem dX6_findNests_71 : decode cX6_findNests 71 = .ok (.iaload, 1) := by decide +kernel
theorem dX6_findNests_72 : decode cX6_findNests 72 = .ok (.invokevirtual 167, 3) := by decide +kernel
theorem dX6_findNests_75 : decode cX6_findNests 75 = .ok (.aload_n 0, 1) := by decide +kernel
theorem dX6_findNests_76 : decode cX6_findNests 76 = .ok (.getfield 41, 3) := by decide +kernel
theorem dX6_findNests_79 : decode cX6_findNests 79 = .ok (.bipush 28, 2) := by decide +kernel
theorem dX6_findNests_81 : decode cX6_findNests 81 = .ok (.iload_n 2, 1) := by decide +kernel
theorem dX6_findNests_82 : decode cX6_findNests 82 = .ok (.imul, 1) := by decide +kernel
theorem dX6_findNests_83 : decode cX6_findNests 83 = .ok (.iload_n 3, 1) := by decide +kernel
theorem dX6_findNests_84 : decode cX6_findNests 84 = .ok (.iadd, 1) := by decide +kernel
theorem dX6_findNests_85 : decode cX6_findNests 85 = .ok (.bipush (-9), 2) := by decide +kernel
theorem dX6_findNests_87 : decode cX6_findNests 87 = .ok (.iastore, 1) := by decide +kernel
theorem dX6_findNests_88 : decode cX6_findNests 88 = .ok (.aload_n 0, 1) := by decide +kernel
theorem dX6_findNests_89 : decode cX6_findNests 89 = .ok (.iload_n 3, 1) := by decide +kernel
theorem dX6_findNests_90 : decode cX6_findNests 90 = .ok (.invokevirtual 146, 3) := by decide +kernel
theorem dX6_findNests_93 : decode cX6_findNests 93 = .ok (.ifCond .eq 76, 3) := by decide +kernel
theorem dX6_findNests_96 : decode cX6_findNests 96 = .ok (.aload_n 0, 1) := by decide +kernel
theorem dX6_findNests_97 : decode cX6_findNests 97 = .ok (.iload_n 3, 1) := by decide +kernel
theorem dX6_findNests_98 : decode cX6_findNests 98 = .ok (.invokevirtual 149, 3) := by decide +kernel
theorem dX6_findNests_101 : decode cX6_findNests 101 = .ok (.aload_n 0, 1) := by decide +kernel
theorem dX6_findNests_102 : decode cX6_findNests 102 = .ok (.invokevirtual 157, 3) := by decide +kernel
theorem dX6_findNests_105 : decode cX6_findNests 105 = .ok (.istore 4, 2) := by decide +kernel
theorem dX6_findNests_107 : decode cX6_findNests 107 = .ok (.aload_n 0, 1) := by decide +kernel
theorem dX6_findNests_108 : decode cX6_findNests 108 = .ok (.getfield 34, 3) := by decide +kernel
theorem dX6_findNests_111 : decode cX6_findNests 111 = .ok (.iload 4, 2) := by decide +kernel
theorem dX6_findNests_113 : decode cX6_findNests 113 = .ok (.iaload, 1) := by decide +kernel
theorem dX6_findNests_114 : decode cX6_findNests 114 = .ok (.bipush (-9), 2) := by decide +kernel
theorem dX6_findNests_116 : decode cX6_findNests 116 = .ok (.if_icmp .ne 35, 3) := by decide +kernel
theorem dX6_findNests_119 : decode cX6_findNests 119 = .ok (.aload_n 0, 1) := by decide +kernel
theorem dX6_findNests_120 : decode cX6_findNests 120 = .ok (.getfield 34, 3) := by decide +kernel
theorem dX6_findNests_123 : decode cX6_findNests 123 = .ok (.iload 4, 2) := by decide +kernel
theorem dX6_findNests_125 : decode cX6_findNests 125 = .ok (.aload_n 0, 1) := by decide +kernel
theorem dX6_findNests_126 : decode cX6_findNests 126 = .ok (.getfield 173, 3) := by decide +kernel
theorem dX6_findNests_129 : decode cX6_findNests 129 = .ok (.iastore, 1) := by decide +kernel
theorem dX6_findNests_130 : decode cX6_findNests 130 = .ok (.aload_n 0, 1) := by decide +kernel
theorem dX6_findNests_131 : decode cX6_findNests 131 = .ok (.getfield 37, 3) := by decide +kernel
theorem dX6_findNests_134 : decode cX6_findNests 134 = .ok (.aload_n 0, 1) := by decide +kernel
theorem dX6_findNests_135 : decode cX6_findNests 135 = .ok (.getfield 173, 3) := by decide +kernel
theorem dX6_findNests_138 : decode cX6_findNests 138 = .ok (.iload 4, 2) := by decide +kernel
theorem dX6_findNests_140 : decode cX6_findNests 140 = .ok (.iastore, 1) := by decide +kernel
theorem dX6_findNests_141 : decode cX6_findNests 141 = .ok (.aload_n 0, 1) := by decide +kernel
theorem dX6_findNests_142 : decode cX6_findNests 142 = .ok (.dup, 1) := by decide +kernel
theorem dX6_findNests_143 : decode cX6_findNests 143 = .ok (.getfield 173, 3) := by decide +kernel
theorem dX6_findNests_146 : decode cX6_findNests 146 = .ok (.iconst 1, 1) := by decide +kernel
theorem dX6_findNests_147 : decode cX6_findNests 147 = .ok (.iadd, 1) := by decide +kernel
theorem dX6_findNests_148 : decode cX6_findNests 148 = .ok (.putfield 173, 3) := by decide +kernel
theorem dX6_findNests_151 : decode cX6_findNests 151 = .ok (.aload_n 0, 1) := by decide +kernel
theorem dX6_findNests_152 : decode cX6_findNests 152 = .ok (.getfield 41, 3) := by decide +kernel
theorem dX6_findNests_155 : decode cX6_findNests 155 = .ok (.bipush 28, 2) := by decide +kernel
theorem dX6_findNests_157 : decode cX6_findNests 157 = .ok (.iload_n 2, 1) := by decide +kernel
theorem dX6_findNests_158 : decode cX6_findNests 158 = .ok (.imul, 1) := by decide +kernel
theorem dX6_findNests_159 : decode cX6_findNests 159 = .ok (.iload_n 3, 1) := by decide +kernel
theorem dX6_findNests_160 : decode cX6_findNests 160 = .ok (.iadd, 1) := by decide +kernel
theorem dX6_findNests_161 : decode cX6_findNests 161 = .ok (.aload_n 0, 1) := by decide +kernel
theorem dX6_findNests_162 : decode cX6_findNests 162 = .ok (.getfield 34, 3) := by decide +kernel
theorem dX6_findNests_165 : decode cX6_findNests 165 = .ok (.iload 4, 2) := by decide +kernel
theorem dX6_findNests_167 : decode cX6_findNests 167 = .ok (.iaload, 1) := by decide +kernel
theorem dX6_findNests_168 : decode cX6_findNests 168 = .ok (.iastore, 1) := by decide +kernel
theorem dX6_findNests_169 : decode cX6_findNests 169 = .ok (.iinc 3 1, 3) := by decide +kernel
theorem dX6_findNests_172 : decode cX6_findNests 172 = .ok (.goto (-113), 3) := by decide +kernel
theorem dX6_findNests_175 : decode cX6_findNests 175 = .ok (.iinc 2 1, 3) := by decide +kernel
theorem dX6_findNests_178 : decode cX6_findNests 178 = .ok (.goto (-129), 3) := by decide +kernel
theorem dX6_findNests_181 : decode cX6_findNests 181 = .ok (.aload_n 0, 1) := by decide +kernel
theorem dX6_findNests_182 : decode cX6_findNests 182 = .ok (.iload_n 1, 1) := by decide +kernel
theorem dX6_findNests_183 : decode cX6_findNests 183 = .ok (.invokevirtual 167, 3) := by decide +kernel
theorem dX6_findNests_186 : decode cX6_findNests 186 = .ok (.return_, 1) := by decide +kernel
def f_X6_findNests_j181 (N : Nat) (x1 : Int32) (σ : St) : Option St :=
  bd (f_X6_becomeNest N x1 σ) fun σ_1 =>
  some σ_1
def f_X6_findNests_j175 (N : Nat) (x1 : Int32) (x2 : Int32) (σ : St) : Option ((Int32 × St) ⊕ ((St))) :=
  nm (x2 + (1 : Int32)) fun x2_3 =>
  some (.inl (x2_3, σ))
def f_X6_findNests_j169 (N : Nat) (x1 : Int32) (x2 : Int32) (x3 : Int32) (σ : St) : Option ((Int32 × St) ⊕ ((St))) :=
  nm (x3 + (1 : Int32)) fun x3_4 =>
  some (.inl (x3_4, σ))
def f_X6_findNests_j151 (N : Nat) (x1 : Int32) (x2 : Int32) (x3 : Int32) (x4 : Int32) (σ : St) : Option ((Int32 × St) ⊕ ((St))) :=
  gd (ck x4 10000) <|
  gd (ck (((28 : Int32) * x2) + x3) 33600) <|
  nm (wS σ 11 (Int32.toNatClampNeg (((28 : Int32) * x2) + x3)) (σ.1 9 x4.toNatClampNeg)) fun σ_7 =>
  f_X6_findNests_j169 N x1 x2 x3 σ_7
def f_X6_findNests_b59 (N : Nat) (x1 : Int32) (x2 : Int32) (x3 : Int32) (σ : St) : Option ((Int32 × St) ⊕ ((St))) :=
  if (28 : Int32) ≤ x3 then (some (.inr σ))
  else gd (ck x2 1200) <|
  bd (f_X6_becomeNest N (σ.1 10 x2.toNatClampNeg) σ) fun σ_10 =>
  gd (ck (((28 : Int32) * x2) + x3) 33600) <|
  nm (wS σ_10 11 (Int32.toNatClampNeg (((28 : Int32) * x2) + x3)) (-9 : Int32)) fun σ_13 =>
  bd (f_X6_canDo N x3 σ_13) fun r_14 =>
  if r_14 = 0 then (f_X6_findNests_j169 N x1 x2 x3 σ_13)
  else bd (f_X6_does x3 σ_13) fun σ_17 =>
  bd (f_X6_nestNow N σ_17) fun r_19 =>
  gd (ck r_19 10000) <|
  if (σ_17.1 9 r_19.toNatClampNeg) = (-9 : Int32) then (gd (ck r_19 10000) <|
    nm (wS σ_17 9 (Int32.toNatClampNeg r_19) (σ_17.1 0 7)) fun σ_24 =>
    gd (ck (σ_24.1 0 7) 1200) <|
    nm (wS σ_24 10 (Int32.toNatClampNeg (σ_24.1 0 7)) r_19) fun σ_26 =>
    nm (wS σ_26 0 7 ((σ_26.1 0 7) + (1 : Int32))) fun σ_27 =>
    f_X6_findNests_j151 N x1 x2 x3 r_19 σ_27)
  else f_X6_findNests_j151 N x1 x2 x3 r_19 σ_17
def f_X6_findNests_b49 (N : Nat) (x1 : Int32) (x2 : Int32) (σ : St) : Option ((Int32 × St) ⊕ ((St))) :=
  if (σ.1 0 7) ≤ x2 then (some (.inr σ))
  else bd (lpF (fun s => f_X6_findNests_b59 N x1 x2 s.1 s.2) N ((0 : Int32), σ)) (fun o => f_X6_findNests_j175 N x1 x2 o)
def f_X6_findNests_j28 (N : Nat) (x1 : Int32) (σ : St) : Option St :=
  gd (ck (0 : Int32) 1200) <|
  nm (wS σ 10 (Int32.toNatClampNeg (0 : Int32)) x1) fun σ_30 =>
  gd (ck x1 10000) <|
  nm (wS σ_30 9 (Int32.toNatClampNeg x1) (0 : Int32)) fun σ_32 =>
  nm (wS σ_32 0 7 (1 : Int32)) fun σ_33 =>
  bd (lpF (fun s => f_X6_findNests_b49 N x1 s.1 s.2) N ((0 : Int32), σ_33)) (fun o => f_X6_findNests_j181 N x1 o)
def f_X6_findNests_b7 (N : Nat) (x1 : Int32) (x2 : Int32) (σ : St) : Option ((Int32 × St) ⊕ ((St))) :=
  if (10000 : Int32) ≤ x2 then (some (.inr σ))
  else gd (ck x2 10000) <|
  nm (wS σ 9 (Int32.toNatClampNeg x2) (-9 : Int32)) fun σ_36 =>
  nm (x2 + (1 : Int32)) fun x2_37 =>
  some (.inl (x2_37, σ_36))
def f_X6_findNests (N : Nat) (σ : St) : Option St :=
  bd (f_X6_nestNow N σ) fun r_38 =>
  bd (lpF (fun s => f_X6_findNests_b7 N r_38 s.1 s.2) N ((0 : Int32), σ)) (fun o => f_X6_findNests_j28 N r_38 o)
abbrev rmX6_findNests : Room := { frames := 3, cells := 0, slots := 0, locals := 67 }
set_option maxRecDepth 100000 in
set_option maxHeartbeats 4000000 in
theorem c_X6_findNests (l : Launch) (D : va_G) (a : Nat → Nat) (c : Nat → ClassId) (A : Nat → Prop) (hD : ∀ σ, va_D A (mW a c σ)) (N : Nat) (σ : St) (u : St) (hf : f_X6_findNests N σ = some u) : MetV l yX6_findNests cX6_findNests 5 (none) rmX6_findNests (mW a c) D c A [.ref (a 0)] σ u := by
  refine mkV (by decide) (Nat.le_of_ble_eq_true rfl) rfl ?_
  intro p e s m args below meth cd Q ls h0 hK hP hret hl
  obtain ⟨S, hr, hlk⟩ := h0
  obtain ⟨hx, hb, hml, hown, ht⟩ := id S
  have hS : va_S A s.heap s.heap [] := va_S.rf
  have hl : lv_has ls 5 [(0, .ref (a 0))] := hl
  have hf := obs hf
  have j181 : ∀ (x1 : Int32) (σ : St) (H : Heap) (locs : List Loc) (ls : Array Slot), lv_has ls 5 [(0, .ref (a 0)), (1, .int x1)] → va_P D vwCl (mW a c σ) H → va_S A s.heap H locs → Option.bind (f_X6_findNests_j181 N x1 σ) some = some u → W p l e rmX6_findNests s m args below meth cd H locs 0 0 Q (F0 m 181 ls []) := by
    intro x1 σ H locs ls hl hP hS hf
    have hf := oun (f_X6_findNests_j181.eq_1 _ _ _) hf
    refine lv_aload_n hx hb dX6_findNests_181 rfl (lv_at hl 0 rfl) ?_
    refine lv_iload_n hx hb dX6_findNests_182 rfl (lv_at hl 1 rfl) ?_
    obtain ⟨σ_1, h_2, hf⟩ := obd hf
    refine xv_V (As := [.int x1]) (rest := []) S k_X6_becomeNest q419 q420 q421 ⟨Nat.le_of_ble_eq_true rfl, Nat.le_of_ble_eq_true rfl⟩ ⟨rfl, rfl⟩ (c_X6_becomeNest l D a c A hD N x1 σ σ_1 h_2) hK hP hS (va_recv hK.1 hP (rfl : vwCl[4]? = some (RX6, TX6, 27)) (mw0 a c σ)) rfl hl.1 rfl (Nat.le_of_ble_eq_true rfl) dX6_findNests_183 ⟨Nat.zero_le _, Nat.zero_le _⟩ (fun H locs hP hS => ?_)
    exact hret _ _ _ _ _ dX6_findNests_186 hP hS (Option.some.inj hf)
  have L49 : ∀ (x1 : Int32) (k : Nat) (x2 : Int32) (σ : St) (H : Heap) (locs : List Loc) (ls : Array Slot), lv_has ls 5 [(0, .ref (a 0)), (1, .int x1), (2, .int x2)] → va_P D vwCl (mW a c σ) H → va_S A s.heap H locs → Option.bind (bd (lpF (fun s => f_X6_findNests_b49 N x1 s.1 s.2) k (x2, σ)) (fun o => f_X6_findNests_j181 N x1 o)) some = some u → W p l e rmX6_findNests s m args below meth cd H locs 0 0 Q (F0 m 49 ls []) := by
    intro x1 k
    induction k with
    | zero =>
      intro x2 σ H locs ls hl hP hS hf
      exact (ol0 hf).elim
    | succ k ih =>
      intro x2 σ H locs ls hl hP hS hf
      obtain ⟨K49, hf, hc49, hx49⟩ := ol1 hf
      have j175 : ∀ (x2 : Int32) (σ : St) (H : Heap) (locs : List Loc) (ls : Array Slot), lv_has ls 5 [(0, .ref (a 0)), (1, .int x1), (2, .int x2)] → va_P D vwCl (mW a c σ) H → va_S A s.heap H locs → Option.bind (f_X6_findNests_j175 N x1 x2 σ) K49 = some u → W p l e rmX6_findNests s m args below meth cd H locs 0 0 Q (F0 m 175 ls []) := by
        intro x2 σ H locs ls hl hP hS hf
        have hf := oun (f_X6_findNests_j175.eq_1 _ _ _ _) hf
        obtain ⟨x2_3, ex2_3, hf⟩ := onm hf
        refine lv_iinc (v := x2_3) (lv' := [(2, .int x2_3), (0, .ref (a 0)), (1, .int x1)]) hx hb dX6_findNests_175 hl (k := 2) rfl ex2_3 (by decide) rfl (fun ls hl => ?_)
        refine lv_goto (tgt := 49) hx hb dX6_findNests_178 (by decide) ?_
        exact ih x2_3 σ _ _ _ (lv_sub hl [1, 2, 0] rfl) hP hS (okx hf (hc49 _))
      have L59 : ∀ (x2 : Int32) (k : Nat) (x3 : Int32) (σ : St) (H : Heap) (locs : List Loc) (ls : Array Slot), lv_has ls 5 [(0, .ref (a 0)), (1, .int x1), (2, .int x2), (3, .int x3)] → va_P D vwCl (mW a c σ) H → va_S A s.heap H locs → Option.bind (bd (lpF (fun s => f_X6_findNests_b59 N x1 x2 s.1 s.2) k (x3, σ)) (fun o => f_X6_findNests_j175 N x1 x2 o)) K49 = some u → W p l e rmX6_findNests s m args below meth cd H locs 0 0 Q (F0 m 59 ls []) := by
        intro x2 k
        induction k with
        | zero =>
          intro x3 σ H locs ls hl hP hS hf
          exact (ol0 hf).elim
        | succ k ih =>
          intro x3 σ H locs ls hl hP hS hf
          obtain ⟨K59, hf, hc59, hx59⟩ := ol1 hf
          have j169 : ∀ (x3 : Int32) (σ : St) (H : Heap) (locs : List Loc) (ls : Array Slot), lv_has ls 5 [(0, .ref (a 0)), (1, .int x1), (2, .int x2), (3, .int x3)] → va_P D vwCl (mW a c σ) H → va_S A s.heap H locs → Option.bind (f_X6_findNests_j169 N x1 x2 x3 σ) K59 = some u → W p l e rmX6_findNests s m args below meth cd H locs 0 0 Q (F0 m 169 ls []) := by
            intro x3 σ H locs ls hl hP hS hf
            have hf := oun (f_X6_findNests_j169.eq_1 _ _ _ _ _) hf
            obtain ⟨x3_4, ex3_4, hf⟩ := onm hf
            refine lv_iinc (v := x3_4) (lv' := [(3, .int x3_4), (0, .ref (a 0)), (1, .int x1), (2, .int x2)]) hx hb dX6_findNests_169 hl (k := 3) rfl ex3_4 (by decide) rfl (fun ls hl => ?_)
            refine lv_goto (tgt := 59) hx hb dX6_findNests_172 (by decide) ?_
            exact ih x3_4 σ _ _ _ (lv_sub hl [1, 2, 3, 0] rfl) hP hS (okx hf (hc59 _))
          have j151 : ∀ (x3 : Int32) (x4 : Int32) (σ : St) (H : Heap) (locs : List Loc) (ls : Array Slot), lv_has ls 5 [(0, .ref (a 0)), (1, .int x1), (2, .int x2), (3, .int x3), (4, .int x4)] → va_P D vwCl (mW a c σ) H → va_S A s.heap H locs → Option.bind (f_X6_findNests_j151 N x1 x2 x3 x4 σ) K59 = some u → W p l e rmX6_findNests s m args below meth cd H locs 0 0 Q (F0 m 151 ls []) := by
            intro x3 x4 σ H locs ls hl hP hS hf
            have hf := oun (f_X6_findNests_j151.eq_1 _ _ _ _ _ _) hf
            refine lv_aload_n hx hb dX6_findNests_151 rfl (lv_at hl 0 rfl) ?_
            refine va_get (D := D) (ci := 4) (v := .ref (a 11)) (C := RX6) (T := TX6) (N := 27) hx hb ht gX6 hown hK.1 hP 0 (mw0 a c σ) rfl 17 (by decide) (ht _ q61) (fun _ h9 => h9) rfl dX6_findNests_152 ?_
            refine lv_bipush (v := (28 : Int32)) hx hb dX6_findNests_155 (by decide) ?_
            refine lv_iload_n hx hb dX6_findNests_157 rfl (lv_at hl 2 rfl) ?_
            refine lv_imul hx hb dX6_findNests_158 ?_
            refine lv_iload_n hx hb dX6_findNests_159 rfl (lv_at hl 3 rfl) ?_
            refine lv_iadd hx hb dX6_findNests_160 ?_
            refine lv_aload_n hx hb dX6_findNests_161 rfl (lv_at hl 0 rfl) ?_
            refine va_get (D := D) (ci := 4) (v := .ref (a 9)) (C := RX6) (T := TX6) (N := 27) hx hb ht gX6 hown hK.1 hP 0 (mw0 a c σ) rfl 15 (by decide) (ht _ q58) (fun _ h9 => h9) rfl dX6_findNests_162 ?_
            refine lv_iload hx hb dX6_findNests_165 (lv_at hl 4 rfl) ?_
            obtain ⟨g_5, hf⟩ := ogd hf
            refine va_iald hx hb hK.1 hP 9 0 (mw9 a c σ) rfl (ck_in g_5) dX6_findNests_167 ?_
            obtain ⟨g_6, hf⟩ := ogd hf
            refine va_iast hx hb hK.1 hP (hD σ) hS 11 0 (mw11 a c σ) rfl (ck_in g_6) dX6_findNests_168 (fun H locs hP _ hS => ?_)
            have hP := vP_eq (mpA_m11 a c σ (Int32.toNatClampNeg (((28 : Int32) * x2) + x3)) (σ.1 9 x4.toNatClampNeg)) hP
            obtain ⟨σ_7, eσ_7, hf⟩ := onm hf
            rw [eσ_7] at hP
            exact j169 x3 σ_7 _ _ _ (lv_sub hl [0, 1, 2, 3] rfl) hP hS hf
          have hf := oun (f_X6_findNests_b59.eq_1 N x1 x2 x3 σ) hf
          refine lv_iload_n hx hb dX6_findNests_59 rfl (lv_at hl 3 rfl) ?_
          refine lv_bipush (v := (28 : Int32)) hx hb dX6_findNests_60 (by decide) ?_
          refine lv_icmp_ge (tgt := 175) hx hb dX6_findNests_62 (by decide) (fun c_8 => ?_) (fun c_8 => ?_)
          · have hf := oit c_8 hf
            exact j175 x2 σ _ _ _ (lv_sub hl [0, 1, 2] rfl) hP hS (okx hf (hx59 _))
          have hf := oif c_8 hf
          refine lv_aload_n hx hb dX6_findNests_65 rfl (lv_at hl 0 rfl) ?_
          refine lv_aload_n hx hb dX6_findNests_66 rfl (lv_at hl 0 rfl) ?_
          refine va_get (D := D) (ci := 4) (v := .ref (a 10)) (C := RX6) (T := TX6) (N := 27) hx hb ht gX6 hown hK.1 hP 0 (mw0 a c σ) rfl 16 (by decide) (ht _ q59) (fun _ h9 => h9) rfl dX6_findNests_67 ?_
          refine lv_iload_n hx hb dX6_findNests_70 rfl (lv_at hl 2 rfl) ?_
          obtain ⟨g_9, hf⟩ := ogd hf
          refine va_iald hx hb hK.1 hP 10 0 (mw10 a c σ) rfl (ck_in g_9) dX6_findNests_71 ?_
          obtain ⟨σ_10, h_11, hf⟩ := obd hf
          refine xv_V (As := [.int (σ.1 10 x2.toNatClampNeg)]) (rest := []) S k_X6_becomeNest q419 q420 q421 ⟨Nat.le_of_ble_eq_true rfl, Nat.le_of_ble_eq_true rfl⟩ ⟨rfl, rfl⟩ (c_X6_becomeNest l D a c A hD N (σ.1 10 x2.toNatClampNeg) σ σ_10 h_11) hK hP hS (va_recv hK.1 hP (rfl : vwCl[4]? = some (RX6, TX6, 27)) (mw0 a c σ)) rfl hl.1 rfl (Nat.le_of_ble_eq_true rfl) dX6_findNests_72 ⟨Nat.zero_le _, Nat.zero_le _⟩ (fun H locs hP hS => ?_)
          refine lv_aload_n hx hb dX6_findNests_75 rfl (lv_at hl 0 rfl) ?_
          refine va_get (D := D) (ci := 4) (v := .ref (a 11)) (C := RX6) (T := TX6) (N := 27) hx hb ht gX6 hown hK.1 hP 0 (mw0 a c σ_10) rfl 17 (by decide) (ht _ q61) (fun _ h9 => h9) rfl dX6_findNests_76 ?_
          refine lv_bipush (v := (28 : Int32)) hx hb dX6_findNests_79 (by decide) ?_
          refine lv_iload_n hx hb dX6_findNests_81 rfl (lv_at hl 2 rfl) ?_
          refine lv_imul hx hb dX6_findNests_82 ?_
          refine lv_iload_n hx hb dX6_findNests_83 rfl (lv_at hl 3 rfl) ?_
          refine lv_iadd hx hb dX6_findNests_84 ?_
          refine lv_bipush (v := (-9 : Int32)) hx hb dX6_findNests_85 (by decide) ?_
          obtain ⟨g_12, hf⟩ := ogd hf
          refine va_iast hx hb hK.1 hP (hD σ_10) hS 11 0 (mw11 a c σ_10) rfl (ck_in g_12) dX6_findNests_87 (fun H locs hP _ hS => ?_)
          have hP := vP_eq (mpA_m11 a c σ_10 (Int32.toNatClampNeg (((28 : Int32) * x2) + x3)) (-9 : Int32)) hP
          obtain ⟨σ_13, eσ_13, hf⟩ := onm hf
          rw [eσ_13] at hP
          refine lv_aload_n hx hb dX6_findNests_88 rfl (lv_at hl 0 rfl) ?_
          refine lv_iload_n hx hb dX6_findNests_89 rfl (lv_at hl 3 rfl) ?_
          obtain ⟨r_14, h_15, hf⟩ := obd hf
          refine xv_I (As := [.int x3]) (rest := []) S k_X6_canDo q338 q339 q340 ⟨Nat.le_of_ble_eq_true rfl, Nat.le_of_ble_eq_true rfl⟩ ⟨rfl, rfl⟩ (c_X6_canDo l D a c A hD N x3 σ_13 r_14 h_15) hK hP hS (va_recv hK.1 hP (rfl : vwCl[4]? = some (RX6, TX6, 27)) (mw0 a c σ_13)) rfl hl.1 rfl (Nat.le_of_ble_eq_true rfl) dX6_findNests_90 ⟨Nat.zero_le _, Nat.zero_le _⟩ (fun H locs hP hS => ?_)
          refine lv_if_eq (tgt := 169) hx hb dX6_findNests_93 (by decide) (fun c_16 => ?_) (fun c_16 => ?_)
          · have hf := oit c_16 hf
            exact j169 x3 σ_13 _ _ _ (lv_sub hl [0, 1, 2, 3] rfl) hP hS hf
          have hf := oif c_16 hf
          refine lv_aload_n hx hb dX6_findNests_96 rfl (lv_at hl 0 rfl) ?_
          refine lv_iload_n hx hb dX6_findNests_97 rfl (lv_at hl 3 rfl) ?_
          obtain ⟨σ_17, h_18, hf⟩ := obd hf
          refine xv_V (As := [.int x3]) (rest := []) S k_X6_does q342 q343 q344 ⟨Nat.le_of_ble_eq_true rfl, Nat.le_of_ble_eq_true rfl⟩ ⟨rfl, rfl⟩ (c_X6_does l D a c A hD x3 σ_13 σ_17 h_18) hK hP hS (va_recv hK.1 hP (rfl : vwCl[4]? = some (RX6, TX6, 27)) (mw0 a c σ_13)) rfl hl.1 rfl (Nat.le_of_ble_eq_true rfl) dX6_findNests_98 ⟨Nat.zero_le _, Nat.zero_le _⟩ (fun H locs hP hS => ?_)
          refine lv_aload_n hx hb dX6_findNests_101 rfl (lv_at hl 0 rfl) ?_
          obtain ⟨r_19, h_20, hf⟩ := obd hf
          refine xv_I (As := []) (rest := []) S k_X6_nestNow q403 q404 q405 ⟨Nat.le_of_ble_eq_true rfl, Nat.le_of_ble_eq_true rfl⟩ ⟨rfl, rfl⟩ (c_X6_nestNow l D a c A hD N σ_17 r_19 h_20) hK hP hS (va_recv hK.1 hP (rfl : vwCl[4]? = some (RX6, TX6, 27)) (mw0 a c σ_17)) rfl hl.1 rfl (Nat.le_of_ble_eq_true rfl) dX6_findNests_102 ⟨Nat.zero_le _, Nat.zero_le _⟩ (fun H locs hP hS => ?_)
          refine lv_istore (lv' := [(4, .int r_19), (0, .ref (a 0)), (1, .int x1), (2, .int x2), (3, .int x3)]) hx hb dX6_findNests_105 hl (by decide) rfl (fun ls hl => ?_)
          refine lv_aload_n hx hb dX6_findNests_107 rfl (lv_at hl 1 rfl) ?_
          refine va_get (D := D) (ci := 4) (v := .ref (a 9)) (C := RX6) (T := TX6) (N := 27) hx hb ht gX6 hown hK.1 hP 0 (mw0 a c σ_17) rfl 15 (by decide) (ht _ q58) (fun _ h9 => h9) rfl dX6_findNests_108 ?_
          refine lv_iload hx hb dX6_findNests_111 (lv_at hl 0 rfl) ?_
          obtain ⟨g_21, hf⟩ := ogd hf
          refine va_iald hx hb hK.1 hP 9 0 (mw9 a c σ_17) rfl (ck_in g_21) dX6_findNests_113 ?_
          refine lv_bipush (v := (-9 : Int32)) hx hb dX6_findNests_114 (by decide) ?_
          refine lv_icmp_ne (tgt := 151) hx hb dX6_findNests_116 (by decide) (fun c_22 => ?_) (fun c_22 => ?_)
          · have hf := oif c_22 hf
            exact j151 x3 r_19 σ_17 _ _ _ (lv_sub hl [1, 2, 3, 4, 0] rfl) hP hS hf
          have hf := oit c_22 hf
          refine lv_aload_n hx hb dX6_findNests_119 rfl (lv_at hl 1 rfl) ?_
          refine va_get (D := D) (ci := 4) (v := .ref (a 9)) (C := RX6) (T := TX6) (N := 27) hx hb ht gX6 hown hK.1 hP 0 (mw0 a c σ_17) rfl 15 (by decide) (ht _ q58) (fun _ h9 => h9) rfl dX6_findNests_120 ?_
          refine lv_iload hx hb dX6_findNests_123 (lv_at hl 0 rfl) ?_
          refine lv_aload_n hx hb dX6_findNests_125 rfl (lv_at hl 1 rfl) ?_
          refine va_get (D := D) (ci := 4) (v := .int (σ_17.1 0 7)) (C := RX6) (T := TX6) (N := 27) hx hb ht gX6 hown hK.1 hP 0 (mw0 a c σ_17) rfl 19 (by decide) (ht _ q474) (fun _ h9 => h9) rfl dX6_findNests_126 ?_
          obtain ⟨g_23, hf⟩ := ogd hf
          refine va_iast hx hb hK.1 hP (hD σ_17) hS 9 0 (mw9 a c σ_17) rfl (ck_in g_23) dX6_findNests_129 (fun H locs hP _ hS => ?_)
          have hP := vP_eq (mpA_m9 a c σ_17 (Int32.toNatClampNeg r_19) (σ_17.1 0 7)) hP
          obtain ⟨σ_24, eσ_24, hf⟩ := onm hf
          rw [eσ_24] at hP
          refine lv_aload_n hx hb dX6_findNests_130 rfl (lv_at hl 1 rfl) ?_
          refine va_get (D := D) (ci := 4) (v := .ref (a 10)) (C := RX6) (T := TX6) (N := 27) hx hb ht gX6 hown hK.1 hP 0 (mw0 a c σ_24) rfl 16 (by decide) (ht _ q59) (fun _ h9 => h9) rfl dX6_findNests_131 ?_
          refine lv_aload_n hx hb dX6_findNests_134 rfl (lv_at hl 1 rfl) ?_
          refine va_get (D := D) (ci := 4) (v := .int (σ_24.1 0 7)) (C := RX6) (T := TX6) (N := 27) hx hb ht gX6 hown hK.1 hP 0 (mw0 a c σ_24) rfl 19 (by decide) (ht _ q474) (fun _ h9 => h9) rfl dX6_findNests_135 ?_
          refine lv_iload hx hb dX6_findNests_138 (lv_at hl 0 rfl) ?_
          obtain ⟨g_25, hf⟩ := ogd hf
          refine va_iast hx hb hK.1 hP (hD σ_24) hS 10 0 (mw10 a c σ_24) rfl (ck_in g_25) dX6_findNests_140 (fun H locs hP _ hS => ?_)
          have hP := vP_eq (mpA_m10 a c σ_24 (Int32.toNatClampNeg (σ_24.1 0 7)) r_19) hP
          obtain ⟨σ_26, eσ_26, hf⟩ := onm hf
          rw [eσ_26] at hP
          refine lv_aload_n hx hb dX6_findNests_141 rfl (lv_at hl 1 rfl) ?_
          refine lv_dup hx hb dX6_findNests_142 rfl ?_
          refine va_get (D := D) (ci := 4) (v := .int (σ_26.1 0 7)) (C := RX6) (T := TX6) (N := 27) hx hb ht gX6 hown hK.1 hP 0 (mw0 a c σ_26) rfl 19 (by decide) (ht _ q474) (fun _ h9 => h9) rfl dX6_findNests_143 ?_
          refine lv_iconst (v := (1 : Int32)) hx hb dX6_findNests_146 (by decide) ?_
          refine lv_iadd hx hb dX6_findNests_147 ?_
          refine va_put (D := D) (ci := 4) (v := .int ((σ_26.1 0 7) + (1 : Int32))) (ty := .int) (C := RX6) (T := TX6) (N := 27) hx hb ht gX6 tyX6 tyX6_ok nmX6 hown hK.1 hP (hD σ_26) hS 0 (mw0 a c σ_26) rfl 19 (by decide) (ht _ q474) (fun _ h9 => h9) rfl (by decide +kernel) rfl rfl (Nat.le_of_ble_eq_true rfl) dX6_findNests_148 (fun H locs hP _ hS => ?_)
          have hP := vP_eq (mpX6_come a c σ_26 ((σ_26.1 0 7) + (1 : Int32))) hP
          obtain ⟨σ_27, eσ_27, hf⟩ := onm hf
          rw [eσ_27] at hP
          exact j151 x3 r_19 σ_27 _ _ _ (lv_sub hl [1, 2, 3, 4, 0] rfl) hP hS hf
      have hf := oun (f_X6_findNests_b49.eq_1 N x1 x2 σ) hf
      refine lv_iload_n hx hb dX6_findNests_49 rfl (lv_at hl 2 rfl) ?_
      refine lv_aload_n hx hb dX6_findNests_50 rfl (lv_at hl 0 rfl) ?_
      refine va_get (D := D) (ci := 4) (v := .int (σ.1 0 7)) (C := RX6) (T := TX6) (N := 27) hx hb ht gX6 hown hK.1 hP 0 (mw0 a c σ) rfl 19 (by decide) (ht _ q474) (fun _ h9 => h9) rfl dX6_findNests_51 ?_
      refine lv_icmp_ge (tgt := 181) hx hb dX6_findNests_54 (by decide) (fun c_28 => ?_) (fun c_28 => ?_)
      · have hf := oit c_28 hf
        exact j181 x1 σ _ _ _ (lv_sub hl [0, 1] rfl) hP hS (okx hf (hx49 _))
      have hf := oif c_28 hf
      refine lv_iconst (v := (0 : Int32)) hx hb dX6_findNests_57 (by decide) ?_
      refine lv_istore_n (lv' := [(3, .int (0 : Int32)), (0, .ref (a 0)), (1, .int x1), (2, .int x2)]) hx hb dX6_findNests_58 rfl hl (by decide) rfl (fun ls hl => ?_)
      exact L59 x2 N (0 : Int32) σ _ _ _ (lv_sub hl [1, 2, 3, 0] rfl) hP hS hf
  have j28 : ∀ (x1 : Int32) (σ : St) (H : Heap) (locs : List Loc) (ls : Array Slot), lv_has ls 5 [(0, .ref (a 0)), (1, .int x1)] → va_P D vwCl (mW a c σ) H → va_S A s.heap H locs → Option.bind (f_X6_findNests_j28 N x1 σ) some = some u → W p l e rmX6_findNests s m args below meth cd H locs 0 0 Q (F0 m 28 ls []) := by
    intro x1 σ H locs ls hl hP hS hf
    have hf := oun (f_X6_findNests_j28.eq_1 _ _ _) hf
    refine lv_aload_n hx hb dX6_findNests_28 rfl (lv_at hl 0 rfl) ?_
    refine va_get (D := D) (ci := 4) (v := .ref (a 10)) (C := RX6) (T := TX6) (N := 27) hx hb ht gX6 hown hK.1 hP 0 (mw0 a c σ) rfl 16 (by decide) (ht _ q59) (fun _ h9 => h9) rfl dX6_findNests_29 ?_
    refine lv_iconst (v := (0 : Int32)) hx hb dX6_findNests_32 (by decide) ?_
    refine lv_iload_n hx hb dX6_findNests_33 rfl (lv_at hl 1 rfl) ?_
    obtain ⟨g_29, hf⟩ := ogd hf
    refine va_iast hx hb hK.1 hP (hD σ) hS 10 0 (mw10 a c σ) rfl (ck_in g_29) dX6_findNests_34 (fun H locs hP _ hS => ?_)
    have hP := vP_eq (mpA_m10 a c σ (Int32.toNatClampNeg (0 : Int32)) x1) hP
    obtain ⟨σ_30, eσ_30, hf⟩ := onm hf
    rw [eσ_30] at hP
    refine lv_aload_n hx hb dX6_findNests_35 rfl (lv_at hl 0 rfl) ?_
    refine va_get (D := D) (ci := 4) (v := .ref (a 9)) (C := RX6) (T := TX6) (N := 27) hx hb ht gX6 hown hK.1 hP 0 (mw0 a c σ_30) rfl 15 (by decide) (ht _ q58) (fun _ h9 => h9) rfl dX6_findNests_36 ?_
    refine lv_iload_n hx hb dX6_findNests_39 rfl (lv_at hl 1 rfl) ?_
    refine lv_iconst (v := (0 : Int32)) hx hb dX6_findNests_40 (by decide) ?_
    obtain ⟨g_31, hf⟩ := ogd hf
    refine va_iast hx hb hK.1 hP (hD σ_30) hS 9 0 (mw9 a c σ_30) rfl (ck_in g_31) dX6_findNests_41 (fun H locs hP _ hS => ?_)
    have hP := vP_eq (mpA_m9 a c σ_30 (Int32.toNatClampNeg x1) (0 : Int32)) hP
    obtain ⟨σ_32, eσ_32, hf⟩ := onm hf
    rw [eσ_32] at hP
    refine lv_aload_n hx hb dX6_findNests_42 rfl (lv_at hl 0 rfl) ?_
    refine lv_iconst (v := (1 : Int32)) hx hb dX6_findNests_43 (by decide) ?_
    refine va_put (D := D) (ci := 4) (v := .int (1 : Int32)) (ty := .int) (C := RX6) (T := TX6) (N := 27) hx hb ht gX6 tyX6 tyX6_ok nmX6 hown hK.1 hP (hD σ_32) hS 0 (mw0 a c σ_32) rfl 19 (by decide) (ht _ q474) (fun _ h9 => h9) rfl (by decide +kernel) rfl rfl (Nat.le_of_ble_eq_true rfl) dX6_findNests_44 (fun H locs hP _ hS => ?_)
    have hP := vP_eq (mpX6_come a c σ_32 (1 : Int32)) hP
    obtain ⟨σ_33, eσ_33, hf⟩ := onm hf
    rw [eσ_33] at hP
    refine lv_iconst (v := (0 : Int32)) hx hb dX6_findNests_47 (by decide) ?_
    refine lv_istore_n (lv' := [(2, .int (0 : Int32)), (0, .ref (a 0)), (1, .int x1)]) hx hb dX6_findNests_48 rfl hl (by decide) rfl (fun ls hl => ?_)
    exact L49 x1 N (0 : Int32) σ_33 _ _ _ (lv_sub hl [1, 2, 0] rfl) hP hS hf
  have L7 : ∀ (x1 : Int32) (k : Nat) (x2 : Int32) (σ : St) (H : Heap) (locs : List Loc) (ls : Array Slot), lv_has ls 5 [(0, .ref (a 0)), (1, .int x1), (2, .int x2)] → va_P D vwCl (mW a c σ) H → va_S A s.heap H locs → Option.bind (bd (lpF (fun s => f_X6_findNests_b7 N x1 s.1 s.2) k (x2, σ)) (fun o => f_X6_findNests_j28 N x1 o)) some = some u → W p l e rmX6_findNests s m args below meth cd H locs 0 0 Q (F0 m 7 ls []) := by
    intro x1 k
    induction k with
    | zero =>
      intro x2 σ H locs ls hl hP hS hf
      exact (ol0 hf).elim
    | succ k ih =>
      intro x2 σ H locs ls hl hP hS hf
      obtain ⟨K7, hf, hc7, hx7⟩ := ol1 hf
      have hf := oun (f_X6_findNests_b7.eq_1 N x1 x2 σ) hf
      refine lv_iload_n hx hb dX6_findNests_7 rfl (lv_at hl 2 rfl) ?_
      refine lv_sipush (v := (10000 : Int32)) hx hb dX6_findNests_8 (by decide) ?_
      refine lv_icmp_ge (tgt := 28) hx hb dX6_findNests_11 (by decide) (fun c_34 => ?_) (fun c_34 => ?_)
      · have hf := oit c_34 hf
        exact j28 x1 σ _ _ _ (lv_sub hl [0, 1] rfl) hP hS (okx hf (hx7 _))
      have hf := oif c_34 hf
      refine lv_aload_n hx hb dX6_findNests_14 rfl (lv_at hl 0 rfl) ?_
      refine va_get (D := D) (ci := 4) (v := .ref (a 9)) (C := RX6) (T := TX6) (N := 27) hx hb ht gX6 hown hK.1 hP 0 (mw0 a c σ) rfl 15 (by decide) (ht _ q58) (fun _ h9 => h9) rfl dX6_findNests_15 ?_
      refine lv_iload_n hx hb dX6_findNests_18 rfl (lv_at hl 2 rfl) ?_
      refine lv_bipush (v := (-9 : Int32)) hx hb dX6_findNests_19 (by decide) ?_
      obtain ⟨g_35, hf⟩ := ogd hf
      refine va_iast hx hb hK.1 hP (hD σ) hS 9 0 (mw9 a c σ) rfl (ck_in g_35) dX6_findNests_21 (fun H locs hP _ hS => ?_)
      have hP := vP_eq (mpA_m9 a c σ (Int32.toNatClampNeg x2) (-9 : Int32)) hP
      obtain ⟨σ_36, eσ_36, hf⟩ := onm hf
      rw [eσ_36] at hP
      obtain ⟨x2_37, ex2_37, hf⟩ := onm hf
      refine lv_iinc (v := x2_37) (lv' := [(2, .int x2_37), (0, .ref (a 0)), (1, .int x1)]) hx hb dX6_findNests_22 hl (k := 2) rfl ex2_37 (by decide) rfl (fun ls hl => ?_)
      refine lv_goto (tgt := 7) hx hb dX6_findNests_25 (by decide) ?_
      exact ih x2_37 σ_36 _ _ _ (lv_sub hl [1, 2, 0] rfl) hP hS (okx hf (hc7 _))
  have hf := oun (f_X6_findNests.eq_1 _ _) hf
  refine lv_aload_n hx hb dX6_findNests_0 rfl (lv_at hl 0 rfl) ?_
  obtain ⟨r_38, h_39, hf⟩ := obd hf
  refine xv_I (As := []) (rest := []) S k_X6_nestNow q403 q404 q405 ⟨Nat.le_of_ble_eq_true rfl, Nat.le_of_ble_eq_true rfl⟩ ⟨rfl, rfl⟩ (c_X6_nestNow l D a c A hD N σ r_38 h_39) hK hP hS (va_recv hK.1 hP (rfl : vwCl[4]? = some (RX6, TX6, 27)) (mw0 a c σ)) rfl hl.1 rfl (Nat.le_of_ble_eq_true rfl) dX6_findNests_1 ⟨Nat.zero_le _, Nat.zero_le _⟩ (fun H locs hP hS => ?_)
  refine lv_istore_n (lv' := [(1, .int r_38), (0, .ref (a 0))]) hx hb dX6_findNests_4 rfl hl (by decide) rfl (fun ls hl => ?_)
  refine lv_iconst (v := (0 : Int32)) hx hb dX6_findNests_5 (by decide) ?_
  refine lv_istore_n (lv' := [(2, .int (0 : Int32)), (1, .int r_38), (0, .ref (a 0))]) hx hb dX6_findNests_6 rfl hl (by decide) rfl (fun ls hl => ?_)
  exact L7 r_38 N (0 : Int32) σ _ _ _ (lv_sub hl [2, 1, 0] rfl) hP hS hf
theorem dX6_fewest_0 : decode cX6_fewest 0 = .ok (.aload_n 0, 1) := by decide +kernel
theorem dX6_fewest_1 : decode cX6_fewest 1 = .ok (.iconst 0, 1) := by decide +kernel
theorem dX6_fewest_2 : decode cX6_fewest 2 = .ok (.putfield 65, 3) := by decide +kernel
theorem dX6_fewest_5 : decode cX6_fewest 5 = .ok (.aload_n 0, 1) := by decide +kernel
theorem dX6_fewest_6 : decode cX6_fewest 6 = .ok (.getfield 75, 3) := by decide +kernel
theorem dX6_fewest_9 : decode cX6_fewest 9 = .ok (.ifCond .ne 6, 3) := by decide +kernel
theorem dX6_fewest_12 : decode cX6_fewest 12 = .ok (.bipush (-3), 2) := by decide +kernel
theorem dX6_fewest_14 : decode cX6_fewest 14 = .ok (.ireturn, 1) := by decide +kernel
theorem dX6_fewest_15 : decode cX6_fewest 15 = .ok (.iload_n 1, 1) := by decide +kernel
theorem dX6_fewest_16 : decode cX6_fewest 16 = .ok (.invokestatic 85, 3) := by decide +kernel
theorem dX6_fewest_19 : decode cX6_fewest 19 = .ok (.ifCond .ne 5, 3) := by decide +kernel
theorem dX6_fewest_22 : decode cX6_fewest 22 = .ok (.iconst (-1), 1) := by decide +kernel
theorem dX6_fewest_23 : decode cX6_fewest 23 = .ok (.ireturn, 1) := by decide +kernel
theorem dX6_fewest_24 : decode cX6_fewest 24 = .ok (.iload_n 2, 1) := by decide +kernel
theorem dX6_fewest_25 : decode cX6_fewest 25 = .ok (.invokestatic 88, 3) := by decide +kernel
theorem dX6_fewest_28 : decode cX6_fewest 28 = .ok (.ifCond .eq 14, 3) := by decide +kernel
theorem dX6_fewest_31 : decode cX6_fewest 31 = .ok (.iload 4, 2) := by decide +kernel
theorem dX6_fewest_33 : decode cX6_fewest 33 = .ok (.iconst (-1), 1) := by decide +kernel
theorem dX6_fewest_34 : decode cX6_fewest 34 = .ok (.bipush 59, 2) := by decide +kernel
theorem dX6_fewest_36 : decode cX6_fewest 36 = .ok (.invokestatic 71, 3) := by decide +kernel
theorem dX6_fewest_39 : decode cX6_fewest 39 = .ok (.ifCond .ne 6, 3) := by decide +kernel
theorem dX6_fewest_42 : decode cX6_fewest 42 = .ok (.bipush (-2), 2) := by decide +kernel
theorem dX6_fewest_44 : decode cX6_fewest 44 = .ok (.ireturn, 1) := by decide +kernel
theorem dX6_fewest_45 : decode cX6_fewest 45 = .ok (.aload_n 0, 1) := by decide +kernel
theorem dX6_fewest_46 : decode cX6_fewest 46 = .ok (.iload_n 1, 1) := by decide +kernel
theorem dX6_fewest_47 : decode cX6_fewest 47 = .ok (.iload_n 2, 1) := by decide +kernel
theorem dX6_fewest_48 : decode cX6_fewest 48 = .ok (.iload_n 3, 1) := by decide +kernel
theorem dX6_fewest_49 : decode cX6_fewest 49 = .ok (.aload_n 0, 1) := by decide +kernel
theorem dX6_fewest_50 : decode cX6_fewest 50 = .ok (.getfield 75, 3) := by decide +kernel
theorem dX6_fewest_53 : decode cX6_fewest 53 = .ok (.invokevirtual 91, 3) := by decide +kernel
theorem dX6_fewest_56 : decode cX6_fewest 56 = .ok (.istore 5, 2) := by decide +kernel
theorem dX6_fewest_58 : decode cX6_fewest 58 = .ok (.iload 5, 2) := by decide +kernel
theorem dX6_fewest_60 : decode cX6_fewest 60 = .ok (.ifCond .eq 10, 3) := by decide +kernel
theorem dX6_fewest_63 : decode cX6_fewest 63 = .ok (.aload_n 0, 1) := by decide +kernel
theorem dX6_fewest_64 : decode cX6_fewest 64 = .ok (.iload 5, 2) := by decide +kernel
theorem dX6_fewest_66 : decode cX6_fewest 66 = .ok (.invokevirtual 95, 3) := by decide +kernel
theorem dX6_fewest_69 : decode cX6_fewest 69 = .ok (.ireturn, 1) := by decide +kernel
theorem dX6_fewest_70 : decode cX6_fewest 70 = .ok (.bipush 60, 2) := by decide +kernel
theorem dX6_fewest_72 : decode cX6_fewest 72 = .ok (.iload_n 1, 1) := by decide +kernel
theorem dX6_fewest_73 : decode cX6_fewest 73 = .ok (.imul, 1) := by decide +kernel
theorem dX6_fewest_74 : decode cX6_fewest 74 = .ok (.iload_n 3, 1) := by decide +kernel
theorem dX6_fewest_75 : decode cX6_fewest 75 = .ok (.iadd, 1) := by decide +kernel
theorem dX6_fewest_76 : decode cX6_fewest 76 = .ok (.istore 6, 2) := by decide +kernel
theorem dX6_fewest_78 : decode cX6_fewest 78 = .ok (.iconst 0, 1) := by decide +kernel
theorem dX6_fewest_79 : decode cX6_fewest 79 = .ok (.istore 7, 2) := by decide +kernel
theorem dX6_fewest_81 : decode cX6_fewest 81 = .ok (.iload 7, 2) := by decide +kernel
theorem dX6_fewest_83 : decode cX6_fewest 83 = .ok (.aload_n 0, 1) := by decide +kernel
theorem dX6_fewest_84 : decode cX6_fewest 84 = .ok (.getfield 75, 3) := by decide +kernel
theorem dX6_fewest_87 : decode cX6_fewest 87 = .ok (.if_icmp .ge 33, 3) := by decide +kernel
theorem dX6_fewest_90 : decode cX6_fewest 90 = .ok (.aload_n 0, 1) := by decide +kernel
theorem dX6_fewest_91 : decode cX6_fewest 91 = .ok (.getfield 16, 3) := by decide +kernel
theorem dX6_fewest_94 : decode cX6_fewest 94 = .ok (.iload 6, 2) := by decide +kernel
theorem dX6_fewest_96 : decode cX6_fewest 96 = .ok (.iload 7, 2) := by decide +kernel
theorem dX6_fewest_98 : decode cX6_fewest 98 = .ok (.iadd, 1) := by decide +kernel
theorem dX6_fewest_99 : decode cX6_fewest 99 = .ok (.iaload, 1) := by decide +kernel
theorem dX6_fewest_100 : decode cX6_fewest 100 = .ok (.iconst 0, 1) := by decide +kernel
theorem dX6_fewest_101 : decode cX6_fewest 101 = .ok (.aload_n 0, 1) := by decide +kernel
theorem dX6_fewest_102 : decode cX6_fewest 102 = .ok (.getfield 75, 3) := by decide +kernel
theorem dX6_fewest_105 : decode cX6_fewest 105 = .ok (.invokestatic 71, 3) := by decide +kernel
theorem dX6_fewest_108 : decode cX6_fewest 108 = .ok (.ifCond .ne 6, 3) := by decide +kernel
theorem dX6_fewest_111 : decode cX6_fewest 111 = .ok (.bipush (-2), 2) := by decide +kernel
theorem dX6_fewest_113 : decode cX6_fewest 113 = .ok (.ireturn, 1) := by decide +kernel
theorem dX6_fewest_114 : decode cX6_fewest 114 = .ok (.iinc 7 1, 3) := by decide +kernel
theorem dX6_fewest_117 : decode cX6_fewest 117 = .ok (.goto (-36), 3) := by decide +kernel
theorem dX6_fewest_120 : decode cX6_fewest 120 = .ok (.aload_n 0, 1) := by decide +kernel
theorem dX6_fewest_121 : decode cX6_fewest 121 = .ok (.invokevirtual 179, 3) := by decide +kernel
theorem dX6_fewest_124 : decode cX6_fewest 124 = .ok (.aload_n 0, 1) := by decide +kernel
theorem dX6_fewest_125 : decode cX6_fewest 125 = .ok (.iload 6, 2) := by decide +kernel
theorem dX6_fewest_127 : decode cX6_fewest 127 = .ok (.invokevirtual 182, 3) := by decide +kernel
theorem dX6_fewest_130 : decode cX6_fewest 130 = .ok (.iload 4, 2) := by decide +kernel
theorem dX6_fewest_132 : decode cX6_fewest 132 = .ok (.iconst (-1), 1) := by decide +kernel
theorem dX6_fewest_133 : decode cX6_fewest 133 = .ok (.if_icmp .ne 10, 3) := by decide +kernel
theorem dX6_fewest_136 : decode cX6_fewest 136 = .ok (.aload_n 0, 1) := by decide +kernel
theorem dX6_fewest_137 : decode cX6_fewest 137 = .ok (.getfield 44, 3) := by decide +kernel
theorem dX6_fewest_140 : decode cX6_fewest 140 = .ok (.iconst 0, 1) := by decide +kernel
theorem dX6_fewest_141 : decode cX6_fewest 141 = .ok (.iaload, 1) := by decide +kernel
theorem dX6_fewest_142 : decode cX6_fewest 142 = .ok (.ireturn, 1) := by decide +kernel
theorem dX6_fewest_143 : decode cX6_fewest 143 = .ok (.iload 4, 2) := by decide +kernel
theorem dX6_fewest_145 : decode cX6_fewest 145 = .ok (.aload_n 0, 1) := by decide +kernel
theorem dX6_fewest_146 : decode cX6_fewest 146 = .ok (.getfield 44, 3) := by decide +kernel
theorem dX6_fewest_149 : decode cX6_fewest 149 = .ok (.iconst 0, 1) := by decide +kernel
theorem dX6_fewest_150 : decode cX6_fewest 150 = .ok (.iaload, 1) := by decide +kernel
theorem dX6_fewest_151 : decode cX6_fewest 151 = .ok (.if_icmp .lt 6, 3) := by decide +kernel
theorem dX6_fewest_154 : decode cX6_fewest 154 = .ok (.bipush (-9), 2) := by decide +kernel
theorem dX6_fewest_156 : decode cX6_fewest 156 = .ok (.ireturn, 1) := by decide +kernel
theorem dX6_fewest_157 : decode cX6_fewest 157 = .ok (.iconst 0, 1) := by decide +kernel
theorem dX6_fewest_158 : decode cX6_fewest 158 = .ok (.istore 7, 2) := by decide +kernel
theorem dX6_fewest_160 : decode cX6_fewest 160 = .ok (.iconst 0, 1) := by decide +kernel
theorem dX6_fewest_161 : decode cX6_fewest 161 = .ok (.istore 8, 2) := by decide +kernel
theorem dX6_fewest_163 : decode cX6_fewest 163 = .ok (.iconst 0, 1) := by decide +kernel
theorem dX6_fewest_164 : decode cX6_fewest 164 = .ok (.istore 9, 2) := by decide +kernel
theorem dX6_fewest_166 : decode cX6_fewest 166 = .ok (.iload 9, 2) := by decide +kernel
theorem dX6_fewest_168 : decode cX6_fewest 168 = .ok (.iload 4, 2) := by decide +kernel
theorem dX6_fewest_170 : decode cX6_fewest 170 = .ok (.if_icmp .gt 81, 3) := by decide +kernel
theorem dX6_fewest_173 : decode cX6_fewest 173 = .ok (.iconst 0, 1) := by decide +kernel
theorem dX6_fewest_174 : decode cX6_fewest 174 = .ok (.istore 8, 2) := by decide +kernel
theorem dX6_fewest_176 : decode cX6_fewest 176 = .ok (.aload_n 0, 1) := by decide +kernel
theorem dX6_fewest_177 : decode cX6_fewest 177 = .ok (.getfield 41, 3) := by decide +kernel
theorem dX6_fewest_180 : decode cX6_fewest 180 = .ok (.bipush 28, 2) := by decide +kernel
theorem dX6_fewest_182 : decode cX6_fewest 182 = .ok (.iload 7, 2) := by decide +kernel
theorem dX6_fewest_184 : decode cX6_fewest 184 = .ok (.imul, 1) := by decide +kernel
theorem dX6_fewest_185 : decode cX6_fewest 185 = .ok (.iload 8, 2) := by decide +kernel
theorem dX6_fewest_187 : decode cX6_fewest 187 = .ok (.iadd, 1) := by decide +kernel
theorem dX6_fewest_188 : decode cX6_fewest 188 = .ok (.iaload, 1) := by decide +kernel
theorem dX6_fewest_189 : decode cX6_fewest 189 = .ok (.bipush (-9), 2) := by decide +kernel
theorem dX6_fewest_191 : decode cX6_fewest 191 = .ok (.if_icmp .eq 33, 3) := by decide +kernel
theorem dX6_fewest_194 : decode cX6_fewest 194 = .ok (.aload_n 0, 1) := by decide +kernel
theorem dX6_fewest_195 : decode cX6_fewest 195 = .ok (.getfield 44, 3) := by decide +kernel
theorem dX6_fewest_198 : decode cX6_fewest 198 = .ok (.aload_n 0, 1) := by decide +kernel
theorem dX6_fewest_199 : decode cX6_fewest 199 = .ok (.getfield 41, 3) := by decide +kernel
theorem dX6_fewest_202 : decode cX6_fewest 202 = .ok (.bipush 28, 2) := by decide +kernel
theorem dX6_fewest_204 : decode cX6_fewest 204 = .ok (.iload 7, 2) := by decide +kernel
theorem dX6_fewest_206 : decode cX6_fewest 206 = .ok (.imul, 1) := by decide +kernel
theorem dX6_fewest_207 : decode cX6_fewest 207 = .ok (.iload 8, 2) := by decide +kernel
theorem dX6_fewest_209 : decode cX6_fewest 209 = .ok (.iadd, 1) := by decide +kernel
theorem dX6_fewest_210 : decode cX6_fewest 210 = .ok (.iaload, 1) := by decide +kernel
theorem dX6_fewest_211 : decode cX6_fewest 211 = .ok (.iaload, 1) := by decide +kernel
theorem dX6_fewest_212 : decode cX6_fewest 212 = .ok (.aload_n 0, 1) := by decide +kernel
theorem dX6_fewest_213 : decode cX6_fewest 213 = .ok (.getfield 44, 3) := by decide +kernel
theorem dX6_fewest_216 : decode cX6_fewest 216 = .ok (.iload 7, 2) := by decide +kernel
theorem dX6_fewest_218 : decode cX6_fewest 218 = .ok (.iaload, 1) := by decide +kernel
theorem dX6_fewest_219 : decode cX6_fewest 219 = .ok (.iconst 1, 1) := by decide +kernel
theorem dX6_fewest_220 : decode cX6_fewest 220 = .ok (.isub, 1) := by decide +kernel
theorem dX6_fewest_221 : decode cX6_fewest 221 = .ok (.if_icmp .eq 9, 3) := by decide +kernel
theorem dX6_fewest_224 : decode cX6_fewest 224 = .ok (.iinc 8 1, 3) := by decide +kernel
theorem dX6_fewest_227 : decode cX6_fewest 227 = .ok (.goto (-51), 3) := by decide +kernel
theorem dX6_fewest_230 : decode cX6_fewest 230 = .ok (.aload_n 0, 1) := by decide +kernel
theorem dX6_fewest_231 : decode cX6_fewest 231 = .ok (.getfield 41, 3) := by decide +kernel
theorem dX6_fewest_234 : decode cX6_fewest 234 = .ok (.bipush 28, 2) := by decide +kernel
theorem dX6_fewest_236 : decode cX6_fewest 236 = .ok (.iload 7, 2) := by decide +kernel
theorem dX6_fewest_238 : decode cX6_fewest 238 = .ok (.imul, 1) := by decide +kernel
theorem dX6_fewest_239 : decode cX6_fewest 239 = .ok (.iload 8, 2) := by decide +kernel
theorem dX6_fewest_241 : decode cX6_fewest 241 = .ok (.iadd, 1) := by decide +kernel
theorem dX6_fewest_242 : decode cX6_fewest 242 = .ok (.iaload, 1) := by decide +kernel
theorem dX6_fewest_243 : decode cX6_fewest 243 = .ok (.istore 7, 2) := by decide +kernel
theorem dX6_fewest_245 : decode cX6_fewest 245 = .ok (.iinc 9 1, 3) := by decide +kernel
theorem dX6_fewest_248 : decode cX6_fewest 248 = .ok (.goto (-82), 3) := by decide +kernel
theorem dX6_fewest_251 : decode cX6_fewest 251 = .ok (.iload 8, 2) := by decide +kernel
theorem dX6_fewest_253 : decode cX6_fewest 253 = .ok (.ireturn, 1) := by decide +kernel
def f_X6_fewest_j251 (N : Nat) (x8 : Int32) (σ : St) : Option (Int32 × St) :=
  some (x8, σ)
def f_X6_fewest_j230 (N : Nat) (x4 : Int32) (x7 : Int32) (x8 : Int32) (x9 : Int32) (σ : St) : Option ((Int32 × Int32 × Int32) ⊕ ((Int32))) :=
  gd (ck (((28 : Int32) * x7) + x8) 33600) <|
  nm (σ.1 11 (((28 : Int32) * x7) + x8).toNatClampNeg) fun x7_2 =>
  nm (x9 + (1 : Int32)) fun x9_3 =>
  some (.inl (x7_2, x8, x9_3))
def f_X6_fewest_j224 (N : Nat) (x4 : Int32) (x7 : Int32) (x8 : Int32) (x9 : Int32) (σ : St) : Option ((Int32) ⊕ ((Int32))) :=
  nm (x8 + (1 : Int32)) fun x8_4 =>
  some (.inl x8_4)
def f_X6_fewest_b176 (N : Nat) (x4 : Int32) (x7 : Int32) (x8 : Int32) (x9 : Int32) (σ : St) : Option ((Int32) ⊕ ((Int32))) :=
  gd (ck (((28 : Int32) * x7) + x8) 33600) <|
  if (σ.1 11 (((28 : Int32) * x7) + x8).toNatClampNeg) = (-9 : Int32) then (f_X6_fewest_j224 N x4 x7 x8 x9 σ)
  else gd (ck (((28 : Int32) * x7) + x8) 33600) <|
  gd (ck (σ.1 11 (((28 : Int32) * x7) + x8).toNatClampNeg) 1200) <|
  gd (ck x7 1200) <|
  if (σ.1 12 (σ.1 11 (((28 : Int32) * x7) + x8).toNatClampNeg).toNatClampNeg) = ((σ.1 12 x7.toNatClampNeg) - (1 : Int32)) then (some (.inr x8))
  else f_X6_fewest_j224 N x4 x7 x8 x9 σ
def f_X6_fewest_b166 (N : Nat) (x4 : Int32) (x7 : Int32) (x8 : Int32) (x9 : Int32) (σ : St) : Option ((Int32 × Int32 × Int32) ⊕ ((Int32))) :=
  if x4 < x9 then (some (.inr x8))
  else bd (lpF (fun s => f_X6_fewest_b176 N x4 x7 s x9 σ) N (0 : Int32)) (fun o => f_X6_fewest_j230 N x4 x7 o x9 σ)
def f_X6_fewest_j120 (N : Nat) (x4 : Int32) (x6 : Int32) (σ : St) : Option (Int32 × St) :=
  bd (f_X6_findNests N σ) fun σ_12 =>
  bd (f_X6_findFar N x6 σ_12) fun σ_14 =>
  if x4 = (-1 : Int32) then (gd (ck (0 : Int32) 1200) <|
    some ((σ_14.1 12 (0 : Int32).toNatClampNeg), σ_14))
  else gd (ck (0 : Int32) 1200) <|
    if x4 < (σ_14.1 12 (0 : Int32).toNatClampNeg) then (bd (lpF (fun s => f_X6_fewest_b166 N x4 s.1 s.2.1 s.2.2 σ_14) N ((0 : Int32), (0 : Int32), (0 : Int32))) (fun o => f_X6_fewest_j251 N o σ_14))
    else some ((-9 : Int32), σ_14)
def f_X6_fewest_b81 (N : Nat) (x4 : Int32) (x6 : Int32) (x7 : Int32) (σ : St) : Option ((Int32) ⊕ ((Int32 × St) ⊕ (Unit))) :=
  if (σ.1 0 2) ≤ x7 then (some (.inr (.inr ())))
  else gd (ck (x6 + x7) 240) <|
  bd (f_X6_within (σ.1 3 (x6 + x7).toNatClampNeg) (0 : Int32) (σ.1 0 2)) fun r_22 =>
  if r_22 = 0 then (some (.inr (.inl ((-2 : Int32), σ))))
  else nm (x7 + (1 : Int32)) fun x7_25 =>
    some (.inl x7_25)
def f_X6_fewest (N : Nat) (x1 : Int32) (x2 : Int32) (x3 : Int32) (x4 : Int32) (σ : St) : Option (Int32 × St) :=
  nm (wS σ 0 0 (0 : Int32)) fun σ_26 =>
  if (σ_26.1 0 2) = 0 then (some ((-3 : Int32), σ_26))
  else bd (f_X6_isSheet x1) fun r_28 =>
    if r_28 = 0 then (some ((-1 : Int32), σ_26))
    else bd (f_X6_isSort x2) fun r_31 =>
      if r_31 = 0 then (some ((-2 : Int32), σ_26))
      else bd (f_X6_within x4 (-1 : Int32) (59 : Int32)) fun r_34 =>
      if r_34 = 0 then (some ((-2 : Int32), σ_26))
      else bd (f_X6_against x1 x2 x3 (σ_26.1 0 2) σ_26) fun r_37 =>
        if r_37 = 0 then (nm (((60 : Int32) * x1) + x3) fun x6_40 =>
          bd (lpF (fun s => f_X6_fewest_b81 N x4 x6_40 s σ_26) N (0 : Int32)) (Sum.elim (fun v => some v) (fun o => f_X6_fewest_j120 N x4 x6_40 σ_26)))
        else bd2 (f_X6_fails r_37 σ_26) fun r_41 σ_42 =>
        some (r_41, σ_42)
abbrev rmX6_fewest : Room := { frames := 4, cells := 0, slots := 0, locals := 91 }
set_option maxRecDepth 100000 in
set_option maxHeartbeats 4000000 in
theorem c_X6_fewest (l : Launch) (D : va_G) (a : Nat → Nat) (c : Nat → ClassId) (A : Nat → Prop) (hD : ∀ σ, va_D A (mW a c σ)) (N : Nat) (x1 : Int32) (x2 : Int32) (x3 : Int32) (x4 : Int32) (σ : St) (r : Int32) (u : St) (hf : f_X6_fewest N x1 x2 x3 x4 σ = some (r, u)) : MetI l yX6_fewest cX6_fewest 10 (some .int) rmX6_fewest (mW a c) D c A [.ref (a 0), .int x1, .int x2, .int x3, .int x4] σ r u := by
  refine mkI (by decide) (Nat.le_of_ble_eq_true rfl) rfl ?_
  intro p e s m args below meth cd Q ls h0 hK hP hret hl
  obtain ⟨S, hr, hlk⟩ := h0
  obtain ⟨hx, hb, hml, hown, ht⟩ := id S
  have hS : va_S A s.heap s.heap [] := va_S.rf
  have hl : lv_has ls 10 [(0, .ref (a 0)), (1, .int x1), (2, .int x2), (3, .int x3), (4, .int x4)] := hl
  have hf := obs hf
  have j251 : ∀ (x8 : Int32) (σ : St) (H : Heap) (locs : List Loc) (ls : Array Slot), lv_has ls 10 [(8, .int x8)] → va_P D vwCl (mW a c σ) H → va_S A s.heap H locs → Option.bind (f_X6_fewest_j251 N x8 σ) some = some (r, u) → W p l e rmX6_fewest s m args below meth cd H locs 0 0 Q (F0 m 251 ls []) := by
    intro x8 σ H locs ls hl hP hS hf
    have hf := oun (f_X6_fewest_j251.eq_1 _ _ _) hf
    refine lv_iload hx hb dX6_fewest_251 (lv_at hl 0 rfl) ?_
    exact hret _ _ _ _ _ _ dX6_fewest_253 rfl hP hS (oret hf)
  have L166 : ∀ (x4 : Int32) (σ : St) (k : Nat) (x7 : Int32) (x8 : Int32) (x9 : Int32) (H : Heap) (locs : List Loc) (ls : Array Slot), lv_has ls 10 [(0, .ref (a 0)), (4, .int x4), (7, .int x7), (8, .int x8), (9, .int x9)] → va_P D vwCl (mW a c σ) H → va_S A s.heap H locs → Option.bind (bd (lpF (fun s => f_X6_fewest_b166 N x4 s.1 s.2.1 s.2.2 σ) k (x7, x8, x9)) (fun o => f_X6_fewest_j251 N o σ)) some = some (r, u) → W p l e rmX6_fewest s m args below meth cd H locs 0 0 Q (F0 m 166 ls []) := by
    intro x4 σ k
    induction k with
    | zero =>
      intro x7 x8 x9 H locs ls hl hP hS hf
      exact (ol0 hf).elim
    | succ k ih =>
      intro x7 x8 x9 H locs ls hl hP hS hf
      obtain ⟨K166, hf, hc166, hx166⟩ := ol1 hf
      have j230 : ∀ (x7 : Int32) (x8 : Int32) (x9 : Int32) (H : Heap) (locs : List Loc) (ls : Array Slot), lv_has ls 10 [(0, .ref (a 0)), (4, .int x4), (7, .int x7), (8, .int x8), (9, .int x9)] → va_P D vwCl (mW a c σ) H → va_S A s.heap H locs → Option.bind (f_X6_fewest_j230 N x4 x7 x8 x9 σ) K166 = some (r, u) → W p l e rmX6_fewest s m args below meth cd H locs 0 0 Q (F0 m 230 ls []) := by
        intro x7 x8 x9 H locs ls hl hP hS hf
        have hf := oun (f_X6_fewest_j230.eq_1 _ _ _ _ _ _) hf
        refine lv_aload_n hx hb dX6_fewest_230 rfl (lv_at hl 0 rfl) ?_
        refine va_get (D := D) (ci := 4) (v := .ref (a 11)) (C := RX6) (T := TX6) (N := 27) hx hb ht gX6 hown hK.1 hP 0 (mw0 a c σ) rfl 17 (by decide) (ht _ q61) (fun _ h9 => h9) rfl dX6_fewest_231 ?_
        refine lv_bipush (v := (28 : Int32)) hx hb dX6_fewest_234 (by decide) ?_
        refine lv_iload hx hb dX6_fewest_236 (lv_at hl 2 rfl) ?_
        refine lv_imul hx hb dX6_fewest_238 ?_
        refine lv_iload hx hb dX6_fewest_239 (lv_at hl 3 rfl) ?_
        refine lv_iadd hx hb dX6_fewest_241 ?_
        obtain ⟨g_1, hf⟩ := ogd hf
        refine va_iald hx hb hK.1 hP 11 0 (mw11 a c σ) rfl (ck_in g_1) dX6_fewest_242 ?_
        obtain ⟨x7_2, ex7_2, hf⟩ := onm hf
        refine lv_nm ex7_2 ?_
        refine lv_istore (lv' := [(7, .int x7_2), (0, .ref (a 0)), (4, .int x4), (8, .int x8), (9, .int x9)]) hx hb dX6_fewest_243 hl (by decide) rfl (fun ls hl => ?_)
        obtain ⟨x9_3, ex9_3, hf⟩ := onm hf
        refine lv_iinc (v := x9_3) (lv' := [(9, .int x9_3), (7, .int x7_2), (0, .ref (a 0)), (4, .int x4), (8, .int x8)]) hx hb dX6_fewest_245 hl (k := 4) rfl ex9_3 (by decide) rfl (fun ls hl => ?_)
        refine lv_goto (tgt := 166) hx hb dX6_fewest_248 (by decide) ?_
        exact ih x7_2 x8 x9_3 _ _ _ (lv_sub hl [2, 3, 1, 4, 0] rfl) hP hS (okx hf (hc166 _))
      have L176 : ∀ (x7 : Int32) (x9 : Int32) (k : Nat) (x8 : Int32) (H : Heap) (locs : List Loc) (ls : Array Slot), lv_has ls 10 [(0, .ref (a 0)), (4, .int x4), (7, .int x7), (8, .int x8), (9, .int x9)] → va_P D vwCl (mW a c σ) H → va_S A s.heap H locs → Option.bind (bd (lpF (fun s => f_X6_fewest_b176 N x4 x7 s x9 σ) k x8) (fun o => f_X6_fewest_j230 N x4 x7 o x9 σ)) K166 = some (r, u) → W p l e rmX6_fewest s m args below meth cd H locs 0 0 Q (F0 m 176 ls []) := by
        intro x7 x9 k
        induction k with
        | zero =>
          intro x8 H locs ls hl hP hS hf
          exact (ol0 hf).elim
        | succ k ih =>
          intro x8 H locs ls hl hP hS hf
          obtain ⟨K176, hf, hc176, hx176⟩ := ol1 hf
          have j224 : ∀ (x8 : Int32) (H : Heap) (locs : List Loc) (ls : Array Slot), lv_has ls 10 [(0, .ref (a 0)), (4, .int x4), (7, .int x7), (8, .int x8), (9, .int x9)] → va_P D vwCl (mW a c σ) H → va_S A s.heap H locs → Option.bind (f_X6_fewest_j224 N x4 x7 x8 x9 σ) K176 = some (r, u) → W p l e rmX6_fewest s m args below meth cd H locs 0 0 Q (F0 m 224 ls []) := by
            intro x8 H locs ls hl hP hS hf
            have hf := oun (f_X6_fewest_j224.eq_1 _ _ _ _ _ _) hf
            obtain ⟨x8_4, ex8_4, hf⟩ := onm hf
            refine lv_iinc (v := x8_4) (lv' := [(8, .int x8_4), (0, .ref (a 0)), (4, .int x4), (7, .int x7), (9, .int x9)]) hx hb dX6_fewest_224 hl (k := 3) rfl ex8_4 (by decide) rfl (fun ls hl => ?_)
            refine lv_goto (tgt := 176) hx hb dX6_fewest_227 (by decide) ?_
            exact ih x8_4 _ _ _ (lv_sub hl [1, 2, 3, 0, 4] rfl) hP hS (okx hf (hc176 _))
          have hf := oun (f_X6_fewest_b176.eq_1 N x4 x7 x8 x9 σ) hf
          refine lv_aload_n hx hb dX6_fewest_176 rfl (lv_at hl 0 rfl) ?_
          refine va_get (D := D) (ci := 4) (v := .ref (a 11)) (C := RX6) (T := TX6) (N := 27) hx hb ht gX6 hown hK.1 hP 0 (mw0 a c σ) rfl 17 (by decide) (ht _ q61) (fun _ h9 => h9) rfl dX6_fewest_177 ?_
          refine lv_bipush (v := (28 : Int32)) hx hb dX6_fewest_180 (by decide) ?_
          refine lv_iload hx hb dX6_fewest_182 (lv_at hl 2 rfl) ?_
          refine lv_imul hx hb dX6_fewest_184 ?_
          refine lv_iload hx hb dX6_fewest_185 (lv_at hl 3 rfl) ?_
          refine lv_iadd hx hb dX6_fewest_187 ?_
          obtain ⟨g_5, hf⟩ := ogd hf
          refine va_iald hx hb hK.1 hP 11 0 (mw11 a c σ) rfl (ck_in g_5) dX6_fewest_188 ?_
          refine lv_bipush (v := (-9 : Int32)) hx hb dX6_fewest_189 (by decide) ?_
          refine lv_icmp_eq (tgt := 224) hx hb dX6_fewest_191 (by decide) (fun c_6 => ?_) (fun c_6 => ?_)
          · have hf := oit c_6 hf
            exact j224 x8 _ _ _ (lv_sub hl [0, 1, 2, 3, 4] rfl) hP hS hf
          have hf := oif c_6 hf
          refine lv_aload_n hx hb dX6_fewest_194 rfl (lv_at hl 0 rfl) ?_
          refine va_get (D := D) (ci := 4) (v := .ref (a 12)) (C := RX6) (T := TX6) (N := 27) hx hb ht gX6 hown hK.1 hP 0 (mw0 a c σ) rfl 18 (by decide) (ht _ q62) (fun _ h9 => h9) rfl dX6_fewest_195 ?_
          refine lv_aload_n hx hb dX6_fewest_198 rfl (lv_at hl 0 rfl) ?_
          refine va_get (D := D) (ci := 4) (v := .ref (a 11)) (C := RX6) (T := TX6) (N := 27) hx hb ht gX6 hown hK.1 hP 0 (mw0 a c σ) rfl 17 (by decide) (ht _ q61) (fun _ h9 => h9) rfl dX6_fewest_199 ?_
          refine lv_bipush (v := (28 : Int32)) hx hb dX6_fewest_202 (by decide) ?_
          refine lv_iload hx hb dX6_fewest_204 (lv_at hl 2 rfl) ?_
          refine lv_imul hx hb dX6_fewest_206 ?_
          refine lv_iload hx hb dX6_fewest_207 (lv_at hl 3 rfl) ?_
          refine lv_iadd hx hb dX6_fewest_209 ?_
          obtain ⟨g_7, hf⟩ := ogd hf
          refine va_iald hx hb hK.1 hP 11 0 (mw11 a c σ) rfl (ck_in g_7) dX6_fewest_210 ?_
          obtain ⟨g_8, hf⟩ := ogd hf
          refine va_iald hx hb hK.1 hP 12 0 (mw12 a c σ) rfl (ck_in g_8) dX6_fewest_211 ?_
          refine lv_aload_n hx hb dX6_fewest_212 rfl (lv_at hl 0 rfl) ?_
          refine va_get (D := D) (ci := 4) (v := .ref (a 12)) (C := RX6) (T := TX6) (N := 27) hx hb ht gX6 hown hK.1 hP 0 (mw0 a c σ) rfl 18 (by decide) (ht _ q62) (fun _ h9 => h9) rfl dX6_fewest_213 ?_
          refine lv_iload hx hb dX6_fewest_216 (lv_at hl 2 rfl) ?_
          obtain ⟨g_9, hf⟩ := ogd hf
          refine va_iald hx hb hK.1 hP 12 0 (mw12 a c σ) rfl (ck_in g_9) dX6_fewest_218 ?_
          refine lv_iconst (v := (1 : Int32)) hx hb dX6_fewest_219 (by decide) ?_
          refine lv_isub hx hb dX6_fewest_220 ?_
          refine lv_icmp_eq (tgt := 230) hx hb dX6_fewest_221 (by decide) (fun c_10 => ?_) (fun c_10 => ?_)
          · have hf := oit c_10 hf
            exact j230 x7 x8 x9 _ _ _ (lv_sub hl [0, 1, 2, 3, 4] rfl) hP hS (okx hf (hx176 _))
          have hf := oif c_10 hf
          exact j224 x8 _ _ _ (lv_sub hl [0, 1, 2, 3, 4] rfl) hP hS hf
      have hf := oun (f_X6_fewest_b166.eq_1 N x4 x7 x8 x9 σ) hf
      refine lv_iload hx hb dX6_fewest_166 (lv_at hl 4 rfl) ?_
      refine lv_iload hx hb dX6_fewest_168 (lv_at hl 1 rfl) ?_
      refine lv_icmp_gt (tgt := 251) hx hb dX6_fewest_170 (by decide) (fun c_11 => ?_) (fun c_11 => ?_)
      · have hf := oit c_11 hf
        exact j251 x8 σ _ _ _ (lv_sub hl [3] rfl) hP hS (okx hf (hx166 _))
      have hf := oif c_11 hf
      refine lv_iconst (v := (0 : Int32)) hx hb dX6_fewest_173 (by decide) ?_
      refine lv_istore (lv' := [(8, .int (0 : Int32)), (0, .ref (a 0)), (4, .int x4), (7, .int x7), (9, .int x9)]) hx hb dX6_fewest_174 hl (by decide) rfl (fun ls hl => ?_)
      exact L176 x7 x9 N (0 : Int32) _ _ _ (lv_sub hl [1, 2, 3, 0, 4] rfl) hP hS hf
  have j120 : ∀ (x4 : Int32) (x6 : Int32) (σ : St) (H : Heap) (locs : List Loc) (ls : Array Slot), lv_has ls 10 [(0, .ref (a 0)), (4, .int x4), (6, .int x6)] → va_P D vwCl (mW a c σ) H → va_S A s.heap H locs → Option.bind (f_X6_fewest_j120 N x4 x6 σ) some = some (r, u) → W p l e rmX6_fewest s m args below meth cd H locs 0 0 Q (F0 m 120 ls []) := by
    intro x4 x6 σ H locs ls hl hP hS hf
    have hf := oun (f_X6_fewest_j120.eq_1 _ _ _ _) hf
    refine lv_aload_n hx hb dX6_fewest_120 rfl (lv_at hl 0 rfl) ?_
    obtain ⟨σ_12, h_13, hf⟩ := obd hf
    refine xv_V (As := []) (rest := []) S k_X6_findNests q470 q471 q472 ⟨Nat.le_of_ble_eq_true rfl, Nat.le_of_ble_eq_true rfl⟩ ⟨rfl, rfl⟩ (c_X6_findNests l D a c A hD N σ σ_12 h_13) hK hP hS (va_recv hK.1 hP (rfl : vwCl[4]? = some (RX6, TX6, 27)) (mw0 a c σ)) rfl hl.1 rfl (Nat.le_of_ble_eq_true rfl) dX6_fewest_121 ⟨Nat.zero_le _, Nat.zero_le _⟩ (fun H locs hP hS => ?_)
    refine lv_aload_n hx hb dX6_fewest_124 rfl (lv_at hl 0 rfl) ?_
    refine lv_iload hx hb dX6_fewest_125 (lv_at hl 2 rfl) ?_
    obtain ⟨σ_14, h_15, hf⟩ := obd hf
    refine xv_V (As := [.int x6]) (rest := []) S k_X6_findFar q475 q476 q477 ⟨Nat.le_of_ble_eq_true rfl, Nat.le_of_ble_eq_true rfl⟩ ⟨rfl, rfl⟩ (c_X6_findFar l D a c A hD N x6 σ_12 σ_14 h_15) hK hP hS (va_recv hK.1 hP (rfl : vwCl[4]? = some (RX6, TX6, 27)) (mw0 a c σ_12)) rfl hl.1 rfl (Nat.le_of_ble_eq_true rfl) dX6_fewest_127 ⟨Nat.zero_le _, Nat.zero_le _⟩ (fun H locs hP hS => ?_)
    refine lv_iload hx hb dX6_fewest_130 (lv_at hl 1 rfl) ?_
    refine lv_iconst (v := (-1 : Int32)) hx hb dX6_fewest_132 (by decide) ?_
    refine lv_icmp_ne (tgt := 143) hx hb dX6_fewest_133 (by decide) (fun c_16 => ?_) (fun c_16 => ?_)
    · have hf := oif c_16 hf
      refine lv_iload hx hb dX6_fewest_143 (lv_at hl 1 rfl) ?_
      refine lv_aload_n hx hb dX6_fewest_145 rfl (lv_at hl 0 rfl) ?_
      refine va_get (D := D) (ci := 4) (v := .ref (a 12)) (C := RX6) (T := TX6) (N := 27) hx hb ht gX6 hown hK.1 hP 0 (mw0 a c σ_14) rfl 18 (by decide) (ht _ q62) (fun _ h9 => h9) rfl dX6_fewest_146 ?_
      refine lv_iconst (v := (0 : Int32)) hx hb dX6_fewest_149 (by decide) ?_
      obtain ⟨g_17, hf⟩ := ogd hf
      refine va_iald hx hb hK.1 hP 12 0 (mw12 a c σ_14) rfl (ck_in g_17) dX6_fewest_150 ?_
      refine lv_icmp_lt (tgt := 157) hx hb dX6_fewest_151 (by decide) (fun c_18 => ?_) (fun c_18 => ?_)
      · have hf := oit c_18 hf
        refine lv_iconst (v := (0 : Int32)) hx hb dX6_fewest_157 (by decide) ?_
        refine lv_istore (lv' := [(7, .int (0 : Int32)), (0, .ref (a 0)), (4, .int x4), (6, .int x6)]) hx hb dX6_fewest_158 hl (by decide) rfl (fun ls hl => ?_)
        refine lv_iconst (v := (0 : Int32)) hx hb dX6_fewest_160 (by decide) ?_
        refine lv_istore (lv' := [(8, .int (0 : Int32)), (7, .int (0 : Int32)), (0, .ref (a 0)), (4, .int x4), (6, .int x6)]) hx hb dX6_fewest_161 hl (by decide) rfl (fun ls hl => ?_)
        refine lv_iconst (v := (0 : Int32)) hx hb dX6_fewest_163 (by decide) ?_
        refine lv_istore (lv' := [(9, .int (0 : Int32)), (8, .int (0 : Int32)), (7, .int (0 : Int32)), (0, .ref (a 0)), (4, .int x4), (6, .int x6)]) hx hb dX6_fewest_164 hl (by decide) rfl (fun ls hl => ?_)
        exact L166 x4 σ_14 N (0 : Int32) (0 : Int32) (0 : Int32) _ _ _ (lv_sub hl [3, 4, 2, 1, 0] rfl) hP hS hf
      have hf := oif c_18 hf
      refine lv_bipush (v := (-9 : Int32)) hx hb dX6_fewest_154 (by decide) ?_
      exact hret _ _ _ _ _ _ dX6_fewest_156 rfl hP hS (oret hf)
    have hf := oit c_16 hf
    refine lv_aload_n hx hb dX6_fewest_136 rfl (lv_at hl 0 rfl) ?_
    refine va_get (D := D) (ci := 4) (v := .ref (a 12)) (C := RX6) (T := TX6) (N := 27) hx hb ht gX6 hown hK.1 hP 0 (mw0 a c σ_14) rfl 18 (by decide) (ht _ q62) (fun _ h9 => h9) rfl dX6_fewest_137 ?_
    refine lv_iconst (v := (0 : Int32)) hx hb dX6_fewest_140 (by decide) ?_
    obtain ⟨g_19, hf⟩ := ogd hf
    refine va_iald hx hb hK.1 hP 12 0 (mw12 a c σ_14) rfl (ck_in g_19) dX6_fewest_141 ?_
    exact hret _ _ _ _ _ _ dX6_fewest_142 rfl hP hS (oret hf)
  have L81 : ∀ (x4 : Int32) (x6 : Int32) (σ : St) (k : Nat) (x7 : Int32) (H : Heap) (locs : List Loc) (ls : Array Slot), lv_has ls 10 [(0, .ref (a 0)), (4, .int x4), (6, .int x6), (7, .int x7)] → va_P D vwCl (mW a c σ) H → va_S A s.heap H locs → Option.bind (bd (lpF (fun s => f_X6_fewest_b81 N x4 x6 s σ) k x7) (Sum.elim (fun v => some v) (fun o => f_X6_fewest_j120 N x4 x6 σ))) some = some (r, u) → W p l e rmX6_fewest s m args below meth cd H locs 0 0 Q (F0 m 81 ls []) := by
    intro x4 x6 σ k
    induction k with
    | zero =>
      intro x7 H locs ls hl hP hS hf
      exact (ol0 hf).elim
    | succ k ih =>
      intro x7 H locs ls hl hP hS hf
      obtain ⟨K81, hf, hc81, hx81⟩ := ol1 hf
      have hf := oun (f_X6_fewest_b81.eq_1 N x4 x6 x7 σ) hf
      refine lv_iload hx hb dX6_fewest_81 (lv_at hl 3 rfl) ?_
      refine lv_aload_n hx hb dX6_fewest_83 rfl (lv_at hl 0 rfl) ?_
      refine va_get (D := D) (ci := 4) (v := .int (σ.1 0 2)) (C := RX6) (T := TX6) (N := 27) hx hb ht gX6 hown hK.1 hP 0 (mw0 a c σ) rfl 5 (by decide) (ht _ q139) (fun _ h9 => h9) rfl dX6_fewest_84 ?_
      refine lv_icmp_ge (tgt := 120) hx hb dX6_fewest_87 (by decide) (fun c_20 => ?_) (fun c_20 => ?_)
      · have hf := oit c_20 hf
        exact j120 x4 x6 σ _ _ _ (lv_sub hl [0, 1, 2] rfl) hP hS (okx hf (hx81 _))
      have hf := oif c_20 hf
      refine lv_aload_n hx hb dX6_fewest_90 rfl (lv_at hl 0 rfl) ?_
      refine va_get (D := D) (ci := 4) (v := .ref (a 3)) (C := RX6) (T := TX6) (N := 27) hx hb ht gX6 hown hK.1 hP 0 (mw0 a c σ) rfl 4 (by decide) (ht _ q52) (fun _ h9 => h9) rfl dX6_fewest_91 ?_
      refine lv_iload hx hb dX6_fewest_94 (lv_at hl 2 rfl) ?_
      refine lv_iload hx hb dX6_fewest_96 (lv_at hl 3 rfl) ?_
      refine lv_iadd hx hb dX6_fewest_98 ?_
      obtain ⟨g_21, hf⟩ := ogd hf
      refine va_iald hx hb hK.1 hP 3 0 (mw3 a c σ) rfl (ck_in g_21) dX6_fewest_99 ?_
      refine lv_iconst (v := (0 : Int32)) hx hb dX6_fewest_100 (by decide) ?_
      refine lv_aload_n hx hb dX6_fewest_101 rfl (lv_at hl 0 rfl) ?_
      refine va_get (D := D) (ci := 4) (v := .int (σ.1 0 2)) (C := RX6) (T := TX6) (N := 27) hx hb ht gX6 hown hK.1 hP 0 (mw0 a c σ) rfl 5 (by decide) (ht _ q139) (fun _ h9 => h9) rfl dX6_fewest_102 ?_
      obtain ⟨r_22, h_23, hf⟩ := obd hf
      refine xs_S (As := [.int (σ.1 3 (x6 + x7).toNatClampNeg), .int (0 : Int32), .int (σ.1 0 2)]) (rest := []) S k_X6_within q146 q147 ⟨Nat.le_of_ble_eq_true rfl, Nat.le_of_ble_eq_true rfl⟩ ⟨rfl, rfl⟩ (c_X6_within l (σ.1 3 (x6 + x7).toNatClampNeg) (0 : Int32) (σ.1 0 2) r_22 h_23) hK.2 rfl hl.1 rfl (Nat.le_of_ble_eq_true rfl) dX6_fewest_105 ⟨Nat.zero_le _, Nat.zero_le _⟩ ?_
      refine lv_if_ne (tgt := 114) hx hb dX6_fewest_108 (by decide) (fun c_24 => ?_) (fun c_24 => ?_)
      · have hf := oif c_24 hf
        obtain ⟨x7_25, ex7_25, hf⟩ := onm hf
        refine lv_iinc (v := x7_25) (lv' := [(7, .int x7_25), (0, .ref (a 0)), (4, .int x4), (6, .int x6)]) hx hb dX6_fewest_114 hl (k := 3) rfl ex7_25 (by decide) rfl (fun ls hl => ?_)
        refine lv_goto (tgt := 81) hx hb dX6_fewest_117 (by decide) ?_
        exact ih x7_25 _ _ _ (lv_sub hl [1, 2, 3, 0] rfl) hP hS (okx hf (hc81 _))
      have hf := oit c_24 hf
      refine lv_bipush (v := (-2 : Int32)) hx hb dX6_fewest_111 (by decide) ?_
      have hf := okx hf (hx81 _)
      exact hret _ _ _ _ _ _ dX6_fewest_113 rfl hP hS (oret hf)
  have hf := oun (f_X6_fewest.eq_1 _ _ _ _ _ _) hf
  refine lv_aload_n hx hb dX6_fewest_0 rfl (lv_at hl 0 rfl) ?_
  refine lv_iconst (v := (0 : Int32)) hx hb dX6_fewest_1 (by decide) ?_
  refine va_put (D := D) (ci := 4) (v := .int (0 : Int32)) (ty := .int) (C := RX6) (T := TX6) (N := 27) hx hb ht gX6 tyX6 tyX6_ok nmX6 hown hK.1 hP (hD σ) hS 0 (mw0 a c σ) rfl 0 (by decide) (ht _ q136) (fun _ h9 => h9) rfl (by decide +kernel) rfl rfl (Nat.le_of_ble_eq_true rfl) dX6_fewest_2 (fun H locs hP _ hS => ?_)
  have hP := vP_eq (mpX6_fault a c σ (0 : Int32)) hP
  obtain ⟨σ_26, eσ_26, hf⟩ := onm hf
  rw [eσ_26] at hP
  refine lv_aload_n hx hb dX6_fewest_5 rfl (lv_at hl 0 rfl) ?_
  refine va_get (D := D) (ci := 4) (v := .int (σ_26.1 0 2)) (C := RX6) (T := TX6) (N := 27) hx hb ht gX6 hown hK.1 hP 0 (mw0 a c σ_26) rfl 5 (by decide) (ht _ q139) (fun _ h9 => h9) rfl dX6_fewest_6 ?_
  refine lv_if_ne (tgt := 15) hx hb dX6_fewest_9 (by decide) (fun c_27 => ?_) (fun c_27 => ?_)
  · have hf := oif c_27 hf
    refine lv_iload_n hx hb dX6_fewest_15 rfl (lv_at hl 1 rfl) ?_
    obtain ⟨r_28, h_29, hf⟩ := obd hf
    refine xs_S (As := [.int x1]) (rest := []) S k_X6_isSheet q143 q144 ⟨Nat.le_of_ble_eq_true rfl, Nat.le_of_ble_eq_true rfl⟩ ⟨rfl, rfl⟩ (c_X6_isSheet l x1 r_28 h_29) hK.2 rfl hl.1 rfl (Nat.le_of_ble_eq_true rfl) dX6_fewest_16 ⟨Nat.zero_le _, Nat.zero_le _⟩ ?_
    refine lv_if_ne (tgt := 24) hx hb dX6_fewest_19 (by decide) (fun c_30 => ?_) (fun c_30 => ?_)
    · have hf := oif c_30 hf
      refine lv_iload_n hx hb dX6_fewest_24 rfl (lv_at hl 2 rfl) ?_
      obtain ⟨r_31, h_32, hf⟩ := obd hf
      refine xs_S (As := [.int x2]) (rest := []) S k_X6_isSort q149 q150 ⟨Nat.le_of_ble_eq_true rfl, Nat.le_of_ble_eq_true rfl⟩ ⟨rfl, rfl⟩ (c_X6_isSort l x2 r_31 h_32) hK.2 rfl hl.1 rfl (Nat.le_of_ble_eq_true rfl) dX6_fewest_25 ⟨Nat.zero_le _, Nat.zero_le _⟩ ?_
      refine lv_if_eq (tgt := 42) hx hb dX6_fewest_28 (by decide) (fun c_33 => ?_) (fun c_33 => ?_)
      · have hf := oit c_33 hf
        refine lv_bipush (v := (-2 : Int32)) hx hb dX6_fewest_42 (by decide) ?_
        exact hret _ _ _ _ _ _ dX6_fewest_44 rfl hP hS (oret hf)
      have hf := oif c_33 hf
      refine lv_iload hx hb dX6_fewest_31 (lv_at hl 4 rfl) ?_
      refine lv_iconst (v := (-1 : Int32)) hx hb dX6_fewest_33 (by decide) ?_
      refine lv_bipush (v := (59 : Int32)) hx hb dX6_fewest_34 (by decide) ?_
      obtain ⟨r_34, h_35, hf⟩ := obd hf
      refine xs_S (As := [.int x4, .int (-1 : Int32), .int (59 : Int32)]) (rest := []) S k_X6_within q146 q147 ⟨Nat.le_of_ble_eq_true rfl, Nat.le_of_ble_eq_true rfl⟩ ⟨rfl, rfl⟩ (c_X6_within l x4 (-1 : Int32) (59 : Int32) r_34 h_35) hK.2 rfl hl.1 rfl (Nat.le_of_ble_eq_true rfl) dX6_fewest_36 ⟨Nat.zero_le _, Nat.zero_le _⟩ ?_
      refine lv_if_ne (tgt := 45) hx hb dX6_fewest_39 (by decide) (fun c_36 => ?_) (fun c_36 => ?_)
      · have hf := oif c_36 hf
        refine lv_aload_n hx hb dX6_fewest_45 rfl (lv_at hl 0 rfl) ?_
        refine lv_iload_n hx hb dX6_fewest_46 rfl (lv_at hl 1 rfl) ?_
        refine lv_iload_n hx hb dX6_fewest_47 rfl (lv_at hl 2 rfl) ?_
        refine lv_iload_n hx hb dX6_fewest_48 rfl (lv_at hl 3 rfl) ?_
        refine lv_aload_n hx hb dX6_fewest_49 rfl (lv_at hl 0 rfl) ?_
        refine va_get (D := D) (ci := 4) (v := .int (σ_26.1 0 2)) (C := RX6) (T := TX6) (N := 27) hx hb ht gX6 hown hK.1 hP 0 (mw0 a c σ_26) rfl 5 (by decide) (ht _ q139) (fun _ h9 => h9) rfl dX6_fewest_50 ?_
        obtain ⟨r_37, h_38, hf⟩ := obd hf
        refine xv_I (As := [.int x1, .int x2, .int x3, .int (σ_26.1 0 2)]) (rest := []) S k_X6_against q152 q153 q154 ⟨Nat.le_of_ble_eq_true rfl, Nat.le_of_ble_eq_true rfl⟩ ⟨rfl, rfl⟩ (c_X6_against l D a c A hD x1 x2 x3 (σ_26.1 0 2) σ_26 r_37 h_38) hK hP hS (va_recv hK.1 hP (rfl : vwCl[4]? = some (RX6, TX6, 27)) (mw0 a c σ_26)) rfl hl.1 rfl (Nat.le_of_ble_eq_true rfl) dX6_fewest_53 ⟨Nat.zero_le _, Nat.zero_le _⟩ (fun H locs hP hS => ?_)
        refine lv_istore (lv' := [(5, .int r_37), (0, .ref (a 0)), (1, .int x1), (2, .int x2), (3, .int x3), (4, .int x4)]) hx hb dX6_fewest_56 hl (by decide) rfl (fun ls hl => ?_)
        refine lv_iload hx hb dX6_fewest_58 (lv_at hl 0 rfl) ?_
        refine lv_if_eq (tgt := 70) hx hb dX6_fewest_60 (by decide) (fun c_39 => ?_) (fun c_39 => ?_)
        · have hf := oit c_39 hf
          refine lv_bipush (v := (60 : Int32)) hx hb dX6_fewest_70 (by decide) ?_
          refine lv_iload_n hx hb dX6_fewest_72 rfl (lv_at hl 2 rfl) ?_
          refine lv_imul hx hb dX6_fewest_73 ?_
          refine lv_iload_n hx hb dX6_fewest_74 rfl (lv_at hl 4 rfl) ?_
          refine lv_iadd hx hb dX6_fewest_75 ?_
          obtain ⟨x6_40, ex6_40, hf⟩ := onm hf
          refine lv_nm ex6_40 ?_
          refine lv_istore (lv' := [(6, .int x6_40), (5, .int r_37), (0, .ref (a 0)), (1, .int x1), (2, .int x2), (3, .int x3), (4, .int x4)]) hx hb dX6_fewest_76 hl (by decide) rfl (fun ls hl => ?_)
          refine lv_iconst (v := (0 : Int32)) hx hb dX6_fewest_78 (by decide) ?_
          refine lv_istore (lv' := [(7, .int (0 : Int32)), (6, .int x6_40), (5, .int r_37), (0, .ref (a 0)), (1, .int x1), (2, .int x2), (3, .int x3), (4, .int x4)]) hx hb dX6_fewest_79 hl (by decide) rfl (fun ls hl => ?_)
          exact L81 x4 x6_40 σ_26 N (0 : Int32) _ _ _ (lv_sub hl [3, 7, 1, 0] rfl) hP hS hf
        have hf := oif c_39 hf
        refine lv_aload_n hx hb dX6_fewest_63 rfl (lv_at hl 1 rfl) ?_
        refine lv_iload hx hb dX6_fewest_64 (lv_at hl 0 rfl) ?_
        obtain ⟨r_41, σ_42, h_43, hf⟩ := obd2 hf
        refine xv_I (As := [.int r_37]) (rest := []) S k_X6_fails q156 q157 q158 ⟨Nat.le_of_ble_eq_true rfl, Nat.le_of_ble_eq_true rfl⟩ ⟨rfl, rfl⟩ (c_X6_fails l D a c A hD r_37 σ_26 r_41 σ_42 h_43) hK hP hS (va_recv hK.1 hP (rfl : vwCl[4]? = some (RX6, TX6, 27)) (mw0 a c σ_26)) rfl hl.1 rfl (Nat.le_of_ble_eq_true rfl) dX6_fewest_66 ⟨Nat.zero_le _, Nat.zero_le _⟩ (fun H locs hP hS => ?_)
        exact hret _ _ _ _ _ _ dX6_fewest_69 rfl hP hS (oret hf)
      have hf := oit c_36 hf
      refine lv_bipush (v := (-2 : Int32)) hx hb dX6_fewest_42 (by decide) ?_
      exact hret _ _ _ _ _ _ dX6_fewest_44 rfl hP hS (oret hf)
    have hf := oit c_30 hf
    refine lv_iconst (v := (-1 : Int32)) hx hb dX6_fewest_22 (by decide) ?_
    exact hret _ _ _ _ _ _ dX6_fewest_23 rfl hP hS (oret hf)
  have hf := oit c_27 hf
  refine lv_bipush (v := (-3 : Int32)) hx hb dX6_fewest_12 (by decide) ?_
  exact hret _ _ _ _ _ _ dX6_fewest_14 rfl hP hS (oret hf)
