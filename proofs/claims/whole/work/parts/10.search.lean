theorem dX1_lengthTo_0 : decode cX1_lengthTo 0 = .ok (.iconst 0, 1) := by decide +kernel
theorem dX1_lengthTo_1 : decode cX1_lengthTo 1 = .ok (.istore_n 2, 1) := by decide +kernel
theorem dX1_lengthTo_2 : decode cX1_lengthTo 2 = .ok (.iload_n 1, 1) := by decide +kernel
theorem dX1_lengthTo_3 : decode cX1_lengthTo 3 = .ok (.istore_n 3, 1) := by decide +kernel
theorem dX1_lengthTo_4 : decode cX1_lengthTo 4 = .ok (.iload_n 3, 1) := by decide +kernel
theorem dX1_lengthTo_5 : decode cX1_lengthTo 5 = .ok (.ifCond .le 31, 3) := by decide +kernel
theorem dX1_lengthTo_8 : decode cX1_lengthTo 8 = .ok (.iload_n 3, 1) := by decide +kernel
theorem dX1_lengthTo_9 : decode cX1_lengthTo 9 = .ok (.aload_n 0, 1) := by decide +kernel
theorem dX1_lengthTo_10 : decode cX1_lengthTo 10 = .ok (.getfield 27, 3) := by decide +kernel
theorem dX1_lengthTo_13 : decode cX1_lengthTo 13 = .ok (.if_icmp .ge 23, 3) := by decide +kernel
theorem dX1_lengthTo_16 : decode cX1_lengthTo 16 = .ok (.iload_n 2, 1) := by decide +kernel
theorem dX1_lengthTo_17 : decode cX1_lengthTo 17 = .ok (.sipush 580, 3) := by decide +kernel
theorem dX1_lengthTo_20 : decode cX1_lengthTo 20 = .ok (.if_icmp .ge 16, 3) := by decide +kernel
theorem dX1_lengthTo_23 : decode cX1_lengthTo 23 = .ok (.iinc 2 1, 3) := by decide +kernel
theorem dX1_lengthTo_26 : decode cX1_lengthTo 26 = .ok (.aload_n 0, 1) := by decide +kernel
theorem dX1_lengthTo_27 : decode cX1_lengthTo 27 = .ok (.getfield 15, 3) := by decide +kernel
theorem dX1_lengthTo_30 : decode cX1_lengthTo 30 = .ok (.iload_n 3, 1) := by decide +kernel
theorem dX1_lengthTo_31 : decode cX1_lengthTo 31 = .ok (.iaload, 1) := by decide +kernel
theorem dX1_lengthTo_32 : decode cX1_lengthTo 32 = .ok (.istore_n 3, 1) := by decide +kernel
theorem dX1_lengthTo_33 : decode cX1_lengthTo 33 = .ok (.goto (-29), 3) := by decide +kernel
theorem dX1_lengthTo_36 : decode cX1_lengthTo 36 = .ok (.iload_n 2, 1) := by decide +kernel
theorem dX1_lengthTo_37 : decode cX1_lengthTo 37 = .ok (.ireturn, 1) := by decide +kernel
def f_X1_lengthTo_j36 (N : Nat) (x2 : Int32) (σ : St) : Option Int32 :=
  some x2
def f_X1_lengthTo_b4 (N : Nat) (x2 : Int32) (x3 : Int32) (σ : St) : Option ((Int32 × Int32) ⊕ ((Int32))) :=
  if x3 ≤ 0 then (some (.inr x2))
  else if (σ.1 0 6) ≤ x3 then (some (.inr x2))
  else if (580 : Int32) ≤ x2 then (some (.inr x2))
  else nm (x2 + (1 : Int32)) fun x2_4 =>
  gd (ck x3 580) <|
  nm (σ.1 10 x3.toNatClampNeg) fun x3_6 =>
  some (.inl (x2_4, x3_6))
def f_X1_lengthTo (N : Nat) (x1 : Int32) (σ : St) : Option Int32 :=
  bd (lpF (fun s => f_X1_lengthTo_b4 N s.1 s.2 σ) N ((0 : Int32), x1)) (fun o => f_X1_lengthTo_j36 N o σ)
abbrev rmX1_lengthTo : Room := { frames := 0, cells := 0, slots := 0, locals := 0 }
set_option maxRecDepth 100000 in
set_option maxHeartbeats 4000000 in
theorem c_X1_lengthTo (l : Launch) (D : va_G) (a : Nat → Nat) (c : Nat → ClassId) (A : Nat → Prop) (hD : ∀ σ, va_D A (cW a c σ)) (N : Nat) (x1 : Int32) (σ : St) (r : Int32) (hf : f_X1_lengthTo N x1 σ = some r) : MetI l yX1_lengthTo cX1_lengthTo 4 (some .int) rmX1_lengthTo (cW a c) D c A [.ref (a 6), .int x1] σ r σ := by
  refine mkI (by decide) (Nat.le_of_ble_eq_true rfl) rfl ?_
  intro p e s m args below meth cd Q ls h0 hK hP hret hl
  obtain ⟨S, hr, hlk⟩ := h0
  obtain ⟨hx, hb, hml, hown, ht⟩ := id S
  have hS : va_S A s.heap s.heap [] := va_S.rf
  have hl : lv_has ls 4 [(0, .ref (a 6)), (1, .int x1)] := hl
  have hf := obs hf
  have j36 : ∀ (x2 : Int32) (H : Heap) (locs : List Loc) (ls : Array Slot), lv_has ls 4 [(2, .int x2)] → va_P D vwCl (cW a c σ) H → va_S A s.heap H locs → Option.bind (f_X1_lengthTo_j36 N x2 σ) some = some r → W p l e rmX1_lengthTo s m args below meth cd H locs 0 0 Q (F0 m 36 ls []) := by
    intro x2 H locs ls hl hP hS hf
    have hf := oun (f_X1_lengthTo_j36.eq_1 _ _ _) hf
    refine lv_iload_n hx hb dX1_lengthTo_36 rfl (lv_at hl 0 rfl) ?_
    exact hret _ _ _ _ _ _ dX1_lengthTo_37 rfl hP hS ⟨Option.some.inj hf, rfl⟩
  have L4 : ∀ (k : Nat) (x2 : Int32) (x3 : Int32) (H : Heap) (locs : List Loc) (ls : Array Slot), lv_has ls 4 [(0, .ref (a 6)), (2, .int x2), (3, .int x3)] → va_P D vwCl (cW a c σ) H → va_S A s.heap H locs → Option.bind (bd (lpF (fun s => f_X1_lengthTo_b4 N s.1 s.2 σ) k (x2, x3)) (fun o => f_X1_lengthTo_j36 N o σ)) some = some r → W p l e rmX1_lengthTo s m args below meth cd H locs 0 0 Q (F0 m 4 ls []) := by
    intro k
    induction k with
    | zero =>
      intro x2 x3 H locs ls hl hP hS hf
      exact (ol0 hf).elim
    | succ k ih =>
      intro x2 x3 H locs ls hl hP hS hf
      obtain ⟨K4, hf, hc4, hx4⟩ := ol1 hf
      have hf := oun (f_X1_lengthTo_b4.eq_1 N x2 x3 σ) hf
      refine lv_iload_n hx hb dX1_lengthTo_4 rfl (lv_at hl 2 rfl) ?_
      refine lv_if_le (tgt := 36) hx hb dX1_lengthTo_5 (by decide) (fun c_1 => ?_) (fun c_1 => ?_)
      · have hf := oit c_1 hf
        exact j36 x2 _ _ _ (lv_sub hl [1] rfl) hP hS (okx hf (hx4 _))
      have hf := oif c_1 hf
      refine lv_iload_n hx hb dX1_lengthTo_8 rfl (lv_at hl 2 rfl) ?_
      refine lv_aload_n hx hb dX1_lengthTo_9 rfl (lv_at hl 0 rfl) ?_
      refine va_get (D := D) (ci := 1) (v := .int (σ.1 0 6)) (C := RX1) (T := TX1) (N := 7) hx hb ht gX1 hown hK.1 hP 6 (cw6 a c σ) rfl 4 (by decide) (ht _ q431) (fun _ h9 => h9) rfl dX1_lengthTo_10 ?_
      refine lv_icmp_ge (tgt := 36) hx hb dX1_lengthTo_13 (by decide) (fun c_2 => ?_) (fun c_2 => ?_)
      · have hf := oit c_2 hf
        exact j36 x2 _ _ _ (lv_sub hl [1] rfl) hP hS (okx hf (hx4 _))
      have hf := oif c_2 hf
      refine lv_iload_n hx hb dX1_lengthTo_16 rfl (lv_at hl 1 rfl) ?_
      refine lv_sipush (v := (580 : Int32)) hx hb dX1_lengthTo_17 (by decide) ?_
      refine lv_icmp_ge (tgt := 36) hx hb dX1_lengthTo_20 (by decide) (fun c_3 => ?_) (fun c_3 => ?_)
      · have hf := oit c_3 hf
        exact j36 x2 _ _ _ (lv_sub hl [1] rfl) hP hS (okx hf (hx4 _))
      have hf := oif c_3 hf
      obtain ⟨x2_4, ex2_4, hf⟩ := onm hf
      refine lv_iinc (v := x2_4) (lv' := [(2, .int x2_4), (0, .ref (a 6)), (3, .int x3)]) hx hb dX1_lengthTo_23 hl (k := 1) rfl ex2_4 (by decide) rfl (fun ls hl => ?_)
      refine lv_aload_n hx hb dX1_lengthTo_26 rfl (lv_at hl 1 rfl) ?_
      refine va_get (D := D) (ci := 1) (v := .ref (a 8)) (C := RX1) (T := TX1) (N := 7) hx hb ht gX1 hown hK.1 hP 6 (cw6 a c σ) rfl 1 (by decide) (ht _ q33) (fun _ h9 => h9) rfl dX1_lengthTo_27 ?_
      refine lv_iload_n hx hb dX1_lengthTo_30 rfl (lv_at hl 2 rfl) ?_
      obtain ⟨g_5, hf⟩ := ogd hf
      refine va_iald hx hb hK.1 hP 8 0 (cw8 a c σ) rfl (ck_in g_5) dX1_lengthTo_31 ?_
      obtain ⟨x3_6, ex3_6, hf⟩ := onm hf
      refine lv_nm ex3_6 ?_
      refine lv_istore_n (lv' := [(3, .int x3_6), (2, .int x2_4), (0, .ref (a 6))]) hx hb dX1_lengthTo_32 rfl hl (by decide) rfl (fun ls hl => ?_)
      refine lv_goto (tgt := 4) hx hb dX1_lengthTo_33 (by decide) ?_
      exact ih x2_4 x3_6 _ _ _ (lv_sub hl [2, 1, 0] rfl) hP hS (okx hf (hc4 _))
  have hf := oun (f_X1_lengthTo.eq_1 _ _ _) hf
  refine lv_iconst (v := (0 : Int32)) hx hb dX1_lengthTo_0 (by decide) ?_
  refine lv_istore_n (lv' := [(2, .int (0 : Int32)), (0, .ref (a 6)), (1, .int x1)]) hx hb dX1_lengthTo_1 rfl hl (by decide) rfl (fun ls hl => ?_)
  refine lv_iload_n hx hb dX1_lengthTo_2 rfl (lv_at hl 2 rfl) ?_
  refine lv_istore_n (lv' := [(3, .int x1), (2, .int (0 : Int32)), (0, .ref (a 6)), (1, .int x1)]) hx hb dX1_lengthTo_3 rfl hl (by decide) rfl (fun ls hl => ?_)
  exact L4 N (0 : Int32) x1 _ _ _ (lv_sub hl [2, 1, 0] rfl) hP hS hf
theorem dX1_actTo_0 : decode cX1_actTo 0 = .ok (.aload_n 0, 1) := by decide +kernel
theorem dX1_actTo_1 : decode cX1_actTo 1 = .ok (.iload_n 1, 1) := by decide +kernel
theorem dX1_actTo_2 : decode cX1_actTo 2 = .ok (.invokevirtual 81, 3) := by decide +kernel
theorem dX1_actTo_5 : decode cX1_actTo 5 = .ok (.iconst 1, 1) := by decide +kernel
theorem dX1_actTo_6 : decode cX1_actTo 6 = .ok (.isub, 1) := by decide +kernel
theorem dX1_actTo_7 : decode cX1_actTo 7 = .ok (.istore_n 3, 1) := by decide +kernel
theorem dX1_actTo_8 : decode cX1_actTo 8 = .ok (.iload_n 1, 1) := by decide +kernel
theorem dX1_actTo_9 : decode cX1_actTo 9 = .ok (.istore 4, 2) := by decide +kernel
theorem dX1_actTo_11 : decode cX1_actTo 11 = .ok (.iload 4, 2) := by decide +kernel
theorem dX1_actTo_13 : decode cX1_actTo 13 = .ok (.ifCond .le 45, 3) := by decide +kernel
theorem dX1_actTo_16 : decode cX1_actTo 16 = .ok (.iload 4, 2) := by decide +kernel
theorem dX1_actTo_18 : decode cX1_actTo 18 = .ok (.aload_n 0, 1) := by decide +kernel
theorem dX1_actTo_19 : decode cX1_actTo 19 = .ok (.getfield 27, 3) := by decide +kernel
theorem dX1_actTo_22 : decode cX1_actTo 22 = .ok (.if_icmp .ge 36, 3) := by decide +kernel
theorem dX1_actTo_25 : decode cX1_actTo 25 = .ok (.iload_n 3, 1) := by decide +kernel
theorem dX1_actTo_26 : decode cX1_actTo 26 = .ok (.iload_n 2, 1) := by decide +kernel
theorem dX1_actTo_27 : decode cX1_actTo 27 = .ok (.if_icmp .lt 31, 3) := by decide +kernel
theorem dX1_actTo_30 : decode cX1_actTo 30 = .ok (.iload_n 3, 1) := by decide +kernel
theorem dX1_actTo_31 : decode cX1_actTo 31 = .ok (.iload_n 2, 1) := by decide +kernel
theorem dX1_actTo_32 : decode cX1_actTo 32 = .ok (.if_icmp .ne 11, 3) := by decide +kernel
theorem dX1_actTo_35 : decode cX1_actTo 35 = .ok (.aload_n 0, 1) := by decide +kernel
theorem dX1_actTo_36 : decode cX1_actTo 36 = .ok (.getfield 18, 3) := by decide +kernel
theorem dX1_actTo_39 : decode cX1_actTo 39 = .ok (.iload 4, 2) := by decide +kernel
theorem dX1_actTo_41 : decode cX1_actTo 41 = .ok (.iaload, 1) := by decide +kernel
theorem dX1_actTo_42 : decode cX1_actTo 42 = .ok (.ireturn, 1) := by decide +kernel
theorem dX1_actTo_43 : decode cX1_actTo 43 = .ok (.iinc 3 (-1), 3) := by decide +kernel
theorem dX1_actTo_46 : decode cX1_actTo 46 = .ok (.aload_n 0, 1) := by decide +kernel
theorem dX1_actTo_47 : decode cX1_actTo 47 = .ok (.getfield 15, 3) := by decide +kernel
theorem dX1_actTo_50 : decode cX1_actTo 50 = .ok (.iload 4, 2) := by decide +kernel
theorem dX1_actTo_52 : decode cX1_actTo 52 = .ok (.iaload, 1) := by decide +kernel
theorem dX1_actTo_53 : decode cX1_actTo 53 = .ok (.istore 4, 2) := by decide +kernel
theorem dX1_actTo_55 : decode cX1_actTo 55 = .ok (.goto (-44), 3) := by decide +kernel
theorem dX1_actTo_58 : decode cX1_actTo 58 = .ok (.bipush (-9), 2) := by decide +kernel
theorem dX1_actTo_60 : decode cX1_actTo 60 = .ok (.ireturn, 1) := by decide +kernel
def f_X1_actTo_j58 (N : Nat) (σ : St) : Option Int32 :=
  some (-9 : Int32)
def f_X1_actTo_b11 (N : Nat) (x2 : Int32) (x3 : Int32) (x4 : Int32) (σ : St) : Option ((Int32 × Int32) ⊕ (Int32 ⊕ (Unit))) :=
  if x4 ≤ 0 then (some (.inr (.inr ())))
  else if (σ.1 0 6) ≤ x4 then (some (.inr (.inr ())))
  else if x3 < x2 then (some (.inr (.inr ())))
  else if x3 = x2 then (gd (ck x4 580) <|
    some (.inr (.inl (σ.1 11 x4.toNatClampNeg))))
  else nm (x3 + (-1 : Int32)) fun x3_5 =>
    gd (ck x4 580) <|
    nm (σ.1 10 x4.toNatClampNeg) fun x4_7 =>
    some (.inl (x3_5, x4_7))
def f_X1_actTo (N : Nat) (x1 : Int32) (x2 : Int32) (σ : St) : Option Int32 :=
  bd (f_X1_lengthTo N x1 σ) fun r_9 =>
  nm (r_9 - (1 : Int32)) fun x3_11 =>
  bd (lpF (fun s => f_X1_actTo_b11 N x2 s.1 s.2 σ) N (x3_11, x1)) (Sum.elim (fun v => some v) (fun o => f_X1_actTo_j58 N σ))
abbrev rmX1_actTo : Room := { frames := 1, cells := 0, slots := 0, locals := 23 }
set_option maxRecDepth 100000 in
set_option maxHeartbeats 4000000 in
theorem c_X1_actTo (l : Launch) (D : va_G) (a : Nat → Nat) (c : Nat → ClassId) (A : Nat → Prop) (hD : ∀ σ, va_D A (cW a c σ)) (N : Nat) (x1 : Int32) (x2 : Int32) (σ : St) (r : Int32) (hf : f_X1_actTo N x1 x2 σ = some r) : MetI l yX1_actTo cX1_actTo 5 (some .int) rmX1_actTo (cW a c) D c A [.ref (a 6), .int x1, .int x2] σ r σ := by
  refine mkI (by decide) (Nat.le_of_ble_eq_true rfl) rfl ?_
  intro p e s m args below meth cd Q ls h0 hK hP hret hl
  obtain ⟨S, hr, hlk⟩ := h0
  obtain ⟨hx, hb, hml, hown, ht⟩ := id S
  have hS : va_S A s.heap s.heap [] := va_S.rf
  have hl : lv_has ls 5 [(0, .ref (a 6)), (1, .int x1), (2, .int x2)] := hl
  have hf := obs hf
  have j58 : ∀ (H : Heap) (locs : List Loc) (ls : Array Slot), lv_has ls 5 [] → va_P D vwCl (cW a c σ) H → va_S A s.heap H locs → Option.bind (f_X1_actTo_j58 N σ) some = some r → W p l e rmX1_actTo s m args below meth cd H locs 0 0 Q (F0 m 58 ls []) := by
    intro H locs ls hl hP hS hf
    have hf := oun (f_X1_actTo_j58.eq_1 _ _) hf
    refine lv_bipush (v := (-9 : Int32)) hx hb dX1_actTo_58 (by decide) ?_
    exact hret _ _ _ _ _ _ dX1_actTo_60 rfl hP hS ⟨Option.some.inj hf, rfl⟩
  have L11 : ∀ (x2 : Int32) (k : Nat) (x3 : Int32) (x4 : Int32) (H : Heap) (locs : List Loc) (ls : Array Slot), lv_has ls 5 [(0, .ref (a 6)), (2, .int x2), (3, .int x3), (4, .int x4)] → va_P D vwCl (cW a c σ) H → va_S A s.heap H locs → Option.bind (bd (lpF (fun s => f_X1_actTo_b11 N x2 s.1 s.2 σ) k (x3, x4)) (Sum.elim (fun v => some v) (fun o => f_X1_actTo_j58 N σ))) some = some r → W p l e rmX1_actTo s m args below meth cd H locs 0 0 Q (F0 m 11 ls []) := by
    intro x2 k
    induction k with
    | zero =>
      intro x3 x4 H locs ls hl hP hS hf
      exact (ol0 hf).elim
    | succ k ih =>
      intro x3 x4 H locs ls hl hP hS hf
      obtain ⟨K11, hf, hc11, hx11⟩ := ol1 hf
      have hf := oun (f_X1_actTo_b11.eq_1 N x2 x3 x4 σ) hf
      refine lv_iload hx hb dX1_actTo_11 (lv_at hl 3 rfl) ?_
      refine lv_if_le (tgt := 58) hx hb dX1_actTo_13 (by decide) (fun c_1 => ?_) (fun c_1 => ?_)
      · have hf := oit c_1 hf
        exact j58 _ _ _ (lv_sub hl [] rfl) hP hS (okx hf (hx11 _))
      have hf := oif c_1 hf
      refine lv_iload hx hb dX1_actTo_16 (lv_at hl 3 rfl) ?_
      refine lv_aload_n hx hb dX1_actTo_18 rfl (lv_at hl 0 rfl) ?_
      refine va_get (D := D) (ci := 1) (v := .int (σ.1 0 6)) (C := RX1) (T := TX1) (N := 7) hx hb ht gX1 hown hK.1 hP 6 (cw6 a c σ) rfl 4 (by decide) (ht _ q431) (fun _ h9 => h9) rfl dX1_actTo_19 ?_
      refine lv_icmp_ge (tgt := 58) hx hb dX1_actTo_22 (by decide) (fun c_2 => ?_) (fun c_2 => ?_)
      · have hf := oit c_2 hf
        exact j58 _ _ _ (lv_sub hl [] rfl) hP hS (okx hf (hx11 _))
      have hf := oif c_2 hf
      refine lv_iload_n hx hb dX1_actTo_25 rfl (lv_at hl 2 rfl) ?_
      refine lv_iload_n hx hb dX1_actTo_26 rfl (lv_at hl 1 rfl) ?_
      refine lv_icmp_lt (tgt := 58) hx hb dX1_actTo_27 (by decide) (fun c_3 => ?_) (fun c_3 => ?_)
      · have hf := oit c_3 hf
        exact j58 _ _ _ (lv_sub hl [] rfl) hP hS (okx hf (hx11 _))
      have hf := oif c_3 hf
      refine lv_iload_n hx hb dX1_actTo_30 rfl (lv_at hl 2 rfl) ?_
      refine lv_iload_n hx hb dX1_actTo_31 rfl (lv_at hl 1 rfl) ?_
      refine lv_icmp_ne (tgt := 43) hx hb dX1_actTo_32 (by decide) (fun c_4 => ?_) (fun c_4 => ?_)
      · have hf := oif c_4 hf
        obtain ⟨x3_5, ex3_5, hf⟩ := onm hf
        refine lv_iinc (v := x3_5) (lv' := [(3, .int x3_5), (0, .ref (a 6)), (2, .int x2), (4, .int x4)]) hx hb dX1_actTo_43 hl (k := 2) rfl ex3_5 (by decide) rfl (fun ls hl => ?_)
        refine lv_aload_n hx hb dX1_actTo_46 rfl (lv_at hl 1 rfl) ?_
        refine va_get (D := D) (ci := 1) (v := .ref (a 8)) (C := RX1) (T := TX1) (N := 7) hx hb ht gX1 hown hK.1 hP 6 (cw6 a c σ) rfl 1 (by decide) (ht _ q33) (fun _ h9 => h9) rfl dX1_actTo_47 ?_
        refine lv_iload hx hb dX1_actTo_50 (lv_at hl 3 rfl) ?_
        obtain ⟨g_6, hf⟩ := ogd hf
        refine va_iald hx hb hK.1 hP 8 0 (cw8 a c σ) rfl (ck_in g_6) dX1_actTo_52 ?_
        obtain ⟨x4_7, ex4_7, hf⟩ := onm hf
        refine lv_nm ex4_7 ?_
        refine lv_istore (lv' := [(4, .int x4_7), (3, .int x3_5), (0, .ref (a 6)), (2, .int x2)]) hx hb dX1_actTo_53 hl (by decide) rfl (fun ls hl => ?_)
        refine lv_goto (tgt := 11) hx hb dX1_actTo_55 (by decide) ?_
        exact ih x3_5 x4_7 _ _ _ (lv_sub hl [2, 3, 1, 0] rfl) hP hS (okx hf (hc11 _))
      have hf := oit c_4 hf
      refine lv_aload_n hx hb dX1_actTo_35 rfl (lv_at hl 0 rfl) ?_
      refine va_get (D := D) (ci := 1) (v := .ref (a 9)) (C := RX1) (T := TX1) (N := 7) hx hb ht gX1 hown hK.1 hP 6 (cw6 a c σ) rfl 2 (by decide) (ht _ q34) (fun _ h9 => h9) rfl dX1_actTo_36 ?_
      refine lv_iload hx hb dX1_actTo_39 (lv_at hl 3 rfl) ?_
      obtain ⟨g_8, hf⟩ := ogd hf
      refine va_iald hx hb hK.1 hP 9 0 (cw9 a c σ) rfl (ck_in g_8) dX1_actTo_41 ?_
      have hf := okx hf (hx11 _)
      exact hret _ _ _ _ _ _ dX1_actTo_42 rfl hP hS ⟨Option.some.inj hf, rfl⟩
  have hf := oun (f_X1_actTo.eq_1 _ _ _ _) hf
  refine lv_aload_n hx hb dX1_actTo_0 rfl (lv_at hl 0 rfl) ?_
  refine lv_iload_n hx hb dX1_actTo_1 rfl (lv_at hl 1 rfl) ?_
  obtain ⟨r_9, h_10, hf⟩ := obd hf
  refine xv_I (As := [.int x1]) (rest := []) S k_X1_lengthTo q465 q458 q459 ⟨Nat.le_of_ble_eq_true rfl, Nat.le_of_ble_eq_true rfl⟩ ⟨rfl, rfl⟩ (c_X1_lengthTo l D a c A hD N x1 σ r_9 h_10) hK hP hS (va_recv hK.1 hP (rfl : vwCl[1]? = some (RX1, TX1, 7)) (cw6 a c σ)) rfl hl.1 rfl (Nat.le_of_ble_eq_true rfl) dX1_actTo_2 ⟨Nat.zero_le _, Nat.zero_le _⟩ (fun H locs hP hS => ?_)
  refine lv_iconst (v := (1 : Int32)) hx hb dX1_actTo_5 (by decide) ?_
  refine lv_isub hx hb dX1_actTo_6 ?_
  obtain ⟨x3_11, ex3_11, hf⟩ := onm hf
  refine lv_nm ex3_11 ?_
  refine lv_istore_n (lv' := [(3, .int x3_11), (0, .ref (a 6)), (1, .int x1), (2, .int x2)]) hx hb dX1_actTo_7 rfl hl (by decide) rfl (fun ls hl => ?_)
  refine lv_iload_n hx hb dX1_actTo_8 rfl (lv_at hl 2 rfl) ?_
  refine lv_istore (lv' := [(4, .int x1), (3, .int x3_11), (0, .ref (a 6)), (1, .int x1), (2, .int x2)]) hx hb dX1_actTo_9 hl (by decide) rfl (fun ls hl => ?_)
  exact L11 x2 N x3_11 x1 _ _ _ (lv_sub hl [2, 4, 1, 0] rfl) hP hS hf
theorem dX1_find_0 : decode cX1_find 0 = .ok (.iconst 0, 1) := by decide +kernel
theorem dX1_find_1 : decode cX1_find 1 = .ok (.istore_n 2, 1) := by decide +kernel
theorem dX1_find_2 : decode cX1_find 2 = .ok (.iload_n 2, 1) := by decide +kernel
theorem dX1_find_3 : decode cX1_find 3 = .ok (.aload_n 0, 1) := by decide +kernel
theorem dX1_find_4 : decode cX1_find 4 = .ok (.getfield 27, 3) := by decide +kernel
theorem dX1_find_7 : decode cX1_find 7 = .ok (.if_icmp .ge 21, 3) := by decide +kernel
theorem dX1_find_10 : decode cX1_find 10 = .ok (.aload_n 0, 1) := by decide +kernel
theorem dX1_find_11 : decode cX1_find 11 = .ok (.getfield 11, 3) := by decide +kernel
theorem dX1_find_14 : decode cX1_find 14 = .ok (.iload_n 2, 1) := by decide +kernel
theorem dX1_find_15 : decode cX1_find 15 = .ok (.iaload, 1) := by decide +kernel
theorem dX1_find_16 : decode cX1_find 16 = .ok (.iload_n 1, 1) := by decide +kernel
theorem dX1_find_17 : decode cX1_find 17 = .ok (.if_icmp .ne 5, 3) := by decide +kernel
theorem dX1_find_20 : decode cX1_find 20 = .ok (.iload_n 2, 1) := by decide +kernel
theorem dX1_find_21 : decode cX1_find 21 = .ok (.ireturn, 1) := by decide +kernel
theorem dX1_find_22 : decode cX1_find 22 = .ok (.iinc 2 1, 3) := by decide +kernel
theorem dX1_find_25 : decode cX1_find 25 = .ok (.goto (-23), 3) := by decide +kernel
theorem dX1_find_28 : decode cX1_find 28 = .ok (.bipush (-9), 2) := by decide +kernel
theorem dX1_find_30 : decode cX1_find 30 = .ok (.ireturn, 1) := by decide +kernel
def f_X1_find_j28 (N : Nat) (σ : St) : Option Int32 :=
  some (-9 : Int32)
def f_X1_find_b2 (N : Nat) (x1 : Int32) (x2 : Int32) (σ : St) : Option ((Int32) ⊕ (Int32 ⊕ (Unit))) :=
  if (σ.1 0 6) ≤ x2 then (some (.inr (.inr ())))
  else gd (ck x2 580) <|
  if (σ.1 9 x2.toNatClampNeg) = x1 then (some (.inr (.inl x2)))
  else nm (x2 + (1 : Int32)) fun x2_4 =>
    some (.inl x2_4)
def f_X1_find (N : Nat) (x1 : Int32) (σ : St) : Option Int32 :=
  bd (lpF (fun s => f_X1_find_b2 N x1 s σ) N (0 : Int32)) (Sum.elim (fun v => some v) (fun o => f_X1_find_j28 N σ))
abbrev rmX1_find : Room := { frames := 0, cells := 0, slots := 0, locals := 0 }
set_option maxRecDepth 100000 in
set_option maxHeartbeats 4000000 in
theorem c_X1_find (l : Launch) (D : va_G) (a : Nat → Nat) (c : Nat → ClassId) (A : Nat → Prop) (hD : ∀ σ, va_D A (cW a c σ)) (N : Nat) (x1 : Int32) (σ : St) (r : Int32) (hf : f_X1_find N x1 σ = some r) : MetI l yX1_find cX1_find 3 (some .int) rmX1_find (cW a c) D c A [.ref (a 6), .int x1] σ r σ := by
  refine mkI (by decide) (Nat.le_of_ble_eq_true rfl) rfl ?_
  intro p e s m args below meth cd Q ls h0 hK hP hret hl
  obtain ⟨S, hr, hlk⟩ := h0
  obtain ⟨hx, hb, hml, hown, ht⟩ := id S
  have hS : va_S A s.heap s.heap [] := va_S.rf
  have hl : lv_has ls 3 [(0, .ref (a 6)), (1, .int x1)] := hl
  have hf := obs hf
  have j28 : ∀ (H : Heap) (locs : List Loc) (ls : Array Slot), lv_has ls 3 [] → va_P D vwCl (cW a c σ) H → va_S A s.heap H locs → Option.bind (f_X1_find_j28 N σ) some = some r → W p l e rmX1_find s m args below meth cd H locs 0 0 Q (F0 m 28 ls []) := by
    intro H locs ls hl hP hS hf
    have hf := oun (f_X1_find_j28.eq_1 _ _) hf
    refine lv_bipush (v := (-9 : Int32)) hx hb dX1_find_28 (by decide) ?_
    exact hret _ _ _ _ _ _ dX1_find_30 rfl hP hS ⟨Option.some.inj hf, rfl⟩
  have L2 : ∀ (x1 : Int32) (k : Nat) (x2 : Int32) (H : Heap) (locs : List Loc) (ls : Array Slot), lv_has ls 3 [(0, .ref (a 6)), (1, .int x1), (2, .int x2)] → va_P D vwCl (cW a c σ) H → va_S A s.heap H locs → Option.bind (bd (lpF (fun s => f_X1_find_b2 N x1 s σ) k x2) (Sum.elim (fun v => some v) (fun o => f_X1_find_j28 N σ))) some = some r → W p l e rmX1_find s m args below meth cd H locs 0 0 Q (F0 m 2 ls []) := by
    intro x1 k
    induction k with
    | zero =>
      intro x2 H locs ls hl hP hS hf
      exact (ol0 hf).elim
    | succ k ih =>
      intro x2 H locs ls hl hP hS hf
      obtain ⟨K2, hf, hc2, hx2⟩ := ol1 hf
      have hf := oun (f_X1_find_b2.eq_1 N x1 x2 σ) hf
      refine lv_iload_n hx hb dX1_find_2 rfl (lv_at hl 2 rfl) ?_
      refine lv_aload_n hx hb dX1_find_3 rfl (lv_at hl 0 rfl) ?_
      refine va_get (D := D) (ci := 1) (v := .int (σ.1 0 6)) (C := RX1) (T := TX1) (N := 7) hx hb ht gX1 hown hK.1 hP 6 (cw6 a c σ) rfl 4 (by decide) (ht _ q431) (fun _ h9 => h9) rfl dX1_find_4 ?_
      refine lv_icmp_ge (tgt := 28) hx hb dX1_find_7 (by decide) (fun c_1 => ?_) (fun c_1 => ?_)
      · have hf := oit c_1 hf
        exact j28 _ _ _ (lv_sub hl [] rfl) hP hS (okx hf (hx2 _))
      have hf := oif c_1 hf
      refine lv_aload_n hx hb dX1_find_10 rfl (lv_at hl 0 rfl) ?_
      refine va_get (D := D) (ci := 1) (v := .ref (a 7)) (C := RX1) (T := TX1) (N := 7) hx hb ht gX1 hown hK.1 hP 6 (cw6 a c σ) rfl 0 (by decide) (ht _ q32) (fun _ h9 => h9) rfl dX1_find_11 ?_
      refine lv_iload_n hx hb dX1_find_14 rfl (lv_at hl 2 rfl) ?_
      obtain ⟨g_2, hf⟩ := ogd hf
      refine va_iald hx hb hK.1 hP 7 0 (cw7 a c σ) rfl (ck_in g_2) dX1_find_15 ?_
      refine lv_iload_n hx hb dX1_find_16 rfl (lv_at hl 1 rfl) ?_
      refine lv_icmp_ne (tgt := 22) hx hb dX1_find_17 (by decide) (fun c_3 => ?_) (fun c_3 => ?_)
      · have hf := oif c_3 hf
        obtain ⟨x2_4, ex2_4, hf⟩ := onm hf
        refine lv_iinc (v := x2_4) (lv' := [(2, .int x2_4), (0, .ref (a 6)), (1, .int x1)]) hx hb dX1_find_22 hl (k := 2) rfl ex2_4 (by decide) rfl (fun ls hl => ?_)
        refine lv_goto (tgt := 2) hx hb dX1_find_25 (by decide) ?_
        exact ih x2_4 _ _ _ (lv_sub hl [1, 2, 0] rfl) hP hS (okx hf (hc2 _))
      have hf := oit c_3 hf
      refine lv_iload_n hx hb dX1_find_20 rfl (lv_at hl 2 rfl) ?_
      have hf := okx hf (hx2 _)
      exact hret _ _ _ _ _ _ dX1_find_21 rfl hP hS ⟨Option.some.inj hf, rfl⟩
  have hf := oun (f_X1_find.eq_1 _ _ _) hf
  refine lv_iconst (v := (0 : Int32)) hx hb dX1_find_0 (by decide) ?_
  refine lv_istore_n (lv' := [(2, .int (0 : Int32)), (0, .ref (a 6)), (1, .int x1)]) hx hb dX1_find_1 rfl hl (by decide) rfl (fun ls hl => ?_)
  exact L2 x1 N (0 : Int32) _ _ _ (lv_sub hl [1, 2, 0] rfl) hP hS hf
theorem dX1_reach_0 : decode cX1_reach 0 = .ok (.iload_n 1, 1) := by decide +kernel
theorem dX1_reach_1 : decode cX1_reach 1 = .ok (.bipush 6, 2) := by decide +kernel
theorem dX1_reach_3 : decode cX1_reach 3 = .ok (.ishr, 1) := by decide +kernel
theorem dX1_reach_4 : decode cX1_reach 4 = .ok (.aload_n 0, 1) := by decide +kernel
theorem dX1_reach_5 : decode cX1_reach 5 = .ok (.getfield 23, 3) := by decide +kernel
theorem dX1_reach_8 : decode cX1_reach 8 = .ok (.arraylength, 1) := by decide +kernel
theorem dX1_reach_9 : decode cX1_reach 9 = .ok (.iconst 1, 1) := by decide +kernel
theorem dX1_reach_10 : decode cX1_reach 10 = .ok (.isub, 1) := by decide +kernel
theorem dX1_reach_11 : decode cX1_reach 11 = .ok (.iand, 1) := by decide +kernel
theorem dX1_reach_12 : decode cX1_reach 12 = .ok (.istore 4, 2) := by decide +kernel
theorem dX1_reach_14 : decode cX1_reach 14 = .ok (.lconst 1, 1) := by decide +kernel
theorem dX1_reach_15 : decode cX1_reach 15 = .ok (.iload_n 1, 1) := by decide +kernel
theorem dX1_reach_16 : decode cX1_reach 16 = .ok (.bipush 63, 2) := by decide +kernel
theorem dX1_reach_18 : decode cX1_reach 18 = .ok (.iand, 1) := by decide +kernel
theorem dX1_reach_19 : decode cX1_reach 19 = .ok (.lshl, 1) := by decide +kernel
theorem dX1_reach_20 : decode cX1_reach 20 = .ok (.lstore 5, 2) := by decide +kernel
theorem dX1_reach_22 : decode cX1_reach 22 = .ok (.aload_n 0, 1) := by decide +kernel
theorem dX1_reach_23 : decode cX1_reach 23 = .ok (.getfield 23, 3) := by decide +kernel
theorem dX1_reach_26 : decode cX1_reach 26 = .ok (.iload 4, 2) := by decide +kernel
theorem dX1_reach_28 : decode cX1_reach 28 = .ok (.laload, 1) := by decide +kernel
theorem dX1_reach_29 : decode cX1_reach 29 = .ok (.lload 5, 2) := by decide +kernel
theorem dX1_reach_31 : decode cX1_reach 31 = .ok (.land, 1) := by decide +kernel
theorem dX1_reach_32 : decode cX1_reach 32 = .ok (.lconst 0, 1) := by decide +kernel
theorem dX1_reach_33 : decode cX1_reach 33 = .ok (.lcmp, 1) := by decide +kernel
theorem dX1_reach_34 : decode cX1_reach 34 = .ok (.ifCond .ne 13, 3) := by decide +kernel
theorem dX1_reach_37 : decode cX1_reach 37 = .ok (.aload_n 0, 1) := by decide +kernel
theorem dX1_reach_38 : decode cX1_reach 38 = .ok (.getfield 27, 3) := by decide +kernel
theorem dX1_reach_41 : decode cX1_reach 41 = .ok (.sipush 580, 3) := by decide +kernel
theorem dX1_reach_44 : decode cX1_reach 44 = .ok (.if_icmp .lt 4, 3) := by decide +kernel
theorem dX1_reach_47 : decode cX1_reach 47 = .ok (.return_, 1) := by decide +kernel
theorem dX1_reach_48 : decode cX1_reach 48 = .ok (.aload_n 0, 1) := by decide +kernel
theorem dX1_reach_49 : decode cX1_reach 49 = .ok (.getfield 23, 3) := by decide +kernel
theorem dX1_reach_52 : decode cX1_reach 52 = .ok (.iload 4, 2) := by decide +kernel
theorem dX1_reach_54 : decode cX1_reach 54 = .ok (.dup2, 1) := by decide +kernel
theorem dX1_reach_55 : decode cX1_reach 55 = .ok (.laload, 1) := by decide +kernel
theorem dX1_reach_56 : decode cX1_reach 56 = .ok (.lload 5, 2) := by decide +kernel
theorem dX1_reach_58 : decode cX1_reach 58 = .ok (.lor, 1) := by decide +kernel
theorem dX1_reach_59 : decode cX1_reach 59 = .ok (.lastore, 1) := by decide +kernel
theorem dX1_reach_60 : decode cX1_reach 60 = .ok (.aload_n 0, 1) := by decide +kernel
theorem dX1_reach_61 : decode cX1_reach 61 = .ok (.getfield 11, 3) := by decide +kernel
theorem dX1_reach_64 : decode cX1_reach 64 = .ok (.aload_n 0, 1) := by decide +kernel
theorem dX1_reach_65 : decode cX1_reach 65 = .ok (.getfield 27, 3) := by decide +kernel
theorem dX1_reach_68 : decode cX1_reach 68 = .ok (.iload_n 1, 1) := by decide +kernel
theorem dX1_reach_69 : decode cX1_reach 69 = .ok (.iastore, 1) := by decide +kernel
theorem dX1_reach_70 : decode cX1_reach 70 = .ok (.aload_n 0, 1) := by decide +kernel
theorem dX1_reach_71 : decode cX1_reach 71 = .ok (.getfield 15, 3) := by decide +kernel
theorem dX1_reach_74 : decode cX1_reach 74 = .ok (.aload_n 0, 1) := by decide +kernel
theorem dX1_reach_75 : decode cX1_reach 75 = .ok (.getfield 27, 3) := by decide +kernel
theorem dX1_reach_78 : decode cX1_reach 78 = .ok (.iload_n 2, 1) := by decide +kernel
theorem dX1_reach_79 : decode cX1_reach 79 = .ok (.iastore, 1) := by decide +kernel
theorem dX1_reach_80 : decode cX1_reach 80 = .ok (.aload_n 0, 1) := by decide +kernel
theorem dX1_reach_81 : decode cX1_reach 81 = .ok (.getfield 18, 3) := by decide +kernel
theorem dX1_reach_84 : decode cX1_reach 84 = .ok (.aload_n 0, 1) := by decide +kernel
theorem dX1_reach_85 : decode cX1_reach 85 = .ok (.getfield 27, 3) := by decide +kernel
theorem dX1_reach_88 : decode cX1_reach 88 = .ok (.iload_n 3, 1) := by decide +kernel
theorem dX1_reach_89 : decode cX1_reach 89 = .ok (.iastore, 1) := by decide +kernel
theorem dX1_reach_90 : decode cX1_reach 90 = .ok (.aload_n 0, 1) := by decide +kernel
theorem dX1_reach_91 : decode cX1_reach 91 = .ok (.dup, 1) := by decide +kernel
theorem dX1_reach_92 : decode cX1_reach 92 = .ok (.getfield 27, 3) := by decide +kernel
theorem dX1_reach_95 : decode cX1_reach 95 = .ok (.iconst 1, 1) := by decide +kernel
theorem dX1_reach_96 : decode cX1_reach 96 = .ok (.iadd, 1) := by decide +kernel
theorem dX1_reach_97 : decode cX1_reach 97 = .ok (.putfield 27, 3) := by decide +kernel
theorem dX1_reach_100 : decode cX1_reach 100 = .ok (.return_, 1) := by decide +kernel
def f_X1_reach (x1 : Int32) (x2 : Int32) (x3 : Int32) (σ : St) : Option St :=
  nm ((x1 >>> ((6 : Int32) &&& 31)) &&& ((1024 : Int32) - (1 : Int32))) fun x4_1 =>
  nm ((1 : Int64) <<< (Int32.toInt64 (x1 &&& (63 : Int32)) &&& 63)) fun x5_2 =>
  gd (ck x4_1 1024) <|
  if (lg_cmp ((σ.2 x4_1.toNatClampNeg) &&& x5_2) (0 : Int64)) = 0 then (if (σ.1 0 6) < (580 : Int32) then (gd (ck x4_1 1024) <|
      gd (ck x4_1 1024) <|
      nm (wL σ (Int32.toNatClampNeg x4_1) ((σ.2 x4_1.toNatClampNeg) ||| x5_2)) fun σ_8 =>
      gd (ck (σ_8.1 0 6) 580) <|
      nm (wS σ_8 9 (Int32.toNatClampNeg (σ_8.1 0 6)) x1) fun σ_10 =>
      gd (ck (σ_10.1 0 6) 580) <|
      nm (wS σ_10 10 (Int32.toNatClampNeg (σ_10.1 0 6)) x2) fun σ_12 =>
      gd (ck (σ_12.1 0 6) 580) <|
      nm (wS σ_12 11 (Int32.toNatClampNeg (σ_12.1 0 6)) x3) fun σ_14 =>
      nm (wS σ_14 0 6 ((σ_14.1 0 6) + (1 : Int32))) fun σ_15 =>
      some σ_15)
    else some σ)
  else some σ
abbrev rmX1_reach : Room := { frames := 0, cells := 0, slots := 0, locals := 0 }
set_option maxRecDepth 100000 in
set_option maxHeartbeats 4000000 in
theorem c_X1_reach (l : Launch) (D : va_G) (a : Nat → Nat) (c : Nat → ClassId) (A : Nat → Prop) (hD : ∀ σ, va_D A (cW a c σ)) (x1 : Int32) (x2 : Int32) (x3 : Int32) (σ : St) (u : St) (hf : f_X1_reach x1 x2 x3 σ = some u) : MetV l yX1_reach cX1_reach 7 (none) rmX1_reach (cW a c) D c A [.ref (a 6), .int x1, .int x2, .int x3] σ u := by
  refine mkV (by decide) (Nat.le_of_ble_eq_true rfl) rfl ?_
  intro p e s m args below meth cd Q ls h0 hK hP hret hl
  obtain ⟨S, hr, hlk⟩ := h0
  obtain ⟨hx, hb, hml, hown, ht⟩ := id S
  have hS : va_S A s.heap s.heap [] := va_S.rf
  have hl : lv_has ls 7 [(0, .ref (a 6)), (1, .int x1), (2, .int x2), (3, .int x3)] := hl
  have hf := obs hf
  have hf := oun (f_X1_reach.eq_1 _ _ _ _) hf
  refine lv_iload_n hx hb dX1_reach_0 rfl (lv_at hl 1 rfl) ?_
  refine lv_bipush (v := (6 : Int32)) hx hb dX1_reach_1 (by decide) ?_
  refine lv_ishr hx hb dX1_reach_3 ?_
  refine lv_aload_n hx hb dX1_reach_4 rfl (lv_at hl 0 rfl) ?_
  refine va_get (D := D) (ci := 1) (v := .ref (a 10)) (C := RX1) (T := TX1) (N := 7) hx hb ht gX1 hown hK.1 hP 6 (cw6 a c σ) rfl 3 (by decide) (ht _ q36) (fun _ h9 => h9) rfl dX1_reach_5 ?_
  refine va_alen (v := (1024 : Int32)) hx hb hK.1 hP 10 1 (cw10 a c σ) rfl rfl dX1_reach_8 ?_
  refine lv_iconst (v := (1 : Int32)) hx hb dX1_reach_9 (by decide) ?_
  refine lv_isub hx hb dX1_reach_10 ?_
  refine lv_iand hx hb dX1_reach_11 ?_
  obtain ⟨x4_1, ex4_1, hf⟩ := onm hf
  refine lv_nm ex4_1 ?_
  refine lv_istore (lv' := [(4, .int x4_1), (0, .ref (a 6)), (1, .int x1), (2, .int x2), (3, .int x3)]) hx hb dX1_reach_12 hl (by decide) rfl (fun ls hl => ?_)
  refine lv_lconst (v := (1 : Int64)) hx hb dX1_reach_14 (by decide) ?_
  refine lv_iload_n hx hb dX1_reach_15 rfl (lv_at hl 2 rfl) ?_
  refine lv_bipush (v := (63 : Int32)) hx hb dX1_reach_16 (by decide) ?_
  refine lv_iand hx hb dX1_reach_18 ?_
  refine lv_lshl (v := ((1 : Int64) <<< (Int32.toInt64 (x1 &&& (63 : Int32)) &&& 63))) hx hb dX1_reach_19 rfl ?_
  obtain ⟨x5_2, ex5_2, hf⟩ := onm hf
  refine lv_nml ex5_2 ?_
  refine lv_lstore (lv' := [(5, .long x5_2), (4, .int x4_1), (0, .ref (a 6)), (1, .int x1), (2, .int x2), (3, .int x3)]) hx hb dX1_reach_20 hl (by decide) rfl (fun ls hl => ?_)
  refine lv_aload_n hx hb dX1_reach_22 rfl (lv_at hl 2 rfl) ?_
  refine va_get (D := D) (ci := 1) (v := .ref (a 10)) (C := RX1) (T := TX1) (N := 7) hx hb ht gX1 hown hK.1 hP 6 (cw6 a c σ) rfl 3 (by decide) (ht _ q36) (fun _ h9 => h9) rfl dX1_reach_23 ?_
  refine lv_iload hx hb dX1_reach_26 (lv_at hl 1 rfl) ?_
  obtain ⟨g_3, hf⟩ := ogd hf
  refine va_lald hx hb hK.1 hP 10 1 (cw10 a c σ) rfl (ck_in g_3) dX1_reach_28 ?_
  refine lv_lload hx hb dX1_reach_29 (lv_at hl 0 rfl) ?_
  refine lv_land hx hb dX1_reach_31 ?_
  refine lv_lconst (v := (0 : Int64)) hx hb dX1_reach_32 (by decide) ?_
  refine W.lcmp hx hb dX1_reach_33 ?_
  refine lv_if_ne (tgt := 47) hx hb dX1_reach_34 (by decide) (fun c_4 => ?_) (fun c_4 => ?_)
  · have hf := oif c_4 hf
    exact hret _ _ _ _ _ dX1_reach_47 hP hS (Option.some.inj hf)
  have hf := oit c_4 hf
  refine lv_aload_n hx hb dX1_reach_37 rfl (lv_at hl 2 rfl) ?_
  refine va_get (D := D) (ci := 1) (v := .int (σ.1 0 6)) (C := RX1) (T := TX1) (N := 7) hx hb ht gX1 hown hK.1 hP 6 (cw6 a c σ) rfl 4 (by decide) (ht _ q431) (fun _ h9 => h9) rfl dX1_reach_38 ?_
  refine lv_sipush (v := (580 : Int32)) hx hb dX1_reach_41 (by decide) ?_
  refine lv_icmp_lt (tgt := 48) hx hb dX1_reach_44 (by decide) (fun c_5 => ?_) (fun c_5 => ?_)
  · have hf := oit c_5 hf
    refine lv_aload_n hx hb dX1_reach_48 rfl (lv_at hl 2 rfl) ?_
    refine va_get (D := D) (ci := 1) (v := .ref (a 10)) (C := RX1) (T := TX1) (N := 7) hx hb ht gX1 hown hK.1 hP 6 (cw6 a c σ) rfl 3 (by decide) (ht _ q36) (fun _ h9 => h9) rfl dX1_reach_49 ?_
    refine lv_iload hx hb dX1_reach_52 (lv_at hl 1 rfl) ?_
    refine lv_dup2_11 hx hb dX1_reach_54 rfl rfl ?_
    obtain ⟨g_6, hf⟩ := ogd hf
    refine va_lald hx hb hK.1 hP 10 1 (cw10 a c σ) rfl (ck_in g_6) dX1_reach_55 ?_
    refine lv_lload hx hb dX1_reach_56 (lv_at hl 0 rfl) ?_
    refine lv_lor hx hb dX1_reach_58 ?_
    obtain ⟨g_7, hf⟩ := ogd hf
    refine va_last hx hb hK.1 hP (hD σ) hS 10 1 (cw10 a c σ) rfl (ck_in g_7) dX1_reach_59 (fun H locs hP _ hS => ?_)
    have hP := vP_eq (cpA_seen a c σ (Int32.toNatClampNeg x4_1) ((σ.2 x4_1.toNatClampNeg) ||| x5_2)) hP
    obtain ⟨σ_8, eσ_8, hf⟩ := onm hf
    rw [eσ_8] at hP
    refine lv_aload_n hx hb dX1_reach_60 rfl (lv_at hl 2 rfl) ?_
    refine va_get (D := D) (ci := 1) (v := .ref (a 7)) (C := RX1) (T := TX1) (N := 7) hx hb ht gX1 hown hK.1 hP 6 (cw6 a c σ_8) rfl 0 (by decide) (ht _ q32) (fun _ h9 => h9) rfl dX1_reach_61 ?_
    refine lv_aload_n hx hb dX1_reach_64 rfl (lv_at hl 2 rfl) ?_
    refine va_get (D := D) (ci := 1) (v := .int (σ_8.1 0 6)) (C := RX1) (T := TX1) (N := 7) hx hb ht gX1 hown hK.1 hP 6 (cw6 a c σ_8) rfl 4 (by decide) (ht _ q431) (fun _ h9 => h9) rfl dX1_reach_65 ?_
    refine lv_iload_n hx hb dX1_reach_68 rfl (lv_at hl 3 rfl) ?_
    obtain ⟨g_9, hf⟩ := ogd hf
    refine va_iast hx hb hK.1 hP (hD σ_8) hS 7 0 (cw7 a c σ_8) rfl (ck_in g_9) dX1_reach_69 (fun H locs hP _ hS => ?_)
    have hP := vP_eq (cpA_reached a c σ_8 (Int32.toNatClampNeg (σ_8.1 0 6)) x1) hP
    obtain ⟨σ_10, eσ_10, hf⟩ := onm hf
    rw [eσ_10] at hP
    refine lv_aload_n hx hb dX1_reach_70 rfl (lv_at hl 2 rfl) ?_
    refine va_get (D := D) (ci := 1) (v := .ref (a 8)) (C := RX1) (T := TX1) (N := 7) hx hb ht gX1 hown hK.1 hP 6 (cw6 a c σ_10) rfl 1 (by decide) (ht _ q33) (fun _ h9 => h9) rfl dX1_reach_71 ?_
    refine lv_aload_n hx hb dX1_reach_74 rfl (lv_at hl 2 rfl) ?_
    refine va_get (D := D) (ci := 1) (v := .int (σ_10.1 0 6)) (C := RX1) (T := TX1) (N := 7) hx hb ht gX1 hown hK.1 hP 6 (cw6 a c σ_10) rfl 4 (by decide) (ht _ q431) (fun _ h9 => h9) rfl dX1_reach_75 ?_
    refine lv_iload_n hx hb dX1_reach_78 rfl (lv_at hl 4 rfl) ?_
    obtain ⟨g_11, hf⟩ := ogd hf
    refine va_iast hx hb hK.1 hP (hD σ_10) hS 8 0 (cw8 a c σ_10) rfl (ck_in g_11) dX1_reach_79 (fun H locs hP _ hS => ?_)
    have hP := vP_eq (cpA_from a c σ_10 (Int32.toNatClampNeg (σ_10.1 0 6)) x2) hP
    obtain ⟨σ_12, eσ_12, hf⟩ := onm hf
    rw [eσ_12] at hP
    refine lv_aload_n hx hb dX1_reach_80 rfl (lv_at hl 2 rfl) ?_
    refine va_get (D := D) (ci := 1) (v := .ref (a 9)) (C := RX1) (T := TX1) (N := 7) hx hb ht gX1 hown hK.1 hP 6 (cw6 a c σ_12) rfl 2 (by decide) (ht _ q34) (fun _ h9 => h9) rfl dX1_reach_81 ?_
    refine lv_aload_n hx hb dX1_reach_84 rfl (lv_at hl 2 rfl) ?_
    refine va_get (D := D) (ci := 1) (v := .int (σ_12.1 0 6)) (C := RX1) (T := TX1) (N := 7) hx hb ht gX1 hown hK.1 hP 6 (cw6 a c σ_12) rfl 4 (by decide) (ht _ q431) (fun _ h9 => h9) rfl dX1_reach_85 ?_
    refine lv_iload_n hx hb dX1_reach_88 rfl (lv_at hl 5 rfl) ?_
    obtain ⟨g_13, hf⟩ := ogd hf
    refine va_iast hx hb hK.1 hP (hD σ_12) hS 9 0 (cw9 a c σ_12) rfl (ck_in g_13) dX1_reach_89 (fun H locs hP _ hS => ?_)
    have hP := vP_eq (cpA_by a c σ_12 (Int32.toNatClampNeg (σ_12.1 0 6)) x3) hP
    obtain ⟨σ_14, eσ_14, hf⟩ := onm hf
    rw [eσ_14] at hP
    refine lv_aload_n hx hb dX1_reach_90 rfl (lv_at hl 2 rfl) ?_
    refine lv_dup hx hb dX1_reach_91 rfl ?_
    refine va_get (D := D) (ci := 1) (v := .int (σ_14.1 0 6)) (C := RX1) (T := TX1) (N := 7) hx hb ht gX1 hown hK.1 hP 6 (cw6 a c σ_14) rfl 4 (by decide) (ht _ q431) (fun _ h9 => h9) rfl dX1_reach_92 ?_
    refine lv_iconst (v := (1 : Int32)) hx hb dX1_reach_95 (by decide) ?_
    refine lv_iadd hx hb dX1_reach_96 ?_
    refine va_put (D := D) (ci := 1) (v := .int ((σ_14.1 0 6) + (1 : Int32))) (ty := .int) (C := RX1) (T := TX1) (N := 7) hx hb ht gX1 tyX1 tyX1_ok nmX1 hown hK.1 hP (hD σ_14) hS 6 (cw6 a c σ_14) rfl 4 (by decide) (ht _ q431) (fun _ h9 => h9) rfl (by decide +kernel) rfl rfl (Nat.le_of_ble_eq_true rfl) dX1_reach_97 (fun H locs hP _ hS => ?_)
    have hP := vP_eq (cpX1_many a c σ_14 ((σ_14.1 0 6) + (1 : Int32))) hP
    obtain ⟨σ_15, eσ_15, hf⟩ := onm hf
    rw [eσ_15] at hP
    exact hret _ _ _ _ _ dX1_reach_100 hP hS (Option.some.inj hf)
  have hf := oif c_5 hf
  exact hret _ _ _ _ _ dX1_reach_47 hP hS (Option.some.inj hf)
theorem dX1_goOn_0 : decode cX1_goOn 0 = .ok (.aload_n 0, 1) := by decide +kernel
theorem dX1_goOn_1 : decode cX1_goOn 1 = .ok (.getfield 11, 3) := by decide +kernel
theorem dX1_goOn_4 : decode cX1_goOn 4 = .ok (.iload_n 1, 1) := by decide +kernel
theorem dX1_goOn_5 : decode cX1_goOn 5 = .ok (.iaload, 1) := by decide +kernel
theorem dX1_goOn_6 : decode cX1_goOn 6 = .ok (.aload_n 0, 1) := by decide +kernel
theorem dX1_goOn_7 : decode cX1_goOn 7 = .ok (.getfield 31, 3) := by decide +kernel
theorem dX1_goOn_10 : decode cX1_goOn 10 = .ok (.aload_n 0, 1) := by decide +kernel
theorem dX1_goOn_11 : decode cX1_goOn 11 = .ok (.getfield 34, 3) := by decide +kernel
theorem dX1_goOn_14 : decode cX1_goOn 14 = .ok (.invokestatic 51, 3) := by decide +kernel
theorem dX1_goOn_17 : decode cX1_goOn 17 = .ok (.istore_n 2, 1) := by decide +kernel
theorem dX1_goOn_18 : decode cX1_goOn 18 = .ok (.iconst 0, 1) := by decide +kernel
theorem dX1_goOn_19 : decode cX1_goOn 19 = .ok (.istore_n 3, 1) := by decide +kernel
theorem dX1_goOn_20 : decode cX1_goOn 20 = .ok (.iload_n 3, 1) := by decide +kernel
theorem dX1_goOn_21 : decode cX1_goOn 21 = .ok (.bipush 28, 2) := by decide +kernel
theorem dX1_goOn_23 : decode cX1_goOn 23 = .ok (.if_icmp .ge 33, 3) := by decide +kernel
theorem dX1_goOn_26 : decode cX1_goOn 26 = .ok (.iload_n 2, 1) := by decide +kernel
theorem dX1_goOn_27 : decode cX1_goOn 27 = .ok (.iload_n 3, 1) := by decide +kernel
theorem dX1_goOn_28 : decode cX1_goOn 28 = .ok (.invokestatic 55, 3) := by decide +kernel
theorem dX1_goOn_31 : decode cX1_goOn 31 = .ok (.ifCond .eq 19, 3) := by decide +kernel
theorem dX1_goOn_34 : decode cX1_goOn 34 = .ok (.aload_n 0, 1) := by decide +kernel
theorem dX1_goOn_35 : decode cX1_goOn 35 = .ok (.aload_n 0, 1) := by decide +kernel
theorem dX1_goOn_36 : decode cX1_goOn 36 = .ok (.getfield 11, 3) := by decide +kernel
theorem dX1_goOn_39 : decode cX1_goOn 39 = .ok (.iload_n 1, 1) := by decide +kernel
theorem dX1_goOn_40 : decode cX1_goOn 40 = .ok (.iaload, 1) := by decide +kernel
theorem dX1_goOn_41 : decode cX1_goOn 41 = .ok (.iload_n 3, 1) := by decide +kernel
theorem dX1_goOn_42 : decode cX1_goOn 42 = .ok (.invokestatic 59, 3) := by decide +kernel
theorem dX1_goOn_45 : decode cX1_goOn 45 = .ok (.iload_n 1, 1) := by decide +kernel
theorem dX1_goOn_46 : decode cX1_goOn 46 = .ok (.iload_n 3, 1) := by decide +kernel
theorem dX1_goOn_47 : decode cX1_goOn 47 = .ok (.invokevirtual 43, 3) := by decide +kernel
theorem dX1_goOn_50 : decode cX1_goOn 50 = .ok (.iinc 3 1, 3) := by decide +kernel
theorem dX1_goOn_53 : decode cX1_goOn 53 = .ok (.goto (-33), 3) := by decide +kernel
theorem dX1_goOn_56 : decode cX1_goOn 56 = .ok (.return_, 1) := by decide +kernel
def f_X1_goOn_j56 (N : Nat) (σ : St) : Option St :=
  some σ
def f_X1_goOn_j50 (N : Nat) (x1 : Int32) (x2 : Int32) (x3 : Int32) (σ : St) : Option ((Int32 × St) ⊕ ((St))) :=
  nm (x3 + (1 : Int32)) fun x3_1 =>
  some (.inl (x3_1, σ))
def f_X1_goOn_b20 (N : Nat) (x1 : Int32) (x2 : Int32) (x3 : Int32) (σ : St) : Option ((Int32 × St) ⊕ ((St))) :=
  if (28 : Int32) ≤ x3 then (some (.inr σ))
  else bd (f_X5_has x2 x3) fun r_3 =>
  if r_3 = 0 then (f_X1_goOn_j50 N x1 x2 x3 σ)
  else gd (ck x1 580) <|
  bd (f_X3_after (σ.1 9 x1.toNatClampNeg) x3) fun r_7 =>
  bd (f_X1_reach r_7 x1 x3 σ) fun σ_9 =>
  f_X1_goOn_j50 N x1 x2 x3 σ_9
def f_X1_goOn (N : Nat) (x1 : Int32) (σ : St) : Option St :=
  gd (ck x1 580) <|
  bd (f_X3_doable N (σ.1 9 x1.toNatClampNeg) (σ.1 0 7) (σ.1 0 8)) fun r_12 =>
  bd (lpF (fun s => f_X1_goOn_b20 N x1 r_12 s.1 s.2) N ((0 : Int32), σ)) (fun o => f_X1_goOn_j56 N o)
abbrev rmX1_goOn : Room := { frames := 4, cells := 0, slots := 0, locals := 96 }
set_option maxRecDepth 100000 in
set_option maxHeartbeats 4000000 in
theorem c_X1_goOn (l : Launch) (D : va_G) (a : Nat → Nat) (c : Nat → ClassId) (A : Nat → Prop) (hD : ∀ σ, va_D A (cW a c σ)) (N : Nat) (x1 : Int32) (σ : St) (u : St) (hf : f_X1_goOn N x1 σ = some u) : MetV l yX1_goOn cX1_goOn 4 (none) rmX1_goOn (cW a c) D c A [.ref (a 6), .int x1] σ u := by
  refine mkV (by decide) (Nat.le_of_ble_eq_true rfl) rfl ?_
  intro p e s m args below meth cd Q ls h0 hK hP hret hl
  obtain ⟨S, hr, hlk⟩ := h0
  obtain ⟨hx, hb, hml, hown, ht⟩ := id S
  have hS : va_S A s.heap s.heap [] := va_S.rf
  have hl : lv_has ls 4 [(0, .ref (a 6)), (1, .int x1)] := hl
  have hf := obs hf
  have j56 : ∀ (σ : St) (H : Heap) (locs : List Loc) (ls : Array Slot), lv_has ls 4 [] → va_P D vwCl (cW a c σ) H → va_S A s.heap H locs → Option.bind (f_X1_goOn_j56 N σ) some = some u → W p l e rmX1_goOn s m args below meth cd H locs 0 0 Q (F0 m 56 ls []) := by
    intro σ H locs ls hl hP hS hf
    have hf := oun (f_X1_goOn_j56.eq_1 _ _) hf
    exact hret _ _ _ _ _ dX1_goOn_56 hP hS (Option.some.inj hf)
  have L20 : ∀ (x1 : Int32) (x2 : Int32) (k : Nat) (x3 : Int32) (σ : St) (H : Heap) (locs : List Loc) (ls : Array Slot), lv_has ls 4 [(0, .ref (a 6)), (1, .int x1), (2, .int x2), (3, .int x3)] → va_P D vwCl (cW a c σ) H → va_S A s.heap H locs → Option.bind (bd (lpF (fun s => f_X1_goOn_b20 N x1 x2 s.1 s.2) k (x3, σ)) (fun o => f_X1_goOn_j56 N o)) some = some u → W p l e rmX1_goOn s m args below meth cd H locs 0 0 Q (F0 m 20 ls []) := by
    intro x1 x2 k
    induction k with
    | zero =>
      intro x3 σ H locs ls hl hP hS hf
      exact (ol0 hf).elim
    | succ k ih =>
      intro x3 σ H locs ls hl hP hS hf
      obtain ⟨K20, hf, hc20, hx20⟩ := ol1 hf
      have j50 : ∀ (x3 : Int32) (σ : St) (H : Heap) (locs : List Loc) (ls : Array Slot), lv_has ls 4 [(0, .ref (a 6)), (1, .int x1), (2, .int x2), (3, .int x3)] → va_P D vwCl (cW a c σ) H → va_S A s.heap H locs → Option.bind (f_X1_goOn_j50 N x1 x2 x3 σ) K20 = some u → W p l e rmX1_goOn s m args below meth cd H locs 0 0 Q (F0 m 50 ls []) := by
        intro x3 σ H locs ls hl hP hS hf
        have hf := oun (f_X1_goOn_j50.eq_1 _ _ _ _ _) hf
        obtain ⟨x3_1, ex3_1, hf⟩ := onm hf
        refine lv_iinc (v := x3_1) (lv' := [(3, .int x3_1), (0, .ref (a 6)), (1, .int x1), (2, .int x2)]) hx hb dX1_goOn_50 hl (k := 3) rfl ex3_1 (by decide) rfl (fun ls hl => ?_)
        refine lv_goto (tgt := 20) hx hb dX1_goOn_53 (by decide) ?_
        exact ih x3_1 σ _ _ _ (lv_sub hl [1, 2, 3, 0] rfl) hP hS (okx hf (hc20 _))
      have hf := oun (f_X1_goOn_b20.eq_1 N x1 x2 x3 σ) hf
      refine lv_iload_n hx hb dX1_goOn_20 rfl (lv_at hl 3 rfl) ?_
      refine lv_bipush (v := (28 : Int32)) hx hb dX1_goOn_21 (by decide) ?_
      refine lv_icmp_ge (tgt := 56) hx hb dX1_goOn_23 (by decide) (fun c_2 => ?_) (fun c_2 => ?_)
      · have hf := oit c_2 hf
        exact j56 σ _ _ _ (lv_sub hl [] rfl) hP hS (okx hf (hx20 _))
      have hf := oif c_2 hf
      refine lv_iload_n hx hb dX1_goOn_26 rfl (lv_at hl 2 rfl) ?_
      refine lv_iload_n hx hb dX1_goOn_27 rfl (lv_at hl 3 rfl) ?_
      obtain ⟨r_3, h_4, hf⟩ := obd hf
      refine xn_S (As := [.int x2, .int x3]) (rest := []) S k_X5_has hK.2.2 q202 ⟨Nat.le_of_ble_eq_true rfl, Nat.le_of_ble_eq_true rfl⟩ ⟨rfl, rfl⟩ (c_X5_has l x2 x3 r_3 h_4) hK.2 rfl hl.1 rfl (Nat.le_of_ble_eq_true rfl) dX1_goOn_28 ⟨Nat.zero_le _, Nat.zero_le _⟩ ?_
      refine lv_if_eq (tgt := 50) hx hb dX1_goOn_31 (by decide) (fun c_5 => ?_) (fun c_5 => ?_)
      · have hf := oit c_5 hf
        exact j50 x3 σ _ _ _ (lv_sub hl [0, 1, 2, 3] rfl) hP hS hf
      have hf := oif c_5 hf
      refine lv_aload_n hx hb dX1_goOn_34 rfl (lv_at hl 0 rfl) ?_
      refine lv_aload_n hx hb dX1_goOn_35 rfl (lv_at hl 0 rfl) ?_
      refine va_get (D := D) (ci := 1) (v := .ref (a 7)) (C := RX1) (T := TX1) (N := 7) hx hb ht gX1 hown hK.1 hP 6 (cw6 a c σ) rfl 0 (by decide) (ht _ q32) (fun _ h9 => h9) rfl dX1_goOn_36 ?_
      refine lv_iload_n hx hb dX1_goOn_39 rfl (lv_at hl 1 rfl) ?_
      obtain ⟨g_6, hf⟩ := ogd hf
      refine va_iald hx hb hK.1 hP 7 0 (cw7 a c σ) rfl (ck_in g_6) dX1_goOn_40 ?_
      refine lv_iload_n hx hb dX1_goOn_41 rfl (lv_at hl 3 rfl) ?_
      obtain ⟨r_7, h_8, hf⟩ := obd hf
      refine xs_S (As := [.int (σ.1 9 x1.toNatClampNeg), .int x3]) (rest := [.ref (a 6)]) S k_X3_after q447 q317 ⟨Nat.le_of_ble_eq_true rfl, Nat.le_of_ble_eq_true rfl⟩ ⟨rfl, rfl⟩ (c_X3_after l (σ.1 9 x1.toNatClampNeg) x3 r_7 h_8) hK.2 rfl hl.1 rfl (Nat.le_of_ble_eq_true rfl) dX1_goOn_42 ⟨Nat.zero_le _, Nat.zero_le _⟩ ?_
      refine lv_iload_n hx hb dX1_goOn_45 rfl (lv_at hl 1 rfl) ?_
      refine lv_iload_n hx hb dX1_goOn_46 rfl (lv_at hl 3 rfl) ?_
      obtain ⟨σ_9, h_10, hf⟩ := obd hf
      refine xv_V (As := [.int r_7, .int x1, .int x3]) (rest := []) S k_X1_reach q438 q439 q440 ⟨Nat.le_of_ble_eq_true rfl, Nat.le_of_ble_eq_true rfl⟩ ⟨rfl, rfl⟩ (c_X1_reach l D a c A hD r_7 x1 x3 σ σ_9 h_10) hK hP hS (va_recv hK.1 hP (rfl : vwCl[1]? = some (RX1, TX1, 7)) (cw6 a c σ)) rfl hl.1 rfl (Nat.le_of_ble_eq_true rfl) dX1_goOn_47 ⟨Nat.zero_le _, Nat.zero_le _⟩ (fun H locs hP hS => ?_)
      exact j50 x3 σ_9 _ _ _ (lv_sub hl [0, 1, 2, 3] rfl) hP hS hf
  have hf := oun (f_X1_goOn.eq_1 _ _ _) hf
  refine lv_aload_n hx hb dX1_goOn_0 rfl (lv_at hl 0 rfl) ?_
  refine va_get (D := D) (ci := 1) (v := .ref (a 7)) (C := RX1) (T := TX1) (N := 7) hx hb ht gX1 hown hK.1 hP 6 (cw6 a c σ) rfl 0 (by decide) (ht _ q32) (fun _ h9 => h9) rfl dX1_goOn_1 ?_
  refine lv_iload_n hx hb dX1_goOn_4 rfl (lv_at hl 1 rfl) ?_
  obtain ⟨g_11, hf⟩ := ogd hf
  refine va_iald hx hb hK.1 hP 7 0 (cw7 a c σ) rfl (ck_in g_11) dX1_goOn_5 ?_
  refine lv_aload_n hx hb dX1_goOn_6 rfl (lv_at hl 0 rfl) ?_
  refine va_get (D := D) (ci := 1) (v := .int (σ.1 0 7)) (C := RX1) (T := TX1) (N := 7) hx hb ht gX1 hown hK.1 hP 6 (cw6 a c σ) rfl 5 (by decide) (ht _ q432) (fun _ h9 => h9) rfl dX1_goOn_7 ?_
  refine lv_aload_n hx hb dX1_goOn_10 rfl (lv_at hl 0 rfl) ?_
  refine va_get (D := D) (ci := 1) (v := .int (σ.1 0 8)) (C := RX1) (T := TX1) (N := 7) hx hb ht gX1 hown hK.1 hP 6 (cw6 a c σ) rfl 6 (by decide) (ht _ q433) (fun _ h9 => h9) rfl dX1_goOn_11 ?_
  obtain ⟨r_12, h_13, hf⟩ := obd hf
  refine xs_S (As := [.int (σ.1 9 x1.toNatClampNeg), .int (σ.1 0 7), .int (σ.1 0 8)]) (rest := []) S k_X3_doable q446 q307 ⟨Nat.le_of_ble_eq_true rfl, Nat.le_of_ble_eq_true rfl⟩ ⟨rfl, rfl⟩ (c_X3_doable l N (σ.1 9 x1.toNatClampNeg) (σ.1 0 7) (σ.1 0 8) r_12 h_13) hK.2 rfl hl.1 rfl (Nat.le_of_ble_eq_true rfl) dX1_goOn_14 ⟨Nat.zero_le _, Nat.zero_le _⟩ ?_
  refine lv_istore_n (lv' := [(2, .int r_12), (0, .ref (a 6)), (1, .int x1)]) hx hb dX1_goOn_17 rfl hl (by decide) rfl (fun ls hl => ?_)
  refine lv_iconst (v := (0 : Int32)) hx hb dX1_goOn_18 (by decide) ?_
  refine lv_istore_n (lv' := [(3, .int (0 : Int32)), (2, .int r_12), (0, .ref (a 6)), (1, .int x1)]) hx hb dX1_goOn_19 rfl hl (by decide) rfl (fun ls hl => ?_)
  exact L20 x1 r_12 N (0 : Int32) σ _ _ _ (lv_sub hl [2, 3, 1, 0] rfl) hP hS hf
theorem dX1_go_0 : decode cX1_go 0 = .ok (.aload_n 0, 1) := by decide +kernel
theorem dX1_go_1 : decode cX1_go 1 = .ok (.getfield 27, 3) := by decide +kernel
theorem dX1_go_4 : decode cX1_go 4 = .ok (.ifCond .le 30, 3) := by decide +kernel
theorem dX1_go_7 : decode cX1_go 7 = .ok (.aload_n 0, 1) := by decide +kernel
theorem dX1_go_8 : decode cX1_go 8 = .ok (.getfield 11, 3) := by decide +kernel
theorem dX1_go_11 : decode cX1_go 11 = .ok (.iconst 0, 1) := by decide +kernel
theorem dX1_go_12 : decode cX1_go 12 = .ok (.iaload, 1) := by decide +kernel
theorem dX1_go_13 : decode cX1_go 13 = .ok (.iload_n 1, 1) := by decide +kernel
theorem dX1_go_14 : decode cX1_go 14 = .ok (.if_icmp .ne 20, 3) := by decide +kernel
theorem dX1_go_17 : decode cX1_go 17 = .ok (.aload_n 0, 1) := by decide +kernel
theorem dX1_go_18 : decode cX1_go 18 = .ok (.getfield 31, 3) := by decide +kernel
theorem dX1_go_21 : decode cX1_go 21 = .ok (.iload_n 2, 1) := by decide +kernel
theorem dX1_go_22 : decode cX1_go 22 = .ok (.if_icmp .ne 12, 3) := by decide +kernel
theorem dX1_go_25 : decode cX1_go 25 = .ok (.aload_n 0, 1) := by decide +kernel
theorem dX1_go_26 : decode cX1_go 26 = .ok (.getfield 34, 3) := by decide +kernel
theorem dX1_go_29 : decode cX1_go 29 = .ok (.iload_n 3, 1) := by decide +kernel
theorem dX1_go_30 : decode cX1_go 30 = .ok (.if_icmp .ne 4, 3) := by decide +kernel
theorem dX1_go_33 : decode cX1_go 33 = .ok (.return_, 1) := by decide +kernel
theorem dX1_go_34 : decode cX1_go 34 = .ok (.aload_n 0, 1) := by decide +kernel
theorem dX1_go_35 : decode cX1_go 35 = .ok (.getfield 23, 3) := by decide +kernel
theorem dX1_go_38 : decode cX1_go 38 = .ok (.lconst 0, 1) := by decide +kernel
theorem dX1_go_39 : decode cX1_go 39 = .ok (.invokestatic 37, 3) := by decide +kernel
theorem dX1_go_42 : decode cX1_go 42 = .ok (.aload_n 0, 1) := by decide +kernel
theorem dX1_go_43 : decode cX1_go 43 = .ok (.iconst 0, 1) := by decide +kernel
theorem dX1_go_44 : decode cX1_go 44 = .ok (.putfield 27, 3) := by decide +kernel
theorem dX1_go_47 : decode cX1_go 47 = .ok (.aload_n 0, 1) := by decide +kernel
theorem dX1_go_48 : decode cX1_go 48 = .ok (.iload_n 2, 1) := by decide +kernel
theorem dX1_go_49 : decode cX1_go 49 = .ok (.putfield 31, 3) := by decide +kernel
theorem dX1_go_52 : decode cX1_go 52 = .ok (.aload_n 0, 1) := by decide +kernel
theorem dX1_go_53 : decode cX1_go 53 = .ok (.iload_n 3, 1) := by decide +kernel
theorem dX1_go_54 : decode cX1_go 54 = .ok (.putfield 34, 3) := by decide +kernel
theorem dX1_go_57 : decode cX1_go 57 = .ok (.aload_n 0, 1) := by decide +kernel
theorem dX1_go_58 : decode cX1_go 58 = .ok (.iload_n 1, 1) := by decide +kernel
theorem dX1_go_59 : decode cX1_go 59 = .ok (.iconst 0, 1) := by decide +kernel
theorem dX1_go_60 : decode cX1_go 60 = .ok (.iconst 0, 1) := by decide +kernel
theorem dX1_go_61 : decode cX1_go 61 = .ok (.invokevirtual 43, 3) := by decide +kernel
theorem dX1_go_64 : decode cX1_go 64 = .ok (.iconst 0, 1) := by decide +kernel
theorem dX1_go_65 : decode cX1_go 65 = .ok (.istore 4, 2) := by decide +kernel
theorem dX1_go_67 : decode cX1_go 67 = .ok (.iload 4, 2) := by decide +kernel
theorem dX1_go_69 : decode cX1_go 69 = .ok (.aload_n 0, 1) := by decide +kernel
theorem dX1_go_70 : decode cX1_go 70 = .ok (.getfield 27, 3) := by decide +kernel
theorem dX1_go_73 : decode cX1_go 73 = .ok (.if_icmp .ge 23, 3) := by decide +kernel
theorem dX1_go_76 : decode cX1_go 76 = .ok (.iload 4, 2) := by decide +kernel
theorem dX1_go_78 : decode cX1_go 78 = .ok (.sipush 580, 3) := by decide +kernel
theorem dX1_go_81 : decode cX1_go 81 = .ok (.if_icmp .ge 15, 3) := by decide +kernel
theorem dX1_go_84 : decode cX1_go 84 = .ok (.aload_n 0, 1) := by decide +kernel
theorem dX1_go_85 : decode cX1_go 85 = .ok (.iload 4, 2) := by decide +kernel
theorem dX1_go_87 : decode cX1_go 87 = .ok (.invokevirtual 47, 3) := by decide +kernel
theorem dX1_go_90 : decode cX1_go 90 = .ok (.iinc 4 1, 3) := by decide +kernel
theorem dX1_go_93 : decode cX1_go 93 = .ok (.goto (-26), 3) := by decide +kernel
theorem dX1_go_96 : decode cX1_go 96 = .ok (.return_, 1) := by decide +kernel
def f_X1_go_j96 (N : Nat) (σ : St) : Option St :=
  some σ
def f_X1_go_b67 (N : Nat) (x4 : Int32) (σ : St) : Option ((Int32 × St) ⊕ ((St))) :=
  if (σ.1 0 6) ≤ x4 then (some (.inr σ))
  else if (580 : Int32) ≤ x4 then (some (.inr σ))
  else bd (f_X1_goOn N x4 σ) fun σ_3 =>
  nm (x4 + (1 : Int32)) fun x4_5 =>
  some (.inl (x4_5, σ_3))
def f_X1_go_j34 (N : Nat) (x1 : Int32) (x2 : Int32) (x3 : Int32) (σ : St) : Option St :=
  nm (wLs σ (fun j => if j < 1024 then (0 : Int64) else σ.2 j)) fun σ_6 =>
  nm (wS σ_6 0 6 (0 : Int32)) fun σ_7 =>
  nm (wS σ_7 0 7 x2) fun σ_8 =>
  nm (wS σ_8 0 8 x3) fun σ_9 =>
  bd (f_X1_reach x1 (0 : Int32) (0 : Int32) σ_9) fun σ_10 =>
  bd (lpF (fun s => f_X1_go_b67 N s.1 s.2) N ((0 : Int32), σ_10)) (fun o => f_X1_go_j96 N o)
def f_X1_go (N : Nat) (x1 : Int32) (x2 : Int32) (x3 : Int32) (σ : St) : Option St :=
  if (σ.1 0 6) ≤ 0 then (f_X1_go_j34 N x1 x2 x3 σ)
  else gd (ck (0 : Int32) 580) <|
  if (σ.1 9 (0 : Int32).toNatClampNeg) = x1 then (if (σ.1 0 7) = x2 then (if (σ.1 0 8) = x3 then (some σ)
      else f_X1_go_j34 N x1 x2 x3 σ)
    else f_X1_go_j34 N x1 x2 x3 σ)
  else f_X1_go_j34 N x1 x2 x3 σ
abbrev rmX1_go : Room := { frames := 5, cells := 0, slots := 0, locals := 119 }
set_option maxRecDepth 100000 in
set_option maxHeartbeats 4000000 in
theorem c_X1_go (l : Launch) (D : va_G) (a : Nat → Nat) (c : Nat → ClassId) (A : Nat → Prop) (hD : ∀ σ, va_D A (cW a c σ)) (N : Nat) (x1 : Int32) (x2 : Int32) (x3 : Int32) (σ : St) (u : St) (hf : f_X1_go N x1 x2 x3 σ = some u) : MetV l yX1_go cX1_go 5 (none) rmX1_go (cW a c) D c A [.ref (a 6), .int x1, .int x2, .int x3] σ u := by
  refine mkV (by decide) (Nat.le_of_ble_eq_true rfl) rfl ?_
  intro p e s m args below meth cd Q ls h0 hK hP hret hl
  obtain ⟨S, hr, hlk⟩ := h0
  obtain ⟨hx, hb, hml, hown, ht⟩ := id S
  have hS : va_S A s.heap s.heap [] := va_S.rf
  have hl : lv_has ls 5 [(0, .ref (a 6)), (1, .int x1), (2, .int x2), (3, .int x3)] := hl
  have hf := obs hf
  have j96 : ∀ (σ : St) (H : Heap) (locs : List Loc) (ls : Array Slot), lv_has ls 5 [] → va_P D vwCl (cW a c σ) H → va_S A s.heap H locs → Option.bind (f_X1_go_j96 N σ) some = some u → W p l e rmX1_go s m args below meth cd H locs 0 0 Q (F0 m 96 ls []) := by
    intro σ H locs ls hl hP hS hf
    have hf := oun (f_X1_go_j96.eq_1 _ _) hf
    exact hret _ _ _ _ _ dX1_go_96 hP hS (Option.some.inj hf)
  have L67 : ∀ (k : Nat) (x4 : Int32) (σ : St) (H : Heap) (locs : List Loc) (ls : Array Slot), lv_has ls 5 [(0, .ref (a 6)), (4, .int x4)] → va_P D vwCl (cW a c σ) H → va_S A s.heap H locs → Option.bind (bd (lpF (fun s => f_X1_go_b67 N s.1 s.2) k (x4, σ)) (fun o => f_X1_go_j96 N o)) some = some u → W p l e rmX1_go s m args below meth cd H locs 0 0 Q (F0 m 67 ls []) := by
    intro k
    induction k with
    | zero =>
      intro x4 σ H locs ls hl hP hS hf
      exact (ol0 hf).elim
    | succ k ih =>
      intro x4 σ H locs ls hl hP hS hf
      obtain ⟨K67, hf, hc67, hx67⟩ := ol1 hf
      have hf := oun (f_X1_go_b67.eq_1 N x4 σ) hf
      refine lv_iload hx hb dX1_go_67 (lv_at hl 1 rfl) ?_
      refine lv_aload_n hx hb dX1_go_69 rfl (lv_at hl 0 rfl) ?_
      refine va_get (D := D) (ci := 1) (v := .int (σ.1 0 6)) (C := RX1) (T := TX1) (N := 7) hx hb ht gX1 hown hK.1 hP 6 (cw6 a c σ) rfl 4 (by decide) (ht _ q431) (fun _ h9 => h9) rfl dX1_go_70 ?_
      refine lv_icmp_ge (tgt := 96) hx hb dX1_go_73 (by decide) (fun c_1 => ?_) (fun c_1 => ?_)
      · have hf := oit c_1 hf
        exact j96 σ _ _ _ (lv_sub hl [] rfl) hP hS (okx hf (hx67 _))
      have hf := oif c_1 hf
      refine lv_iload hx hb dX1_go_76 (lv_at hl 1 rfl) ?_
      refine lv_sipush (v := (580 : Int32)) hx hb dX1_go_78 (by decide) ?_
      refine lv_icmp_ge (tgt := 96) hx hb dX1_go_81 (by decide) (fun c_2 => ?_) (fun c_2 => ?_)
      · have hf := oit c_2 hf
        exact j96 σ _ _ _ (lv_sub hl [] rfl) hP hS (okx hf (hx67 _))
      have hf := oif c_2 hf
      refine lv_aload_n hx hb dX1_go_84 rfl (lv_at hl 0 rfl) ?_
      refine lv_iload hx hb dX1_go_85 (lv_at hl 1 rfl) ?_
      obtain ⟨σ_3, h_4, hf⟩ := obd hf
      refine xv_V (As := [.int x4]) (rest := []) S k_X1_goOn q442 q443 q444 ⟨Nat.le_of_ble_eq_true rfl, Nat.le_of_ble_eq_true rfl⟩ ⟨rfl, rfl⟩ (c_X1_goOn l D a c A hD N x4 σ σ_3 h_4) hK hP hS (va_recv hK.1 hP (rfl : vwCl[1]? = some (RX1, TX1, 7)) (cw6 a c σ)) rfl hl.1 rfl (Nat.le_of_ble_eq_true rfl) dX1_go_87 ⟨Nat.zero_le _, Nat.zero_le _⟩ (fun H locs hP hS => ?_)
      obtain ⟨x4_5, ex4_5, hf⟩ := onm hf
      refine lv_iinc (v := x4_5) (lv' := [(4, .int x4_5), (0, .ref (a 6))]) hx hb dX1_go_90 hl (k := 1) rfl ex4_5 (by decide) rfl (fun ls hl => ?_)
      refine lv_goto (tgt := 67) hx hb dX1_go_93 (by decide) ?_
      exact ih x4_5 σ_3 _ _ _ (lv_sub hl [1, 0] rfl) hP hS (okx hf (hc67 _))
  have j34 : ∀ (x1 : Int32) (x2 : Int32) (x3 : Int32) (σ : St) (H : Heap) (locs : List Loc) (ls : Array Slot), lv_has ls 5 [(0, .ref (a 6)), (1, .int x1), (2, .int x2), (3, .int x3)] → va_P D vwCl (cW a c σ) H → va_S A s.heap H locs → Option.bind (f_X1_go_j34 N x1 x2 x3 σ) some = some u → W p l e rmX1_go s m args below meth cd H locs 0 0 Q (F0 m 34 ls []) := by
    intro x1 x2 x3 σ H locs ls hl hP hS hf
    have hf := oun (f_X1_go_j34.eq_1 _ _ _ _ _) hf
    refine lv_aload_n hx hb dX1_go_34 rfl (lv_at hl 0 rfl) ?_
    refine va_get (D := D) (ci := 1) (v := .ref (a 10)) (C := RX1) (T := TX1) (N := 7) hx hb ht gX1 hown hK.1 hP 6 (cw6 a c σ) rfl 3 (by decide) (ht _ q36) (fun _ h9 => h9) rfl dX1_go_35 ?_
    refine lv_lconst (v := (0 : Int64)) hx hb dX1_go_38 (by decide) ?_
    refine xs_V (As := [.ref (a 10), .long (0 : Int64)]) (rest := []) S k_J7_fill_d0a16 q434 q435 ⟨Nat.le_of_ble_eq_true rfl, Nat.le_of_ble_eq_true rfl⟩ ⟨rfl, rfl⟩ (c_fillL l D a c A hD σ (0 : Int64)) hK hP hS rfl hl.1 rfl (Nat.le_of_ble_eq_true rfl) dX1_go_39 ⟨Nat.zero_le _, Nat.zero_le _⟩ (fun H locs hP hS => ?_)
    obtain ⟨σ_6, eσ_6, hf⟩ := onm hf
    rw [eσ_6] at hP
    refine lv_aload_n hx hb dX1_go_42 rfl (lv_at hl 0 rfl) ?_
    refine lv_iconst (v := (0 : Int32)) hx hb dX1_go_43 (by decide) ?_
    refine va_put (D := D) (ci := 1) (v := .int (0 : Int32)) (ty := .int) (C := RX1) (T := TX1) (N := 7) hx hb ht gX1 tyX1 tyX1_ok nmX1 hown hK.1 hP (hD σ_6) hS 6 (cw6 a c σ_6) rfl 4 (by decide) (ht _ q431) (fun _ h9 => h9) rfl (by decide +kernel) rfl rfl (Nat.le_of_ble_eq_true rfl) dX1_go_44 (fun H locs hP _ hS => ?_)
    have hP := vP_eq (cpX1_many a c σ_6 (0 : Int32)) hP
    obtain ⟨σ_7, eσ_7, hf⟩ := onm hf
    rw [eσ_7] at hP
    refine lv_aload_n hx hb dX1_go_47 rfl (lv_at hl 0 rfl) ?_
    refine lv_iload_n hx hb dX1_go_48 rfl (lv_at hl 2 rfl) ?_
    refine va_put (D := D) (ci := 1) (v := .int x2) (ty := .int) (C := RX1) (T := TX1) (N := 7) hx hb ht gX1 tyX1 tyX1_ok nmX1 hown hK.1 hP (hD σ_7) hS 6 (cw6 a c σ_7) rfl 5 (by decide) (ht _ q432) (fun _ h9 => h9) rfl (by decide +kernel) rfl rfl (Nat.le_of_ble_eq_true rfl) dX1_go_49 (fun H locs hP _ hS => ?_)
    have hP := vP_eq (cpX1_count a c σ_7 x2) hP
    obtain ⟨σ_8, eσ_8, hf⟩ := onm hf
    rw [eσ_8] at hP
    refine lv_aload_n hx hb dX1_go_52 rfl (lv_at hl 0 rfl) ?_
    refine lv_iload_n hx hb dX1_go_53 rfl (lv_at hl 3 rfl) ?_
    refine va_put (D := D) (ci := 1) (v := .int x3) (ty := .int) (C := RX1) (T := TX1) (N := 7) hx hb ht gX1 tyX1 tyX1_ok nmX1 hown hK.1 hP (hD σ_8) hS 6 (cw6 a c σ_8) rfl 6 (by decide) (ht _ q433) (fun _ h9 => h9) rfl (by decide +kernel) rfl rfl (Nat.le_of_ble_eq_true rfl) dX1_go_54 (fun H locs hP _ hS => ?_)
    have hP := vP_eq (cpX1_fitting a c σ_8 x3) hP
    obtain ⟨σ_9, eσ_9, hf⟩ := onm hf
    rw [eσ_9] at hP
    refine lv_aload_n hx hb dX1_go_57 rfl (lv_at hl 0 rfl) ?_
    refine lv_iload_n hx hb dX1_go_58 rfl (lv_at hl 1 rfl) ?_
    refine lv_iconst (v := (0 : Int32)) hx hb dX1_go_59 (by decide) ?_
    refine lv_iconst (v := (0 : Int32)) hx hb dX1_go_60 (by decide) ?_
    obtain ⟨σ_10, h_11, hf⟩ := obd hf
    refine xv_V (As := [.int x1, .int (0 : Int32), .int (0 : Int32)]) (rest := []) S k_X1_reach q438 q439 q440 ⟨Nat.le_of_ble_eq_true rfl, Nat.le_of_ble_eq_true rfl⟩ ⟨rfl, rfl⟩ (c_X1_reach l D a c A hD x1 (0 : Int32) (0 : Int32) σ_9 σ_10 h_11) hK hP hS (va_recv hK.1 hP (rfl : vwCl[1]? = some (RX1, TX1, 7)) (cw6 a c σ_9)) rfl hl.1 rfl (Nat.le_of_ble_eq_true rfl) dX1_go_61 ⟨Nat.zero_le _, Nat.zero_le _⟩ (fun H locs hP hS => ?_)
    refine lv_iconst (v := (0 : Int32)) hx hb dX1_go_64 (by decide) ?_
    refine lv_istore (lv' := [(4, .int (0 : Int32)), (0, .ref (a 6)), (1, .int x1), (2, .int x2), (3, .int x3)]) hx hb dX1_go_65 hl (by decide) rfl (fun ls hl => ?_)
    exact L67 N (0 : Int32) σ_10 _ _ _ (lv_sub hl [1, 0] rfl) hP hS hf
  have hf := oun (f_X1_go.eq_1 _ _ _ _ _) hf
  refine lv_aload_n hx hb dX1_go_0 rfl (lv_at hl 0 rfl) ?_
  refine va_get (D := D) (ci := 1) (v := .int (σ.1 0 6)) (C := RX1) (T := TX1) (N := 7) hx hb ht gX1 hown hK.1 hP 6 (cw6 a c σ) rfl 4 (by decide) (ht _ q431) (fun _ h9 => h9) rfl dX1_go_1 ?_
  refine lv_if_le (tgt := 34) hx hb dX1_go_4 (by decide) (fun c_12 => ?_) (fun c_12 => ?_)
  · have hf := oit c_12 hf
    exact j34 x1 x2 x3 σ _ _ _ (lv_sub hl [0, 1, 2, 3] rfl) hP hS hf
  have hf := oif c_12 hf
  refine lv_aload_n hx hb dX1_go_7 rfl (lv_at hl 0 rfl) ?_
  refine va_get (D := D) (ci := 1) (v := .ref (a 7)) (C := RX1) (T := TX1) (N := 7) hx hb ht gX1 hown hK.1 hP 6 (cw6 a c σ) rfl 0 (by decide) (ht _ q32) (fun _ h9 => h9) rfl dX1_go_8 ?_
  refine lv_iconst (v := (0 : Int32)) hx hb dX1_go_11 (by decide) ?_
  obtain ⟨g_13, hf⟩ := ogd hf
  refine va_iald hx hb hK.1 hP 7 0 (cw7 a c σ) rfl (ck_in g_13) dX1_go_12 ?_
  refine lv_iload_n hx hb dX1_go_13 rfl (lv_at hl 1 rfl) ?_
  refine lv_icmp_ne (tgt := 34) hx hb dX1_go_14 (by decide) (fun c_14 => ?_) (fun c_14 => ?_)
  · have hf := oif c_14 hf
    exact j34 x1 x2 x3 σ _ _ _ (lv_sub hl [0, 1, 2, 3] rfl) hP hS hf
  have hf := oit c_14 hf
  refine lv_aload_n hx hb dX1_go_17 rfl (lv_at hl 0 rfl) ?_
  refine va_get (D := D) (ci := 1) (v := .int (σ.1 0 7)) (C := RX1) (T := TX1) (N := 7) hx hb ht gX1 hown hK.1 hP 6 (cw6 a c σ) rfl 5 (by decide) (ht _ q432) (fun _ h9 => h9) rfl dX1_go_18 ?_
  refine lv_iload_n hx hb dX1_go_21 rfl (lv_at hl 2 rfl) ?_
  refine lv_icmp_ne (tgt := 34) hx hb dX1_go_22 (by decide) (fun c_15 => ?_) (fun c_15 => ?_)
  · have hf := oif c_15 hf
    exact j34 x1 x2 x3 σ _ _ _ (lv_sub hl [0, 1, 2, 3] rfl) hP hS hf
  have hf := oit c_15 hf
  refine lv_aload_n hx hb dX1_go_25 rfl (lv_at hl 0 rfl) ?_
  refine va_get (D := D) (ci := 1) (v := .int (σ.1 0 8)) (C := RX1) (T := TX1) (N := 7) hx hb ht gX1 hown hK.1 hP 6 (cw6 a c σ) rfl 6 (by decide) (ht _ q433) (fun _ h9 => h9) rfl dX1_go_26 ?_
  refine lv_iload_n hx hb dX1_go_29 rfl (lv_at hl 3 rfl) ?_
  refine lv_icmp_ne (tgt := 34) hx hb dX1_go_30 (by decide) (fun c_16 => ?_) (fun c_16 => ?_)
  · have hf := oif c_16 hf
    exact j34 x1 x2 x3 σ _ _ _ (lv_sub hl [0, 1, 2, 3] rfl) hP hS hf
  have hf := oit c_16 hf
  exact hret _ _ _ _ _ dX1_go_33 hP hS (Option.some.inj hf)
theorem dX1_isOf_0 : decode cX1_isOf 0 = .ok (.iload_n 1, 1) := by decide +kernel
theorem dX1_isOf_1 : decode cX1_isOf 1 = .ok (.tableswitch 85 1 3 #[27, 40, 61], 27) := by decide +kernel
theorem dX1_isOf_28 : decode cX1_isOf 28 = .ok (.iload_n 2, 1) := by decide +kernel
theorem dX1_isOf_29 : decode cX1_isOf 29 = .ok (.invokestatic 66, 3) := by decide +kernel
theorem dX1_isOf_32 : decode cX1_isOf 32 = .ok (.ifCond .ne 7, 3) := by decide +kernel
theorem dX1_isOf_35 : decode cX1_isOf 35 = .ok (.iconst 1, 1) := by decide +kernel
theorem dX1_isOf_36 : decode cX1_isOf 36 = .ok (.goto 4, 3) := by decide +kernel
theorem dX1_isOf_39 : decode cX1_isOf 39 = .ok (.iconst 0, 1) := by decide +kernel
theorem dX1_isOf_40 : decode cX1_isOf 40 = .ok (.ireturn, 1) := by decide +kernel
theorem dX1_isOf_41 : decode cX1_isOf 41 = .ok (.iload_n 2, 1) := by decide +kernel
theorem dX1_isOf_42 : decode cX1_isOf 42 = .ok (.aload_n 0, 1) := by decide +kernel
theorem dX1_isOf_43 : decode cX1_isOf 43 = .ok (.getfield 31, 3) := by decide +kernel
theorem dX1_isOf_46 : decode cX1_isOf 46 = .ok (.invokestatic 70, 3) := by decide +kernel
theorem dX1_isOf_49 : decode cX1_isOf 49 = .ok (.invokestatic 73, 3) := by decide +kernel
theorem dX1_isOf_52 : decode cX1_isOf 52 = .ok (.iconst 1, 1) := by decide +kernel
theorem dX1_isOf_53 : decode cX1_isOf 53 = .ok (.if_icmp .ne 7, 3) := by decide +kernel
theorem dX1_isOf_56 : decode cX1_isOf 56 = .ok (.iconst 1, 1) := by decide +kernel
theorem dX1_isOf_57 : decode cX1_isOf 57 = .ok (.goto 4, 3) := by decide +kernel
theorem dX1_isOf_60 : decode cX1_isOf 60 = .ok (.iconst 0, 1) := by decide +kernel
theorem dX1_isOf_61 : decode cX1_isOf 61 = .ok (.ireturn, 1) := by decide +kernel
theorem dX1_isOf_62 : decode cX1_isOf 62 = .ok (.iload_n 2, 1) := by decide +kernel
theorem dX1_isOf_63 : decode cX1_isOf 63 = .ok (.aload_n 0, 1) := by decide +kernel
theorem dX1_isOf_64 : decode cX1_isOf 64 = .ok (.getfield 31, 3) := by decide +kernel
theorem dX1_isOf_67 : decode cX1_isOf 67 = .ok (.invokestatic 78, 3) := by decide +kernel
theorem dX1_isOf_70 : decode cX1_isOf 70 = .ok (.invokestatic 73, 3) := by decide +kernel
theorem dX1_isOf_73 : decode cX1_isOf 73 = .ok (.aload_n 0, 1) := by decide +kernel
theorem dX1_isOf_74 : decode cX1_isOf 74 = .ok (.getfield 31, 3) := by decide +kernel
theorem dX1_isOf_77 : decode cX1_isOf 77 = .ok (.if_icmp .ne 7, 3) := by decide +kernel
theorem dX1_isOf_80 : decode cX1_isOf 80 = .ok (.iconst 1, 1) := by decide +kernel
theorem dX1_isOf_81 : decode cX1_isOf 81 = .ok (.goto 4, 3) := by decide +kernel
theorem dX1_isOf_84 : decode cX1_isOf 84 = .ok (.iconst 0, 1) := by decide +kernel
theorem dX1_isOf_85 : decode cX1_isOf 85 = .ok (.ireturn, 1) := by decide +kernel
theorem dX1_isOf_86 : decode cX1_isOf 86 = .ok (.iconst 1, 1) := by decide +kernel
theorem dX1_isOf_87 : decode cX1_isOf 87 = .ok (.ireturn, 1) := by decide +kernel
def f_X1_isOf (N : Nat) (x1 : Int32) (x2 : Int32) (σ : St) : Option Int32 :=
  if x1 = (1 : Int32) then (bd (f_X3_openSet x2) fun r_2 =>
    if r_2 = 0 then (some (1 : Int32))
    else some (0 : Int32))
  else if x1 = (2 : Int32) then (bd (f_X3_tableSet N x2 (σ.1 0 7)) fun r_6 =>
    bd (f_J6_bitCount_0f7a4 r_6) fun r_8 =>
    if r_8 = (1 : Int32) then (some (1 : Int32))
    else some (0 : Int32))
  else if x1 = (3 : Int32) then (bd (f_X3_handSet N x2 (σ.1 0 7)) fun r_12 =>
    bd (f_J6_bitCount_0f7a4 r_12) fun r_14 =>
    if r_14 = (σ.1 0 7) then (some (1 : Int32))
    else some (0 : Int32))
  else some (1 : Int32)
abbrev rmX1_isOf : Room := { frames := 3, cells := 0, slots := 0, locals := 68 }
set_option maxRecDepth 100000 in
set_option maxHeartbeats 4000000 in
theorem c_X1_isOf (l : Launch) (D : va_G) (a : Nat → Nat) (c : Nat → ClassId) (A : Nat → Prop) (hD : ∀ σ, va_D A (cW a c σ)) (N : Nat) (x1 : Int32) (x2 : Int32) (σ : St) (r : Int32) (hf : f_X1_isOf N x1 x2 σ = some r) : MetI l yX1_isOf cX1_isOf 3 (some .boolean) rmX1_isOf (cW a c) D c A [.ref (a 6), .int x1, .int x2] σ r σ := by
  refine mkI (by decide) (Nat.le_of_ble_eq_true rfl) rfl ?_
  intro p e s m args below meth cd Q ls h0 hK hP hret hl
  obtain ⟨S, hr, hlk⟩ := h0
  obtain ⟨hx, hb, hml, hown, ht⟩ := id S
  have hS : va_S A s.heap s.heap [] := va_S.rf
  have hl : lv_has ls 3 [(0, .ref (a 6)), (1, .int x1), (2, .int x2)] := hl
  have hf := obs hf
  have hf := oun (f_X1_isOf.eq_1 _ _ _ _) hf
  refine lv_iload_n hx hb dX1_isOf_0 rfl (lv_at hl 1 rfl) ?_
  by_cases c_1 : x1 = (1 : Int32)
  · have hf := oit c_1 hf
    refine lv_tableIn (tgt := 28) (off := 27) hx hb dX1_isOf_1 (by rw [c_1]; decide) (by rw [c_1]; decide) (by rw [c_1]; decide) (by decide) ?_
    refine lv_iload_n hx hb dX1_isOf_28 rfl (lv_at hl 2 rfl) ?_
    obtain ⟨r_2, h_3, hf⟩ := obd hf
    refine xs_S (As := [.int x2]) (rest := []) S k_X3_openSet q495 q200 ⟨Nat.le_of_ble_eq_true rfl, Nat.le_of_ble_eq_true rfl⟩ ⟨rfl, rfl⟩ (c_X3_openSet l x2 r_2 h_3) hK.2 rfl hl.1 rfl (Nat.le_of_ble_eq_true rfl) dX1_isOf_29 ⟨Nat.zero_le _, Nat.zero_le _⟩ ?_
    refine lv_if_ne (tgt := 39) hx hb dX1_isOf_32 (by decide) (fun c_4 => ?_) (fun c_4 => ?_)
    · have hf := oif c_4 hf
      refine lv_iconst (v := (0 : Int32)) hx hb dX1_isOf_39 (by decide) ?_
      exact hret _ _ _ _ _ _ dX1_isOf_40 (by decide) hP hS ⟨Option.some.inj hf, rfl⟩
    have hf := oit c_4 hf
    refine lv_iconst (v := (1 : Int32)) hx hb dX1_isOf_35 (by decide) ?_
    refine lv_goto (tgt := 40) hx hb dX1_isOf_36 (by decide) ?_
    exact hret _ _ _ _ _ _ dX1_isOf_40 (by decide) hP hS ⟨Option.some.inj hf, rfl⟩
  have hf := oif c_1 hf
  by_cases c_5 : x1 = (2 : Int32)
  · have hf := oit c_5 hf
    refine lv_tableIn (tgt := 41) (off := 40) hx hb dX1_isOf_1 (by rw [c_5]; decide) (by rw [c_5]; decide) (by rw [c_5]; decide) (by decide) ?_
    refine lv_iload_n hx hb dX1_isOf_41 rfl (lv_at hl 2 rfl) ?_
    refine lv_aload_n hx hb dX1_isOf_42 rfl (lv_at hl 0 rfl) ?_
    refine va_get (D := D) (ci := 1) (v := .int (σ.1 0 7)) (C := RX1) (T := TX1) (N := 7) hx hb ht gX1 hown hK.1 hP 6 (cw6 a c σ) rfl 5 (by decide) (ht _ q432) (fun _ h9 => h9) rfl dX1_isOf_43 ?_
    obtain ⟨r_6, h_7, hf⟩ := obd hf
    refine xs_S (As := [.int x2, .int (σ.1 0 7)]) (rest := []) S k_X3_tableSet q496 q311 ⟨Nat.le_of_ble_eq_true rfl, Nat.le_of_ble_eq_true rfl⟩ ⟨rfl, rfl⟩ (c_X3_tableSet l N x2 (σ.1 0 7) r_6 h_7) hK.2 rfl hl.1 rfl (Nat.le_of_ble_eq_true rfl) dX1_isOf_46 ⟨Nat.zero_le _, Nat.zero_le _⟩ ?_
    obtain ⟨r_8, h_9, hf⟩ := obd hf
    refine xs_S (As := [.int r_6]) (rest := []) S k_J6_bitCount_0f7a4 q497 q328 ⟨Nat.le_of_ble_eq_true rfl, Nat.le_of_ble_eq_true rfl⟩ ⟨rfl, rfl⟩ (c_J6_bitCount_0f7a4 l r_6 r_8 h_9) hK.2 rfl hl.1 rfl (Nat.le_of_ble_eq_true rfl) dX1_isOf_49 ⟨Nat.zero_le _, Nat.zero_le _⟩ ?_
    refine lv_iconst (v := (1 : Int32)) hx hb dX1_isOf_52 (by decide) ?_
    refine lv_icmp_ne (tgt := 60) hx hb dX1_isOf_53 (by decide) (fun c_10 => ?_) (fun c_10 => ?_)
    · have hf := oif c_10 hf
      refine lv_iconst (v := (0 : Int32)) hx hb dX1_isOf_60 (by decide) ?_
      exact hret _ _ _ _ _ _ dX1_isOf_61 (by decide) hP hS ⟨Option.some.inj hf, rfl⟩
    have hf := oit c_10 hf
    refine lv_iconst (v := (1 : Int32)) hx hb dX1_isOf_56 (by decide) ?_
    refine lv_goto (tgt := 61) hx hb dX1_isOf_57 (by decide) ?_
    exact hret _ _ _ _ _ _ dX1_isOf_61 (by decide) hP hS ⟨Option.some.inj hf, rfl⟩
  have hf := oif c_5 hf
  by_cases c_11 : x1 = (3 : Int32)
  · have hf := oit c_11 hf
    refine lv_tableIn (tgt := 62) (off := 61) hx hb dX1_isOf_1 (by rw [c_11]; decide) (by rw [c_11]; decide) (by rw [c_11]; decide) (by decide) ?_
    refine lv_iload_n hx hb dX1_isOf_62 rfl (lv_at hl 2 rfl) ?_
    refine lv_aload_n hx hb dX1_isOf_63 rfl (lv_at hl 0 rfl) ?_
    refine va_get (D := D) (ci := 1) (v := .int (σ.1 0 7)) (C := RX1) (T := TX1) (N := 7) hx hb ht gX1 hown hK.1 hP 6 (cw6 a c σ) rfl 5 (by decide) (ht _ q432) (fun _ h9 => h9) rfl dX1_isOf_64 ?_
    obtain ⟨r_12, h_13, hf⟩ := obd hf
    refine xs_S (As := [.int x2, .int (σ.1 0 7)]) (rest := []) S k_X3_handSet q498 q208 ⟨Nat.le_of_ble_eq_true rfl, Nat.le_of_ble_eq_true rfl⟩ ⟨rfl, rfl⟩ (c_X3_handSet l N x2 (σ.1 0 7) r_12 h_13) hK.2 rfl hl.1 rfl (Nat.le_of_ble_eq_true rfl) dX1_isOf_67 ⟨Nat.zero_le _, Nat.zero_le _⟩ ?_
    obtain ⟨r_14, h_15, hf⟩ := obd hf
    refine xs_S (As := [.int r_12]) (rest := []) S k_J6_bitCount_0f7a4 q497 q328 ⟨Nat.le_of_ble_eq_true rfl, Nat.le_of_ble_eq_true rfl⟩ ⟨rfl, rfl⟩ (c_J6_bitCount_0f7a4 l r_12 r_14 h_15) hK.2 rfl hl.1 rfl (Nat.le_of_ble_eq_true rfl) dX1_isOf_70 ⟨Nat.zero_le _, Nat.zero_le _⟩ ?_
    refine lv_aload_n hx hb dX1_isOf_73 rfl (lv_at hl 0 rfl) ?_
    refine va_get (D := D) (ci := 1) (v := .int (σ.1 0 7)) (C := RX1) (T := TX1) (N := 7) hx hb ht gX1 hown hK.1 hP 6 (cw6 a c σ) rfl 5 (by decide) (ht _ q432) (fun _ h9 => h9) rfl dX1_isOf_74 ?_
    refine lv_icmp_ne (tgt := 84) hx hb dX1_isOf_77 (by decide) (fun c_16 => ?_) (fun c_16 => ?_)
    · have hf := oif c_16 hf
      refine lv_iconst (v := (0 : Int32)) hx hb dX1_isOf_84 (by decide) ?_
      exact hret _ _ _ _ _ _ dX1_isOf_85 (by decide) hP hS ⟨Option.some.inj hf, rfl⟩
    have hf := oit c_16 hf
    refine lv_iconst (v := (1 : Int32)) hx hb dX1_isOf_80 (by decide) ?_
    refine lv_goto (tgt := 85) hx hb dX1_isOf_81 (by decide) ?_
    exact hret _ _ _ _ _ _ dX1_isOf_85 (by decide) hP hS ⟨Option.some.inj hf, rfl⟩
  have hf := oif c_11 hf
  refine lv_tableOut (tgt := 86) hx hb dX1_isOf_1 (by have z0 := lv_neT c_1 (a := 1) rfl; have z1 := lv_neT c_5 (a := 2) rfl; have z2 := lv_neT c_11 (a := 3) rfl; omega) (by decide) ?_
  refine lv_iconst (v := (1 : Int32)) hx hb dX1_isOf_86 (by decide) ?_
  exact hret _ _ _ _ _ _ dX1_isOf_87 (by decide) hP hS ⟨Option.some.inj hf, rfl⟩
theorem dX1_howMany_0 : decode cX1_howMany 0 = .ok (.iconst 0, 1) := by decide +kernel
theorem dX1_howMany_1 : decode cX1_howMany 1 = .ok (.istore_n 2, 1) := by decide +kernel
theorem dX1_howMany_2 : decode cX1_howMany 2 = .ok (.iconst 0, 1) := by decide +kernel
theorem dX1_howMany_3 : decode cX1_howMany 3 = .ok (.istore_n 3, 1) := by decide +kernel
theorem dX1_howMany_4 : decode cX1_howMany 4 = .ok (.iload_n 3, 1) := by decide +kernel
theorem dX1_howMany_5 : decode cX1_howMany 5 = .ok (.aload_n 0, 1) := by decide +kernel
theorem dX1_howMany_6 : decode cX1_howMany 6 = .ok (.getfield 27, 3) := by decide +kernel
theorem dX1_howMany_9 : decode cX1_howMany 9 = .ok (.if_icmp .ge 26, 3) := by decide +kernel
theorem dX1_howMany_12 : decode cX1_howMany 12 = .ok (.aload_n 0, 1) := by decide +kernel
theorem dX1_howMany_13 : decode cX1_howMany 13 = .ok (.iload_n 1, 1) := by decide +kernel
theorem dX1_howMany_14 : decode cX1_howMany 14 = .ok (.aload_n 0, 1) := by decide +kernel
theorem dX1_howMany_15 : decode cX1_howMany 15 = .ok (.getfield 11, 3) := by decide +kernel
theorem dX1_howMany_18 : decode cX1_howMany 18 = .ok (.iload_n 3, 1) := by decide +kernel
theorem dX1_howMany_19 : decode cX1_howMany 19 = .ok (.iaload, 1) := by decide +kernel
theorem dX1_howMany_20 : decode cX1_howMany 20 = .ok (.invokevirtual 63, 3) := by decide +kernel
theorem dX1_howMany_23 : decode cX1_howMany 23 = .ok (.ifCond .eq 6, 3) := by decide +kernel
theorem dX1_howMany_26 : decode cX1_howMany 26 = .ok (.iinc 2 1, 3) := by decide +kernel
theorem dX1_howMany_29 : decode cX1_howMany 29 = .ok (.iinc 3 1, 3) := by decide +kernel
theorem dX1_howMany_32 : decode cX1_howMany 32 = .ok (.goto (-28), 3) := by decide +kernel
theorem dX1_howMany_35 : decode cX1_howMany 35 = .ok (.iload_n 2, 1) := by decide +kernel
theorem dX1_howMany_36 : decode cX1_howMany 36 = .ok (.ireturn, 1) := by decide +kernel
def f_X1_howMany_j35 (N : Nat) (x2 : Int32) (σ : St) : Option Int32 :=
  some x2
def f_X1_howMany_j29 (N : Nat) (x1 : Int32) (x2 : Int32) (x3 : Int32) (σ : St) : Option ((Int32 × Int32) ⊕ ((Int32))) :=
  nm (x3 + (1 : Int32)) fun x3_1 =>
  some (.inl (x2, x3_1))
def f_X1_howMany_b4 (N : Nat) (x1 : Int32) (x2 : Int32) (x3 : Int32) (σ : St) : Option ((Int32 × Int32) ⊕ ((Int32))) :=
  if (σ.1 0 6) ≤ x3 then (some (.inr x2))
  else gd (ck x3 580) <|
  bd (f_X1_isOf N x1 (σ.1 9 x3.toNatClampNeg) σ) fun r_4 =>
  if r_4 = 0 then (f_X1_howMany_j29 N x1 x2 x3 σ)
  else nm (x2 + (1 : Int32)) fun x2_7 =>
  f_X1_howMany_j29 N x1 x2_7 x3 σ
def f_X1_howMany (N : Nat) (x1 : Int32) (σ : St) : Option Int32 :=
  bd (lpF (fun s => f_X1_howMany_b4 N x1 s.1 s.2 σ) N ((0 : Int32), (0 : Int32))) (fun o => f_X1_howMany_j35 N o σ)
abbrev rmX1_howMany : Room := { frames := 4, cells := 0, slots := 0, locals := 90 }
set_option maxRecDepth 100000 in
set_option maxHeartbeats 4000000 in
theorem c_X1_howMany (l : Launch) (D : va_G) (a : Nat → Nat) (c : Nat → ClassId) (A : Nat → Prop) (hD : ∀ σ, va_D A (cW a c σ)) (N : Nat) (x1 : Int32) (σ : St) (r : Int32) (hf : f_X1_howMany N x1 σ = some r) : MetI l yX1_howMany cX1_howMany 4 (some .int) rmX1_howMany (cW a c) D c A [.ref (a 6), .int x1] σ r σ := by
  refine mkI (by decide) (Nat.le_of_ble_eq_true rfl) rfl ?_
  intro p e s m args below meth cd Q ls h0 hK hP hret hl
  obtain ⟨S, hr, hlk⟩ := h0
  obtain ⟨hx, hb, hml, hown, ht⟩ := id S
  have hS : va_S A s.heap s.heap [] := va_S.rf
  have hl : lv_has ls 4 [(0, .ref (a 6)), (1, .int x1)] := hl
  have hf := obs hf
  have j35 : ∀ (x2 : Int32) (H : Heap) (locs : List Loc) (ls : Array Slot), lv_has ls 4 [(2, .int x2)] → va_P D vwCl (cW a c σ) H → va_S A s.heap H locs → Option.bind (f_X1_howMany_j35 N x2 σ) some = some r → W p l e rmX1_howMany s m args below meth cd H locs 0 0 Q (F0 m 35 ls []) := by
    intro x2 H locs ls hl hP hS hf
    have hf := oun (f_X1_howMany_j35.eq_1 _ _ _) hf
    refine lv_iload_n hx hb dX1_howMany_35 rfl (lv_at hl 0 rfl) ?_
    exact hret _ _ _ _ _ _ dX1_howMany_36 rfl hP hS ⟨Option.some.inj hf, rfl⟩
  have L4 : ∀ (x1 : Int32) (k : Nat) (x2 : Int32) (x3 : Int32) (H : Heap) (locs : List Loc) (ls : Array Slot), lv_has ls 4 [(0, .ref (a 6)), (1, .int x1), (2, .int x2), (3, .int x3)] → va_P D vwCl (cW a c σ) H → va_S A s.heap H locs → Option.bind (bd (lpF (fun s => f_X1_howMany_b4 N x1 s.1 s.2 σ) k (x2, x3)) (fun o => f_X1_howMany_j35 N o σ)) some = some r → W p l e rmX1_howMany s m args below meth cd H locs 0 0 Q (F0 m 4 ls []) := by
    intro x1 k
    induction k with
    | zero =>
      intro x2 x3 H locs ls hl hP hS hf
      exact (ol0 hf).elim
    | succ k ih =>
      intro x2 x3 H locs ls hl hP hS hf
      obtain ⟨K4, hf, hc4, hx4⟩ := ol1 hf
      have j29 : ∀ (x2 : Int32) (x3 : Int32) (H : Heap) (locs : List Loc) (ls : Array Slot), lv_has ls 4 [(0, .ref (a 6)), (1, .int x1), (2, .int x2), (3, .int x3)] → va_P D vwCl (cW a c σ) H → va_S A s.heap H locs → Option.bind (f_X1_howMany_j29 N x1 x2 x3 σ) K4 = some r → W p l e rmX1_howMany s m args below meth cd H locs 0 0 Q (F0 m 29 ls []) := by
        intro x2 x3 H locs ls hl hP hS hf
        have hf := oun (f_X1_howMany_j29.eq_1 _ _ _ _ _) hf
        obtain ⟨x3_1, ex3_1, hf⟩ := onm hf
        refine lv_iinc (v := x3_1) (lv' := [(3, .int x3_1), (0, .ref (a 6)), (1, .int x1), (2, .int x2)]) hx hb dX1_howMany_29 hl (k := 3) rfl ex3_1 (by decide) rfl (fun ls hl => ?_)
        refine lv_goto (tgt := 4) hx hb dX1_howMany_32 (by decide) ?_
        exact ih x2 x3_1 _ _ _ (lv_sub hl [1, 2, 3, 0] rfl) hP hS (okx hf (hc4 _))
      have hf := oun (f_X1_howMany_b4.eq_1 N x1 x2 x3 σ) hf
      refine lv_iload_n hx hb dX1_howMany_4 rfl (lv_at hl 3 rfl) ?_
      refine lv_aload_n hx hb dX1_howMany_5 rfl (lv_at hl 0 rfl) ?_
      refine va_get (D := D) (ci := 1) (v := .int (σ.1 0 6)) (C := RX1) (T := TX1) (N := 7) hx hb ht gX1 hown hK.1 hP 6 (cw6 a c σ) rfl 4 (by decide) (ht _ q431) (fun _ h9 => h9) rfl dX1_howMany_6 ?_
      refine lv_icmp_ge (tgt := 35) hx hb dX1_howMany_9 (by decide) (fun c_2 => ?_) (fun c_2 => ?_)
      · have hf := oit c_2 hf
        exact j35 x2 _ _ _ (lv_sub hl [2] rfl) hP hS (okx hf (hx4 _))
      have hf := oif c_2 hf
      refine lv_aload_n hx hb dX1_howMany_12 rfl (lv_at hl 0 rfl) ?_
      refine lv_iload_n hx hb dX1_howMany_13 rfl (lv_at hl 1 rfl) ?_
      refine lv_aload_n hx hb dX1_howMany_14 rfl (lv_at hl 0 rfl) ?_
      refine va_get (D := D) (ci := 1) (v := .ref (a 7)) (C := RX1) (T := TX1) (N := 7) hx hb ht gX1 hown hK.1 hP 6 (cw6 a c σ) rfl 0 (by decide) (ht _ q32) (fun _ h9 => h9) rfl dX1_howMany_15 ?_
      refine lv_iload_n hx hb dX1_howMany_18 rfl (lv_at hl 3 rfl) ?_
      obtain ⟨g_3, hf⟩ := ogd hf
      refine va_iald hx hb hK.1 hP 7 0 (cw7 a c σ) rfl (ck_in g_3) dX1_howMany_19 ?_
      obtain ⟨r_4, h_5, hf⟩ := obd hf
      refine xv_I (As := [.int x1, .int (σ.1 9 x3.toNatClampNeg)]) (rest := []) S k_X1_isOf q491 q492 q493 ⟨Nat.le_of_ble_eq_true rfl, Nat.le_of_ble_eq_true rfl⟩ ⟨rfl, rfl⟩ (c_X1_isOf l D a c A hD N x1 (σ.1 9 x3.toNatClampNeg) σ r_4 h_5) hK hP hS (va_recv hK.1 hP (rfl : vwCl[1]? = some (RX1, TX1, 7)) (cw6 a c σ)) rfl hl.1 rfl (Nat.le_of_ble_eq_true rfl) dX1_howMany_20 ⟨Nat.zero_le _, Nat.zero_le _⟩ (fun H locs hP hS => ?_)
      refine lv_if_eq (tgt := 29) hx hb dX1_howMany_23 (by decide) (fun c_6 => ?_) (fun c_6 => ?_)
      · have hf := oit c_6 hf
        exact j29 x2 x3 _ _ _ (lv_sub hl [0, 1, 2, 3] rfl) hP hS hf
      have hf := oif c_6 hf
      obtain ⟨x2_7, ex2_7, hf⟩ := onm hf
      refine lv_iinc (v := x2_7) (lv' := [(2, .int x2_7), (0, .ref (a 6)), (1, .int x1), (3, .int x3)]) hx hb dX1_howMany_26 hl (k := 2) rfl ex2_7 (by decide) rfl (fun ls hl => ?_)
      exact j29 x2_7 x3 _ _ _ (lv_sub hl [1, 2, 0, 3] rfl) hP hS hf
  have hf := oun (f_X1_howMany.eq_1 _ _ _) hf
  refine lv_iconst (v := (0 : Int32)) hx hb dX1_howMany_0 (by decide) ?_
  refine lv_istore_n (lv' := [(2, .int (0 : Int32)), (0, .ref (a 6)), (1, .int x1)]) hx hb dX1_howMany_1 rfl hl (by decide) rfl (fun ls hl => ?_)
  refine lv_iconst (v := (0 : Int32)) hx hb dX1_howMany_2 (by decide) ?_
  refine lv_istore_n (lv' := [(3, .int (0 : Int32)), (2, .int (0 : Int32)), (0, .ref (a 6)), (1, .int x1)]) hx hb dX1_howMany_3 rfl hl (by decide) rfl (fun ls hl => ?_)
  exact L4 x1 N (0 : Int32) (0 : Int32) _ _ _ (lv_sub hl [2, 3, 1, 0] rfl) hP hS hf
