theorem dX5_back_0 : decode cX5_back 0 = .ok (.iload_n 1, 1) := by decide +kernel
theorem dX5_back_1 : decode cX5_back 1 = .ok (.ifCond .lt 11, 3) := by decide +kernel
theorem dX5_back_4 : decode cX5_back 4 = .ok (.iload_n 1, 1) := by decide +kernel
theorem dX5_back_5 : decode cX5_back 5 = .ok (.aload_n 0, 1) := by decide +kernel
theorem dX5_back_6 : decode cX5_back 6 = .ok (.getfield 90, 3) := by decide +kernel
theorem dX5_back_9 : decode cX5_back 9 = .ok (.if_icmp .le 6, 3) := by decide +kernel
theorem dX5_back_12 : decode cX5_back 12 = .ok (.bipush (-2), 2) := by decide +kernel
theorem dX5_back_14 : decode cX5_back 14 = .ok (.ireturn, 1) := by decide +kernel
theorem dX5_back_15 : decode cX5_back 15 = .ok (.aload_n 0, 1) := by decide +kernel
theorem dX5_back_16 : decode cX5_back 16 = .ok (.dup, 1) := by decide +kernel
theorem dX5_back_17 : decode cX5_back 17 = .ok (.getfield 90, 3) := by decide +kernel
theorem dX5_back_20 : decode cX5_back 20 = .ok (.iload_n 1, 1) := by decide +kernel
theorem dX5_back_21 : decode cX5_back 21 = .ok (.isub, 1) := by decide +kernel
theorem dX5_back_22 : decode cX5_back 22 = .ok (.putfield 90, 3) := by decide +kernel
theorem dX5_back_25 : decode cX5_back 25 = .ok (.aload_n 0, 1) := by decide +kernel
theorem dX5_back_26 : decode cX5_back 26 = .ok (.getfield 90, 3) := by decide +kernel
theorem dX5_back_29 : decode cX5_back 29 = .ok (.ireturn, 1) := by decide +kernel
def f_X5_back (x1 : Int32) (σ : St) : Option (Int32 × St) :=
  if x1 < 0 then (some ((-2 : Int32), σ))
  else if x1 ≤ (σ.1 0 3) then (nm (wS σ 0 3 ((σ.1 0 3) - x1)) fun σ_3 =>
    some ((σ_3.1 0 3), σ_3))
  else some ((-2 : Int32), σ)
abbrev rmX5_back : Room := { frames := 0, cells := 0, slots := 0, locals := 0 }
set_option maxRecDepth 100000 in
set_option maxHeartbeats 4000000 in
theorem c_X5_back (l : Launch) (D : va_G) (a : Nat → Nat) (c : Nat → ClassId) (A : Nat → Prop) (hD : ∀ σ, va_D A (cW a c σ)) (x1 : Int32) (σ : St) (r : Int32) (u : St) (hf : f_X5_back x1 σ = some (r, u)) : MetI l yX5_back cX5_back 2 (some .int) rmX5_back (cW a c) D c A [.ref (a 0), .int x1] σ r u := by
  refine mkI (by decide) (Nat.le_of_ble_eq_true rfl) rfl ?_
  intro p e s m args below meth cd Q ls h0 hK hP hret hl
  obtain ⟨S, hr, hlk⟩ := h0
  obtain ⟨hx, hb, hml, hown, ht⟩ := id S
  have hS : va_S A s.heap s.heap [] := va_S.rf
  have hl : lv_has ls 2 [(0, .ref (a 0)), (1, .int x1)] := hl
  have hf := obs hf
  have hf := oun (f_X5_back.eq_1 _ _) hf
  refine lv_iload_n hx hb dX5_back_0 rfl (lv_at hl 1 rfl) ?_
  refine lv_if_lt (tgt := 12) hx hb dX5_back_1 (by decide) (fun c_1 => ?_) (fun c_1 => ?_)
  · have hf := oit c_1 hf
    refine lv_bipush (v := (-2 : Int32)) hx hb dX5_back_12 (by decide) ?_
    exact hret _ _ _ _ _ _ dX5_back_14 rfl hP hS (oret hf)
  have hf := oif c_1 hf
  refine lv_iload_n hx hb dX5_back_4 rfl (lv_at hl 1 rfl) ?_
  refine lv_aload_n hx hb dX5_back_5 rfl (lv_at hl 0 rfl) ?_
  refine va_get (D := D) (ci := 3) (v := .int (σ.1 0 3)) (C := RX5) (T := TX5) (N := 12) hx hb ht gX5 hown hK.1 hP 0 (cw0 a c σ) rfl 9 (by decide) (ht _ q118) (fun _ h9 => h9) rfl dX5_back_6 ?_
  refine lv_icmp_le (tgt := 15) hx hb dX5_back_9 (by decide) (fun c_2 => ?_) (fun c_2 => ?_)
  · have hf := oit c_2 hf
    refine lv_aload_n hx hb dX5_back_15 rfl (lv_at hl 0 rfl) ?_
    refine lv_dup hx hb dX5_back_16 rfl ?_
    refine va_get (D := D) (ci := 3) (v := .int (σ.1 0 3)) (C := RX5) (T := TX5) (N := 12) hx hb ht gX5 hown hK.1 hP 0 (cw0 a c σ) rfl 9 (by decide) (ht _ q118) (fun _ h9 => h9) rfl dX5_back_17 ?_
    refine lv_iload_n hx hb dX5_back_20 rfl (lv_at hl 1 rfl) ?_
    refine lv_isub hx hb dX5_back_21 ?_
    refine va_put (D := D) (ci := 3) (v := .int ((σ.1 0 3) - x1)) (ty := .int) (C := RX5) (T := TX5) (N := 12) hx hb ht gX5 tyX5 tyX5_ok nmX5 hown hK.1 hP (hD σ) hS 0 (cw0 a c σ) rfl 9 (by decide) (ht _ q118) (fun _ h9 => h9) rfl (by decide +kernel) rfl rfl (Nat.le_of_ble_eq_true rfl) dX5_back_22 (fun H locs hP _ hS => ?_)
    have hP := vP_eq (cpX5_readings a c σ ((σ.1 0 3) - x1)) hP
    obtain ⟨σ_3, eσ_3, hf⟩ := onm hf
    rw [eσ_3] at hP
    refine lv_aload_n hx hb dX5_back_25 rfl (lv_at hl 0 rfl) ?_
    refine va_get (D := D) (ci := 3) (v := .int (σ_3.1 0 3)) (C := RX5) (T := TX5) (N := 12) hx hb ht gX5 hown hK.1 hP 0 (cw0 a c σ_3) rfl 9 (by decide) (ht _ q118) (fun _ h9 => h9) rfl dX5_back_26 ?_
    exact hret _ _ _ _ _ _ dX5_back_29 rfl hP hS (oret hf)
  have hf := oif c_2 hf
  refine lv_bipush (v := (-2 : Int32)) hx hb dX5_back_12 (by decide) ?_
  exact hret _ _ _ _ _ _ dX5_back_14 rfl hP hS (oret hf)
theorem dX5_readingsAreSo_0 : decode cX5_readingsAreSo 0 = .ok (.iconst 0, 1) := by decide +kernel
theorem dX5_readingsAreSo_1 : decode cX5_readingsAreSo 1 = .ok (.istore_n 1, 1) := by decide +kernel
theorem dX5_readingsAreSo_2 : decode cX5_readingsAreSo 2 = .ok (.iload_n 1, 1) := by decide +kernel
theorem dX5_readingsAreSo_3 : decode cX5_readingsAreSo 3 = .ok (.aload_n 0, 1) := by decide +kernel
theorem dX5_readingsAreSo_4 : decode cX5_readingsAreSo 4 = .ok (.getfield 90, 3) := by decide +kernel
theorem dX5_readingsAreSo_7 : decode cX5_readingsAreSo 7 = .ok (.if_icmp .ge 64, 3) := by decide +kernel
theorem dX5_readingsAreSo_10 : decode cX5_readingsAreSo 10 = .ok (.iload_n 1, 1) := by decide +kernel
theorem dX5_readingsAreSo_11 : decode cX5_readingsAreSo 11 = .ok (.bipush 8, 2) := by decide +kernel
theorem dX5_readingsAreSo_13 : decode cX5_readingsAreSo 13 = .ok (.if_icmp .ge 58, 3) := by decide +kernel
theorem dX5_readingsAreSo_16 : decode cX5_readingsAreSo 16 = .ok (.aload_n 0, 1) := by decide +kernel
theorem dX5_readingsAreSo_17 : decode cX5_readingsAreSo 17 = .ok (.getfield 23, 3) := by decide +kernel
theorem dX5_readingsAreSo_20 : decode cX5_readingsAreSo 20 = .ok (.iload_n 1, 1) := by decide +kernel
theorem dX5_readingsAreSo_21 : decode cX5_readingsAreSo 21 = .ok (.iaload, 1) := by decide +kernel
theorem dX5_readingsAreSo_22 : decode cX5_readingsAreSo 22 = .ok (.istore_n 2, 1) := by decide +kernel
theorem dX5_readingsAreSo_23 : decode cX5_readingsAreSo 23 = .ok (.aload_n 0, 1) := by decide +kernel
theorem dX5_readingsAreSo_24 : decode cX5_readingsAreSo 24 = .ok (.getfield 27, 3) := by decide +kernel
theorem dX5_readingsAreSo_27 : decode cX5_readingsAreSo 27 = .ok (.iload_n 1, 1) := by decide +kernel
theorem dX5_readingsAreSo_28 : decode cX5_readingsAreSo 28 = .ok (.iaload, 1) := by decide +kernel
theorem dX5_readingsAreSo_29 : decode cX5_readingsAreSo 29 = .ok (.istore_n 3, 1) := by decide +kernel
theorem dX5_readingsAreSo_30 : decode cX5_readingsAreSo 30 = .ok (.aload_n 0, 1) := by decide +kernel
theorem dX5_readingsAreSo_31 : decode cX5_readingsAreSo 31 = .ok (.iload_n 2, 1) := by decide +kernel
theorem dX5_readingsAreSo_32 : decode cX5_readingsAreSo 32 = .ok (.iload_n 3, 1) := by decide +kernel
theorem dX5_readingsAreSo_33 : decode cX5_readingsAreSo 33 = .ok (.invokevirtual 133, 3) := by decide +kernel
theorem dX5_readingsAreSo_36 : decode cX5_readingsAreSo 36 = .ok (.ifCond .eq 29, 3) := by decide +kernel
theorem dX5_readingsAreSo_39 : decode cX5_readingsAreSo 39 = .ok (.aload_n 0, 1) := by decide +kernel
theorem dX5_readingsAreSo_40 : decode cX5_readingsAreSo 40 = .ok (.getfield 13, 3) := by decide +kernel
theorem dX5_readingsAreSo_43 : decode cX5_readingsAreSo 43 = .ok (.iload_n 2, 1) := by decide +kernel
theorem dX5_readingsAreSo_44 : decode cX5_readingsAreSo 44 = .ok (.aaload, 1) := by decide +kernel
theorem dX5_readingsAreSo_45 : decode cX5_readingsAreSo 45 = .ok (.aload_n 0, 1) := by decide +kernel
theorem dX5_readingsAreSo_46 : decode cX5_readingsAreSo 46 = .ok (.getfield 13, 3) := by decide +kernel
theorem dX5_readingsAreSo_49 : decode cX5_readingsAreSo 49 = .ok (.iload_n 3, 1) := by decide +kernel
theorem dX5_readingsAreSo_50 : decode cX5_readingsAreSo 50 = .ok (.aaload, 1) := by decide +kernel
theorem dX5_readingsAreSo_51 : decode cX5_readingsAreSo 51 = .ok (.invokevirtual 136, 3) := by decide +kernel
theorem dX5_readingsAreSo_54 : decode cX5_readingsAreSo 54 = .ok (.aload_n 0, 1) := by decide +kernel
theorem dX5_readingsAreSo_55 : decode cX5_readingsAreSo 55 = .ok (.getfield 30, 3) := by decide +kernel
theorem dX5_readingsAreSo_58 : decode cX5_readingsAreSo 58 = .ok (.iload_n 1, 1) := by decide +kernel
theorem dX5_readingsAreSo_59 : decode cX5_readingsAreSo 59 = .ok (.baload, 1) := by decide +kernel
theorem dX5_readingsAreSo_60 : decode cX5_readingsAreSo 60 = .ok (.if_icmp .eq 5, 3) := by decide +kernel
theorem dX5_readingsAreSo_63 : decode cX5_readingsAreSo 63 = .ok (.iconst 0, 1) := by decide +kernel
theorem dX5_readingsAreSo_64 : decode cX5_readingsAreSo 64 = .ok (.ireturn, 1) := by decide +kernel
theorem dX5_readingsAreSo_65 : decode cX5_readingsAreSo 65 = .ok (.iinc 1 1, 3) := by decide +kernel
theorem dX5_readingsAreSo_68 : decode cX5_readingsAreSo 68 = .ok (.goto (-66), 3) := by decide +kernel
theorem dX5_readingsAreSo_71 : decode cX5_readingsAreSo 71 = .ok (.iconst 1, 1) := by decide +kernel
theorem dX5_readingsAreSo_72 : decode cX5_readingsAreSo 72 = .ok (.ireturn, 1) := by decide +kernel
def f_X5_readingsAreSo_j71 (N : Nat) (σ : St) : Option Int32 :=
  some (1 : Int32)
def f_X5_readingsAreSo_j65 (N : Nat) (x1 : Int32) (σ : St) : Option ((Int32) ⊕ (Int32 ⊕ (Unit))) :=
  nm (x1 + (1 : Int32)) fun x1_1 =>
  some (.inl x1_1)
def f_X5_readingsAreSo_b2 (N : Nat) (x1 : Int32) (σ : St) : Option ((Int32) ⊕ (Int32 ⊕ (Unit))) :=
  if (σ.1 0 3) ≤ x1 then (some (.inr (.inr ())))
  else if (8 : Int32) ≤ x1 then (some (.inr (.inr ())))
  else gd (ck x1 8) <|
  nm (σ.1 6 x1.toNatClampNeg) fun x2_5 =>
  gd (ck x1 8) <|
  nm (σ.1 7 x1.toNatClampNeg) fun x3_7 =>
  bd (f_X5_areTwo x2_5 x3_7 σ) fun r_8 =>
  if r_8 = 0 then (f_X5_readingsAreSo_j65 N x1 σ)
  else gd (ck x2_5 4) <|
  gd (ck x3_7 4) <|
  bd (f_X0_goesInto (Int32.toNatClampNeg x2_5) (Int32.toNatClampNeg x3_7) σ) fun r_13 =>
  gd (ck x1 8) <|
  if r_13 = (σ.1 8 x1.toNatClampNeg) then (f_X5_readingsAreSo_j65 N x1 σ)
  else some (.inr (.inl (0 : Int32)))
def f_X5_readingsAreSo (N : Nat) (σ : St) : Option Int32 :=
  bd (lpF (fun s => f_X5_readingsAreSo_b2 N s σ) N (0 : Int32)) (Sum.elim (fun v => some v) (fun o => f_X5_readingsAreSo_j71 N σ))
abbrev rmX5_readingsAreSo : Room := { frames := 2, cells := 0, slots := 0, locals := 43 }
set_option maxRecDepth 100000 in
set_option maxHeartbeats 4000000 in
theorem c_X5_readingsAreSo (l : Launch) (D : va_G) (a : Nat → Nat) (c : Nat → ClassId) (A : Nat → Prop) (hD : ∀ σ, va_D A (cW a c σ)) (N : Nat) (σ : St) (r : Int32) (hf : f_X5_readingsAreSo N σ = some r) : MetI l yX5_readingsAreSo cX5_readingsAreSo 4 (some .boolean) rmX5_readingsAreSo (cW a c) D c A [.ref (a 0)] σ r σ := by
  refine mkI (by decide) (Nat.le_of_ble_eq_true rfl) rfl ?_
  intro p e s m args below meth cd Q ls h0 hK hP hret hl
  obtain ⟨S, hr, hlk⟩ := h0
  obtain ⟨hx, hb, hml, hown, ht⟩ := id S
  have hS : va_S A s.heap s.heap [] := va_S.rf
  have hl : lv_has ls 4 [(0, .ref (a 0))] := hl
  have hf := obs hf
  have j71 : ∀ (H : Heap) (locs : List Loc) (ls : Array Slot), lv_has ls 4 [] → va_P D vwCl (cW a c σ) H → va_S A s.heap H locs → Option.bind (f_X5_readingsAreSo_j71 N σ) some = some r → W p l e rmX5_readingsAreSo s m args below meth cd H locs 0 0 Q (F0 m 71 ls []) := by
    intro H locs ls hl hP hS hf
    have hf := oun (f_X5_readingsAreSo_j71.eq_1 _ _) hf
    refine lv_iconst (v := (1 : Int32)) hx hb dX5_readingsAreSo_71 (by decide) ?_
    exact hret _ _ _ _ _ _ dX5_readingsAreSo_72 (by decide) hP hS ⟨Option.some.inj hf, rfl⟩
  have L2 : ∀ (k : Nat) (x1 : Int32) (H : Heap) (locs : List Loc) (ls : Array Slot), lv_has ls 4 [(0, .ref (a 0)), (1, .int x1)] → va_P D vwCl (cW a c σ) H → va_S A s.heap H locs → Option.bind (bd (lpF (fun s => f_X5_readingsAreSo_b2 N s σ) k x1) (Sum.elim (fun v => some v) (fun o => f_X5_readingsAreSo_j71 N σ))) some = some r → W p l e rmX5_readingsAreSo s m args below meth cd H locs 0 0 Q (F0 m 2 ls []) := by
    intro k
    induction k with
    | zero =>
      intro x1 H locs ls hl hP hS hf
      exact (ol0 hf).elim
    | succ k ih =>
      intro x1 H locs ls hl hP hS hf
      obtain ⟨K2, hf, hc2, hx2⟩ := ol1 hf
      have j65 : ∀ (x1 : Int32) (H : Heap) (locs : List Loc) (ls : Array Slot), lv_has ls 4 [(0, .ref (a 0)), (1, .int x1)] → va_P D vwCl (cW a c σ) H → va_S A s.heap H locs → Option.bind (f_X5_readingsAreSo_j65 N x1 σ) K2 = some r → W p l e rmX5_readingsAreSo s m args below meth cd H locs 0 0 Q (F0 m 65 ls []) := by
        intro x1 H locs ls hl hP hS hf
        have hf := oun (f_X5_readingsAreSo_j65.eq_1 _ _ _) hf
        obtain ⟨x1_1, ex1_1, hf⟩ := onm hf
        refine lv_iinc (v := x1_1) (lv' := [(1, .int x1_1), (0, .ref (a 0))]) hx hb dX5_readingsAreSo_65 hl (k := 1) rfl ex1_1 (by decide) rfl (fun ls hl => ?_)
        refine lv_goto (tgt := 2) hx hb dX5_readingsAreSo_68 (by decide) ?_
        exact ih x1_1 _ _ _ (lv_sub hl [1, 0] rfl) hP hS (okx hf (hc2 _))
      have hf := oun (f_X5_readingsAreSo_b2.eq_1 N x1 σ) hf
      refine lv_iload_n hx hb dX5_readingsAreSo_2 rfl (lv_at hl 1 rfl) ?_
      refine lv_aload_n hx hb dX5_readingsAreSo_3 rfl (lv_at hl 0 rfl) ?_
      refine va_get (D := D) (ci := 3) (v := .int (σ.1 0 3)) (C := RX5) (T := TX5) (N := 12) hx hb ht gX5 hown hK.1 hP 0 (cw0 a c σ) rfl 9 (by decide) (ht _ q118) (fun _ h9 => h9) rfl dX5_readingsAreSo_4 ?_
      refine lv_icmp_ge (tgt := 71) hx hb dX5_readingsAreSo_7 (by decide) (fun c_2 => ?_) (fun c_2 => ?_)
      · have hf := oit c_2 hf
        exact j71 _ _ _ (lv_sub hl [] rfl) hP hS (okx hf (hx2 _))
      have hf := oif c_2 hf
      refine lv_iload_n hx hb dX5_readingsAreSo_10 rfl (lv_at hl 1 rfl) ?_
      refine lv_bipush (v := (8 : Int32)) hx hb dX5_readingsAreSo_11 (by decide) ?_
      refine lv_icmp_ge (tgt := 71) hx hb dX5_readingsAreSo_13 (by decide) (fun c_3 => ?_) (fun c_3 => ?_)
      · have hf := oit c_3 hf
        exact j71 _ _ _ (lv_sub hl [] rfl) hP hS (okx hf (hx2 _))
      have hf := oif c_3 hf
      refine lv_aload_n hx hb dX5_readingsAreSo_16 rfl (lv_at hl 0 rfl) ?_
      refine va_get (D := D) (ci := 3) (v := .ref (a 3)) (C := RX5) (T := TX5) (N := 12) hx hb ht gX5 hown hK.1 hP 0 (cw0 a c σ) rfl 2 (by decide) (ht _ q17) (fun _ h9 => h9) rfl dX5_readingsAreSo_17 ?_
      refine lv_iload_n hx hb dX5_readingsAreSo_20 rfl (lv_at hl 1 rfl) ?_
      obtain ⟨g_4, hf⟩ := ogd hf
      refine va_iald hx hb hK.1 hP 3 0 (cw3 a c σ) rfl (ck_in g_4) dX5_readingsAreSo_21 ?_
      obtain ⟨x2_5, ex2_5, hf⟩ := onm hf
      refine lv_nm ex2_5 ?_
      refine lv_istore_n (lv' := [(2, .int x2_5), (0, .ref (a 0)), (1, .int x1)]) hx hb dX5_readingsAreSo_22 rfl hl (by decide) rfl (fun ls hl => ?_)
      refine lv_aload_n hx hb dX5_readingsAreSo_23 rfl (lv_at hl 1 rfl) ?_
      refine va_get (D := D) (ci := 3) (v := .ref (a 4)) (C := RX5) (T := TX5) (N := 12) hx hb ht gX5 hown hK.1 hP 0 (cw0 a c σ) rfl 3 (by decide) (ht _ q18) (fun _ h9 => h9) rfl dX5_readingsAreSo_24 ?_
      refine lv_iload_n hx hb dX5_readingsAreSo_27 rfl (lv_at hl 2 rfl) ?_
      obtain ⟨g_6, hf⟩ := ogd hf
      refine va_iald hx hb hK.1 hP 4 0 (cw4 a c σ) rfl (ck_in g_6) dX5_readingsAreSo_28 ?_
      obtain ⟨x3_7, ex3_7, hf⟩ := onm hf
      refine lv_nm ex3_7 ?_
      refine lv_istore_n (lv' := [(3, .int x3_7), (2, .int x2_5), (0, .ref (a 0)), (1, .int x1)]) hx hb dX5_readingsAreSo_29 rfl hl (by decide) rfl (fun ls hl => ?_)
      refine lv_aload_n hx hb dX5_readingsAreSo_30 rfl (lv_at hl 2 rfl) ?_
      refine lv_iload_n hx hb dX5_readingsAreSo_31 rfl (lv_at hl 1 rfl) ?_
      refine lv_iload_n hx hb dX5_readingsAreSo_32 rfl (lv_at hl 0 rfl) ?_
      obtain ⟨r_8, h_9, hf⟩ := obd hf
      refine xv_I (As := [.int x2_5, .int x3_7]) (rest := []) S k_X5_areTwo q269 q270 q271 ⟨Nat.le_of_ble_eq_true rfl, Nat.le_of_ble_eq_true rfl⟩ ⟨rfl, rfl⟩ (c_X5_areTwo l D a c A hD x2_5 x3_7 σ r_8 h_9) hK hP hS (va_recv hK.1 hP (rfl : vwCl[3]? = some (RX5, TX5, 12)) (cw0 a c σ)) rfl hl.1 rfl (Nat.le_of_ble_eq_true rfl) dX5_readingsAreSo_33 ⟨Nat.zero_le _, Nat.zero_le _⟩ (fun H locs hP hS => ?_)
      refine lv_if_eq (tgt := 65) hx hb dX5_readingsAreSo_36 (by decide) (fun c_10 => ?_) (fun c_10 => ?_)
      · have hf := oit c_10 hf
        exact j65 x1 _ _ _ (lv_sub hl [2, 3] rfl) hP hS hf
      have hf := oif c_10 hf
      refine lv_aload_n hx hb dX5_readingsAreSo_39 rfl (lv_at hl 2 rfl) ?_
      refine va_get (D := D) (ci := 3) (v := .ref (a 1)) (C := RX5) (T := TX5) (N := 12) hx hb ht gX5 hown hK.1 hP 0 (cw0 a c σ) rfl 0 (by decide) (ht _ q13) (fun _ h9 => h9) rfl dX5_readingsAreSo_40 ?_
      refine lv_iload_n hx hb dX5_readingsAreSo_43 rfl (lv_at hl 1 rfl) ?_
      obtain ⟨g_11, hf⟩ := ogd hf
      refine va_aldq hx hb hK.1 hP 1 3 (cw1 a c σ) rfl (ck_in g_11) dX5_readingsAreSo_44 ?_
      refine W.eq (g2 := F0 m 45 ls [.ref (a (11 + (Int32.toNatClampNeg x2_5)))]) rfl ?_
      refine lv_aload_n hx hb dX5_readingsAreSo_45 rfl (lv_at hl 2 rfl) ?_
      refine va_get (D := D) (ci := 3) (v := .ref (a 1)) (C := RX5) (T := TX5) (N := 12) hx hb ht gX5 hown hK.1 hP 0 (cw0 a c σ) rfl 0 (by decide) (ht _ q13) (fun _ h9 => h9) rfl dX5_readingsAreSo_46 ?_
      refine lv_iload_n hx hb dX5_readingsAreSo_49 rfl (lv_at hl 0 rfl) ?_
      obtain ⟨g_12, hf⟩ := ogd hf
      refine va_aldq hx hb hK.1 hP 1 3 (cw1 a c σ) rfl (ck_in g_12) dX5_readingsAreSo_50 ?_
      refine W.eq (g2 := F0 m 51 ls [.ref (a (11 + (Int32.toNatClampNeg x3_7))), .ref (a (11 + (Int32.toNatClampNeg x2_5)))]) rfl ?_
      obtain ⟨r_13, h_14, hf⟩ := obd hf
      refine xv_I (As := [.ref (a (11 + (Int32.toNatClampNeg x3_7)))]) (rest := []) S k_X0_goesInto q273 q274 q275 ⟨Nat.le_of_ble_eq_true rfl, Nat.le_of_ble_eq_true rfl⟩ ⟨rfl, rfl⟩ (c_X0_goesInto l D a c A hD (Int32.toNatClampNeg x2_5) (Int32.toNatClampNeg x3_7) σ (ck_lt g_11) (ck_lt g_12) r_13 h_14) hK hP hS (va_recv hK.1 hP (rfl : vwCl[0]? = some (RX0, TX0, 3)) (cwX0 a c σ (Int32.toNatClampNeg x2_5) (ck_lt g_11))) rfl hl.1 rfl (Nat.le_of_ble_eq_true rfl) dX5_readingsAreSo_51 ⟨Nat.zero_le _, Nat.zero_le _⟩ (fun H locs hP hS => ?_)
      refine lv_aload_n hx hb dX5_readingsAreSo_54 rfl (lv_at hl 2 rfl) ?_
      refine va_get (D := D) (ci := 3) (v := .ref (a 5)) (C := RX5) (T := TX5) (N := 12) hx hb ht gX5 hown hK.1 hP 0 (cw0 a c σ) rfl 4 (by decide) (ht _ q20) (fun _ h9 => h9) rfl dX5_readingsAreSo_55 ?_
      refine lv_iload_n hx hb dX5_readingsAreSo_58 rfl (lv_at hl 3 rfl) ?_
      obtain ⟨g_15, hf⟩ := ogd hf
      refine va_zald hx hb hK.1 hP 5 2 (cw5 a c σ) rfl (ck_in g_15) dX5_readingsAreSo_59 ?_
      refine lv_icmp_eq (tgt := 65) hx hb dX5_readingsAreSo_60 (by decide) (fun c_16 => ?_) (fun c_16 => ?_)
      · have hf := oit c_16 hf
        exact j65 x1 _ _ _ (lv_sub hl [2, 3] rfl) hP hS hf
      have hf := oif c_16 hf
      refine lv_iconst (v := (0 : Int32)) hx hb dX5_readingsAreSo_63 (by decide) ?_
      have hf := okx hf (hx2 _)
      exact hret _ _ _ _ _ _ dX5_readingsAreSo_64 (by decide) hP hS ⟨Option.some.inj hf, rfl⟩
  have hf := oun (f_X5_readingsAreSo.eq_1 _ _) hf
  refine lv_iconst (v := (0 : Int32)) hx hb dX5_readingsAreSo_0 (by decide) ?_
  refine lv_istore_n (lv' := [(1, .int (0 : Int32)), (0, .ref (a 0))]) hx hb dX5_readingsAreSo_1 rfl hl (by decide) rfl (fun ls hl => ?_)
  exact L2 N (0 : Int32) _ _ _ (lv_sub hl [1, 0] rfl) hP hS hf
theorem dX5_girths_0 : decode cX5_girths 0 = .ok (.aload_n 0, 1) := by decide +kernel
theorem dX5_girths_1 : decode cX5_girths 1 = .ok (.iload_n 1, 1) := by decide +kernel
theorem dX5_girths_2 : decode cX5_girths 2 = .ok (.invokevirtual 93, 3) := by decide +kernel
theorem dX5_girths_5 : decode cX5_girths 5 = .ok (.ifCond .ne 5, 3) := by decide +kernel
theorem dX5_girths_8 : decode cX5_girths 8 = .ok (.iconst (-1), 1) := by decide +kernel
theorem dX5_girths_9 : decode cX5_girths 9 = .ok (.ireturn, 1) := by decide +kernel
theorem dX5_girths_10 : decode cX5_girths 10 = .ok (.aload_n 0, 1) := by decide +kernel
theorem dX5_girths_11 : decode cX5_girths 11 = .ok (.getfield 13, 3) := by decide +kernel
theorem dX5_girths_14 : decode cX5_girths 14 = .ok (.iload_n 1, 1) := by decide +kernel
theorem dX5_girths_15 : decode cX5_girths 15 = .ok (.aaload, 1) := by decide +kernel
theorem dX5_girths_16 : decode cX5_girths 16 = .ok (.getfield 99, 3) := by decide +kernel
theorem dX5_girths_19 : decode cX5_girths 19 = .ok (.istore_n 2, 1) := by decide +kernel
theorem dX5_girths_20 : decode cX5_girths 20 = .ok (.iconst 0, 1) := by decide +kernel
theorem dX5_girths_21 : decode cX5_girths 21 = .ok (.istore_n 3, 1) := by decide +kernel
theorem dX5_girths_22 : decode cX5_girths 22 = .ok (.iconst 1, 1) := by decide +kernel
theorem dX5_girths_23 : decode cX5_girths 23 = .ok (.istore 4, 2) := by decide +kernel
theorem dX5_girths_25 : decode cX5_girths 25 = .ok (.iload 4, 2) := by decide +kernel
theorem dX5_girths_27 : decode cX5_girths 27 = .ok (.bipush 9, 2) := by decide +kernel
theorem dX5_girths_29 : decode cX5_girths 29 = .ok (.if_icmp .gt 33, 3) := by decide +kernel
theorem dX5_girths_32 : decode cX5_girths 32 = .ok (.aload_n 0, 1) := by decide +kernel
theorem dX5_girths_33 : decode cX5_girths 33 = .ok (.getfield 13, 3) := by decide +kernel
theorem dX5_girths_36 : decode cX5_girths 36 = .ok (.iload_n 1, 1) := by decide +kernel
theorem dX5_girths_37 : decode cX5_girths 37 = .ok (.aaload, 1) := by decide +kernel
theorem dX5_girths_38 : decode cX5_girths 38 = .ok (.iload 4, 2) := by decide +kernel
theorem dX5_girths_40 : decode cX5_girths 40 = .ok (.putfield 99, 3) := by decide +kernel
theorem dX5_girths_43 : decode cX5_girths 43 = .ok (.iload_n 3, 1) := by decide +kernel
theorem dX5_girths_44 : decode cX5_girths 44 = .ok (.aload_n 0, 1) := by decide +kernel
theorem dX5_girths_45 : decode cX5_girths 45 = .ok (.invokevirtual 242, 3) := by decide +kernel
theorem dX5_girths_48 : decode cX5_girths 48 = .ok (.invokestatic 117, 3) := by decide +kernel
theorem dX5_girths_51 : decode cX5_girths 51 = .ok (.iload 4, 2) := by decide +kernel
theorem dX5_girths_53 : decode cX5_girths 53 = .ok (.ishl, 1) := by decide +kernel
theorem dX5_girths_54 : decode cX5_girths 54 = .ok (.ior, 1) := by decide +kernel
theorem dX5_girths_55 : decode cX5_girths 55 = .ok (.istore_n 3, 1) := by decide +kernel
theorem dX5_girths_56 : decode cX5_girths 56 = .ok (.iinc 4 1, 3) := by decide +kernel
theorem dX5_girths_59 : decode cX5_girths 59 = .ok (.goto (-34), 3) := by decide +kernel
theorem dX5_girths_62 : decode cX5_girths 62 = .ok (.aload_n 0, 1) := by decide +kernel
theorem dX5_girths_63 : decode cX5_girths 63 = .ok (.getfield 13, 3) := by decide +kernel
theorem dX5_girths_66 : decode cX5_girths 66 = .ok (.iload_n 1, 1) := by decide +kernel
theorem dX5_girths_67 : decode cX5_girths 67 = .ok (.aaload, 1) := by decide +kernel
theorem dX5_girths_68 : decode cX5_girths 68 = .ok (.iload_n 2, 1) := by decide +kernel
theorem dX5_girths_69 : decode cX5_girths 69 = .ok (.putfield 99, 3) := by decide +kernel
theorem dX5_girths_72 : decode cX5_girths 72 = .ok (.iload_n 3, 1) := by decide +kernel
theorem dX5_girths_73 : decode cX5_girths 73 = .ok (.ireturn, 1) := by decide +kernel
def f_X5_girths_j62 (N : Nat) (x1 : Int32) (x2 : Int32) (x3 : Int32) (σ : St) : Option (Int32 × St) :=
  gd (ck x1 4) <|
  nm (wS σ 2 (Int32.toNatClampNeg x1) x2) fun σ_2 =>
  some (x3, σ_2)
def f_X5_girths_b25 (N : Nat) (x1 : Int32) (x2 : Int32) (x3 : Int32) (x4 : Int32) (σ : St) : Option ((Int32 × Int32 × St) ⊕ ((Int32 × St))) :=
  if (9 : Int32) < x4 then (some (.inr (x3, σ)))
  else gd (ck x1 4) <|
  nm (wS σ 2 (Int32.toNatClampNeg x1) x4) fun σ_5 =>
  bd (f_X5_readingsAreSo N σ_5) fun r_6 =>
  bd (f_X5_oneIf r_6) fun r_8 =>
  nm (x3 ||| (r_8 <<< (x4 &&& 31))) fun x3_10 =>
  nm (x4 + (1 : Int32)) fun x4_11 =>
  some (.inl (x3_10, x4_11, σ_5))
def f_X5_girths (N : Nat) (x1 : Int32) (σ : St) : Option (Int32 × St) :=
  bd (f_X5_isDoll x1 σ) fun r_12 =>
  if r_12 = 0 then (some ((-1 : Int32), σ))
  else gd (ck x1 4) <|
    nm (σ.1 2 (Int32.toNatClampNeg x1)) fun x2_16 =>
    bd (lpF (fun s => f_X5_girths_b25 N x1 x2_16 s.1 s.2.1 s.2.2) N ((0 : Int32), (1 : Int32), σ)) (fun o => f_X5_girths_j62 N x1 x2_16 o.1 o.2)
abbrev rmX5_girths : Room := { frames := 3, cells := 0, slots := 0, locals := 66 }
set_option maxRecDepth 100000 in
set_option maxHeartbeats 4000000 in
theorem c_X5_girths (l : Launch) (D : va_G) (a : Nat → Nat) (c : Nat → ClassId) (A : Nat → Prop) (hD : ∀ σ, va_D A (cW a c σ)) (N : Nat) (x1 : Int32) (σ : St) (r : Int32) (u : St) (hf : f_X5_girths N x1 σ = some (r, u)) : MetI l yX5_girths cX5_girths 5 (some .int) rmX5_girths (cW a c) D c A [.ref (a 0), .int x1] σ r u := by
  refine mkI (by decide) (Nat.le_of_ble_eq_true rfl) rfl ?_
  intro p e s m args below meth cd Q ls h0 hK hP hret hl
  obtain ⟨S, hr, hlk⟩ := h0
  obtain ⟨hx, hb, hml, hown, ht⟩ := id S
  have hS : va_S A s.heap s.heap [] := va_S.rf
  have hl : lv_has ls 5 [(0, .ref (a 0)), (1, .int x1)] := hl
  have hf := obs hf
  have j62 : ∀ (x1 : Int32) (x2 : Int32) (x3 : Int32) (σ : St) (H : Heap) (locs : List Loc) (ls : Array Slot), lv_has ls 5 [(0, .ref (a 0)), (1, .int x1), (2, .int x2), (3, .int x3)] → va_P D vwCl (cW a c σ) H → va_S A s.heap H locs → Option.bind (f_X5_girths_j62 N x1 x2 x3 σ) some = some (r, u) → W p l e rmX5_girths s m args below meth cd H locs 0 0 Q (F0 m 62 ls []) := by
    intro x1 x2 x3 σ H locs ls hl hP hS hf
    have hf := oun (f_X5_girths_j62.eq_1 _ _ _ _ _) hf
    refine lv_aload_n hx hb dX5_girths_62 rfl (lv_at hl 0 rfl) ?_
    refine va_get (D := D) (ci := 3) (v := .ref (a 1)) (C := RX5) (T := TX5) (N := 12) hx hb ht gX5 hown hK.1 hP 0 (cw0 a c σ) rfl 0 (by decide) (ht _ q13) (fun _ h9 => h9) rfl dX5_girths_63 ?_
    refine lv_iload_n hx hb dX5_girths_66 rfl (lv_at hl 1 rfl) ?_
    obtain ⟨g_1, hf⟩ := ogd hf
    refine va_aldq hx hb hK.1 hP 1 3 (cw1 a c σ) rfl (ck_in g_1) dX5_girths_67 ?_
    refine W.eq (g2 := F0 m 68 ls [.ref (a (11 + (Int32.toNatClampNeg x1)))]) rfl ?_
    refine lv_iload_n hx hb dX5_girths_68 rfl (lv_at hl 2 rfl) ?_
    refine va_put (D := D) (ci := 0) (v := .int x2) (ty := .int) (C := RX0) (T := TX0) (N := 3) hx hb ht gX0 tyX0 tyX0_ok nmX0 hown hK.1 hP (hD σ) hS (11 + (Int32.toNatClampNeg x1)) (cwX0 a c σ (Int32.toNatClampNeg x1) (ck_lt g_1)) rfl 1 (by decide) (ht _ q181) (fun _ h9 => h9) rfl (by decide +kernel) rfl rfl (Nat.le_of_ble_eq_true rfl) dX5_girths_69 (fun H locs hP _ hS => ?_)
    have hP := vP_eq (cpX0_girth a c σ (Int32.toNatClampNeg x1) (ck_lt g_1) x2) hP
    obtain ⟨σ_2, eσ_2, hf⟩ := onm hf
    rw [eσ_2] at hP
    refine lv_iload_n hx hb dX5_girths_72 rfl (lv_at hl 3 rfl) ?_
    exact hret _ _ _ _ _ _ dX5_girths_73 rfl hP hS (oret hf)
  have L25 : ∀ (x1 : Int32) (x2 : Int32) (k : Nat) (x3 : Int32) (x4 : Int32) (σ : St) (H : Heap) (locs : List Loc) (ls : Array Slot), lv_has ls 5 [(0, .ref (a 0)), (1, .int x1), (2, .int x2), (3, .int x3), (4, .int x4)] → va_P D vwCl (cW a c σ) H → va_S A s.heap H locs → Option.bind (bd (lpF (fun s => f_X5_girths_b25 N x1 x2 s.1 s.2.1 s.2.2) k (x3, x4, σ)) (fun o => f_X5_girths_j62 N x1 x2 o.1 o.2)) some = some (r, u) → W p l e rmX5_girths s m args below meth cd H locs 0 0 Q (F0 m 25 ls []) := by
    intro x1 x2 k
    induction k with
    | zero =>
      intro x3 x4 σ H locs ls hl hP hS hf
      exact (ol0 hf).elim
    | succ k ih =>
      intro x3 x4 σ H locs ls hl hP hS hf
      obtain ⟨K25, hf, hc25, hx25⟩ := ol1 hf
      have hf := oun (f_X5_girths_b25.eq_1 N x1 x2 x3 x4 σ) hf
      refine lv_iload hx hb dX5_girths_25 (lv_at hl 4 rfl) ?_
      refine lv_bipush (v := (9 : Int32)) hx hb dX5_girths_27 (by decide) ?_
      refine lv_icmp_gt (tgt := 62) hx hb dX5_girths_29 (by decide) (fun c_3 => ?_) (fun c_3 => ?_)
      · have hf := oit c_3 hf
        exact j62 x1 x2 x3 σ _ _ _ (lv_sub hl [0, 1, 2, 3] rfl) hP hS (okx hf (hx25 _))
      have hf := oif c_3 hf
      refine lv_aload_n hx hb dX5_girths_32 rfl (lv_at hl 0 rfl) ?_
      refine va_get (D := D) (ci := 3) (v := .ref (a 1)) (C := RX5) (T := TX5) (N := 12) hx hb ht gX5 hown hK.1 hP 0 (cw0 a c σ) rfl 0 (by decide) (ht _ q13) (fun _ h9 => h9) rfl dX5_girths_33 ?_
      refine lv_iload_n hx hb dX5_girths_36 rfl (lv_at hl 1 rfl) ?_
      obtain ⟨g_4, hf⟩ := ogd hf
      refine va_aldq hx hb hK.1 hP 1 3 (cw1 a c σ) rfl (ck_in g_4) dX5_girths_37 ?_
      refine W.eq (g2 := F0 m 38 ls [.ref (a (11 + (Int32.toNatClampNeg x1)))]) rfl ?_
      refine lv_iload hx hb dX5_girths_38 (lv_at hl 4 rfl) ?_
      refine va_put (D := D) (ci := 0) (v := .int x4) (ty := .int) (C := RX0) (T := TX0) (N := 3) hx hb ht gX0 tyX0 tyX0_ok nmX0 hown hK.1 hP (hD σ) hS (11 + (Int32.toNatClampNeg x1)) (cwX0 a c σ (Int32.toNatClampNeg x1) (ck_lt g_4)) rfl 1 (by decide) (ht _ q181) (fun _ h9 => h9) rfl (by decide +kernel) rfl rfl (Nat.le_of_ble_eq_true rfl) dX5_girths_40 (fun H locs hP _ hS => ?_)
      have hP := vP_eq (cpX0_girth a c σ (Int32.toNatClampNeg x1) (ck_lt g_4) x4) hP
      obtain ⟨σ_5, eσ_5, hf⟩ := onm hf
      rw [eσ_5] at hP
      refine lv_iload_n hx hb dX5_girths_43 rfl (lv_at hl 3 rfl) ?_
      refine lv_aload_n hx hb dX5_girths_44 rfl (lv_at hl 0 rfl) ?_
      obtain ⟨r_6, h_7, hf⟩ := obd hf
      refine xv_I (As := []) (rest := [.int x3]) S k_X5_readingsAreSo q564 q565 q566 ⟨Nat.le_of_ble_eq_true rfl, Nat.le_of_ble_eq_true rfl⟩ ⟨rfl, rfl⟩ (c_X5_readingsAreSo l D a c A hD N σ_5 r_6 h_7) hK hP hS (va_recv hK.1 hP (rfl : vwCl[3]? = some (RX5, TX5, 12)) (cw0 a c σ_5)) rfl hl.1 rfl (Nat.le_of_ble_eq_true rfl) dX5_girths_45 ⟨Nat.zero_le _, Nat.zero_le _⟩ (fun H locs hP hS => ?_)
      obtain ⟨r_8, h_9, hf⟩ := obd hf
      refine xs_S (As := [.int r_6]) (rest := [.int x3]) S k_X5_oneIf q204 q205 ⟨Nat.le_of_ble_eq_true rfl, Nat.le_of_ble_eq_true rfl⟩ ⟨rfl, rfl⟩ (c_X5_oneIf l r_6 r_8 h_9) hK.2 rfl hl.1 rfl (Nat.le_of_ble_eq_true rfl) dX5_girths_48 ⟨Nat.zero_le _, Nat.zero_le _⟩ ?_
      refine lv_iload hx hb dX5_girths_51 (lv_at hl 4 rfl) ?_
      refine lv_ishl hx hb dX5_girths_53 ?_
      refine lv_ior hx hb dX5_girths_54 ?_
      obtain ⟨x3_10, ex3_10, hf⟩ := onm hf
      refine lv_nm ex3_10 ?_
      refine lv_istore_n (lv' := [(3, .int x3_10), (0, .ref (a 0)), (1, .int x1), (2, .int x2), (4, .int x4)]) hx hb dX5_girths_55 rfl hl (by decide) rfl (fun ls hl => ?_)
      obtain ⟨x4_11, ex4_11, hf⟩ := onm hf
      refine lv_iinc (v := x4_11) (lv' := [(4, .int x4_11), (3, .int x3_10), (0, .ref (a 0)), (1, .int x1), (2, .int x2)]) hx hb dX5_girths_56 hl (k := 4) rfl ex4_11 (by decide) rfl (fun ls hl => ?_)
      refine lv_goto (tgt := 25) hx hb dX5_girths_59 (by decide) ?_
      exact ih x3_10 x4_11 σ_5 _ _ _ (lv_sub hl [2, 3, 4, 1, 0] rfl) hP hS (okx hf (hc25 _))
  have hf := oun (f_X5_girths.eq_1 _ _ _) hf
  refine lv_aload_n hx hb dX5_girths_0 rfl (lv_at hl 0 rfl) ?_
  refine lv_iload_n hx hb dX5_girths_1 rfl (lv_at hl 1 rfl) ?_
  obtain ⟨r_12, h_13, hf⟩ := obd hf
  refine xv_I (As := [.int x1]) (rest := []) S k_X5_isDoll q183 q184 q185 ⟨Nat.le_of_ble_eq_true rfl, Nat.le_of_ble_eq_true rfl⟩ ⟨rfl, rfl⟩ (c_X5_isDoll l D a c A hD x1 σ r_12 h_13) hK hP hS (va_recv hK.1 hP (rfl : vwCl[3]? = some (RX5, TX5, 12)) (cw0 a c σ)) rfl hl.1 rfl (Nat.le_of_ble_eq_true rfl) dX5_girths_2 ⟨Nat.zero_le _, Nat.zero_le _⟩ (fun H locs hP hS => ?_)
  refine lv_if_ne (tgt := 10) hx hb dX5_girths_5 (by decide) (fun c_14 => ?_) (fun c_14 => ?_)
  · have hf := oif c_14 hf
    refine lv_aload_n hx hb dX5_girths_10 rfl (lv_at hl 0 rfl) ?_
    refine va_get (D := D) (ci := 3) (v := .ref (a 1)) (C := RX5) (T := TX5) (N := 12) hx hb ht gX5 hown hK.1 hP 0 (cw0 a c σ) rfl 0 (by decide) (ht _ q13) (fun _ h9 => h9) rfl dX5_girths_11 ?_
    refine lv_iload_n hx hb dX5_girths_14 rfl (lv_at hl 1 rfl) ?_
    obtain ⟨g_15, hf⟩ := ogd hf
    refine va_aldq hx hb hK.1 hP 1 3 (cw1 a c σ) rfl (ck_in g_15) dX5_girths_15 ?_
    refine W.eq (g2 := F0 m 16 ls [.ref (a (11 + (Int32.toNatClampNeg x1)))]) rfl ?_
    refine va_get (D := D) (ci := 0) (v := .int (σ.1 2 (Int32.toNatClampNeg x1))) (C := RX0) (T := TX0) (N := 3) hx hb ht gX0 hown hK.1 hP (11 + (Int32.toNatClampNeg x1)) (cwX0 a c σ (Int32.toNatClampNeg x1) (ck_lt g_15)) rfl 1 (by decide) (ht _ q181) (fun _ h9 => h9) rfl dX5_girths_16 ?_
    obtain ⟨x2_16, ex2_16, hf⟩ := onm hf
    refine lv_nm ex2_16 ?_
    refine lv_istore_n (lv' := [(2, .int x2_16), (0, .ref (a 0)), (1, .int x1)]) hx hb dX5_girths_19 rfl hl (by decide) rfl (fun ls hl => ?_)
    refine lv_iconst (v := (0 : Int32)) hx hb dX5_girths_20 (by decide) ?_
    refine lv_istore_n (lv' := [(3, .int (0 : Int32)), (2, .int x2_16), (0, .ref (a 0)), (1, .int x1)]) hx hb dX5_girths_21 rfl hl (by decide) rfl (fun ls hl => ?_)
    refine lv_iconst (v := (1 : Int32)) hx hb dX5_girths_22 (by decide) ?_
    refine lv_istore (lv' := [(4, .int (1 : Int32)), (3, .int (0 : Int32)), (2, .int x2_16), (0, .ref (a 0)), (1, .int x1)]) hx hb dX5_girths_23 hl (by decide) rfl (fun ls hl => ?_)
    exact L25 x1 x2_16 N (0 : Int32) (1 : Int32) σ _ _ _ (lv_sub hl [3, 4, 2, 1, 0] rfl) hP hS hf
  have hf := oit c_14 hf
  refine lv_iconst (v := (-1 : Int32)) hx hb dX5_girths_8 (by decide) ?_
  exact hret _ _ _ _ _ _ dX5_girths_9 rfl hP hS (oret hf)
theorem dX5_rooms_0 : decode cX5_rooms 0 = .ok (.aload_n 0, 1) := by decide +kernel
theorem dX5_rooms_1 : decode cX5_rooms 1 = .ok (.iload_n 1, 1) := by decide +kernel
theorem dX5_rooms_2 : decode cX5_rooms 2 = .ok (.invokevirtual 93, 3) := by decide +kernel
theorem dX5_rooms_5 : decode cX5_rooms 5 = .ok (.ifCond .ne 5, 3) := by decide +kernel
theorem dX5_rooms_8 : decode cX5_rooms 8 = .ok (.iconst (-1), 1) := by decide +kernel
theorem dX5_rooms_9 : decode cX5_rooms 9 = .ok (.ireturn, 1) := by decide +kernel
theorem dX5_rooms_10 : decode cX5_rooms 10 = .ok (.aload_n 0, 1) := by decide +kernel
theorem dX5_rooms_11 : decode cX5_rooms 11 = .ok (.getfield 13, 3) := by decide +kernel
theorem dX5_rooms_14 : decode cX5_rooms 14 = .ok (.iload_n 1, 1) := by decide +kernel
theorem dX5_rooms_15 : decode cX5_rooms 15 = .ok (.aaload, 1) := by decide +kernel
theorem dX5_rooms_16 : decode cX5_rooms 16 = .ok (.getfield 102, 3) := by decide +kernel
theorem dX5_rooms_19 : decode cX5_rooms 19 = .ok (.istore_n 2, 1) := by decide +kernel
theorem dX5_rooms_20 : decode cX5_rooms 20 = .ok (.iconst 0, 1) := by decide +kernel
theorem dX5_rooms_21 : decode cX5_rooms 21 = .ok (.istore_n 3, 1) := by decide +kernel
theorem dX5_rooms_22 : decode cX5_rooms 22 = .ok (.iconst 0, 1) := by decide +kernel
theorem dX5_rooms_23 : decode cX5_rooms 23 = .ok (.istore 4, 2) := by decide +kernel
theorem dX5_rooms_25 : decode cX5_rooms 25 = .ok (.iload 4, 2) := by decide +kernel
theorem dX5_rooms_27 : decode cX5_rooms 27 = .ok (.bipush 9, 2) := by decide +kernel
theorem dX5_rooms_29 : decode cX5_rooms 29 = .ok (.if_icmp .gt 33, 3) := by decide +kernel
theorem dX5_rooms_32 : decode cX5_rooms 32 = .ok (.aload_n 0, 1) := by decide +kernel
theorem dX5_rooms_33 : decode cX5_rooms 33 = .ok (.getfield 13, 3) := by decide +kernel
theorem dX5_rooms_36 : decode cX5_rooms 36 = .ok (.iload_n 1, 1) := by decide +kernel
theorem dX5_rooms_37 : decode cX5_rooms 37 = .ok (.aaload, 1) := by decide +kernel
theorem dX5_rooms_38 : decode cX5_rooms 38 = .ok (.iload 4, 2) := by decide +kernel
theorem dX5_rooms_40 : decode cX5_rooms 40 = .ok (.putfield 102, 3) := by decide +kernel
theorem dX5_rooms_43 : decode cX5_rooms 43 = .ok (.iload_n 3, 1) := by decide +kernel
theorem dX5_rooms_44 : decode cX5_rooms 44 = .ok (.aload_n 0, 1) := by decide +kernel
theorem dX5_rooms_45 : decode cX5_rooms 45 = .ok (.invokevirtual 242, 3) := by decide +kernel
theorem dX5_rooms_48 : decode cX5_rooms 48 = .ok (.invokestatic 117, 3) := by decide +kernel
theorem dX5_rooms_51 : decode cX5_rooms 51 = .ok (.iload 4, 2) := by decide +kernel
theorem dX5_rooms_53 : decode cX5_rooms 53 = .ok (.ishl, 1) := by decide +kernel
theorem dX5_rooms_54 : decode cX5_rooms 54 = .ok (.ior, 1) := by decide +kernel
theorem dX5_rooms_55 : decode cX5_rooms 55 = .ok (.istore_n 3, 1) := by decide +kernel
theorem dX5_rooms_56 : decode cX5_rooms 56 = .ok (.iinc 4 1, 3) := by decide +kernel
theorem dX5_rooms_59 : decode cX5_rooms 59 = .ok (.goto (-34), 3) := by decide +kernel
theorem dX5_rooms_62 : decode cX5_rooms 62 = .ok (.aload_n 0, 1) := by decide +kernel
theorem dX5_rooms_63 : decode cX5_rooms 63 = .ok (.getfield 13, 3) := by decide +kernel
theorem dX5_rooms_66 : decode cX5_rooms 66 = .ok (.iload_n 1, 1) := by decide +kernel
theorem dX5_rooms_67 : decode cX5_rooms 67 = .ok (.aaload, 1) := by decide +kernel
theorem dX5_rooms_68 : decode cX5_rooms 68 = .ok (.iload_n 2, 1) := by decide +kernel
theorem dX5_rooms_69 : decode cX5_rooms 69 = .ok (.putfield 102, 3) := by decide +kernel
theorem dX5_rooms_72 : decode cX5_rooms 72 = .ok (.iload_n 3, 1) := by decide +kernel
theorem dX5_rooms_73 : decode cX5_rooms 73 = .ok (.ireturn, 1) := by decide +kernel
def f_X5_rooms_j62 (N : Nat) (x1 : Int32) (x2 : Int32) (x3 : Int32) (σ : St) : Option (Int32 × St) :=
  gd (ck x1 4) <|
  nm (wS σ 3 (Int32.toNatClampNeg x1) x2) fun σ_2 =>
  some (x3, σ_2)
def f_X5_rooms_b25 (N : Nat) (x1 : Int32) (x2 : Int32) (x3 : Int32) (x4 : Int32) (σ : St) : Option ((Int32 × Int32 × St) ⊕ ((Int32 × St))) :=
  if (9 : Int32) < x4 then (some (.inr (x3, σ)))
  else gd (ck x1 4) <|
  nm (wS σ 3 (Int32.toNatClampNeg x1) x4) fun σ_5 =>
  bd (f_X5_readingsAreSo N σ_5) fun r_6 =>
  bd (f_X5_oneIf r_6) fun r_8 =>
  nm (x3 ||| (r_8 <<< (x4 &&& 31))) fun x3_10 =>
  nm (x4 + (1 : Int32)) fun x4_11 =>
  some (.inl (x3_10, x4_11, σ_5))
def f_X5_rooms (N : Nat) (x1 : Int32) (σ : St) : Option (Int32 × St) :=
  bd (f_X5_isDoll x1 σ) fun r_12 =>
  if r_12 = 0 then (some ((-1 : Int32), σ))
  else gd (ck x1 4) <|
    nm (σ.1 3 (Int32.toNatClampNeg x1)) fun x2_16 =>
    bd (lpF (fun s => f_X5_rooms_b25 N x1 x2_16 s.1 s.2.1 s.2.2) N ((0 : Int32), (0 : Int32), σ)) (fun o => f_X5_rooms_j62 N x1 x2_16 o.1 o.2)
abbrev rmX5_rooms : Room := { frames := 3, cells := 0, slots := 0, locals := 66 }
set_option maxRecDepth 100000 in
set_option maxHeartbeats 4000000 in
theorem c_X5_rooms (l : Launch) (D : va_G) (a : Nat → Nat) (c : Nat → ClassId) (A : Nat → Prop) (hD : ∀ σ, va_D A (cW a c σ)) (N : Nat) (x1 : Int32) (σ : St) (r : Int32) (u : St) (hf : f_X5_rooms N x1 σ = some (r, u)) : MetI l yX5_rooms cX5_rooms 5 (some .int) rmX5_rooms (cW a c) D c A [.ref (a 0), .int x1] σ r u := by
  refine mkI (by decide) (Nat.le_of_ble_eq_true rfl) rfl ?_
  intro p e s m args below meth cd Q ls h0 hK hP hret hl
  obtain ⟨S, hr, hlk⟩ := h0
  obtain ⟨hx, hb, hml, hown, ht⟩ := id S
  have hS : va_S A s.heap s.heap [] := va_S.rf
  have hl : lv_has ls 5 [(0, .ref (a 0)), (1, .int x1)] := hl
  have hf := obs hf
  have j62 : ∀ (x1 : Int32) (x2 : Int32) (x3 : Int32) (σ : St) (H : Heap) (locs : List Loc) (ls : Array Slot), lv_has ls 5 [(0, .ref (a 0)), (1, .int x1), (2, .int x2), (3, .int x3)] → va_P D vwCl (cW a c σ) H → va_S A s.heap H locs → Option.bind (f_X5_rooms_j62 N x1 x2 x3 σ) some = some (r, u) → W p l e rmX5_rooms s m args below meth cd H locs 0 0 Q (F0 m 62 ls []) := by
    intro x1 x2 x3 σ H locs ls hl hP hS hf
    have hf := oun (f_X5_rooms_j62.eq_1 _ _ _ _ _) hf
    refine lv_aload_n hx hb dX5_rooms_62 rfl (lv_at hl 0 rfl) ?_
    refine va_get (D := D) (ci := 3) (v := .ref (a 1)) (C := RX5) (T := TX5) (N := 12) hx hb ht gX5 hown hK.1 hP 0 (cw0 a c σ) rfl 0 (by decide) (ht _ q13) (fun _ h9 => h9) rfl dX5_rooms_63 ?_
    refine lv_iload_n hx hb dX5_rooms_66 rfl (lv_at hl 1 rfl) ?_
    obtain ⟨g_1, hf⟩ := ogd hf
    refine va_aldq hx hb hK.1 hP 1 3 (cw1 a c σ) rfl (ck_in g_1) dX5_rooms_67 ?_
    refine W.eq (g2 := F0 m 68 ls [.ref (a (11 + (Int32.toNatClampNeg x1)))]) rfl ?_
    refine lv_iload_n hx hb dX5_rooms_68 rfl (lv_at hl 2 rfl) ?_
    refine va_put (D := D) (ci := 0) (v := .int x2) (ty := .int) (C := RX0) (T := TX0) (N := 3) hx hb ht gX0 tyX0 tyX0_ok nmX0 hown hK.1 hP (hD σ) hS (11 + (Int32.toNatClampNeg x1)) (cwX0 a c σ (Int32.toNatClampNeg x1) (ck_lt g_1)) rfl 2 (by decide) (ht _ q182) (fun _ h9 => h9) rfl (by decide +kernel) rfl rfl (Nat.le_of_ble_eq_true rfl) dX5_rooms_69 (fun H locs hP _ hS => ?_)
    have hP := vP_eq (cpX0_room a c σ (Int32.toNatClampNeg x1) (ck_lt g_1) x2) hP
    obtain ⟨σ_2, eσ_2, hf⟩ := onm hf
    rw [eσ_2] at hP
    refine lv_iload_n hx hb dX5_rooms_72 rfl (lv_at hl 3 rfl) ?_
    exact hret _ _ _ _ _ _ dX5_rooms_73 rfl hP hS (oret hf)
  have L25 : ∀ (x1 : Int32) (x2 : Int32) (k : Nat) (x3 : Int32) (x4 : Int32) (σ : St) (H : Heap) (locs : List Loc) (ls : Array Slot), lv_has ls 5 [(0, .ref (a 0)), (1, .int x1), (2, .int x2), (3, .int x3), (4, .int x4)] → va_P D vwCl (cW a c σ) H → va_S A s.heap H locs → Option.bind (bd (lpF (fun s => f_X5_rooms_b25 N x1 x2 s.1 s.2.1 s.2.2) k (x3, x4, σ)) (fun o => f_X5_rooms_j62 N x1 x2 o.1 o.2)) some = some (r, u) → W p l e rmX5_rooms s m args below meth cd H locs 0 0 Q (F0 m 25 ls []) := by
    intro x1 x2 k
    induction k with
    | zero =>
      intro x3 x4 σ H locs ls hl hP hS hf
      exact (ol0 hf).elim
    | succ k ih =>
      intro x3 x4 σ H locs ls hl hP hS hf
      obtain ⟨K25, hf, hc25, hx25⟩ := ol1 hf
      have hf := oun (f_X5_rooms_b25.eq_1 N x1 x2 x3 x4 σ) hf
      refine lv_iload hx hb dX5_rooms_25 (lv_at hl 4 rfl) ?_
      refine lv_bipush (v := (9 : Int32)) hx hb dX5_rooms_27 (by decide) ?_
      refine lv_icmp_gt (tgt := 62) hx hb dX5_rooms_29 (by decide) (fun c_3 => ?_) (fun c_3 => ?_)
      · have hf := oit c_3 hf
        exact j62 x1 x2 x3 σ _ _ _ (lv_sub hl [0, 1, 2, 3] rfl) hP hS (okx hf (hx25 _))
      have hf := oif c_3 hf
      refine lv_aload_n hx hb dX5_rooms_32 rfl (lv_at hl 0 rfl) ?_
      refine va_get (D := D) (ci := 3) (v := .ref (a 1)) (C := RX5) (T := TX5) (N := 12) hx hb ht gX5 hown hK.1 hP 0 (cw0 a c σ) rfl 0 (by decide) (ht _ q13) (fun _ h9 => h9) rfl dX5_rooms_33 ?_
      refine lv_iload_n hx hb dX5_rooms_36 rfl (lv_at hl 1 rfl) ?_
      obtain ⟨g_4, hf⟩ := ogd hf
      refine va_aldq hx hb hK.1 hP 1 3 (cw1 a c σ) rfl (ck_in g_4) dX5_rooms_37 ?_
      refine W.eq (g2 := F0 m 38 ls [.ref (a (11 + (Int32.toNatClampNeg x1)))]) rfl ?_
      refine lv_iload hx hb dX5_rooms_38 (lv_at hl 4 rfl) ?_
      refine va_put (D := D) (ci := 0) (v := .int x4) (ty := .int) (C := RX0) (T := TX0) (N := 3) hx hb ht gX0 tyX0 tyX0_ok nmX0 hown hK.1 hP (hD σ) hS (11 + (Int32.toNatClampNeg x1)) (cwX0 a c σ (Int32.toNatClampNeg x1) (ck_lt g_4)) rfl 2 (by decide) (ht _ q182) (fun _ h9 => h9) rfl (by decide +kernel) rfl rfl (Nat.le_of_ble_eq_true rfl) dX5_rooms_40 (fun H locs hP _ hS => ?_)
      have hP := vP_eq (cpX0_room a c σ (Int32.toNatClampNeg x1) (ck_lt g_4) x4) hP
      obtain ⟨σ_5, eσ_5, hf⟩ := onm hf
      rw [eσ_5] at hP
      refine lv_iload_n hx hb dX5_rooms_43 rfl (lv_at hl 3 rfl) ?_
      refine lv_aload_n hx hb dX5_rooms_44 rfl (lv_at hl 0 rfl) ?_
      obtain ⟨r_6, h_7, hf⟩ := obd hf
      refine xv_I (As := []) (rest := [.int x3]) S k_X5_readingsAreSo q564 q565 q566 ⟨Nat.le_of_ble_eq_true rfl, Nat.le_of_ble_eq_true rfl⟩ ⟨rfl, rfl⟩ (c_X5_readingsAreSo l D a c A hD N σ_5 r_6 h_7) hK hP hS (va_recv hK.1 hP (rfl : vwCl[3]? = some (RX5, TX5, 12)) (cw0 a c σ_5)) rfl hl.1 rfl (Nat.le_of_ble_eq_true rfl) dX5_rooms_45 ⟨Nat.zero_le _, Nat.zero_le _⟩ (fun H locs hP hS => ?_)
      obtain ⟨r_8, h_9, hf⟩ := obd hf
      refine xs_S (As := [.int r_6]) (rest := [.int x3]) S k_X5_oneIf q204 q205 ⟨Nat.le_of_ble_eq_true rfl, Nat.le_of_ble_eq_true rfl⟩ ⟨rfl, rfl⟩ (c_X5_oneIf l r_6 r_8 h_9) hK.2 rfl hl.1 rfl (Nat.le_of_ble_eq_true rfl) dX5_rooms_48 ⟨Nat.zero_le _, Nat.zero_le _⟩ ?_
      refine lv_iload hx hb dX5_rooms_51 (lv_at hl 4 rfl) ?_
      refine lv_ishl hx hb dX5_rooms_53 ?_
      refine lv_ior hx hb dX5_rooms_54 ?_
      obtain ⟨x3_10, ex3_10, hf⟩ := onm hf
      refine lv_nm ex3_10 ?_
      refine lv_istore_n (lv' := [(3, .int x3_10), (0, .ref (a 0)), (1, .int x1), (2, .int x2), (4, .int x4)]) hx hb dX5_rooms_55 rfl hl (by decide) rfl (fun ls hl => ?_)
      obtain ⟨x4_11, ex4_11, hf⟩ := onm hf
      refine lv_iinc (v := x4_11) (lv' := [(4, .int x4_11), (3, .int x3_10), (0, .ref (a 0)), (1, .int x1), (2, .int x2)]) hx hb dX5_rooms_56 hl (k := 4) rfl ex4_11 (by decide) rfl (fun ls hl => ?_)
      refine lv_goto (tgt := 25) hx hb dX5_rooms_59 (by decide) ?_
      exact ih x3_10 x4_11 σ_5 _ _ _ (lv_sub hl [2, 3, 4, 1, 0] rfl) hP hS (okx hf (hc25 _))
  have hf := oun (f_X5_rooms.eq_1 _ _ _) hf
  refine lv_aload_n hx hb dX5_rooms_0 rfl (lv_at hl 0 rfl) ?_
  refine lv_iload_n hx hb dX5_rooms_1 rfl (lv_at hl 1 rfl) ?_
  obtain ⟨r_12, h_13, hf⟩ := obd hf
  refine xv_I (As := [.int x1]) (rest := []) S k_X5_isDoll q183 q184 q185 ⟨Nat.le_of_ble_eq_true rfl, Nat.le_of_ble_eq_true rfl⟩ ⟨rfl, rfl⟩ (c_X5_isDoll l D a c A hD x1 σ r_12 h_13) hK hP hS (va_recv hK.1 hP (rfl : vwCl[3]? = some (RX5, TX5, 12)) (cw0 a c σ)) rfl hl.1 rfl (Nat.le_of_ble_eq_true rfl) dX5_rooms_2 ⟨Nat.zero_le _, Nat.zero_le _⟩ (fun H locs hP hS => ?_)
  refine lv_if_ne (tgt := 10) hx hb dX5_rooms_5 (by decide) (fun c_14 => ?_) (fun c_14 => ?_)
  · have hf := oif c_14 hf
    refine lv_aload_n hx hb dX5_rooms_10 rfl (lv_at hl 0 rfl) ?_
    refine va_get (D := D) (ci := 3) (v := .ref (a 1)) (C := RX5) (T := TX5) (N := 12) hx hb ht gX5 hown hK.1 hP 0 (cw0 a c σ) rfl 0 (by decide) (ht _ q13) (fun _ h9 => h9) rfl dX5_rooms_11 ?_
    refine lv_iload_n hx hb dX5_rooms_14 rfl (lv_at hl 1 rfl) ?_
    obtain ⟨g_15, hf⟩ := ogd hf
    refine va_aldq hx hb hK.1 hP 1 3 (cw1 a c σ) rfl (ck_in g_15) dX5_rooms_15 ?_
    refine W.eq (g2 := F0 m 16 ls [.ref (a (11 + (Int32.toNatClampNeg x1)))]) rfl ?_
    refine va_get (D := D) (ci := 0) (v := .int (σ.1 3 (Int32.toNatClampNeg x1))) (C := RX0) (T := TX0) (N := 3) hx hb ht gX0 hown hK.1 hP (11 + (Int32.toNatClampNeg x1)) (cwX0 a c σ (Int32.toNatClampNeg x1) (ck_lt g_15)) rfl 2 (by decide) (ht _ q182) (fun _ h9 => h9) rfl dX5_rooms_16 ?_
    obtain ⟨x2_16, ex2_16, hf⟩ := onm hf
    refine lv_nm ex2_16 ?_
    refine lv_istore_n (lv' := [(2, .int x2_16), (0, .ref (a 0)), (1, .int x1)]) hx hb dX5_rooms_19 rfl hl (by decide) rfl (fun ls hl => ?_)
    refine lv_iconst (v := (0 : Int32)) hx hb dX5_rooms_20 (by decide) ?_
    refine lv_istore_n (lv' := [(3, .int (0 : Int32)), (2, .int x2_16), (0, .ref (a 0)), (1, .int x1)]) hx hb dX5_rooms_21 rfl hl (by decide) rfl (fun ls hl => ?_)
    refine lv_iconst (v := (0 : Int32)) hx hb dX5_rooms_22 (by decide) ?_
    refine lv_istore (lv' := [(4, .int (0 : Int32)), (3, .int (0 : Int32)), (2, .int x2_16), (0, .ref (a 0)), (1, .int x1)]) hx hb dX5_rooms_23 hl (by decide) rfl (fun ls hl => ?_)
    exact L25 x1 x2_16 N (0 : Int32) (0 : Int32) σ _ _ _ (lv_sub hl [3, 4, 2, 1, 0] rfl) hP hS hf
  have hf := oit c_14 hf
  refine lv_iconst (v := (-1 : Int32)) hx hb dX5_rooms_8 (by decide) ?_
  exact hret _ _ _ _ _ _ dX5_rooms_9 rfl hP hS (oret hf)
theorem dX5_kinds_0 : decode cX5_kinds 0 = .ok (.aload_n 0, 1) := by decide +kernel
theorem dX5_kinds_1 : decode cX5_kinds 1 = .ok (.iload_n 1, 1) := by decide +kernel
theorem dX5_kinds_2 : decode cX5_kinds 2 = .ok (.invokevirtual 93, 3) := by decide +kernel
theorem dX5_kinds_5 : decode cX5_kinds 5 = .ok (.ifCond .ne 5, 3) := by decide +kernel
theorem dX5_kinds_8 : decode cX5_kinds 8 = .ok (.iconst (-1), 1) := by decide +kernel
theorem dX5_kinds_9 : decode cX5_kinds 9 = .ok (.ireturn, 1) := by decide +kernel
theorem dX5_kinds_10 : decode cX5_kinds 10 = .ok (.aload_n 0, 1) := by decide +kernel
theorem dX5_kinds_11 : decode cX5_kinds 11 = .ok (.getfield 13, 3) := by decide +kernel
theorem dX5_kinds_14 : decode cX5_kinds 14 = .ok (.iload_n 1, 1) := by decide +kernel
theorem dX5_kinds_15 : decode cX5_kinds 15 = .ok (.aaload, 1) := by decide +kernel
theorem dX5_kinds_16 : decode cX5_kinds 16 = .ok (.getfield 96, 3) := by decide +kernel
theorem dX5_kinds_19 : decode cX5_kinds 19 = .ok (.istore_n 2, 1) := by decide +kernel
theorem dX5_kinds_20 : decode cX5_kinds 20 = .ok (.iconst 0, 1) := by decide +kernel
theorem dX5_kinds_21 : decode cX5_kinds 21 = .ok (.istore_n 3, 1) := by decide +kernel
theorem dX5_kinds_22 : decode cX5_kinds 22 = .ok (.iconst 0, 1) := by decide +kernel
theorem dX5_kinds_23 : decode cX5_kinds 23 = .ok (.istore 4, 2) := by decide +kernel
theorem dX5_kinds_25 : decode cX5_kinds 25 = .ok (.iload 4, 2) := by decide +kernel
theorem dX5_kinds_27 : decode cX5_kinds 27 = .ok (.iconst 2, 1) := by decide +kernel
theorem dX5_kinds_28 : decode cX5_kinds 28 = .ok (.if_icmp .gt 33, 3) := by decide +kernel
theorem dX5_kinds_31 : decode cX5_kinds 31 = .ok (.aload_n 0, 1) := by decide +kernel
theorem dX5_kinds_32 : decode cX5_kinds 32 = .ok (.getfield 13, 3) := by decide +kernel
theorem dX5_kinds_35 : decode cX5_kinds 35 = .ok (.iload_n 1, 1) := by decide +kernel
theorem dX5_kinds_36 : decode cX5_kinds 36 = .ok (.aaload, 1) := by decide +kernel
theorem dX5_kinds_37 : decode cX5_kinds 37 = .ok (.iload 4, 2) := by decide +kernel
theorem dX5_kinds_39 : decode cX5_kinds 39 = .ok (.putfield 96, 3) := by decide +kernel
theorem dX5_kinds_42 : decode cX5_kinds 42 = .ok (.iload_n 3, 1) := by decide +kernel
theorem dX5_kinds_43 : decode cX5_kinds 43 = .ok (.aload_n 0, 1) := by decide +kernel
theorem dX5_kinds_44 : decode cX5_kinds 44 = .ok (.invokevirtual 242, 3) := by decide +kernel
theorem dX5_kinds_47 : decode cX5_kinds 47 = .ok (.invokestatic 117, 3) := by decide +kernel
theorem dX5_kinds_50 : decode cX5_kinds 50 = .ok (.iload 4, 2) := by decide +kernel
theorem dX5_kinds_52 : decode cX5_kinds 52 = .ok (.ishl, 1) := by decide +kernel
theorem dX5_kinds_53 : decode cX5_kinds 53 = .ok (.ior, 1) := by decide +kernel
theorem dX5_kinds_54 : decode cX5_kinds 54 = .ok (.istore_n 3, 1) := by decide +kernel
theorem dX5_kinds_55 : decode cX5_kinds 55 = .ok (.iinc 4 1, 3) := by decide +kernel
theorem dX5_kinds_58 : decode cX5_kinds 58 = .ok (.goto (-33), 3) := by decide +kernel
theorem dX5_kinds_61 : decode cX5_kinds 61 = .ok (.aload_n 0, 1) := by decide +kernel
theorem dX5_kinds_62 : decode cX5_kinds 62 = .ok (.getfield 13, 3) := by decide +kernel
theorem dX5_kinds_65 : decode cX5_kinds 65 = .ok (.iload_n 1, 1) := by decide +kernel
theorem dX5_kinds_66 : decode cX5_kinds 66 = .ok (.aaload, 1) := by decide +kernel
theorem dX5_kinds_67 : decode cX5_kinds 67 = .ok (.iload_n 2, 1) := by decide +kernel
theorem dX5_kinds_68 : decode cX5_kinds 68 = .ok (.putfield 96, 3) := by decide +kernel
theorem dX5_kinds_71 : decode cX5_kinds 71 = .ok (.iload_n 3, 1) := by decide +kernel
theorem dX5_kinds_72 : decode cX5_kinds 72 = .ok (.ireturn, 1) := by decide +kernel
def f_X5_kinds_j61 (N : Nat) (x1 : Int32) (x2 : Int32) (x3 : Int32) (σ : St) : Option (Int32 × St) :=
  gd (ck x1 4) <|
  nm (wS σ 1 (Int32.toNatClampNeg x1) x2) fun σ_2 =>
  some (x3, σ_2)
def f_X5_kinds_b25 (N : Nat) (x1 : Int32) (x2 : Int32) (x3 : Int32) (x4 : Int32) (σ : St) : Option ((Int32 × Int32 × St) ⊕ ((Int32 × St))) :=
  if (2 : Int32) < x4 then (some (.inr (x3, σ)))
  else gd (ck x1 4) <|
  nm (wS σ 1 (Int32.toNatClampNeg x1) x4) fun σ_5 =>
  bd (f_X5_readingsAreSo N σ_5) fun r_6 =>
  bd (f_X5_oneIf r_6) fun r_8 =>
  nm (x3 ||| (r_8 <<< (x4 &&& 31))) fun x3_10 =>
  nm (x4 + (1 : Int32)) fun x4_11 =>
  some (.inl (x3_10, x4_11, σ_5))
def f_X5_kinds (N : Nat) (x1 : Int32) (σ : St) : Option (Int32 × St) :=
  bd (f_X5_isDoll x1 σ) fun r_12 =>
  if r_12 = 0 then (some ((-1 : Int32), σ))
  else gd (ck x1 4) <|
    nm (σ.1 1 (Int32.toNatClampNeg x1)) fun x2_16 =>
    bd (lpF (fun s => f_X5_kinds_b25 N x1 x2_16 s.1 s.2.1 s.2.2) N ((0 : Int32), (0 : Int32), σ)) (fun o => f_X5_kinds_j61 N x1 x2_16 o.1 o.2)
abbrev rmX5_kinds : Room := { frames := 3, cells := 0, slots := 0, locals := 66 }
set_option maxRecDepth 100000 in
set_option maxHeartbeats 4000000 in
theorem c_X5_kinds (l : Launch) (D : va_G) (a : Nat → Nat) (c : Nat → ClassId) (A : Nat → Prop) (hD : ∀ σ, va_D A (cW a c σ)) (N : Nat) (x1 : Int32) (σ : St) (r : Int32) (u : St) (hf : f_X5_kinds N x1 σ = some (r, u)) : MetI l yX5_kinds cX5_kinds 5 (some .int) rmX5_kinds (cW a c) D c A [.ref (a 0), .int x1] σ r u := by
  refine mkI (by decide) (Nat.le_of_ble_eq_true rfl) rfl ?_
  intro p e s m args below meth cd Q ls h0 hK hP hret hl
  obtain ⟨S, hr, hlk⟩ := h0
  obtain ⟨hx, hb, hml, hown, ht⟩ := id S
  have hS : va_S A s.heap s.heap [] := va_S.rf
  have hl : lv_has ls 5 [(0, .ref (a 0)), (1, .int x1)] := hl
  have hf := obs hf
  have j61 : ∀ (x1 : Int32) (x2 : Int32) (x3 : Int32) (σ : St) (H : Heap) (locs : List Loc) (ls : Array Slot), lv_has ls 5 [(0, .ref (a 0)), (1, .int x1), (2, .int x2), (3, .int x3)] → va_P D vwCl (cW a c σ) H → va_S A s.heap H locs → Option.bind (f_X5_kinds_j61 N x1 x2 x3 σ) some = some (r, u) → W p l e rmX5_kinds s m args below meth cd H locs 0 0 Q (F0 m 61 ls []) := by
    intro x1 x2 x3 σ H locs ls hl hP hS hf
    have hf := oun (f_X5_kinds_j61.eq_1 _ _ _ _ _) hf
    refine lv_aload_n hx hb dX5_kinds_61 rfl (lv_at hl 0 rfl) ?_
    refine va_get (D := D) (ci := 3) (v := .ref (a 1)) (C := RX5) (T := TX5) (N := 12) hx hb ht gX5 hown hK.1 hP 0 (cw0 a c σ) rfl 0 (by decide) (ht _ q13) (fun _ h9 => h9) rfl dX5_kinds_62 ?_
    refine lv_iload_n hx hb dX5_kinds_65 rfl (lv_at hl 1 rfl) ?_
    obtain ⟨g_1, hf⟩ := ogd hf
    refine va_aldq hx hb hK.1 hP 1 3 (cw1 a c σ) rfl (ck_in g_1) dX5_kinds_66 ?_
    refine W.eq (g2 := F0 m 67 ls [.ref (a (11 + (Int32.toNatClampNeg x1)))]) rfl ?_
    refine lv_iload_n hx hb dX5_kinds_67 rfl (lv_at hl 2 rfl) ?_
    refine va_put (D := D) (ci := 0) (v := .int x2) (ty := .int) (C := RX0) (T := TX0) (N := 3) hx hb ht gX0 tyX0 tyX0_ok nmX0 hown hK.1 hP (hD σ) hS (11 + (Int32.toNatClampNeg x1)) (cwX0 a c σ (Int32.toNatClampNeg x1) (ck_lt g_1)) rfl 0 (by decide) (ht _ q180) (fun _ h9 => h9) rfl (by decide +kernel) rfl rfl (Nat.le_of_ble_eq_true rfl) dX5_kinds_68 (fun H locs hP _ hS => ?_)
    have hP := vP_eq (cpX0_kind a c σ (Int32.toNatClampNeg x1) (ck_lt g_1) x2) hP
    obtain ⟨σ_2, eσ_2, hf⟩ := onm hf
    rw [eσ_2] at hP
    refine lv_iload_n hx hb dX5_kinds_71 rfl (lv_at hl 3 rfl) ?_
    exact hret _ _ _ _ _ _ dX5_kinds_72 rfl hP hS (oret hf)
  have L25 : ∀ (x1 : Int32) (x2 : Int32) (k : Nat) (x3 : Int32) (x4 : Int32) (σ : St) (H : Heap) (locs : List Loc) (ls : Array Slot), lv_has ls 5 [(0, .ref (a 0)), (1, .int x1), (2, .int x2), (3, .int x3), (4, .int x4)] → va_P D vwCl (cW a c σ) H → va_S A s.heap H locs → Option.bind (bd (lpF (fun s => f_X5_kinds_b25 N x1 x2 s.1 s.2.1 s.2.2) k (x3, x4, σ)) (fun o => f_X5_kinds_j61 N x1 x2 o.1 o.2)) some = some (r, u) → W p l e rmX5_kinds s m args below meth cd H locs 0 0 Q (F0 m 25 ls []) := by
    intro x1 x2 k
    induction k with
    | zero =>
      intro x3 x4 σ H locs ls hl hP hS hf
      exact (ol0 hf).elim
    | succ k ih =>
      intro x3 x4 σ H locs ls hl hP hS hf
      obtain ⟨K25, hf, hc25, hx25⟩ := ol1 hf
      have hf := oun (f_X5_kinds_b25.eq_1 N x1 x2 x3 x4 σ) hf
      refine lv_iload hx hb dX5_kinds_25 (lv_at hl 4 rfl) ?_
      refine lv_iconst (v := (2 : Int32)) hx hb dX5_kinds_27 (by decide) ?_
      refine lv_icmp_gt (tgt := 61) hx hb dX5_kinds_28 (by decide) (fun c_3 => ?_) (fun c_3 => ?_)
      · have hf := oit c_3 hf
        exact j61 x1 x2 x3 σ _ _ _ (lv_sub hl [0, 1, 2, 3] rfl) hP hS (okx hf (hx25 _))
      have hf := oif c_3 hf
      refine lv_aload_n hx hb dX5_kinds_31 rfl (lv_at hl 0 rfl) ?_
      refine va_get (D := D) (ci := 3) (v := .ref (a 1)) (C := RX5) (T := TX5) (N := 12) hx hb ht gX5 hown hK.1 hP 0 (cw0 a c σ) rfl 0 (by decide) (ht _ q13) (fun _ h9 => h9) rfl dX5_kinds_32 ?_
      refine lv_iload_n hx hb dX5_kinds_35 rfl (lv_at hl 1 rfl) ?_
      obtain ⟨g_4, hf⟩ := ogd hf
      refine va_aldq hx hb hK.1 hP 1 3 (cw1 a c σ) rfl (ck_in g_4) dX5_kinds_36 ?_
      refine W.eq (g2 := F0 m 37 ls [.ref (a (11 + (Int32.toNatClampNeg x1)))]) rfl ?_
      refine lv_iload hx hb dX5_kinds_37 (lv_at hl 4 rfl) ?_
      refine va_put (D := D) (ci := 0) (v := .int x4) (ty := .int) (C := RX0) (T := TX0) (N := 3) hx hb ht gX0 tyX0 tyX0_ok nmX0 hown hK.1 hP (hD σ) hS (11 + (Int32.toNatClampNeg x1)) (cwX0 a c σ (Int32.toNatClampNeg x1) (ck_lt g_4)) rfl 0 (by decide) (ht _ q180) (fun _ h9 => h9) rfl (by decide +kernel) rfl rfl (Nat.le_of_ble_eq_true rfl) dX5_kinds_39 (fun H locs hP _ hS => ?_)
      have hP := vP_eq (cpX0_kind a c σ (Int32.toNatClampNeg x1) (ck_lt g_4) x4) hP
      obtain ⟨σ_5, eσ_5, hf⟩ := onm hf
      rw [eσ_5] at hP
      refine lv_iload_n hx hb dX5_kinds_42 rfl (lv_at hl 3 rfl) ?_
      refine lv_aload_n hx hb dX5_kinds_43 rfl (lv_at hl 0 rfl) ?_
      obtain ⟨r_6, h_7, hf⟩ := obd hf
      refine xv_I (As := []) (rest := [.int x3]) S k_X5_readingsAreSo q564 q565 q566 ⟨Nat.le_of_ble_eq_true rfl, Nat.le_of_ble_eq_true rfl⟩ ⟨rfl, rfl⟩ (c_X5_readingsAreSo l D a c A hD N σ_5 r_6 h_7) hK hP hS (va_recv hK.1 hP (rfl : vwCl[3]? = some (RX5, TX5, 12)) (cw0 a c σ_5)) rfl hl.1 rfl (Nat.le_of_ble_eq_true rfl) dX5_kinds_44 ⟨Nat.zero_le _, Nat.zero_le _⟩ (fun H locs hP hS => ?_)
      obtain ⟨r_8, h_9, hf⟩ := obd hf
      refine xs_S (As := [.int r_6]) (rest := [.int x3]) S k_X5_oneIf q204 q205 ⟨Nat.le_of_ble_eq_true rfl, Nat.le_of_ble_eq_true rfl⟩ ⟨rfl, rfl⟩ (c_X5_oneIf l r_6 r_8 h_9) hK.2 rfl hl.1 rfl (Nat.le_of_ble_eq_true rfl) dX5_kinds_47 ⟨Nat.zero_le _, Nat.zero_le _⟩ ?_
      refine lv_iload hx hb dX5_kinds_50 (lv_at hl 4 rfl) ?_
      refine lv_ishl hx hb dX5_kinds_52 ?_
      refine lv_ior hx hb dX5_kinds_53 ?_
      obtain ⟨x3_10, ex3_10, hf⟩ := onm hf
      refine lv_nm ex3_10 ?_
      refine lv_istore_n (lv' := [(3, .int x3_10), (0, .ref (a 0)), (1, .int x1), (2, .int x2), (4, .int x4)]) hx hb dX5_kinds_54 rfl hl (by decide) rfl (fun ls hl => ?_)
      obtain ⟨x4_11, ex4_11, hf⟩ := onm hf
      refine lv_iinc (v := x4_11) (lv' := [(4, .int x4_11), (3, .int x3_10), (0, .ref (a 0)), (1, .int x1), (2, .int x2)]) hx hb dX5_kinds_55 hl (k := 4) rfl ex4_11 (by decide) rfl (fun ls hl => ?_)
      refine lv_goto (tgt := 25) hx hb dX5_kinds_58 (by decide) ?_
      exact ih x3_10 x4_11 σ_5 _ _ _ (lv_sub hl [2, 3, 4, 1, 0] rfl) hP hS (okx hf (hc25 _))
  have hf := oun (f_X5_kinds.eq_1 _ _ _) hf
  refine lv_aload_n hx hb dX5_kinds_0 rfl (lv_at hl 0 rfl) ?_
  refine lv_iload_n hx hb dX5_kinds_1 rfl (lv_at hl 1 rfl) ?_
  obtain ⟨r_12, h_13, hf⟩ := obd hf
  refine xv_I (As := [.int x1]) (rest := []) S k_X5_isDoll q183 q184 q185 ⟨Nat.le_of_ble_eq_true rfl, Nat.le_of_ble_eq_true rfl⟩ ⟨rfl, rfl⟩ (c_X5_isDoll l D a c A hD x1 σ r_12 h_13) hK hP hS (va_recv hK.1 hP (rfl : vwCl[3]? = some (RX5, TX5, 12)) (cw0 a c σ)) rfl hl.1 rfl (Nat.le_of_ble_eq_true rfl) dX5_kinds_2 ⟨Nat.zero_le _, Nat.zero_le _⟩ (fun H locs hP hS => ?_)
  refine lv_if_ne (tgt := 10) hx hb dX5_kinds_5 (by decide) (fun c_14 => ?_) (fun c_14 => ?_)
  · have hf := oif c_14 hf
    refine lv_aload_n hx hb dX5_kinds_10 rfl (lv_at hl 0 rfl) ?_
    refine va_get (D := D) (ci := 3) (v := .ref (a 1)) (C := RX5) (T := TX5) (N := 12) hx hb ht gX5 hown hK.1 hP 0 (cw0 a c σ) rfl 0 (by decide) (ht _ q13) (fun _ h9 => h9) rfl dX5_kinds_11 ?_
    refine lv_iload_n hx hb dX5_kinds_14 rfl (lv_at hl 1 rfl) ?_
    obtain ⟨g_15, hf⟩ := ogd hf
    refine va_aldq hx hb hK.1 hP 1 3 (cw1 a c σ) rfl (ck_in g_15) dX5_kinds_15 ?_
    refine W.eq (g2 := F0 m 16 ls [.ref (a (11 + (Int32.toNatClampNeg x1)))]) rfl ?_
    refine va_get (D := D) (ci := 0) (v := .int (σ.1 1 (Int32.toNatClampNeg x1))) (C := RX0) (T := TX0) (N := 3) hx hb ht gX0 hown hK.1 hP (11 + (Int32.toNatClampNeg x1)) (cwX0 a c σ (Int32.toNatClampNeg x1) (ck_lt g_15)) rfl 0 (by decide) (ht _ q180) (fun _ h9 => h9) rfl dX5_kinds_16 ?_
    obtain ⟨x2_16, ex2_16, hf⟩ := onm hf
    refine lv_nm ex2_16 ?_
    refine lv_istore_n (lv' := [(2, .int x2_16), (0, .ref (a 0)), (1, .int x1)]) hx hb dX5_kinds_19 rfl hl (by decide) rfl (fun ls hl => ?_)
    refine lv_iconst (v := (0 : Int32)) hx hb dX5_kinds_20 (by decide) ?_
    refine lv_istore_n (lv' := [(3, .int (0 : Int32)), (2, .int x2_16), (0, .ref (a 0)), (1, .int x1)]) hx hb dX5_kinds_21 rfl hl (by decide) rfl (fun ls hl => ?_)
    refine lv_iconst (v := (0 : Int32)) hx hb dX5_kinds_22 (by decide) ?_
    refine lv_istore (lv' := [(4, .int (0 : Int32)), (3, .int (0 : Int32)), (2, .int x2_16), (0, .ref (a 0)), (1, .int x1)]) hx hb dX5_kinds_23 hl (by decide) rfl (fun ls hl => ?_)
    exact L25 x1 x2_16 N (0 : Int32) (0 : Int32) σ _ _ _ (lv_sub hl [3, 4, 2, 1, 0] rfl) hP hS hf
  have hf := oit c_14 hf
  refine lv_iconst (v := (-1 : Int32)) hx hb dX5_kinds_8 (by decide) ?_
  exact hret _ _ _ _ _ _ dX5_kinds_9 rfl hP hS (oret hf)
theorem dX5_odds_0 : decode cX5_odds 0 = .ok (.iload_n 1, 1) := by decide +kernel
theorem dX5_odds_1 : decode cX5_odds 1 = .ok (.ifCond .eq 8, 3) := by decide +kernel
theorem dX5_odds_4 : decode cX5_odds 4 = .ok (.iload_n 1, 1) := by decide +kernel
theorem dX5_odds_5 : decode cX5_odds 5 = .ok (.iconst 1, 1) := by decide +kernel
theorem dX5_odds_6 : decode cX5_odds 6 = .ok (.if_icmp .ne 11, 3) := by decide +kernel
theorem dX5_odds_9 : decode cX5_odds 9 = .ok (.aload_n 0, 1) := by decide +kernel
theorem dX5_odds_10 : decode cX5_odds 10 = .ok (.getfield 72, 3) := by decide +kernel
theorem dX5_odds_13 : decode cX5_odds 13 = .ok (.iconst 2, 1) := by decide +kernel
theorem dX5_odds_14 : decode cX5_odds 14 = .ok (.if_icmp .ge 7, 3) := by decide +kernel
theorem dX5_odds_17 : decode cX5_odds 17 = .ok (.ldc2_w 246, 3) := by decide +kernel
theorem dX5_odds_20 : decode cX5_odds 20 = .ok (.lreturn, 1) := by decide +kernel
theorem dX5_odds_21 : decode cX5_odds 21 = .ok (.aload_n 0, 1) := by decide +kernel
theorem dX5_odds_22 : decode cX5_odds 22 = .ok (.invokevirtual 177, 3) := by decide +kernel
theorem dX5_odds_25 : decode cX5_odds 25 = .ok (.invokestatic 186, 3) := by decide +kernel
theorem dX5_odds_28 : decode cX5_odds 28 = .ok (.istore_n 2, 1) := by decide +kernel
theorem dX5_odds_29 : decode cX5_odds 29 = .ok (.aload_n 0, 1) := by decide +kernel
theorem dX5_odds_30 : decode cX5_odds 30 = .ok (.getfield 72, 3) := by decide +kernel
theorem dX5_odds_33 : decode cX5_odds 33 = .ok (.aload_n 0, 1) := by decide +kernel
theorem dX5_odds_34 : decode cX5_odds 34 = .ok (.getfield 72, 3) := by decide +kernel
theorem dX5_odds_37 : decode cX5_odds 37 = .ok (.iconst 1, 1) := by decide +kernel
theorem dX5_odds_38 : decode cX5_odds 38 = .ok (.isub, 1) := by decide +kernel
theorem dX5_odds_39 : decode cX5_odds 39 = .ok (.imul, 1) := by decide +kernel
theorem dX5_odds_40 : decode cX5_odds 40 = .ok (.istore_n 3, 1) := by decide +kernel
theorem dX5_odds_41 : decode cX5_odds 41 = .ok (.iload_n 2, 1) := by decide +kernel
theorem dX5_odds_42 : decode cX5_odds 42 = .ok (.iload_n 3, 1) := by decide +kernel
theorem dX5_odds_43 : decode cX5_odds 43 = .ok (.invokestatic 248, 3) := by decide +kernel
theorem dX5_odds_46 : decode cX5_odds 46 = .ok (.istore 4, 2) := by decide +kernel
theorem dX5_odds_48 : decode cX5_odds 48 = .ok (.iload_n 1, 1) := by decide +kernel
theorem dX5_odds_49 : decode cX5_odds 49 = .ok (.ifCond .ne 7, 3) := by decide +kernel
theorem dX5_odds_52 : decode cX5_odds 52 = .ok (.iload_n 2, 1) := by decide +kernel
theorem dX5_odds_53 : decode cX5_odds 53 = .ok (.goto 4, 3) := by decide +kernel
theorem dX5_odds_56 : decode cX5_odds 56 = .ok (.iload_n 3, 1) := by decide +kernel
theorem dX5_odds_57 : decode cX5_odds 57 = .ok (.iload 4, 2) := by decide +kernel
theorem dX5_odds_59 : decode cX5_odds 59 = .ok (.idiv, 1) := by decide +kernel
theorem dX5_odds_60 : decode cX5_odds 60 = .ok (.i2l, 1) := by decide +kernel
theorem dX5_odds_61 : decode cX5_odds 61 = .ok (.lreturn, 1) := by decide +kernel
def f_X5_odds_j57 (N : Nat) (x4 : Int32) (y0 : Int32) (σ : St) : Option Int64 :=
  gd (decide (¬ x4 = 0)) <|
  some (Int32.toInt64 (y0 / x4))
def f_X5_odds_j9 (N : Nat) (x1 : Int32) (σ : St) : Option Int64 :=
  if (2 : Int32) ≤ (σ.1 0 0) then (bd (f_X5_fitting N σ) fun r_3 =>
    bd (f_J6_bitCount_0f7a4 r_3) fun r_5 =>
    nm ((σ.1 0 0) * ((σ.1 0 0) - (1 : Int32))) fun x3_7 =>
    bd (f_X5_commonDivisor N r_5 x3_7) fun r_8 =>
    if x1 = 0 then (f_X5_odds_j57 N r_8 r_5 σ)
    else f_X5_odds_j57 N r_8 x3_7 σ)
  else some (-9223372036854775808 : Int64)
def f_X5_odds (N : Nat) (x1 : Int32) (σ : St) : Option Int64 :=
  if x1 = 0 then (f_X5_odds_j9 N x1 σ)
  else if x1 = (1 : Int32) then (f_X5_odds_j9 N x1 σ)
  else some (-9223372036854775808 : Int64)
abbrev rmX5_odds : Room := { frames := 3, cells := 0, slots := 0, locals := 64 }
set_option maxRecDepth 100000 in
set_option maxHeartbeats 4000000 in
theorem c_X5_odds (l : Launch) (D : va_G) (a : Nat → Nat) (c : Nat → ClassId) (A : Nat → Prop) (hD : ∀ σ, va_D A (cW a c σ)) (N : Nat) (x1 : Int32) (σ : St) (r : Int64) (hf : f_X5_odds N x1 σ = some r) : MetL l yX5_odds cX5_odds 5 (some .long) rmX5_odds (cW a c) D c A [.ref (a 0), .int x1] σ r σ := by
  refine mkL (by decide) (Nat.le_of_ble_eq_true rfl) rfl ?_
  intro p e s m args below meth cd Q ls h0 hK hP hret hl
  obtain ⟨S, hr, hlk⟩ := h0
  obtain ⟨hx, hb, hml, hown, ht⟩ := id S
  have hS : va_S A s.heap s.heap [] := va_S.rf
  have hl : lv_has ls 5 [(0, .ref (a 0)), (1, .int x1)] := hl
  have hf := obs hf
  have j57 : ∀ (x4 : Int32) (y0 : Int32) (H : Heap) (locs : List Loc) (ls : Array Slot), lv_has ls 5 [(4, .int x4)] → va_P D vwCl (cW a c σ) H → va_S A s.heap H locs → Option.bind (f_X5_odds_j57 N x4 y0 σ) some = some r → W p l e rmX5_odds s m args below meth cd H locs 0 0 Q (F0 m 57 ls [.int y0]) := by
    intro x4 y0 H locs ls hl hP hS hf
    have hf := oun (f_X5_odds_j57.eq_1 _ _ _ _) hf
    refine lv_iload hx hb dX5_odds_57 (lv_at hl 0 rfl) ?_
    obtain ⟨g_1, hf⟩ := ogd hf
    refine lv_idiv hx hb dX5_odds_59 (of_decide_eq_true g_1) ?_
    refine lv_i2l (v := (Int32.toInt64 (y0 / x4))) hx hb dX5_odds_60 rfl ?_
    exact hret _ _ _ _ _ _ dX5_odds_61 hP hS ⟨Option.some.inj hf, rfl⟩
  have j9 : ∀ (x1 : Int32) (H : Heap) (locs : List Loc) (ls : Array Slot), lv_has ls 5 [(0, .ref (a 0)), (1, .int x1)] → va_P D vwCl (cW a c σ) H → va_S A s.heap H locs → Option.bind (f_X5_odds_j9 N x1 σ) some = some r → W p l e rmX5_odds s m args below meth cd H locs 0 0 Q (F0 m 9 ls []) := by
    intro x1 H locs ls hl hP hS hf
    have hf := oun (f_X5_odds_j9.eq_1 _ _ _) hf
    refine lv_aload_n hx hb dX5_odds_9 rfl (lv_at hl 0 rfl) ?_
    refine va_get (D := D) (ci := 3) (v := .int (σ.1 0 0)) (C := RX5) (T := TX5) (N := 12) hx hb ht gX5 hown hK.1 hP 0 (cw0 a c σ) rfl 6 (by decide) (ht _ q74) (fun _ h9 => h9) rfl dX5_odds_10 ?_
    refine lv_iconst (v := (2 : Int32)) hx hb dX5_odds_13 (by decide) ?_
    refine lv_icmp_ge (tgt := 21) hx hb dX5_odds_14 (by decide) (fun c_2 => ?_) (fun c_2 => ?_)
    · have hf := oit c_2 hf
      refine lv_aload_n hx hb dX5_odds_21 rfl (lv_at hl 0 rfl) ?_
      obtain ⟨r_3, h_4, hf⟩ := obd hf
      refine xv_I (As := []) (rest := []) S k_X5_fitting q302 q303 q304 ⟨Nat.le_of_ble_eq_true rfl, Nat.le_of_ble_eq_true rfl⟩ ⟨rfl, rfl⟩ (c_X5_fitting l D a c A hD N σ r_3 h_4) hK hP hS (va_recv hK.1 hP (rfl : vwCl[3]? = some (RX5, TX5, 12)) (cw0 a c σ)) rfl hl.1 rfl (Nat.le_of_ble_eq_true rfl) dX5_odds_22 ⟨Nat.zero_le _, Nat.zero_le _⟩ (fun H locs hP hS => ?_)
      obtain ⟨r_5, h_6, hf⟩ := obd hf
      refine xs_S (As := [.int r_3]) (rest := []) S k_J6_bitCount_0f7a4 q327 q328 ⟨Nat.le_of_ble_eq_true rfl, Nat.le_of_ble_eq_true rfl⟩ ⟨rfl, rfl⟩ (c_J6_bitCount_0f7a4 l r_3 r_5 h_6) hK.2 rfl hl.1 rfl (Nat.le_of_ble_eq_true rfl) dX5_odds_25 ⟨Nat.zero_le _, Nat.zero_le _⟩ ?_
      refine lv_istore_n (lv' := [(2, .int r_5), (0, .ref (a 0)), (1, .int x1)]) hx hb dX5_odds_28 rfl hl (by decide) rfl (fun ls hl => ?_)
      refine lv_aload_n hx hb dX5_odds_29 rfl (lv_at hl 1 rfl) ?_
      refine va_get (D := D) (ci := 3) (v := .int (σ.1 0 0)) (C := RX5) (T := TX5) (N := 12) hx hb ht gX5 hown hK.1 hP 0 (cw0 a c σ) rfl 6 (by decide) (ht _ q74) (fun _ h9 => h9) rfl dX5_odds_30 ?_
      refine lv_aload_n hx hb dX5_odds_33 rfl (lv_at hl 1 rfl) ?_
      refine va_get (D := D) (ci := 3) (v := .int (σ.1 0 0)) (C := RX5) (T := TX5) (N := 12) hx hb ht gX5 hown hK.1 hP 0 (cw0 a c σ) rfl 6 (by decide) (ht _ q74) (fun _ h9 => h9) rfl dX5_odds_34 ?_
      refine lv_iconst (v := (1 : Int32)) hx hb dX5_odds_37 (by decide) ?_
      refine lv_isub hx hb dX5_odds_38 ?_
      refine lv_imul hx hb dX5_odds_39 ?_
      obtain ⟨x3_7, ex3_7, hf⟩ := onm hf
      refine lv_nm ex3_7 ?_
      refine lv_istore_n (lv' := [(3, .int x3_7), (2, .int r_5), (0, .ref (a 0)), (1, .int x1)]) hx hb dX5_odds_40 rfl hl (by decide) rfl (fun ls hl => ?_)
      refine lv_iload_n hx hb dX5_odds_41 rfl (lv_at hl 1 rfl) ?_
      refine lv_iload_n hx hb dX5_odds_42 rfl (lv_at hl 0 rfl) ?_
      obtain ⟨r_8, h_9, hf⟩ := obd hf
      refine xs_S (As := [.int r_5, .int x3_7]) (rest := []) S k_X5_commonDivisor q597 q598 ⟨Nat.le_of_ble_eq_true rfl, Nat.le_of_ble_eq_true rfl⟩ ⟨rfl, rfl⟩ (c_X5_commonDivisor l N r_5 x3_7 r_8 h_9) hK.2 rfl hl.1 rfl (Nat.le_of_ble_eq_true rfl) dX5_odds_43 ⟨Nat.zero_le _, Nat.zero_le _⟩ ?_
      refine lv_istore (lv' := [(4, .int r_8), (3, .int x3_7), (2, .int r_5), (0, .ref (a 0)), (1, .int x1)]) hx hb dX5_odds_46 hl (by decide) rfl (fun ls hl => ?_)
      refine lv_iload_n hx hb dX5_odds_48 rfl (lv_at hl 4 rfl) ?_
      refine lv_if_ne (tgt := 56) hx hb dX5_odds_49 (by decide) (fun c_10 => ?_) (fun c_10 => ?_)
      · have hf := oif c_10 hf
        refine lv_iload_n hx hb dX5_odds_56 rfl (lv_at hl 1 rfl) ?_
        exact j57 r_8 x3_7 _ _ _ (lv_sub hl [0] rfl) hP hS hf
      have hf := oit c_10 hf
      refine lv_iload_n hx hb dX5_odds_52 rfl (lv_at hl 2 rfl) ?_
      refine lv_goto (tgt := 57) hx hb dX5_odds_53 (by decide) ?_
      exact j57 r_8 r_5 _ _ _ (lv_sub hl [0] rfl) hP hS hf
    have hf := oif c_2 hf
    refine lv_ldc2 (v := (-9223372036854775808 : Int64)) hx hb hown (ht _ q596) dX5_odds_17 ?_
    exact hret _ _ _ _ _ _ dX5_odds_20 hP hS ⟨Option.some.inj hf, rfl⟩
  have hf := oun (f_X5_odds.eq_1 _ _ _) hf
  refine lv_iload_n hx hb dX5_odds_0 rfl (lv_at hl 1 rfl) ?_
  refine lv_if_eq (tgt := 9) hx hb dX5_odds_1 (by decide) (fun c_11 => ?_) (fun c_11 => ?_)
  · have hf := oit c_11 hf
    exact j9 x1 _ _ _ (lv_sub hl [0, 1] rfl) hP hS hf
  have hf := oif c_11 hf
  refine lv_iload_n hx hb dX5_odds_4 rfl (lv_at hl 1 rfl) ?_
  refine lv_iconst (v := (1 : Int32)) hx hb dX5_odds_5 (by decide) ?_
  refine lv_icmp_ne (tgt := 17) hx hb dX5_odds_6 (by decide) (fun c_12 => ?_) (fun c_12 => ?_)
  · have hf := oif c_12 hf
    refine lv_ldc2 (v := (-9223372036854775808 : Int64)) hx hb hown (ht _ q596) dX5_odds_17 ?_
    exact hret _ _ _ _ _ _ dX5_odds_20 hP hS ⟨Option.some.inj hf, rfl⟩
  have hf := oit c_12 hf
  exact j9 x1 _ _ _ (lv_sub hl [0, 1] rfl) hP hS hf
theorem dX5_sheet_0 : decode cX5_sheet 0 = .ok (.aload_n 0, 1) := by decide +kernel
theorem dX5_sheet_1 : decode cX5_sheet 1 = .ok (.iconst 0, 1) := by decide +kernel
theorem dX5_sheet_2 : decode cX5_sheet 2 = .ok (.putfield 43, 3) := by decide +kernel
theorem dX5_sheet_5 : decode cX5_sheet 5 = .ok (.iload_n 1, 1) := by decide +kernel
theorem dX5_sheet_6 : decode cX5_sheet 6 = .ok (.invokestatic 47, 3) := by decide +kernel
theorem dX5_sheet_9 : decode cX5_sheet 9 = .ok (.ifCond .ne 5, 3) := by decide +kernel
theorem dX5_sheet_12 : decode cX5_sheet 12 = .ok (.iconst (-1), 1) := by decide +kernel
theorem dX5_sheet_13 : decode cX5_sheet 13 = .ok (.ireturn, 1) := by decide +kernel
theorem dX5_sheet_14 : decode cX5_sheet 14 = .ok (.iload_n 2, 1) := by decide +kernel
theorem dX5_sheet_15 : decode cX5_sheet 15 = .ok (.invokestatic 51, 3) := by decide +kernel
theorem dX5_sheet_18 : decode cX5_sheet 18 = .ok (.ifCond .eq 9, 3) := by decide +kernel
theorem dX5_sheet_21 : decode cX5_sheet 21 = .ok (.iload_n 3, 1) := by decide +kernel
theorem dX5_sheet_22 : decode cX5_sheet 22 = .ok (.bipush 60, 2) := by decide +kernel
theorem dX5_sheet_24 : decode cX5_sheet 24 = .ok (.if_icmp .le 6, 3) := by decide +kernel
theorem dX5_sheet_27 : decode cX5_sheet 27 = .ok (.bipush (-2), 2) := by decide +kernel
theorem dX5_sheet_29 : decode cX5_sheet 29 = .ok (.ireturn, 1) := by decide +kernel
theorem dX5_sheet_30 : decode cX5_sheet 30 = .ok (.iload_n 3, 1) := by decide +kernel
theorem dX5_sheet_31 : decode cX5_sheet 31 = .ok (.ifCond .ge 9, 3) := by decide +kernel
theorem dX5_sheet_34 : decode cX5_sheet 34 = .ok (.aload_n 0, 1) := by decide +kernel
theorem dX5_sheet_35 : decode cX5_sheet 35 = .ok (.iconst 4, 1) := by decide +kernel
theorem dX5_sheet_36 : decode cX5_sheet 36 = .ok (.invokevirtual 58, 3) := by decide +kernel
theorem dX5_sheet_39 : decode cX5_sheet 39 = .ok (.ireturn, 1) := by decide +kernel
theorem dX5_sheet_40 : decode cX5_sheet 40 = .ok (.aload_n 0, 1) := by decide +kernel
theorem dX5_sheet_41 : decode cX5_sheet 41 = .ok (.getfield 19, 3) := by decide +kernel
theorem dX5_sheet_44 : decode cX5_sheet 44 = .ok (.iload_n 1, 1) := by decide +kernel
theorem dX5_sheet_45 : decode cX5_sheet 45 = .ok (.aaload, 1) := by decide +kernel
theorem dX5_sheet_46 : decode cX5_sheet 46 = .ok (.iload_n 2, 1) := by decide +kernel
theorem dX5_sheet_47 : decode cX5_sheet 47 = .ok (.iload_n 3, 1) := by decide +kernel
theorem dX5_sheet_48 : decode cX5_sheet 48 = .ok (.invokevirtual 251, 3) := by decide +kernel
theorem dX5_sheet_51 : decode cX5_sheet 51 = .ok (.iconst 1, 1) := by decide +kernel
theorem dX5_sheet_52 : decode cX5_sheet 52 = .ok (.ireturn, 1) := by decide +kernel
def f_X5_sheet (x1 : Int32) (x2 : Int32) (x3 : Int32) (σ : St) : Option (Int32 × St) :=
  nm (wS σ 0 5 (0 : Int32)) fun σ_1 =>
  bd (f_X5_isSheet x1) fun r_2 =>
  if r_2 = 0 then (some ((-1 : Int32), σ_1))
  else bd (f_X5_isLane x2) fun r_5 =>
    if r_5 = 0 then (some ((-2 : Int32), σ_1))
    else if x3 ≤ (60 : Int32) then (if 0 ≤ x3 then (gd (ck x1 4) <|
        bd (f_X2_renew (Int32.toNatClampNeg x1) x2 x3 σ_1) fun σ_11 =>
        some ((1 : Int32), σ_11))
      else bd2 (f_X5_come (4 : Int32) σ_1) fun r_13 σ_14 =>
      some (r_13, σ_14))
    else some ((-2 : Int32), σ_1)
abbrev rmX5_sheet : Room := { frames := 2, cells := 0, slots := 0, locals := 46 }
set_option maxRecDepth 100000 in
set_option maxHeartbeats 4000000 in
theorem c_X5_sheet (l : Launch) (D : va_G) (a : Nat → Nat) (c : Nat → ClassId) (A : Nat → Prop) (hD : ∀ σ, va_D A (cW a c σ)) (x1 : Int32) (x2 : Int32) (x3 : Int32) (σ : St) (r : Int32) (u : St) (hf : f_X5_sheet x1 x2 x3 σ = some (r, u)) : MetI l yX5_sheet cX5_sheet 4 (some .int) rmX5_sheet (cW a c) D c A [.ref (a 0), .int x1, .int x2, .int x3] σ r u := by
  refine mkI (by decide) (Nat.le_of_ble_eq_true rfl) rfl ?_
  intro p e s m args below meth cd Q ls h0 hK hP hret hl
  obtain ⟨S, hr, hlk⟩ := h0
  obtain ⟨hx, hb, hml, hown, ht⟩ := id S
  have hS : va_S A s.heap s.heap [] := va_S.rf
  have hl : lv_has ls 4 [(0, .ref (a 0)), (1, .int x1), (2, .int x2), (3, .int x3)] := hl
  have hf := obs hf
  have hf := oun (f_X5_sheet.eq_1 _ _ _ _) hf
  refine lv_aload_n hx hb dX5_sheet_0 rfl (lv_at hl 0 rfl) ?_
  refine lv_iconst (v := (0 : Int32)) hx hb dX5_sheet_1 (by decide) ?_
  refine va_put (D := D) (ci := 3) (v := .int (0 : Int32)) (ty := .int) (C := RX5) (T := TX5) (N := 12) hx hb ht gX5 tyX5 tyX5_ok nmX5 hown hK.1 hP (hD σ) hS 0 (cw0 a c σ) rfl 11 (by decide) (ht _ q73) (fun _ h9 => h9) rfl (by decide +kernel) rfl rfl (Nat.le_of_ble_eq_true rfl) dX5_sheet_2 (fun H locs hP _ hS => ?_)
  have hP := vP_eq (cpX5_latestFault a c σ (0 : Int32)) hP
  obtain ⟨σ_1, eσ_1, hf⟩ := onm hf
  rw [eσ_1] at hP
  refine lv_iload_n hx hb dX5_sheet_5 rfl (lv_at hl 1 rfl) ?_
  obtain ⟨r_2, h_3, hf⟩ := obd hf
  refine xs_S (As := [.int x1]) (rest := []) S k_X5_isSheet q75 q76 ⟨Nat.le_of_ble_eq_true rfl, Nat.le_of_ble_eq_true rfl⟩ ⟨rfl, rfl⟩ (c_X5_isSheet l x1 r_2 h_3) hK.2 rfl hl.1 rfl (Nat.le_of_ble_eq_true rfl) dX5_sheet_6 ⟨Nat.zero_le _, Nat.zero_le _⟩ ?_
  refine lv_if_ne (tgt := 14) hx hb dX5_sheet_9 (by decide) (fun c_4 => ?_) (fun c_4 => ?_)
  · have hf := oif c_4 hf
    refine lv_iload_n hx hb dX5_sheet_14 rfl (lv_at hl 2 rfl) ?_
    obtain ⟨r_5, h_6, hf⟩ := obd hf
    refine xs_S (As := [.int x2]) (rest := []) S k_X5_isLane q78 q79 ⟨Nat.le_of_ble_eq_true rfl, Nat.le_of_ble_eq_true rfl⟩ ⟨rfl, rfl⟩ (c_X5_isLane l x2 r_5 h_6) hK.2 rfl hl.1 rfl (Nat.le_of_ble_eq_true rfl) dX5_sheet_15 ⟨Nat.zero_le _, Nat.zero_le _⟩ ?_
    refine lv_if_eq (tgt := 27) hx hb dX5_sheet_18 (by decide) (fun c_7 => ?_) (fun c_7 => ?_)
    · have hf := oit c_7 hf
      refine lv_bipush (v := (-2 : Int32)) hx hb dX5_sheet_27 (by decide) ?_
      exact hret _ _ _ _ _ _ dX5_sheet_29 rfl hP hS (oret hf)
    have hf := oif c_7 hf
    refine lv_iload_n hx hb dX5_sheet_21 rfl (lv_at hl 3 rfl) ?_
    refine lv_bipush (v := (60 : Int32)) hx hb dX5_sheet_22 (by decide) ?_
    refine lv_icmp_le (tgt := 30) hx hb dX5_sheet_24 (by decide) (fun c_8 => ?_) (fun c_8 => ?_)
    · have hf := oit c_8 hf
      refine lv_iload_n hx hb dX5_sheet_30 rfl (lv_at hl 3 rfl) ?_
      refine lv_if_ge (tgt := 40) hx hb dX5_sheet_31 (by decide) (fun c_9 => ?_) (fun c_9 => ?_)
      · have hf := oit c_9 hf
        refine lv_aload_n hx hb dX5_sheet_40 rfl (lv_at hl 0 rfl) ?_
        refine va_get (D := D) (ci := 3) (v := .ref (a 2)) (C := RX5) (T := TX5) (N := 12) hx hb ht gX5 hown hK.1 hP 0 (cw0 a c σ_1) rfl 1 (by decide) (ht _ q15) (fun _ h9 => h9) rfl dX5_sheet_41 ?_
        refine lv_iload_n hx hb dX5_sheet_44 rfl (lv_at hl 1 rfl) ?_
        obtain ⟨g_10, hf⟩ := ogd hf
        refine va_aldq hx hb hK.1 hP 2 4 (cw2 a c σ_1) rfl (ck_in g_10) dX5_sheet_45 ?_
        refine W.eq (g2 := F0 m 46 ls [.ref (a (15 + (Int32.toNatClampNeg x1)))]) rfl ?_
        refine lv_iload_n hx hb dX5_sheet_46 rfl (lv_at hl 2 rfl) ?_
        refine lv_iload_n hx hb dX5_sheet_47 rfl (lv_at hl 3 rfl) ?_
        obtain ⟨σ_11, h_12, hf⟩ := obd hf
        refine xv_V (As := [.int x2, .int x3]) (rest := []) S k_X2_renew q612 q613 q614 ⟨Nat.le_of_ble_eq_true rfl, Nat.le_of_ble_eq_true rfl⟩ ⟨rfl, rfl⟩ (c_X2_renew l D a c A hD (Int32.toNatClampNeg x1) x2 x3 σ_1 (ck_lt g_10) σ_11 h_12) hK hP hS (va_recv hK.1 hP (rfl : vwCl[2]? = some (RX2, TX2, 3)) (cwX2 a c σ_1 (Int32.toNatClampNeg x1) (ck_lt g_10))) rfl hl.1 rfl (Nat.le_of_ble_eq_true rfl) dX5_sheet_48 ⟨Nat.zero_le _, Nat.zero_le _⟩ (fun H locs hP hS => ?_)
        refine lv_iconst (v := (1 : Int32)) hx hb dX5_sheet_51 (by decide) ?_
        exact hret _ _ _ _ _ _ dX5_sheet_52 rfl hP hS (oret hf)
      have hf := oif c_9 hf
      refine lv_aload_n hx hb dX5_sheet_34 rfl (lv_at hl 0 rfl) ?_
      refine lv_iconst (v := (4 : Int32)) hx hb dX5_sheet_35 (by decide) ?_
      obtain ⟨r_13, σ_14, h_15, hf⟩ := obd2 hf
      refine xv_I (As := [.int (4 : Int32)]) (rest := []) S k_X5_come q94 q95 q96 ⟨Nat.le_of_ble_eq_true rfl, Nat.le_of_ble_eq_true rfl⟩ ⟨rfl, rfl⟩ (c_X5_come l D a c A hD (4 : Int32) σ_1 r_13 σ_14 h_15) hK hP hS (va_recv hK.1 hP (rfl : vwCl[3]? = some (RX5, TX5, 12)) (cw0 a c σ_1)) rfl hl.1 rfl (Nat.le_of_ble_eq_true rfl) dX5_sheet_36 ⟨Nat.zero_le _, Nat.zero_le _⟩ (fun H locs hP hS => ?_)
      exact hret _ _ _ _ _ _ dX5_sheet_39 rfl hP hS (oret hf)
    have hf := oif c_8 hf
    refine lv_bipush (v := (-2 : Int32)) hx hb dX5_sheet_27 (by decide) ?_
    exact hret _ _ _ _ _ _ dX5_sheet_29 rfl hP hS (oret hf)
  have hf := oit c_4 hf
  refine lv_iconst (v := (-1 : Int32)) hx hb dX5_sheet_12 (by decide) ?_
  exact hret _ _ _ _ _ _ dX5_sheet_13 rfl hP hS (oret hf)
theorem dX5_lose_0 : decode cX5_lose 0 = .ok (.iload_n 1, 1) := by decide +kernel
theorem dX5_lose_1 : decode cX5_lose 1 = .ok (.invokestatic 47, 3) := by decide +kernel
theorem dX5_lose_4 : decode cX5_lose 4 = .ok (.ifCond .ne 5, 3) := by decide +kernel
theorem dX5_lose_7 : decode cX5_lose 7 = .ok (.iconst (-1), 1) := by decide +kernel
theorem dX5_lose_8 : decode cX5_lose 8 = .ok (.ireturn, 1) := by decide +kernel
theorem dX5_lose_9 : decode cX5_lose 9 = .ok (.aload_n 0, 1) := by decide +kernel
theorem dX5_lose_10 : decode cX5_lose 10 = .ok (.getfield 19, 3) := by decide +kernel
theorem dX5_lose_13 : decode cX5_lose 13 = .ok (.iload_n 1, 1) := by decide +kernel
theorem dX5_lose_14 : decode cX5_lose 14 = .ok (.aaload, 1) := by decide +kernel
theorem dX5_lose_15 : decode cX5_lose 15 = .ok (.invokevirtual 255, 3) := by decide +kernel
theorem dX5_lose_18 : decode cX5_lose 18 = .ok (.ifCond .eq 5, 3) := by decide +kernel
theorem dX5_lose_21 : decode cX5_lose 21 = .ok (.iconst 0, 1) := by decide +kernel
theorem dX5_lose_22 : decode cX5_lose 22 = .ok (.ireturn, 1) := by decide +kernel
theorem dX5_lose_23 : decode cX5_lose 23 = .ok (.aload_n 0, 1) := by decide +kernel
theorem dX5_lose_24 : decode cX5_lose 24 = .ok (.getfield 19, 3) := by decide +kernel
theorem dX5_lose_27 : decode cX5_lose 27 = .ok (.iload_n 1, 1) := by decide +kernel
theorem dX5_lose_28 : decode cX5_lose 28 = .ok (.aaload, 1) := by decide +kernel
theorem dX5_lose_29 : decode cX5_lose 29 = .ok (.invokevirtual 258, 3) := by decide +kernel
theorem dX5_lose_32 : decode cX5_lose 32 = .ok (.iconst 1, 1) := by decide +kernel
theorem dX5_lose_33 : decode cX5_lose 33 = .ok (.ireturn, 1) := by decide +kernel
def f_X5_lose (x1 : Int32) (σ : St) : Option (Int32 × St) :=
  bd (f_X5_isSheet x1) fun r_1 =>
  if r_1 = 0 then (some ((-1 : Int32), σ))
  else gd (ck x1 4) <|
    bd (f_X2_hasNothing (Int32.toNatClampNeg x1) σ) fun r_5 =>
    if r_5 = 0 then (gd (ck x1 4) <|
      bd (f_X2_clear (Int32.toNatClampNeg x1) σ) fun σ_9 =>
      some ((1 : Int32), σ_9))
    else some ((0 : Int32), σ)
abbrev rmX5_lose : Room := { frames := 1, cells := 0, slots := 0, locals := 20 }
set_option maxRecDepth 100000 in
set_option maxHeartbeats 4000000 in
theorem c_X5_lose (l : Launch) (D : va_G) (a : Nat → Nat) (c : Nat → ClassId) (A : Nat → Prop) (hD : ∀ σ, va_D A (cW a c σ)) (x1 : Int32) (σ : St) (r : Int32) (u : St) (hf : f_X5_lose x1 σ = some (r, u)) : MetI l yX5_lose cX5_lose 2 (some .int) rmX5_lose (cW a c) D c A [.ref (a 0), .int x1] σ r u := by
  refine mkI (by decide) (Nat.le_of_ble_eq_true rfl) rfl ?_
  intro p e s m args below meth cd Q ls h0 hK hP hret hl
  obtain ⟨S, hr, hlk⟩ := h0
  obtain ⟨hx, hb, hml, hown, ht⟩ := id S
  have hS : va_S A s.heap s.heap [] := va_S.rf
  have hl : lv_has ls 2 [(0, .ref (a 0)), (1, .int x1)] := hl
  have hf := obs hf
  have hf := oun (f_X5_lose.eq_1 _ _) hf
  refine lv_iload_n hx hb dX5_lose_0 rfl (lv_at hl 1 rfl) ?_
  obtain ⟨r_1, h_2, hf⟩ := obd hf
  refine xs_S (As := [.int x1]) (rest := []) S k_X5_isSheet q75 q76 ⟨Nat.le_of_ble_eq_true rfl, Nat.le_of_ble_eq_true rfl⟩ ⟨rfl, rfl⟩ (c_X5_isSheet l x1 r_1 h_2) hK.2 rfl hl.1 rfl (Nat.le_of_ble_eq_true rfl) dX5_lose_1 ⟨Nat.zero_le _, Nat.zero_le _⟩ ?_
  refine lv_if_ne (tgt := 9) hx hb dX5_lose_4 (by decide) (fun c_3 => ?_) (fun c_3 => ?_)
  · have hf := oif c_3 hf
    refine lv_aload_n hx hb dX5_lose_9 rfl (lv_at hl 0 rfl) ?_
    refine va_get (D := D) (ci := 3) (v := .ref (a 2)) (C := RX5) (T := TX5) (N := 12) hx hb ht gX5 hown hK.1 hP 0 (cw0 a c σ) rfl 1 (by decide) (ht _ q15) (fun _ h9 => h9) rfl dX5_lose_10 ?_
    refine lv_iload_n hx hb dX5_lose_13 rfl (lv_at hl 1 rfl) ?_
    obtain ⟨g_4, hf⟩ := ogd hf
    refine va_aldq hx hb hK.1 hP 2 4 (cw2 a c σ) rfl (ck_in g_4) dX5_lose_14 ?_
    refine W.eq (g2 := F0 m 15 ls [.ref (a (15 + (Int32.toNatClampNeg x1)))]) rfl ?_
    obtain ⟨r_5, h_6, hf⟩ := obd hf
    refine xv_I (As := []) (rest := []) S k_X2_hasNothing q629 q86 q87 ⟨Nat.le_of_ble_eq_true rfl, Nat.le_of_ble_eq_true rfl⟩ ⟨rfl, rfl⟩ (c_X2_hasNothing l D a c A hD (Int32.toNatClampNeg x1) σ (ck_lt g_4) r_5 h_6) hK hP hS (va_recv hK.1 hP (rfl : vwCl[2]? = some (RX2, TX2, 3)) (cwX2 a c σ (Int32.toNatClampNeg x1) (ck_lt g_4))) rfl hl.1 rfl (Nat.le_of_ble_eq_true rfl) dX5_lose_15 ⟨Nat.zero_le _, Nat.zero_le _⟩ (fun H locs hP hS => ?_)
    refine lv_if_eq (tgt := 23) hx hb dX5_lose_18 (by decide) (fun c_7 => ?_) (fun c_7 => ?_)
    · have hf := oit c_7 hf
      refine lv_aload_n hx hb dX5_lose_23 rfl (lv_at hl 0 rfl) ?_
      refine va_get (D := D) (ci := 3) (v := .ref (a 2)) (C := RX5) (T := TX5) (N := 12) hx hb ht gX5 hown hK.1 hP 0 (cw0 a c σ) rfl 1 (by decide) (ht _ q15) (fun _ h9 => h9) rfl dX5_lose_24 ?_
      refine lv_iload_n hx hb dX5_lose_27 rfl (lv_at hl 1 rfl) ?_
      obtain ⟨g_8, hf⟩ := ogd hf
      refine va_aldq hx hb hK.1 hP 2 4 (cw2 a c σ) rfl (ck_in g_8) dX5_lose_28 ?_
      refine W.eq (g2 := F0 m 29 ls [.ref (a (15 + (Int32.toNatClampNeg x1)))]) rfl ?_
      obtain ⟨σ_9, h_10, hf⟩ := obd hf
      refine xv_V (As := []) (rest := []) S k_X2_clear q630 q631 q632 ⟨Nat.le_of_ble_eq_true rfl, Nat.le_of_ble_eq_true rfl⟩ ⟨rfl, rfl⟩ (c_X2_clear l D a c A hD (Int32.toNatClampNeg x1) σ (ck_lt g_8) σ_9 h_10) hK hP hS (va_recv hK.1 hP (rfl : vwCl[2]? = some (RX2, TX2, 3)) (cwX2 a c σ (Int32.toNatClampNeg x1) (ck_lt g_8))) rfl hl.1 rfl (Nat.le_of_ble_eq_true rfl) dX5_lose_29 ⟨Nat.zero_le _, Nat.zero_le _⟩ (fun H locs hP hS => ?_)
      refine lv_iconst (v := (1 : Int32)) hx hb dX5_lose_32 (by decide) ?_
      exact hret _ _ _ _ _ _ dX5_lose_33 rfl hP hS (oret hf)
    have hf := oif c_7 hf
    refine lv_iconst (v := (0 : Int32)) hx hb dX5_lose_21 (by decide) ?_
    exact hret _ _ _ _ _ _ dX5_lose_22 rfl hP hS (oret hf)
  have hf := oit c_3 hf
  refine lv_iconst (v := (-1 : Int32)) hx hb dX5_lose_7 (by decide) ?_
  exact hret _ _ _ _ _ _ dX5_lose_8 rfl hP hS (oret hf)
theorem dX5_put_0 : decode cX5_put 0 = .ok (.aload_n 0, 1) := by decide +kernel
theorem dX5_put_1 : decode cX5_put 1 = .ok (.iconst 0, 1) := by decide +kernel
theorem dX5_put_2 : decode cX5_put 2 = .ok (.putfield 43, 3) := by decide +kernel
theorem dX5_put_5 : decode cX5_put 5 = .ok (.iload_n 1, 1) := by decide +kernel
theorem dX5_put_6 : decode cX5_put 6 = .ok (.invokestatic 47, 3) := by decide +kernel
theorem dX5_put_9 : decode cX5_put 9 = .ok (.ifCond .ne 5, 3) := by decide +kernel
theorem dX5_put_12 : decode cX5_put 12 = .ok (.iconst (-1), 1) := by decide +kernel
theorem dX5_put_13 : decode cX5_put 13 = .ok (.ireturn, 1) := by decide +kernel
theorem dX5_put_14 : decode cX5_put 14 = .ok (.aload_n 0, 1) := by decide +kernel
theorem dX5_put_15 : decode cX5_put 15 = .ok (.getfield 19, 3) := by decide +kernel
theorem dX5_put_18 : decode cX5_put 18 = .ok (.iload_n 1, 1) := by decide +kernel
theorem dX5_put_19 : decode cX5_put 19 = .ok (.aaload, 1) := by decide +kernel
theorem dX5_put_20 : decode cX5_put 20 = .ok (.invokevirtual 255, 3) := by decide +kernel
theorem dX5_put_23 : decode cX5_put 23 = .ok (.ifCond .eq 9, 3) := by decide +kernel
theorem dX5_put_26 : decode cX5_put 26 = .ok (.aload_n 0, 1) := by decide +kernel
theorem dX5_put_27 : decode cX5_put 27 = .ok (.iconst 1, 1) := by decide +kernel
theorem dX5_put_28 : decode cX5_put 28 = .ok (.invokevirtual 58, 3) := by decide +kernel
theorem dX5_put_31 : decode cX5_put 31 = .ok (.ireturn, 1) := by decide +kernel
theorem dX5_put_32 : decode cX5_put 32 = .ok (.aload_n 0, 1) := by decide +kernel
theorem dX5_put_33 : decode cX5_put 33 = .ok (.getfield 19, 3) := by decide +kernel
theorem dX5_put_36 : decode cX5_put 36 = .ok (.iload_n 1, 1) := by decide +kernel
theorem dX5_put_37 : decode cX5_put 37 = .ok (.aaload, 1) := by decide +kernel
theorem dX5_put_38 : decode cX5_put 38 = .ok (.iload_n 2, 1) := by decide +kernel
theorem dX5_put_39 : decode cX5_put 39 = .ok (.iconst 1, 1) := by decide +kernel
theorem dX5_put_40 : decode cX5_put 40 = .ok (.invokevirtual 261, 3) := by decide +kernel
theorem dX5_put_43 : decode cX5_put 43 = .ok (.ifCond .ne 9, 3) := by decide +kernel
theorem dX5_put_46 : decode cX5_put 46 = .ok (.aload_n 0, 1) := by decide +kernel
theorem dX5_put_47 : decode cX5_put 47 = .ok (.iconst 3, 1) := by decide +kernel
theorem dX5_put_48 : decode cX5_put 48 = .ok (.invokevirtual 58, 3) := by decide +kernel
theorem dX5_put_51 : decode cX5_put 51 = .ok (.ireturn, 1) := by decide +kernel
theorem dX5_put_52 : decode cX5_put 52 = .ok (.aload_n 0, 1) := by decide +kernel
theorem dX5_put_53 : decode cX5_put 53 = .ok (.getfield 19, 3) := by decide +kernel
theorem dX5_put_56 : decode cX5_put 56 = .ok (.iload_n 1, 1) := by decide +kernel
theorem dX5_put_57 : decode cX5_put 57 = .ok (.aaload, 1) := by decide +kernel
theorem dX5_put_58 : decode cX5_put 58 = .ok (.iload_n 2, 1) := by decide +kernel
theorem dX5_put_59 : decode cX5_put 59 = .ok (.iload_n 3, 1) := by decide +kernel
theorem dX5_put_60 : decode cX5_put 60 = .ok (.invokevirtual 264, 3) := by decide +kernel
theorem dX5_put_63 : decode cX5_put 63 = .ok (.iconst 1, 1) := by decide +kernel
theorem dX5_put_64 : decode cX5_put 64 = .ok (.ireturn, 1) := by decide +kernel
def f_X5_put (x1 : Int32) (x2 : Int32) (x3 : Int32) (σ : St) : Option (Int32 × St) :=
  nm (wS σ 0 5 (0 : Int32)) fun σ_1 =>
  bd (f_X5_isSheet x1) fun r_2 =>
  if r_2 = 0 then (some ((-1 : Int32), σ_1))
  else gd (ck x1 4) <|
    bd (f_X2_hasNothing (Int32.toNatClampNeg x1) σ_1) fun r_6 =>
    if r_6 = 0 then (gd (ck x1 4) <|
      bd (f_X2_hasCells (Int32.toNatClampNeg x1) x2 (1 : Int32) σ_1) fun r_10 =>
      if r_10 = 0 then (bd2 (f_X5_come (3 : Int32) σ_1) fun r_16 σ_17 =>
        some (r_16, σ_17))
      else gd (ck x1 4) <|
        bd (f_X2_write (Int32.toNatClampNeg x1) x2 x3 σ_1) fun σ_14 =>
        some ((1 : Int32), σ_14))
    else bd2 (f_X5_come (1 : Int32) σ_1) fun r_19 σ_20 =>
    some (r_19, σ_20)
abbrev rmX5_put : Room := { frames := 2, cells := 0, slots := 0, locals := 43 }
set_option maxRecDepth 100000 in
set_option maxHeartbeats 4000000 in
theorem c_X5_put (l : Launch) (D : va_G) (a : Nat → Nat) (c : Nat → ClassId) (A : Nat → Prop) (hD : ∀ σ, va_D A (cW a c σ)) (x1 : Int32) (x2 : Int32) (x3 : Int32) (σ : St) (r : Int32) (u : St) (hf : f_X5_put x1 x2 x3 σ = some (r, u)) : MetI l yX5_put cX5_put 4 (some .int) rmX5_put (cW a c) D c A [.ref (a 0), .int x1, .int x2, .int x3] σ r u := by
  refine mkI (by decide) (Nat.le_of_ble_eq_true rfl) rfl ?_
  intro p e s m args below meth cd Q ls h0 hK hP hret hl
  obtain ⟨S, hr, hlk⟩ := h0
  obtain ⟨hx, hb, hml, hown, ht⟩ := id S
  have hS : va_S A s.heap s.heap [] := va_S.rf
  have hl : lv_has ls 4 [(0, .ref (a 0)), (1, .int x1), (2, .int x2), (3, .int x3)] := hl
  have hf := obs hf
  have hf := oun (f_X5_put.eq_1 _ _ _ _) hf
  refine lv_aload_n hx hb dX5_put_0 rfl (lv_at hl 0 rfl) ?_
  refine lv_iconst (v := (0 : Int32)) hx hb dX5_put_1 (by decide) ?_
  refine va_put (D := D) (ci := 3) (v := .int (0 : Int32)) (ty := .int) (C := RX5) (T := TX5) (N := 12) hx hb ht gX5 tyX5 tyX5_ok nmX5 hown hK.1 hP (hD σ) hS 0 (cw0 a c σ) rfl 11 (by decide) (ht _ q73) (fun _ h9 => h9) rfl (by decide +kernel) rfl rfl (Nat.le_of_ble_eq_true rfl) dX5_put_2 (fun H locs hP _ hS => ?_)
  have hP := vP_eq (cpX5_latestFault a c σ (0 : Int32)) hP
  obtain ⟨σ_1, eσ_1, hf⟩ := onm hf
  rw [eσ_1] at hP
  refine lv_iload_n hx hb dX5_put_5 rfl (lv_at hl 1 rfl) ?_
  obtain ⟨r_2, h_3, hf⟩ := obd hf
  refine xs_S (As := [.int x1]) (rest := []) S k_X5_isSheet q75 q76 ⟨Nat.le_of_ble_eq_true rfl, Nat.le_of_ble_eq_true rfl⟩ ⟨rfl, rfl⟩ (c_X5_isSheet l x1 r_2 h_3) hK.2 rfl hl.1 rfl (Nat.le_of_ble_eq_true rfl) dX5_put_6 ⟨Nat.zero_le _, Nat.zero_le _⟩ ?_
  refine lv_if_ne (tgt := 14) hx hb dX5_put_9 (by decide) (fun c_4 => ?_) (fun c_4 => ?_)
  · have hf := oif c_4 hf
    refine lv_aload_n hx hb dX5_put_14 rfl (lv_at hl 0 rfl) ?_
    refine va_get (D := D) (ci := 3) (v := .ref (a 2)) (C := RX5) (T := TX5) (N := 12) hx hb ht gX5 hown hK.1 hP 0 (cw0 a c σ_1) rfl 1 (by decide) (ht _ q15) (fun _ h9 => h9) rfl dX5_put_15 ?_
    refine lv_iload_n hx hb dX5_put_18 rfl (lv_at hl 1 rfl) ?_
    obtain ⟨g_5, hf⟩ := ogd hf
    refine va_aldq hx hb hK.1 hP 2 4 (cw2 a c σ_1) rfl (ck_in g_5) dX5_put_19 ?_
    refine W.eq (g2 := F0 m 20 ls [.ref (a (15 + (Int32.toNatClampNeg x1)))]) rfl ?_
    obtain ⟨r_6, h_7, hf⟩ := obd hf
    refine xv_I (As := []) (rest := []) S k_X2_hasNothing q629 q86 q87 ⟨Nat.le_of_ble_eq_true rfl, Nat.le_of_ble_eq_true rfl⟩ ⟨rfl, rfl⟩ (c_X2_hasNothing l D a c A hD (Int32.toNatClampNeg x1) σ_1 (ck_lt g_5) r_6 h_7) hK hP hS (va_recv hK.1 hP (rfl : vwCl[2]? = some (RX2, TX2, 3)) (cwX2 a c σ_1 (Int32.toNatClampNeg x1) (ck_lt g_5))) rfl hl.1 rfl (Nat.le_of_ble_eq_true rfl) dX5_put_20 ⟨Nat.zero_le _, Nat.zero_le _⟩ (fun H locs hP hS => ?_)
    refine lv_if_eq (tgt := 32) hx hb dX5_put_23 (by decide) (fun c_8 => ?_) (fun c_8 => ?_)
    · have hf := oit c_8 hf
      refine lv_aload_n hx hb dX5_put_32 rfl (lv_at hl 0 rfl) ?_
      refine va_get (D := D) (ci := 3) (v := .ref (a 2)) (C := RX5) (T := TX5) (N := 12) hx hb ht gX5 hown hK.1 hP 0 (cw0 a c σ_1) rfl 1 (by decide) (ht _ q15) (fun _ h9 => h9) rfl dX5_put_33 ?_
      refine lv_iload_n hx hb dX5_put_36 rfl (lv_at hl 1 rfl) ?_
      obtain ⟨g_9, hf⟩ := ogd hf
      refine va_aldq hx hb hK.1 hP 2 4 (cw2 a c σ_1) rfl (ck_in g_9) dX5_put_37 ?_
      refine W.eq (g2 := F0 m 38 ls [.ref (a (15 + (Int32.toNatClampNeg x1)))]) rfl ?_
      refine lv_iload_n hx hb dX5_put_38 rfl (lv_at hl 2 rfl) ?_
      refine lv_iconst (v := (1 : Int32)) hx hb dX5_put_39 (by decide) ?_
      obtain ⟨r_10, h_11, hf⟩ := obd hf
      refine xv_I (As := [.int x2, .int (1 : Int32)]) (rest := []) S k_X2_hasCells q642 q90 q91 ⟨Nat.le_of_ble_eq_true rfl, Nat.le_of_ble_eq_true rfl⟩ ⟨rfl, rfl⟩ (c_X2_hasCells l D a c A hD (Int32.toNatClampNeg x1) x2 (1 : Int32) σ_1 (ck_lt g_9) r_10 h_11) hK hP hS (va_recv hK.1 hP (rfl : vwCl[2]? = some (RX2, TX2, 3)) (cwX2 a c σ_1 (Int32.toNatClampNeg x1) (ck_lt g_9))) rfl hl.1 rfl (Nat.le_of_ble_eq_true rfl) dX5_put_40 ⟨Nat.zero_le _, Nat.zero_le _⟩ (fun H locs hP hS => ?_)
      refine lv_if_ne (tgt := 52) hx hb dX5_put_43 (by decide) (fun c_12 => ?_) (fun c_12 => ?_)
      · have hf := oif c_12 hf
        refine lv_aload_n hx hb dX5_put_52 rfl (lv_at hl 0 rfl) ?_
        refine va_get (D := D) (ci := 3) (v := .ref (a 2)) (C := RX5) (T := TX5) (N := 12) hx hb ht gX5 hown hK.1 hP 0 (cw0 a c σ_1) rfl 1 (by decide) (ht _ q15) (fun _ h9 => h9) rfl dX5_put_53 ?_
        refine lv_iload_n hx hb dX5_put_56 rfl (lv_at hl 1 rfl) ?_
        obtain ⟨g_13, hf⟩ := ogd hf
        refine va_aldq hx hb hK.1 hP 2 4 (cw2 a c σ_1) rfl (ck_in g_13) dX5_put_57 ?_
        refine W.eq (g2 := F0 m 58 ls [.ref (a (15 + (Int32.toNatClampNeg x1)))]) rfl ?_
        refine lv_iload_n hx hb dX5_put_58 rfl (lv_at hl 2 rfl) ?_
        refine lv_iload_n hx hb dX5_put_59 rfl (lv_at hl 3 rfl) ?_
        obtain ⟨σ_14, h_15, hf⟩ := obd hf
        refine xv_V (As := [.int x2, .int x3]) (rest := []) S k_X2_write q643 q644 q645 ⟨Nat.le_of_ble_eq_true rfl, Nat.le_of_ble_eq_true rfl⟩ ⟨rfl, rfl⟩ (c_X2_write l D a c A hD (Int32.toNatClampNeg x1) x2 x3 σ_1 (ck_lt g_13) σ_14 h_15) hK hP hS (va_recv hK.1 hP (rfl : vwCl[2]? = some (RX2, TX2, 3)) (cwX2 a c σ_1 (Int32.toNatClampNeg x1) (ck_lt g_13))) rfl hl.1 rfl (Nat.le_of_ble_eq_true rfl) dX5_put_60 ⟨Nat.zero_le _, Nat.zero_le _⟩ (fun H locs hP hS => ?_)
        refine lv_iconst (v := (1 : Int32)) hx hb dX5_put_63 (by decide) ?_
        exact hret _ _ _ _ _ _ dX5_put_64 rfl hP hS (oret hf)
      have hf := oit c_12 hf
      refine lv_aload_n hx hb dX5_put_46 rfl (lv_at hl 0 rfl) ?_
      refine lv_iconst (v := (3 : Int32)) hx hb dX5_put_47 (by decide) ?_
      obtain ⟨r_16, σ_17, h_18, hf⟩ := obd2 hf
      refine xv_I (As := [.int (3 : Int32)]) (rest := []) S k_X5_come q94 q95 q96 ⟨Nat.le_of_ble_eq_true rfl, Nat.le_of_ble_eq_true rfl⟩ ⟨rfl, rfl⟩ (c_X5_come l D a c A hD (3 : Int32) σ_1 r_16 σ_17 h_18) hK hP hS (va_recv hK.1 hP (rfl : vwCl[3]? = some (RX5, TX5, 12)) (cw0 a c σ_1)) rfl hl.1 rfl (Nat.le_of_ble_eq_true rfl) dX5_put_48 ⟨Nat.zero_le _, Nat.zero_le _⟩ (fun H locs hP hS => ?_)
      exact hret _ _ _ _ _ _ dX5_put_51 rfl hP hS (oret hf)
    have hf := oif c_8 hf
    refine lv_aload_n hx hb dX5_put_26 rfl (lv_at hl 0 rfl) ?_
    refine lv_iconst (v := (1 : Int32)) hx hb dX5_put_27 (by decide) ?_
    obtain ⟨r_19, σ_20, h_21, hf⟩ := obd2 hf
    refine xv_I (As := [.int (1 : Int32)]) (rest := []) S k_X5_come q94 q95 q96 ⟨Nat.le_of_ble_eq_true rfl, Nat.le_of_ble_eq_true rfl⟩ ⟨rfl, rfl⟩ (c_X5_come l D a c A hD (1 : Int32) σ_1 r_19 σ_20 h_21) hK hP hS (va_recv hK.1 hP (rfl : vwCl[3]? = some (RX5, TX5, 12)) (cw0 a c σ_1)) rfl hl.1 rfl (Nat.le_of_ble_eq_true rfl) dX5_put_28 ⟨Nat.zero_le _, Nat.zero_le _⟩ (fun H locs hP hS => ?_)
    exact hret _ _ _ _ _ _ dX5_put_31 rfl hP hS (oret hf)
  have hf := oit c_4 hf
  refine lv_iconst (v := (-1 : Int32)) hx hb dX5_put_12 (by decide) ?_
  exact hret _ _ _ _ _ _ dX5_put_13 rfl hP hS (oret hf)
theorem dX5_cell_0 : decode cX5_cell 0 = .ok (.aload_n 0, 1) := by decide +kernel
theorem dX5_cell_1 : decode cX5_cell 1 = .ok (.iconst 0, 1) := by decide +kernel
theorem dX5_cell_2 : decode cX5_cell 2 = .ok (.putfield 43, 3) := by decide +kernel
theorem dX5_cell_5 : decode cX5_cell 5 = .ok (.iload_n 1, 1) := by decide +kernel
theorem dX5_cell_6 : decode cX5_cell 6 = .ok (.invokestatic 47, 3) := by decide +kernel
theorem dX5_cell_9 : decode cX5_cell 9 = .ok (.ifCond .eq 10, 3) := by decide +kernel
theorem dX5_cell_12 : decode cX5_cell 12 = .ok (.iload_n 3, 1) := by decide +kernel
theorem dX5_cell_13 : decode cX5_cell 13 = .ok (.invokestatic 51, 3) := by decide +kernel
theorem dX5_cell_16 : decode cX5_cell 16 = .ok (.ifCond .ne 7, 3) := by decide +kernel
theorem dX5_cell_19 : decode cX5_cell 19 = .ok (.ldc2_w 246, 3) := by decide +kernel
theorem dX5_cell_22 : decode cX5_cell 22 = .ok (.lreturn, 1) := by decide +kernel
theorem dX5_cell_23 : decode cX5_cell 23 = .ok (.aload_n 0, 1) := by decide +kernel
theorem dX5_cell_24 : decode cX5_cell 24 = .ok (.aload_n 0, 1) := by decide +kernel
theorem dX5_cell_25 : decode cX5_cell 25 = .ok (.getfield 19, 3) := by decide +kernel
theorem dX5_cell_28 : decode cX5_cell 28 = .ok (.iload_n 1, 1) := by decide +kernel
theorem dX5_cell_29 : decode cX5_cell 29 = .ok (.aaload, 1) := by decide +kernel
theorem dX5_cell_30 : decode cX5_cell 30 = .ok (.iload_n 3, 1) := by decide +kernel
theorem dX5_cell_31 : decode cX5_cell 31 = .ok (.iload_n 2, 1) := by decide +kernel
theorem dX5_cell_32 : decode cX5_cell 32 = .ok (.iconst 1, 1) := by decide +kernel
theorem dX5_cell_33 : decode cX5_cell 33 = .ok (.invokevirtual 54, 3) := by decide +kernel
theorem dX5_cell_36 : decode cX5_cell 36 = .ok (.putfield 43, 3) := by decide +kernel
theorem dX5_cell_39 : decode cX5_cell 39 = .ok (.aload_n 0, 1) := by decide +kernel
theorem dX5_cell_40 : decode cX5_cell 40 = .ok (.getfield 43, 3) := by decide +kernel
theorem dX5_cell_43 : decode cX5_cell 43 = .ok (.ifCond .ne 17, 3) := by decide +kernel
theorem dX5_cell_46 : decode cX5_cell 46 = .ok (.aload_n 0, 1) := by decide +kernel
theorem dX5_cell_47 : decode cX5_cell 47 = .ok (.getfield 19, 3) := by decide +kernel
theorem dX5_cell_50 : decode cX5_cell 50 = .ok (.iload_n 1, 1) := by decide +kernel
theorem dX5_cell_51 : decode cX5_cell 51 = .ok (.aaload, 1) := by decide +kernel
theorem dX5_cell_52 : decode cX5_cell 52 = .ok (.iload_n 2, 1) := by decide +kernel
theorem dX5_cell_53 : decode cX5_cell 53 = .ok (.invokevirtual 168, 3) := by decide +kernel
theorem dX5_cell_56 : decode cX5_cell 56 = .ok (.i2l, 1) := by decide +kernel
theorem dX5_cell_57 : decode cX5_cell 57 = .ok (.goto 6, 3) := by decide +kernel
theorem dX5_cell_60 : decode cX5_cell 60 = .ok (.ldc2_w 246, 3) := by decide +kernel
theorem dX5_cell_63 : decode cX5_cell 63 = .ok (.lreturn, 1) := by decide +kernel
def f_X5_cell (x1 : Int32) (x2 : Int32) (x3 : Int32) (σ : St) : Option (Int64 × St) :=
  nm (wS σ 0 5 (0 : Int32)) fun σ_1 =>
  bd (f_X5_isSheet x1) fun r_2 =>
  if r_2 = 0 then (some ((-9223372036854775808 : Int64), σ_1))
  else bd (f_X5_isLane x3) fun r_5 =>
  if r_5 = 0 then (some ((-9223372036854775808 : Int64), σ_1))
  else gd (ck x1 4) <|
    bd (f_X2_faultOf (Int32.toNatClampNeg x1) x3 x2 (1 : Int32) σ_1) fun r_9 =>
    nm (wS σ_1 0 5 r_9) fun σ_11 =>
    if (σ_11.1 0 5) = 0 then (gd (ck x1 4) <|
      bd (f_X2_at (Int32.toNatClampNeg x1) x2 σ_11) fun r_14 =>
      some ((Int32.toInt64 r_14), σ_11))
    else some ((-9223372036854775808 : Int64), σ_11)
abbrev rmX5_cell : Room := { frames := 2, cells := 0, slots := 0, locals := 45 }
set_option maxRecDepth 100000 in
set_option maxHeartbeats 4000000 in
theorem c_X5_cell (l : Launch) (D : va_G) (a : Nat → Nat) (c : Nat → ClassId) (A : Nat → Prop) (hD : ∀ σ, va_D A (cW a c σ)) (x1 : Int32) (x2 : Int32) (x3 : Int32) (σ : St) (r : Int64) (u : St) (hf : f_X5_cell x1 x2 x3 σ = some (r, u)) : MetL l yX5_cell cX5_cell 4 (some .long) rmX5_cell (cW a c) D c A [.ref (a 0), .int x1, .int x2, .int x3] σ r u := by
  refine mkL (by decide) (Nat.le_of_ble_eq_true rfl) rfl ?_
  intro p e s m args below meth cd Q ls h0 hK hP hret hl
  obtain ⟨S, hr, hlk⟩ := h0
  obtain ⟨hx, hb, hml, hown, ht⟩ := id S
  have hS : va_S A s.heap s.heap [] := va_S.rf
  have hl : lv_has ls 4 [(0, .ref (a 0)), (1, .int x1), (2, .int x2), (3, .int x3)] := hl
  have hf := obs hf
  have hf := oun (f_X5_cell.eq_1 _ _ _ _) hf
  refine lv_aload_n hx hb dX5_cell_0 rfl (lv_at hl 0 rfl) ?_
  refine lv_iconst (v := (0 : Int32)) hx hb dX5_cell_1 (by decide) ?_
  refine va_put (D := D) (ci := 3) (v := .int (0 : Int32)) (ty := .int) (C := RX5) (T := TX5) (N := 12) hx hb ht gX5 tyX5 tyX5_ok nmX5 hown hK.1 hP (hD σ) hS 0 (cw0 a c σ) rfl 11 (by decide) (ht _ q73) (fun _ h9 => h9) rfl (by decide +kernel) rfl rfl (Nat.le_of_ble_eq_true rfl) dX5_cell_2 (fun H locs hP _ hS => ?_)
  have hP := vP_eq (cpX5_latestFault a c σ (0 : Int32)) hP
  obtain ⟨σ_1, eσ_1, hf⟩ := onm hf
  rw [eσ_1] at hP
  refine lv_iload_n hx hb dX5_cell_5 rfl (lv_at hl 1 rfl) ?_
  obtain ⟨r_2, h_3, hf⟩ := obd hf
  refine xs_S (As := [.int x1]) (rest := []) S k_X5_isSheet q75 q76 ⟨Nat.le_of_ble_eq_true rfl, Nat.le_of_ble_eq_true rfl⟩ ⟨rfl, rfl⟩ (c_X5_isSheet l x1 r_2 h_3) hK.2 rfl hl.1 rfl (Nat.le_of_ble_eq_true rfl) dX5_cell_6 ⟨Nat.zero_le _, Nat.zero_le _⟩ ?_
  refine lv_if_eq (tgt := 19) hx hb dX5_cell_9 (by decide) (fun c_4 => ?_) (fun c_4 => ?_)
  · have hf := oit c_4 hf
    refine lv_ldc2 (v := (-9223372036854775808 : Int64)) hx hb hown (ht _ q596) dX5_cell_19 ?_
    exact hret _ _ _ _ _ _ dX5_cell_22 hP hS (oret hf)
  have hf := oif c_4 hf
  refine lv_iload_n hx hb dX5_cell_12 rfl (lv_at hl 3 rfl) ?_
  obtain ⟨r_5, h_6, hf⟩ := obd hf
  refine xs_S (As := [.int x3]) (rest := []) S k_X5_isLane q78 q79 ⟨Nat.le_of_ble_eq_true rfl, Nat.le_of_ble_eq_true rfl⟩ ⟨rfl, rfl⟩ (c_X5_isLane l x3 r_5 h_6) hK.2 rfl hl.1 rfl (Nat.le_of_ble_eq_true rfl) dX5_cell_13 ⟨Nat.zero_le _, Nat.zero_le _⟩ ?_
  refine lv_if_ne (tgt := 23) hx hb dX5_cell_16 (by decide) (fun c_7 => ?_) (fun c_7 => ?_)
  · have hf := oif c_7 hf
    refine lv_aload_n hx hb dX5_cell_23 rfl (lv_at hl 0 rfl) ?_
    refine lv_aload_n hx hb dX5_cell_24 rfl (lv_at hl 0 rfl) ?_
    refine va_get (D := D) (ci := 3) (v := .ref (a 2)) (C := RX5) (T := TX5) (N := 12) hx hb ht gX5 hown hK.1 hP 0 (cw0 a c σ_1) rfl 1 (by decide) (ht _ q15) (fun _ h9 => h9) rfl dX5_cell_25 ?_
    refine lv_iload_n hx hb dX5_cell_28 rfl (lv_at hl 1 rfl) ?_
    obtain ⟨g_8, hf⟩ := ogd hf
    refine va_aldq hx hb hK.1 hP 2 4 (cw2 a c σ_1) rfl (ck_in g_8) dX5_cell_29 ?_
    refine W.eq (g2 := F0 m 30 ls [.ref (a (15 + (Int32.toNatClampNeg x1))), .ref (a 0)]) rfl ?_
    refine lv_iload_n hx hb dX5_cell_30 rfl (lv_at hl 3 rfl) ?_
    refine lv_iload_n hx hb dX5_cell_31 rfl (lv_at hl 2 rfl) ?_
    refine lv_iconst (v := (1 : Int32)) hx hb dX5_cell_32 (by decide) ?_
    obtain ⟨r_9, h_10, hf⟩ := obd hf
    refine xv_I (As := [.int x3, .int x2, .int (1 : Int32)]) (rest := [.ref (a 0)]) S k_X2_faultOf q81 q82 q83 ⟨Nat.le_of_ble_eq_true rfl, Nat.le_of_ble_eq_true rfl⟩ ⟨rfl, rfl⟩ (c_X2_faultOf l D a c A hD (Int32.toNatClampNeg x1) x3 x2 (1 : Int32) σ_1 (ck_lt g_8) r_9 h_10) hK hP hS (va_recv hK.1 hP (rfl : vwCl[2]? = some (RX2, TX2, 3)) (cwX2 a c σ_1 (Int32.toNatClampNeg x1) (ck_lt g_8))) rfl hl.1 rfl (Nat.le_of_ble_eq_true rfl) dX5_cell_33 ⟨Nat.zero_le _, Nat.zero_le _⟩ (fun H locs hP hS => ?_)
    refine va_put (D := D) (ci := 3) (v := .int r_9) (ty := .int) (C := RX5) (T := TX5) (N := 12) hx hb ht gX5 tyX5 tyX5_ok nmX5 hown hK.1 hP (hD σ_1) hS 0 (cw0 a c σ_1) rfl 11 (by decide) (ht _ q73) (fun _ h9 => h9) rfl (by decide +kernel) rfl rfl (Nat.le_of_ble_eq_true rfl) dX5_cell_36 (fun H locs hP _ hS => ?_)
    have hP := vP_eq (cpX5_latestFault a c σ_1 r_9) hP
    obtain ⟨σ_11, eσ_11, hf⟩ := onm hf
    rw [eσ_11] at hP
    refine lv_aload_n hx hb dX5_cell_39 rfl (lv_at hl 0 rfl) ?_
    refine va_get (D := D) (ci := 3) (v := .int (σ_11.1 0 5)) (C := RX5) (T := TX5) (N := 12) hx hb ht gX5 hown hK.1 hP 0 (cw0 a c σ_11) rfl 11 (by decide) (ht _ q73) (fun _ h9 => h9) rfl dX5_cell_40 ?_
    refine lv_if_ne (tgt := 60) hx hb dX5_cell_43 (by decide) (fun c_12 => ?_) (fun c_12 => ?_)
    · have hf := oif c_12 hf
      refine lv_ldc2 (v := (-9223372036854775808 : Int64)) hx hb hown (ht _ q596) dX5_cell_60 ?_
      exact hret _ _ _ _ _ _ dX5_cell_63 hP hS (oret hf)
    have hf := oit c_12 hf
    refine lv_aload_n hx hb dX5_cell_46 rfl (lv_at hl 0 rfl) ?_
    refine va_get (D := D) (ci := 3) (v := .ref (a 2)) (C := RX5) (T := TX5) (N := 12) hx hb ht gX5 hown hK.1 hP 0 (cw0 a c σ_11) rfl 1 (by decide) (ht _ q15) (fun _ h9 => h9) rfl dX5_cell_47 ?_
    refine lv_iload_n hx hb dX5_cell_50 rfl (lv_at hl 1 rfl) ?_
    obtain ⟨g_13, hf⟩ := ogd hf
    refine va_aldq hx hb hK.1 hP 2 4 (cw2 a c σ_11) rfl (ck_in g_13) dX5_cell_51 ?_
    refine W.eq (g2 := F0 m 52 ls [.ref (a (15 + (Int32.toNatClampNeg x1)))]) rfl ?_
    refine lv_iload_n hx hb dX5_cell_52 rfl (lv_at hl 2 rfl) ?_
    obtain ⟨r_14, h_15, hf⟩ := obd hf
    refine xv_I (As := [.int x2]) (rest := []) S k_X2_at q382 q103 q104 ⟨Nat.le_of_ble_eq_true rfl, Nat.le_of_ble_eq_true rfl⟩ ⟨rfl, rfl⟩ (c_X2_at l D a c A hD (Int32.toNatClampNeg x1) x2 σ_11 (ck_lt g_13) r_14 h_15) hK hP hS (va_recv hK.1 hP (rfl : vwCl[2]? = some (RX2, TX2, 3)) (cwX2 a c σ_11 (Int32.toNatClampNeg x1) (ck_lt g_13))) rfl hl.1 rfl (Nat.le_of_ble_eq_true rfl) dX5_cell_53 ⟨Nat.zero_le _, Nat.zero_le _⟩ (fun H locs hP hS => ?_)
    refine lv_i2l (v := (Int32.toInt64 r_14)) hx hb dX5_cell_56 rfl ?_
    refine lv_goto (tgt := 63) hx hb dX5_cell_57 (by decide) ?_
    exact hret _ _ _ _ _ _ dX5_cell_63 hP hS (oret hf)
  have hf := oit c_7 hf
  refine lv_ldc2 (v := (-9223372036854775808 : Int64)) hx hb hown (ht _ q596) dX5_cell_19 ?_
  exact hret _ _ _ _ _ _ dX5_cell_22 hP hS (oret hf)
theorem dX5_copy_0 : decode cX5_copy 0 = .ok (.aload_n 0, 1) := by decide +kernel
theorem dX5_copy_1 : decode cX5_copy 1 = .ok (.iconst 0, 1) := by decide +kernel
theorem dX5_copy_2 : decode cX5_copy 2 = .ok (.putfield 43, 3) := by decide +kernel
theorem dX5_copy_5 : decode cX5_copy 5 = .ok (.iload_n 1, 1) := by decide +kernel
theorem dX5_copy_6 : decode cX5_copy 6 = .ok (.invokestatic 47, 3) := by decide +kernel
theorem dX5_copy_9 : decode cX5_copy 9 = .ok (.ifCond .eq 10, 3) := by decide +kernel
theorem dX5_copy_12 : decode cX5_copy 12 = .ok (.iload_n 3, 1) := by decide +kernel
theorem dX5_copy_13 : decode cX5_copy 13 = .ok (.invokestatic 47, 3) := by decide +kernel
theorem dX5_copy_16 : decode cX5_copy 16 = .ok (.ifCond .ne 5, 3) := by decide +kernel
theorem dX5_copy_19 : decode cX5_copy 19 = .ok (.iconst (-1), 1) := by decide +kernel
theorem dX5_copy_20 : decode cX5_copy 20 = .ok (.ireturn, 1) := by decide +kernel
theorem dX5_copy_21 : decode cX5_copy 21 = .ok (.aload_n 0, 1) := by decide +kernel
theorem dX5_copy_22 : decode cX5_copy 22 = .ok (.getfield 19, 3) := by decide +kernel
theorem dX5_copy_25 : decode cX5_copy 25 = .ok (.iload_n 1, 1) := by decide +kernel
theorem dX5_copy_26 : decode cX5_copy 26 = .ok (.aaload, 1) := by decide +kernel
theorem dX5_copy_27 : decode cX5_copy 27 = .ok (.invokevirtual 255, 3) := by decide +kernel
theorem dX5_copy_30 : decode cX5_copy 30 = .ok (.ifCond .ne 15, 3) := by decide +kernel
theorem dX5_copy_33 : decode cX5_copy 33 = .ok (.aload_n 0, 1) := by decide +kernel
theorem dX5_copy_34 : decode cX5_copy 34 = .ok (.getfield 19, 3) := by decide +kernel
theorem dX5_copy_37 : decode cX5_copy 37 = .ok (.iload_n 3, 1) := by decide +kernel
theorem dX5_copy_38 : decode cX5_copy 38 = .ok (.aaload, 1) := by decide +kernel
theorem dX5_copy_39 : decode cX5_copy 39 = .ok (.invokevirtual 255, 3) := by decide +kernel
theorem dX5_copy_42 : decode cX5_copy 42 = .ok (.ifCond .eq 9, 3) := by decide +kernel
theorem dX5_copy_45 : decode cX5_copy 45 = .ok (.aload_n 0, 1) := by decide +kernel
theorem dX5_copy_46 : decode cX5_copy 46 = .ok (.iconst 1, 1) := by decide +kernel
theorem dX5_copy_47 : decode cX5_copy 47 = .ok (.invokevirtual 58, 3) := by decide +kernel
theorem dX5_copy_50 : decode cX5_copy 50 = .ok (.ireturn, 1) := by decide +kernel
theorem dX5_copy_51 : decode cX5_copy 51 = .ok (.aload_n 0, 1) := by decide +kernel
theorem dX5_copy_52 : decode cX5_copy 52 = .ok (.getfield 19, 3) := by decide +kernel
theorem dX5_copy_55 : decode cX5_copy 55 = .ok (.iload_n 1, 1) := by decide +kernel
theorem dX5_copy_56 : decode cX5_copy 56 = .ok (.aaload, 1) := by decide +kernel
theorem dX5_copy_57 : decode cX5_copy 57 = .ok (.aload_n 0, 1) := by decide +kernel
theorem dX5_copy_58 : decode cX5_copy 58 = .ok (.getfield 19, 3) := by decide +kernel
theorem dX5_copy_61 : decode cX5_copy 61 = .ok (.iload_n 3, 1) := by decide +kernel
theorem dX5_copy_62 : decode cX5_copy 62 = .ok (.aaload, 1) := by decide +kernel
theorem dX5_copy_63 : decode cX5_copy 63 = .ok (.invokevirtual 267, 3) := by decide +kernel
theorem dX5_copy_66 : decode cX5_copy 66 = .ok (.ifCond .ne 9, 3) := by decide +kernel
theorem dX5_copy_69 : decode cX5_copy 69 = .ok (.aload_n 0, 1) := by decide +kernel
theorem dX5_copy_70 : decode cX5_copy 70 = .ok (.iconst 2, 1) := by decide +kernel
theorem dX5_copy_71 : decode cX5_copy 71 = .ok (.invokevirtual 58, 3) := by decide +kernel
theorem dX5_copy_74 : decode cX5_copy 74 = .ok (.ireturn, 1) := by decide +kernel
theorem dX5_copy_75 : decode cX5_copy 75 = .ok (.aload_n 0, 1) := by decide +kernel
theorem dX5_copy_76 : decode cX5_copy 76 = .ok (.getfield 19, 3) := by decide +kernel
theorem dX5_copy_79 : decode cX5_copy 79 = .ok (.iload_n 1, 1) := by decide +kernel
theorem dX5_copy_80 : decode cX5_copy 80 = .ok (.aaload, 1) := by decide +kernel
theorem dX5_copy_81 : decode cX5_copy 81 = .ok (.iload_n 2, 1) := by decide +kernel
theorem dX5_copy_82 : decode cX5_copy 82 = .ok (.iload 5, 2) := by decide +kernel
theorem dX5_copy_84 : decode cX5_copy 84 = .ok (.invokevirtual 261, 3) := by decide +kernel
theorem dX5_copy_87 : decode cX5_copy 87 = .ok (.ifCond .eq 19, 3) := by decide +kernel
theorem dX5_copy_90 : decode cX5_copy 90 = .ok (.aload_n 0, 1) := by decide +kernel
theorem dX5_copy_91 : decode cX5_copy 91 = .ok (.getfield 19, 3) := by decide +kernel
theorem dX5_copy_94 : decode cX5_copy 94 = .ok (.iload_n 3, 1) := by decide +kernel
theorem dX5_copy_95 : decode cX5_copy 95 = .ok (.aaload, 1) := by decide +kernel
theorem dX5_copy_96 : decode cX5_copy 96 = .ok (.iload 4, 2) := by decide +kernel
theorem dX5_copy_98 : decode cX5_copy 98 = .ok (.iload 5, 2) := by decide +kernel
theorem dX5_copy_100 : decode cX5_copy 100 = .ok (.invokevirtual 261, 3) := by decide +kernel
theorem dX5_copy_103 : decode cX5_copy 103 = .ok (.ifCond .ne 9, 3) := by decide +kernel
theorem dX5_copy_106 : decode cX5_copy 106 = .ok (.aload_n 0, 1) := by decide +kernel
theorem dX5_copy_107 : decode cX5_copy 107 = .ok (.iconst 3, 1) := by decide +kernel
theorem dX5_copy_108 : decode cX5_copy 108 = .ok (.invokevirtual 58, 3) := by decide +kernel
theorem dX5_copy_111 : decode cX5_copy 111 = .ok (.ireturn, 1) := by decide +kernel
theorem dX5_copy_112 : decode cX5_copy 112 = .ok (.aload_n 0, 1) := by decide +kernel
theorem dX5_copy_113 : decode cX5_copy 113 = .ok (.getfield 19, 3) := by decide +kernel
theorem dX5_copy_116 : decode cX5_copy 116 = .ok (.iload_n 1, 1) := by decide +kernel
theorem dX5_copy_117 : decode cX5_copy 117 = .ok (.aaload, 1) := by decide +kernel
theorem dX5_copy_118 : decode cX5_copy 118 = .ok (.iload_n 2, 1) := by decide +kernel
theorem dX5_copy_119 : decode cX5_copy 119 = .ok (.aload_n 0, 1) := by decide +kernel
theorem dX5_copy_120 : decode cX5_copy 120 = .ok (.getfield 19, 3) := by decide +kernel
theorem dX5_copy_123 : decode cX5_copy 123 = .ok (.iload_n 3, 1) := by decide +kernel
theorem dX5_copy_124 : decode cX5_copy 124 = .ok (.aaload, 1) := by decide +kernel
theorem dX5_copy_125 : decode cX5_copy 125 = .ok (.iload 4, 2) := by decide +kernel
theorem dX5_copy_127 : decode cX5_copy 127 = .ok (.iload 5, 2) := by decide +kernel
theorem dX5_copy_129 : decode cX5_copy 129 = .ok (.invokevirtual 271, 3) := by decide +kernel
theorem dX5_copy_132 : decode cX5_copy 132 = .ok (.iload 5, 2) := by decide +kernel
theorem dX5_copy_134 : decode cX5_copy 134 = .ok (.ireturn, 1) := by decide +kernel
def f_X5_copy_j106 (σ : St) : Option (Int32 × St) :=
  bd2 (f_X5_come (3 : Int32) σ) fun r_1 σ_2 =>
  some (r_1, σ_2)
def f_X5_copy_j45 (σ : St) : Option (Int32 × St) :=
  bd2 (f_X5_come (1 : Int32) σ) fun r_4 σ_5 =>
  some (r_4, σ_5)
def f_X5_copy (x1 : Int32) (x2 : Int32) (x3 : Int32) (x4 : Int32) (x5 : Int32) (σ : St) : Option (Int32 × St) :=
  nm (wS σ 0 5 (0 : Int32)) fun σ_7 =>
  bd (f_X5_isSheet x1) fun r_8 =>
  if r_8 = 0 then (some ((-1 : Int32), σ_7))
  else bd (f_X5_isSheet x3) fun r_11 =>
  if r_11 = 0 then (some ((-1 : Int32), σ_7))
  else gd (ck x1 4) <|
    bd (f_X2_hasNothing (Int32.toNatClampNeg x1) σ_7) fun r_15 =>
    if r_15 = 0 then (gd (ck x3 4) <|
      bd (f_X2_hasNothing (Int32.toNatClampNeg x3) σ_7) fun r_19 =>
      if r_19 = 0 then (gd (ck x1 4) <|
        gd (ck x3 4) <|
        bd (f_X2_isLike (Int32.toNatClampNeg x1) (Int32.toNatClampNeg x3) σ_7) fun r_24 =>
        if r_24 = 0 then (bd2 (f_X5_come (2 : Int32) σ_7) fun r_39 σ_40 =>
          some (r_39, σ_40))
        else gd (ck x1 4) <|
          bd (f_X2_hasCells (Int32.toNatClampNeg x1) x2 x5 σ_7) fun r_28 =>
          if r_28 = 0 then (f_X5_copy_j106 σ_7)
          else gd (ck x3 4) <|
          bd (f_X2_hasCells (Int32.toNatClampNeg x3) x4 x5 σ_7) fun r_32 =>
          if r_32 = 0 then (f_X5_copy_j106 σ_7)
          else gd (ck x1 4) <|
            gd (ck x3 4) <|
            bd (f_X2_send (Int32.toNatClampNeg x1) x2 (Int32.toNatClampNeg x3) x4 x5 σ_7) fun σ_37 =>
            some (x5, σ_37))
      else f_X5_copy_j45 σ_7)
    else f_X5_copy_j45 σ_7
abbrev rmX5_copy : Room := { frames := 2, cells := 0, slots := 0, locals := 104 }
set_option maxRecDepth 100000 in
set_option maxHeartbeats 4000000 in
theorem c_X5_copy (l : Launch) (D : va_G) (a : Nat → Nat) (c : Nat → ClassId) (A : Nat → Prop) (hD : ∀ σ, va_D A (cW a c σ)) (x1 : Int32) (x2 : Int32) (x3 : Int32) (x4 : Int32) (x5 : Int32) (σ : St) (r : Int32) (u : St) (hf : f_X5_copy x1 x2 x3 x4 x5 σ = some (r, u)) : MetI l yX5_copy cX5_copy 6 (some .int) rmX5_copy (cW a c) D c A [.ref (a 0), .int x1, .int x2, .int x3, .int x4, .int x5] σ r u := by
  refine mkI (by decide) (Nat.le_of_ble_eq_true rfl) rfl ?_
  intro p e s m args below meth cd Q ls h0 hK hP hret hl
  obtain ⟨S, hr, hlk⟩ := h0
  obtain ⟨hx, hb, hml, hown, ht⟩ := id S
  have hS : va_S A s.heap s.heap [] := va_S.rf
  have hl : lv_has ls 6 [(0, .ref (a 0)), (1, .int x1), (2, .int x2), (3, .int x3), (4, .int x4), (5, .int x5)] := hl
  have hf := obs hf
  have j106 : ∀ (σ : St) (H : Heap) (locs : List Loc) (ls : Array Slot), lv_has ls 6 [(0, .ref (a 0))] → va_P D vwCl (cW a c σ) H → va_S A s.heap H locs → Option.bind (f_X5_copy_j106 σ) some = some (r, u) → W p l e rmX5_copy s m args below meth cd H locs 0 0 Q (F0 m 106 ls []) := by
    intro σ H locs ls hl hP hS hf
    have hf := oun (f_X5_copy_j106.eq_1 _) hf
    refine lv_aload_n hx hb dX5_copy_106 rfl (lv_at hl 0 rfl) ?_
    refine lv_iconst (v := (3 : Int32)) hx hb dX5_copy_107 (by decide) ?_
    obtain ⟨r_1, σ_2, h_3, hf⟩ := obd2 hf
    refine xv_I (As := [.int (3 : Int32)]) (rest := []) S k_X5_come q94 q95 q96 ⟨Nat.le_of_ble_eq_true rfl, Nat.le_of_ble_eq_true rfl⟩ ⟨rfl, rfl⟩ (c_X5_come l D a c A hD (3 : Int32) σ r_1 σ_2 h_3) hK hP hS (va_recv hK.1 hP (rfl : vwCl[3]? = some (RX5, TX5, 12)) (cw0 a c σ)) rfl hl.1 rfl (Nat.le_of_ble_eq_true rfl) dX5_copy_108 ⟨Nat.zero_le _, Nat.zero_le _⟩ (fun H locs hP hS => ?_)
    exact hret _ _ _ _ _ _ dX5_copy_111 rfl hP hS (oret hf)
  have j45 : ∀ (σ : St) (H : Heap) (locs : List Loc) (ls : Array Slot), lv_has ls 6 [(0, .ref (a 0))] → va_P D vwCl (cW a c σ) H → va_S A s.heap H locs → Option.bind (f_X5_copy_j45 σ) some = some (r, u) → W p l e rmX5_copy s m args below meth cd H locs 0 0 Q (F0 m 45 ls []) := by
    intro σ H locs ls hl hP hS hf
    have hf := oun (f_X5_copy_j45.eq_1 _) hf
    refine lv_aload_n hx hb dX5_copy_45 rfl (lv_at hl 0 rfl) ?_
    refine lv_iconst (v := (1 : Int32)) hx hb dX5_copy_46 (by decide) ?_
    obtain ⟨r_4, σ_5, h_6, hf⟩ := obd2 hf
    refine xv_I (As := [.int (1 : Int32)]) (rest := []) S k_X5_come q94 q95 q96 ⟨Nat.le_of_ble_eq_true rfl, Nat.le_of_ble_eq_true rfl⟩ ⟨rfl, rfl⟩ (c_X5_come l D a c A hD (1 : Int32) σ r_4 σ_5 h_6) hK hP hS (va_recv hK.1 hP (rfl : vwCl[3]? = some (RX5, TX5, 12)) (cw0 a c σ)) rfl hl.1 rfl (Nat.le_of_ble_eq_true rfl) dX5_copy_47 ⟨Nat.zero_le _, Nat.zero_le _⟩ (fun H locs hP hS => ?_)
    exact hret _ _ _ _ _ _ dX5_copy_50 rfl hP hS (oret hf)
  have hf := oun (f_X5_copy.eq_1 _ _ _ _ _ _) hf
  refine lv_aload_n hx hb dX5_copy_0 rfl (lv_at hl 0 rfl) ?_
  refine lv_iconst (v := (0 : Int32)) hx hb dX5_copy_1 (by decide) ?_
  refine va_put (D := D) (ci := 3) (v := .int (0 : Int32)) (ty := .int) (C := RX5) (T := TX5) (N := 12) hx hb ht gX5 tyX5 tyX5_ok nmX5 hown hK.1 hP (hD σ) hS 0 (cw0 a c σ) rfl 11 (by decide) (ht _ q73) (fun _ h9 => h9) rfl (by decide +kernel) rfl rfl (Nat.le_of_ble_eq_true rfl) dX5_copy_2 (fun H locs hP _ hS => ?_)
  have hP := vP_eq (cpX5_latestFault a c σ (0 : Int32)) hP
  obtain ⟨σ_7, eσ_7, hf⟩ := onm hf
  rw [eσ_7] at hP
  refine lv_iload_n hx hb dX5_copy_5 rfl (lv_at hl 1 rfl) ?_
  obtain ⟨r_8, h_9, hf⟩ := obd hf
  refine xs_S (As := [.int x1]) (rest := []) S k_X5_isSheet q75 q76 ⟨Nat.le_of_ble_eq_true rfl, Nat.le_of_ble_eq_true rfl⟩ ⟨rfl, rfl⟩ (c_X5_isSheet l x1 r_8 h_9) hK.2 rfl hl.1 rfl (Nat.le_of_ble_eq_true rfl) dX5_copy_6 ⟨Nat.zero_le _, Nat.zero_le _⟩ ?_
  refine lv_if_eq (tgt := 19) hx hb dX5_copy_9 (by decide) (fun c_10 => ?_) (fun c_10 => ?_)
  · have hf := oit c_10 hf
    refine lv_iconst (v := (-1 : Int32)) hx hb dX5_copy_19 (by decide) ?_
    exact hret _ _ _ _ _ _ dX5_copy_20 rfl hP hS (oret hf)
  have hf := oif c_10 hf
  refine lv_iload_n hx hb dX5_copy_12 rfl (lv_at hl 3 rfl) ?_
  obtain ⟨r_11, h_12, hf⟩ := obd hf
  refine xs_S (As := [.int x3]) (rest := []) S k_X5_isSheet q75 q76 ⟨Nat.le_of_ble_eq_true rfl, Nat.le_of_ble_eq_true rfl⟩ ⟨rfl, rfl⟩ (c_X5_isSheet l x3 r_11 h_12) hK.2 rfl hl.1 rfl (Nat.le_of_ble_eq_true rfl) dX5_copy_13 ⟨Nat.zero_le _, Nat.zero_le _⟩ ?_
  refine lv_if_ne (tgt := 21) hx hb dX5_copy_16 (by decide) (fun c_13 => ?_) (fun c_13 => ?_)
  · have hf := oif c_13 hf
    refine lv_aload_n hx hb dX5_copy_21 rfl (lv_at hl 0 rfl) ?_
    refine va_get (D := D) (ci := 3) (v := .ref (a 2)) (C := RX5) (T := TX5) (N := 12) hx hb ht gX5 hown hK.1 hP 0 (cw0 a c σ_7) rfl 1 (by decide) (ht _ q15) (fun _ h9 => h9) rfl dX5_copy_22 ?_
    refine lv_iload_n hx hb dX5_copy_25 rfl (lv_at hl 1 rfl) ?_
    obtain ⟨g_14, hf⟩ := ogd hf
    refine va_aldq hx hb hK.1 hP 2 4 (cw2 a c σ_7) rfl (ck_in g_14) dX5_copy_26 ?_
    refine W.eq (g2 := F0 m 27 ls [.ref (a (15 + (Int32.toNatClampNeg x1)))]) rfl ?_
    obtain ⟨r_15, h_16, hf⟩ := obd hf
    refine xv_I (As := []) (rest := []) S k_X2_hasNothing q629 q86 q87 ⟨Nat.le_of_ble_eq_true rfl, Nat.le_of_ble_eq_true rfl⟩ ⟨rfl, rfl⟩ (c_X2_hasNothing l D a c A hD (Int32.toNatClampNeg x1) σ_7 (ck_lt g_14) r_15 h_16) hK hP hS (va_recv hK.1 hP (rfl : vwCl[2]? = some (RX2, TX2, 3)) (cwX2 a c σ_7 (Int32.toNatClampNeg x1) (ck_lt g_14))) rfl hl.1 rfl (Nat.le_of_ble_eq_true rfl) dX5_copy_27 ⟨Nat.zero_le _, Nat.zero_le _⟩ (fun H locs hP hS => ?_)
    refine lv_if_ne (tgt := 45) hx hb dX5_copy_30 (by decide) (fun c_17 => ?_) (fun c_17 => ?_)
    · have hf := oif c_17 hf
      exact j45 σ_7 _ _ _ (lv_sub hl [0] rfl) hP hS hf
    have hf := oit c_17 hf
    refine lv_aload_n hx hb dX5_copy_33 rfl (lv_at hl 0 rfl) ?_
    refine va_get (D := D) (ci := 3) (v := .ref (a 2)) (C := RX5) (T := TX5) (N := 12) hx hb ht gX5 hown hK.1 hP 0 (cw0 a c σ_7) rfl 1 (by decide) (ht _ q15) (fun _ h9 => h9) rfl dX5_copy_34 ?_
    refine lv_iload_n hx hb dX5_copy_37 rfl (lv_at hl 3 rfl) ?_
    obtain ⟨g_18, hf⟩ := ogd hf
    refine va_aldq hx hb hK.1 hP 2 4 (cw2 a c σ_7) rfl (ck_in g_18) dX5_copy_38 ?_
    refine W.eq (g2 := F0 m 39 ls [.ref (a (15 + (Int32.toNatClampNeg x3)))]) rfl ?_
    obtain ⟨r_19, h_20, hf⟩ := obd hf
    refine xv_I (As := []) (rest := []) S k_X2_hasNothing q629 q86 q87 ⟨Nat.le_of_ble_eq_true rfl, Nat.le_of_ble_eq_true rfl⟩ ⟨rfl, rfl⟩ (c_X2_hasNothing l D a c A hD (Int32.toNatClampNeg x3) σ_7 (ck_lt g_18) r_19 h_20) hK hP hS (va_recv hK.1 hP (rfl : vwCl[2]? = some (RX2, TX2, 3)) (cwX2 a c σ_7 (Int32.toNatClampNeg x3) (ck_lt g_18))) rfl hl.1 rfl (Nat.le_of_ble_eq_true rfl) dX5_copy_39 ⟨Nat.zero_le _, Nat.zero_le _⟩ (fun H locs hP hS => ?_)
    refine lv_if_eq (tgt := 51) hx hb dX5_copy_42 (by decide) (fun c_21 => ?_) (fun c_21 => ?_)
    · have hf := oit c_21 hf
      refine lv_aload_n hx hb dX5_copy_51 rfl (lv_at hl 0 rfl) ?_
      refine va_get (D := D) (ci := 3) (v := .ref (a 2)) (C := RX5) (T := TX5) (N := 12) hx hb ht gX5 hown hK.1 hP 0 (cw0 a c σ_7) rfl 1 (by decide) (ht _ q15) (fun _ h9 => h9) rfl dX5_copy_52 ?_
      refine lv_iload_n hx hb dX5_copy_55 rfl (lv_at hl 1 rfl) ?_
      obtain ⟨g_22, hf⟩ := ogd hf
      refine va_aldq hx hb hK.1 hP 2 4 (cw2 a c σ_7) rfl (ck_in g_22) dX5_copy_56 ?_
      refine W.eq (g2 := F0 m 57 ls [.ref (a (15 + (Int32.toNatClampNeg x1)))]) rfl ?_
      refine lv_aload_n hx hb dX5_copy_57 rfl (lv_at hl 0 rfl) ?_
      refine va_get (D := D) (ci := 3) (v := .ref (a 2)) (C := RX5) (T := TX5) (N := 12) hx hb ht gX5 hown hK.1 hP 0 (cw0 a c σ_7) rfl 1 (by decide) (ht _ q15) (fun _ h9 => h9) rfl dX5_copy_58 ?_
      refine lv_iload_n hx hb dX5_copy_61 rfl (lv_at hl 3 rfl) ?_
      obtain ⟨g_23, hf⟩ := ogd hf
      refine va_aldq hx hb hK.1 hP 2 4 (cw2 a c σ_7) rfl (ck_in g_23) dX5_copy_62 ?_
      refine W.eq (g2 := F0 m 63 ls [.ref (a (15 + (Int32.toNatClampNeg x3))), .ref (a (15 + (Int32.toNatClampNeg x1)))]) rfl ?_
      obtain ⟨r_24, h_25, hf⟩ := obd hf
      refine xv_I (As := [.ref (a (15 + (Int32.toNatClampNeg x3)))]) (rest := []) S k_X2_isLike q671 q672 q673 ⟨Nat.le_of_ble_eq_true rfl, Nat.le_of_ble_eq_true rfl⟩ ⟨rfl, rfl⟩ (c_X2_isLike l D a c A hD (Int32.toNatClampNeg x1) (Int32.toNatClampNeg x3) σ_7 (ck_lt g_22) (ck_lt g_23) r_24 h_25) hK hP hS (va_recv hK.1 hP (rfl : vwCl[2]? = some (RX2, TX2, 3)) (cwX2 a c σ_7 (Int32.toNatClampNeg x1) (ck_lt g_22))) rfl hl.1 rfl (Nat.le_of_ble_eq_true rfl) dX5_copy_63 ⟨Nat.zero_le _, Nat.zero_le _⟩ (fun H locs hP hS => ?_)
      refine lv_if_ne (tgt := 75) hx hb dX5_copy_66 (by decide) (fun c_26 => ?_) (fun c_26 => ?_)
      · have hf := oif c_26 hf
        refine lv_aload_n hx hb dX5_copy_75 rfl (lv_at hl 0 rfl) ?_
        refine va_get (D := D) (ci := 3) (v := .ref (a 2)) (C := RX5) (T := TX5) (N := 12) hx hb ht gX5 hown hK.1 hP 0 (cw0 a c σ_7) rfl 1 (by decide) (ht _ q15) (fun _ h9 => h9) rfl dX5_copy_76 ?_
        refine lv_iload_n hx hb dX5_copy_79 rfl (lv_at hl 1 rfl) ?_
        obtain ⟨g_27, hf⟩ := ogd hf
        refine va_aldq hx hb hK.1 hP 2 4 (cw2 a c σ_7) rfl (ck_in g_27) dX5_copy_80 ?_
        refine W.eq (g2 := F0 m 81 ls [.ref (a (15 + (Int32.toNatClampNeg x1)))]) rfl ?_
        refine lv_iload_n hx hb dX5_copy_81 rfl (lv_at hl 2 rfl) ?_
        refine lv_iload hx hb dX5_copy_82 (lv_at hl 5 rfl) ?_
        obtain ⟨r_28, h_29, hf⟩ := obd hf
        refine xv_I (As := [.int x2, .int x5]) (rest := []) S k_X2_hasCells q642 q90 q91 ⟨Nat.le_of_ble_eq_true rfl, Nat.le_of_ble_eq_true rfl⟩ ⟨rfl, rfl⟩ (c_X2_hasCells l D a c A hD (Int32.toNatClampNeg x1) x2 x5 σ_7 (ck_lt g_27) r_28 h_29) hK hP hS (va_recv hK.1 hP (rfl : vwCl[2]? = some (RX2, TX2, 3)) (cwX2 a c σ_7 (Int32.toNatClampNeg x1) (ck_lt g_27))) rfl hl.1 rfl (Nat.le_of_ble_eq_true rfl) dX5_copy_84 ⟨Nat.zero_le _, Nat.zero_le _⟩ (fun H locs hP hS => ?_)
        refine lv_if_eq (tgt := 106) hx hb dX5_copy_87 (by decide) (fun c_30 => ?_) (fun c_30 => ?_)
        · have hf := oit c_30 hf
          exact j106 σ_7 _ _ _ (lv_sub hl [0] rfl) hP hS hf
        have hf := oif c_30 hf
        refine lv_aload_n hx hb dX5_copy_90 rfl (lv_at hl 0 rfl) ?_
        refine va_get (D := D) (ci := 3) (v := .ref (a 2)) (C := RX5) (T := TX5) (N := 12) hx hb ht gX5 hown hK.1 hP 0 (cw0 a c σ_7) rfl 1 (by decide) (ht _ q15) (fun _ h9 => h9) rfl dX5_copy_91 ?_
        refine lv_iload_n hx hb dX5_copy_94 rfl (lv_at hl 3 rfl) ?_
        obtain ⟨g_31, hf⟩ := ogd hf
        refine va_aldq hx hb hK.1 hP 2 4 (cw2 a c σ_7) rfl (ck_in g_31) dX5_copy_95 ?_
        refine W.eq (g2 := F0 m 96 ls [.ref (a (15 + (Int32.toNatClampNeg x3)))]) rfl ?_
        refine lv_iload hx hb dX5_copy_96 (lv_at hl 4 rfl) ?_
        refine lv_iload hx hb dX5_copy_98 (lv_at hl 5 rfl) ?_
        obtain ⟨r_32, h_33, hf⟩ := obd hf
        refine xv_I (As := [.int x4, .int x5]) (rest := []) S k_X2_hasCells q642 q90 q91 ⟨Nat.le_of_ble_eq_true rfl, Nat.le_of_ble_eq_true rfl⟩ ⟨rfl, rfl⟩ (c_X2_hasCells l D a c A hD (Int32.toNatClampNeg x3) x4 x5 σ_7 (ck_lt g_31) r_32 h_33) hK hP hS (va_recv hK.1 hP (rfl : vwCl[2]? = some (RX2, TX2, 3)) (cwX2 a c σ_7 (Int32.toNatClampNeg x3) (ck_lt g_31))) rfl hl.1 rfl (Nat.le_of_ble_eq_true rfl) dX5_copy_100 ⟨Nat.zero_le _, Nat.zero_le _⟩ (fun H locs hP hS => ?_)
        refine lv_if_ne (tgt := 112) hx hb dX5_copy_103 (by decide) (fun c_34 => ?_) (fun c_34 => ?_)
        · have hf := oif c_34 hf
          refine lv_aload_n hx hb dX5_copy_112 rfl (lv_at hl 0 rfl) ?_
          refine va_get (D := D) (ci := 3) (v := .ref (a 2)) (C := RX5) (T := TX5) (N := 12) hx hb ht gX5 hown hK.1 hP 0 (cw0 a c σ_7) rfl 1 (by decide) (ht _ q15) (fun _ h9 => h9) rfl dX5_copy_113 ?_
          refine lv_iload_n hx hb dX5_copy_116 rfl (lv_at hl 1 rfl) ?_
          obtain ⟨g_35, hf⟩ := ogd hf
          refine va_aldq hx hb hK.1 hP 2 4 (cw2 a c σ_7) rfl (ck_in g_35) dX5_copy_117 ?_
          refine W.eq (g2 := F0 m 118 ls [.ref (a (15 + (Int32.toNatClampNeg x1)))]) rfl ?_
          refine lv_iload_n hx hb dX5_copy_118 rfl (lv_at hl 2 rfl) ?_
          refine lv_aload_n hx hb dX5_copy_119 rfl (lv_at hl 0 rfl) ?_
          refine va_get (D := D) (ci := 3) (v := .ref (a 2)) (C := RX5) (T := TX5) (N := 12) hx hb ht gX5 hown hK.1 hP 0 (cw0 a c σ_7) rfl 1 (by decide) (ht _ q15) (fun _ h9 => h9) rfl dX5_copy_120 ?_
          refine lv_iload_n hx hb dX5_copy_123 rfl (lv_at hl 3 rfl) ?_
          obtain ⟨g_36, hf⟩ := ogd hf
          refine va_aldq hx hb hK.1 hP 2 4 (cw2 a c σ_7) rfl (ck_in g_36) dX5_copy_124 ?_
          refine W.eq (g2 := F0 m 125 ls [.ref (a (15 + (Int32.toNatClampNeg x3))), .int x2, .ref (a (15 + (Int32.toNatClampNeg x1)))]) rfl ?_
          refine lv_iload hx hb dX5_copy_125 (lv_at hl 4 rfl) ?_
          refine lv_iload hx hb dX5_copy_127 (lv_at hl 5 rfl) ?_
          obtain ⟨σ_37, h_38, hf⟩ := obd hf
          refine xv_V (As := [.int x2, .ref (a (15 + (Int32.toNatClampNeg x3))), .int x4, .int x5]) (rest := []) S k_X2_send q675 q676 q677 ⟨Nat.le_of_ble_eq_true rfl, Nat.le_of_ble_eq_true rfl⟩ ⟨rfl, rfl⟩ (c_X2_send l D a c A hD (Int32.toNatClampNeg x1) x2 (Int32.toNatClampNeg x3) x4 x5 σ_7 (ck_lt g_35) (ck_lt g_36) σ_37 h_38) hK hP hS (va_recv hK.1 hP (rfl : vwCl[2]? = some (RX2, TX2, 3)) (cwX2 a c σ_7 (Int32.toNatClampNeg x1) (ck_lt g_35))) rfl hl.1 rfl (Nat.le_of_ble_eq_true rfl) dX5_copy_129 ⟨Nat.zero_le _, Nat.zero_le _⟩ (fun H locs hP hS => ?_)
          refine lv_iload hx hb dX5_copy_132 (lv_at hl 5 rfl) ?_
          exact hret _ _ _ _ _ _ dX5_copy_134 rfl hP hS (oret hf)
        have hf := oit c_34 hf
        exact j106 σ_7 _ _ _ (lv_sub hl [0] rfl) hP hS hf
      have hf := oit c_26 hf
      refine lv_aload_n hx hb dX5_copy_69 rfl (lv_at hl 0 rfl) ?_
      refine lv_iconst (v := (2 : Int32)) hx hb dX5_copy_70 (by decide) ?_
      obtain ⟨r_39, σ_40, h_41, hf⟩ := obd2 hf
      refine xv_I (As := [.int (2 : Int32)]) (rest := []) S k_X5_come q94 q95 q96 ⟨Nat.le_of_ble_eq_true rfl, Nat.le_of_ble_eq_true rfl⟩ ⟨rfl, rfl⟩ (c_X5_come l D a c A hD (2 : Int32) σ_7 r_39 σ_40 h_41) hK hP hS (va_recv hK.1 hP (rfl : vwCl[3]? = some (RX5, TX5, 12)) (cw0 a c σ_7)) rfl hl.1 rfl (Nat.le_of_ble_eq_true rfl) dX5_copy_71 ⟨Nat.zero_le _, Nat.zero_le _⟩ (fun H locs hP hS => ?_)
      exact hret _ _ _ _ _ _ dX5_copy_74 rfl hP hS (oret hf)
    have hf := oif c_21 hf
    exact j45 σ_7 _ _ _ (lv_sub hl [0] rfl) hP hS hf
  have hf := oit c_13 hf
  refine lv_iconst (v := (-1 : Int32)) hx hb dX5_copy_19 (by decide) ?_
  exact hret _ _ _ _ _ _ dX5_copy_20 rfl hP hS (oret hf)
