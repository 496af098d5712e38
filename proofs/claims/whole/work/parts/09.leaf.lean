theorem dX2_hasCells_0 : decode cX2_hasCells 0 = .ok (.iload_n 2, 1) := by decide +kernel
theorem dX2_hasCells_1 : decode cX2_hasCells 1 = .ok (.ifCond .lt 29, 3) := by decide +kernel
theorem dX2_hasCells_4 : decode cX2_hasCells 4 = .ok (.iload_n 1, 1) := by decide +kernel
theorem dX2_hasCells_5 : decode cX2_hasCells 5 = .ok (.ifCond .lt 25, 3) := by decide +kernel
theorem dX2_hasCells_8 : decode cX2_hasCells 8 = .ok (.iload_n 1, 1) := by decide +kernel
theorem dX2_hasCells_9 : decode cX2_hasCells 9 = .ok (.aload_n 0, 1) := by decide +kernel
theorem dX2_hasCells_10 : decode cX2_hasCells 10 = .ok (.getfield 28, 3) := by decide +kernel
theorem dX2_hasCells_13 : decode cX2_hasCells 13 = .ok (.if_icmp .gt 17, 3) := by decide +kernel
theorem dX2_hasCells_16 : decode cX2_hasCells 16 = .ok (.iload_n 2, 1) := by decide +kernel
theorem dX2_hasCells_17 : decode cX2_hasCells 17 = .ok (.aload_n 0, 1) := by decide +kernel
theorem dX2_hasCells_18 : decode cX2_hasCells 18 = .ok (.getfield 28, 3) := by decide +kernel
theorem dX2_hasCells_21 : decode cX2_hasCells 21 = .ok (.iload_n 1, 1) := by decide +kernel
theorem dX2_hasCells_22 : decode cX2_hasCells 22 = .ok (.isub, 1) := by decide +kernel
theorem dX2_hasCells_23 : decode cX2_hasCells 23 = .ok (.if_icmp .gt 7, 3) := by decide +kernel
theorem dX2_hasCells_26 : decode cX2_hasCells 26 = .ok (.iconst 1, 1) := by decide +kernel
theorem dX2_hasCells_27 : decode cX2_hasCells 27 = .ok (.goto 4, 3) := by decide +kernel
theorem dX2_hasCells_30 : decode cX2_hasCells 30 = .ok (.iconst 0, 1) := by decide +kernel
theorem dX2_hasCells_31 : decode cX2_hasCells 31 = .ok (.ireturn, 1) := by decide +kernel
def f_X2_hasCells (x0 : Nat) (x1 : Int32) (x2 : Int32) (σ : St) : Option Int32 :=
  if x2 < 0 then (some (0 : Int32))
  else if x1 < 0 then (some (0 : Int32))
  else if (σ.1 5 x0) < x1 then (some (0 : Int32))
  else if ((σ.1 5 x0) - x1) < x2 then (some (0 : Int32))
  else some (1 : Int32)
abbrev rmX2_hasCells : Room := { frames := 0, cells := 0, slots := 0, locals := 0 }
set_option maxRecDepth 100000 in
set_option maxHeartbeats 4000000 in
theorem c_X2_hasCells (l : Launch) (D : va_G) (a : Nat → Nat) (c : Nat → ClassId) (A : Nat → Prop) (hD : ∀ σ, va_D A (cW a c σ)) (x0 : Nat) (x1 : Int32) (x2 : Int32) (σ : St) (hx0 : x0 < 4) (r : Int32) (hf : f_X2_hasCells x0 x1 x2 σ = some r) : MetI l yX2_hasCells cX2_hasCells 3 (some .boolean) rmX2_hasCells (cW a c) D c A [.ref (a (15 + x0)), .int x1, .int x2] σ r σ := by
  refine mkI (by decide) (Nat.le_of_ble_eq_true rfl) rfl ?_
  intro p e s m args below meth cd Q ls h0 hK hP hret hl
  obtain ⟨S, hr, hlk⟩ := h0
  obtain ⟨hx, hb, hml, hown, ht⟩ := id S
  have hS : va_S A s.heap s.heap [] := va_S.rf
  have hl : lv_has ls 3 [(0, .ref (a (15 + x0))), (1, .int x1), (2, .int x2)] := hl
  have hf := obs hf
  have hf := oun (f_X2_hasCells.eq_1 _ _ _ _) hf
  refine lv_iload_n hx hb dX2_hasCells_0 rfl (lv_at hl 2 rfl) ?_
  refine lv_if_lt (tgt := 30) hx hb dX2_hasCells_1 (by decide) (fun c_1 => ?_) (fun c_1 => ?_)
  · have hf := oit c_1 hf
    refine lv_iconst (v := (0 : Int32)) hx hb dX2_hasCells_30 (by decide) ?_
    exact hret _ _ _ _ _ _ dX2_hasCells_31 (by decide) hP hS ⟨Option.some.inj hf, rfl⟩
  have hf := oif c_1 hf
  refine lv_iload_n hx hb dX2_hasCells_4 rfl (lv_at hl 1 rfl) ?_
  refine lv_if_lt (tgt := 30) hx hb dX2_hasCells_5 (by decide) (fun c_2 => ?_) (fun c_2 => ?_)
  · have hf := oit c_2 hf
    refine lv_iconst (v := (0 : Int32)) hx hb dX2_hasCells_30 (by decide) ?_
    exact hret _ _ _ _ _ _ dX2_hasCells_31 (by decide) hP hS ⟨Option.some.inj hf, rfl⟩
  have hf := oif c_2 hf
  refine lv_iload_n hx hb dX2_hasCells_8 rfl (lv_at hl 1 rfl) ?_
  refine lv_aload_n hx hb dX2_hasCells_9 rfl (lv_at hl 0 rfl) ?_
  refine va_get (D := D) (ci := 2) (v := .int (σ.1 5 x0)) (C := RX2) (T := TX2) (N := 3) hx hb ht gX2 hown hK.1 hP (15 + x0) (cwX2 a c σ x0 hx0) rfl 2 (by decide) (ht _ q93) (fun _ h9 => h9) rfl dX2_hasCells_10 ?_
  refine lv_icmp_gt (tgt := 30) hx hb dX2_hasCells_13 (by decide) (fun c_3 => ?_) (fun c_3 => ?_)
  · have hf := oit c_3 hf
    refine lv_iconst (v := (0 : Int32)) hx hb dX2_hasCells_30 (by decide) ?_
    exact hret _ _ _ _ _ _ dX2_hasCells_31 (by decide) hP hS ⟨Option.some.inj hf, rfl⟩
  have hf := oif c_3 hf
  refine lv_iload_n hx hb dX2_hasCells_16 rfl (lv_at hl 2 rfl) ?_
  refine lv_aload_n hx hb dX2_hasCells_17 rfl (lv_at hl 0 rfl) ?_
  refine va_get (D := D) (ci := 2) (v := .int (σ.1 5 x0)) (C := RX2) (T := TX2) (N := 3) hx hb ht gX2 hown hK.1 hP (15 + x0) (cwX2 a c σ x0 hx0) rfl 2 (by decide) (ht _ q93) (fun _ h9 => h9) rfl dX2_hasCells_18 ?_
  refine lv_iload_n hx hb dX2_hasCells_21 rfl (lv_at hl 1 rfl) ?_
  refine lv_isub hx hb dX2_hasCells_22 ?_
  refine lv_icmp_gt (tgt := 30) hx hb dX2_hasCells_23 (by decide) (fun c_4 => ?_) (fun c_4 => ?_)
  · have hf := oit c_4 hf
    refine lv_iconst (v := (0 : Int32)) hx hb dX2_hasCells_30 (by decide) ?_
    exact hret _ _ _ _ _ _ dX2_hasCells_31 (by decide) hP hS ⟨Option.some.inj hf, rfl⟩
  have hf := oif c_4 hf
  refine lv_iconst (v := (1 : Int32)) hx hb dX2_hasCells_26 (by decide) ?_
  refine lv_goto (tgt := 31) hx hb dX2_hasCells_27 (by decide) ?_
  exact hret _ _ _ _ _ _ dX2_hasCells_31 (by decide) hP hS ⟨Option.some.inj hf, rfl⟩
theorem dX2_hasNothing_0 : decode cX2_hasNothing 0 = .ok (.aload_n 0, 1) := by decide +kernel
theorem dX2_hasNothing_1 : decode cX2_hasNothing 1 = .ok (.getfield 15, 3) := by decide +kernel
theorem dX2_hasNothing_4 : decode cX2_hasNothing 4 = .ok (.iconst (-1), 1) := by decide +kernel
theorem dX2_hasNothing_5 : decode cX2_hasNothing 5 = .ok (.if_icmp .ne 7, 3) := by decide +kernel
theorem dX2_hasNothing_8 : decode cX2_hasNothing 8 = .ok (.iconst 1, 1) := by decide +kernel
theorem dX2_hasNothing_9 : decode cX2_hasNothing 9 = .ok (.goto 4, 3) := by decide +kernel
theorem dX2_hasNothing_12 : decode cX2_hasNothing 12 = .ok (.iconst 0, 1) := by decide +kernel
theorem dX2_hasNothing_13 : decode cX2_hasNothing 13 = .ok (.ireturn, 1) := by decide +kernel
def f_X2_hasNothing (x0 : Nat) (σ : St) : Option Int32 :=
  if (σ.1 4 x0) = (-1 : Int32) then (some (1 : Int32))
  else some (0 : Int32)
abbrev rmX2_hasNothing : Room := { frames := 0, cells := 0, slots := 0, locals := 0 }
set_option maxRecDepth 100000 in
set_option maxHeartbeats 4000000 in
theorem c_X2_hasNothing (l : Launch) (D : va_G) (a : Nat → Nat) (c : Nat → ClassId) (A : Nat → Prop) (hD : ∀ σ, va_D A (cW a c σ)) (x0 : Nat) (σ : St) (hx0 : x0 < 4) (r : Int32) (hf : f_X2_hasNothing x0 σ = some r) : MetI l yX2_hasNothing cX2_hasNothing 1 (some .boolean) rmX2_hasNothing (cW a c) D c A [.ref (a (15 + x0))] σ r σ := by
  refine mkI (by decide) (Nat.le_of_ble_eq_true rfl) rfl ?_
  intro p e s m args below meth cd Q ls h0 hK hP hret hl
  obtain ⟨S, hr, hlk⟩ := h0
  obtain ⟨hx, hb, hml, hown, ht⟩ := id S
  have hS : va_S A s.heap s.heap [] := va_S.rf
  have hl : lv_has ls 1 [(0, .ref (a (15 + x0)))] := hl
  have hf := obs hf
  have hf := oun (f_X2_hasNothing.eq_1 _ _) hf
  refine lv_aload_n hx hb dX2_hasNothing_0 rfl (lv_at hl 0 rfl) ?_
  refine va_get (D := D) (ci := 2) (v := .int (σ.1 4 x0)) (C := RX2) (T := TX2) (N := 3) hx hb ht gX2 hown hK.1 hP (15 + x0) (cwX2 a c σ x0 hx0) rfl 1 (by decide) (ht _ q45) (fun _ h9 => h9) rfl dX2_hasNothing_1 ?_
  refine lv_iconst (v := (-1 : Int32)) hx hb dX2_hasNothing_4 (by decide) ?_
  refine lv_icmp_ne (tgt := 12) hx hb dX2_hasNothing_5 (by decide) (fun c_1 => ?_) (fun c_1 => ?_)
  · have hf := oif c_1 hf
    refine lv_iconst (v := (0 : Int32)) hx hb dX2_hasNothing_12 (by decide) ?_
    exact hret _ _ _ _ _ _ dX2_hasNothing_13 (by decide) hP hS ⟨Option.some.inj hf, rfl⟩
  have hf := oit c_1 hf
  refine lv_iconst (v := (1 : Int32)) hx hb dX2_hasNothing_8 (by decide) ?_
  refine lv_goto (tgt := 13) hx hb dX2_hasNothing_9 (by decide) ?_
  exact hret _ _ _ _ _ _ dX2_hasNothing_13 (by decide) hP hS ⟨Option.some.inj hf, rfl⟩
theorem dX2_faultOf_0 : decode cX2_faultOf 0 = .ok (.aload_n 0, 1) := by decide +kernel
theorem dX2_faultOf_1 : decode cX2_faultOf 1 = .ok (.invokevirtual 41, 3) := by decide +kernel
theorem dX2_faultOf_4 : decode cX2_faultOf 4 = .ok (.ifCond .eq 5, 3) := by decide +kernel
theorem dX2_faultOf_7 : decode cX2_faultOf 7 = .ok (.iconst 1, 1) := by decide +kernel
theorem dX2_faultOf_8 : decode cX2_faultOf 8 = .ok (.ireturn, 1) := by decide +kernel
theorem dX2_faultOf_9 : decode cX2_faultOf 9 = .ok (.aload_n 0, 1) := by decide +kernel
theorem dX2_faultOf_10 : decode cX2_faultOf 10 = .ok (.getfield 15, 3) := by decide +kernel
theorem dX2_faultOf_13 : decode cX2_faultOf 13 = .ok (.iload_n 1, 1) := by decide +kernel
theorem dX2_faultOf_14 : decode cX2_faultOf 14 = .ok (.if_icmp .eq 5, 3) := by decide +kernel
theorem dX2_faultOf_17 : decode cX2_faultOf 17 = .ok (.iconst 2, 1) := by decide +kernel
theorem dX2_faultOf_18 : decode cX2_faultOf 18 = .ok (.ireturn, 1) := by decide +kernel
theorem dX2_faultOf_19 : decode cX2_faultOf 19 = .ok (.iload_n 3, 1) := by decide +kernel
theorem dX2_faultOf_20 : decode cX2_faultOf 20 = .ok (.ifCond .ge 5, 3) := by decide +kernel
theorem dX2_faultOf_23 : decode cX2_faultOf 23 = .ok (.iconst 4, 1) := by decide +kernel
theorem dX2_faultOf_24 : decode cX2_faultOf 24 = .ok (.ireturn, 1) := by decide +kernel
theorem dX2_faultOf_25 : decode cX2_faultOf 25 = .ok (.aload_n 0, 1) := by decide +kernel
theorem dX2_faultOf_26 : decode cX2_faultOf 26 = .ok (.iload_n 2, 1) := by decide +kernel
theorem dX2_faultOf_27 : decode cX2_faultOf 27 = .ok (.iload_n 3, 1) := by decide +kernel
theorem dX2_faultOf_28 : decode cX2_faultOf 28 = .ok (.invokevirtual 45, 3) := by decide +kernel
theorem dX2_faultOf_31 : decode cX2_faultOf 31 = .ok (.ifCond .eq 7, 3) := by decide +kernel
theorem dX2_faultOf_34 : decode cX2_faultOf 34 = .ok (.iconst 0, 1) := by decide +kernel
theorem dX2_faultOf_35 : decode cX2_faultOf 35 = .ok (.goto 4, 3) := by decide +kernel
theorem dX2_faultOf_38 : decode cX2_faultOf 38 = .ok (.iconst 3, 1) := by decide +kernel
theorem dX2_faultOf_39 : decode cX2_faultOf 39 = .ok (.ireturn, 1) := by decide +kernel
def f_X2_faultOf (x0 : Nat) (x1 : Int32) (x2 : Int32) (x3 : Int32) (σ : St) : Option Int32 :=
  bd (f_X2_hasNothing x0 σ) fun r_1 =>
  if r_1 = 0 then (if (σ.1 4 x0) = x1 then (if 0 ≤ x3 then (bd (f_X2_hasCells x0 x2 x3 σ) fun r_6 =>
        if r_6 = 0 then (some (3 : Int32))
        else some (0 : Int32))
      else some (4 : Int32))
    else some (2 : Int32))
  else some (1 : Int32)
abbrev rmX2_faultOf : Room := { frames := 1, cells := 0, slots := 0, locals := 22 }
set_option maxRecDepth 100000 in
set_option maxHeartbeats 4000000 in
theorem c_X2_faultOf (l : Launch) (D : va_G) (a : Nat → Nat) (c : Nat → ClassId) (A : Nat → Prop) (hD : ∀ σ, va_D A (cW a c σ)) (x0 : Nat) (x1 : Int32) (x2 : Int32) (x3 : Int32) (σ : St) (hx0 : x0 < 4) (r : Int32) (hf : f_X2_faultOf x0 x1 x2 x3 σ = some r) : MetI l yX2_faultOf cX2_faultOf 4 (some .int) rmX2_faultOf (cW a c) D c A [.ref (a (15 + x0)), .int x1, .int x2, .int x3] σ r σ := by
  refine mkI (by decide) (Nat.le_of_ble_eq_true rfl) rfl ?_
  intro p e s m args below meth cd Q ls h0 hK hP hret hl
  obtain ⟨S, hr, hlk⟩ := h0
  obtain ⟨hx, hb, hml, hown, ht⟩ := id S
  have hS : va_S A s.heap s.heap [] := va_S.rf
  have hl : lv_has ls 4 [(0, .ref (a (15 + x0))), (1, .int x1), (2, .int x2), (3, .int x3)] := hl
  have hf := obs hf
  have hf := oun (f_X2_faultOf.eq_1 _ _ _ _ _) hf
  refine lv_aload_n hx hb dX2_faultOf_0 rfl (lv_at hl 0 rfl) ?_
  obtain ⟨r_1, h_2, hf⟩ := obd hf
  refine xv_I (As := []) (rest := []) S k_X2_hasNothing q85 q86 q87 ⟨Nat.le_of_ble_eq_true rfl, Nat.le_of_ble_eq_true rfl⟩ ⟨rfl, rfl⟩ (c_X2_hasNothing l D a c A hD x0 σ hx0 r_1 h_2) hK hP hS (va_recv hK.1 hP (rfl : vwCl[2]? = some (RX2, TX2, 3)) (cwX2 a c σ x0 hx0)) rfl hl.1 rfl (Nat.le_of_ble_eq_true rfl) dX2_faultOf_1 ⟨Nat.zero_le _, Nat.zero_le _⟩ (fun H locs hP hS => ?_)
  refine lv_if_eq (tgt := 9) hx hb dX2_faultOf_4 (by decide) (fun c_3 => ?_) (fun c_3 => ?_)
  · have hf := oit c_3 hf
    refine lv_aload_n hx hb dX2_faultOf_9 rfl (lv_at hl 0 rfl) ?_
    refine va_get (D := D) (ci := 2) (v := .int (σ.1 4 x0)) (C := RX2) (T := TX2) (N := 3) hx hb ht gX2 hown hK.1 hP (15 + x0) (cwX2 a c σ x0 hx0) rfl 1 (by decide) (ht _ q45) (fun _ h9 => h9) rfl dX2_faultOf_10 ?_
    refine lv_iload_n hx hb dX2_faultOf_13 rfl (lv_at hl 1 rfl) ?_
    refine lv_icmp_eq (tgt := 19) hx hb dX2_faultOf_14 (by decide) (fun c_4 => ?_) (fun c_4 => ?_)
    · have hf := oit c_4 hf
      refine lv_iload_n hx hb dX2_faultOf_19 rfl (lv_at hl 3 rfl) ?_
      refine lv_if_ge (tgt := 25) hx hb dX2_faultOf_20 (by decide) (fun c_5 => ?_) (fun c_5 => ?_)
      · have hf := oit c_5 hf
        refine lv_aload_n hx hb dX2_faultOf_25 rfl (lv_at hl 0 rfl) ?_
        refine lv_iload_n hx hb dX2_faultOf_26 rfl (lv_at hl 2 rfl) ?_
        refine lv_iload_n hx hb dX2_faultOf_27 rfl (lv_at hl 3 rfl) ?_
        obtain ⟨r_6, h_7, hf⟩ := obd hf
        refine xv_I (As := [.int x2, .int x3]) (rest := []) S k_X2_hasCells q89 q90 q91 ⟨Nat.le_of_ble_eq_true rfl, Nat.le_of_ble_eq_true rfl⟩ ⟨rfl, rfl⟩ (c_X2_hasCells l D a c A hD x0 x2 x3 σ hx0 r_6 h_7) hK hP hS (va_recv hK.1 hP (rfl : vwCl[2]? = some (RX2, TX2, 3)) (cwX2 a c σ x0 hx0)) rfl hl.1 rfl (Nat.le_of_ble_eq_true rfl) dX2_faultOf_28 ⟨Nat.zero_le _, Nat.zero_le _⟩ (fun H locs hP hS => ?_)
        refine lv_if_eq (tgt := 38) hx hb dX2_faultOf_31 (by decide) (fun c_8 => ?_) (fun c_8 => ?_)
        · have hf := oit c_8 hf
          refine lv_iconst (v := (3 : Int32)) hx hb dX2_faultOf_38 (by decide) ?_
          exact hret _ _ _ _ _ _ dX2_faultOf_39 rfl hP hS ⟨Option.some.inj hf, rfl⟩
        have hf := oif c_8 hf
        refine lv_iconst (v := (0 : Int32)) hx hb dX2_faultOf_34 (by decide) ?_
        refine lv_goto (tgt := 39) hx hb dX2_faultOf_35 (by decide) ?_
        exact hret _ _ _ _ _ _ dX2_faultOf_39 rfl hP hS ⟨Option.some.inj hf, rfl⟩
      have hf := oif c_5 hf
      refine lv_iconst (v := (4 : Int32)) hx hb dX2_faultOf_23 (by decide) ?_
      exact hret _ _ _ _ _ _ dX2_faultOf_24 rfl hP hS ⟨Option.some.inj hf, rfl⟩
    have hf := oif c_4 hf
    refine lv_iconst (v := (2 : Int32)) hx hb dX2_faultOf_17 (by decide) ?_
    exact hret _ _ _ _ _ _ dX2_faultOf_18 rfl hP hS ⟨Option.some.inj hf, rfl⟩
  have hf := oif c_3 hf
  refine lv_iconst (v := (1 : Int32)) hx hb dX2_faultOf_7 (by decide) ?_
  exact hret _ _ _ _ _ _ dX2_faultOf_8 rfl hP hS ⟨Option.some.inj hf, rfl⟩
theorem dX2_at_0 : decode cX2_at 0 = .ok (.iload_n 1, 1) := by decide +kernel
theorem dX2_at_1 : decode cX2_at 1 = .ok (.ifCond .lt 20, 3) := by decide +kernel
theorem dX2_at_4 : decode cX2_at 4 = .ok (.iload_n 1, 1) := by decide +kernel
theorem dX2_at_5 : decode cX2_at 5 = .ok (.aload_n 0, 1) := by decide +kernel
theorem dX2_at_6 : decode cX2_at 6 = .ok (.getfield 28, 3) := by decide +kernel
theorem dX2_at_9 : decode cX2_at 9 = .ok (.if_icmp .ge 12, 3) := by decide +kernel
theorem dX2_at_12 : decode cX2_at 12 = .ok (.aload_n 0, 1) := by decide +kernel
theorem dX2_at_13 : decode cX2_at 13 = .ok (.getfield 9, 3) := by decide +kernel
theorem dX2_at_16 : decode cX2_at 16 = .ok (.iload_n 1, 1) := by decide +kernel
theorem dX2_at_17 : decode cX2_at 17 = .ok (.iaload, 1) := by decide +kernel
theorem dX2_at_18 : decode cX2_at 18 = .ok (.goto 4, 3) := by decide +kernel
theorem dX2_at_21 : decode cX2_at 21 = .ok (.iconst 0, 1) := by decide +kernel
theorem dX2_at_22 : decode cX2_at 22 = .ok (.ireturn, 1) := by decide +kernel
def f_X2_at (x0 : Nat) (x1 : Int32) (σ : St) : Option Int32 :=
  if x1 < 0 then (some (0 : Int32))
  else if (σ.1 5 x0) ≤ x1 then (some (0 : Int32))
  else gd (ck x1 60) <|
  some (σ.1 (12 + x0) x1.toNatClampNeg)
abbrev rmX2_at : Room := { frames := 0, cells := 0, slots := 0, locals := 0 }
set_option maxRecDepth 100000 in
set_option maxHeartbeats 4000000 in
theorem c_X2_at (l : Launch) (D : va_G) (a : Nat → Nat) (c : Nat → ClassId) (A : Nat → Prop) (hD : ∀ σ, va_D A (cW a c σ)) (x0 : Nat) (x1 : Int32) (σ : St) (hx0 : x0 < 4) (r : Int32) (hf : f_X2_at x0 x1 σ = some r) : MetI l yX2_at cX2_at 2 (some .int) rmX2_at (cW a c) D c A [.ref (a (15 + x0)), .int x1] σ r σ := by
  refine mkI (by decide) (Nat.le_of_ble_eq_true rfl) rfl ?_
  intro p e s m args below meth cd Q ls h0 hK hP hret hl
  obtain ⟨S, hr, hlk⟩ := h0
  obtain ⟨hx, hb, hml, hown, ht⟩ := id S
  have hS : va_S A s.heap s.heap [] := va_S.rf
  have hl : lv_has ls 2 [(0, .ref (a (15 + x0))), (1, .int x1)] := hl
  have hf := obs hf
  have hf := oun (f_X2_at.eq_1 _ _ _) hf
  refine lv_iload_n hx hb dX2_at_0 rfl (lv_at hl 1 rfl) ?_
  refine lv_if_lt (tgt := 21) hx hb dX2_at_1 (by decide) (fun c_1 => ?_) (fun c_1 => ?_)
  · have hf := oit c_1 hf
    refine lv_iconst (v := (0 : Int32)) hx hb dX2_at_21 (by decide) ?_
    exact hret _ _ _ _ _ _ dX2_at_22 rfl hP hS ⟨Option.some.inj hf, rfl⟩
  have hf := oif c_1 hf
  refine lv_iload_n hx hb dX2_at_4 rfl (lv_at hl 1 rfl) ?_
  refine lv_aload_n hx hb dX2_at_5 rfl (lv_at hl 0 rfl) ?_
  refine va_get (D := D) (ci := 2) (v := .int (σ.1 5 x0)) (C := RX2) (T := TX2) (N := 3) hx hb ht gX2 hown hK.1 hP (15 + x0) (cwX2 a c σ x0 hx0) rfl 2 (by decide) (ht _ q93) (fun _ h9 => h9) rfl dX2_at_6 ?_
  refine lv_icmp_ge (tgt := 21) hx hb dX2_at_9 (by decide) (fun c_2 => ?_) (fun c_2 => ?_)
  · have hf := oit c_2 hf
    refine lv_iconst (v := (0 : Int32)) hx hb dX2_at_21 (by decide) ?_
    exact hret _ _ _ _ _ _ dX2_at_22 rfl hP hS ⟨Option.some.inj hf, rfl⟩
  have hf := oif c_2 hf
  refine lv_aload_n hx hb dX2_at_12 rfl (lv_at hl 0 rfl) ?_
  refine va_get (D := D) (ci := 2) (v := .ref (a (19 + x0))) (C := RX2) (T := TX2) (N := 3) hx hb ht gX2 hown hK.1 hP (15 + x0) (cwX2 a c σ x0 hx0) rfl 0 (by decide) (ht _ q44) (fun _ h9 => h9) rfl dX2_at_13 ?_
  refine lv_iload_n hx hb dX2_at_16 rfl (lv_at hl 1 rfl) ?_
  obtain ⟨g_3, hf⟩ := ogd hf
  refine va_iald hx hb hK.1 hP (19 + x0) 0 (cwcells a c σ x0 hx0) rfl (ck_in g_3) dX2_at_17 ?_
  refine lv_goto (tgt := 22) hx hb dX2_at_18 (by decide) ?_
  exact hret _ _ _ _ _ _ dX2_at_22 rfl hP hS ⟨Option.some.inj hf, rfl⟩
theorem dX4_firstFault_0 : decode cX4_firstFault 0 = .ok (.iconst 0, 1) := by decide +kernel
theorem dX4_firstFault_1 : decode cX4_firstFault 1 = .ok (.istore_n 3, 1) := by decide +kernel
theorem dX4_firstFault_2 : decode cX4_firstFault 2 = .ok (.iload_n 3, 1) := by decide +kernel
theorem dX4_firstFault_3 : decode cX4_firstFault 3 = .ok (.iload_n 2, 1) := by decide +kernel
theorem dX4_firstFault_4 : decode cX4_firstFault 4 = .ok (.if_icmp .ge 34, 3) := by decide +kernel
theorem dX4_firstFault_7 : decode cX4_firstFault 7 = .ok (.iload_n 3, 1) := by decide +kernel
theorem dX4_firstFault_8 : decode cX4_firstFault 8 = .ok (.aload_n 0, 1) := by decide +kernel
theorem dX4_firstFault_9 : decode cX4_firstFault 9 = .ok (.iload_n 1, 1) := by decide +kernel
theorem dX4_firstFault_10 : decode cX4_firstFault 10 = .ok (.iload_n 3, 1) := by decide +kernel
theorem dX4_firstFault_11 : decode cX4_firstFault 11 = .ok (.iadd, 1) := by decide +kernel
theorem dX4_firstFault_12 : decode cX4_firstFault 12 = .ok (.invokevirtual 11, 3) := by decide +kernel
theorem dX4_firstFault_15 : decode cX4_firstFault 15 = .ok (.aload_n 0, 1) := by decide +kernel
theorem dX4_firstFault_16 : decode cX4_firstFault 16 = .ok (.iload_n 1, 1) := by decide +kernel
theorem dX4_firstFault_17 : decode cX4_firstFault 17 = .ok (.iload_n 3, 1) := by decide +kernel
theorem dX4_firstFault_18 : decode cX4_firstFault 18 = .ok (.iadd, 1) := by decide +kernel
theorem dX4_firstFault_19 : decode cX4_firstFault 19 = .ok (.iconst 1, 1) := by decide +kernel
theorem dX4_firstFault_20 : decode cX4_firstFault 20 = .ok (.isub, 1) := by decide +kernel
theorem dX4_firstFault_21 : decode cX4_firstFault 21 = .ok (.invokevirtual 11, 3) := by decide +kernel
theorem dX4_firstFault_24 : decode cX4_firstFault 24 = .ok (.invokestatic 17, 3) := by decide +kernel
theorem dX4_firstFault_27 : decode cX4_firstFault 27 = .ok (.ifCond .ne 5, 3) := by decide +kernel
theorem dX4_firstFault_30 : decode cX4_firstFault 30 = .ok (.iload_n 3, 1) := by decide +kernel
theorem dX4_firstFault_31 : decode cX4_firstFault 31 = .ok (.ireturn, 1) := by decide +kernel
theorem dX4_firstFault_32 : decode cX4_firstFault 32 = .ok (.iinc 3 1, 3) := by decide +kernel
theorem dX4_firstFault_35 : decode cX4_firstFault 35 = .ok (.goto (-33), 3) := by decide +kernel
theorem dX4_firstFault_38 : decode cX4_firstFault 38 = .ok (.iload_n 2, 1) := by decide +kernel
theorem dX4_firstFault_39 : decode cX4_firstFault 39 = .ok (.iconst 1, 1) := by decide +kernel
theorem dX4_firstFault_40 : decode cX4_firstFault 40 = .ok (.if_icmp .le 15, 3) := by decide +kernel
theorem dX4_firstFault_43 : decode cX4_firstFault 43 = .ok (.iload_n 2, 1) := by decide +kernel
theorem dX4_firstFault_44 : decode cX4_firstFault 44 = .ok (.iconst 4, 1) := by decide +kernel
theorem dX4_firstFault_45 : decode cX4_firstFault 45 = .ok (.irem, 1) := by decide +kernel
theorem dX4_firstFault_46 : decode cX4_firstFault 46 = .ok (.iconst 1, 1) := by decide +kernel
theorem dX4_firstFault_47 : decode cX4_firstFault 47 = .ok (.if_icmp .ne 8, 3) := by decide +kernel
theorem dX4_firstFault_50 : decode cX4_firstFault 50 = .ok (.bipush (-9), 2) := by decide +kernel
theorem dX4_firstFault_52 : decode cX4_firstFault 52 = .ok (.goto 4, 3) := by decide +kernel
theorem dX4_firstFault_55 : decode cX4_firstFault 55 = .ok (.iload_n 2, 1) := by decide +kernel
theorem dX4_firstFault_56 : decode cX4_firstFault 56 = .ok (.ireturn, 1) := by decide +kernel
def f_X4_firstFault_j55 (N : Nat) (x2 : Int32) (σ : St) : Option Int32 :=
  some x2
def f_X4_firstFault_j38 (N : Nat) (x2 : Int32) (σ : St) : Option Int32 :=
  if x2 ≤ (1 : Int32) then (f_X4_firstFault_j55 N x2 σ)
  else if (x2 - x2 / (4 : Int32) * (4 : Int32)) = (1 : Int32) then (some (-9 : Int32))
  else f_X4_firstFault_j55 N x2 σ
def f_X4_firstFault_b2 (N : Nat) (x0 : Nat) (x1 : Int32) (x2 : Int32) (x3 : Int32) (σ : St) : Option ((Int32) ⊕ (Int32 ⊕ (Unit))) :=
  if x2 ≤ x3 then (some (.inr (.inr ())))
  else bd (f_X2_at x0 (x1 + x3) σ) fun r_4 =>
  bd (f_X2_at x0 ((x1 + x3) - (1 : Int32)) σ) fun r_6 =>
  bd (f_X4_goesOn x3 r_4 r_6) fun r_8 =>
  if r_8 = 0 then (some (.inr (.inl x3)))
  else nm (x3 + (1 : Int32)) fun x3_11 =>
    some (.inl x3_11)
def f_X4_firstFault (N : Nat) (x0 : Nat) (x1 : Int32) (x2 : Int32) (σ : St) : Option Int32 :=
  bd (lpF (fun s => f_X4_firstFault_b2 N x0 x1 x2 s σ) N (0 : Int32)) (Sum.elim (fun v => some v) (fun o => f_X4_firstFault_j38 N x2 σ))
abbrev rmX4_firstFault : Room := { frames := 2, cells := 0, slots := 0, locals := 42 }
set_option maxRecDepth 100000 in
set_option maxHeartbeats 4000000 in
theorem c_X4_firstFault (l : Launch) (D : va_G) (a : Nat → Nat) (c : Nat → ClassId) (A : Nat → Prop) (hD : ∀ σ, va_D A (cW a c σ)) (N : Nat) (x0 : Nat) (x1 : Int32) (x2 : Int32) (σ : St) (hx0 : x0 < 4) (r : Int32) (hf : f_X4_firstFault N x0 x1 x2 σ = some r) : MetI l yX4_firstFault cX4_firstFault 4 (some .int) rmX4_firstFault (cW a c) D c A [.ref (a (15 + x0)), .int x1, .int x2] σ r σ := by
  refine mkI (by decide) (Nat.le_of_ble_eq_true rfl) rfl ?_
  intro p e s m args below meth cd Q ls h0 hK hP hret hl
  obtain ⟨S, hr, hlk⟩ := h0
  obtain ⟨hx, hb, hml, hown, ht⟩ := id S
  have hS : va_S A s.heap s.heap [] := va_S.rf
  have hl : lv_has ls 4 [(0, .ref (a (15 + x0))), (1, .int x1), (2, .int x2)] := hl
  have hf := obs hf
  have j55 : ∀ (x2 : Int32) (H : Heap) (locs : List Loc) (ls : Array Slot), lv_has ls 4 [(2, .int x2)] → va_P D vwCl (cW a c σ) H → va_S A s.heap H locs → Option.bind (f_X4_firstFault_j55 N x2 σ) some = some r → W p l e rmX4_firstFault s m args below meth cd H locs 0 0 Q (F0 m 55 ls []) := by
    intro x2 H locs ls hl hP hS hf
    have hf := oun (f_X4_firstFault_j55.eq_1 _ _ _) hf
    refine lv_iload_n hx hb dX4_firstFault_55 rfl (lv_at hl 0 rfl) ?_
    exact hret _ _ _ _ _ _ dX4_firstFault_56 rfl hP hS ⟨Option.some.inj hf, rfl⟩
  have j38 : ∀ (x2 : Int32) (H : Heap) (locs : List Loc) (ls : Array Slot), lv_has ls 4 [(2, .int x2)] → va_P D vwCl (cW a c σ) H → va_S A s.heap H locs → Option.bind (f_X4_firstFault_j38 N x2 σ) some = some r → W p l e rmX4_firstFault s m args below meth cd H locs 0 0 Q (F0 m 38 ls []) := by
    intro x2 H locs ls hl hP hS hf
    have hf := oun (f_X4_firstFault_j38.eq_1 _ _ _) hf
    refine lv_iload_n hx hb dX4_firstFault_38 rfl (lv_at hl 0 rfl) ?_
    refine lv_iconst (v := (1 : Int32)) hx hb dX4_firstFault_39 (by decide) ?_
    refine lv_icmp_le (tgt := 55) hx hb dX4_firstFault_40 (by decide) (fun c_1 => ?_) (fun c_1 => ?_)
    · have hf := oit c_1 hf
      exact j55 x2 _ _ _ (lv_sub hl [0] rfl) hP hS hf
    have hf := oif c_1 hf
    refine lv_iload_n hx hb dX4_firstFault_43 rfl (lv_at hl 0 rfl) ?_
    refine lv_iconst (v := (4 : Int32)) hx hb dX4_firstFault_44 (by decide) ?_
    refine lv_irem hx hb dX4_firstFault_45 (by decide) ?_
    refine lv_iconst (v := (1 : Int32)) hx hb dX4_firstFault_46 (by decide) ?_
    refine lv_icmp_ne (tgt := 55) hx hb dX4_firstFault_47 (by decide) (fun c_2 => ?_) (fun c_2 => ?_)
    · have hf := oif c_2 hf
      exact j55 x2 _ _ _ (lv_sub hl [0] rfl) hP hS hf
    have hf := oit c_2 hf
    refine lv_bipush (v := (-9 : Int32)) hx hb dX4_firstFault_50 (by decide) ?_
    refine lv_goto (tgt := 56) hx hb dX4_firstFault_52 (by decide) ?_
    exact hret _ _ _ _ _ _ dX4_firstFault_56 rfl hP hS ⟨Option.some.inj hf, rfl⟩
  have L2 : ∀ (x0 : Nat) (x1 : Int32) (x2 : Int32) (hx0 : x0 < 4) (k : Nat) (x3 : Int32) (H : Heap) (locs : List Loc) (ls : Array Slot), lv_has ls 4 [(0, .ref (a (15 + x0))), (1, .int x1), (2, .int x2), (3, .int x3)] → va_P D vwCl (cW a c σ) H → va_S A s.heap H locs → Option.bind (bd (lpF (fun s => f_X4_firstFault_b2 N x0 x1 x2 s σ) k x3) (Sum.elim (fun v => some v) (fun o => f_X4_firstFault_j38 N x2 σ))) some = some r → W p l e rmX4_firstFault s m args below meth cd H locs 0 0 Q (F0 m 2 ls []) := by
    intro x0 x1 x2 hx0 k
    induction k with
    | zero =>
      intro x3 H locs ls hl hP hS hf
      exact (ol0 hf).elim
    | succ k ih =>
      intro x3 H locs ls hl hP hS hf
      obtain ⟨K2, hf, hc2, hx2⟩ := ol1 hf
      have hf := oun (f_X4_firstFault_b2.eq_1 N x0 x1 x2 x3 σ) hf
      refine lv_iload_n hx hb dX4_firstFault_2 rfl (lv_at hl 3 rfl) ?_
      refine lv_iload_n hx hb dX4_firstFault_3 rfl (lv_at hl 2 rfl) ?_
      refine lv_icmp_ge (tgt := 38) hx hb dX4_firstFault_4 (by decide) (fun c_3 => ?_) (fun c_3 => ?_)
      · have hf := oit c_3 hf
        exact j38 x2 _ _ _ (lv_sub hl [2] rfl) hP hS (okx hf (hx2 _))
      have hf := oif c_3 hf
      refine lv_iload_n hx hb dX4_firstFault_7 rfl (lv_at hl 3 rfl) ?_
      refine lv_aload_n hx hb dX4_firstFault_8 rfl (lv_at hl 0 rfl) ?_
      refine lv_iload_n hx hb dX4_firstFault_9 rfl (lv_at hl 1 rfl) ?_
      refine lv_iload_n hx hb dX4_firstFault_10 rfl (lv_at hl 3 rfl) ?_
      refine lv_iadd hx hb dX4_firstFault_11 ?_
      obtain ⟨r_4, h_5, hf⟩ := obd hf
      refine xv_I (As := [.int (x1 + x3)]) (rest := [.int x3]) S k_X2_at q102 q103 q104 ⟨Nat.le_of_ble_eq_true rfl, Nat.le_of_ble_eq_true rfl⟩ ⟨rfl, rfl⟩ (c_X2_at l D a c A hD x0 (x1 + x3) σ hx0 r_4 h_5) hK hP hS (va_recv hK.1 hP (rfl : vwCl[2]? = some (RX2, TX2, 3)) (cwX2 a c σ x0 hx0)) rfl hl.1 rfl (Nat.le_of_ble_eq_true rfl) dX4_firstFault_12 ⟨Nat.zero_le _, Nat.zero_le _⟩ (fun H locs hP hS => ?_)
      refine lv_aload_n hx hb dX4_firstFault_15 rfl (lv_at hl 0 rfl) ?_
      refine lv_iload_n hx hb dX4_firstFault_16 rfl (lv_at hl 1 rfl) ?_
      refine lv_iload_n hx hb dX4_firstFault_17 rfl (lv_at hl 3 rfl) ?_
      refine lv_iadd hx hb dX4_firstFault_18 ?_
      refine lv_iconst (v := (1 : Int32)) hx hb dX4_firstFault_19 (by decide) ?_
      refine lv_isub hx hb dX4_firstFault_20 ?_
      obtain ⟨r_6, h_7, hf⟩ := obd hf
      refine xv_I (As := [.int ((x1 + x3) - (1 : Int32))]) (rest := [.int r_4, .int x3]) S k_X2_at q102 q103 q104 ⟨Nat.le_of_ble_eq_true rfl, Nat.le_of_ble_eq_true rfl⟩ ⟨rfl, rfl⟩ (c_X2_at l D a c A hD x0 ((x1 + x3) - (1 : Int32)) σ hx0 r_6 h_7) hK hP hS (va_recv hK.1 hP (rfl : vwCl[2]? = some (RX2, TX2, 3)) (cwX2 a c σ x0 hx0)) rfl hl.1 rfl (Nat.le_of_ble_eq_true rfl) dX4_firstFault_21 ⟨Nat.zero_le _, Nat.zero_le _⟩ (fun H locs hP hS => ?_)
      obtain ⟨r_8, h_9, hf⟩ := obd hf
      refine xs_S (As := [.int x3, .int r_4, .int r_6]) (rest := []) S k_X4_goesOn q106 q107 ⟨Nat.le_of_ble_eq_true rfl, Nat.le_of_ble_eq_true rfl⟩ ⟨rfl, rfl⟩ (c_X4_goesOn l x3 r_4 r_6 r_8 h_9) hK.2 rfl hl.1 rfl (Nat.le_of_ble_eq_true rfl) dX4_firstFault_24 ⟨Nat.zero_le _, Nat.zero_le _⟩ ?_
      refine lv_if_ne (tgt := 32) hx hb dX4_firstFault_27 (by decide) (fun c_10 => ?_) (fun c_10 => ?_)
      · have hf := oif c_10 hf
        obtain ⟨x3_11, ex3_11, hf⟩ := onm hf
        refine lv_iinc (v := x3_11) (lv' := [(3, .int x3_11), (0, .ref (a (15 + x0))), (1, .int x1), (2, .int x2)]) hx hb dX4_firstFault_32 hl (k := 3) rfl ex3_11 (by decide) rfl (fun ls hl => ?_)
        refine lv_goto (tgt := 2) hx hb dX4_firstFault_35 (by decide) ?_
        exact ih x3_11 _ _ _ (lv_sub hl [1, 2, 3, 0] rfl) hP hS (okx hf (hc2 _))
      have hf := oit c_10 hf
      refine lv_iload_n hx hb dX4_firstFault_30 rfl (lv_at hl 3 rfl) ?_
      have hf := okx hf (hx2 _)
      exact hret _ _ _ _ _ _ dX4_firstFault_31 rfl hP hS ⟨Option.some.inj hf, rfl⟩
  have hf := oun (f_X4_firstFault.eq_1 _ _ _ _ _) hf
  refine lv_iconst (v := (0 : Int32)) hx hb dX4_firstFault_0 (by decide) ?_
  refine lv_istore_n (lv' := [(3, .int (0 : Int32)), (0, .ref (a (15 + x0))), (1, .int x1), (2, .int x2)]) hx hb dX4_firstFault_1 rfl hl (by decide) rfl (fun ls hl => ?_)
  exact L2 x0 x1 x2 hx0 N (0 : Int32) _ _ _ (lv_sub hl [1, 2, 3, 0] rfl) hP hS hf
theorem dX4_tellDoll_0 : decode cX4_tellDoll 0 = .ok (.iload_n 1, 1) := by decide +kernel
theorem dX4_tellDoll_1 : decode cX4_tellDoll 1 = .ok (.iconst 1, 1) := by decide +kernel
theorem dX4_tellDoll_2 : decode cX4_tellDoll 2 = .ok (.iadd, 1) := by decide +kernel
theorem dX4_tellDoll_3 : decode cX4_tellDoll 3 = .ok (.iconst 4, 1) := by decide +kernel
theorem dX4_tellDoll_4 : decode cX4_tellDoll 4 = .ok (.iload_n 2, 1) := by decide +kernel
theorem dX4_tellDoll_5 : decode cX4_tellDoll 5 = .ok (.imul, 1) := by decide +kernel
theorem dX4_tellDoll_6 : decode cX4_tellDoll 6 = .ok (.iadd, 1) := by decide +kernel
theorem dX4_tellDoll_7 : decode cX4_tellDoll 7 = .ok (.iconst 1, 1) := by decide +kernel
theorem dX4_tellDoll_8 : decode cX4_tellDoll 8 = .ok (.iadd, 1) := by decide +kernel
theorem dX4_tellDoll_9 : decode cX4_tellDoll 9 = .ok (.istore 4, 2) := by decide +kernel
theorem dX4_tellDoll_11 : decode cX4_tellDoll 11 = .ok (.aload_n 3, 1) := by decide +kernel
theorem dX4_tellDoll_12 : decode cX4_tellDoll 12 = .ok (.aload_n 0, 1) := by decide +kernel
theorem dX4_tellDoll_13 : decode cX4_tellDoll 13 = .ok (.iload 4, 2) := by decide +kernel
theorem dX4_tellDoll_15 : decode cX4_tellDoll 15 = .ok (.invokevirtual 11, 3) := by decide +kernel
theorem dX4_tellDoll_18 : decode cX4_tellDoll 18 = .ok (.invokestatic 21, 3) := by decide +kernel
theorem dX4_tellDoll_21 : decode cX4_tellDoll 21 = .ok (.putfield 30, 3) := by decide +kernel
theorem dX4_tellDoll_24 : decode cX4_tellDoll 24 = .ok (.aload_n 3, 1) := by decide +kernel
theorem dX4_tellDoll_25 : decode cX4_tellDoll 25 = .ok (.aload_n 0, 1) := by decide +kernel
theorem dX4_tellDoll_26 : decode cX4_tellDoll 26 = .ok (.iload 4, 2) := by decide +kernel
theorem dX4_tellDoll_28 : decode cX4_tellDoll 28 = .ok (.iconst 1, 1) := by decide +kernel
theorem dX4_tellDoll_29 : decode cX4_tellDoll 29 = .ok (.iadd, 1) := by decide +kernel
theorem dX4_tellDoll_30 : decode cX4_tellDoll 30 = .ok (.invokevirtual 11, 3) := by decide +kernel
theorem dX4_tellDoll_33 : decode cX4_tellDoll 33 = .ok (.bipush 48, 2) := by decide +kernel
theorem dX4_tellDoll_35 : decode cX4_tellDoll 35 = .ok (.isub, 1) := by decide +kernel
theorem dX4_tellDoll_36 : decode cX4_tellDoll 36 = .ok (.putfield 36, 3) := by decide +kernel
theorem dX4_tellDoll_39 : decode cX4_tellDoll 39 = .ok (.aload_n 3, 1) := by decide +kernel
theorem dX4_tellDoll_40 : decode cX4_tellDoll 40 = .ok (.aload_n 0, 1) := by decide +kernel
theorem dX4_tellDoll_41 : decode cX4_tellDoll 41 = .ok (.iload 4, 2) := by decide +kernel
theorem dX4_tellDoll_43 : decode cX4_tellDoll 43 = .ok (.iconst 2, 1) := by decide +kernel
theorem dX4_tellDoll_44 : decode cX4_tellDoll 44 = .ok (.iadd, 1) := by decide +kernel
theorem dX4_tellDoll_45 : decode cX4_tellDoll 45 = .ok (.invokevirtual 11, 3) := by decide +kernel
theorem dX4_tellDoll_48 : decode cX4_tellDoll 48 = .ok (.bipush 48, 2) := by decide +kernel
theorem dX4_tellDoll_50 : decode cX4_tellDoll 50 = .ok (.isub, 1) := by decide +kernel
theorem dX4_tellDoll_51 : decode cX4_tellDoll 51 = .ok (.putfield 39, 3) := by decide +kernel
theorem dX4_tellDoll_54 : decode cX4_tellDoll 54 = .ok (.return_, 1) := by decide +kernel
def f_X4_tellDoll (x0 : Nat) (x1 : Int32) (x2 : Int32) (x3 : Nat) (σ : St) : Option St :=
  nm (((x1 + (1 : Int32)) + ((4 : Int32) * x2)) + (1 : Int32)) fun x4_1 =>
  bd (f_X2_at x0 x4_1 σ) fun r_2 =>
  bd (f_X4_kindOf r_2) fun r_4 =>
  nm (wS σ 1 x3 r_4) fun σ_6 =>
  bd (f_X2_at x0 (x4_1 + (1 : Int32)) σ_6) fun r_7 =>
  nm (wS σ_6 2 x3 (r_7 - (48 : Int32))) fun σ_9 =>
  bd (f_X2_at x0 (x4_1 + (2 : Int32)) σ_9) fun r_10 =>
  nm (wS σ_9 3 x3 (r_10 - (48 : Int32))) fun σ_12 =>
  some σ_12
abbrev rmX4_tellDoll : Room := { frames := 1, cells := 0, slots := 0, locals := 21 }
set_option maxRecDepth 100000 in
set_option maxHeartbeats 4000000 in
theorem c_X4_tellDoll (l : Launch) (D : va_G) (a : Nat → Nat) (c : Nat → ClassId) (A : Nat → Prop) (hD : ∀ σ, va_D A (cW a c σ)) (x0 : Nat) (x1 : Int32) (x2 : Int32) (x3 : Nat) (σ : St) (hx0 : x0 < 4) (hx3 : x3 < 4) (u : St) (hf : f_X4_tellDoll x0 x1 x2 x3 σ = some u) : MetV l yX4_tellDoll cX4_tellDoll 5 (none) rmX4_tellDoll (cW a c) D c A [.ref (a (15 + x0)), .int x1, .int x2, .ref (a (11 + x3))] σ u := by
  refine mkV (by decide) (Nat.le_of_ble_eq_true rfl) rfl ?_
  intro p e s m args below meth cd Q ls h0 hK hP hret hl
  obtain ⟨S, hr, hlk⟩ := h0
  obtain ⟨hx, hb, hml, hown, ht⟩ := id S
  have hS : va_S A s.heap s.heap [] := va_S.rf
  have hl : lv_has ls 5 [(0, .ref (a (15 + x0))), (1, .int x1), (2, .int x2), (3, .ref (a (11 + x3)))] := hl
  have hf := obs hf
  have hf := oun (f_X4_tellDoll.eq_1 _ _ _ _ _) hf
  refine lv_iload_n hx hb dX4_tellDoll_0 rfl (lv_at hl 1 rfl) ?_
  refine lv_iconst (v := (1 : Int32)) hx hb dX4_tellDoll_1 (by decide) ?_
  refine lv_iadd hx hb dX4_tellDoll_2 ?_
  refine lv_iconst (v := (4 : Int32)) hx hb dX4_tellDoll_3 (by decide) ?_
  refine lv_iload_n hx hb dX4_tellDoll_4 rfl (lv_at hl 2 rfl) ?_
  refine lv_imul hx hb dX4_tellDoll_5 ?_
  refine lv_iadd hx hb dX4_tellDoll_6 ?_
  refine lv_iconst (v := (1 : Int32)) hx hb dX4_tellDoll_7 (by decide) ?_
  refine lv_iadd hx hb dX4_tellDoll_8 ?_
  obtain ⟨x4_1, ex4_1, hf⟩ := onm hf
  refine lv_nm ex4_1 ?_
  refine lv_istore (lv' := [(4, .int x4_1), (0, .ref (a (15 + x0))), (1, .int x1), (2, .int x2), (3, .ref (a (11 + x3)))]) hx hb dX4_tellDoll_9 hl (by decide) rfl (fun ls hl => ?_)
  refine lv_aload_n hx hb dX4_tellDoll_11 rfl (lv_at hl 4 rfl) ?_
  refine lv_aload_n hx hb dX4_tellDoll_12 rfl (lv_at hl 1 rfl) ?_
  refine lv_iload hx hb dX4_tellDoll_13 (lv_at hl 0 rfl) ?_
  obtain ⟨r_2, h_3, hf⟩ := obd hf
  refine xv_I (As := [.int x4_1]) (rest := [.ref (a (11 + x3))]) S k_X2_at q102 q103 q104 ⟨Nat.le_of_ble_eq_true rfl, Nat.le_of_ble_eq_true rfl⟩ ⟨rfl, rfl⟩ (c_X2_at l D a c A hD x0 x4_1 σ hx0 r_2 h_3) hK hP hS (va_recv hK.1 hP (rfl : vwCl[2]? = some (RX2, TX2, 3)) (cwX2 a c σ x0 hx0)) rfl hl.1 rfl (Nat.le_of_ble_eq_true rfl) dX4_tellDoll_15 ⟨Nat.zero_le _, Nat.zero_le _⟩ (fun H locs hP hS => ?_)
  obtain ⟨r_4, h_5, hf⟩ := obd hf
  refine xs_S (As := [.int r_2]) (rest := [.ref (a (11 + x3))]) S k_X4_kindOf q109 q110 ⟨Nat.le_of_ble_eq_true rfl, Nat.le_of_ble_eq_true rfl⟩ ⟨rfl, rfl⟩ (c_X4_kindOf l r_2 r_4 h_5) hK.2 rfl hl.1 rfl (Nat.le_of_ble_eq_true rfl) dX4_tellDoll_18 ⟨Nat.zero_le _, Nat.zero_le _⟩ ?_
  refine va_put (D := D) (ci := 0) (v := .int r_4) (ty := .int) (C := RX0) (T := TX0) (N := 3) hx hb ht gX0 tyX0 tyX0_ok nmX0 hown hK.1 hP (hD σ) hS (11 + x3) (cwX0 a c σ x3 hx3) rfl 0 (by decide) (ht _ q129) (fun _ h9 => h9) rfl (by decide +kernel) rfl rfl (Nat.le_of_ble_eq_true rfl) dX4_tellDoll_21 (fun H locs hP _ hS => ?_)
  have hP := vP_eq (cpX0_kind a c σ x3 hx3 r_4) hP
  obtain ⟨σ_6, eσ_6, hf⟩ := onm hf
  rw [eσ_6] at hP
  refine lv_aload_n hx hb dX4_tellDoll_24 rfl (lv_at hl 4 rfl) ?_
  refine lv_aload_n hx hb dX4_tellDoll_25 rfl (lv_at hl 1 rfl) ?_
  refine lv_iload hx hb dX4_tellDoll_26 (lv_at hl 0 rfl) ?_
  refine lv_iconst (v := (1 : Int32)) hx hb dX4_tellDoll_28 (by decide) ?_
  refine lv_iadd hx hb dX4_tellDoll_29 ?_
  obtain ⟨r_7, h_8, hf⟩ := obd hf
  refine xv_I (As := [.int (x4_1 + (1 : Int32))]) (rest := [.ref (a (11 + x3))]) S k_X2_at q102 q103 q104 ⟨Nat.le_of_ble_eq_true rfl, Nat.le_of_ble_eq_true rfl⟩ ⟨rfl, rfl⟩ (c_X2_at l D a c A hD x0 (x4_1 + (1 : Int32)) σ_6 hx0 r_7 h_8) hK hP hS (va_recv hK.1 hP (rfl : vwCl[2]? = some (RX2, TX2, 3)) (cwX2 a c σ_6 x0 hx0)) rfl hl.1 rfl (Nat.le_of_ble_eq_true rfl) dX4_tellDoll_30 ⟨Nat.zero_le _, Nat.zero_le _⟩ (fun H locs hP hS => ?_)
  refine lv_bipush (v := (48 : Int32)) hx hb dX4_tellDoll_33 (by decide) ?_
  refine lv_isub hx hb dX4_tellDoll_35 ?_
  refine va_put (D := D) (ci := 0) (v := .int (r_7 - (48 : Int32))) (ty := .int) (C := RX0) (T := TX0) (N := 3) hx hb ht gX0 tyX0 tyX0_ok nmX0 hown hK.1 hP (hD σ_6) hS (11 + x3) (cwX0 a c σ_6 x3 hx3) rfl 1 (by decide) (ht _ q130) (fun _ h9 => h9) rfl (by decide +kernel) rfl rfl (Nat.le_of_ble_eq_true rfl) dX4_tellDoll_36 (fun H locs hP _ hS => ?_)
  have hP := vP_eq (cpX0_girth a c σ_6 x3 hx3 (r_7 - (48 : Int32))) hP
  obtain ⟨σ_9, eσ_9, hf⟩ := onm hf
  rw [eσ_9] at hP
  refine lv_aload_n hx hb dX4_tellDoll_39 rfl (lv_at hl 4 rfl) ?_
  refine lv_aload_n hx hb dX4_tellDoll_40 rfl (lv_at hl 1 rfl) ?_
  refine lv_iload hx hb dX4_tellDoll_41 (lv_at hl 0 rfl) ?_
  refine lv_iconst (v := (2 : Int32)) hx hb dX4_tellDoll_43 (by decide) ?_
  refine lv_iadd hx hb dX4_tellDoll_44 ?_
  obtain ⟨r_10, h_11, hf⟩ := obd hf
  refine xv_I (As := [.int (x4_1 + (2 : Int32))]) (rest := [.ref (a (11 + x3))]) S k_X2_at q102 q103 q104 ⟨Nat.le_of_ble_eq_true rfl, Nat.le_of_ble_eq_true rfl⟩ ⟨rfl, rfl⟩ (c_X2_at l D a c A hD x0 (x4_1 + (2 : Int32)) σ_9 hx0 r_10 h_11) hK hP hS (va_recv hK.1 hP (rfl : vwCl[2]? = some (RX2, TX2, 3)) (cwX2 a c σ_9 x0 hx0)) rfl hl.1 rfl (Nat.le_of_ble_eq_true rfl) dX4_tellDoll_45 ⟨Nat.zero_le _, Nat.zero_le _⟩ (fun H locs hP hS => ?_)
  refine lv_bipush (v := (48 : Int32)) hx hb dX4_tellDoll_48 (by decide) ?_
  refine lv_isub hx hb dX4_tellDoll_50 ?_
  refine va_put (D := D) (ci := 0) (v := .int (r_10 - (48 : Int32))) (ty := .int) (C := RX0) (T := TX0) (N := 3) hx hb ht gX0 tyX0 tyX0_ok nmX0 hown hK.1 hP (hD σ_9) hS (11 + x3) (cwX0 a c σ_9 x3 hx3) rfl 2 (by decide) (ht _ q131) (fun _ h9 => h9) rfl (by decide +kernel) rfl rfl (Nat.le_of_ble_eq_true rfl) dX4_tellDoll_51 (fun H locs hP _ hS => ?_)
  have hP := vP_eq (cpX0_room a c σ_9 x3 hx3 (r_10 - (48 : Int32))) hP
  obtain ⟨σ_12, eσ_12, hf⟩ := onm hf
  rw [eσ_12] at hP
  exact hret _ _ _ _ _ dX4_tellDoll_54 hP hS (Option.some.inj hf)
theorem dX0_wide_0 : decode cX0_wide 0 = .ok (.aload_n 0, 1) := by decide +kernel
theorem dX0_wide_1 : decode cX0_wide 1 = .ok (.getfield 15, 3) := by decide +kernel
theorem dX0_wide_4 : decode cX0_wide 4 = .ok (.iconst 1, 1) := by decide +kernel
theorem dX0_wide_5 : decode cX0_wide 5 = .ok (.if_icmp .ne 10, 3) := by decide +kernel
theorem dX0_wide_8 : decode cX0_wide 8 = .ok (.aload_n 0, 1) := by decide +kernel
theorem dX0_wide_9 : decode cX0_wide 9 = .ok (.getfield 9, 3) := by decide +kernel
theorem dX0_wide_12 : decode cX0_wide 12 = .ok (.iconst 1, 1) := by decide +kernel
theorem dX0_wide_13 : decode cX0_wide 13 = .ok (.iadd, 1) := by decide +kernel
theorem dX0_wide_14 : decode cX0_wide 14 = .ok (.ireturn, 1) := by decide +kernel
theorem dX0_wide_15 : decode cX0_wide 15 = .ok (.aload_n 0, 1) := by decide +kernel
theorem dX0_wide_16 : decode cX0_wide 16 = .ok (.getfield 15, 3) := by decide +kernel
theorem dX0_wide_19 : decode cX0_wide 19 = .ok (.iconst 2, 1) := by decide +kernel
theorem dX0_wide_20 : decode cX0_wide 20 = .ok (.if_icmp .ne 12, 3) := by decide +kernel
theorem dX0_wide_23 : decode cX0_wide 23 = .ok (.iconst 2, 1) := by decide +kernel
theorem dX0_wide_24 : decode cX0_wide 24 = .ok (.aload_n 0, 1) := by decide +kernel
theorem dX0_wide_25 : decode cX0_wide 25 = .ok (.getfield 9, 3) := by decide +kernel
theorem dX0_wide_28 : decode cX0_wide 28 = .ok (.imul, 1) := by decide +kernel
theorem dX0_wide_29 : decode cX0_wide 29 = .ok (.goto 7, 3) := by decide +kernel
theorem dX0_wide_32 : decode cX0_wide 32 = .ok (.aload_n 0, 1) := by decide +kernel
theorem dX0_wide_33 : decode cX0_wide 33 = .ok (.getfield 9, 3) := by decide +kernel
theorem dX0_wide_36 : decode cX0_wide 36 = .ok (.ireturn, 1) := by decide +kernel
def f_X0_wide (x0 : Nat) (σ : St) : Option Int32 :=
  if (σ.1 1 x0) = (1 : Int32) then (some ((σ.1 2 x0) + (1 : Int32)))
  else if (σ.1 1 x0) = (2 : Int32) then (some ((2 : Int32) * (σ.1 2 x0)))
    else some (σ.1 2 x0)
abbrev rmX0_wide : Room := { frames := 0, cells := 0, slots := 0, locals := 0 }
set_option maxRecDepth 100000 in
set_option maxHeartbeats 4000000 in
theorem c_X0_wide (l : Launch) (D : va_G) (a : Nat → Nat) (c : Nat → ClassId) (A : Nat → Prop) (hD : ∀ σ, va_D A (cW a c σ)) (x0 : Nat) (σ : St) (hx0 : x0 < 4) (r : Int32) (hf : f_X0_wide x0 σ = some r) : MetI l yX0_wide cX0_wide 1 (some .int) rmX0_wide (cW a c) D c A [.ref (a (11 + x0))] σ r σ := by
  refine mkI (by decide) (Nat.le_of_ble_eq_true rfl) rfl ?_
  intro p e s m args below meth cd Q ls h0 hK hP hret hl
  obtain ⟨S, hr, hlk⟩ := h0
  obtain ⟨hx, hb, hml, hown, ht⟩ := id S
  have hS : va_S A s.heap s.heap [] := va_S.rf
  have hl : lv_has ls 1 [(0, .ref (a (11 + x0)))] := hl
  have hf := obs hf
  have hf := oun (f_X0_wide.eq_1 _ _) hf
  refine lv_aload_n hx hb dX0_wide_0 rfl (lv_at hl 0 rfl) ?_
  refine va_get (D := D) (ci := 0) (v := .int (σ.1 1 x0)) (C := RX0) (T := TX0) (N := 3) hx hb ht gX0 hown hK.1 hP (11 + x0) (cwX0 a c σ x0 hx0) rfl 0 (by decide) (ht _ q191) (fun _ h9 => h9) rfl dX0_wide_1 ?_
  refine lv_iconst (v := (1 : Int32)) hx hb dX0_wide_4 (by decide) ?_
  refine lv_icmp_ne (tgt := 15) hx hb dX0_wide_5 (by decide) (fun c_1 => ?_) (fun c_1 => ?_)
  · have hf := oif c_1 hf
    refine lv_aload_n hx hb dX0_wide_15 rfl (lv_at hl 0 rfl) ?_
    refine va_get (D := D) (ci := 0) (v := .int (σ.1 1 x0)) (C := RX0) (T := TX0) (N := 3) hx hb ht gX0 hown hK.1 hP (11 + x0) (cwX0 a c σ x0 hx0) rfl 0 (by decide) (ht _ q191) (fun _ h9 => h9) rfl dX0_wide_16 ?_
    refine lv_iconst (v := (2 : Int32)) hx hb dX0_wide_19 (by decide) ?_
    refine lv_icmp_ne (tgt := 32) hx hb dX0_wide_20 (by decide) (fun c_2 => ?_) (fun c_2 => ?_)
    · have hf := oif c_2 hf
      refine lv_aload_n hx hb dX0_wide_32 rfl (lv_at hl 0 rfl) ?_
      refine va_get (D := D) (ci := 0) (v := .int (σ.1 2 x0)) (C := RX0) (T := TX0) (N := 3) hx hb ht gX0 hown hK.1 hP (11 + x0) (cwX0 a c σ x0 hx0) rfl 1 (by decide) (ht _ q40) (fun _ h9 => h9) rfl dX0_wide_33 ?_
      exact hret _ _ _ _ _ _ dX0_wide_36 rfl hP hS ⟨Option.some.inj hf, rfl⟩
    have hf := oit c_2 hf
    refine lv_iconst (v := (2 : Int32)) hx hb dX0_wide_23 (by decide) ?_
    refine lv_aload_n hx hb dX0_wide_24 rfl (lv_at hl 0 rfl) ?_
    refine va_get (D := D) (ci := 0) (v := .int (σ.1 2 x0)) (C := RX0) (T := TX0) (N := 3) hx hb ht gX0 hown hK.1 hP (11 + x0) (cwX0 a c σ x0 hx0) rfl 1 (by decide) (ht _ q40) (fun _ h9 => h9) rfl dX0_wide_25 ?_
    refine lv_imul hx hb dX0_wide_28 ?_
    refine lv_goto (tgt := 36) hx hb dX0_wide_29 (by decide) ?_
    exact hret _ _ _ _ _ _ dX0_wide_36 rfl hP hS ⟨Option.some.inj hf, rfl⟩
  have hf := oit c_1 hf
  refine lv_aload_n hx hb dX0_wide_8 rfl (lv_at hl 0 rfl) ?_
  refine va_get (D := D) (ci := 0) (v := .int (σ.1 2 x0)) (C := RX0) (T := TX0) (N := 3) hx hb ht gX0 hown hK.1 hP (11 + x0) (cwX0 a c σ x0 hx0) rfl 1 (by decide) (ht _ q40) (fun _ h9 => h9) rfl dX0_wide_9 ?_
  refine lv_iconst (v := (1 : Int32)) hx hb dX0_wide_12 (by decide) ?_
  refine lv_iadd hx hb dX0_wide_13 ?_
  exact hret _ _ _ _ _ _ dX0_wide_14 rfl hP hS ⟨Option.some.inj hf, rfl⟩
theorem dX0_goesInto_0 : decode cX0_goesInto 0 = .ok (.aload_n 0, 1) := by decide +kernel
theorem dX0_goesInto_1 : decode cX0_goesInto 1 = .ok (.invokevirtual 18, 3) := by decide +kernel
theorem dX0_goesInto_4 : decode cX0_goesInto 4 = .ok (.aload_n 1, 1) := by decide +kernel
theorem dX0_goesInto_5 : decode cX0_goesInto 5 = .ok (.getfield 22, 3) := by decide +kernel
theorem dX0_goesInto_8 : decode cX0_goesInto 8 = .ok (.if_icmp .gt 7, 3) := by decide +kernel
theorem dX0_goesInto_11 : decode cX0_goesInto 11 = .ok (.iconst 1, 1) := by decide +kernel
theorem dX0_goesInto_12 : decode cX0_goesInto 12 = .ok (.goto 4, 3) := by decide +kernel
theorem dX0_goesInto_15 : decode cX0_goesInto 15 = .ok (.iconst 0, 1) := by decide +kernel
theorem dX0_goesInto_16 : decode cX0_goesInto 16 = .ok (.ireturn, 1) := by decide +kernel
def f_X0_goesInto (x0 : Nat) (x1 : Nat) (σ : St) : Option Int32 :=
  bd (f_X0_wide x0 σ) fun r_1 =>
  if (σ.1 3 x1) < r_1 then (some (0 : Int32))
  else some (1 : Int32)
abbrev rmX0_goesInto : Room := { frames := 1, cells := 0, slots := 0, locals := 20 }
set_option maxRecDepth 100000 in
set_option maxHeartbeats 4000000 in
theorem c_X0_goesInto (l : Launch) (D : va_G) (a : Nat → Nat) (c : Nat → ClassId) (A : Nat → Prop) (hD : ∀ σ, va_D A (cW a c σ)) (x0 : Nat) (x1 : Nat) (σ : St) (hx0 : x0 < 4) (hx1 : x1 < 4) (r : Int32) (hf : f_X0_goesInto x0 x1 σ = some r) : MetI l yX0_goesInto cX0_goesInto 2 (some .boolean) rmX0_goesInto (cW a c) D c A [.ref (a (11 + x0)), .ref (a (11 + x1))] σ r σ := by
  refine mkI (by decide) (Nat.le_of_ble_eq_true rfl) rfl ?_
  intro p e s m args below meth cd Q ls h0 hK hP hret hl
  obtain ⟨S, hr, hlk⟩ := h0
  obtain ⟨hx, hb, hml, hown, ht⟩ := id S
  have hS : va_S A s.heap s.heap [] := va_S.rf
  have hl : lv_has ls 2 [(0, .ref (a (11 + x0))), (1, .ref (a (11 + x1)))] := hl
  have hf := obs hf
  have hf := oun (f_X0_goesInto.eq_1 _ _ _) hf
  refine lv_aload_n hx hb dX0_goesInto_0 rfl (lv_at hl 0 rfl) ?_
  obtain ⟨r_1, h_2, hf⟩ := obd hf
  refine xv_I (As := []) (rest := []) S k_X0_wide q278 q188 q189 ⟨Nat.le_of_ble_eq_true rfl, Nat.le_of_ble_eq_true rfl⟩ ⟨rfl, rfl⟩ (c_X0_wide l D a c A hD x0 σ hx0 r_1 h_2) hK hP hS (va_recv hK.1 hP (rfl : vwCl[0]? = some (RX0, TX0, 3)) (cwX0 a c σ x0 hx0)) rfl hl.1 rfl (Nat.le_of_ble_eq_true rfl) dX0_goesInto_1 ⟨Nat.zero_le _, Nat.zero_le _⟩ (fun H locs hP hS => ?_)
  refine lv_aload_n hx hb dX0_goesInto_4 rfl (lv_at hl 1 rfl) ?_
  refine va_get (D := D) (ci := 0) (v := .int (σ.1 3 x1)) (C := RX0) (T := TX0) (N := 3) hx hb ht gX0 hown hK.1 hP (11 + x1) (cwX0 a c σ x1 hx1) rfl 2 (by decide) (ht _ q277) (fun _ h9 => h9) rfl dX0_goesInto_5 ?_
  refine lv_icmp_gt (tgt := 15) hx hb dX0_goesInto_8 (by decide) (fun c_3 => ?_) (fun c_3 => ?_)
  · have hf := oit c_3 hf
    refine lv_iconst (v := (0 : Int32)) hx hb dX0_goesInto_15 (by decide) ?_
    exact hret _ _ _ _ _ _ dX0_goesInto_16 (by decide) hP hS ⟨Option.some.inj hf, rfl⟩
  have hf := oif c_3 hf
  refine lv_iconst (v := (1 : Int32)) hx hb dX0_goesInto_11 (by decide) ?_
  refine lv_goto (tgt := 16) hx hb dX0_goesInto_12 (by decide) ?_
  exact hret _ _ _ _ _ _ dX0_goesInto_16 (by decide) hP hS ⟨Option.some.inj hf, rfl⟩
theorem dX2_isWithin_0 : decode cX2_isWithin 0 = .ok (.iconst 0, 1) := by decide +kernel
theorem dX2_isWithin_1 : decode cX2_isWithin 1 = .ok (.istore 5, 2) := by decide +kernel
theorem dX2_isWithin_3 : decode cX2_isWithin 3 = .ok (.iload 5, 2) := by decide +kernel
theorem dX2_isWithin_5 : decode cX2_isWithin 5 = .ok (.iload_n 2, 1) := by decide +kernel
theorem dX2_isWithin_6 : decode cX2_isWithin 6 = .ok (.if_icmp .ge 34, 3) := by decide +kernel
theorem dX2_isWithin_9 : decode cX2_isWithin 9 = .ok (.aload_n 0, 1) := by decide +kernel
theorem dX2_isWithin_10 : decode cX2_isWithin 10 = .ok (.iload_n 1, 1) := by decide +kernel
theorem dX2_isWithin_11 : decode cX2_isWithin 11 = .ok (.iload 5, 2) := by decide +kernel
theorem dX2_isWithin_13 : decode cX2_isWithin 13 = .ok (.iadd, 1) := by decide +kernel
theorem dX2_isWithin_14 : decode cX2_isWithin 14 = .ok (.invokevirtual 49, 3) := by decide +kernel
theorem dX2_isWithin_17 : decode cX2_isWithin 17 = .ok (.istore 6, 2) := by decide +kernel
theorem dX2_isWithin_19 : decode cX2_isWithin 19 = .ok (.iload 6, 2) := by decide +kernel
theorem dX2_isWithin_21 : decode cX2_isWithin 21 = .ok (.iload_n 3, 1) := by decide +kernel
theorem dX2_isWithin_22 : decode cX2_isWithin 22 = .ok (.if_icmp .lt 10, 3) := by decide +kernel
theorem dX2_isWithin_25 : decode cX2_isWithin 25 = .ok (.iload 6, 2) := by decide +kernel
theorem dX2_isWithin_27 : decode cX2_isWithin 27 = .ok (.iload 4, 2) := by decide +kernel
theorem dX2_isWithin_29 : decode cX2_isWithin 29 = .ok (.if_icmp .le 5, 3) := by decide +kernel
theorem dX2_isWithin_32 : decode cX2_isWithin 32 = .ok (.iconst 0, 1) := by decide +kernel
theorem dX2_isWithin_33 : decode cX2_isWithin 33 = .ok (.ireturn, 1) := by decide +kernel
theorem dX2_isWithin_34 : decode cX2_isWithin 34 = .ok (.iinc 5 1, 3) := by decide +kernel
theorem dX2_isWithin_37 : decode cX2_isWithin 37 = .ok (.goto (-34), 3) := by decide +kernel
theorem dX2_isWithin_40 : decode cX2_isWithin 40 = .ok (.iconst 1, 1) := by decide +kernel
theorem dX2_isWithin_41 : decode cX2_isWithin 41 = .ok (.ireturn, 1) := by decide +kernel
def f_X2_isWithin_j40 (N : Nat) (σ : St) : Option Int32 :=
  some (1 : Int32)
def f_X2_isWithin_b3 (N : Nat) (x0 : Nat) (x1 : Int32) (x2 : Int32) (x3 : Int32) (x4 : Int32) (x5 : Int32) (σ : St) : Option ((Int32) ⊕ (Int32 ⊕ (Unit))) :=
  if x2 ≤ x5 then (some (.inr (.inr ())))
  else bd (f_X2_at x0 (x1 + x5) σ) fun r_2 =>
  if r_2 < x3 then (some (.inr (.inl (0 : Int32))))
  else if r_2 ≤ x4 then (nm (x5 + (1 : Int32)) fun x5_6 =>
    some (.inl x5_6))
  else some (.inr (.inl (0 : Int32)))
def f_X2_isWithin (N : Nat) (x0 : Nat) (x1 : Int32) (x2 : Int32) (x3 : Int32) (x4 : Int32) (σ : St) : Option Int32 :=
  bd (lpF (fun s => f_X2_isWithin_b3 N x0 x1 x2 x3 x4 s σ) N (0 : Int32)) (Sum.elim (fun v => some v) (fun o => f_X2_isWithin_j40 N σ))
abbrev rmX2_isWithin : Room := { frames := 1, cells := 0, slots := 0, locals := 21 }
set_option maxRecDepth 100000 in
set_option maxHeartbeats 4000000 in
theorem c_X2_isWithin (l : Launch) (D : va_G) (a : Nat → Nat) (c : Nat → ClassId) (A : Nat → Prop) (hD : ∀ σ, va_D A (cW a c σ)) (N : Nat) (x0 : Nat) (x1 : Int32) (x2 : Int32) (x3 : Int32) (x4 : Int32) (σ : St) (hx0 : x0 < 4) (r : Int32) (hf : f_X2_isWithin N x0 x1 x2 x3 x4 σ = some r) : MetI l yX2_isWithin cX2_isWithin 7 (some .boolean) rmX2_isWithin (cW a c) D c A [.ref (a (15 + x0)), .int x1, .int x2, .int x3, .int x4] σ r σ := by
  refine mkI (by decide) (Nat.le_of_ble_eq_true rfl) rfl ?_
  intro p e s m args below meth cd Q ls h0 hK hP hret hl
  obtain ⟨S, hr, hlk⟩ := h0
  obtain ⟨hx, hb, hml, hown, ht⟩ := id S
  have hS : va_S A s.heap s.heap [] := va_S.rf
  have hl : lv_has ls 7 [(0, .ref (a (15 + x0))), (1, .int x1), (2, .int x2), (3, .int x3), (4, .int x4)] := hl
  have hf := obs hf
  have j40 : ∀ (H : Heap) (locs : List Loc) (ls : Array Slot), lv_has ls 7 [] → va_P D vwCl (cW a c σ) H → va_S A s.heap H locs → Option.bind (f_X2_isWithin_j40 N σ) some = some r → W p l e rmX2_isWithin s m args below meth cd H locs 0 0 Q (F0 m 40 ls []) := by
    intro H locs ls hl hP hS hf
    have hf := oun (f_X2_isWithin_j40.eq_1 _ _) hf
    refine lv_iconst (v := (1 : Int32)) hx hb dX2_isWithin_40 (by decide) ?_
    exact hret _ _ _ _ _ _ dX2_isWithin_41 (by decide) hP hS ⟨Option.some.inj hf, rfl⟩
  have L3 : ∀ (x0 : Nat) (x1 : Int32) (x2 : Int32) (x3 : Int32) (x4 : Int32) (hx0 : x0 < 4) (k : Nat) (x5 : Int32) (H : Heap) (locs : List Loc) (ls : Array Slot), lv_has ls 7 [(0, .ref (a (15 + x0))), (1, .int x1), (2, .int x2), (3, .int x3), (4, .int x4), (5, .int x5)] → va_P D vwCl (cW a c σ) H → va_S A s.heap H locs → Option.bind (bd (lpF (fun s => f_X2_isWithin_b3 N x0 x1 x2 x3 x4 s σ) k x5) (Sum.elim (fun v => some v) (fun o => f_X2_isWithin_j40 N σ))) some = some r → W p l e rmX2_isWithin s m args below meth cd H locs 0 0 Q (F0 m 3 ls []) := by
    intro x0 x1 x2 x3 x4 hx0 k
    induction k with
    | zero =>
      intro x5 H locs ls hl hP hS hf
      exact (ol0 hf).elim
    | succ k ih =>
      intro x5 H locs ls hl hP hS hf
      obtain ⟨K3, hf, hc3, hx3⟩ := ol1 hf
      have hf := oun (f_X2_isWithin_b3.eq_1 N x0 x1 x2 x3 x4 x5 σ) hf
      refine lv_iload hx hb dX2_isWithin_3 (lv_at hl 5 rfl) ?_
      refine lv_iload_n hx hb dX2_isWithin_5 rfl (lv_at hl 2 rfl) ?_
      refine lv_icmp_ge (tgt := 40) hx hb dX2_isWithin_6 (by decide) (fun c_1 => ?_) (fun c_1 => ?_)
      · have hf := oit c_1 hf
        exact j40 _ _ _ (lv_sub hl [] rfl) hP hS (okx hf (hx3 _))
      have hf := oif c_1 hf
      refine lv_aload_n hx hb dX2_isWithin_9 rfl (lv_at hl 0 rfl) ?_
      refine lv_iload_n hx hb dX2_isWithin_10 rfl (lv_at hl 1 rfl) ?_
      refine lv_iload hx hb dX2_isWithin_11 (lv_at hl 5 rfl) ?_
      refine lv_iadd hx hb dX2_isWithin_13 ?_
      obtain ⟨r_2, h_3, hf⟩ := obd hf
      refine xv_I (As := [.int (x1 + x5)]) (rest := []) S k_X2_at q377 q103 q104 ⟨Nat.le_of_ble_eq_true rfl, Nat.le_of_ble_eq_true rfl⟩ ⟨rfl, rfl⟩ (c_X2_at l D a c A hD x0 (x1 + x5) σ hx0 r_2 h_3) hK hP hS (va_recv hK.1 hP (rfl : vwCl[2]? = some (RX2, TX2, 3)) (cwX2 a c σ x0 hx0)) rfl hl.1 rfl (Nat.le_of_ble_eq_true rfl) dX2_isWithin_14 ⟨Nat.zero_le _, Nat.zero_le _⟩ (fun H locs hP hS => ?_)
      refine lv_istore (lv' := [(6, .int r_2), (0, .ref (a (15 + x0))), (1, .int x1), (2, .int x2), (3, .int x3), (4, .int x4), (5, .int x5)]) hx hb dX2_isWithin_17 hl (by decide) rfl (fun ls hl => ?_)
      refine lv_iload hx hb dX2_isWithin_19 (lv_at hl 0 rfl) ?_
      refine lv_iload_n hx hb dX2_isWithin_21 rfl (lv_at hl 4 rfl) ?_
      refine lv_icmp_lt (tgt := 32) hx hb dX2_isWithin_22 (by decide) (fun c_4 => ?_) (fun c_4 => ?_)
      · have hf := oit c_4 hf
        refine lv_iconst (v := (0 : Int32)) hx hb dX2_isWithin_32 (by decide) ?_
        have hf := okx hf (hx3 _)
        exact hret _ _ _ _ _ _ dX2_isWithin_33 (by decide) hP hS ⟨Option.some.inj hf, rfl⟩
      have hf := oif c_4 hf
      refine lv_iload hx hb dX2_isWithin_25 (lv_at hl 0 rfl) ?_
      refine lv_iload hx hb dX2_isWithin_27 (lv_at hl 5 rfl) ?_
      refine lv_icmp_le (tgt := 34) hx hb dX2_isWithin_29 (by decide) (fun c_5 => ?_) (fun c_5 => ?_)
      · have hf := oit c_5 hf
        obtain ⟨x5_6, ex5_6, hf⟩ := onm hf
        refine lv_iinc (v := x5_6) (lv' := [(5, .int x5_6), (6, .int r_2), (0, .ref (a (15 + x0))), (1, .int x1), (2, .int x2), (3, .int x3), (4, .int x4)]) hx hb dX2_isWithin_34 hl (k := 6) rfl ex5_6 (by decide) rfl (fun ls hl => ?_)
        refine lv_goto (tgt := 3) hx hb dX2_isWithin_37 (by decide) ?_
        exact ih x5_6 _ _ _ (lv_sub hl [2, 3, 4, 5, 6, 0] rfl) hP hS (okx hf (hc3 _))
      have hf := oif c_5 hf
      refine lv_iconst (v := (0 : Int32)) hx hb dX2_isWithin_32 (by decide) ?_
      have hf := okx hf (hx3 _)
      exact hret _ _ _ _ _ _ dX2_isWithin_33 (by decide) hP hS ⟨Option.some.inj hf, rfl⟩
  have hf := oun (f_X2_isWithin.eq_1 _ _ _ _ _ _ _) hf
  refine lv_iconst (v := (0 : Int32)) hx hb dX2_isWithin_0 (by decide) ?_
  refine lv_istore (lv' := [(5, .int (0 : Int32)), (0, .ref (a (15 + x0))), (1, .int x1), (2, .int x2), (3, .int x3), (4, .int x4)]) hx hb dX2_isWithin_1 hl (by decide) rfl (fun ls hl => ?_)
  exact L3 x0 x1 x2 x3 x4 hx0 N (0 : Int32) _ _ _ (lv_sub hl [1, 2, 3, 4, 5, 0] rfl) hP hS hf
theorem dX2_renew_0 : decode cX2_renew 0 = .ok (.aload_n 0, 1) := by decide +kernel
theorem dX2_renew_1 : decode cX2_renew 1 = .ok (.iload_n 1, 1) := by decide +kernel
theorem dX2_renew_2 : decode cX2_renew 2 = .ok (.putfield 15, 3) := by decide +kernel
theorem dX2_renew_5 : decode cX2_renew 5 = .ok (.aload_n 0, 1) := by decide +kernel
theorem dX2_renew_6 : decode cX2_renew 6 = .ok (.iconst 0, 1) := by decide +kernel
theorem dX2_renew_7 : decode cX2_renew 7 = .ok (.iload_n 2, 1) := by decide +kernel
theorem dX2_renew_8 : decode cX2_renew 8 = .ok (.bipush 60, 2) := by decide +kernel
theorem dX2_renew_10 : decode cX2_renew 10 = .ok (.invokestatic 19, 3) := by decide +kernel
theorem dX2_renew_13 : decode cX2_renew 13 = .ok (.invokestatic 25, 3) := by decide +kernel
theorem dX2_renew_16 : decode cX2_renew 16 = .ok (.putfield 28, 3) := by decide +kernel
theorem dX2_renew_19 : decode cX2_renew 19 = .ok (.aload_n 0, 1) := by decide +kernel
theorem dX2_renew_20 : decode cX2_renew 20 = .ok (.getfield 9, 3) := by decide +kernel
theorem dX2_renew_23 : decode cX2_renew 23 = .ok (.iconst 0, 1) := by decide +kernel
theorem dX2_renew_24 : decode cX2_renew 24 = .ok (.invokestatic 31, 3) := by decide +kernel
theorem dX2_renew_27 : decode cX2_renew 27 = .ok (.return_, 1) := by decide +kernel
def f_X2_renew (x0 : Nat) (x1 : Int32) (x2 : Int32) (σ : St) : Option St :=
  nm (wS σ 4 x0 x1) fun σ_1 =>
  nm (wS σ_1 5 x0 (if (0 : Int32) < (if (60 : Int32) < x2 then (60 : Int32) else x2) then (if (60 : Int32) < x2 then (60 : Int32) else x2) else (0 : Int32))) fun σ_2 =>
  nm (wG σ_2 (12 + x0) (fun j => if j < 60 then (0 : Int32) else σ_2.1 (12 + x0) j)) fun σ_3 =>
  some σ_3
abbrev rmX2_renew : Room := { frames := 1, cells := 0, slots := 0, locals := 24 }
set_option maxRecDepth 100000 in
set_option maxHeartbeats 4000000 in
theorem c_X2_renew (l : Launch) (D : va_G) (a : Nat → Nat) (c : Nat → ClassId) (A : Nat → Prop) (hD : ∀ σ, va_D A (cW a c σ)) (x0 : Nat) (x1 : Int32) (x2 : Int32) (σ : St) (hx0 : x0 < 4) (u : St) (hf : f_X2_renew x0 x1 x2 σ = some u) : MetV l yX2_renew cX2_renew 3 (none) rmX2_renew (cW a c) D c A [.ref (a (15 + x0)), .int x1, .int x2] σ u := by
  refine mkV (by decide) (Nat.le_of_ble_eq_true rfl) rfl ?_
  intro p e s m args below meth cd Q ls h0 hK hP hret hl
  obtain ⟨S, hr, hlk⟩ := h0
  obtain ⟨hx, hb, hml, hown, ht⟩ := id S
  have hS : va_S A s.heap s.heap [] := va_S.rf
  have hl : lv_has ls 3 [(0, .ref (a (15 + x0))), (1, .int x1), (2, .int x2)] := hl
  have hf := obs hf
  have hf := oun (f_X2_renew.eq_1 _ _ _ _) hf
  refine lv_aload_n hx hb dX2_renew_0 rfl (lv_at hl 0 rfl) ?_
  refine lv_iload_n hx hb dX2_renew_1 rfl (lv_at hl 1 rfl) ?_
  refine va_put (D := D) (ci := 2) (v := .int x1) (ty := .int) (C := RX2) (T := TX2) (N := 3) hx hb ht gX2 tyX2 tyX2_ok nmX2 hown hK.1 hP (hD σ) hS (15 + x0) (cwX2 a c σ x0 hx0) rfl 1 (by decide) (ht _ q45) (fun _ h9 => h9) rfl (by decide +kernel) rfl rfl (Nat.le_of_ble_eq_true rfl) dX2_renew_2 (fun H locs hP _ hS => ?_)
  have hP := vP_eq (cpX2_laneOfRow a c σ x0 hx0 x1) hP
  obtain ⟨σ_1, eσ_1, hf⟩ := onm hf
  rw [eσ_1] at hP
  refine lv_aload_n hx hb dX2_renew_5 rfl (lv_at hl 0 rfl) ?_
  refine lv_iconst (v := (0 : Int32)) hx hb dX2_renew_6 (by decide) ?_
  refine lv_iload_n hx hb dX2_renew_7 rfl (lv_at hl 2 rfl) ?_
  refine lv_bipush (v := (60 : Int32)) hx hb dX2_renew_8 (by decide) ?_
  refine va_mmin hx hb (hml.trans hl.1.symm) hown (ht _ q616) (ht _ q123) (ht _ q124) (ht _ q125) (by exact Nat.le_of_ble_eq_true rfl) (by exact Nat.le_of_ble_eq_true rfl) (Nat.zero_le _) (Nat.zero_le _) dX2_renew_10 ?_
  refine va_mmax hx hb (hml.trans hl.1.symm) hown (ht _ q617) (ht _ q396) (ht _ q124) (ht _ q397) (by exact Nat.le_of_ble_eq_true rfl) (by exact Nat.le_of_ble_eq_true rfl) (Nat.zero_le _) (Nat.zero_le _) dX2_renew_13 ?_
  refine va_put (D := D) (ci := 2) (v := .int (if (0 : Int32) < (if (60 : Int32) < x2 then (60 : Int32) else x2) then (if (60 : Int32) < x2 then (60 : Int32) else x2) else (0 : Int32))) (ty := .int) (C := RX2) (T := TX2) (N := 3) hx hb ht gX2 tyX2 tyX2_ok nmX2 hown hK.1 hP (hD σ_1) hS (15 + x0) (cwX2 a c σ_1 x0 hx0) rfl 2 (by decide) (ht _ q93) (fun _ h9 => h9) rfl (by decide +kernel) rfl rfl (Nat.le_of_ble_eq_true rfl) dX2_renew_16 (fun H locs hP _ hS => ?_)
  have hP := vP_eq (cpX2_size a c σ_1 x0 hx0 (if (0 : Int32) < (if (60 : Int32) < x2 then (60 : Int32) else x2) then (if (60 : Int32) < x2 then (60 : Int32) else x2) else (0 : Int32))) hP
  obtain ⟨σ_2, eσ_2, hf⟩ := onm hf
  rw [eσ_2] at hP
  refine lv_aload_n hx hb dX2_renew_19 rfl (lv_at hl 0 rfl) ?_
  refine va_get (D := D) (ci := 2) (v := .ref (a (19 + x0))) (C := RX2) (T := TX2) (N := 3) hx hb ht gX2 hown hK.1 hP (15 + x0) (cwX2 a c σ_2 x0 hx0) rfl 0 (by decide) (ht _ q44) (fun _ h9 => h9) rfl dX2_renew_20 ?_
  refine lv_iconst (v := (0 : Int32)) hx hb dX2_renew_23 (by decide) ?_
  refine xs_V (As := [.ref (a (19 + x0)), .int (0 : Int32)]) (rest := []) S k_J7_fill_53178 q618 q619 ⟨Nat.le_of_ble_eq_true rfl, Nat.le_of_ble_eq_true rfl⟩ ⟨rfl, rfl⟩ (c_fillI l D a c A hD σ_2 x0 hx0 (0 : Int32)) hK hP hS rfl hl.1 rfl (Nat.le_of_ble_eq_true rfl) dX2_renew_24 ⟨Nat.zero_le _, Nat.zero_le _⟩ (fun H locs hP hS => ?_)
  obtain ⟨σ_3, eσ_3, hf⟩ := onm hf
  rw [eσ_3] at hP
  exact hret _ _ _ _ _ dX2_renew_27 hP hS (Option.some.inj hf)
theorem dX2_clear_0 : decode cX2_clear 0 = .ok (.aload_n 0, 1) := by decide +kernel
theorem dX2_clear_1 : decode cX2_clear 1 = .ok (.iconst (-1), 1) := by decide +kernel
theorem dX2_clear_2 : decode cX2_clear 2 = .ok (.putfield 15, 3) := by decide +kernel
theorem dX2_clear_5 : decode cX2_clear 5 = .ok (.aload_n 0, 1) := by decide +kernel
theorem dX2_clear_6 : decode cX2_clear 6 = .ok (.iconst 0, 1) := by decide +kernel
theorem dX2_clear_7 : decode cX2_clear 7 = .ok (.putfield 28, 3) := by decide +kernel
theorem dX2_clear_10 : decode cX2_clear 10 = .ok (.return_, 1) := by decide +kernel
def f_X2_clear (x0 : Nat) (σ : St) : Option St :=
  nm (wS σ 4 x0 (-1 : Int32)) fun σ_1 =>
  nm (wS σ_1 5 x0 (0 : Int32)) fun σ_2 =>
  some σ_2
abbrev rmX2_clear : Room := { frames := 0, cells := 0, slots := 0, locals := 0 }
set_option maxRecDepth 100000 in
set_option maxHeartbeats 4000000 in
theorem c_X2_clear (l : Launch) (D : va_G) (a : Nat → Nat) (c : Nat → ClassId) (A : Nat → Prop) (hD : ∀ σ, va_D A (cW a c σ)) (x0 : Nat) (σ : St) (hx0 : x0 < 4) (u : St) (hf : f_X2_clear x0 σ = some u) : MetV l yX2_clear cX2_clear 1 (none) rmX2_clear (cW a c) D c A [.ref (a (15 + x0))] σ u := by
  refine mkV (by decide) (Nat.le_of_ble_eq_true rfl) rfl ?_
  intro p e s m args below meth cd Q ls h0 hK hP hret hl
  obtain ⟨S, hr, hlk⟩ := h0
  obtain ⟨hx, hb, hml, hown, ht⟩ := id S
  have hS : va_S A s.heap s.heap [] := va_S.rf
  have hl : lv_has ls 1 [(0, .ref (a (15 + x0)))] := hl
  have hf := obs hf
  have hf := oun (f_X2_clear.eq_1 _ _) hf
  refine lv_aload_n hx hb dX2_clear_0 rfl (lv_at hl 0 rfl) ?_
  refine lv_iconst (v := (-1 : Int32)) hx hb dX2_clear_1 (by decide) ?_
  refine va_put (D := D) (ci := 2) (v := .int (-1 : Int32)) (ty := .int) (C := RX2) (T := TX2) (N := 3) hx hb ht gX2 tyX2 tyX2_ok nmX2 hown hK.1 hP (hD σ) hS (15 + x0) (cwX2 a c σ x0 hx0) rfl 1 (by decide) (ht _ q45) (fun _ h9 => h9) rfl (by decide +kernel) rfl rfl (Nat.le_of_ble_eq_true rfl) dX2_clear_2 (fun H locs hP _ hS => ?_)
  have hP := vP_eq (cpX2_laneOfRow a c σ x0 hx0 (-1 : Int32)) hP
  obtain ⟨σ_1, eσ_1, hf⟩ := onm hf
  rw [eσ_1] at hP
  refine lv_aload_n hx hb dX2_clear_5 rfl (lv_at hl 0 rfl) ?_
  refine lv_iconst (v := (0 : Int32)) hx hb dX2_clear_6 (by decide) ?_
  refine va_put (D := D) (ci := 2) (v := .int (0 : Int32)) (ty := .int) (C := RX2) (T := TX2) (N := 3) hx hb ht gX2 tyX2 tyX2_ok nmX2 hown hK.1 hP (hD σ_1) hS (15 + x0) (cwX2 a c σ_1 x0 hx0) rfl 2 (by decide) (ht _ q93) (fun _ h9 => h9) rfl (by decide +kernel) rfl rfl (Nat.le_of_ble_eq_true rfl) dX2_clear_7 (fun H locs hP _ hS => ?_)
  have hP := vP_eq (cpX2_size a c σ_1 x0 hx0 (0 : Int32)) hP
  obtain ⟨σ_2, eσ_2, hf⟩ := onm hf
  rw [eσ_2] at hP
  exact hret _ _ _ _ _ dX2_clear_10 hP hS (Option.some.inj hf)
theorem dX2_cut_0 : decode cX2_cut 0 = .ok (.aload_n 0, 1) := by decide +kernel
theorem dX2_cut_1 : decode cX2_cut 1 = .ok (.getfield 15, 3) := by decide +kernel
theorem dX2_cut_4 : decode cX2_cut 4 = .ok (.ifCond .ne 6, 3) := by decide +kernel
theorem dX2_cut_7 : decode cX2_cut 7 = .ok (.iload_n 1, 1) := by decide +kernel
theorem dX2_cut_8 : decode cX2_cut 8 = .ok (.i2b, 1) := by decide +kernel
theorem dX2_cut_9 : decode cX2_cut 9 = .ok (.ireturn, 1) := by decide +kernel
theorem dX2_cut_10 : decode cX2_cut 10 = .ok (.aload_n 0, 1) := by decide +kernel
theorem dX2_cut_11 : decode cX2_cut 11 = .ok (.getfield 15, 3) := by decide +kernel
theorem dX2_cut_14 : decode cX2_cut 14 = .ok (.iconst 1, 1) := by decide +kernel
theorem dX2_cut_15 : decode cX2_cut 15 = .ok (.if_icmp .ne 8, 3) := by decide +kernel
theorem dX2_cut_18 : decode cX2_cut 18 = .ok (.iload_n 1, 1) := by decide +kernel
theorem dX2_cut_19 : decode cX2_cut 19 = .ok (.i2s, 1) := by decide +kernel
theorem dX2_cut_20 : decode cX2_cut 20 = .ok (.goto 4, 3) := by decide +kernel
theorem dX2_cut_23 : decode cX2_cut 23 = .ok (.iload_n 1, 1) := by decide +kernel
theorem dX2_cut_24 : decode cX2_cut 24 = .ok (.ireturn, 1) := by decide +kernel
def f_X2_cut (x0 : Nat) (x1 : Int32) (σ : St) : Option Int32 :=
  if (σ.1 4 x0) = 0 then (some (Int8.toInt32 (Int32.toInt8 x1)))
  else if (σ.1 4 x0) = (1 : Int32) then (some (Int16.toInt32 (Int32.toInt16 x1)))
    else some x1
abbrev rmX2_cut : Room := { frames := 0, cells := 0, slots := 0, locals := 0 }
set_option maxRecDepth 100000 in
set_option maxHeartbeats 4000000 in
theorem c_X2_cut (l : Launch) (D : va_G) (a : Nat → Nat) (c : Nat → ClassId) (A : Nat → Prop) (hD : ∀ σ, va_D A (cW a c σ)) (x0 : Nat) (x1 : Int32) (σ : St) (hx0 : x0 < 4) (r : Int32) (hf : f_X2_cut x0 x1 σ = some r) : MetI l yX2_cut cX2_cut 2 (some .int) rmX2_cut (cW a c) D c A [.ref (a (15 + x0)), .int x1] σ r σ := by
  refine mkI (by decide) (Nat.le_of_ble_eq_true rfl) rfl ?_
  intro p e s m args below meth cd Q ls h0 hK hP hret hl
  obtain ⟨S, hr, hlk⟩ := h0
  obtain ⟨hx, hb, hml, hown, ht⟩ := id S
  have hS : va_S A s.heap s.heap [] := va_S.rf
  have hl : lv_has ls 2 [(0, .ref (a (15 + x0))), (1, .int x1)] := hl
  have hf := obs hf
  have hf := oun (f_X2_cut.eq_1 _ _ _) hf
  refine lv_aload_n hx hb dX2_cut_0 rfl (lv_at hl 0 rfl) ?_
  refine va_get (D := D) (ci := 2) (v := .int (σ.1 4 x0)) (C := RX2) (T := TX2) (N := 3) hx hb ht gX2 hown hK.1 hP (15 + x0) (cwX2 a c σ x0 hx0) rfl 1 (by decide) (ht _ q45) (fun _ h9 => h9) rfl dX2_cut_1 ?_
  refine lv_if_ne (tgt := 10) hx hb dX2_cut_4 (by decide) (fun c_1 => ?_) (fun c_1 => ?_)
  · have hf := oif c_1 hf
    refine lv_aload_n hx hb dX2_cut_10 rfl (lv_at hl 0 rfl) ?_
    refine va_get (D := D) (ci := 2) (v := .int (σ.1 4 x0)) (C := RX2) (T := TX2) (N := 3) hx hb ht gX2 hown hK.1 hP (15 + x0) (cwX2 a c σ x0 hx0) rfl 1 (by decide) (ht _ q45) (fun _ h9 => h9) rfl dX2_cut_11 ?_
    refine lv_iconst (v := (1 : Int32)) hx hb dX2_cut_14 (by decide) ?_
    refine lv_icmp_ne (tgt := 23) hx hb dX2_cut_15 (by decide) (fun c_2 => ?_) (fun c_2 => ?_)
    · have hf := oif c_2 hf
      refine lv_iload_n hx hb dX2_cut_23 rfl (lv_at hl 1 rfl) ?_
      exact hret _ _ _ _ _ _ dX2_cut_24 rfl hP hS ⟨Option.some.inj hf, rfl⟩
    have hf := oit c_2 hf
    refine lv_iload_n hx hb dX2_cut_18 rfl (lv_at hl 1 rfl) ?_
    refine lv_i2s (v := (Int16.toInt32 (Int32.toInt16 x1))) hx hb dX2_cut_19 rfl ?_
    refine lv_goto (tgt := 24) hx hb dX2_cut_20 (by decide) ?_
    exact hret _ _ _ _ _ _ dX2_cut_24 rfl hP hS ⟨Option.some.inj hf, rfl⟩
  have hf := oit c_1 hf
  refine lv_iload_n hx hb dX2_cut_7 rfl (lv_at hl 1 rfl) ?_
  refine lv_i2b (v := (Int8.toInt32 (Int32.toInt8 x1))) hx hb dX2_cut_8 rfl ?_
  exact hret _ _ _ _ _ _ dX2_cut_9 rfl hP hS ⟨Option.some.inj hf, rfl⟩
theorem dX2_write_0 : decode cX2_write 0 = .ok (.iload_n 1, 1) := by decide +kernel
theorem dX2_write_1 : decode cX2_write 1 = .ok (.ifCond .lt 22, 3) := by decide +kernel
theorem dX2_write_4 : decode cX2_write 4 = .ok (.iload_n 1, 1) := by decide +kernel
theorem dX2_write_5 : decode cX2_write 5 = .ok (.aload_n 0, 1) := by decide +kernel
theorem dX2_write_6 : decode cX2_write 6 = .ok (.getfield 28, 3) := by decide +kernel
theorem dX2_write_9 : decode cX2_write 9 = .ok (.if_icmp .ge 14, 3) := by decide +kernel
theorem dX2_write_12 : decode cX2_write 12 = .ok (.aload_n 0, 1) := by decide +kernel
theorem dX2_write_13 : decode cX2_write 13 = .ok (.getfield 9, 3) := by decide +kernel
theorem dX2_write_16 : decode cX2_write 16 = .ok (.iload_n 1, 1) := by decide +kernel
theorem dX2_write_17 : decode cX2_write 17 = .ok (.aload_n 0, 1) := by decide +kernel
theorem dX2_write_18 : decode cX2_write 18 = .ok (.iload_n 2, 1) := by decide +kernel
theorem dX2_write_19 : decode cX2_write 19 = .ok (.invokevirtual 37, 3) := by decide +kernel
theorem dX2_write_22 : decode cX2_write 22 = .ok (.iastore, 1) := by decide +kernel
theorem dX2_write_23 : decode cX2_write 23 = .ok (.return_, 1) := by decide +kernel
def f_X2_write (x0 : Nat) (x1 : Int32) (x2 : Int32) (σ : St) : Option St :=
  if x1 < 0 then (some σ)
  else if (σ.1 5 x0) ≤ x1 then (some σ)
  else bd (f_X2_cut x0 x2 σ) fun r_3 =>
  gd (ck x1 60) <|
  nm (wS σ (12 + x0) (Int32.toNatClampNeg x1) r_3) fun σ_6 =>
  some σ_6
abbrev rmX2_write : Room := { frames := 1, cells := 0, slots := 0, locals := 21 }
set_option maxRecDepth 100000 in
set_option maxHeartbeats 4000000 in
theorem c_X2_write (l : Launch) (D : va_G) (a : Nat → Nat) (c : Nat → ClassId) (A : Nat → Prop) (hD : ∀ σ, va_D A (cW a c σ)) (x0 : Nat) (x1 : Int32) (x2 : Int32) (σ : St) (hx0 : x0 < 4) (u : St) (hf : f_X2_write x0 x1 x2 σ = some u) : MetV l yX2_write cX2_write 3 (none) rmX2_write (cW a c) D c A [.ref (a (15 + x0)), .int x1, .int x2] σ u := by
  refine mkV (by decide) (Nat.le_of_ble_eq_true rfl) rfl ?_
  intro p e s m args below meth cd Q ls h0 hK hP hret hl
  obtain ⟨S, hr, hlk⟩ := h0
  obtain ⟨hx, hb, hml, hown, ht⟩ := id S
  have hS : va_S A s.heap s.heap [] := va_S.rf
  have hl : lv_has ls 3 [(0, .ref (a (15 + x0))), (1, .int x1), (2, .int x2)] := hl
  have hf := obs hf
  have hf := oun (f_X2_write.eq_1 _ _ _ _) hf
  refine lv_iload_n hx hb dX2_write_0 rfl (lv_at hl 1 rfl) ?_
  refine lv_if_lt (tgt := 23) hx hb dX2_write_1 (by decide) (fun c_1 => ?_) (fun c_1 => ?_)
  · have hf := oit c_1 hf
    exact hret _ _ _ _ _ dX2_write_23 hP hS (Option.some.inj hf)
  have hf := oif c_1 hf
  refine lv_iload_n hx hb dX2_write_4 rfl (lv_at hl 1 rfl) ?_
  refine lv_aload_n hx hb dX2_write_5 rfl (lv_at hl 0 rfl) ?_
  refine va_get (D := D) (ci := 2) (v := .int (σ.1 5 x0)) (C := RX2) (T := TX2) (N := 3) hx hb ht gX2 hown hK.1 hP (15 + x0) (cwX2 a c σ x0 hx0) rfl 2 (by decide) (ht _ q93) (fun _ h9 => h9) rfl dX2_write_6 ?_
  refine lv_icmp_ge (tgt := 23) hx hb dX2_write_9 (by decide) (fun c_2 => ?_) (fun c_2 => ?_)
  · have hf := oit c_2 hf
    exact hret _ _ _ _ _ dX2_write_23 hP hS (Option.some.inj hf)
  have hf := oif c_2 hf
  refine lv_aload_n hx hb dX2_write_12 rfl (lv_at hl 0 rfl) ?_
  refine va_get (D := D) (ci := 2) (v := .ref (a (19 + x0))) (C := RX2) (T := TX2) (N := 3) hx hb ht gX2 hown hK.1 hP (15 + x0) (cwX2 a c σ x0 hx0) rfl 0 (by decide) (ht _ q44) (fun _ h9 => h9) rfl dX2_write_13 ?_
  refine lv_iload_n hx hb dX2_write_16 rfl (lv_at hl 1 rfl) ?_
  refine lv_aload_n hx hb dX2_write_17 rfl (lv_at hl 0 rfl) ?_
  refine lv_iload_n hx hb dX2_write_18 rfl (lv_at hl 2 rfl) ?_
  obtain ⟨r_3, h_4, hf⟩ := obd hf
  refine xv_I (As := [.int x2]) (rest := [.int x1, .ref (a (19 + x0))]) S k_X2_cut q647 q648 q649 ⟨Nat.le_of_ble_eq_true rfl, Nat.le_of_ble_eq_true rfl⟩ ⟨rfl, rfl⟩ (c_X2_cut l D a c A hD x0 x2 σ hx0 r_3 h_4) hK hP hS (va_recv hK.1 hP (rfl : vwCl[2]? = some (RX2, TX2, 3)) (cwX2 a c σ x0 hx0)) rfl hl.1 rfl (Nat.le_of_ble_eq_true rfl) dX2_write_19 ⟨Nat.zero_le _, Nat.zero_le _⟩ (fun H locs hP hS => ?_)
  obtain ⟨g_5, hf⟩ := ogd hf
  refine va_iast hx hb hK.1 hP (hD σ) hS (19 + x0) 0 (cwcells a c σ x0 hx0) rfl (ck_in g_5) dX2_write_22 (fun H locs hP _ hS => ?_)
  have hP := vP_eq (cpA_cells a c σ x0 hx0 (Int32.toNatClampNeg x1) r_3) hP
  obtain ⟨σ_6, eσ_6, hf⟩ := onm hf
  rw [eσ_6] at hP
  exact hret _ _ _ _ _ dX2_write_23 hP hS (Option.some.inj hf)
theorem dX2_isLike_0 : decode cX2_isLike 0 = .ok (.aload_n 0, 1) := by decide +kernel
theorem dX2_isLike_1 : decode cX2_isLike 1 = .ok (.getfield 15, 3) := by decide +kernel
theorem dX2_isLike_4 : decode cX2_isLike 4 = .ok (.aload_n 1, 1) := by decide +kernel
theorem dX2_isLike_5 : decode cX2_isLike 5 = .ok (.getfield 15, 3) := by decide +kernel
theorem dX2_isLike_8 : decode cX2_isLike 8 = .ok (.if_icmp .ne 7, 3) := by decide +kernel
theorem dX2_isLike_11 : decode cX2_isLike 11 = .ok (.iconst 1, 1) := by decide +kernel
theorem dX2_isLike_12 : decode cX2_isLike 12 = .ok (.goto 4, 3) := by decide +kernel
theorem dX2_isLike_15 : decode cX2_isLike 15 = .ok (.iconst 0, 1) := by decide +kernel
theorem dX2_isLike_16 : decode cX2_isLike 16 = .ok (.ireturn, 1) := by decide +kernel
def f_X2_isLike (x0 : Nat) (x1 : Nat) (σ : St) : Option Int32 :=
  if (σ.1 4 x0) = (σ.1 4 x1) then (some (1 : Int32))
  else some (0 : Int32)
abbrev rmX2_isLike : Room := { frames := 0, cells := 0, slots := 0, locals := 0 }
set_option maxRecDepth 100000 in
set_option maxHeartbeats 4000000 in
theorem c_X2_isLike (l : Launch) (D : va_G) (a : Nat → Nat) (c : Nat → ClassId) (A : Nat → Prop) (hD : ∀ σ, va_D A (cW a c σ)) (x0 : Nat) (x1 : Nat) (σ : St) (hx0 : x0 < 4) (hx1 : x1 < 4) (r : Int32) (hf : f_X2_isLike x0 x1 σ = some r) : MetI l yX2_isLike cX2_isLike 2 (some .boolean) rmX2_isLike (cW a c) D c A [.ref (a (15 + x0)), .ref (a (15 + x1))] σ r σ := by
  refine mkI (by decide) (Nat.le_of_ble_eq_true rfl) rfl ?_
  intro p e s m args below meth cd Q ls h0 hK hP hret hl
  obtain ⟨S, hr, hlk⟩ := h0
  obtain ⟨hx, hb, hml, hown, ht⟩ := id S
  have hS : va_S A s.heap s.heap [] := va_S.rf
  have hl : lv_has ls 2 [(0, .ref (a (15 + x0))), (1, .ref (a (15 + x1)))] := hl
  have hf := obs hf
  have hf := oun (f_X2_isLike.eq_1 _ _ _) hf
  refine lv_aload_n hx hb dX2_isLike_0 rfl (lv_at hl 0 rfl) ?_
  refine va_get (D := D) (ci := 2) (v := .int (σ.1 4 x0)) (C := RX2) (T := TX2) (N := 3) hx hb ht gX2 hown hK.1 hP (15 + x0) (cwX2 a c σ x0 hx0) rfl 1 (by decide) (ht _ q45) (fun _ h9 => h9) rfl dX2_isLike_1 ?_
  refine lv_aload_n hx hb dX2_isLike_4 rfl (lv_at hl 1 rfl) ?_
  refine va_get (D := D) (ci := 2) (v := .int (σ.1 4 x1)) (C := RX2) (T := TX2) (N := 3) hx hb ht gX2 hown hK.1 hP (15 + x1) (cwX2 a c σ x1 hx1) rfl 1 (by decide) (ht _ q45) (fun _ h9 => h9) rfl dX2_isLike_5 ?_
  refine lv_icmp_ne (tgt := 15) hx hb dX2_isLike_8 (by decide) (fun c_1 => ?_) (fun c_1 => ?_)
  · have hf := oif c_1 hf
    refine lv_iconst (v := (0 : Int32)) hx hb dX2_isLike_15 (by decide) ?_
    exact hret _ _ _ _ _ _ dX2_isLike_16 (by decide) hP hS ⟨Option.some.inj hf, rfl⟩
  have hf := oit c_1 hf
  refine lv_iconst (v := (1 : Int32)) hx hb dX2_isLike_11 (by decide) ?_
  refine lv_goto (tgt := 16) hx hb dX2_isLike_12 (by decide) ?_
  exact hret _ _ _ _ _ _ dX2_isLike_16 (by decide) hP hS ⟨Option.some.inj hf, rfl⟩
theorem dX2_send_0 : decode cX2_send 0 = .ok (.aload_n 0, 1) := by decide +kernel
theorem dX2_send_1 : decode cX2_send 1 = .ok (.iload_n 1, 1) := by decide +kernel
theorem dX2_send_2 : decode cX2_send 2 = .ok (.iload 4, 2) := by decide +kernel
theorem dX2_send_4 : decode cX2_send 4 = .ok (.invokevirtual 45, 3) := by decide +kernel
theorem dX2_send_7 : decode cX2_send 7 = .ok (.ifCond .eq 28, 3) := by decide +kernel
theorem dX2_send_10 : decode cX2_send 10 = .ok (.aload_n 2, 1) := by decide +kernel
theorem dX2_send_11 : decode cX2_send 11 = .ok (.iload_n 3, 1) := by decide +kernel
theorem dX2_send_12 : decode cX2_send 12 = .ok (.iload 4, 2) := by decide +kernel
theorem dX2_send_14 : decode cX2_send 14 = .ok (.invokevirtual 45, 3) := by decide +kernel
theorem dX2_send_17 : decode cX2_send 17 = .ok (.ifCond .eq 18, 3) := by decide +kernel
theorem dX2_send_20 : decode cX2_send 20 = .ok (.aload_n 0, 1) := by decide +kernel
theorem dX2_send_21 : decode cX2_send 21 = .ok (.getfield 9, 3) := by decide +kernel
theorem dX2_send_24 : decode cX2_send 24 = .ok (.iload_n 1, 1) := by decide +kernel
theorem dX2_send_25 : decode cX2_send 25 = .ok (.aload_n 2, 1) := by decide +kernel
theorem dX2_send_26 : decode cX2_send 26 = .ok (.getfield 9, 3) := by decide +kernel
theorem dX2_send_29 : decode cX2_send 29 = .ok (.iload_n 3, 1) := by decide +kernel
theorem dX2_send_30 : decode cX2_send 30 = .ok (.iload 4, 2) := by decide +kernel
theorem dX2_send_32 : decode cX2_send 32 = .ok (.invokestatic 52, 3) := by decide +kernel
theorem dX2_send_35 : decode cX2_send 35 = .ok (.return_, 1) := by decide +kernel
def f_X2_send (x0 : Nat) (x1 : Int32) (x2 : Nat) (x3 : Int32) (x4 : Int32) (σ : St) : Option St :=
  bd (f_X2_hasCells x0 x1 x4 σ) fun r_1 =>
  if r_1 = 0 then (some σ)
  else bd (f_X2_hasCells x2 x3 x4 σ) fun r_4 =>
  if r_4 = 0 then (some σ)
  else gd (decide (¬ x1 < 0)) <|
  gd (decide (¬ x3 < 0)) <|
  gd (decide (¬ x4 < 0)) <|
  gd (decide (Int32.toNatClampNeg x1 + Int32.toNatClampNeg x4 ≤ 60)) <|
  gd (decide (Int32.toNatClampNeg x3 + Int32.toNatClampNeg x4 ≤ 60)) <|
  nm (wG σ (12 + x2) (va_cpy (σ.1 (12 + x0)) (σ.1 (12 + x2)) (Int32.toNatClampNeg x1) (Int32.toNatClampNeg x3) (Int32.toNatClampNeg x4))) fun σ_12 =>
  some σ_12
abbrev rmX2_send : Room := { frames := 1, cells := 0, slots := 0, locals := 80 }
set_option maxRecDepth 100000 in
set_option maxHeartbeats 4000000 in
theorem c_X2_send (l : Launch) (D : va_G) (a : Nat → Nat) (c : Nat → ClassId) (A : Nat → Prop) (hD : ∀ σ, va_D A (cW a c σ)) (x0 : Nat) (x1 : Int32) (x2 : Nat) (x3 : Int32) (x4 : Int32) (σ : St) (hx0 : x0 < 4) (hx2 : x2 < 4) (u : St) (hf : f_X2_send x0 x1 x2 x3 x4 σ = some u) : MetV l yX2_send cX2_send 5 (none) rmX2_send (cW a c) D c A [.ref (a (15 + x0)), .int x1, .ref (a (15 + x2)), .int x3, .int x4] σ u := by
  refine mkV (by decide) (Nat.le_of_ble_eq_true rfl) rfl ?_
  intro p e s m args below meth cd Q ls h0 hK hP hret hl
  obtain ⟨S, hr, hlk⟩ := h0
  obtain ⟨hx, hb, hml, hown, ht⟩ := id S
  have hS : va_S A s.heap s.heap [] := va_S.rf
  have hl : lv_has ls 5 [(0, .ref (a (15 + x0))), (1, .int x1), (2, .ref (a (15 + x2))), (3, .int x3), (4, .int x4)] := hl
  have hf := obs hf
  have hf := oun (f_X2_send.eq_1 _ _ _ _ _ _) hf
  refine lv_aload_n hx hb dX2_send_0 rfl (lv_at hl 0 rfl) ?_
  refine lv_iload_n hx hb dX2_send_1 rfl (lv_at hl 1 rfl) ?_
  refine lv_iload hx hb dX2_send_2 (lv_at hl 4 rfl) ?_
  obtain ⟨r_1, h_2, hf⟩ := obd hf
  refine xv_I (As := [.int x1, .int x4]) (rest := []) S k_X2_hasCells q89 q90 q91 ⟨Nat.le_of_ble_eq_true rfl, Nat.le_of_ble_eq_true rfl⟩ ⟨rfl, rfl⟩ (c_X2_hasCells l D a c A hD x0 x1 x4 σ hx0 r_1 h_2) hK hP hS (va_recv hK.1 hP (rfl : vwCl[2]? = some (RX2, TX2, 3)) (cwX2 a c σ x0 hx0)) rfl hl.1 rfl (Nat.le_of_ble_eq_true rfl) dX2_send_4 ⟨Nat.zero_le _, Nat.zero_le _⟩ (fun H locs hP hS => ?_)
  refine lv_if_eq (tgt := 35) hx hb dX2_send_7 (by decide) (fun c_3 => ?_) (fun c_3 => ?_)
  · have hf := oit c_3 hf
    exact hret _ _ _ _ _ dX2_send_35 hP hS (Option.some.inj hf)
  have hf := oif c_3 hf
  refine lv_aload_n hx hb dX2_send_10 rfl (lv_at hl 2 rfl) ?_
  refine lv_iload_n hx hb dX2_send_11 rfl (lv_at hl 3 rfl) ?_
  refine lv_iload hx hb dX2_send_12 (lv_at hl 4 rfl) ?_
  obtain ⟨r_4, h_5, hf⟩ := obd hf
  refine xv_I (As := [.int x3, .int x4]) (rest := []) S k_X2_hasCells q89 q90 q91 ⟨Nat.le_of_ble_eq_true rfl, Nat.le_of_ble_eq_true rfl⟩ ⟨rfl, rfl⟩ (c_X2_hasCells l D a c A hD x2 x3 x4 σ hx2 r_4 h_5) hK hP hS (va_recv hK.1 hP (rfl : vwCl[2]? = some (RX2, TX2, 3)) (cwX2 a c σ x2 hx2)) rfl hl.1 rfl (Nat.le_of_ble_eq_true rfl) dX2_send_14 ⟨Nat.zero_le _, Nat.zero_le _⟩ (fun H locs hP hS => ?_)
  refine lv_if_eq (tgt := 35) hx hb dX2_send_17 (by decide) (fun c_6 => ?_) (fun c_6 => ?_)
  · have hf := oit c_6 hf
    exact hret _ _ _ _ _ dX2_send_35 hP hS (Option.some.inj hf)
  have hf := oif c_6 hf
  refine lv_aload_n hx hb dX2_send_20 rfl (lv_at hl 0 rfl) ?_
  refine va_get (D := D) (ci := 2) (v := .ref (a (19 + x0))) (C := RX2) (T := TX2) (N := 3) hx hb ht gX2 hown hK.1 hP (15 + x0) (cwX2 a c σ x0 hx0) rfl 0 (by decide) (ht _ q44) (fun _ h9 => h9) rfl dX2_send_21 ?_
  refine lv_iload_n hx hb dX2_send_24 rfl (lv_at hl 1 rfl) ?_
  refine lv_aload_n hx hb dX2_send_25 rfl (lv_at hl 2 rfl) ?_
  refine va_get (D := D) (ci := 2) (v := .ref (a (19 + x2))) (C := RX2) (T := TX2) (N := 3) hx hb ht gX2 hown hK.1 hP (15 + x2) (cwX2 a c σ x2 hx2) rfl 0 (by decide) (ht _ q44) (fun _ h9 => h9) rfl dX2_send_26 ?_
  refine lv_iload_n hx hb dX2_send_29 rfl (lv_at hl 3 rfl) ?_
  refine lv_iload hx hb dX2_send_30 (lv_at hl 4 rfl) ?_
  obtain ⟨g_7, hf⟩ := ogd hf
  obtain ⟨g_8, hf⟩ := ogd hf
  obtain ⟨g_9, hf⟩ := ogd hf
  obtain ⟨g_10, hf⟩ := ogd hf
  obtain ⟨g_11, hf⟩ := ogd hf
  refine va_copyi hx hb (hml.trans hl.1.symm) hown (ht _ q679) (ht _ q680) (ht _ q681) (ht _ q682) hK.1 hP (hD σ) hS (19 + x0) (19 + x2) 0 0 (cwcells a c σ x0 hx0) (cwcells a c σ x2 hx2) rfl rfl rfl (of_decide_eq_true g_7) (of_decide_eq_true g_8) (of_decide_eq_true g_9) (of_decide_eq_true g_10) (of_decide_eq_true g_11) (fun _ _ => rfl) (Nat.le_of_ble_eq_true rfl) (by decide +kernel) dX2_send_32 (fun H locs hP _ hS => ?_)
  have hP := vP_eq (cpG_cells a c σ x2 hx2 (va_cpy (σ.1 (12 + x0)) (σ.1 (12 + x2)) (Int32.toNatClampNeg x1) (Int32.toNatClampNeg x3) (Int32.toNatClampNeg x4))) hP
  obtain ⟨σ_12, eσ_12, hf⟩ := onm hf
  rw [eσ_12] at hP
  exact hret _ _ _ _ _ dX2_send_35 hP hS (Option.some.inj hf)
