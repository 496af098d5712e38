theorem dX5_ofStand_0 : decode cX5_ofStand 0 = .ok (.iload_n 2, 1) := by decide +kernel
theorem dX5_ofStand_1 : decode cX5_ofStand 1 = .ok (.tableswitch 64 0 4 #[35, 64, 41, 46, 55], 35) := by decide +kernel
theorem dX5_ofStand_36 : decode cX5_ofStand 36 = .ok (.aload_n 0, 1) := by decide +kernel
theorem dX5_ofStand_37 : decode cX5_ofStand 37 = .ok (.iload_n 1, 1) := by decide +kernel
theorem dX5_ofStand_38 : decode cX5_ofStand 38 = .ok (.invokevirtual 149, 3) := by decide +kernel
theorem dX5_ofStand_41 : decode cX5_ofStand 41 = .ok (.ireturn, 1) := by decide +kernel
theorem dX5_ofStand_42 : decode cX5_ofStand 42 = .ok (.iload_n 1, 1) := by decide +kernel
theorem dX5_ofStand_43 : decode cX5_ofStand 43 = .ok (.invokestatic 171, 3) := by decide +kernel
theorem dX5_ofStand_46 : decode cX5_ofStand 46 = .ok (.ireturn, 1) := by decide +kernel
theorem dX5_ofStand_47 : decode cX5_ofStand 47 = .ok (.iload_n 1, 1) := by decide +kernel
theorem dX5_ofStand_48 : decode cX5_ofStand 48 = .ok (.aload_n 0, 1) := by decide +kernel
theorem dX5_ofStand_49 : decode cX5_ofStand 49 = .ok (.getfield 72, 3) := by decide +kernel
theorem dX5_ofStand_52 : decode cX5_ofStand 52 = .ok (.invokestatic 121, 3) := by decide +kernel
theorem dX5_ofStand_55 : decode cX5_ofStand 55 = .ok (.ireturn, 1) := by decide +kernel
theorem dX5_ofStand_56 : decode cX5_ofStand 56 = .ok (.iload_n 1, 1) := by decide +kernel
theorem dX5_ofStand_57 : decode cX5_ofStand 57 = .ok (.aload_n 0, 1) := by decide +kernel
theorem dX5_ofStand_58 : decode cX5_ofStand 58 = .ok (.getfield 72, 3) := by decide +kernel
theorem dX5_ofStand_61 : decode cX5_ofStand 61 = .ok (.invokestatic 174, 3) := by decide +kernel
theorem dX5_ofStand_64 : decode cX5_ofStand 64 = .ok (.ireturn, 1) := by decide +kernel
theorem dX5_ofStand_65 : decode cX5_ofStand 65 = .ok (.aload_n 0, 1) := by decide +kernel
theorem dX5_ofStand_66 : decode cX5_ofStand 66 = .ok (.iload_n 2, 1) := by decide +kernel
theorem dX5_ofStand_67 : decode cX5_ofStand 67 = .ok (.bipush 10, 2) := by decide +kernel
theorem dX5_ofStand_69 : decode cX5_ofStand 69 = .ok (.isub, 1) := by decide +kernel
theorem dX5_ofStand_70 : decode cX5_ofStand 70 = .ok (.invokevirtual 93, 3) := by decide +kernel
theorem dX5_ofStand_73 : decode cX5_ofStand 73 = .ok (.ifCond .eq 14, 3) := by decide +kernel
theorem dX5_ofStand_76 : decode cX5_ofStand 76 = .ok (.iload_n 1, 1) := by decide +kernel
theorem dX5_ofStand_77 : decode cX5_ofStand 77 = .ok (.iload_n 2, 1) := by decide +kernel
theorem dX5_ofStand_78 : decode cX5_ofStand 78 = .ok (.bipush 10, 2) := by decide +kernel
theorem dX5_ofStand_80 : decode cX5_ofStand 80 = .ok (.isub, 1) := by decide +kernel
theorem dX5_ofStand_81 : decode cX5_ofStand 81 = .ok (.invokestatic 109, 3) := by decide +kernel
theorem dX5_ofStand_84 : decode cX5_ofStand 84 = .ok (.goto 5, 3) := by decide +kernel
theorem dX5_ofStand_87 : decode cX5_ofStand 87 = .ok (.bipush (-9), 2) := by decide +kernel
theorem dX5_ofStand_89 : decode cX5_ofStand 89 = .ok (.ireturn, 1) := by decide +kernel
def f_X5_ofStand (N : Nat) (x1 : Int32) (x2 : Int32) (σ : St) : Option Int32 :=
  if x2 = (0 : Int32) then (bd (f_X5_manyOnTable N x1 σ) fun r_2 =>
    some r_2)
  else if x2 = (1 : Int32) then (bd (f_X5_isDoll (x2 - (10 : Int32)) σ) fun r_5 =>
    if r_5 = 0 then (some (-9 : Int32))
    else bd (f_X3_placeOf x1 (x2 - (10 : Int32))) fun r_8 =>
    some r_8)
  else if x2 = (2 : Int32) then (bd (f_X3_openSet x1) fun r_11 =>
    some r_11)
  else if x2 = (3 : Int32) then (bd (f_X3_handSet N x1 (σ.1 0 0)) fun r_14 =>
    some r_14)
  else if x2 = (4 : Int32) then (bd (f_X3_mostWithin N x1 (σ.1 0 0)) fun r_17 =>
    some r_17)
  else bd (f_X5_isDoll (x2 - (10 : Int32)) σ) fun r_19 =>
  if r_19 = 0 then (some (-9 : Int32))
  else bd (f_X3_placeOf x1 (x2 - (10 : Int32))) fun r_22 =>
  some r_22
abbrev rmX5_ofStand : Room := { frames := 4, cells := 0, slots := 0, locals := 92 }
set_option maxRecDepth 100000 in
set_option maxHeartbeats 4000000 in
theorem c_X5_ofStand (l : Launch) (D : va_G) (a : Nat → Nat) (c : Nat → ClassId) (A : Nat → Prop) (hD : ∀ σ, va_D A (cW a c σ)) (N : Nat) (x1 : Int32) (x2 : Int32) (σ : St) (r : Int32) (hf : f_X5_ofStand N x1 x2 σ = some r) : MetI l yX5_ofStand cX5_ofStand 3 (some .int) rmX5_ofStand (cW a c) D c A [.ref (a 0), .int x1, .int x2] σ r σ := by
  refine mkI (by decide) (Nat.le_of_ble_eq_true rfl) rfl ?_
  intro p e s m args below meth cd Q ls h0 hK hP hret hl
  obtain ⟨S, hr, hlk⟩ := h0
  obtain ⟨hx, hb, hml, hown, ht⟩ := id S
  have hS : va_S A s.heap s.heap [] := va_S.rf
  have hl : lv_has ls 3 [(0, .ref (a 0)), (1, .int x1), (2, .int x2)] := hl
  have hf := obs hf
  have hf := oun (f_X5_ofStand.eq_1 _ _ _ _) hf
  refine lv_iload_n hx hb dX5_ofStand_0 rfl (lv_at hl 2 rfl) ?_
  by_cases c_1 : x2 = (0 : Int32)
  · have hf := oit c_1 hf
    refine lv_tableIn (tgt := 36) (off := 35) hx hb dX5_ofStand_1 (by rw [c_1]; decide) (by rw [c_1]; decide) (by rw [c_1]; decide) (by decide) ?_
    refine lv_aload_n hx hb dX5_ofStand_36 rfl (lv_at hl 0 rfl) ?_
    refine lv_iload_n hx hb dX5_ofStand_37 rfl (lv_at hl 1 rfl) ?_
    obtain ⟨r_2, h_3, hf⟩ := obd hf
    refine xv_I (As := [.int x1]) (rest := []) S k_X5_manyOnTable q322 q323 q324 ⟨Nat.le_of_ble_eq_true rfl, Nat.le_of_ble_eq_true rfl⟩ ⟨rfl, rfl⟩ (c_X5_manyOnTable l D a c A hD N x1 σ r_2 h_3) hK hP hS (va_recv hK.1 hP (rfl : vwCl[3]? = some (RX5, TX5, 12)) (cw0 a c σ)) rfl hl.1 rfl (Nat.le_of_ble_eq_true rfl) dX5_ofStand_38 ⟨Nat.zero_le _, Nat.zero_le _⟩ (fun H locs hP hS => ?_)
    exact hret _ _ _ _ _ _ dX5_ofStand_41 rfl hP hS ⟨Option.some.inj hf, rfl⟩
  have hf := oif c_1 hf
  by_cases c_4 : x2 = (1 : Int32)
  · have hf := oit c_4 hf
    refine lv_tableIn (tgt := 65) (off := 64) hx hb dX5_ofStand_1 (by rw [c_4]; decide) (by rw [c_4]; decide) (by rw [c_4]; decide) (by decide) ?_
    refine lv_aload_n hx hb dX5_ofStand_65 rfl (lv_at hl 0 rfl) ?_
    refine lv_iload_n hx hb dX5_ofStand_66 rfl (lv_at hl 2 rfl) ?_
    refine lv_bipush (v := (10 : Int32)) hx hb dX5_ofStand_67 (by decide) ?_
    refine lv_isub hx hb dX5_ofStand_69 ?_
    obtain ⟨r_5, h_6, hf⟩ := obd hf
    refine xv_I (As := [.int (x2 - (10 : Int32))]) (rest := []) S k_X5_isDoll q183 q184 q185 ⟨Nat.le_of_ble_eq_true rfl, Nat.le_of_ble_eq_true rfl⟩ ⟨rfl, rfl⟩ (c_X5_isDoll l D a c A hD (x2 - (10 : Int32)) σ r_5 h_6) hK hP hS (va_recv hK.1 hP (rfl : vwCl[3]? = some (RX5, TX5, 12)) (cw0 a c σ)) rfl hl.1 rfl (Nat.le_of_ble_eq_true rfl) dX5_ofStand_70 ⟨Nat.zero_le _, Nat.zero_le _⟩ (fun H locs hP hS => ?_)
    refine lv_if_eq (tgt := 87) hx hb dX5_ofStand_73 (by decide) (fun c_7 => ?_) (fun c_7 => ?_)
    · have hf := oit c_7 hf
      refine lv_bipush (v := (-9 : Int32)) hx hb dX5_ofStand_87 (by decide) ?_
      exact hret _ _ _ _ _ _ dX5_ofStand_89 rfl hP hS ⟨Option.some.inj hf, rfl⟩
    have hf := oif c_7 hf
    refine lv_iload_n hx hb dX5_ofStand_76 rfl (lv_at hl 1 rfl) ?_
    refine lv_iload_n hx hb dX5_ofStand_77 rfl (lv_at hl 2 rfl) ?_
    refine lv_bipush (v := (10 : Int32)) hx hb dX5_ofStand_78 (by decide) ?_
    refine lv_isub hx hb dX5_ofStand_80 ?_
    obtain ⟨r_8, h_9, hf⟩ := obd hf
    refine xs_S (As := [.int x1, .int (x2 - (10 : Int32))]) (rest := []) S k_X3_placeOf q192 q193 ⟨Nat.le_of_ble_eq_true rfl, Nat.le_of_ble_eq_true rfl⟩ ⟨rfl, rfl⟩ (c_X3_placeOf l x1 (x2 - (10 : Int32)) r_8 h_9) hK.2 rfl hl.1 rfl (Nat.le_of_ble_eq_true rfl) dX5_ofStand_81 ⟨Nat.zero_le _, Nat.zero_le _⟩ ?_
    refine lv_goto (tgt := 89) hx hb dX5_ofStand_84 (by decide) ?_
    exact hret _ _ _ _ _ _ dX5_ofStand_89 rfl hP hS ⟨Option.some.inj hf, rfl⟩
  have hf := oif c_4 hf
  by_cases c_10 : x2 = (2 : Int32)
  · have hf := oit c_10 hf
    refine lv_tableIn (tgt := 42) (off := 41) hx hb dX5_ofStand_1 (by rw [c_10]; decide) (by rw [c_10]; decide) (by rw [c_10]; decide) (by decide) ?_
    refine lv_iload_n hx hb dX5_ofStand_42 rfl (lv_at hl 1 rfl) ?_
    obtain ⟨r_11, h_12, hf⟩ := obd hf
    refine xs_S (As := [.int x1]) (rest := []) S k_X3_openSet q391 q200 ⟨Nat.le_of_ble_eq_true rfl, Nat.le_of_ble_eq_true rfl⟩ ⟨rfl, rfl⟩ (c_X3_openSet l x1 r_11 h_12) hK.2 rfl hl.1 rfl (Nat.le_of_ble_eq_true rfl) dX5_ofStand_43 ⟨Nat.zero_le _, Nat.zero_le _⟩ ?_
    exact hret _ _ _ _ _ _ dX5_ofStand_46 rfl hP hS ⟨Option.some.inj hf, rfl⟩
  have hf := oif c_10 hf
  by_cases c_13 : x2 = (3 : Int32)
  · have hf := oit c_13 hf
    refine lv_tableIn (tgt := 47) (off := 46) hx hb dX5_ofStand_1 (by rw [c_13]; decide) (by rw [c_13]; decide) (by rw [c_13]; decide) (by decide) ?_
    refine lv_iload_n hx hb dX5_ofStand_47 rfl (lv_at hl 1 rfl) ?_
    refine lv_aload_n hx hb dX5_ofStand_48 rfl (lv_at hl 0 rfl) ?_
    refine va_get (D := D) (ci := 3) (v := .int (σ.1 0 0)) (C := RX5) (T := TX5) (N := 12) hx hb ht gX5 hown hK.1 hP 0 (cw0 a c σ) rfl 6 (by decide) (ht _ q74) (fun _ h9 => h9) rfl dX5_ofStand_49 ?_
    obtain ⟨r_14, h_15, hf⟩ := obd hf
    refine xs_S (As := [.int x1, .int (σ.1 0 0)]) (rest := []) S k_X3_handSet q207 q208 ⟨Nat.le_of_ble_eq_true rfl, Nat.le_of_ble_eq_true rfl⟩ ⟨rfl, rfl⟩ (c_X3_handSet l N x1 (σ.1 0 0) r_14 h_15) hK.2 rfl hl.1 rfl (Nat.le_of_ble_eq_true rfl) dX5_ofStand_52 ⟨Nat.zero_le _, Nat.zero_le _⟩ ?_
    exact hret _ _ _ _ _ _ dX5_ofStand_55 rfl hP hS ⟨Option.some.inj hf, rfl⟩
  have hf := oif c_13 hf
  by_cases c_16 : x2 = (4 : Int32)
  · have hf := oit c_16 hf
    refine lv_tableIn (tgt := 56) (off := 55) hx hb dX5_ofStand_1 (by rw [c_16]; decide) (by rw [c_16]; decide) (by rw [c_16]; decide) (by decide) ?_
    refine lv_iload_n hx hb dX5_ofStand_56 rfl (lv_at hl 1 rfl) ?_
    refine lv_aload_n hx hb dX5_ofStand_57 rfl (lv_at hl 0 rfl) ?_
    refine va_get (D := D) (ci := 3) (v := .int (σ.1 0 0)) (C := RX5) (T := TX5) (N := 12) hx hb ht gX5 hown hK.1 hP 0 (cw0 a c σ) rfl 6 (by decide) (ht _ q74) (fun _ h9 => h9) rfl dX5_ofStand_58 ?_
    obtain ⟨r_17, h_18, hf⟩ := obd hf
    refine xs_S (As := [.int x1, .int (σ.1 0 0)]) (rest := []) S k_X3_mostWithin q392 q393 ⟨Nat.le_of_ble_eq_true rfl, Nat.le_of_ble_eq_true rfl⟩ ⟨rfl, rfl⟩ (c_X3_mostWithin l N x1 (σ.1 0 0) r_17 h_18) hK.2 rfl hl.1 rfl (Nat.le_of_ble_eq_true rfl) dX5_ofStand_61 ⟨Nat.zero_le _, Nat.zero_le _⟩ ?_
    exact hret _ _ _ _ _ _ dX5_ofStand_64 rfl hP hS ⟨Option.some.inj hf, rfl⟩
  have hf := oif c_16 hf
  refine lv_tableOut (tgt := 65) hx hb dX5_ofStand_1 (by have z0 := lv_neT c_1 (a := 0) rfl; have z1 := lv_neT c_4 (a := 1) rfl; have z2 := lv_neT c_10 (a := 2) rfl; have z3 := lv_neT c_13 (a := 3) rfl; have z4 := lv_neT c_16 (a := 4) rfl; omega) (by decide) ?_
  refine lv_aload_n hx hb dX5_ofStand_65 rfl (lv_at hl 0 rfl) ?_
  refine lv_iload_n hx hb dX5_ofStand_66 rfl (lv_at hl 2 rfl) ?_
  refine lv_bipush (v := (10 : Int32)) hx hb dX5_ofStand_67 (by decide) ?_
  refine lv_isub hx hb dX5_ofStand_69 ?_
  obtain ⟨r_19, h_20, hf⟩ := obd hf
  refine xv_I (As := [.int (x2 - (10 : Int32))]) (rest := []) S k_X5_isDoll q183 q184 q185 ⟨Nat.le_of_ble_eq_true rfl, Nat.le_of_ble_eq_true rfl⟩ ⟨rfl, rfl⟩ (c_X5_isDoll l D a c A hD (x2 - (10 : Int32)) σ r_19 h_20) hK hP hS (va_recv hK.1 hP (rfl : vwCl[3]? = some (RX5, TX5, 12)) (cw0 a c σ)) rfl hl.1 rfl (Nat.le_of_ble_eq_true rfl) dX5_ofStand_70 ⟨Nat.zero_le _, Nat.zero_le _⟩ (fun H locs hP hS => ?_)
  refine lv_if_eq (tgt := 87) hx hb dX5_ofStand_73 (by decide) (fun c_21 => ?_) (fun c_21 => ?_)
  · have hf := oit c_21 hf
    refine lv_bipush (v := (-9 : Int32)) hx hb dX5_ofStand_87 (by decide) ?_
    exact hret _ _ _ _ _ _ dX5_ofStand_89 rfl hP hS ⟨Option.some.inj hf, rfl⟩
  have hf := oif c_21 hf
  refine lv_iload_n hx hb dX5_ofStand_76 rfl (lv_at hl 1 rfl) ?_
  refine lv_iload_n hx hb dX5_ofStand_77 rfl (lv_at hl 2 rfl) ?_
  refine lv_bipush (v := (10 : Int32)) hx hb dX5_ofStand_78 (by decide) ?_
  refine lv_isub hx hb dX5_ofStand_80 ?_
  obtain ⟨r_22, h_23, hf⟩ := obd hf
  refine xs_S (As := [.int x1, .int (x2 - (10 : Int32))]) (rest := []) S k_X3_placeOf q192 q193 ⟨Nat.le_of_ble_eq_true rfl, Nat.le_of_ble_eq_true rfl⟩ ⟨rfl, rfl⟩ (c_X3_placeOf l x1 (x2 - (10 : Int32)) r_22 h_23) hK.2 rfl hl.1 rfl (Nat.le_of_ble_eq_true rfl) dX5_ofStand_81 ⟨Nat.zero_le _, Nat.zero_le _⟩ ?_
  refine lv_goto (tgt := 89) hx hb dX5_ofStand_84 (by decide) ?_
  exact hret _ _ _ _ _ _ dX5_ofStand_89 rfl hP hS ⟨Option.some.inj hf, rfl⟩
theorem dX5_standAfter_0 : decode cX5_standAfter 0 = .ok (.aload_n 0, 1) := by decide +kernel
theorem dX5_standAfter_1 : decode cX5_standAfter 1 = .ok (.getfield 84, 3) := by decide +kernel
theorem dX5_standAfter_4 : decode cX5_standAfter 4 = .ok (.istore 4, 2) := by decide +kernel
theorem dX5_standAfter_6 : decode cX5_standAfter 6 = .ok (.iconst 0, 1) := by decide +kernel
theorem dX5_standAfter_7 : decode cX5_standAfter 7 = .ok (.istore 5, 2) := by decide +kernel
theorem dX5_standAfter_9 : decode cX5_standAfter 9 = .ok (.iload 5, 2) := by decide +kernel
theorem dX5_standAfter_11 : decode cX5_standAfter 11 = .ok (.iload_n 3, 1) := by decide +kernel
theorem dX5_standAfter_12 : decode cX5_standAfter 12 = .ok (.if_icmp .ge 24, 3) := by decide +kernel
theorem dX5_standAfter_15 : decode cX5_standAfter 15 = .ok (.iload 4, 2) := by decide +kernel
theorem dX5_standAfter_17 : decode cX5_standAfter 17 = .ok (.aload_n 1, 1) := by decide +kernel
theorem dX5_standAfter_18 : decode cX5_standAfter 18 = .ok (.iload_n 2, 1) := by decide +kernel
theorem dX5_standAfter_19 : decode cX5_standAfter 19 = .ok (.iload 5, 2) := by decide +kernel
theorem dX5_standAfter_21 : decode cX5_standAfter 21 = .ok (.iadd, 1) := by decide +kernel
theorem dX5_standAfter_22 : decode cX5_standAfter 22 = .ok (.invokevirtual 168, 3) := by decide +kernel
theorem dX5_standAfter_25 : decode cX5_standAfter 25 = .ok (.invokestatic 146, 3) := by decide +kernel
theorem dX5_standAfter_28 : decode cX5_standAfter 28 = .ok (.istore 4, 2) := by decide +kernel
theorem dX5_standAfter_30 : decode cX5_standAfter 30 = .ok (.iinc 5 1, 3) := by decide +kernel
theorem dX5_standAfter_33 : decode cX5_standAfter 33 = .ok (.goto (-24), 3) := by decide +kernel
theorem dX5_standAfter_36 : decode cX5_standAfter 36 = .ok (.iload 4, 2) := by decide +kernel
theorem dX5_standAfter_38 : decode cX5_standAfter 38 = .ok (.ireturn, 1) := by decide +kernel
def f_X5_standAfter_j36 (N : Nat) (x4 : Int32) (σ : St) : Option Int32 :=
  some x4
def f_X5_standAfter_b9 (N : Nat) (x1 : Nat) (x2 : Int32) (x3 : Int32) (x4 : Int32) (x5 : Int32) (σ : St) : Option ((Int32 × Int32) ⊕ ((Int32))) :=
  if x3 ≤ x5 then (some (.inr x4))
  else bd (f_X2_at x1 (x2 + x5) σ) fun r_2 =>
  bd (f_X3_after x4 r_2) fun r_4 =>
  nm (x5 + (1 : Int32)) fun x5_6 =>
  some (.inl (r_4, x5_6))
def f_X5_standAfter (N : Nat) (x1 : Nat) (x2 : Int32) (x3 : Int32) (σ : St) : Option Int32 :=
  nm (σ.1 0 1) fun x4_7 =>
  bd (lpF (fun s => f_X5_standAfter_b9 N x1 x2 x3 s.1 s.2 σ) N (x4_7, (0 : Int32))) (fun o => f_X5_standAfter_j36 N o σ)
abbrev rmX5_standAfter : Room := { frames := 2, cells := 0, slots := 0, locals := 44 }
set_option maxRecDepth 100000 in
set_option maxHeartbeats 4000000 in
theorem c_X5_standAfter (l : Launch) (D : va_G) (a : Nat → Nat) (c : Nat → ClassId) (A : Nat → Prop) (hD : ∀ σ, va_D A (cW a c σ)) (N : Nat) (x1 : Nat) (x2 : Int32) (x3 : Int32) (σ : St) (hx1 : x1 < 4) (r : Int32) (hf : f_X5_standAfter N x1 x2 x3 σ = some r) : MetI l yX5_standAfter cX5_standAfter 6 (some .int) rmX5_standAfter (cW a c) D c A [.ref (a 0), .ref (a (15 + x1)), .int x2, .int x3] σ r σ := by
  refine mkI (by decide) (Nat.le_of_ble_eq_true rfl) rfl ?_
  intro p e s m args below meth cd Q ls h0 hK hP hret hl
  obtain ⟨S, hr, hlk⟩ := h0
  obtain ⟨hx, hb, hml, hown, ht⟩ := id S
  have hS : va_S A s.heap s.heap [] := va_S.rf
  have hl : lv_has ls 6 [(0, .ref (a 0)), (1, .ref (a (15 + x1))), (2, .int x2), (3, .int x3)] := hl
  have hf := obs hf
  have j36 : ∀ (x4 : Int32) (H : Heap) (locs : List Loc) (ls : Array Slot), lv_has ls 6 [(4, .int x4)] → va_P D vwCl (cW a c σ) H → va_S A s.heap H locs → Option.bind (f_X5_standAfter_j36 N x4 σ) some = some r → W p l e rmX5_standAfter s m args below meth cd H locs 0 0 Q (F0 m 36 ls []) := by
    intro x4 H locs ls hl hP hS hf
    have hf := oun (f_X5_standAfter_j36.eq_1 _ _ _) hf
    refine lv_iload hx hb dX5_standAfter_36 (lv_at hl 0 rfl) ?_
    exact hret _ _ _ _ _ _ dX5_standAfter_38 rfl hP hS ⟨Option.some.inj hf, rfl⟩
  have L9 : ∀ (x1 : Nat) (x2 : Int32) (x3 : Int32) (hx1 : x1 < 4) (k : Nat) (x4 : Int32) (x5 : Int32) (H : Heap) (locs : List Loc) (ls : Array Slot), lv_has ls 6 [(1, .ref (a (15 + x1))), (2, .int x2), (3, .int x3), (4, .int x4), (5, .int x5)] → va_P D vwCl (cW a c σ) H → va_S A s.heap H locs → Option.bind (bd (lpF (fun s => f_X5_standAfter_b9 N x1 x2 x3 s.1 s.2 σ) k (x4, x5)) (fun o => f_X5_standAfter_j36 N o σ)) some = some r → W p l e rmX5_standAfter s m args below meth cd H locs 0 0 Q (F0 m 9 ls []) := by
    intro x1 x2 x3 hx1 k
    induction k with
    | zero =>
      intro x4 x5 H locs ls hl hP hS hf
      exact (ol0 hf).elim
    | succ k ih =>
      intro x4 x5 H locs ls hl hP hS hf
      obtain ⟨K9, hf, hc9, hx9⟩ := ol1 hf
      have hf := oun (f_X5_standAfter_b9.eq_1 N x1 x2 x3 x4 x5 σ) hf
      refine lv_iload hx hb dX5_standAfter_9 (lv_at hl 4 rfl) ?_
      refine lv_iload_n hx hb dX5_standAfter_11 rfl (lv_at hl 2 rfl) ?_
      refine lv_icmp_ge (tgt := 36) hx hb dX5_standAfter_12 (by decide) (fun c_1 => ?_) (fun c_1 => ?_)
      · have hf := oit c_1 hf
        exact j36 x4 _ _ _ (lv_sub hl [3] rfl) hP hS (okx hf (hx9 _))
      have hf := oif c_1 hf
      refine lv_iload hx hb dX5_standAfter_15 (lv_at hl 3 rfl) ?_
      refine lv_aload_n hx hb dX5_standAfter_17 rfl (lv_at hl 0 rfl) ?_
      refine lv_iload_n hx hb dX5_standAfter_18 rfl (lv_at hl 1 rfl) ?_
      refine lv_iload hx hb dX5_standAfter_19 (lv_at hl 4 rfl) ?_
      refine lv_iadd hx hb dX5_standAfter_21 ?_
      obtain ⟨r_2, h_3, hf⟩ := obd hf
      refine xv_I (As := [.int (x2 + x5)]) (rest := [.int x4]) S k_X2_at q382 q103 q104 ⟨Nat.le_of_ble_eq_true rfl, Nat.le_of_ble_eq_true rfl⟩ ⟨rfl, rfl⟩ (c_X2_at l D a c A hD x1 (x2 + x5) σ hx1 r_2 h_3) hK hP hS (va_recv hK.1 hP (rfl : vwCl[2]? = some (RX2, TX2, 3)) (cwX2 a c σ x1 hx1)) rfl hl.1 rfl (Nat.le_of_ble_eq_true rfl) dX5_standAfter_22 ⟨Nat.zero_le _, Nat.zero_le _⟩ (fun H locs hP hS => ?_)
      obtain ⟨r_4, h_5, hf⟩ := obd hf
      refine xs_S (As := [.int x4, .int r_2]) (rest := []) S k_X3_after q316 q317 ⟨Nat.le_of_ble_eq_true rfl, Nat.le_of_ble_eq_true rfl⟩ ⟨rfl, rfl⟩ (c_X3_after l x4 r_2 r_4 h_5) hK.2 rfl hl.1 rfl (Nat.le_of_ble_eq_true rfl) dX5_standAfter_25 ⟨Nat.zero_le _, Nat.zero_le _⟩ ?_
      refine lv_istore (lv' := [(4, .int r_4), (1, .ref (a (15 + x1))), (2, .int x2), (3, .int x3), (5, .int x5)]) hx hb dX5_standAfter_28 hl (by decide) rfl (fun ls hl => ?_)
      obtain ⟨x5_6, ex5_6, hf⟩ := onm hf
      refine lv_iinc (v := x5_6) (lv' := [(5, .int x5_6), (4, .int r_4), (1, .ref (a (15 + x1))), (2, .int x2), (3, .int x3)]) hx hb dX5_standAfter_30 hl (k := 4) rfl ex5_6 (by decide) rfl (fun ls hl => ?_)
      refine lv_goto (tgt := 9) hx hb dX5_standAfter_33 (by decide) ?_
      exact ih r_4 x5_6 _ _ _ (lv_sub hl [2, 3, 4, 1, 0] rfl) hP hS (okx hf (hc9 _))
  have hf := oun (f_X5_standAfter.eq_1 _ _ _ _ _) hf
  refine lv_aload_n hx hb dX5_standAfter_0 rfl (lv_at hl 0 rfl) ?_
  refine va_get (D := D) (ci := 3) (v := .int (σ.1 0 1)) (C := RX5) (T := TX5) (N := 12) hx hb ht gX5 hown hK.1 hP 0 (cw0 a c σ) rfl 7 (by decide) (ht _ q116) (fun _ h9 => h9) rfl dX5_standAfter_1 ?_
  obtain ⟨x4_7, ex4_7, hf⟩ := onm hf
  refine lv_nm ex4_7 ?_
  refine lv_istore (lv' := [(4, .int x4_7), (0, .ref (a 0)), (1, .ref (a (15 + x1))), (2, .int x2), (3, .int x3)]) hx hb dX5_standAfter_4 hl (by decide) rfl (fun ls hl => ?_)
  refine lv_iconst (v := (0 : Int32)) hx hb dX5_standAfter_6 (by decide) ?_
  refine lv_istore (lv' := [(5, .int (0 : Int32)), (4, .int x4_7), (0, .ref (a 0)), (1, .ref (a (15 + x1))), (2, .int x2), (3, .int x3)]) hx hb dX5_standAfter_7 hl (by decide) rfl (fun ls hl => ?_)
  exact L9 x1 x2 x3 hx1 N x4_7 (0 : Int32) _ _ _ (lv_sub hl [3, 4, 5, 1, 0] rfl) hP hS hf
theorem dX5_day_0 : decode cX5_day 0 = .ok (.aload_n 0, 1) := by decide +kernel
theorem dX5_day_1 : decode cX5_day 1 = .ok (.iconst 0, 1) := by decide +kernel
theorem dX5_day_2 : decode cX5_day 2 = .ok (.putfield 43, 3) := by decide +kernel
theorem dX5_day_5 : decode cX5_day 5 = .ok (.iload_n 1, 1) := by decide +kernel
theorem dX5_day_6 : decode cX5_day 6 = .ok (.invokestatic 47, 3) := by decide +kernel
theorem dX5_day_9 : decode cX5_day 9 = .ok (.ifCond .ne 5, 3) := by decide +kernel
theorem dX5_day_12 : decode cX5_day 12 = .ok (.iconst (-1), 1) := by decide +kernel
theorem dX5_day_13 : decode cX5_day 13 = .ok (.ireturn, 1) := by decide +kernel
theorem dX5_day_14 : decode cX5_day 14 = .ok (.iload_n 2, 1) := by decide +kernel
theorem dX5_day_15 : decode cX5_day 15 = .ok (.invokestatic 51, 3) := by decide +kernel
theorem dX5_day_18 : decode cX5_day 18 = .ok (.ifCond .eq 23, 3) := by decide +kernel
theorem dX5_day_21 : decode cX5_day 21 = .ok (.iload 4, 2) := by decide +kernel
theorem dX5_day_23 : decode cX5_day 23 = .ok (.ifCond .lt 18, 3) := by decide +kernel
theorem dX5_day_26 : decode cX5_day 26 = .ok (.iload 4, 2) := by decide +kernel
theorem dX5_day_28 : decode cX5_day 28 = .ok (.bipush 20, 2) := by decide +kernel
theorem dX5_day_30 : decode cX5_day 30 = .ok (.if_icmp .gt 11, 3) := by decide +kernel
theorem dX5_day_33 : decode cX5_day 33 = .ok (.iload 5, 2) := by decide +kernel
theorem dX5_day_35 : decode cX5_day 35 = .ok (.invokestatic 152, 3) := by decide +kernel
theorem dX5_day_38 : decode cX5_day 38 = .ok (.ifCond .ne 6, 3) := by decide +kernel
theorem dX5_day_41 : decode cX5_day 41 = .ok (.bipush (-2), 2) := by decide +kernel
theorem dX5_day_43 : decode cX5_day 43 = .ok (.ireturn, 1) := by decide +kernel
theorem dX5_day_44 : decode cX5_day 44 = .ok (.aload_n 0, 1) := by decide +kernel
theorem dX5_day_45 : decode cX5_day 45 = .ok (.getfield 19, 3) := by decide +kernel
theorem dX5_day_48 : decode cX5_day 48 = .ok (.iload_n 1, 1) := by decide +kernel
theorem dX5_day_49 : decode cX5_day 49 = .ok (.aaload, 1) := by decide +kernel
theorem dX5_day_50 : decode cX5_day 50 = .ok (.iload_n 2, 1) := by decide +kernel
theorem dX5_day_51 : decode cX5_day 51 = .ok (.iload_n 3, 1) := by decide +kernel
theorem dX5_day_52 : decode cX5_day 52 = .ok (.iload 4, 2) := by decide +kernel
theorem dX5_day_54 : decode cX5_day 54 = .ok (.invokevirtual 54, 3) := by decide +kernel
theorem dX5_day_57 : decode cX5_day 57 = .ok (.istore 6, 2) := by decide +kernel
theorem dX5_day_59 : decode cX5_day 59 = .ok (.iload 6, 2) := by decide +kernel
theorem dX5_day_61 : decode cX5_day 61 = .ok (.ifCond .eq 10, 3) := by decide +kernel
theorem dX5_day_64 : decode cX5_day 64 = .ok (.aload_n 0, 1) := by decide +kernel
theorem dX5_day_65 : decode cX5_day 65 = .ok (.iload 6, 2) := by decide +kernel
theorem dX5_day_67 : decode cX5_day 67 = .ok (.invokevirtual 58, 3) := by decide +kernel
theorem dX5_day_70 : decode cX5_day 70 = .ok (.ireturn, 1) := by decide +kernel
theorem dX5_day_71 : decode cX5_day 71 = .ok (.aload_n 0, 1) := by decide +kernel
theorem dX5_day_72 : decode cX5_day 72 = .ok (.getfield 72, 3) := by decide +kernel
theorem dX5_day_75 : decode cX5_day 75 = .ok (.ifCond .ne 6, 3) := by decide +kernel
theorem dX5_day_78 : decode cX5_day 78 = .ok (.bipush (-3), 2) := by decide +kernel
theorem dX5_day_80 : decode cX5_day 80 = .ok (.ireturn, 1) := by decide +kernel
theorem dX5_day_81 : decode cX5_day 81 = .ok (.aload_n 0, 1) := by decide +kernel
theorem dX5_day_82 : decode cX5_day 82 = .ok (.getfield 19, 3) := by decide +kernel
theorem dX5_day_85 : decode cX5_day 85 = .ok (.iload_n 1, 1) := by decide +kernel
theorem dX5_day_86 : decode cX5_day 86 = .ok (.aaload, 1) := by decide +kernel
theorem dX5_day_87 : decode cX5_day 87 = .ok (.iload_n 3, 1) := by decide +kernel
theorem dX5_day_88 : decode cX5_day 88 = .ok (.iload 4, 2) := by decide +kernel
theorem dX5_day_90 : decode cX5_day 90 = .ok (.iconst 0, 1) := by decide +kernel
theorem dX5_day_91 : decode cX5_day 91 = .ok (.bipush 27, 2) := by decide +kernel
theorem dX5_day_93 : decode cX5_day 93 = .ok (.invokevirtual 155, 3) := by decide +kernel
theorem dX5_day_96 : decode cX5_day 96 = .ok (.ifCond .ne 6, 3) := by decide +kernel
theorem dX5_day_99 : decode cX5_day 99 = .ok (.bipush (-2), 2) := by decide +kernel
theorem dX5_day_101 : decode cX5_day 101 = .ok (.ireturn, 1) := by decide +kernel
theorem dX5_day_102 : decode cX5_day 102 = .ok (.aload_n 0, 1) := by decide +kernel
theorem dX5_day_103 : decode cX5_day 103 = .ok (.aload_n 0, 1) := by decide +kernel
theorem dX5_day_104 : decode cX5_day 104 = .ok (.getfield 19, 3) := by decide +kernel
theorem dX5_day_107 : decode cX5_day 107 = .ok (.iload_n 1, 1) := by decide +kernel
theorem dX5_day_108 : decode cX5_day 108 = .ok (.aaload, 1) := by decide +kernel
theorem dX5_day_109 : decode cX5_day 109 = .ok (.iload_n 3, 1) := by decide +kernel
theorem dX5_day_110 : decode cX5_day 110 = .ok (.iload 4, 2) := by decide +kernel
theorem dX5_day_112 : decode cX5_day 112 = .ok (.invokevirtual 159, 3) := by decide +kernel
theorem dX5_day_115 : decode cX5_day 115 = .ok (.istore 7, 2) := by decide +kernel
theorem dX5_day_117 : decode cX5_day 117 = .ok (.iload 5, 2) := by decide +kernel
theorem dX5_day_119 : decode cX5_day 119 = .ok (.iconst 1, 1) := by decide +kernel
theorem dX5_day_120 : decode cX5_day 120 = .ok (.if_icmp .ne 6, 3) := by decide +kernel
theorem dX5_day_123 : decode cX5_day 123 = .ok (.iload 7, 2) := by decide +kernel
theorem dX5_day_125 : decode cX5_day 125 = .ok (.ireturn, 1) := by decide +kernel
theorem dX5_day_126 : decode cX5_day 126 = .ok (.iload 7, 2) := by decide +kernel
theorem dX5_day_128 : decode cX5_day 128 = .ok (.bipush (-9), 2) := by decide +kernel
theorem dX5_day_130 : decode cX5_day 130 = .ok (.if_icmp .eq 11, 3) := by decide +kernel
theorem dX5_day_133 : decode cX5_day 133 = .ok (.bipush (-100), 2) := by decide +kernel
theorem dX5_day_135 : decode cX5_day 135 = .ok (.iload 7, 2) := by decide +kernel
theorem dX5_day_137 : decode cX5_day 137 = .ok (.isub, 1) := by decide +kernel
theorem dX5_day_138 : decode cX5_day 138 = .ok (.goto 22, 3) := by decide +kernel
theorem dX5_day_141 : decode cX5_day 141 = .ok (.aload_n 0, 1) := by decide +kernel
theorem dX5_day_142 : decode cX5_day 142 = .ok (.aload_n 0, 1) := by decide +kernel
theorem dX5_day_143 : decode cX5_day 143 = .ok (.aload_n 0, 1) := by decide +kernel
theorem dX5_day_144 : decode cX5_day 144 = .ok (.getfield 19, 3) := by decide +kernel
theorem dX5_day_147 : decode cX5_day 147 = .ok (.iload_n 1, 1) := by decide +kernel
theorem dX5_day_148 : decode cX5_day 148 = .ok (.aaload, 1) := by decide +kernel
theorem dX5_day_149 : decode cX5_day 149 = .ok (.iload_n 3, 1) := by decide +kernel
theorem dX5_day_150 : decode cX5_day 150 = .ok (.iload 4, 2) := by decide +kernel
theorem dX5_day_152 : decode cX5_day 152 = .ok (.invokevirtual 162, 3) := by decide +kernel
theorem dX5_day_155 : decode cX5_day 155 = .ok (.iload 5, 2) := by decide +kernel
theorem dX5_day_157 : decode cX5_day 157 = .ok (.invokevirtual 165, 3) := by decide +kernel
theorem dX5_day_160 : decode cX5_day 160 = .ok (.ireturn, 1) := by decide +kernel
def f_X5_day (N : Nat) (x1 : Int32) (x2 : Int32) (x3 : Int32) (x4 : Int32) (x5 : Int32) (σ : St) : Option (Int32 × St) :=
  nm (wS σ 0 5 (0 : Int32)) fun σ_1 =>
  bd (f_X5_isSheet x1) fun r_2 =>
  if r_2 = 0 then (some ((-1 : Int32), σ_1))
  else bd (f_X5_isLane x2) fun r_5 =>
    if r_5 = 0 then (some ((-2 : Int32), σ_1))
    else if x4 < 0 then (some ((-2 : Int32), σ_1))
    else if (20 : Int32) < x4 then (some ((-2 : Int32), σ_1))
    else bd (f_X5_isAskedOfDay x5) fun r_10 =>
    if r_10 = 0 then (some ((-2 : Int32), σ_1))
    else gd (ck x1 4) <|
      bd (f_X2_faultOf (Int32.toNatClampNeg x1) x2 x3 x4 σ_1) fun r_14 =>
      if r_14 = 0 then (if (σ_1.1 0 0) = 0 then (some ((-3 : Int32), σ_1))
        else gd (ck x1 4) <|
          bd (f_X2_isWithin N (Int32.toNatClampNeg x1) x3 x4 (0 : Int32) (27 : Int32) σ_1) fun r_19 =>
          if r_19 = 0 then (some ((-2 : Int32), σ_1))
          else gd (ck x1 4) <|
            bd (f_X5_firstWrong N (Int32.toNatClampNeg x1) x3 x4 σ_1) fun r_23 =>
            if x5 = (1 : Int32) then (some (r_23, σ_1))
            else if r_23 = (-9 : Int32) then (gd (ck x1 4) <|
                bd (f_X5_standAfter N (Int32.toNatClampNeg x1) x3 x4 σ_1) fun r_28 =>
                bd (f_X5_ofStand N r_28 x5 σ_1) fun r_30 =>
                some (r_30, σ_1))
              else some (((-100 : Int32) - r_23), σ_1))
      else bd2 (f_X5_come r_14 σ_1) fun r_32 σ_33 =>
      some (r_32, σ_33)
abbrev rmX5_day : Room := { frames := 6, cells := 0, slots := 0, locals := 143 }
set_option maxRecDepth 100000 in
set_option maxHeartbeats 4000000 in
theorem c_X5_day (l : Launch) (D : va_G) (a : Nat → Nat) (c : Nat → ClassId) (A : Nat → Prop) (hD : ∀ σ, va_D A (cW a c σ)) (N : Nat) (x1 : Int32) (x2 : Int32) (x3 : Int32) (x4 : Int32) (x5 : Int32) (σ : St) (r : Int32) (u : St) (hf : f_X5_day N x1 x2 x3 x4 x5 σ = some (r, u)) : MetI l yX5_day cX5_day 8 (some .int) rmX5_day (cW a c) D c A [.ref (a 0), .int x1, .int x2, .int x3, .int x4, .int x5] σ r u := by
  refine mkI (by decide) (Nat.le_of_ble_eq_true rfl) rfl ?_
  intro p e s m args below meth cd Q ls h0 hK hP hret hl
  obtain ⟨S, hr, hlk⟩ := h0
  obtain ⟨hx, hb, hml, hown, ht⟩ := id S
  have hS : va_S A s.heap s.heap [] := va_S.rf
  have hl : lv_has ls 8 [(0, .ref (a 0)), (1, .int x1), (2, .int x2), (3, .int x3), (4, .int x4), (5, .int x5)] := hl
  have hf := obs hf
  have hf := oun (f_X5_day.eq_1 _ _ _ _ _ _ _) hf
  refine lv_aload_n hx hb dX5_day_0 rfl (lv_at hl 0 rfl) ?_
  refine lv_iconst (v := (0 : Int32)) hx hb dX5_day_1 (by decide) ?_
  refine va_put (D := D) (ci := 3) (v := .int (0 : Int32)) (ty := .int) (C := RX5) (T := TX5) (N := 12) hx hb ht gX5 tyX5 tyX5_ok nmX5 hown hK.1 hP (hD σ) hS 0 (cw0 a c σ) rfl 11 (by decide) (ht _ q73) (fun _ h9 => h9) rfl (by decide +kernel) rfl rfl (Nat.le_of_ble_eq_true rfl) dX5_day_2 (fun H locs hP _ hS => ?_)
  have hP := vP_eq (cpX5_latestFault a c σ (0 : Int32)) hP
  obtain ⟨σ_1, eσ_1, hf⟩ := onm hf
  rw [eσ_1] at hP
  refine lv_iload_n hx hb dX5_day_5 rfl (lv_at hl 1 rfl) ?_
  obtain ⟨r_2, h_3, hf⟩ := obd hf
  refine xs_S (As := [.int x1]) (rest := []) S k_X5_isSheet q75 q76 ⟨Nat.le_of_ble_eq_true rfl, Nat.le_of_ble_eq_true rfl⟩ ⟨rfl, rfl⟩ (c_X5_isSheet l x1 r_2 h_3) hK.2 rfl hl.1 rfl (Nat.le_of_ble_eq_true rfl) dX5_day_6 ⟨Nat.zero_le _, Nat.zero_le _⟩ ?_
  refine lv_if_ne (tgt := 14) hx hb dX5_day_9 (by decide) (fun c_4 => ?_) (fun c_4 => ?_)
  · have hf := oif c_4 hf
    refine lv_iload_n hx hb dX5_day_14 rfl (lv_at hl 2 rfl) ?_
    obtain ⟨r_5, h_6, hf⟩ := obd hf
    refine xs_S (As := [.int x2]) (rest := []) S k_X5_isLane q78 q79 ⟨Nat.le_of_ble_eq_true rfl, Nat.le_of_ble_eq_true rfl⟩ ⟨rfl, rfl⟩ (c_X5_isLane l x2 r_5 h_6) hK.2 rfl hl.1 rfl (Nat.le_of_ble_eq_true rfl) dX5_day_15 ⟨Nat.zero_le _, Nat.zero_le _⟩ ?_
    refine lv_if_eq (tgt := 41) hx hb dX5_day_18 (by decide) (fun c_7 => ?_) (fun c_7 => ?_)
    · have hf := oit c_7 hf
      refine lv_bipush (v := (-2 : Int32)) hx hb dX5_day_41 (by decide) ?_
      exact hret _ _ _ _ _ _ dX5_day_43 rfl hP hS (oret hf)
    have hf := oif c_7 hf
    refine lv_iload hx hb dX5_day_21 (lv_at hl 4 rfl) ?_
    refine lv_if_lt (tgt := 41) hx hb dX5_day_23 (by decide) (fun c_8 => ?_) (fun c_8 => ?_)
    · have hf := oit c_8 hf
      refine lv_bipush (v := (-2 : Int32)) hx hb dX5_day_41 (by decide) ?_
      exact hret _ _ _ _ _ _ dX5_day_43 rfl hP hS (oret hf)
    have hf := oif c_8 hf
    refine lv_iload hx hb dX5_day_26 (lv_at hl 4 rfl) ?_
    refine lv_bipush (v := (20 : Int32)) hx hb dX5_day_28 (by decide) ?_
    refine lv_icmp_gt (tgt := 41) hx hb dX5_day_30 (by decide) (fun c_9 => ?_) (fun c_9 => ?_)
    · have hf := oit c_9 hf
      refine lv_bipush (v := (-2 : Int32)) hx hb dX5_day_41 (by decide) ?_
      exact hret _ _ _ _ _ _ dX5_day_43 rfl hP hS (oret hf)
    have hf := oif c_9 hf
    refine lv_iload hx hb dX5_day_33 (lv_at hl 5 rfl) ?_
    obtain ⟨r_10, h_11, hf⟩ := obd hf
    refine xs_S (As := [.int x5]) (rest := []) S k_X5_isAskedOfDay q370 q371 ⟨Nat.le_of_ble_eq_true rfl, Nat.le_of_ble_eq_true rfl⟩ ⟨rfl, rfl⟩ (c_X5_isAskedOfDay l x5 r_10 h_11) hK.2 rfl hl.1 rfl (Nat.le_of_ble_eq_true rfl) dX5_day_35 ⟨Nat.zero_le _, Nat.zero_le _⟩ ?_
    refine lv_if_ne (tgt := 44) hx hb dX5_day_38 (by decide) (fun c_12 => ?_) (fun c_12 => ?_)
    · have hf := oif c_12 hf
      refine lv_aload_n hx hb dX5_day_44 rfl (lv_at hl 0 rfl) ?_
      refine va_get (D := D) (ci := 3) (v := .ref (a 2)) (C := RX5) (T := TX5) (N := 12) hx hb ht gX5 hown hK.1 hP 0 (cw0 a c σ_1) rfl 1 (by decide) (ht _ q15) (fun _ h9 => h9) rfl dX5_day_45 ?_
      refine lv_iload_n hx hb dX5_day_48 rfl (lv_at hl 1 rfl) ?_
      obtain ⟨g_13, hf⟩ := ogd hf
      refine va_aldq hx hb hK.1 hP 2 4 (cw2 a c σ_1) rfl (ck_in g_13) dX5_day_49 ?_
      refine W.eq (g2 := F0 m 50 ls [.ref (a (15 + (Int32.toNatClampNeg x1)))]) rfl ?_
      refine lv_iload_n hx hb dX5_day_50 rfl (lv_at hl 2 rfl) ?_
      refine lv_iload_n hx hb dX5_day_51 rfl (lv_at hl 3 rfl) ?_
      refine lv_iload hx hb dX5_day_52 (lv_at hl 4 rfl) ?_
      obtain ⟨r_14, h_15, hf⟩ := obd hf
      refine xv_I (As := [.int x2, .int x3, .int x4]) (rest := []) S k_X2_faultOf q81 q82 q83 ⟨Nat.le_of_ble_eq_true rfl, Nat.le_of_ble_eq_true rfl⟩ ⟨rfl, rfl⟩ (c_X2_faultOf l D a c A hD (Int32.toNatClampNeg x1) x2 x3 x4 σ_1 (ck_lt g_13) r_14 h_15) hK hP hS (va_recv hK.1 hP (rfl : vwCl[2]? = some (RX2, TX2, 3)) (cwX2 a c σ_1 (Int32.toNatClampNeg x1) (ck_lt g_13))) rfl hl.1 rfl (Nat.le_of_ble_eq_true rfl) dX5_day_54 ⟨Nat.zero_le _, Nat.zero_le _⟩ (fun H locs hP hS => ?_)
      refine lv_istore (lv' := [(6, .int r_14), (0, .ref (a 0)), (1, .int x1), (2, .int x2), (3, .int x3), (4, .int x4), (5, .int x5)]) hx hb dX5_day_57 hl (by decide) rfl (fun ls hl => ?_)
      refine lv_iload hx hb dX5_day_59 (lv_at hl 0 rfl) ?_
      refine lv_if_eq (tgt := 71) hx hb dX5_day_61 (by decide) (fun c_16 => ?_) (fun c_16 => ?_)
      · have hf := oit c_16 hf
        refine lv_aload_n hx hb dX5_day_71 rfl (lv_at hl 1 rfl) ?_
        refine va_get (D := D) (ci := 3) (v := .int (σ_1.1 0 0)) (C := RX5) (T := TX5) (N := 12) hx hb ht gX5 hown hK.1 hP 0 (cw0 a c σ_1) rfl 6 (by decide) (ht _ q74) (fun _ h9 => h9) rfl dX5_day_72 ?_
        refine lv_if_ne (tgt := 81) hx hb dX5_day_75 (by decide) (fun c_17 => ?_) (fun c_17 => ?_)
        · have hf := oif c_17 hf
          refine lv_aload_n hx hb dX5_day_81 rfl (lv_at hl 1 rfl) ?_
          refine va_get (D := D) (ci := 3) (v := .ref (a 2)) (C := RX5) (T := TX5) (N := 12) hx hb ht gX5 hown hK.1 hP 0 (cw0 a c σ_1) rfl 1 (by decide) (ht _ q15) (fun _ h9 => h9) rfl dX5_day_82 ?_
          refine lv_iload_n hx hb dX5_day_85 rfl (lv_at hl 2 rfl) ?_
          obtain ⟨g_18, hf⟩ := ogd hf
          refine va_aldq hx hb hK.1 hP 2 4 (cw2 a c σ_1) rfl (ck_in g_18) dX5_day_86 ?_
          refine W.eq (g2 := F0 m 87 ls [.ref (a (15 + (Int32.toNatClampNeg x1)))]) rfl ?_
          refine lv_iload_n hx hb dX5_day_87 rfl (lv_at hl 4 rfl) ?_
          refine lv_iload hx hb dX5_day_88 (lv_at hl 5 rfl) ?_
          refine lv_iconst (v := (0 : Int32)) hx hb dX5_day_90 (by decide) ?_
          refine lv_bipush (v := (27 : Int32)) hx hb dX5_day_91 (by decide) ?_
          obtain ⟨r_19, h_20, hf⟩ := obd hf
          refine xv_I (As := [.int x3, .int x4, .int (0 : Int32), .int (27 : Int32)]) (rest := []) S k_X2_isWithin q373 q374 q375 ⟨Nat.le_of_ble_eq_true rfl, Nat.le_of_ble_eq_true rfl⟩ ⟨rfl, rfl⟩ (c_X2_isWithin l D a c A hD N (Int32.toNatClampNeg x1) x3 x4 (0 : Int32) (27 : Int32) σ_1 (ck_lt g_18) r_19 h_20) hK hP hS (va_recv hK.1 hP (rfl : vwCl[2]? = some (RX2, TX2, 3)) (cwX2 a c σ_1 (Int32.toNatClampNeg x1) (ck_lt g_18))) rfl hl.1 rfl (Nat.le_of_ble_eq_true rfl) dX5_day_93 ⟨Nat.zero_le _, Nat.zero_le _⟩ (fun H locs hP hS => ?_)
          refine lv_if_ne (tgt := 102) hx hb dX5_day_96 (by decide) (fun c_21 => ?_) (fun c_21 => ?_)
          · have hf := oif c_21 hf
            refine lv_aload_n hx hb dX5_day_102 rfl (lv_at hl 1 rfl) ?_
            refine lv_aload_n hx hb dX5_day_103 rfl (lv_at hl 1 rfl) ?_
            refine va_get (D := D) (ci := 3) (v := .ref (a 2)) (C := RX5) (T := TX5) (N := 12) hx hb ht gX5 hown hK.1 hP 0 (cw0 a c σ_1) rfl 1 (by decide) (ht _ q15) (fun _ h9 => h9) rfl dX5_day_104 ?_
            refine lv_iload_n hx hb dX5_day_107 rfl (lv_at hl 2 rfl) ?_
            obtain ⟨g_22, hf⟩ := ogd hf
            refine va_aldq hx hb hK.1 hP 2 4 (cw2 a c σ_1) rfl (ck_in g_22) dX5_day_108 ?_
            refine W.eq (g2 := F0 m 109 ls [.ref (a (15 + (Int32.toNatClampNeg x1))), .ref (a 0)]) rfl ?_
            refine lv_iload_n hx hb dX5_day_109 rfl (lv_at hl 4 rfl) ?_
            refine lv_iload hx hb dX5_day_110 (lv_at hl 5 rfl) ?_
            obtain ⟨r_23, h_24, hf⟩ := obd hf
            refine xv_I (As := [.ref (a (15 + (Int32.toNatClampNeg x1))), .int x3, .int x4]) (rest := []) S k_X5_firstWrong q378 q379 q380 ⟨Nat.le_of_ble_eq_true rfl, Nat.le_of_ble_eq_true rfl⟩ ⟨rfl, rfl⟩ (c_X5_firstWrong l D a c A hD N (Int32.toNatClampNeg x1) x3 x4 σ_1 (ck_lt g_22) r_23 h_24) hK hP hS (va_recv hK.1 hP (rfl : vwCl[3]? = some (RX5, TX5, 12)) (cw0 a c σ_1)) rfl hl.1 rfl (Nat.le_of_ble_eq_true rfl) dX5_day_112 ⟨Nat.zero_le _, Nat.zero_le _⟩ (fun H locs hP hS => ?_)
            refine lv_istore (lv' := [(7, .int r_23), (6, .int r_14), (0, .ref (a 0)), (1, .int x1), (2, .int x2), (3, .int x3), (4, .int x4), (5, .int x5)]) hx hb dX5_day_115 hl (by decide) rfl (fun ls hl => ?_)
            refine lv_iload hx hb dX5_day_117 (lv_at hl 7 rfl) ?_
            refine lv_iconst (v := (1 : Int32)) hx hb dX5_day_119 (by decide) ?_
            refine lv_icmp_ne (tgt := 126) hx hb dX5_day_120 (by decide) (fun c_25 => ?_) (fun c_25 => ?_)
            · have hf := oif c_25 hf
              refine lv_iload hx hb dX5_day_126 (lv_at hl 0 rfl) ?_
              refine lv_bipush (v := (-9 : Int32)) hx hb dX5_day_128 (by decide) ?_
              refine lv_icmp_eq (tgt := 141) hx hb dX5_day_130 (by decide) (fun c_26 => ?_) (fun c_26 => ?_)
              · have hf := oit c_26 hf
                refine lv_aload_n hx hb dX5_day_141 rfl (lv_at hl 2 rfl) ?_
                refine lv_aload_n hx hb dX5_day_142 rfl (lv_at hl 2 rfl) ?_
                refine lv_aload_n hx hb dX5_day_143 rfl (lv_at hl 2 rfl) ?_
                refine va_get (D := D) (ci := 3) (v := .ref (a 2)) (C := RX5) (T := TX5) (N := 12) hx hb ht gX5 hown hK.1 hP 0 (cw0 a c σ_1) rfl 1 (by decide) (ht _ q15) (fun _ h9 => h9) rfl dX5_day_144 ?_
                refine lv_iload_n hx hb dX5_day_147 rfl (lv_at hl 3 rfl) ?_
                obtain ⟨g_27, hf⟩ := ogd hf
                refine va_aldq hx hb hK.1 hP 2 4 (cw2 a c σ_1) rfl (ck_in g_27) dX5_day_148 ?_
                refine W.eq (g2 := F0 m 149 ls [.ref (a (15 + (Int32.toNatClampNeg x1))), .ref (a 0), .ref (a 0)]) rfl ?_
                refine lv_iload_n hx hb dX5_day_149 rfl (lv_at hl 5 rfl) ?_
                refine lv_iload hx hb dX5_day_150 (lv_at hl 6 rfl) ?_
                obtain ⟨r_28, h_29, hf⟩ := obd hf
                refine xv_I (As := [.ref (a (15 + (Int32.toNatClampNeg x1))), .int x3, .int x4]) (rest := [.ref (a 0)]) S k_X5_standAfter q383 q384 q385 ⟨Nat.le_of_ble_eq_true rfl, Nat.le_of_ble_eq_true rfl⟩ ⟨rfl, rfl⟩ (c_X5_standAfter l D a c A hD N (Int32.toNatClampNeg x1) x3 x4 σ_1 (ck_lt g_27) r_28 h_29) hK hP hS (va_recv hK.1 hP (rfl : vwCl[3]? = some (RX5, TX5, 12)) (cw0 a c σ_1)) rfl hl.1 rfl (Nat.le_of_ble_eq_true rfl) dX5_day_152 ⟨Nat.zero_le _, Nat.zero_le _⟩ (fun H locs hP hS => ?_)
                refine lv_iload hx hb dX5_day_155 (lv_at hl 7 rfl) ?_
                obtain ⟨r_30, h_31, hf⟩ := obd hf
                refine xv_I (As := [.int r_28, .int x5]) (rest := []) S k_X5_ofStand q387 q388 q389 ⟨Nat.le_of_ble_eq_true rfl, Nat.le_of_ble_eq_true rfl⟩ ⟨rfl, rfl⟩ (c_X5_ofStand l D a c A hD N r_28 x5 σ_1 r_30 h_31) hK hP hS (va_recv hK.1 hP (rfl : vwCl[3]? = some (RX5, TX5, 12)) (cw0 a c σ_1)) rfl hl.1 rfl (Nat.le_of_ble_eq_true rfl) dX5_day_157 ⟨Nat.zero_le _, Nat.zero_le _⟩ (fun H locs hP hS => ?_)
                exact hret _ _ _ _ _ _ dX5_day_160 rfl hP hS (oret hf)
              have hf := oif c_26 hf
              refine lv_bipush (v := (-100 : Int32)) hx hb dX5_day_133 (by decide) ?_
              refine lv_iload hx hb dX5_day_135 (lv_at hl 0 rfl) ?_
              refine lv_isub hx hb dX5_day_137 ?_
              refine lv_goto (tgt := 160) hx hb dX5_day_138 (by decide) ?_
              exact hret _ _ _ _ _ _ dX5_day_160 rfl hP hS (oret hf)
            have hf := oit c_25 hf
            refine lv_iload hx hb dX5_day_123 (lv_at hl 0 rfl) ?_
            exact hret _ _ _ _ _ _ dX5_day_125 rfl hP hS (oret hf)
          have hf := oit c_21 hf
          refine lv_bipush (v := (-2 : Int32)) hx hb dX5_day_99 (by decide) ?_
          exact hret _ _ _ _ _ _ dX5_day_101 rfl hP hS (oret hf)
        have hf := oit c_17 hf
        refine lv_bipush (v := (-3 : Int32)) hx hb dX5_day_78 (by decide) ?_
        exact hret _ _ _ _ _ _ dX5_day_80 rfl hP hS (oret hf)
      have hf := oif c_16 hf
      refine lv_aload_n hx hb dX5_day_64 rfl (lv_at hl 1 rfl) ?_
      refine lv_iload hx hb dX5_day_65 (lv_at hl 0 rfl) ?_
      obtain ⟨r_32, σ_33, h_34, hf⟩ := obd2 hf
      refine xv_I (As := [.int r_14]) (rest := []) S k_X5_come q94 q95 q96 ⟨Nat.le_of_ble_eq_true rfl, Nat.le_of_ble_eq_true rfl⟩ ⟨rfl, rfl⟩ (c_X5_come l D a c A hD r_14 σ_1 r_32 σ_33 h_34) hK hP hS (va_recv hK.1 hP (rfl : vwCl[3]? = some (RX5, TX5, 12)) (cw0 a c σ_1)) rfl hl.1 rfl (Nat.le_of_ble_eq_true rfl) dX5_day_67 ⟨Nat.zero_le _, Nat.zero_le _⟩ (fun H locs hP hS => ?_)
      exact hret _ _ _ _ _ _ dX5_day_70 rfl hP hS (oret hf)
    have hf := oit c_12 hf
    refine lv_bipush (v := (-2 : Int32)) hx hb dX5_day_41 (by decide) ?_
    exact hret _ _ _ _ _ _ dX5_day_43 rfl hP hS (oret hf)
  have hf := oit c_4 hf
  refine lv_iconst (v := (-1 : Int32)) hx hb dX5_day_12 (by decide) ?_
  exact hret _ _ _ _ _ _ dX5_day_13 rfl hP hS (oret hf)
theorem dX5_nestTold_0 : decode cX5_nestTold 0 = .ok (.iconst 0, 1) := by decide +kernel
theorem dX5_nestTold_1 : decode cX5_nestTold 1 = .ok (.istore_n 3, 1) := by decide +kernel
theorem dX5_nestTold_2 : decode cX5_nestTold 2 = .ok (.iconst 0, 1) := by decide +kernel
theorem dX5_nestTold_3 : decode cX5_nestTold 3 = .ok (.istore 4, 2) := by decide +kernel
theorem dX5_nestTold_5 : decode cX5_nestTold 5 = .ok (.iload 4, 2) := by decide +kernel
theorem dX5_nestTold_7 : decode cX5_nestTold 7 = .ok (.aload_n 0, 1) := by decide +kernel
theorem dX5_nestTold_8 : decode cX5_nestTold 8 = .ok (.getfield 72, 3) := by decide +kernel
theorem dX5_nestTold_11 : decode cX5_nestTold 11 = .ok (.if_icmp .ge 24, 3) := by decide +kernel
theorem dX5_nestTold_14 : decode cX5_nestTold 14 = .ok (.iload_n 3, 1) := by decide +kernel
theorem dX5_nestTold_15 : decode cX5_nestTold 15 = .ok (.iload 4, 2) := by decide +kernel
theorem dX5_nestTold_17 : decode cX5_nestTold 17 = .ok (.aload_n 1, 1) := by decide +kernel
theorem dX5_nestTold_18 : decode cX5_nestTold 18 = .ok (.iload_n 2, 1) := by decide +kernel
theorem dX5_nestTold_19 : decode cX5_nestTold 19 = .ok (.iload 4, 2) := by decide +kernel
theorem dX5_nestTold_21 : decode cX5_nestTold 21 = .ok (.iadd, 1) := by decide +kernel
theorem dX5_nestTold_22 : decode cX5_nestTold 22 = .ok (.invokevirtual 168, 3) := by decide +kernel
theorem dX5_nestTold_25 : decode cX5_nestTold 25 = .ok (.invokestatic 208, 3) := by decide +kernel
theorem dX5_nestTold_28 : decode cX5_nestTold 28 = .ok (.istore_n 3, 1) := by decide +kernel
theorem dX5_nestTold_29 : decode cX5_nestTold 29 = .ok (.iinc 4 1, 3) := by decide +kernel
theorem dX5_nestTold_32 : decode cX5_nestTold 32 = .ok (.goto (-27), 3) := by decide +kernel
theorem dX5_nestTold_35 : decode cX5_nestTold 35 = .ok (.iload_n 3, 1) := by decide +kernel
theorem dX5_nestTold_36 : decode cX5_nestTold 36 = .ok (.ireturn, 1) := by decide +kernel
def f_X5_nestTold_j35 (N : Nat) (x3 : Int32) (σ : St) : Option Int32 :=
  some x3
def f_X5_nestTold_b5 (N : Nat) (x1 : Nat) (x2 : Int32) (x3 : Int32) (x4 : Int32) (σ : St) : Option ((Int32 × Int32) ⊕ ((Int32))) :=
  if (σ.1 0 0) ≤ x4 then (some (.inr x3))
  else bd (f_X2_at x1 (x2 + x4) σ) fun r_2 =>
  bd (f_X3_moved x3 x4 r_2) fun r_4 =>
  nm (x4 + (1 : Int32)) fun x4_6 =>
  some (.inl (r_4, x4_6))
def f_X5_nestTold (N : Nat) (x1 : Nat) (x2 : Int32) (σ : St) : Option Int32 :=
  bd (lpF (fun s => f_X5_nestTold_b5 N x1 x2 s.1 s.2 σ) N ((0 : Int32), (0 : Int32))) (fun o => f_X5_nestTold_j35 N o σ)
abbrev rmX5_nestTold : Room := { frames := 1, cells := 0, slots := 0, locals := 23 }
set_option maxRecDepth 100000 in
set_option maxHeartbeats 4000000 in
theorem c_X5_nestTold (l : Launch) (D : va_G) (a : Nat → Nat) (c : Nat → ClassId) (A : Nat → Prop) (hD : ∀ σ, va_D A (cW a c σ)) (N : Nat) (x1 : Nat) (x2 : Int32) (σ : St) (hx1 : x1 < 4) (r : Int32) (hf : f_X5_nestTold N x1 x2 σ = some r) : MetI l yX5_nestTold cX5_nestTold 5 (some .int) rmX5_nestTold (cW a c) D c A [.ref (a 0), .ref (a (15 + x1)), .int x2] σ r σ := by
  refine mkI (by decide) (Nat.le_of_ble_eq_true rfl) rfl ?_
  intro p e s m args below meth cd Q ls h0 hK hP hret hl
  obtain ⟨S, hr, hlk⟩ := h0
  obtain ⟨hx, hb, hml, hown, ht⟩ := id S
  have hS : va_S A s.heap s.heap [] := va_S.rf
  have hl : lv_has ls 5 [(0, .ref (a 0)), (1, .ref (a (15 + x1))), (2, .int x2)] := hl
  have hf := obs hf
  have j35 : ∀ (x3 : Int32) (H : Heap) (locs : List Loc) (ls : Array Slot), lv_has ls 5 [(3, .int x3)] → va_P D vwCl (cW a c σ) H → va_S A s.heap H locs → Option.bind (f_X5_nestTold_j35 N x3 σ) some = some r → W p l e rmX5_nestTold s m args below meth cd H locs 0 0 Q (F0 m 35 ls []) := by
    intro x3 H locs ls hl hP hS hf
    have hf := oun (f_X5_nestTold_j35.eq_1 _ _ _) hf
    refine lv_iload_n hx hb dX5_nestTold_35 rfl (lv_at hl 0 rfl) ?_
    exact hret _ _ _ _ _ _ dX5_nestTold_36 rfl hP hS ⟨Option.some.inj hf, rfl⟩
  have L5 : ∀ (x1 : Nat) (x2 : Int32) (hx1 : x1 < 4) (k : Nat) (x3 : Int32) (x4 : Int32) (H : Heap) (locs : List Loc) (ls : Array Slot), lv_has ls 5 [(0, .ref (a 0)), (1, .ref (a (15 + x1))), (2, .int x2), (3, .int x3), (4, .int x4)] → va_P D vwCl (cW a c σ) H → va_S A s.heap H locs → Option.bind (bd (lpF (fun s => f_X5_nestTold_b5 N x1 x2 s.1 s.2 σ) k (x3, x4)) (fun o => f_X5_nestTold_j35 N o σ)) some = some r → W p l e rmX5_nestTold s m args below meth cd H locs 0 0 Q (F0 m 5 ls []) := by
    intro x1 x2 hx1 k
    induction k with
    | zero =>
      intro x3 x4 H locs ls hl hP hS hf
      exact (ol0 hf).elim
    | succ k ih =>
      intro x3 x4 H locs ls hl hP hS hf
      obtain ⟨K5, hf, hc5, hx5⟩ := ol1 hf
      have hf := oun (f_X5_nestTold_b5.eq_1 N x1 x2 x3 x4 σ) hf
      refine lv_iload hx hb dX5_nestTold_5 (lv_at hl 4 rfl) ?_
      refine lv_aload_n hx hb dX5_nestTold_7 rfl (lv_at hl 0 rfl) ?_
      refine va_get (D := D) (ci := 3) (v := .int (σ.1 0 0)) (C := RX5) (T := TX5) (N := 12) hx hb ht gX5 hown hK.1 hP 0 (cw0 a c σ) rfl 6 (by decide) (ht _ q74) (fun _ h9 => h9) rfl dX5_nestTold_8 ?_
      refine lv_icmp_ge (tgt := 35) hx hb dX5_nestTold_11 (by decide) (fun c_1 => ?_) (fun c_1 => ?_)
      · have hf := oit c_1 hf
        exact j35 x3 _ _ _ (lv_sub hl [3] rfl) hP hS (okx hf (hx5 _))
      have hf := oif c_1 hf
      refine lv_iload_n hx hb dX5_nestTold_14 rfl (lv_at hl 3 rfl) ?_
      refine lv_iload hx hb dX5_nestTold_15 (lv_at hl 4 rfl) ?_
      refine lv_aload_n hx hb dX5_nestTold_17 rfl (lv_at hl 1 rfl) ?_
      refine lv_iload_n hx hb dX5_nestTold_18 rfl (lv_at hl 2 rfl) ?_
      refine lv_iload hx hb dX5_nestTold_19 (lv_at hl 4 rfl) ?_
      refine lv_iadd hx hb dX5_nestTold_21 ?_
      obtain ⟨r_2, h_3, hf⟩ := obd hf
      refine xv_I (As := [.int (x2 + x4)]) (rest := [.int x4, .int x3]) S k_X2_at q382 q103 q104 ⟨Nat.le_of_ble_eq_true rfl, Nat.le_of_ble_eq_true rfl⟩ ⟨rfl, rfl⟩ (c_X2_at l D a c A hD x1 (x2 + x4) σ hx1 r_2 h_3) hK hP hS (va_recv hK.1 hP (rfl : vwCl[2]? = some (RX2, TX2, 3)) (cwX2 a c σ x1 hx1)) rfl hl.1 rfl (Nat.le_of_ble_eq_true rfl) dX5_nestTold_22 ⟨Nat.zero_le _, Nat.zero_le _⟩ (fun H locs hP hS => ?_)
      obtain ⟨r_4, h_5, hf⟩ := obd hf
      refine xs_S (As := [.int x3, .int x4, .int r_2]) (rest := []) S k_X3_moved q452 q320 ⟨Nat.le_of_ble_eq_true rfl, Nat.le_of_ble_eq_true rfl⟩ ⟨rfl, rfl⟩ (c_X3_moved l x3 x4 r_2 r_4 h_5) hK.2 rfl hl.1 rfl (Nat.le_of_ble_eq_true rfl) dX5_nestTold_25 ⟨Nat.zero_le _, Nat.zero_le _⟩ ?_
      refine lv_istore_n (lv' := [(3, .int r_4), (0, .ref (a 0)), (1, .ref (a (15 + x1))), (2, .int x2), (4, .int x4)]) hx hb dX5_nestTold_28 rfl hl (by decide) rfl (fun ls hl => ?_)
      obtain ⟨x4_6, ex4_6, hf⟩ := onm hf
      refine lv_iinc (v := x4_6) (lv' := [(4, .int x4_6), (3, .int r_4), (0, .ref (a 0)), (1, .ref (a (15 + x1))), (2, .int x2)]) hx hb dX5_nestTold_29 hl (k := 4) rfl ex4_6 (by decide) rfl (fun ls hl => ?_)
      refine lv_goto (tgt := 5) hx hb dX5_nestTold_32 (by decide) ?_
      exact ih r_4 x4_6 _ _ _ (lv_sub hl [2, 3, 4, 1, 0] rfl) hP hS (okx hf (hc5 _))
  have hf := oun (f_X5_nestTold.eq_1 _ _ _ _) hf
  refine lv_iconst (v := (0 : Int32)) hx hb dX5_nestTold_0 (by decide) ?_
  refine lv_istore_n (lv' := [(3, .int (0 : Int32)), (0, .ref (a 0)), (1, .ref (a (15 + x1))), (2, .int x2)]) hx hb dX5_nestTold_1 rfl hl (by decide) rfl (fun ls hl => ?_)
  refine lv_iconst (v := (0 : Int32)) hx hb dX5_nestTold_2 (by decide) ?_
  refine lv_istore (lv' := [(4, .int (0 : Int32)), (3, .int (0 : Int32)), (0, .ref (a 0)), (1, .ref (a (15 + x1))), (2, .int x2)]) hx hb dX5_nestTold_3 hl (by decide) rfl (fun ls hl => ?_)
  exact L5 x1 x2 hx1 N (0 : Int32) (0 : Int32) _ _ _ (lv_sub hl [2, 3, 4, 1, 0] rfl) hP hS hf
theorem dX5_fewest_0 : decode cX5_fewest 0 = .ok (.aload_n 0, 1) := by decide +kernel
theorem dX5_fewest_1 : decode cX5_fewest 1 = .ok (.iconst 0, 1) := by decide +kernel
theorem dX5_fewest_2 : decode cX5_fewest 2 = .ok (.putfield 43, 3) := by decide +kernel
theorem dX5_fewest_5 : decode cX5_fewest 5 = .ok (.aload_n 0, 1) := by decide +kernel
theorem dX5_fewest_6 : decode cX5_fewest 6 = .ok (.getfield 72, 3) := by decide +kernel
theorem dX5_fewest_9 : decode cX5_fewest 9 = .ok (.ifCond .ne 6, 3) := by decide +kernel
theorem dX5_fewest_12 : decode cX5_fewest 12 = .ok (.bipush (-3), 2) := by decide +kernel
theorem dX5_fewest_14 : decode cX5_fewest 14 = .ok (.ireturn, 1) := by decide +kernel
theorem dX5_fewest_15 : decode cX5_fewest 15 = .ok (.iload_n 1, 1) := by decide +kernel
theorem dX5_fewest_16 : decode cX5_fewest 16 = .ok (.invokestatic 47, 3) := by decide +kernel
theorem dX5_fewest_19 : decode cX5_fewest 19 = .ok (.ifCond .ne 5, 3) := by decide +kernel
theorem dX5_fewest_22 : decode cX5_fewest 22 = .ok (.iconst (-1), 1) := by decide +kernel
theorem dX5_fewest_23 : decode cX5_fewest 23 = .ok (.ireturn, 1) := by decide +kernel
theorem dX5_fewest_24 : decode cX5_fewest 24 = .ok (.iload_n 2, 1) := by decide +kernel
theorem dX5_fewest_25 : decode cX5_fewest 25 = .ok (.invokestatic 51, 3) := by decide +kernel
theorem dX5_fewest_28 : decode cX5_fewest 28 = .ok (.ifCond .eq 16, 3) := by decide +kernel
theorem dX5_fewest_31 : decode cX5_fewest 31 = .ok (.iload 4, 2) := by decide +kernel
theorem dX5_fewest_33 : decode cX5_fewest 33 = .ok (.iconst (-1), 1) := by decide +kernel
theorem dX5_fewest_34 : decode cX5_fewest 34 = .ok (.if_icmp .lt 10, 3) := by decide +kernel
theorem dX5_fewest_37 : decode cX5_fewest 37 = .ok (.iload 4, 2) := by decide +kernel
theorem dX5_fewest_39 : decode cX5_fewest 39 = .ok (.bipush 60, 2) := by decide +kernel
theorem dX5_fewest_41 : decode cX5_fewest 41 = .ok (.if_icmp .lt 6, 3) := by decide +kernel
theorem dX5_fewest_44 : decode cX5_fewest 44 = .ok (.bipush (-2), 2) := by decide +kernel
theorem dX5_fewest_46 : decode cX5_fewest 46 = .ok (.ireturn, 1) := by decide +kernel
theorem dX5_fewest_47 : decode cX5_fewest 47 = .ok (.aload_n 0, 1) := by decide +kernel
theorem dX5_fewest_48 : decode cX5_fewest 48 = .ok (.getfield 19, 3) := by decide +kernel
theorem dX5_fewest_51 : decode cX5_fewest 51 = .ok (.iload_n 1, 1) := by decide +kernel
theorem dX5_fewest_52 : decode cX5_fewest 52 = .ok (.aaload, 1) := by decide +kernel
theorem dX5_fewest_53 : decode cX5_fewest 53 = .ok (.iload_n 2, 1) := by decide +kernel
theorem dX5_fewest_54 : decode cX5_fewest 54 = .ok (.iload_n 3, 1) := by decide +kernel
theorem dX5_fewest_55 : decode cX5_fewest 55 = .ok (.aload_n 0, 1) := by decide +kernel
theorem dX5_fewest_56 : decode cX5_fewest 56 = .ok (.getfield 72, 3) := by decide +kernel
theorem dX5_fewest_59 : decode cX5_fewest 59 = .ok (.invokevirtual 54, 3) := by decide +kernel
theorem dX5_fewest_62 : decode cX5_fewest 62 = .ok (.istore 5, 2) := by decide +kernel
theorem dX5_fewest_64 : decode cX5_fewest 64 = .ok (.iload 5, 2) := by decide +kernel
theorem dX5_fewest_66 : decode cX5_fewest 66 = .ok (.ifCond .eq 10, 3) := by decide +kernel
theorem dX5_fewest_69 : decode cX5_fewest 69 = .ok (.aload_n 0, 1) := by decide +kernel
theorem dX5_fewest_70 : decode cX5_fewest 70 = .ok (.iload 5, 2) := by decide +kernel
theorem dX5_fewest_72 : decode cX5_fewest 72 = .ok (.invokevirtual 58, 3) := by decide +kernel
theorem dX5_fewest_75 : decode cX5_fewest 75 = .ok (.ireturn, 1) := by decide +kernel
theorem dX5_fewest_76 : decode cX5_fewest 76 = .ok (.aload_n 0, 1) := by decide +kernel
theorem dX5_fewest_77 : decode cX5_fewest 77 = .ok (.getfield 19, 3) := by decide +kernel
theorem dX5_fewest_80 : decode cX5_fewest 80 = .ok (.iload_n 1, 1) := by decide +kernel
theorem dX5_fewest_81 : decode cX5_fewest 81 = .ok (.aaload, 1) := by decide +kernel
theorem dX5_fewest_82 : decode cX5_fewest 82 = .ok (.iload_n 3, 1) := by decide +kernel
theorem dX5_fewest_83 : decode cX5_fewest 83 = .ok (.aload_n 0, 1) := by decide +kernel
theorem dX5_fewest_84 : decode cX5_fewest 84 = .ok (.getfield 72, 3) := by decide +kernel
theorem dX5_fewest_87 : decode cX5_fewest 87 = .ok (.iconst 0, 1) := by decide +kernel
theorem dX5_fewest_88 : decode cX5_fewest 88 = .ok (.aload_n 0, 1) := by decide +kernel
theorem dX5_fewest_89 : decode cX5_fewest 89 = .ok (.getfield 72, 3) := by decide +kernel
theorem dX5_fewest_92 : decode cX5_fewest 92 = .ok (.invokevirtual 155, 3) := by decide +kernel
theorem dX5_fewest_95 : decode cX5_fewest 95 = .ok (.ifCond .ne 6, 3) := by decide +kernel
theorem dX5_fewest_98 : decode cX5_fewest 98 = .ok (.bipush (-2), 2) := by decide +kernel
theorem dX5_fewest_100 : decode cX5_fewest 100 = .ok (.ireturn, 1) := by decide +kernel
theorem dX5_fewest_101 : decode cX5_fewest 101 = .ok (.aload_n 0, 1) := by decide +kernel
theorem dX5_fewest_102 : decode cX5_fewest 102 = .ok (.getfield 37, 3) := by decide +kernel
theorem dX5_fewest_105 : decode cX5_fewest 105 = .ok (.aload_n 0, 1) := by decide +kernel
theorem dX5_fewest_106 : decode cX5_fewest 106 = .ok (.getfield 84, 3) := by decide +kernel
theorem dX5_fewest_109 : decode cX5_fewest 109 = .ok (.aload_n 0, 1) := by decide +kernel
theorem dX5_fewest_110 : decode cX5_fewest 110 = .ok (.getfield 72, 3) := by decide +kernel
theorem dX5_fewest_113 : decode cX5_fewest 113 = .ok (.aload_n 0, 1) := by decide +kernel
theorem dX5_fewest_114 : decode cX5_fewest 114 = .ok (.invokevirtual 177, 3) := by decide +kernel
theorem dX5_fewest_117 : decode cX5_fewest 117 = .ok (.invokevirtual 191, 3) := by decide +kernel
theorem dX5_fewest_120 : decode cX5_fewest 120 = .ok (.aload_n 0, 1) := by decide +kernel
theorem dX5_fewest_121 : decode cX5_fewest 121 = .ok (.getfield 37, 3) := by decide +kernel
theorem dX5_fewest_124 : decode cX5_fewest 124 = .ok (.aload_n 0, 1) := by decide +kernel
theorem dX5_fewest_125 : decode cX5_fewest 125 = .ok (.aload_n 0, 1) := by decide +kernel
theorem dX5_fewest_126 : decode cX5_fewest 126 = .ok (.getfield 19, 3) := by decide +kernel
theorem dX5_fewest_129 : decode cX5_fewest 129 = .ok (.iload_n 1, 1) := by decide +kernel
theorem dX5_fewest_130 : decode cX5_fewest 130 = .ok (.aaload, 1) := by decide +kernel
theorem dX5_fewest_131 : decode cX5_fewest 131 = .ok (.iload_n 3, 1) := by decide +kernel
theorem dX5_fewest_132 : decode cX5_fewest 132 = .ok (.invokevirtual 195, 3) := by decide +kernel
theorem dX5_fewest_135 : decode cX5_fewest 135 = .ok (.invokevirtual 199, 3) := by decide +kernel
theorem dX5_fewest_138 : decode cX5_fewest 138 = .ok (.istore 6, 2) := by decide +kernel
theorem dX5_fewest_140 : decode cX5_fewest 140 = .ok (.iload 6, 2) := by decide +kernel
theorem dX5_fewest_142 : decode cX5_fewest 142 = .ok (.bipush (-9), 2) := by decide +kernel
theorem dX5_fewest_144 : decode cX5_fewest 144 = .ok (.if_icmp .ne 6, 3) := by decide +kernel
theorem dX5_fewest_147 : decode cX5_fewest 147 = .ok (.bipush (-9), 2) := by decide +kernel
theorem dX5_fewest_149 : decode cX5_fewest 149 = .ok (.ireturn, 1) := by decide +kernel
theorem dX5_fewest_150 : decode cX5_fewest 150 = .ok (.iload 4, 2) := by decide +kernel
theorem dX5_fewest_152 : decode cX5_fewest 152 = .ok (.iconst (-1), 1) := by decide +kernel
theorem dX5_fewest_153 : decode cX5_fewest 153 = .ok (.if_icmp .ne 15, 3) := by decide +kernel
theorem dX5_fewest_156 : decode cX5_fewest 156 = .ok (.aload_n 0, 1) := by decide +kernel
theorem dX5_fewest_157 : decode cX5_fewest 157 = .ok (.getfield 37, 3) := by decide +kernel
theorem dX5_fewest_160 : decode cX5_fewest 160 = .ok (.iload 6, 2) := by decide +kernel
theorem dX5_fewest_162 : decode cX5_fewest 162 = .ok (.invokevirtual 202, 3) := by decide +kernel
theorem dX5_fewest_165 : decode cX5_fewest 165 = .ok (.goto 14, 3) := by decide +kernel
theorem dX5_fewest_168 : decode cX5_fewest 168 = .ok (.aload_n 0, 1) := by decide +kernel
theorem dX5_fewest_169 : decode cX5_fewest 169 = .ok (.getfield 37, 3) := by decide +kernel
theorem dX5_fewest_172 : decode cX5_fewest 172 = .ok (.iload 6, 2) := by decide +kernel
theorem dX5_fewest_174 : decode cX5_fewest 174 = .ok (.iload 4, 2) := by decide +kernel
theorem dX5_fewest_176 : decode cX5_fewest 176 = .ok (.invokevirtual 205, 3) := by decide +kernel
theorem dX5_fewest_179 : decode cX5_fewest 179 = .ok (.ireturn, 1) := by decide +kernel
def f_X5_fewest (N : Nat) (x1 : Int32) (x2 : Int32) (x3 : Int32) (x4 : Int32) (σ : St) : Option (Int32 × St) :=
  nm (wS σ 0 5 (0 : Int32)) fun σ_1 =>
  if (σ_1.1 0 0) = 0 then (some ((-3 : Int32), σ_1))
  else bd (f_X5_isSheet x1) fun r_3 =>
    if r_3 = 0 then (some ((-1 : Int32), σ_1))
    else bd (f_X5_isLane x2) fun r_6 =>
      if r_6 = 0 then (some ((-2 : Int32), σ_1))
      else if x4 < (-1 : Int32) then (some ((-2 : Int32), σ_1))
      else if x4 < (60 : Int32) then (gd (ck x1 4) <|
        bd (f_X2_faultOf (Int32.toNatClampNeg x1) x2 x3 (σ_1.1 0 0) σ_1) fun r_12 =>
        if r_12 = 0 then (gd (ck x1 4) <|
          bd (f_X2_isWithin N (Int32.toNatClampNeg x1) x3 (σ_1.1 0 0) (0 : Int32) (σ_1.1 0 0) σ_1) fun r_16 =>
          if r_16 = 0 then (some ((-2 : Int32), σ_1))
          else bd (f_X5_fitting N σ_1) fun r_19 =>
            bd (f_X1_go N (σ_1.1 0 1) (σ_1.1 0 0) r_19 σ_1) fun σ_21 =>
            gd (ck x1 4) <|
            bd (f_X5_nestTold N (Int32.toNatClampNeg x1) x3 σ_21) fun r_24 =>
            bd (f_X1_find N r_24 σ_21) fun r_26 =>
            if r_26 = (-9 : Int32) then (some ((-9 : Int32), σ_21))
            else if x4 = (-1 : Int32) then (bd (f_X1_lengthTo N r_26 σ_21) fun r_32 =>
                some (r_32, σ_21))
              else bd (f_X1_actTo N r_26 x4 σ_21) fun r_30 =>
                some (r_30, σ_21))
        else bd2 (f_X5_come r_12 σ_1) fun r_34 σ_35 =>
        some (r_34, σ_35))
      else some ((-2 : Int32), σ_1)
abbrev rmX5_fewest : Room := { frames := 6, cells := 0, slots := 0, locals := 143 }
set_option maxRecDepth 100000 in
set_option maxHeartbeats 4000000 in
theorem c_X5_fewest (l : Launch) (D : va_G) (a : Nat → Nat) (c : Nat → ClassId) (A : Nat → Prop) (hD : ∀ σ, va_D A (cW a c σ)) (N : Nat) (x1 : Int32) (x2 : Int32) (x3 : Int32) (x4 : Int32) (σ : St) (r : Int32) (u : St) (hf : f_X5_fewest N x1 x2 x3 x4 σ = some (r, u)) : MetI l yX5_fewest cX5_fewest 7 (some .int) rmX5_fewest (cW a c) D c A [.ref (a 0), .int x1, .int x2, .int x3, .int x4] σ r u := by
  refine mkI (by decide) (Nat.le_of_ble_eq_true rfl) rfl ?_
  intro p e s m args below meth cd Q ls h0 hK hP hret hl
  obtain ⟨S, hr, hlk⟩ := h0
  obtain ⟨hx, hb, hml, hown, ht⟩ := id S
  have hS : va_S A s.heap s.heap [] := va_S.rf
  have hl : lv_has ls 7 [(0, .ref (a 0)), (1, .int x1), (2, .int x2), (3, .int x3), (4, .int x4)] := hl
  have hf := obs hf
  have hf := oun (f_X5_fewest.eq_1 _ _ _ _ _ _) hf
  refine lv_aload_n hx hb dX5_fewest_0 rfl (lv_at hl 0 rfl) ?_
  refine lv_iconst (v := (0 : Int32)) hx hb dX5_fewest_1 (by decide) ?_
  refine va_put (D := D) (ci := 3) (v := .int (0 : Int32)) (ty := .int) (C := RX5) (T := TX5) (N := 12) hx hb ht gX5 tyX5 tyX5_ok nmX5 hown hK.1 hP (hD σ) hS 0 (cw0 a c σ) rfl 11 (by decide) (ht _ q73) (fun _ h9 => h9) rfl (by decide +kernel) rfl rfl (Nat.le_of_ble_eq_true rfl) dX5_fewest_2 (fun H locs hP _ hS => ?_)
  have hP := vP_eq (cpX5_latestFault a c σ (0 : Int32)) hP
  obtain ⟨σ_1, eσ_1, hf⟩ := onm hf
  rw [eσ_1] at hP
  refine lv_aload_n hx hb dX5_fewest_5 rfl (lv_at hl 0 rfl) ?_
  refine va_get (D := D) (ci := 3) (v := .int (σ_1.1 0 0)) (C := RX5) (T := TX5) (N := 12) hx hb ht gX5 hown hK.1 hP 0 (cw0 a c σ_1) rfl 6 (by decide) (ht _ q74) (fun _ h9 => h9) rfl dX5_fewest_6 ?_
  refine lv_if_ne (tgt := 15) hx hb dX5_fewest_9 (by decide) (fun c_2 => ?_) (fun c_2 => ?_)
  · have hf := oif c_2 hf
    refine lv_iload_n hx hb dX5_fewest_15 rfl (lv_at hl 1 rfl) ?_
    obtain ⟨r_3, h_4, hf⟩ := obd hf
    refine xs_S (As := [.int x1]) (rest := []) S k_X5_isSheet q75 q76 ⟨Nat.le_of_ble_eq_true rfl, Nat.le_of_ble_eq_true rfl⟩ ⟨rfl, rfl⟩ (c_X5_isSheet l x1 r_3 h_4) hK.2 rfl hl.1 rfl (Nat.le_of_ble_eq_true rfl) dX5_fewest_16 ⟨Nat.zero_le _, Nat.zero_le _⟩ ?_
    refine lv_if_ne (tgt := 24) hx hb dX5_fewest_19 (by decide) (fun c_5 => ?_) (fun c_5 => ?_)
    · have hf := oif c_5 hf
      refine lv_iload_n hx hb dX5_fewest_24 rfl (lv_at hl 2 rfl) ?_
      obtain ⟨r_6, h_7, hf⟩ := obd hf
      refine xs_S (As := [.int x2]) (rest := []) S k_X5_isLane q78 q79 ⟨Nat.le_of_ble_eq_true rfl, Nat.le_of_ble_eq_true rfl⟩ ⟨rfl, rfl⟩ (c_X5_isLane l x2 r_6 h_7) hK.2 rfl hl.1 rfl (Nat.le_of_ble_eq_true rfl) dX5_fewest_25 ⟨Nat.zero_le _, Nat.zero_le _⟩ ?_
      refine lv_if_eq (tgt := 44) hx hb dX5_fewest_28 (by decide) (fun c_8 => ?_) (fun c_8 => ?_)
      · have hf := oit c_8 hf
        refine lv_bipush (v := (-2 : Int32)) hx hb dX5_fewest_44 (by decide) ?_
        exact hret _ _ _ _ _ _ dX5_fewest_46 rfl hP hS (oret hf)
      have hf := oif c_8 hf
      refine lv_iload hx hb dX5_fewest_31 (lv_at hl 4 rfl) ?_
      refine lv_iconst (v := (-1 : Int32)) hx hb dX5_fewest_33 (by decide) ?_
      refine lv_icmp_lt (tgt := 44) hx hb dX5_fewest_34 (by decide) (fun c_9 => ?_) (fun c_9 => ?_)
      · have hf := oit c_9 hf
        refine lv_bipush (v := (-2 : Int32)) hx hb dX5_fewest_44 (by decide) ?_
        exact hret _ _ _ _ _ _ dX5_fewest_46 rfl hP hS (oret hf)
      have hf := oif c_9 hf
      refine lv_iload hx hb dX5_fewest_37 (lv_at hl 4 rfl) ?_
      refine lv_bipush (v := (60 : Int32)) hx hb dX5_fewest_39 (by decide) ?_
      refine lv_icmp_lt (tgt := 47) hx hb dX5_fewest_41 (by decide) (fun c_10 => ?_) (fun c_10 => ?_)
      · have hf := oit c_10 hf
        refine lv_aload_n hx hb dX5_fewest_47 rfl (lv_at hl 0 rfl) ?_
        refine va_get (D := D) (ci := 3) (v := .ref (a 2)) (C := RX5) (T := TX5) (N := 12) hx hb ht gX5 hown hK.1 hP 0 (cw0 a c σ_1) rfl 1 (by decide) (ht _ q15) (fun _ h9 => h9) rfl dX5_fewest_48 ?_
        refine lv_iload_n hx hb dX5_fewest_51 rfl (lv_at hl 1 rfl) ?_
        obtain ⟨g_11, hf⟩ := ogd hf
        refine va_aldq hx hb hK.1 hP 2 4 (cw2 a c σ_1) rfl (ck_in g_11) dX5_fewest_52 ?_
        refine W.eq (g2 := F0 m 53 ls [.ref (a (15 + (Int32.toNatClampNeg x1)))]) rfl ?_
        refine lv_iload_n hx hb dX5_fewest_53 rfl (lv_at hl 2 rfl) ?_
        refine lv_iload_n hx hb dX5_fewest_54 rfl (lv_at hl 3 rfl) ?_
        refine lv_aload_n hx hb dX5_fewest_55 rfl (lv_at hl 0 rfl) ?_
        refine va_get (D := D) (ci := 3) (v := .int (σ_1.1 0 0)) (C := RX5) (T := TX5) (N := 12) hx hb ht gX5 hown hK.1 hP 0 (cw0 a c σ_1) rfl 6 (by decide) (ht _ q74) (fun _ h9 => h9) rfl dX5_fewest_56 ?_
        obtain ⟨r_12, h_13, hf⟩ := obd hf
        refine xv_I (As := [.int x2, .int x3, .int (σ_1.1 0 0)]) (rest := []) S k_X2_faultOf q81 q82 q83 ⟨Nat.le_of_ble_eq_true rfl, Nat.le_of_ble_eq_true rfl⟩ ⟨rfl, rfl⟩ (c_X2_faultOf l D a c A hD (Int32.toNatClampNeg x1) x2 x3 (σ_1.1 0 0) σ_1 (ck_lt g_11) r_12 h_13) hK hP hS (va_recv hK.1 hP (rfl : vwCl[2]? = some (RX2, TX2, 3)) (cwX2 a c σ_1 (Int32.toNatClampNeg x1) (ck_lt g_11))) rfl hl.1 rfl (Nat.le_of_ble_eq_true rfl) dX5_fewest_59 ⟨Nat.zero_le _, Nat.zero_le _⟩ (fun H locs hP hS => ?_)
        refine lv_istore (lv' := [(5, .int r_12), (0, .ref (a 0)), (1, .int x1), (2, .int x2), (3, .int x3), (4, .int x4)]) hx hb dX5_fewest_62 hl (by decide) rfl (fun ls hl => ?_)
        refine lv_iload hx hb dX5_fewest_64 (lv_at hl 0 rfl) ?_
        refine lv_if_eq (tgt := 76) hx hb dX5_fewest_66 (by decide) (fun c_14 => ?_) (fun c_14 => ?_)
        · have hf := oit c_14 hf
          refine lv_aload_n hx hb dX5_fewest_76 rfl (lv_at hl 1 rfl) ?_
          refine va_get (D := D) (ci := 3) (v := .ref (a 2)) (C := RX5) (T := TX5) (N := 12) hx hb ht gX5 hown hK.1 hP 0 (cw0 a c σ_1) rfl 1 (by decide) (ht _ q15) (fun _ h9 => h9) rfl dX5_fewest_77 ?_
          refine lv_iload_n hx hb dX5_fewest_80 rfl (lv_at hl 2 rfl) ?_
          obtain ⟨g_15, hf⟩ := ogd hf
          refine va_aldq hx hb hK.1 hP 2 4 (cw2 a c σ_1) rfl (ck_in g_15) dX5_fewest_81 ?_
          refine W.eq (g2 := F0 m 82 ls [.ref (a (15 + (Int32.toNatClampNeg x1)))]) rfl ?_
          refine lv_iload_n hx hb dX5_fewest_82 rfl (lv_at hl 4 rfl) ?_
          refine lv_aload_n hx hb dX5_fewest_83 rfl (lv_at hl 1 rfl) ?_
          refine va_get (D := D) (ci := 3) (v := .int (σ_1.1 0 0)) (C := RX5) (T := TX5) (N := 12) hx hb ht gX5 hown hK.1 hP 0 (cw0 a c σ_1) rfl 6 (by decide) (ht _ q74) (fun _ h9 => h9) rfl dX5_fewest_84 ?_
          refine lv_iconst (v := (0 : Int32)) hx hb dX5_fewest_87 (by decide) ?_
          refine lv_aload_n hx hb dX5_fewest_88 rfl (lv_at hl 1 rfl) ?_
          refine va_get (D := D) (ci := 3) (v := .int (σ_1.1 0 0)) (C := RX5) (T := TX5) (N := 12) hx hb ht gX5 hown hK.1 hP 0 (cw0 a c σ_1) rfl 6 (by decide) (ht _ q74) (fun _ h9 => h9) rfl dX5_fewest_89 ?_
          obtain ⟨r_16, h_17, hf⟩ := obd hf
          refine xv_I (As := [.int x3, .int (σ_1.1 0 0), .int (0 : Int32), .int (σ_1.1 0 0)]) (rest := []) S k_X2_isWithin q373 q374 q375 ⟨Nat.le_of_ble_eq_true rfl, Nat.le_of_ble_eq_true rfl⟩ ⟨rfl, rfl⟩ (c_X2_isWithin l D a c A hD N (Int32.toNatClampNeg x1) x3 (σ_1.1 0 0) (0 : Int32) (σ_1.1 0 0) σ_1 (ck_lt g_15) r_16 h_17) hK hP hS (va_recv hK.1 hP (rfl : vwCl[2]? = some (RX2, TX2, 3)) (cwX2 a c σ_1 (Int32.toNatClampNeg x1) (ck_lt g_15))) rfl hl.1 rfl (Nat.le_of_ble_eq_true rfl) dX5_fewest_92 ⟨Nat.zero_le _, Nat.zero_le _⟩ (fun H locs hP hS => ?_)
          refine lv_if_ne (tgt := 101) hx hb dX5_fewest_95 (by decide) (fun c_18 => ?_) (fun c_18 => ?_)
          · have hf := oif c_18 hf
            refine lv_aload_n hx hb dX5_fewest_101 rfl (lv_at hl 1 rfl) ?_
            refine va_get (D := D) (ci := 3) (v := .ref (a 6)) (C := RX5) (T := TX5) (N := 12) hx hb ht gX5 hown hK.1 hP 0 (cw0 a c σ_1) rfl 5 (by decide) (ht _ q24) (fun _ h9 => h9) rfl dX5_fewest_102 ?_
            refine lv_aload_n hx hb dX5_fewest_105 rfl (lv_at hl 1 rfl) ?_
            refine va_get (D := D) (ci := 3) (v := .int (σ_1.1 0 1)) (C := RX5) (T := TX5) (N := 12) hx hb ht gX5 hown hK.1 hP 0 (cw0 a c σ_1) rfl 7 (by decide) (ht _ q116) (fun _ h9 => h9) rfl dX5_fewest_106 ?_
            refine lv_aload_n hx hb dX5_fewest_109 rfl (lv_at hl 1 rfl) ?_
            refine va_get (D := D) (ci := 3) (v := .int (σ_1.1 0 0)) (C := RX5) (T := TX5) (N := 12) hx hb ht gX5 hown hK.1 hP 0 (cw0 a c σ_1) rfl 6 (by decide) (ht _ q74) (fun _ h9 => h9) rfl dX5_fewest_110 ?_
            refine lv_aload_n hx hb dX5_fewest_113 rfl (lv_at hl 1 rfl) ?_
            obtain ⟨r_19, h_20, hf⟩ := obd hf
            refine xv_I (As := []) (rest := [.int (σ_1.1 0 0), .int (σ_1.1 0 1), .ref (a 6)]) S k_X5_fitting q302 q303 q304 ⟨Nat.le_of_ble_eq_true rfl, Nat.le_of_ble_eq_true rfl⟩ ⟨rfl, rfl⟩ (c_X5_fitting l D a c A hD N σ_1 r_19 h_20) hK hP hS (va_recv hK.1 hP (rfl : vwCl[3]? = some (RX5, TX5, 12)) (cw0 a c σ_1)) rfl hl.1 rfl (Nat.le_of_ble_eq_true rfl) dX5_fewest_114 ⟨Nat.zero_le _, Nat.zero_le _⟩ (fun H locs hP hS => ?_)
            obtain ⟨σ_21, h_22, hf⟩ := obd hf
            refine xv_V (As := [.int (σ_1.1 0 1), .int (σ_1.1 0 0), .int r_19]) (rest := []) S k_X1_go q427 q428 q429 ⟨Nat.le_of_ble_eq_true rfl, Nat.le_of_ble_eq_true rfl⟩ ⟨rfl, rfl⟩ (c_X1_go l D a c A hD N (σ_1.1 0 1) (σ_1.1 0 0) r_19 σ_1 σ_21 h_22) hK hP hS (va_recv hK.1 hP (rfl : vwCl[1]? = some (RX1, TX1, 7)) (cw6 a c σ_1)) rfl hl.1 rfl (Nat.le_of_ble_eq_true rfl) dX5_fewest_117 ⟨Nat.zero_le _, Nat.zero_le _⟩ (fun H locs hP hS => ?_)
            refine lv_aload_n hx hb dX5_fewest_120 rfl (lv_at hl 1 rfl) ?_
            refine va_get (D := D) (ci := 3) (v := .ref (a 6)) (C := RX5) (T := TX5) (N := 12) hx hb ht gX5 hown hK.1 hP 0 (cw0 a c σ_21) rfl 5 (by decide) (ht _ q24) (fun _ h9 => h9) rfl dX5_fewest_121 ?_
            refine lv_aload_n hx hb dX5_fewest_124 rfl (lv_at hl 1 rfl) ?_
            refine lv_aload_n hx hb dX5_fewest_125 rfl (lv_at hl 1 rfl) ?_
            refine va_get (D := D) (ci := 3) (v := .ref (a 2)) (C := RX5) (T := TX5) (N := 12) hx hb ht gX5 hown hK.1 hP 0 (cw0 a c σ_21) rfl 1 (by decide) (ht _ q15) (fun _ h9 => h9) rfl dX5_fewest_126 ?_
            refine lv_iload_n hx hb dX5_fewest_129 rfl (lv_at hl 2 rfl) ?_
            obtain ⟨g_23, hf⟩ := ogd hf
            refine va_aldq hx hb hK.1 hP 2 4 (cw2 a c σ_21) rfl (ck_in g_23) dX5_fewest_130 ?_
            refine W.eq (g2 := F0 m 131 ls [.ref (a (15 + (Int32.toNatClampNeg x1))), .ref (a 0), .ref (a 6)]) rfl ?_
            refine lv_iload_n hx hb dX5_fewest_131 rfl (lv_at hl 4 rfl) ?_
            obtain ⟨r_24, h_25, hf⟩ := obd hf
            refine xv_I (As := [.ref (a (15 + (Int32.toNatClampNeg x1))), .int x3]) (rest := [.ref (a 6)]) S k_X5_nestTold q448 q449 q450 ⟨Nat.le_of_ble_eq_true rfl, Nat.le_of_ble_eq_true rfl⟩ ⟨rfl, rfl⟩ (c_X5_nestTold l D a c A hD N (Int32.toNatClampNeg x1) x3 σ_21 (ck_lt g_23) r_24 h_25) hK hP hS (va_recv hK.1 hP (rfl : vwCl[3]? = some (RX5, TX5, 12)) (cw0 a c σ_21)) rfl hl.1 rfl (Nat.le_of_ble_eq_true rfl) dX5_fewest_132 ⟨Nat.zero_le _, Nat.zero_le _⟩ (fun H locs hP hS => ?_)
            obtain ⟨r_26, h_27, hf⟩ := obd hf
            refine xv_I (As := [.int r_24]) (rest := []) S k_X1_find q453 q454 q455 ⟨Nat.le_of_ble_eq_true rfl, Nat.le_of_ble_eq_true rfl⟩ ⟨rfl, rfl⟩ (c_X1_find l D a c A hD N r_24 σ_21 r_26 h_27) hK hP hS (va_recv hK.1 hP (rfl : vwCl[1]? = some (RX1, TX1, 7)) (cw6 a c σ_21)) rfl hl.1 rfl (Nat.le_of_ble_eq_true rfl) dX5_fewest_135 ⟨Nat.zero_le _, Nat.zero_le _⟩ (fun H locs hP hS => ?_)
            refine lv_istore (lv' := [(6, .int r_26), (5, .int r_12), (0, .ref (a 0)), (1, .int x1), (2, .int x2), (3, .int x3), (4, .int x4)]) hx hb dX5_fewest_138 hl (by decide) rfl (fun ls hl => ?_)
            refine lv_iload hx hb dX5_fewest_140 (lv_at hl 0 rfl) ?_
            refine lv_bipush (v := (-9 : Int32)) hx hb dX5_fewest_142 (by decide) ?_
            refine lv_icmp_ne (tgt := 150) hx hb dX5_fewest_144 (by decide) (fun c_28 => ?_) (fun c_28 => ?_)
            · have hf := oif c_28 hf
              refine lv_iload hx hb dX5_fewest_150 (lv_at hl 6 rfl) ?_
              refine lv_iconst (v := (-1 : Int32)) hx hb dX5_fewest_152 (by decide) ?_
              refine lv_icmp_ne (tgt := 168) hx hb dX5_fewest_153 (by decide) (fun c_29 => ?_) (fun c_29 => ?_)
              · have hf := oif c_29 hf
                refine lv_aload_n hx hb dX5_fewest_168 rfl (lv_at hl 2 rfl) ?_
                refine va_get (D := D) (ci := 3) (v := .ref (a 6)) (C := RX5) (T := TX5) (N := 12) hx hb ht gX5 hown hK.1 hP 0 (cw0 a c σ_21) rfl 5 (by decide) (ht _ q24) (fun _ h9 => h9) rfl dX5_fewest_169 ?_
                refine lv_iload hx hb dX5_fewest_172 (lv_at hl 0 rfl) ?_
                refine lv_iload hx hb dX5_fewest_174 (lv_at hl 6 rfl) ?_
                obtain ⟨r_30, h_31, hf⟩ := obd hf
                refine xv_I (As := [.int r_26, .int x4]) (rest := []) S k_X1_actTo q461 q462 q463 ⟨Nat.le_of_ble_eq_true rfl, Nat.le_of_ble_eq_true rfl⟩ ⟨rfl, rfl⟩ (c_X1_actTo l D a c A hD N r_26 x4 σ_21 r_30 h_31) hK hP hS (va_recv hK.1 hP (rfl : vwCl[1]? = some (RX1, TX1, 7)) (cw6 a c σ_21)) rfl hl.1 rfl (Nat.le_of_ble_eq_true rfl) dX5_fewest_176 ⟨Nat.zero_le _, Nat.zero_le _⟩ (fun H locs hP hS => ?_)
                exact hret _ _ _ _ _ _ dX5_fewest_179 rfl hP hS (oret hf)
              have hf := oit c_29 hf
              refine lv_aload_n hx hb dX5_fewest_156 rfl (lv_at hl 2 rfl) ?_
              refine va_get (D := D) (ci := 3) (v := .ref (a 6)) (C := RX5) (T := TX5) (N := 12) hx hb ht gX5 hown hK.1 hP 0 (cw0 a c σ_21) rfl 5 (by decide) (ht _ q24) (fun _ h9 => h9) rfl dX5_fewest_157 ?_
              refine lv_iload hx hb dX5_fewest_160 (lv_at hl 0 rfl) ?_
              obtain ⟨r_32, h_33, hf⟩ := obd hf
              refine xv_I (As := [.int r_26]) (rest := []) S k_X1_lengthTo q457 q458 q459 ⟨Nat.le_of_ble_eq_true rfl, Nat.le_of_ble_eq_true rfl⟩ ⟨rfl, rfl⟩ (c_X1_lengthTo l D a c A hD N r_26 σ_21 r_32 h_33) hK hP hS (va_recv hK.1 hP (rfl : vwCl[1]? = some (RX1, TX1, 7)) (cw6 a c σ_21)) rfl hl.1 rfl (Nat.le_of_ble_eq_true rfl) dX5_fewest_162 ⟨Nat.zero_le _, Nat.zero_le _⟩ (fun H locs hP hS => ?_)
              refine lv_goto (tgt := 179) hx hb dX5_fewest_165 (by decide) ?_
              exact hret _ _ _ _ _ _ dX5_fewest_179 rfl hP hS (oret hf)
            have hf := oit c_28 hf
            refine lv_bipush (v := (-9 : Int32)) hx hb dX5_fewest_147 (by decide) ?_
            exact hret _ _ _ _ _ _ dX5_fewest_149 rfl hP hS (oret hf)
          have hf := oit c_18 hf
          refine lv_bipush (v := (-2 : Int32)) hx hb dX5_fewest_98 (by decide) ?_
          exact hret _ _ _ _ _ _ dX5_fewest_100 rfl hP hS (oret hf)
        have hf := oif c_14 hf
        refine lv_aload_n hx hb dX5_fewest_69 rfl (lv_at hl 1 rfl) ?_
        refine lv_iload hx hb dX5_fewest_70 (lv_at hl 0 rfl) ?_
        obtain ⟨r_34, σ_35, h_36, hf⟩ := obd2 hf
        refine xv_I (As := [.int r_12]) (rest := []) S k_X5_come q94 q95 q96 ⟨Nat.le_of_ble_eq_true rfl, Nat.le_of_ble_eq_true rfl⟩ ⟨rfl, rfl⟩ (c_X5_come l D a c A hD r_12 σ_1 r_34 σ_35 h_36) hK hP hS (va_recv hK.1 hP (rfl : vwCl[3]? = some (RX5, TX5, 12)) (cw0 a c σ_1)) rfl hl.1 rfl (Nat.le_of_ble_eq_true rfl) dX5_fewest_72 ⟨Nat.zero_le _, Nat.zero_le _⟩ (fun H locs hP hS => ?_)
        exact hret _ _ _ _ _ _ dX5_fewest_75 rfl hP hS (oret hf)
      have hf := oif c_10 hf
      refine lv_bipush (v := (-2 : Int32)) hx hb dX5_fewest_44 (by decide) ?_
      exact hret _ _ _ _ _ _ dX5_fewest_46 rfl hP hS (oret hf)
    have hf := oit c_5 hf
    refine lv_iconst (v := (-1 : Int32)) hx hb dX5_fewest_22 (by decide) ?_
    exact hret _ _ _ _ _ _ dX5_fewest_23 rfl hP hS (oret hf)
  have hf := oit c_2 hf
  refine lv_bipush (v := (-3 : Int32)) hx hb dX5_fewest_12 (by decide) ?_
  exact hret _ _ _ _ _ _ dX5_fewest_14 rfl hP hS (oret hf)
theorem dX5_stands_0 : decode cX5_stands 0 = .ok (.iload_n 1, 1) := by decide +kernel
theorem dX5_stands_1 : decode cX5_stands 1 = .ok (.ifCond .lt 8, 3) := by decide +kernel
theorem dX5_stands_4 : decode cX5_stands 4 = .ok (.iload_n 1, 1) := by decide +kernel
theorem dX5_stands_5 : decode cX5_stands 5 = .ok (.iconst 3, 1) := by decide +kernel
theorem dX5_stands_6 : decode cX5_stands 6 = .ok (.if_icmp .le 6, 3) := by decide +kernel
theorem dX5_stands_9 : decode cX5_stands 9 = .ok (.bipush (-2), 2) := by decide +kernel
theorem dX5_stands_11 : decode cX5_stands 11 = .ok (.ireturn, 1) := by decide +kernel
theorem dX5_stands_12 : decode cX5_stands 12 = .ok (.aload_n 0, 1) := by decide +kernel
theorem dX5_stands_13 : decode cX5_stands 13 = .ok (.getfield 72, 3) := by decide +kernel
theorem dX5_stands_16 : decode cX5_stands 16 = .ok (.ifCond .ne 6, 3) := by decide +kernel
theorem dX5_stands_19 : decode cX5_stands 19 = .ok (.bipush (-3), 2) := by decide +kernel
theorem dX5_stands_21 : decode cX5_stands 21 = .ok (.ireturn, 1) := by decide +kernel
theorem dX5_stands_22 : decode cX5_stands 22 = .ok (.aload_n 0, 1) := by decide +kernel
theorem dX5_stands_23 : decode cX5_stands 23 = .ok (.getfield 37, 3) := by decide +kernel
theorem dX5_stands_26 : decode cX5_stands 26 = .ok (.aload_n 0, 1) := by decide +kernel
theorem dX5_stands_27 : decode cX5_stands 27 = .ok (.getfield 84, 3) := by decide +kernel
theorem dX5_stands_30 : decode cX5_stands 30 = .ok (.aload_n 0, 1) := by decide +kernel
theorem dX5_stands_31 : decode cX5_stands 31 = .ok (.getfield 72, 3) := by decide +kernel
theorem dX5_stands_34 : decode cX5_stands 34 = .ok (.aload_n 0, 1) := by decide +kernel
theorem dX5_stands_35 : decode cX5_stands 35 = .ok (.invokevirtual 177, 3) := by decide +kernel
theorem dX5_stands_38 : decode cX5_stands 38 = .ok (.invokevirtual 191, 3) := by decide +kernel
theorem dX5_stands_41 : decode cX5_stands 41 = .ok (.aload_n 0, 1) := by decide +kernel
theorem dX5_stands_42 : decode cX5_stands 42 = .ok (.getfield 37, 3) := by decide +kernel
theorem dX5_stands_45 : decode cX5_stands 45 = .ok (.iload_n 1, 1) := by decide +kernel
theorem dX5_stands_46 : decode cX5_stands 46 = .ok (.invokevirtual 211, 3) := by decide +kernel
theorem dX5_stands_49 : decode cX5_stands 49 = .ok (.ireturn, 1) := by decide +kernel
def f_X5_stands (N : Nat) (x1 : Int32) (σ : St) : Option (Int32 × St) :=
  if x1 < 0 then (some ((-2 : Int32), σ))
  else if x1 ≤ (3 : Int32) then (if (σ.1 0 0) = 0 then (some ((-3 : Int32), σ))
    else bd (f_X5_fitting N σ) fun r_4 =>
      bd (f_X1_go N (σ.1 0 1) (σ.1 0 0) r_4 σ) fun σ_6 =>
      bd (f_X1_howMany N x1 σ_6) fun r_8 =>
      some (r_8, σ_6))
  else some ((-2 : Int32), σ)
abbrev rmX5_stands : Room := { frames := 6, cells := 0, slots := 0, locals := 143 }
set_option maxRecDepth 100000 in
set_option maxHeartbeats 4000000 in
theorem c_X5_stands (l : Launch) (D : va_G) (a : Nat → Nat) (c : Nat → ClassId) (A : Nat → Prop) (hD : ∀ σ, va_D A (cW a c σ)) (N : Nat) (x1 : Int32) (σ : St) (r : Int32) (u : St) (hf : f_X5_stands N x1 σ = some (r, u)) : MetI l yX5_stands cX5_stands 2 (some .int) rmX5_stands (cW a c) D c A [.ref (a 0), .int x1] σ r u := by
  refine mkI (by decide) (Nat.le_of_ble_eq_true rfl) rfl ?_
  intro p e s m args below meth cd Q ls h0 hK hP hret hl
  obtain ⟨S, hr, hlk⟩ := h0
  obtain ⟨hx, hb, hml, hown, ht⟩ := id S
  have hS : va_S A s.heap s.heap [] := va_S.rf
  have hl : lv_has ls 2 [(0, .ref (a 0)), (1, .int x1)] := hl
  have hf := obs hf
  have hf := oun (f_X5_stands.eq_1 _ _ _) hf
  refine lv_iload_n hx hb dX5_stands_0 rfl (lv_at hl 1 rfl) ?_
  refine lv_if_lt (tgt := 9) hx hb dX5_stands_1 (by decide) (fun c_1 => ?_) (fun c_1 => ?_)
  · have hf := oit c_1 hf
    refine lv_bipush (v := (-2 : Int32)) hx hb dX5_stands_9 (by decide) ?_
    exact hret _ _ _ _ _ _ dX5_stands_11 rfl hP hS (oret hf)
  have hf := oif c_1 hf
  refine lv_iload_n hx hb dX5_stands_4 rfl (lv_at hl 1 rfl) ?_
  refine lv_iconst (v := (3 : Int32)) hx hb dX5_stands_5 (by decide) ?_
  refine lv_icmp_le (tgt := 12) hx hb dX5_stands_6 (by decide) (fun c_2 => ?_) (fun c_2 => ?_)
  · have hf := oit c_2 hf
    refine lv_aload_n hx hb dX5_stands_12 rfl (lv_at hl 0 rfl) ?_
    refine va_get (D := D) (ci := 3) (v := .int (σ.1 0 0)) (C := RX5) (T := TX5) (N := 12) hx hb ht gX5 hown hK.1 hP 0 (cw0 a c σ) rfl 6 (by decide) (ht _ q74) (fun _ h9 => h9) rfl dX5_stands_13 ?_
    refine lv_if_ne (tgt := 22) hx hb dX5_stands_16 (by decide) (fun c_3 => ?_) (fun c_3 => ?_)
    · have hf := oif c_3 hf
      refine lv_aload_n hx hb dX5_stands_22 rfl (lv_at hl 0 rfl) ?_
      refine va_get (D := D) (ci := 3) (v := .ref (a 6)) (C := RX5) (T := TX5) (N := 12) hx hb ht gX5 hown hK.1 hP 0 (cw0 a c σ) rfl 5 (by decide) (ht _ q24) (fun _ h9 => h9) rfl dX5_stands_23 ?_
      refine lv_aload_n hx hb dX5_stands_26 rfl (lv_at hl 0 rfl) ?_
      refine va_get (D := D) (ci := 3) (v := .int (σ.1 0 1)) (C := RX5) (T := TX5) (N := 12) hx hb ht gX5 hown hK.1 hP 0 (cw0 a c σ) rfl 7 (by decide) (ht _ q116) (fun _ h9 => h9) rfl dX5_stands_27 ?_
      refine lv_aload_n hx hb dX5_stands_30 rfl (lv_at hl 0 rfl) ?_
      refine va_get (D := D) (ci := 3) (v := .int (σ.1 0 0)) (C := RX5) (T := TX5) (N := 12) hx hb ht gX5 hown hK.1 hP 0 (cw0 a c σ) rfl 6 (by decide) (ht _ q74) (fun _ h9 => h9) rfl dX5_stands_31 ?_
      refine lv_aload_n hx hb dX5_stands_34 rfl (lv_at hl 0 rfl) ?_
      obtain ⟨r_4, h_5, hf⟩ := obd hf
      refine xv_I (As := []) (rest := [.int (σ.1 0 0), .int (σ.1 0 1), .ref (a 6)]) S k_X5_fitting q302 q303 q304 ⟨Nat.le_of_ble_eq_true rfl, Nat.le_of_ble_eq_true rfl⟩ ⟨rfl, rfl⟩ (c_X5_fitting l D a c A hD N σ r_4 h_5) hK hP hS (va_recv hK.1 hP (rfl : vwCl[3]? = some (RX5, TX5, 12)) (cw0 a c σ)) rfl hl.1 rfl (Nat.le_of_ble_eq_true rfl) dX5_stands_35 ⟨Nat.zero_le _, Nat.zero_le _⟩ (fun H locs hP hS => ?_)
      obtain ⟨σ_6, h_7, hf⟩ := obd hf
      refine xv_V (As := [.int (σ.1 0 1), .int (σ.1 0 0), .int r_4]) (rest := []) S k_X1_go q427 q428 q429 ⟨Nat.le_of_ble_eq_true rfl, Nat.le_of_ble_eq_true rfl⟩ ⟨rfl, rfl⟩ (c_X1_go l D a c A hD N (σ.1 0 1) (σ.1 0 0) r_4 σ σ_6 h_7) hK hP hS (va_recv hK.1 hP (rfl : vwCl[1]? = some (RX1, TX1, 7)) (cw6 a c σ)) rfl hl.1 rfl (Nat.le_of_ble_eq_true rfl) dX5_stands_38 ⟨Nat.zero_le _, Nat.zero_le _⟩ (fun H locs hP hS => ?_)
      refine lv_aload_n hx hb dX5_stands_41 rfl (lv_at hl 0 rfl) ?_
      refine va_get (D := D) (ci := 3) (v := .ref (a 6)) (C := RX5) (T := TX5) (N := 12) hx hb ht gX5 hown hK.1 hP 0 (cw0 a c σ_6) rfl 5 (by decide) (ht _ q24) (fun _ h9 => h9) rfl dX5_stands_42 ?_
      refine lv_iload_n hx hb dX5_stands_45 rfl (lv_at hl 1 rfl) ?_
      obtain ⟨r_8, h_9, hf⟩ := obd hf
      refine xv_I (As := [.int x1]) (rest := []) S k_X1_howMany q487 q488 q489 ⟨Nat.le_of_ble_eq_true rfl, Nat.le_of_ble_eq_true rfl⟩ ⟨rfl, rfl⟩ (c_X1_howMany l D a c A hD N x1 σ_6 r_8 h_9) hK hP hS (va_recv hK.1 hP (rfl : vwCl[1]? = some (RX1, TX1, 7)) (cw6 a c σ_6)) rfl hl.1 rfl (Nat.le_of_ble_eq_true rfl) dX5_stands_46 ⟨Nat.zero_le _, Nat.zero_le _⟩ (fun H locs hP hS => ?_)
      exact hret _ _ _ _ _ _ dX5_stands_49 rfl hP hS (oret hf)
    have hf := oit c_3 hf
    refine lv_bipush (v := (-3 : Int32)) hx hb dX5_stands_19 (by decide) ?_
    exact hret _ _ _ _ _ _ dX5_stands_21 rfl hP hS (oret hf)
  have hf := oif c_2 hf
  refine lv_bipush (v := (-2 : Int32)) hx hb dX5_stands_9 (by decide) ?_
  exact hret _ _ _ _ _ _ dX5_stands_11 rfl hP hS (oret hf)
theorem dX5_tidyPlace_0 : decode cX5_tidyPlace 0 = .ok (.iconst 0, 1) := by decide +kernel
theorem dX5_tidyPlace_1 : decode cX5_tidyPlace 1 = .ok (.istore_n 3, 1) := by decide +kernel
theorem dX5_tidyPlace_2 : decode cX5_tidyPlace 2 = .ok (.iconst 0, 1) := by decide +kernel
theorem dX5_tidyPlace_3 : decode cX5_tidyPlace 3 = .ok (.istore 4, 2) := by decide +kernel
theorem dX5_tidyPlace_5 : decode cX5_tidyPlace 5 = .ok (.iconst 0, 1) := by decide +kernel
theorem dX5_tidyPlace_6 : decode cX5_tidyPlace 6 = .ok (.istore 5, 2) := by decide +kernel
theorem dX5_tidyPlace_8 : decode cX5_tidyPlace 8 = .ok (.iload 5, 2) := by decide +kernel
theorem dX5_tidyPlace_10 : decode cX5_tidyPlace 10 = .ok (.iload_n 1, 1) := by decide +kernel
theorem dX5_tidyPlace_11 : decode cX5_tidyPlace 11 = .ok (.if_icmp .gt 36, 3) := by decide +kernel
theorem dX5_tidyPlace_14 : decode cX5_tidyPlace 14 = .ok (.iload 5, 2) := by decide +kernel
theorem dX5_tidyPlace_16 : decode cX5_tidyPlace 16 = .ok (.iload_n 3, 1) := by decide +kernel
theorem dX5_tidyPlace_17 : decode cX5_tidyPlace 17 = .ok (.aload_n 0, 1) := by decide +kernel
theorem dX5_tidyPlace_18 : decode cX5_tidyPlace 18 = .ok (.getfield 72, 3) := by decide +kernel
theorem dX5_tidyPlace_21 : decode cX5_tidyPlace 21 = .ok (.iload_n 2, 1) := by decide +kernel
theorem dX5_tidyPlace_22 : decode cX5_tidyPlace 22 = .ok (.invokestatic 221, 3) := by decide +kernel
theorem dX5_tidyPlace_25 : decode cX5_tidyPlace 25 = .ok (.istore 4, 2) := by decide +kernel
theorem dX5_tidyPlace_27 : decode cX5_tidyPlace 27 = .ok (.iload 4, 2) := by decide +kernel
theorem dX5_tidyPlace_29 : decode cX5_tidyPlace 29 = .ok (.ifCond .le 12, 3) := by decide +kernel
theorem dX5_tidyPlace_32 : decode cX5_tidyPlace 32 = .ok (.iload_n 3, 1) := by decide +kernel
theorem dX5_tidyPlace_33 : decode cX5_tidyPlace 33 = .ok (.iconst 1, 1) := by decide +kernel
theorem dX5_tidyPlace_34 : decode cX5_tidyPlace 34 = .ok (.iload 4, 2) := by decide +kernel
theorem dX5_tidyPlace_36 : decode cX5_tidyPlace 36 = .ok (.iconst 1, 1) := by decide +kernel
theorem dX5_tidyPlace_37 : decode cX5_tidyPlace 37 = .ok (.isub, 1) := by decide +kernel
theorem dX5_tidyPlace_38 : decode cX5_tidyPlace 38 = .ok (.ishl, 1) := by decide +kernel
theorem dX5_tidyPlace_39 : decode cX5_tidyPlace 39 = .ok (.ior, 1) := by decide +kernel
theorem dX5_tidyPlace_40 : decode cX5_tidyPlace 40 = .ok (.istore_n 3, 1) := by decide +kernel
theorem dX5_tidyPlace_41 : decode cX5_tidyPlace 41 = .ok (.iinc 5 1, 3) := by decide +kernel
theorem dX5_tidyPlace_44 : decode cX5_tidyPlace 44 = .ok (.goto (-36), 3) := by decide +kernel
theorem dX5_tidyPlace_47 : decode cX5_tidyPlace 47 = .ok (.iload 4, 2) := by decide +kernel
theorem dX5_tidyPlace_49 : decode cX5_tidyPlace 49 = .ok (.ireturn, 1) := by decide +kernel
def f_X5_tidyPlace_j47 (N : Nat) (x4 : Int32) (σ : St) : Option Int32 :=
  some x4
def f_X5_tidyPlace_j41 (N : Nat) (x1 : Int32) (x2 : Int32) (x3 : Int32) (x4 : Int32) (x5 : Int32) (σ : St) : Option ((Int32 × Int32 × Int32) ⊕ ((Int32))) :=
  nm (x5 + (1 : Int32)) fun x5_1 =>
  some (.inl (x3, x4, x5_1))
def f_X5_tidyPlace_b8 (N : Nat) (x1 : Int32) (x2 : Int32) (x3 : Int32) (x4 : Int32) (x5 : Int32) (σ : St) : Option ((Int32 × Int32 × Int32) ⊕ ((Int32))) :=
  if x1 < x5 then (some (.inr x4))
  else bd (f_X5_firstPlace N x5 x3 (σ.1 0 0) x2) fun r_3 =>
  if r_3 ≤ 0 then (f_X5_tidyPlace_j41 N x1 x2 x3 r_3 x5 σ)
  else nm (x3 ||| ((1 : Int32) <<< ((r_3 - (1 : Int32)) &&& 31))) fun x3_6 =>
  f_X5_tidyPlace_j41 N x1 x2 x3_6 r_3 x5 σ
def f_X5_tidyPlace (N : Nat) (x1 : Int32) (x2 : Int32) (σ : St) : Option Int32 :=
  bd (lpF (fun s => f_X5_tidyPlace_b8 N x1 x2 s.1 s.2.1 s.2.2 σ) N ((0 : Int32), (0 : Int32), (0 : Int32))) (fun o => f_X5_tidyPlace_j47 N o σ)
abbrev rmX5_tidyPlace : Room := { frames := 16, cells := 0, slots := 0, locals := 950 }
set_option maxRecDepth 100000 in
set_option maxHeartbeats 4000000 in
theorem c_X5_tidyPlace (l : Launch) (D : va_G) (a : Nat → Nat) (c : Nat → ClassId) (A : Nat → Prop) (hD : ∀ σ, va_D A (cW a c σ)) (N : Nat) (x1 : Int32) (x2 : Int32) (σ : St) (r : Int32) (hf : f_X5_tidyPlace N x1 x2 σ = some r) : MetI l yX5_tidyPlace cX5_tidyPlace 6 (some .int) rmX5_tidyPlace (cW a c) D c A [.ref (a 0), .int x1, .int x2] σ r σ := by
  refine mkI (by decide) (Nat.le_of_ble_eq_true rfl) rfl ?_
  intro p e s m args below meth cd Q ls h0 hK hP hret hl
  obtain ⟨S, hr, hlk⟩ := h0
  obtain ⟨hx, hb, hml, hown, ht⟩ := id S
  have hS : va_S A s.heap s.heap [] := va_S.rf
  have hl : lv_has ls 6 [(0, .ref (a 0)), (1, .int x1), (2, .int x2)] := hl
  have hf := obs hf
  have j47 : ∀ (x4 : Int32) (H : Heap) (locs : List Loc) (ls : Array Slot), lv_has ls 6 [(4, .int x4)] → va_P D vwCl (cW a c σ) H → va_S A s.heap H locs → Option.bind (f_X5_tidyPlace_j47 N x4 σ) some = some r → W p l e rmX5_tidyPlace s m args below meth cd H locs 0 0 Q (F0 m 47 ls []) := by
    intro x4 H locs ls hl hP hS hf
    have hf := oun (f_X5_tidyPlace_j47.eq_1 _ _ _) hf
    refine lv_iload hx hb dX5_tidyPlace_47 (lv_at hl 0 rfl) ?_
    exact hret _ _ _ _ _ _ dX5_tidyPlace_49 rfl hP hS ⟨Option.some.inj hf, rfl⟩
  have L8 : ∀ (x1 : Int32) (x2 : Int32) (k : Nat) (x3 : Int32) (x4 : Int32) (x5 : Int32) (H : Heap) (locs : List Loc) (ls : Array Slot), lv_has ls 6 [(0, .ref (a 0)), (1, .int x1), (2, .int x2), (3, .int x3), (4, .int x4), (5, .int x5)] → va_P D vwCl (cW a c σ) H → va_S A s.heap H locs → Option.bind (bd (lpF (fun s => f_X5_tidyPlace_b8 N x1 x2 s.1 s.2.1 s.2.2 σ) k (x3, x4, x5)) (fun o => f_X5_tidyPlace_j47 N o σ)) some = some r → W p l e rmX5_tidyPlace s m args below meth cd H locs 0 0 Q (F0 m 8 ls []) := by
    intro x1 x2 k
    induction k with
    | zero =>
      intro x3 x4 x5 H locs ls hl hP hS hf
      exact (ol0 hf).elim
    | succ k ih =>
      intro x3 x4 x5 H locs ls hl hP hS hf
      obtain ⟨K8, hf, hc8, hx8⟩ := ol1 hf
      have j41 : ∀ (x3 : Int32) (x4 : Int32) (x5 : Int32) (H : Heap) (locs : List Loc) (ls : Array Slot), lv_has ls 6 [(0, .ref (a 0)), (1, .int x1), (2, .int x2), (3, .int x3), (4, .int x4), (5, .int x5)] → va_P D vwCl (cW a c σ) H → va_S A s.heap H locs → Option.bind (f_X5_tidyPlace_j41 N x1 x2 x3 x4 x5 σ) K8 = some r → W p l e rmX5_tidyPlace s m args below meth cd H locs 0 0 Q (F0 m 41 ls []) := by
        intro x3 x4 x5 H locs ls hl hP hS hf
        have hf := oun (f_X5_tidyPlace_j41.eq_1 _ _ _ _ _ _ _) hf
        obtain ⟨x5_1, ex5_1, hf⟩ := onm hf
        refine lv_iinc (v := x5_1) (lv' := [(5, .int x5_1), (0, .ref (a 0)), (1, .int x1), (2, .int x2), (3, .int x3), (4, .int x4)]) hx hb dX5_tidyPlace_41 hl (k := 5) rfl ex5_1 (by decide) rfl (fun ls hl => ?_)
        refine lv_goto (tgt := 8) hx hb dX5_tidyPlace_44 (by decide) ?_
        exact ih x3 x4 x5_1 _ _ _ (lv_sub hl [1, 2, 3, 4, 5, 0] rfl) hP hS (okx hf (hc8 _))
      have hf := oun (f_X5_tidyPlace_b8.eq_1 N x1 x2 x3 x4 x5 σ) hf
      refine lv_iload hx hb dX5_tidyPlace_8 (lv_at hl 5 rfl) ?_
      refine lv_iload_n hx hb dX5_tidyPlace_10 rfl (lv_at hl 1 rfl) ?_
      refine lv_icmp_gt (tgt := 47) hx hb dX5_tidyPlace_11 (by decide) (fun c_2 => ?_) (fun c_2 => ?_)
      · have hf := oit c_2 hf
        exact j47 x4 _ _ _ (lv_sub hl [4] rfl) hP hS (okx hf (hx8 _))
      have hf := oif c_2 hf
      refine lv_iload hx hb dX5_tidyPlace_14 (lv_at hl 5 rfl) ?_
      refine lv_iload_n hx hb dX5_tidyPlace_16 rfl (lv_at hl 3 rfl) ?_
      refine lv_aload_n hx hb dX5_tidyPlace_17 rfl (lv_at hl 0 rfl) ?_
      refine va_get (D := D) (ci := 3) (v := .int (σ.1 0 0)) (C := RX5) (T := TX5) (N := 12) hx hb ht gX5 hown hK.1 hP 0 (cw0 a c σ) rfl 6 (by decide) (ht _ q74) (fun _ h9 => h9) rfl dX5_tidyPlace_18 ?_
      refine lv_iload_n hx hb dX5_tidyPlace_21 rfl (lv_at hl 2 rfl) ?_
      obtain ⟨r_3, h_4, hf⟩ := obd hf
      refine xs_S (As := [.int x5, .int x3, .int (σ.1 0 0), .int x2]) (rest := []) S k_X5_firstPlace q521 q522 ⟨Nat.le_of_ble_eq_true rfl, Nat.le_of_ble_eq_true rfl⟩ ⟨rfl, rfl⟩ (c_X5_firstPlace l N x5 x3 (σ.1 0 0) x2 r_3 h_4) hK.2 rfl hl.1 rfl (Nat.le_of_ble_eq_true rfl) dX5_tidyPlace_22 ⟨Nat.zero_le _, Nat.zero_le _⟩ ?_
      refine lv_istore (lv' := [(4, .int r_3), (0, .ref (a 0)), (1, .int x1), (2, .int x2), (3, .int x3), (5, .int x5)]) hx hb dX5_tidyPlace_25 hl (by decide) rfl (fun ls hl => ?_)
      refine lv_iload hx hb dX5_tidyPlace_27 (lv_at hl 0 rfl) ?_
      refine lv_if_le (tgt := 41) hx hb dX5_tidyPlace_29 (by decide) (fun c_5 => ?_) (fun c_5 => ?_)
      · have hf := oit c_5 hf
        exact j41 x3 r_3 x5 _ _ _ (lv_sub hl [1, 2, 3, 4, 0, 5] rfl) hP hS hf
      have hf := oif c_5 hf
      refine lv_iload_n hx hb dX5_tidyPlace_32 rfl (lv_at hl 4 rfl) ?_
      refine lv_iconst (v := (1 : Int32)) hx hb dX5_tidyPlace_33 (by decide) ?_
      refine lv_iload hx hb dX5_tidyPlace_34 (lv_at hl 0 rfl) ?_
      refine lv_iconst (v := (1 : Int32)) hx hb dX5_tidyPlace_36 (by decide) ?_
      refine lv_isub hx hb dX5_tidyPlace_37 ?_
      refine lv_ishl hx hb dX5_tidyPlace_38 ?_
      refine lv_ior hx hb dX5_tidyPlace_39 ?_
      obtain ⟨x3_6, ex3_6, hf⟩ := onm hf
      refine lv_nm ex3_6 ?_
      refine lv_istore_n (lv' := [(3, .int x3_6), (4, .int r_3), (0, .ref (a 0)), (1, .int x1), (2, .int x2), (5, .int x5)]) hx hb dX5_tidyPlace_40 rfl hl (by decide) rfl (fun ls hl => ?_)
      exact j41 x3_6 r_3 x5 _ _ _ (lv_sub hl [2, 3, 4, 0, 1, 5] rfl) hP hS hf
  have hf := oun (f_X5_tidyPlace.eq_1 _ _ _ _) hf
  refine lv_iconst (v := (0 : Int32)) hx hb dX5_tidyPlace_0 (by decide) ?_
  refine lv_istore_n (lv' := [(3, .int (0 : Int32)), (0, .ref (a 0)), (1, .int x1), (2, .int x2)]) hx hb dX5_tidyPlace_1 rfl hl (by decide) rfl (fun ls hl => ?_)
  refine lv_iconst (v := (0 : Int32)) hx hb dX5_tidyPlace_2 (by decide) ?_
  refine lv_istore (lv' := [(4, .int (0 : Int32)), (3, .int (0 : Int32)), (0, .ref (a 0)), (1, .int x1), (2, .int x2)]) hx hb dX5_tidyPlace_3 hl (by decide) rfl (fun ls hl => ?_)
  refine lv_iconst (v := (0 : Int32)) hx hb dX5_tidyPlace_5 (by decide) ?_
  refine lv_istore (lv' := [(5, .int (0 : Int32)), (4, .int (0 : Int32)), (3, .int (0 : Int32)), (0, .ref (a 0)), (1, .int x1), (2, .int x2)]) hx hb dX5_tidyPlace_6 hl (by decide) rfl (fun ls hl => ?_)
  exact L8 x1 x2 N (0 : Int32) (0 : Int32) (0 : Int32) _ _ _ (lv_sub hl [3, 4, 5, 2, 1, 0] rfl) hP hS hf
theorem dX5_tidy_0 : decode cX5_tidy 0 = .ok (.iload_n 1, 1) := by decide +kernel
theorem dX5_tidy_1 : decode cX5_tidy 1 = .ok (.iconst (-1), 1) := by decide +kernel
theorem dX5_tidy_2 : decode cX5_tidy 2 = .ok (.if_icmp .lt 8, 3) := by decide +kernel
theorem dX5_tidy_5 : decode cX5_tidy 5 = .ok (.iload_n 1, 1) := by decide +kernel
theorem dX5_tidy_6 : decode cX5_tidy 6 = .ok (.iconst 4, 1) := by decide +kernel
theorem dX5_tidy_7 : decode cX5_tidy 7 = .ok (.if_icmp .lt 6, 3) := by decide +kernel
theorem dX5_tidy_10 : decode cX5_tidy 10 = .ok (.bipush (-2), 2) := by decide +kernel
theorem dX5_tidy_12 : decode cX5_tidy 12 = .ok (.ireturn, 1) := by decide +kernel
theorem dX5_tidy_13 : decode cX5_tidy 13 = .ok (.aload_n 0, 1) := by decide +kernel
theorem dX5_tidy_14 : decode cX5_tidy 14 = .ok (.getfield 72, 3) := by decide +kernel
theorem dX5_tidy_17 : decode cX5_tidy 17 = .ok (.ifCond .ne 6, 3) := by decide +kernel
theorem dX5_tidy_20 : decode cX5_tidy 20 = .ok (.bipush (-3), 2) := by decide +kernel
theorem dX5_tidy_22 : decode cX5_tidy 22 = .ok (.ireturn, 1) := by decide +kernel
theorem dX5_tidy_23 : decode cX5_tidy 23 = .ok (.iload_n 1, 1) := by decide +kernel
theorem dX5_tidy_24 : decode cX5_tidy 24 = .ok (.aload_n 0, 1) := by decide +kernel
theorem dX5_tidy_25 : decode cX5_tidy 25 = .ok (.getfield 72, 3) := by decide +kernel
theorem dX5_tidy_28 : decode cX5_tidy 28 = .ok (.if_icmp .lt 6, 3) := by decide +kernel
theorem dX5_tidy_31 : decode cX5_tidy 31 = .ok (.bipush (-9), 2) := by decide +kernel
theorem dX5_tidy_33 : decode cX5_tidy 33 = .ok (.ireturn, 1) := by decide +kernel
theorem dX5_tidy_34 : decode cX5_tidy 34 = .ok (.aload_n 0, 1) := by decide +kernel
theorem dX5_tidy_35 : decode cX5_tidy 35 = .ok (.invokevirtual 177, 3) := by decide +kernel
theorem dX5_tidy_38 : decode cX5_tidy 38 = .ok (.istore_n 2, 1) := by decide +kernel
theorem dX5_tidy_39 : decode cX5_tidy 39 = .ok (.iload_n 1, 1) := by decide +kernel
theorem dX5_tidy_40 : decode cX5_tidy 40 = .ok (.iconst (-1), 1) := by decide +kernel
theorem dX5_tidy_41 : decode cX5_tidy 41 = .ok (.if_icmp .ne 16, 3) := by decide +kernel
theorem dX5_tidy_44 : decode cX5_tidy 44 = .ok (.iconst 0, 1) := by decide +kernel
theorem dX5_tidy_45 : decode cX5_tidy 45 = .ok (.iconst 0, 1) := by decide +kernel
theorem dX5_tidy_46 : decode cX5_tidy 46 = .ok (.aload_n 0, 1) := by decide +kernel
theorem dX5_tidy_47 : decode cX5_tidy 47 = .ok (.getfield 72, 3) := by decide +kernel
theorem dX5_tidy_50 : decode cX5_tidy 50 = .ok (.iload_n 2, 1) := by decide +kernel
theorem dX5_tidy_51 : decode cX5_tidy 51 = .ok (.invokestatic 214, 3) := by decide +kernel
theorem dX5_tidy_54 : decode cX5_tidy 54 = .ok (.goto 9, 3) := by decide +kernel
theorem dX5_tidy_57 : decode cX5_tidy 57 = .ok (.aload_n 0, 1) := by decide +kernel
theorem dX5_tidy_58 : decode cX5_tidy 58 = .ok (.iload_n 1, 1) := by decide +kernel
theorem dX5_tidy_59 : decode cX5_tidy 59 = .ok (.iload_n 2, 1) := by decide +kernel
theorem dX5_tidy_60 : decode cX5_tidy 60 = .ok (.invokevirtual 218, 3) := by decide +kernel
theorem dX5_tidy_63 : decode cX5_tidy 63 = .ok (.ireturn, 1) := by decide +kernel
def f_X5_tidy (N : Nat) (x1 : Int32) (σ : St) : Option Int32 :=
  if x1 < (-1 : Int32) then (some (-2 : Int32))
  else if x1 < (4 : Int32) then (if (σ.1 0 0) = 0 then (some (-3 : Int32))
    else if x1 < (σ.1 0 0) then (bd (f_X5_fitting N σ) fun r_5 =>
        if x1 = (-1 : Int32) then (bd (f_X5_leastOnTable N 6 (0 : Int32) (0 : Int32) (σ.1 0 0) r_5) fun r_10 =>
          some r_10)
        else bd (f_X5_tidyPlace N x1 r_5 σ) fun r_8 =>
          some r_8)
      else some (-9 : Int32))
  else some (-2 : Int32)
abbrev rmX5_tidy : Room := { frames := 17, cells := 0, slots := 0, locals := 975 }
set_option maxRecDepth 100000 in
set_option maxHeartbeats 4000000 in
theorem c_X5_tidy (l : Launch) (D : va_G) (a : Nat → Nat) (c : Nat → ClassId) (A : Nat → Prop) (hD : ∀ σ, va_D A (cW a c σ)) (N : Nat) (x1 : Int32) (σ : St) (r : Int32) (hf : f_X5_tidy N x1 σ = some r) : MetI l yX5_tidy cX5_tidy 3 (some .int) rmX5_tidy (cW a c) D c A [.ref (a 0), .int x1] σ r σ := by
  refine mkI (by decide) (Nat.le_of_ble_eq_true rfl) rfl ?_
  intro p e s m args below meth cd Q ls h0 hK hP hret hl
  obtain ⟨S, hr, hlk⟩ := h0
  obtain ⟨hx, hb, hml, hown, ht⟩ := id S
  have hS : va_S A s.heap s.heap [] := va_S.rf
  have hl : lv_has ls 3 [(0, .ref (a 0)), (1, .int x1)] := hl
  have hf := obs hf
  have hf := oun (f_X5_tidy.eq_1 _ _ _) hf
  refine lv_iload_n hx hb dX5_tidy_0 rfl (lv_at hl 1 rfl) ?_
  refine lv_iconst (v := (-1 : Int32)) hx hb dX5_tidy_1 (by decide) ?_
  refine lv_icmp_lt (tgt := 10) hx hb dX5_tidy_2 (by decide) (fun c_1 => ?_) (fun c_1 => ?_)
  · have hf := oit c_1 hf
    refine lv_bipush (v := (-2 : Int32)) hx hb dX5_tidy_10 (by decide) ?_
    exact hret _ _ _ _ _ _ dX5_tidy_12 rfl hP hS ⟨Option.some.inj hf, rfl⟩
  have hf := oif c_1 hf
  refine lv_iload_n hx hb dX5_tidy_5 rfl (lv_at hl 1 rfl) ?_
  refine lv_iconst (v := (4 : Int32)) hx hb dX5_tidy_6 (by decide) ?_
  refine lv_icmp_lt (tgt := 13) hx hb dX5_tidy_7 (by decide) (fun c_2 => ?_) (fun c_2 => ?_)
  · have hf := oit c_2 hf
    refine lv_aload_n hx hb dX5_tidy_13 rfl (lv_at hl 0 rfl) ?_
    refine va_get (D := D) (ci := 3) (v := .int (σ.1 0 0)) (C := RX5) (T := TX5) (N := 12) hx hb ht gX5 hown hK.1 hP 0 (cw0 a c σ) rfl 6 (by decide) (ht _ q74) (fun _ h9 => h9) rfl dX5_tidy_14 ?_
    refine lv_if_ne (tgt := 23) hx hb dX5_tidy_17 (by decide) (fun c_3 => ?_) (fun c_3 => ?_)
    · have hf := oif c_3 hf
      refine lv_iload_n hx hb dX5_tidy_23 rfl (lv_at hl 1 rfl) ?_
      refine lv_aload_n hx hb dX5_tidy_24 rfl (lv_at hl 0 rfl) ?_
      refine va_get (D := D) (ci := 3) (v := .int (σ.1 0 0)) (C := RX5) (T := TX5) (N := 12) hx hb ht gX5 hown hK.1 hP 0 (cw0 a c σ) rfl 6 (by decide) (ht _ q74) (fun _ h9 => h9) rfl dX5_tidy_25 ?_
      refine lv_icmp_lt (tgt := 34) hx hb dX5_tidy_28 (by decide) (fun c_4 => ?_) (fun c_4 => ?_)
      · have hf := oit c_4 hf
        refine lv_aload_n hx hb dX5_tidy_34 rfl (lv_at hl 0 rfl) ?_
        obtain ⟨r_5, h_6, hf⟩ := obd hf
        refine xv_I (As := []) (rest := []) S k_X5_fitting q302 q303 q304 ⟨Nat.le_of_ble_eq_true rfl, Nat.le_of_ble_eq_true rfl⟩ ⟨rfl, rfl⟩ (c_X5_fitting l D a c A hD N σ r_5 h_6) hK hP hS (va_recv hK.1 hP (rfl : vwCl[3]? = some (RX5, TX5, 12)) (cw0 a c σ)) rfl hl.1 rfl (Nat.le_of_ble_eq_true rfl) dX5_tidy_35 ⟨Nat.zero_le _, Nat.zero_le _⟩ (fun H locs hP hS => ?_)
        refine lv_istore_n (lv' := [(2, .int r_5), (0, .ref (a 0)), (1, .int x1)]) hx hb dX5_tidy_38 rfl hl (by decide) rfl (fun ls hl => ?_)
        refine lv_iload_n hx hb dX5_tidy_39 rfl (lv_at hl 2 rfl) ?_
        refine lv_iconst (v := (-1 : Int32)) hx hb dX5_tidy_40 (by decide) ?_
        refine lv_icmp_ne (tgt := 57) hx hb dX5_tidy_41 (by decide) (fun c_7 => ?_) (fun c_7 => ?_)
        · have hf := oif c_7 hf
          refine lv_aload_n hx hb dX5_tidy_57 rfl (lv_at hl 1 rfl) ?_
          refine lv_iload_n hx hb dX5_tidy_58 rfl (lv_at hl 2 rfl) ?_
          refine lv_iload_n hx hb dX5_tidy_59 rfl (lv_at hl 0 rfl) ?_
          obtain ⟨r_8, h_9, hf⟩ := obd hf
          refine xv_I (As := [.int x1, .int r_5]) (rest := []) S k_X5_tidyPlace q517 q518 q519 ⟨Nat.le_of_ble_eq_true rfl, Nat.le_of_ble_eq_true rfl⟩ ⟨rfl, rfl⟩ (c_X5_tidyPlace l D a c A hD N x1 r_5 σ r_8 h_9) hK hP hS (va_recv hK.1 hP (rfl : vwCl[3]? = some (RX5, TX5, 12)) (cw0 a c σ)) rfl hl.1 rfl (Nat.le_of_ble_eq_true rfl) dX5_tidy_60 ⟨Nat.zero_le _, Nat.zero_le _⟩ (fun H locs hP hS => ?_)
          exact hret _ _ _ _ _ _ dX5_tidy_63 rfl hP hS ⟨Option.some.inj hf, rfl⟩
        have hf := oit c_7 hf
        refine lv_iconst (v := (0 : Int32)) hx hb dX5_tidy_44 (by decide) ?_
        refine lv_iconst (v := (0 : Int32)) hx hb dX5_tidy_45 (by decide) ?_
        refine lv_aload_n hx hb dX5_tidy_46 rfl (lv_at hl 1 rfl) ?_
        refine va_get (D := D) (ci := 3) (v := .int (σ.1 0 0)) (C := RX5) (T := TX5) (N := 12) hx hb ht gX5 hown hK.1 hP 0 (cw0 a c σ) rfl 6 (by decide) (ht _ q74) (fun _ h9 => h9) rfl dX5_tidy_47 ?_
        refine lv_iload_n hx hb dX5_tidy_50 rfl (lv_at hl 0 rfl) ?_
        obtain ⟨r_10, h_11, hf⟩ := obd hf
        refine xs_S (As := [.int (0 : Int32), .int (0 : Int32), .int (σ.1 0 0), .int r_5]) (rest := []) S k_X5_leastOnTable q507 q508 ⟨Nat.le_of_ble_eq_true rfl, Nat.le_of_ble_eq_true rfl⟩ ⟨rfl, rfl⟩ (c_X5_leastOnTable l N 6 (0 : Int32) (0 : Int32) (σ.1 0 0) r_5 r_10 h_11) hK.2 rfl hl.1 rfl (Nat.le_of_ble_eq_true rfl) dX5_tidy_51 ⟨Nat.zero_le _, Nat.zero_le _⟩ ?_
        refine lv_goto (tgt := 63) hx hb dX5_tidy_54 (by decide) ?_
        exact hret _ _ _ _ _ _ dX5_tidy_63 rfl hP hS ⟨Option.some.inj hf, rfl⟩
      have hf := oif c_4 hf
      refine lv_bipush (v := (-9 : Int32)) hx hb dX5_tidy_31 (by decide) ?_
      exact hret _ _ _ _ _ _ dX5_tidy_33 rfl hP hS ⟨Option.some.inj hf, rfl⟩
    have hf := oit c_3 hf
    refine lv_bipush (v := (-3 : Int32)) hx hb dX5_tidy_20 (by decide) ?_
    exact hret _ _ _ _ _ _ dX5_tidy_22 rfl hP hS ⟨Option.some.inj hf, rfl⟩
  have hf := oif c_2 hf
  refine lv_bipush (v := (-2 : Int32)) hx hb dX5_tidy_10 (by decide) ?_
  exact hret _ _ _ _ _ _ dX5_tidy_12 rfl hP hS ⟨Option.some.inj hf, rfl⟩
theorem dX5_chain_0 : decode cX5_chain 0 = .ok (.aload_n 0, 1) := by decide +kernel
theorem dX5_chain_1 : decode cX5_chain 1 = .ok (.getfield 72, 3) := by decide +kernel
theorem dX5_chain_4 : decode cX5_chain 4 = .ok (.ifCond .ne 6, 3) := by decide +kernel
theorem dX5_chain_7 : decode cX5_chain 7 = .ok (.bipush (-3), 2) := by decide +kernel
theorem dX5_chain_9 : decode cX5_chain 9 = .ok (.ireturn, 1) := by decide +kernel
theorem dX5_chain_10 : decode cX5_chain 10 = .ok (.aload_n 0, 1) := by decide +kernel
theorem dX5_chain_11 : decode cX5_chain 11 = .ok (.invokevirtual 177, 3) := by decide +kernel
theorem dX5_chain_14 : decode cX5_chain 14 = .ok (.istore_n 1, 1) := by decide +kernel
theorem dX5_chain_15 : decode cX5_chain 15 = .ok (.iconst 0, 1) := by decide +kernel
theorem dX5_chain_16 : decode cX5_chain 16 = .ok (.istore_n 2, 1) := by decide +kernel
theorem dX5_chain_17 : decode cX5_chain 17 = .ok (.iconst 0, 1) := by decide +kernel
theorem dX5_chain_18 : decode cX5_chain 18 = .ok (.istore_n 3, 1) := by decide +kernel
theorem dX5_chain_19 : decode cX5_chain 19 = .ok (.iload_n 3, 1) := by decide +kernel
theorem dX5_chain_20 : decode cX5_chain 20 = .ok (.aload_n 0, 1) := by decide +kernel
theorem dX5_chain_21 : decode cX5_chain 21 = .ok (.getfield 72, 3) := by decide +kernel
theorem dX5_chain_24 : decode cX5_chain 24 = .ok (.if_icmp .ge 24, 3) := by decide +kernel
theorem dX5_chain_27 : decode cX5_chain 27 = .ok (.iload_n 2, 1) := by decide +kernel
theorem dX5_chain_28 : decode cX5_chain 28 = .ok (.iload_n 3, 1) := by decide +kernel
theorem dX5_chain_29 : decode cX5_chain 29 = .ok (.iconst 1, 1) := by decide +kernel
theorem dX5_chain_30 : decode cX5_chain 30 = .ok (.aload_n 0, 1) := by decide +kernel
theorem dX5_chain_31 : decode cX5_chain 31 = .ok (.getfield 72, 3) := by decide +kernel
theorem dX5_chain_34 : decode cX5_chain 34 = .ok (.iload_n 1, 1) := by decide +kernel
theorem dX5_chain_35 : decode cX5_chain 35 = .ok (.invokestatic 236, 3) := by decide +kernel
theorem dX5_chain_38 : decode cX5_chain 38 = .ok (.invokestatic 239, 3) := by decide +kernel
theorem dX5_chain_41 : decode cX5_chain 41 = .ok (.istore_n 2, 1) := by decide +kernel
theorem dX5_chain_42 : decode cX5_chain 42 = .ok (.iinc 3 1, 3) := by decide +kernel
theorem dX5_chain_45 : decode cX5_chain 45 = .ok (.goto (-26), 3) := by decide +kernel
theorem dX5_chain_48 : decode cX5_chain 48 = .ok (.iload_n 2, 1) := by decide +kernel
theorem dX5_chain_49 : decode cX5_chain 49 = .ok (.ireturn, 1) := by decide +kernel
def f_X5_chain_j48 (N : Nat) (x2 : Int32) (σ : St) : Option Int32 :=
  some x2
def f_X5_chain_b19 (N : Nat) (x1 : Int32) (x2 : Int32) (x3 : Int32) (σ : St) : Option ((Int32 × Int32) ⊕ ((Int32))) :=
  if (σ.1 0 0) ≤ x3 then (some (.inr x2))
  else bd (f_X5_longestFrom N 5 x3 (1 : Int32) (σ.1 0 0) x1) fun r_2 =>
  nm (if x2 < r_2 then r_2 else x2) fun x2_4 =>
  nm (x3 + (1 : Int32)) fun x3_5 =>
  some (.inl (x2_4, x3_5))
def f_X5_chain (N : Nat) (σ : St) : Option Int32 :=
  if (σ.1 0 0) = 0 then (some (-3 : Int32))
  else bd (f_X5_fitting N σ) fun r_7 =>
    bd (lpF (fun s => f_X5_chain_b19 N r_7 s.1 s.2 σ) N ((0 : Int32), (0 : Int32))) (fun o => f_X5_chain_j48 N o σ)
abbrev rmX5_chain : Room := { frames := 15, cells := 0, slots := 0, locals := 925 }
set_option maxRecDepth 100000 in
set_option maxHeartbeats 4000000 in
theorem c_X5_chain (l : Launch) (D : va_G) (a : Nat → Nat) (c : Nat → ClassId) (A : Nat → Prop) (hD : ∀ σ, va_D A (cW a c σ)) (N : Nat) (σ : St) (r : Int32) (hf : f_X5_chain N σ = some r) : MetI l yX5_chain cX5_chain 4 (some .int) rmX5_chain (cW a c) D c A [.ref (a 0)] σ r σ := by
  refine mkI (by decide) (Nat.le_of_ble_eq_true rfl) rfl ?_
  intro p e s m args below meth cd Q ls h0 hK hP hret hl
  obtain ⟨S, hr, hlk⟩ := h0
  obtain ⟨hx, hb, hml, hown, ht⟩ := id S
  have hS : va_S A s.heap s.heap [] := va_S.rf
  have hl : lv_has ls 4 [(0, .ref (a 0))] := hl
  have hf := obs hf
  have j48 : ∀ (x2 : Int32) (H : Heap) (locs : List Loc) (ls : Array Slot), lv_has ls 4 [(2, .int x2)] → va_P D vwCl (cW a c σ) H → va_S A s.heap H locs → Option.bind (f_X5_chain_j48 N x2 σ) some = some r → W p l e rmX5_chain s m args below meth cd H locs 0 0 Q (F0 m 48 ls []) := by
    intro x2 H locs ls hl hP hS hf
    have hf := oun (f_X5_chain_j48.eq_1 _ _ _) hf
    refine lv_iload_n hx hb dX5_chain_48 rfl (lv_at hl 0 rfl) ?_
    exact hret _ _ _ _ _ _ dX5_chain_49 rfl hP hS ⟨Option.some.inj hf, rfl⟩
  have L19 : ∀ (x1 : Int32) (k : Nat) (x2 : Int32) (x3 : Int32) (H : Heap) (locs : List Loc) (ls : Array Slot), lv_has ls 4 [(0, .ref (a 0)), (1, .int x1), (2, .int x2), (3, .int x3)] → va_P D vwCl (cW a c σ) H → va_S A s.heap H locs → Option.bind (bd (lpF (fun s => f_X5_chain_b19 N x1 s.1 s.2 σ) k (x2, x3)) (fun o => f_X5_chain_j48 N o σ)) some = some r → W p l e rmX5_chain s m args below meth cd H locs 0 0 Q (F0 m 19 ls []) := by
    intro x1 k
    induction k with
    | zero =>
      intro x2 x3 H locs ls hl hP hS hf
      exact (ol0 hf).elim
    | succ k ih =>
      intro x2 x3 H locs ls hl hP hS hf
      obtain ⟨K19, hf, hc19, hx19⟩ := ol1 hf
      have hf := oun (f_X5_chain_b19.eq_1 N x1 x2 x3 σ) hf
      refine lv_iload_n hx hb dX5_chain_19 rfl (lv_at hl 3 rfl) ?_
      refine lv_aload_n hx hb dX5_chain_20 rfl (lv_at hl 0 rfl) ?_
      refine va_get (D := D) (ci := 3) (v := .int (σ.1 0 0)) (C := RX5) (T := TX5) (N := 12) hx hb ht gX5 hown hK.1 hP 0 (cw0 a c σ) rfl 6 (by decide) (ht _ q74) (fun _ h9 => h9) rfl dX5_chain_21 ?_
      refine lv_icmp_ge (tgt := 48) hx hb dX5_chain_24 (by decide) (fun c_1 => ?_) (fun c_1 => ?_)
      · have hf := oit c_1 hf
        exact j48 x2 _ _ _ (lv_sub hl [2] rfl) hP hS (okx hf (hx19 _))
      have hf := oif c_1 hf
      refine lv_iload_n hx hb dX5_chain_27 rfl (lv_at hl 2 rfl) ?_
      refine lv_iload_n hx hb dX5_chain_28 rfl (lv_at hl 3 rfl) ?_
      refine lv_iconst (v := (1 : Int32)) hx hb dX5_chain_29 (by decide) ?_
      refine lv_aload_n hx hb dX5_chain_30 rfl (lv_at hl 0 rfl) ?_
      refine va_get (D := D) (ci := 3) (v := .int (σ.1 0 0)) (C := RX5) (T := TX5) (N := 12) hx hb ht gX5 hown hK.1 hP 0 (cw0 a c σ) rfl 6 (by decide) (ht _ q74) (fun _ h9 => h9) rfl dX5_chain_31 ?_
      refine lv_iload_n hx hb dX5_chain_34 rfl (lv_at hl 1 rfl) ?_
      obtain ⟨r_2, h_3, hf⟩ := obd hf
      refine xs_S (As := [.int x3, .int (1 : Int32), .int (σ.1 0 0), .int x1]) (rest := [.int x2]) S k_X5_longestFrom q537 q538 ⟨Nat.le_of_ble_eq_true rfl, Nat.le_of_ble_eq_true rfl⟩ ⟨rfl, rfl⟩ (c_X5_longestFrom l N 5 x3 (1 : Int32) (σ.1 0 0) x1 r_2 h_3) hK.2 rfl hl.1 rfl (Nat.le_of_ble_eq_true rfl) dX5_chain_35 ⟨Nat.zero_le _, Nat.zero_le _⟩ ?_
      refine va_mmax hx hb (hml.trans hl.1.symm) hown (ht _ q536) (ht _ q396) (ht _ q124) (ht _ q397) (by exact Nat.le_of_ble_eq_true rfl) (by exact Nat.le_of_ble_eq_true rfl) (Nat.zero_le _) (Nat.zero_le _) dX5_chain_38 ?_
      obtain ⟨x2_4, ex2_4, hf⟩ := onm hf
      refine lv_nm ex2_4 ?_
      refine lv_istore_n (lv' := [(2, .int x2_4), (0, .ref (a 0)), (1, .int x1), (3, .int x3)]) hx hb dX5_chain_41 rfl hl (by decide) rfl (fun ls hl => ?_)
      obtain ⟨x3_5, ex3_5, hf⟩ := onm hf
      refine lv_iinc (v := x3_5) (lv' := [(3, .int x3_5), (2, .int x2_4), (0, .ref (a 0)), (1, .int x1)]) hx hb dX5_chain_42 hl (k := 3) rfl ex3_5 (by decide) rfl (fun ls hl => ?_)
      refine lv_goto (tgt := 19) hx hb dX5_chain_45 (by decide) ?_
      exact ih x2_4 x3_5 _ _ _ (lv_sub hl [2, 3, 1, 0] rfl) hP hS (okx hf (hc19 _))
  have hf := oun (f_X5_chain.eq_1 _ _) hf
  refine lv_aload_n hx hb dX5_chain_0 rfl (lv_at hl 0 rfl) ?_
  refine va_get (D := D) (ci := 3) (v := .int (σ.1 0 0)) (C := RX5) (T := TX5) (N := 12) hx hb ht gX5 hown hK.1 hP 0 (cw0 a c σ) rfl 6 (by decide) (ht _ q74) (fun _ h9 => h9) rfl dX5_chain_1 ?_
  refine lv_if_ne (tgt := 10) hx hb dX5_chain_4 (by decide) (fun c_6 => ?_) (fun c_6 => ?_)
  · have hf := oif c_6 hf
    refine lv_aload_n hx hb dX5_chain_10 rfl (lv_at hl 0 rfl) ?_
    obtain ⟨r_7, h_8, hf⟩ := obd hf
    refine xv_I (As := []) (rest := []) S k_X5_fitting q302 q303 q304 ⟨Nat.le_of_ble_eq_true rfl, Nat.le_of_ble_eq_true rfl⟩ ⟨rfl, rfl⟩ (c_X5_fitting l D a c A hD N σ r_7 h_8) hK hP hS (va_recv hK.1 hP (rfl : vwCl[3]? = some (RX5, TX5, 12)) (cw0 a c σ)) rfl hl.1 rfl (Nat.le_of_ble_eq_true rfl) dX5_chain_11 ⟨Nat.zero_le _, Nat.zero_le _⟩ (fun H locs hP hS => ?_)
    refine lv_istore_n (lv' := [(1, .int r_7), (0, .ref (a 0))]) hx hb dX5_chain_14 rfl hl (by decide) rfl (fun ls hl => ?_)
    refine lv_iconst (v := (0 : Int32)) hx hb dX5_chain_15 (by decide) ?_
    refine lv_istore_n (lv' := [(2, .int (0 : Int32)), (1, .int r_7), (0, .ref (a 0))]) hx hb dX5_chain_16 rfl hl (by decide) rfl (fun ls hl => ?_)
    refine lv_iconst (v := (0 : Int32)) hx hb dX5_chain_17 (by decide) ?_
    refine lv_istore_n (lv' := [(3, .int (0 : Int32)), (2, .int (0 : Int32)), (1, .int r_7), (0, .ref (a 0))]) hx hb dX5_chain_18 rfl hl (by decide) rfl (fun ls hl => ?_)
    exact L19 r_7 N (0 : Int32) (0 : Int32) _ _ _ (lv_sub hl [3, 2, 1, 0] rfl) hP hS hf
  have hf := oit c_6 hf
  refine lv_bipush (v := (-3 : Int32)) hx hb dX5_chain_7 (by decide) ?_
  exact hret _ _ _ _ _ _ dX5_chain_9 rfl hP hS ⟨Option.some.inj hf, rfl⟩
theorem dX5_reading_0 : decode cX5_reading 0 = .ok (.aload_n 0, 1) := by decide +kernel
theorem dX5_reading_1 : decode cX5_reading 1 = .ok (.iload_n 1, 1) := by decide +kernel
theorem dX5_reading_2 : decode cX5_reading 2 = .ok (.iload_n 2, 1) := by decide +kernel
theorem dX5_reading_3 : decode cX5_reading 3 = .ok (.invokevirtual 133, 3) := by decide +kernel
theorem dX5_reading_6 : decode cX5_reading 6 = .ok (.ifCond .ne 5, 3) := by decide +kernel
theorem dX5_reading_9 : decode cX5_reading 9 = .ok (.iconst (-1), 1) := by decide +kernel
theorem dX5_reading_10 : decode cX5_reading 10 = .ok (.ireturn, 1) := by decide +kernel
theorem dX5_reading_11 : decode cX5_reading 11 = .ok (.iload_n 3, 1) := by decide +kernel
theorem dX5_reading_12 : decode cX5_reading 12 = .ok (.ifCond .eq 11, 3) := by decide +kernel
theorem dX5_reading_15 : decode cX5_reading 15 = .ok (.iload_n 3, 1) := by decide +kernel
theorem dX5_reading_16 : decode cX5_reading 16 = .ok (.iconst 1, 1) := by decide +kernel
theorem dX5_reading_17 : decode cX5_reading 17 = .ok (.if_icmp .eq 6, 3) := by decide +kernel
theorem dX5_reading_20 : decode cX5_reading 20 = .ok (.bipush (-2), 2) := by decide +kernel
theorem dX5_reading_22 : decode cX5_reading 22 = .ok (.ireturn, 1) := by decide +kernel
theorem dX5_reading_23 : decode cX5_reading 23 = .ok (.aload_n 0, 1) := by decide +kernel
theorem dX5_reading_24 : decode cX5_reading 24 = .ok (.getfield 90, 3) := by decide +kernel
theorem dX5_reading_27 : decode cX5_reading 27 = .ok (.bipush 8, 2) := by decide +kernel
theorem dX5_reading_29 : decode cX5_reading 29 = .ok (.if_icmp .lt 6, 3) := by decide +kernel
theorem dX5_reading_32 : decode cX5_reading 32 = .ok (.bipush (-4), 2) := by decide +kernel
theorem dX5_reading_34 : decode cX5_reading 34 = .ok (.ireturn, 1) := by decide +kernel
theorem dX5_reading_35 : decode cX5_reading 35 = .ok (.aload_n 0, 1) := by decide +kernel
theorem dX5_reading_36 : decode cX5_reading 36 = .ok (.getfield 23, 3) := by decide +kernel
theorem dX5_reading_39 : decode cX5_reading 39 = .ok (.aload_n 0, 1) := by decide +kernel
theorem dX5_reading_40 : decode cX5_reading 40 = .ok (.getfield 90, 3) := by decide +kernel
theorem dX5_reading_43 : decode cX5_reading 43 = .ok (.iload_n 1, 1) := by decide +kernel
theorem dX5_reading_44 : decode cX5_reading 44 = .ok (.iastore, 1) := by decide +kernel
theorem dX5_reading_45 : decode cX5_reading 45 = .ok (.aload_n 0, 1) := by decide +kernel
theorem dX5_reading_46 : decode cX5_reading 46 = .ok (.getfield 27, 3) := by decide +kernel
theorem dX5_reading_49 : decode cX5_reading 49 = .ok (.aload_n 0, 1) := by decide +kernel
theorem dX5_reading_50 : decode cX5_reading 50 = .ok (.getfield 90, 3) := by decide +kernel
theorem dX5_reading_53 : decode cX5_reading 53 = .ok (.iload_n 2, 1) := by decide +kernel
theorem dX5_reading_54 : decode cX5_reading 54 = .ok (.iastore, 1) := by decide +kernel
theorem dX5_reading_55 : decode cX5_reading 55 = .ok (.aload_n 0, 1) := by decide +kernel
theorem dX5_reading_56 : decode cX5_reading 56 = .ok (.getfield 30, 3) := by decide +kernel
theorem dX5_reading_59 : decode cX5_reading 59 = .ok (.aload_n 0, 1) := by decide +kernel
theorem dX5_reading_60 : decode cX5_reading 60 = .ok (.getfield 90, 3) := by decide +kernel
theorem dX5_reading_63 : decode cX5_reading 63 = .ok (.iload_n 3, 1) := by decide +kernel
theorem dX5_reading_64 : decode cX5_reading 64 = .ok (.iconst 1, 1) := by decide +kernel
theorem dX5_reading_65 : decode cX5_reading 65 = .ok (.if_icmp .ne 7, 3) := by decide +kernel
theorem dX5_reading_68 : decode cX5_reading 68 = .ok (.iconst 1, 1) := by decide +kernel
theorem dX5_reading_69 : decode cX5_reading 69 = .ok (.goto 4, 3) := by decide +kernel
theorem dX5_reading_72 : decode cX5_reading 72 = .ok (.iconst 0, 1) := by decide +kernel
theorem dX5_reading_73 : decode cX5_reading 73 = .ok (.bastore, 1) := by decide +kernel
theorem dX5_reading_74 : decode cX5_reading 74 = .ok (.aload_n 0, 1) := by decide +kernel
theorem dX5_reading_75 : decode cX5_reading 75 = .ok (.dup, 1) := by decide +kernel
theorem dX5_reading_76 : decode cX5_reading 76 = .ok (.getfield 90, 3) := by decide +kernel
theorem dX5_reading_79 : decode cX5_reading 79 = .ok (.iconst 1, 1) := by decide +kernel
theorem dX5_reading_80 : decode cX5_reading 80 = .ok (.iadd, 1) := by decide +kernel
theorem dX5_reading_81 : decode cX5_reading 81 = .ok (.putfield 90, 3) := by decide +kernel
theorem dX5_reading_84 : decode cX5_reading 84 = .ok (.aload_n 0, 1) := by decide +kernel
theorem dX5_reading_85 : decode cX5_reading 85 = .ok (.getfield 90, 3) := by decide +kernel
theorem dX5_reading_88 : decode cX5_reading 88 = .ok (.iconst 1, 1) := by decide +kernel
theorem dX5_reading_89 : decode cX5_reading 89 = .ok (.isub, 1) := by decide +kernel
theorem dX5_reading_90 : decode cX5_reading 90 = .ok (.ireturn, 1) := by decide +kernel
def f_X5_reading_j73 (y1 : Int32) (y2 : Int32) (σ : St) : Option (Int32 × St) :=
  gd (ck y1 8) <|
  nm (wS σ 8 (Int32.toNatClampNeg y1) (vp_nar .boolean y2)) fun σ_2 =>
  nm (wS σ_2 0 3 ((σ_2.1 0 3) + (1 : Int32))) fun σ_3 =>
  some (((σ_3.1 0 3) - (1 : Int32)), σ_3)
def f_X5_reading_j23 (x1 : Int32) (x2 : Int32) (x3 : Int32) (σ : St) : Option (Int32 × St) :=
  if (σ.1 0 3) < (8 : Int32) then (gd (ck (σ.1 0 3) 8) <|
    nm (wS σ 6 (Int32.toNatClampNeg (σ.1 0 3)) x1) fun σ_6 =>
    gd (ck (σ_6.1 0 3) 8) <|
    nm (wS σ_6 7 (Int32.toNatClampNeg (σ_6.1 0 3)) x2) fun σ_8 =>
    if x3 = (1 : Int32) then (f_X5_reading_j73 (σ_8.1 0 3) (1 : Int32) σ_8)
    else f_X5_reading_j73 (σ_8.1 0 3) (0 : Int32) σ_8)
  else some ((-4 : Int32), σ)
def f_X5_reading (x1 : Int32) (x2 : Int32) (x3 : Int32) (σ : St) : Option (Int32 × St) :=
  bd (f_X5_areTwo x1 x2 σ) fun r_10 =>
  if r_10 = 0 then (some ((-1 : Int32), σ))
  else if x3 = 0 then (f_X5_reading_j23 x1 x2 x3 σ)
    else if x3 = (1 : Int32) then (f_X5_reading_j23 x1 x2 x3 σ)
    else some ((-2 : Int32), σ)
abbrev rmX5_reading : Room := { frames := 2, cells := 0, slots := 0, locals := 43 }
set_option maxRecDepth 100000 in
set_option maxHeartbeats 4000000 in
theorem c_X5_reading (l : Launch) (D : va_G) (a : Nat → Nat) (c : Nat → ClassId) (A : Nat → Prop) (hD : ∀ σ, va_D A (cW a c σ)) (x1 : Int32) (x2 : Int32) (x3 : Int32) (σ : St) (r : Int32) (u : St) (hf : f_X5_reading x1 x2 x3 σ = some (r, u)) : MetI l yX5_reading cX5_reading 4 (some .int) rmX5_reading (cW a c) D c A [.ref (a 0), .int x1, .int x2, .int x3] σ r u := by
  refine mkI (by decide) (Nat.le_of_ble_eq_true rfl) rfl ?_
  intro p e s m args below meth cd Q ls h0 hK hP hret hl
  obtain ⟨S, hr, hlk⟩ := h0
  obtain ⟨hx, hb, hml, hown, ht⟩ := id S
  have hS : va_S A s.heap s.heap [] := va_S.rf
  have hl : lv_has ls 4 [(0, .ref (a 0)), (1, .int x1), (2, .int x2), (3, .int x3)] := hl
  have hf := obs hf
  have j73 : ∀ (y1 : Int32) (y2 : Int32) (σ : St) (H : Heap) (locs : List Loc) (ls : Array Slot), lv_has ls 4 [(0, .ref (a 0))] → va_P D vwCl (cW a c σ) H → va_S A s.heap H locs → Option.bind (f_X5_reading_j73 y1 y2 σ) some = some (r, u) → W p l e rmX5_reading s m args below meth cd H locs 0 0 Q (F0 m 73 ls [.int y2, .int y1, .ref (a 5)]) := by
    intro y1 y2 σ H locs ls hl hP hS hf
    have hf := oun (f_X5_reading_j73.eq_1 _ _ _) hf
    obtain ⟨g_1, hf⟩ := ogd hf
    refine va_zast hx hb hK.1 hP (hD σ) hS 5 2 (cw5 a c σ) rfl (ck_in g_1) dX5_reading_73 (fun H locs hP _ hS => ?_)
    have hP := vP_eq (cpA_readFits a c σ (Int32.toNatClampNeg y1) (vp_nar .boolean y2)) hP
    obtain ⟨σ_2, eσ_2, hf⟩ := onm hf
    rw [eσ_2] at hP
    refine lv_aload_n hx hb dX5_reading_74 rfl (lv_at hl 0 rfl) ?_
    refine lv_dup hx hb dX5_reading_75 rfl ?_
    refine va_get (D := D) (ci := 3) (v := .int (σ_2.1 0 3)) (C := RX5) (T := TX5) (N := 12) hx hb ht gX5 hown hK.1 hP 0 (cw0 a c σ_2) rfl 9 (by decide) (ht _ q118) (fun _ h9 => h9) rfl dX5_reading_76 ?_
    refine lv_iconst (v := (1 : Int32)) hx hb dX5_reading_79 (by decide) ?_
    refine lv_iadd hx hb dX5_reading_80 ?_
    refine va_put (D := D) (ci := 3) (v := .int ((σ_2.1 0 3) + (1 : Int32))) (ty := .int) (C := RX5) (T := TX5) (N := 12) hx hb ht gX5 tyX5 tyX5_ok nmX5 hown hK.1 hP (hD σ_2) hS 0 (cw0 a c σ_2) rfl 9 (by decide) (ht _ q118) (fun _ h9 => h9) rfl (by decide +kernel) rfl rfl (Nat.le_of_ble_eq_true rfl) dX5_reading_81 (fun H locs hP _ hS => ?_)
    have hP := vP_eq (cpX5_readings a c σ_2 ((σ_2.1 0 3) + (1 : Int32))) hP
    obtain ⟨σ_3, eσ_3, hf⟩ := onm hf
    rw [eσ_3] at hP
    refine lv_aload_n hx hb dX5_reading_84 rfl (lv_at hl 0 rfl) ?_
    refine va_get (D := D) (ci := 3) (v := .int (σ_3.1 0 3)) (C := RX5) (T := TX5) (N := 12) hx hb ht gX5 hown hK.1 hP 0 (cw0 a c σ_3) rfl 9 (by decide) (ht _ q118) (fun _ h9 => h9) rfl dX5_reading_85 ?_
    refine lv_iconst (v := (1 : Int32)) hx hb dX5_reading_88 (by decide) ?_
    refine lv_isub hx hb dX5_reading_89 ?_
    exact hret _ _ _ _ _ _ dX5_reading_90 rfl hP hS (oret hf)
  have j23 : ∀ (x1 : Int32) (x2 : Int32) (x3 : Int32) (σ : St) (H : Heap) (locs : List Loc) (ls : Array Slot), lv_has ls 4 [(0, .ref (a 0)), (1, .int x1), (2, .int x2), (3, .int x3)] → va_P D vwCl (cW a c σ) H → va_S A s.heap H locs → Option.bind (f_X5_reading_j23 x1 x2 x3 σ) some = some (r, u) → W p l e rmX5_reading s m args below meth cd H locs 0 0 Q (F0 m 23 ls []) := by
    intro x1 x2 x3 σ H locs ls hl hP hS hf
    have hf := oun (f_X5_reading_j23.eq_1 _ _ _ _) hf
    refine lv_aload_n hx hb dX5_reading_23 rfl (lv_at hl 0 rfl) ?_
    refine va_get (D := D) (ci := 3) (v := .int (σ.1 0 3)) (C := RX5) (T := TX5) (N := 12) hx hb ht gX5 hown hK.1 hP 0 (cw0 a c σ) rfl 9 (by decide) (ht _ q118) (fun _ h9 => h9) rfl dX5_reading_24 ?_
    refine lv_bipush (v := (8 : Int32)) hx hb dX5_reading_27 (by decide) ?_
    refine lv_icmp_lt (tgt := 35) hx hb dX5_reading_29 (by decide) (fun c_4 => ?_) (fun c_4 => ?_)
    · have hf := oit c_4 hf
      refine lv_aload_n hx hb dX5_reading_35 rfl (lv_at hl 0 rfl) ?_
      refine va_get (D := D) (ci := 3) (v := .ref (a 3)) (C := RX5) (T := TX5) (N := 12) hx hb ht gX5 hown hK.1 hP 0 (cw0 a c σ) rfl 2 (by decide) (ht _ q17) (fun _ h9 => h9) rfl dX5_reading_36 ?_
      refine lv_aload_n hx hb dX5_reading_39 rfl (lv_at hl 0 rfl) ?_
      refine va_get (D := D) (ci := 3) (v := .int (σ.1 0 3)) (C := RX5) (T := TX5) (N := 12) hx hb ht gX5 hown hK.1 hP 0 (cw0 a c σ) rfl 9 (by decide) (ht _ q118) (fun _ h9 => h9) rfl dX5_reading_40 ?_
      refine lv_iload_n hx hb dX5_reading_43 rfl (lv_at hl 1 rfl) ?_
      obtain ⟨g_5, hf⟩ := ogd hf
      refine va_iast hx hb hK.1 hP (hD σ) hS 3 0 (cw3 a c σ) rfl (ck_in g_5) dX5_reading_44 (fun H locs hP _ hS => ?_)
      have hP := vP_eq (cpA_readFirst a c σ (Int32.toNatClampNeg (σ.1 0 3)) x1) hP
      obtain ⟨σ_6, eσ_6, hf⟩ := onm hf
      rw [eσ_6] at hP
      refine lv_aload_n hx hb dX5_reading_45 rfl (lv_at hl 0 rfl) ?_
      refine va_get (D := D) (ci := 3) (v := .ref (a 4)) (C := RX5) (T := TX5) (N := 12) hx hb ht gX5 hown hK.1 hP 0 (cw0 a c σ_6) rfl 3 (by decide) (ht _ q18) (fun _ h9 => h9) rfl dX5_reading_46 ?_
      refine lv_aload_n hx hb dX5_reading_49 rfl (lv_at hl 0 rfl) ?_
      refine va_get (D := D) (ci := 3) (v := .int (σ_6.1 0 3)) (C := RX5) (T := TX5) (N := 12) hx hb ht gX5 hown hK.1 hP 0 (cw0 a c σ_6) rfl 9 (by decide) (ht _ q118) (fun _ h9 => h9) rfl dX5_reading_50 ?_
      refine lv_iload_n hx hb dX5_reading_53 rfl (lv_at hl 2 rfl) ?_
      obtain ⟨g_7, hf⟩ := ogd hf
      refine va_iast hx hb hK.1 hP (hD σ_6) hS 4 0 (cw4 a c σ_6) rfl (ck_in g_7) dX5_reading_54 (fun H locs hP _ hS => ?_)
      have hP := vP_eq (cpA_readSecond a c σ_6 (Int32.toNatClampNeg (σ_6.1 0 3)) x2) hP
      obtain ⟨σ_8, eσ_8, hf⟩ := onm hf
      rw [eσ_8] at hP
      refine lv_aload_n hx hb dX5_reading_55 rfl (lv_at hl 0 rfl) ?_
      refine va_get (D := D) (ci := 3) (v := .ref (a 5)) (C := RX5) (T := TX5) (N := 12) hx hb ht gX5 hown hK.1 hP 0 (cw0 a c σ_8) rfl 4 (by decide) (ht _ q20) (fun _ h9 => h9) rfl dX5_reading_56 ?_
      refine lv_aload_n hx hb dX5_reading_59 rfl (lv_at hl 0 rfl) ?_
      refine va_get (D := D) (ci := 3) (v := .int (σ_8.1 0 3)) (C := RX5) (T := TX5) (N := 12) hx hb ht gX5 hown hK.1 hP 0 (cw0 a c σ_8) rfl 9 (by decide) (ht _ q118) (fun _ h9 => h9) rfl dX5_reading_60 ?_
      refine lv_iload_n hx hb dX5_reading_63 rfl (lv_at hl 3 rfl) ?_
      refine lv_iconst (v := (1 : Int32)) hx hb dX5_reading_64 (by decide) ?_
      refine lv_icmp_ne (tgt := 72) hx hb dX5_reading_65 (by decide) (fun c_9 => ?_) (fun c_9 => ?_)
      · have hf := oif c_9 hf
        refine lv_iconst (v := (0 : Int32)) hx hb dX5_reading_72 (by decide) ?_
        exact j73 (σ_8.1 0 3) (0 : Int32) σ_8 _ _ _ (lv_sub hl [0] rfl) hP hS hf
      have hf := oit c_9 hf
      refine lv_iconst (v := (1 : Int32)) hx hb dX5_reading_68 (by decide) ?_
      refine lv_goto (tgt := 73) hx hb dX5_reading_69 (by decide) ?_
      exact j73 (σ_8.1 0 3) (1 : Int32) σ_8 _ _ _ (lv_sub hl [0] rfl) hP hS hf
    have hf := oif c_4 hf
    refine lv_bipush (v := (-4 : Int32)) hx hb dX5_reading_32 (by decide) ?_
    exact hret _ _ _ _ _ _ dX5_reading_34 rfl hP hS (oret hf)
  have hf := oun (f_X5_reading.eq_1 _ _ _ _) hf
  refine lv_aload_n hx hb dX5_reading_0 rfl (lv_at hl 0 rfl) ?_
  refine lv_iload_n hx hb dX5_reading_1 rfl (lv_at hl 1 rfl) ?_
  refine lv_iload_n hx hb dX5_reading_2 rfl (lv_at hl 2 rfl) ?_
  obtain ⟨r_10, h_11, hf⟩ := obd hf
  refine xv_I (As := [.int x1, .int x2]) (rest := []) S k_X5_areTwo q269 q270 q271 ⟨Nat.le_of_ble_eq_true rfl, Nat.le_of_ble_eq_true rfl⟩ ⟨rfl, rfl⟩ (c_X5_areTwo l D a c A hD x1 x2 σ r_10 h_11) hK hP hS (va_recv hK.1 hP (rfl : vwCl[3]? = some (RX5, TX5, 12)) (cw0 a c σ)) rfl hl.1 rfl (Nat.le_of_ble_eq_true rfl) dX5_reading_3 ⟨Nat.zero_le _, Nat.zero_le _⟩ (fun H locs hP hS => ?_)
  refine lv_if_ne (tgt := 11) hx hb dX5_reading_6 (by decide) (fun c_12 => ?_) (fun c_12 => ?_)
  · have hf := oif c_12 hf
    refine lv_iload_n hx hb dX5_reading_11 rfl (lv_at hl 3 rfl) ?_
    refine lv_if_eq (tgt := 23) hx hb dX5_reading_12 (by decide) (fun c_13 => ?_) (fun c_13 => ?_)
    · have hf := oit c_13 hf
      exact j23 x1 x2 x3 σ _ _ _ (lv_sub hl [0, 1, 2, 3] rfl) hP hS hf
    have hf := oif c_13 hf
    refine lv_iload_n hx hb dX5_reading_15 rfl (lv_at hl 3 rfl) ?_
    refine lv_iconst (v := (1 : Int32)) hx hb dX5_reading_16 (by decide) ?_
    refine lv_icmp_eq (tgt := 23) hx hb dX5_reading_17 (by decide) (fun c_14 => ?_) (fun c_14 => ?_)
    · have hf := oit c_14 hf
      exact j23 x1 x2 x3 σ _ _ _ (lv_sub hl [0, 1, 2, 3] rfl) hP hS hf
    have hf := oif c_14 hf
    refine lv_bipush (v := (-2 : Int32)) hx hb dX5_reading_20 (by decide) ?_
    exact hret _ _ _ _ _ _ dX5_reading_22 rfl hP hS (oret hf)
  have hf := oit c_12 hf
  refine lv_iconst (v := (-1 : Int32)) hx hb dX5_reading_9 (by decide) ?_
  exact hret _ _ _ _ _ _ dX5_reading_10 rfl hP hS (oret hf)
