theorem dX6_begins_0 : decode cX6_begins 0 = .ok (.aload_n 0, 1) := by decide +kernel
theorem dX6_begins_1 : decode cX6_begins 1 = .ok (.bipush 31, 2) := by decide +kernel
theorem dX6_begins_3 : decode cX6_begins 3 = .ok (.aload_n 0, 1) := by decide +kernel
theorem dX6_begins_4 : decode cX6_begins 4 = .ok (.getfield 200, 3) := by decide +kernel
theorem dX6_begins_7 : decode cX6_begins 7 = .ok (.imul, 1) := by decide +kernel
theorem dX6_begins_8 : decode cX6_begins 8 = .ok (.iload_n 1, 1) := by decide +kernel
theorem dX6_begins_9 : decode cX6_begins 9 = .ok (.iadd, 1) := by decide +kernel
theorem dX6_begins_10 : decode cX6_begins 10 = .ok (.putfield 200, 3) := by decide +kernel
theorem dX6_begins_13 : decode cX6_begins 13 = .ok (.return_, 1) := by decide +kernel
def f_X6_begins (x1 : Int32) (σ : St) : Option St :=
  nm (wS σ 0 1 (((31 : Int32) * (σ.1 0 1)) + x1)) fun σ_1 =>
  some σ_1
abbrev rmX6_begins : Room := { frames := 0, cells := 0, slots := 0, locals := 0 }
set_option maxRecDepth 100000 in
set_option maxHeartbeats 4000000 in
theorem c_X6_begins (l : Launch) (D : va_G) (a : Nat → Nat) (c : Nat → ClassId) (A : Nat → Prop) (hD : ∀ σ, va_D A (mW a c σ)) (x1 : Int32) (σ : St) (u : St) (hf : f_X6_begins x1 σ = some u) : MetV l yX6_begins cX6_begins 2 (none) rmX6_begins (mW a c) D c A [.ref (a 0), .int x1] σ u := by
  refine mkV (by decide) (Nat.le_of_ble_eq_true rfl) rfl ?_
  intro p e s m args below meth cd Q ls h0 hK hP hret hl
  obtain ⟨S, hr, hlk⟩ := h0
  obtain ⟨hx, hb, hml, hown, ht⟩ := id S
  have hS : va_S A s.heap s.heap [] := va_S.rf
  have hl : lv_has ls 2 [(0, .ref (a 0)), (1, .int x1)] := hl
  have hf := obs hf
  have hf := oun (f_X6_begins.eq_1 _ _) hf
  refine lv_aload_n hx hb dX6_begins_0 rfl (lv_at hl 0 rfl) ?_
  refine lv_bipush (v := (31 : Int32)) hx hb dX6_begins_1 (by decide) ?_
  refine lv_aload_n hx hb dX6_begins_3 rfl (lv_at hl 0 rfl) ?_
  refine va_get (D := D) (ci := 4) (v := .int (σ.1 0 1)) (C := RX6) (T := TX6) (N := 27) hx hb ht gX6 hown hK.1 hP 0 (mw0 a c σ) rfl 1 (by decide) (ht _ q716) (fun _ h9 => h9) rfl dX6_begins_4 ?_
  refine lv_imul hx hb dX6_begins_7 ?_
  refine lv_iload_n hx hb dX6_begins_8 rfl (lv_at hl 1 rfl) ?_
  refine lv_iadd hx hb dX6_begins_9 ?_
  refine va_put (D := D) (ci := 4) (v := .int (((31 : Int32) * (σ.1 0 1)) + x1)) (ty := .int) (C := RX6) (T := TX6) (N := 27) hx hb ht gX6 tyX6 tyX6_ok nmX6 hown hK.1 hP (hD σ) hS 0 (mw0 a c σ) rfl 1 (by decide) (ht _ q716) (fun _ h9 => h9) rfl (by decide +kernel) rfl rfl (Nat.le_of_ble_eq_true rfl) dX6_begins_10 (fun H locs hP _ hS => ?_)
  have hP := vP_eq (mpX6_trace a c σ (((31 : Int32) * (σ.1 0 1)) + x1)) hP
  obtain ⟨σ_1, eσ_1, hf⟩ := onm hf
  rw [eσ_1] at hP
  exact hret _ _ _ _ _ dX6_begins_13 hP hS (Option.some.inj hf)
theorem dX6_tell_0 : decode cX6_tell 0 = .ok (.aload_n 0, 1) := by decide +kernel
theorem dX6_tell_1 : decode cX6_tell 1 = .ok (.iload_n 1, 1) := by decide +kernel
theorem dX6_tell_2 : decode cX6_tell 2 = .ok (.invokevirtual 78, 3) := by decide +kernel
theorem dX6_tell_5 : decode cX6_tell 5 = .ok (.ifCond .ne 5, 3) := by decide +kernel
theorem dX6_tell_8 : decode cX6_tell 8 = .ok (.iconst (-1), 1) := by decide +kernel
theorem dX6_tell_9 : decode cX6_tell 9 = .ok (.ireturn, 1) := by decide +kernel
theorem dX6_tell_10 : decode cX6_tell 10 = .ok (.aload_n 0, 1) := by decide +kernel
theorem dX6_tell_11 : decode cX6_tell 11 = .ok (.getfield 22, 3) := by decide +kernel
theorem dX6_tell_14 : decode cX6_tell 14 = .ok (.iload_n 1, 1) := by decide +kernel
theorem dX6_tell_15 : decode cX6_tell 15 = .ok (.iaload, 1) := by decide +kernel
theorem dX6_tell_16 : decode cX6_tell 16 = .ok (.istore_n 2, 1) := by decide +kernel
theorem dX6_tell_17 : decode cX6_tell 17 = .ok (.aload_n 0, 1) := by decide +kernel
theorem dX6_tell_18 : decode cX6_tell 18 = .ok (.getfield 19, 3) := by decide +kernel
theorem dX6_tell_21 : decode cX6_tell 21 = .ok (.iload_n 1, 1) := by decide +kernel
theorem dX6_tell_22 : decode cX6_tell 22 = .ok (.iaload, 1) := by decide +kernel
theorem dX6_tell_23 : decode cX6_tell 23 = .ok (.lookupswitch 67 #[(1, 25), (2, 40)], 25) := by decide +kernel
theorem dX6_tell_48 : decode cX6_tell 48 = .ok (.aload_n 0, 1) := by decide +kernel
theorem dX6_tell_49 : decode cX6_tell 49 = .ok (.iconst 2, 1) := by decide +kernel
theorem dX6_tell_50 : decode cX6_tell 50 = .ok (.invokevirtual 203, 3) := by decide +kernel
theorem dX6_tell_53 : decode cX6_tell 53 = .ok (.aload_n 0, 1) := by decide +kernel
theorem dX6_tell_54 : decode cX6_tell 54 = .ok (.iconst 1, 1) := by decide +kernel
theorem dX6_tell_55 : decode cX6_tell 55 = .ok (.invokevirtual 203, 3) := by decide +kernel
theorem dX6_tell_58 : decode cX6_tell 58 = .ok (.iload_n 2, 1) := by decide +kernel
theorem dX6_tell_59 : decode cX6_tell 59 = .ok (.bipush 100, 2) := by decide +kernel
theorem dX6_tell_61 : decode cX6_tell 61 = .ok (.iadd, 1) := by decide +kernel
theorem dX6_tell_62 : decode cX6_tell 62 = .ok (.ireturn, 1) := by decide +kernel
theorem dX6_tell_63 : decode cX6_tell 63 = .ok (.aload_n 0, 1) := by decide +kernel
theorem dX6_tell_64 : decode cX6_tell 64 = .ok (.iconst 3, 1) := by decide +kernel
theorem dX6_tell_65 : decode cX6_tell 65 = .ok (.invokevirtual 203, 3) := by decide +kernel
theorem dX6_tell_68 : decode cX6_tell 68 = .ok (.aload_n 0, 1) := by decide +kernel
theorem dX6_tell_69 : decode cX6_tell 69 = .ok (.iconst 2, 1) := by decide +kernel
theorem dX6_tell_70 : decode cX6_tell 70 = .ok (.invokevirtual 203, 3) := by decide +kernel
theorem dX6_tell_73 : decode cX6_tell 73 = .ok (.aload_n 0, 1) := by decide +kernel
theorem dX6_tell_74 : decode cX6_tell 74 = .ok (.iconst 1, 1) := by decide +kernel
theorem dX6_tell_75 : decode cX6_tell 75 = .ok (.invokevirtual 203, 3) := by decide +kernel
theorem dX6_tell_78 : decode cX6_tell 78 = .ok (.aload_n 0, 1) := by decide +kernel
theorem dX6_tell_79 : decode cX6_tell 79 = .ok (.iconst 1, 1) := by decide +kernel
theorem dX6_tell_80 : decode cX6_tell 80 = .ok (.invokevirtual 203, 3) := by decide +kernel
theorem dX6_tell_83 : decode cX6_tell 83 = .ok (.iconst 2, 1) := by decide +kernel
theorem dX6_tell_84 : decode cX6_tell 84 = .ok (.iload_n 2, 1) := by decide +kernel
theorem dX6_tell_85 : decode cX6_tell 85 = .ok (.imul, 1) := by decide +kernel
theorem dX6_tell_86 : decode cX6_tell 86 = .ok (.bipush 100, 2) := by decide +kernel
theorem dX6_tell_88 : decode cX6_tell 88 = .ok (.iadd, 1) := by decide +kernel
theorem dX6_tell_89 : decode cX6_tell 89 = .ok (.ireturn, 1) := by decide +kernel
theorem dX6_tell_90 : decode cX6_tell 90 = .ok (.aload_n 0, 1) := by decide +kernel
theorem dX6_tell_91 : decode cX6_tell 91 = .ok (.iconst 1, 1) := by decide +kernel
theorem dX6_tell_92 : decode cX6_tell 92 = .ok (.invokevirtual 203, 3) := by decide +kernel
theorem dX6_tell_95 : decode cX6_tell 95 = .ok (.iload_n 2, 1) := by decide +kernel
theorem dX6_tell_96 : decode cX6_tell 96 = .ok (.ireturn, 1) := by decide +kernel
def f_X6_tell (x1 : Int32) (σ : St) : Option (Int32 × St) :=
  bd (f_X6_isDoll x1 σ) fun r_1 =>
  if r_1 = 0 then (some ((-1 : Int32), σ))
  else gd (ck x1 4) <|
    nm (σ.1 5 x1.toNatClampNeg) fun x2_5 =>
    gd (ck x1 4) <|
    nm (σ.1 4 x1.toNatClampNeg) fun w_7 =>
    if w_7 = (1 : Int32) then (bd (f_X6_begins (2 : Int32) σ) fun σ_9 =>
      bd (f_X6_begins (1 : Int32) σ_9) fun σ_11 =>
      some ((x2_5 + (100 : Int32)), σ_11))
    else if w_7 = (2 : Int32) then (bd (f_X6_begins (3 : Int32) σ) fun σ_14 =>
      bd (f_X6_begins (2 : Int32) σ_14) fun σ_16 =>
      bd (f_X6_begins (1 : Int32) σ_16) fun σ_18 =>
      bd (f_X6_begins (1 : Int32) σ_18) fun σ_20 =>
      some ((((2 : Int32) * x2_5) + (100 : Int32)), σ_20))
    else bd (f_X6_begins (1 : Int32) σ) fun σ_22 =>
    some (x2_5, σ_22)
abbrev rmX6_tell : Room := { frames := 1, cells := 0, slots := 0, locals := 21 }
set_option maxRecDepth 100000 in
set_option maxHeartbeats 4000000 in
theorem c_X6_tell (l : Launch) (D : va_G) (a : Nat → Nat) (c : Nat → ClassId) (A : Nat → Prop) (hD : ∀ σ, va_D A (mW a c σ)) (x1 : Int32) (σ : St) (r : Int32) (u : St) (hf : f_X6_tell x1 σ = some (r, u)) : MetI l yX6_tell cX6_tell 3 (some .int) rmX6_tell (mW a c) D c A [.ref (a 0), .int x1] σ r u := by
  refine mkI (by decide) (Nat.le_of_ble_eq_true rfl) rfl ?_
  intro p e s m args below meth cd Q ls h0 hK hP hret hl
  obtain ⟨S, hr, hlk⟩ := h0
  obtain ⟨hx, hb, hml, hown, ht⟩ := id S
  have hS : va_S A s.heap s.heap [] := va_S.rf
  have hl : lv_has ls 3 [(0, .ref (a 0)), (1, .int x1)] := hl
  have hf := obs hf
  have hf := oun (f_X6_tell.eq_1 _ _) hf
  refine lv_aload_n hx hb dX6_tell_0 rfl (lv_at hl 0 rfl) ?_
  refine lv_iload_n hx hb dX6_tell_1 rfl (lv_at hl 1 rfl) ?_
  obtain ⟨r_1, h_2, hf⟩ := obd hf
  refine xv_I (As := [.int x1]) (rest := []) S k_X6_isDoll q226 q227 q228 ⟨Nat.le_of_ble_eq_true rfl, Nat.le_of_ble_eq_true rfl⟩ ⟨rfl, rfl⟩ (c_X6_isDoll l D a c A hD x1 σ r_1 h_2) hK hP hS (va_recv hK.1 hP (rfl : vwCl[4]? = some (RX6, TX6, 27)) (mw0 a c σ)) rfl hl.1 rfl (Nat.le_of_ble_eq_true rfl) dX6_tell_2 ⟨Nat.zero_le _, Nat.zero_le _⟩ (fun H locs hP hS => ?_)
  refine lv_if_ne (tgt := 10) hx hb dX6_tell_5 (by decide) (fun c_3 => ?_) (fun c_3 => ?_)
  · have hf := oif c_3 hf
    refine lv_aload_n hx hb dX6_tell_10 rfl (lv_at hl 0 rfl) ?_
    refine va_get (D := D) (ci := 4) (v := .ref (a 5)) (C := RX6) (T := TX6) (N := 27) hx hb ht gX6 hown hK.1 hP 0 (mw0 a c σ) rfl 8 (by decide) (ht _ q54) (fun _ h9 => h9) rfl dX6_tell_11 ?_
    refine lv_iload_n hx hb dX6_tell_14 rfl (lv_at hl 1 rfl) ?_
    obtain ⟨g_4, hf⟩ := ogd hf
    refine va_iald hx hb hK.1 hP 5 0 (mw5 a c σ) rfl (ck_in g_4) dX6_tell_15 ?_
    obtain ⟨x2_5, ex2_5, hf⟩ := onm hf
    refine lv_nm ex2_5 ?_
    refine lv_istore_n (lv' := [(2, .int x2_5), (0, .ref (a 0)), (1, .int x1)]) hx hb dX6_tell_16 rfl hl (by decide) rfl (fun ls hl => ?_)
    refine lv_aload_n hx hb dX6_tell_17 rfl (lv_at hl 1 rfl) ?_
    refine va_get (D := D) (ci := 4) (v := .ref (a 4)) (C := RX6) (T := TX6) (N := 27) hx hb ht gX6 hown hK.1 hP 0 (mw0 a c σ) rfl 7 (by decide) (ht _ q53) (fun _ h9 => h9) rfl dX6_tell_18 ?_
    refine lv_iload_n hx hb dX6_tell_21 rfl (lv_at hl 2 rfl) ?_
    obtain ⟨g_6, hf⟩ := ogd hf
    refine va_iald hx hb hK.1 hP 4 0 (mw4 a c σ) rfl (ck_in g_6) dX6_tell_22 ?_
    obtain ⟨w_7, ew_7, hf⟩ := onm hf
    refine lv_nm ew_7 ?_
    by_cases c_8 : w_7 = (1 : Int32)
    · have hf := oit c_8 hf
      refine lv_lookup (tgt := 48) (off := 25) hx hb dX6_tell_23 (by decide) (by rw [c_8]; decide) (by decide) ?_
      refine lv_aload_n hx hb dX6_tell_48 rfl (lv_at hl 1 rfl) ?_
      refine lv_iconst (v := (2 : Int32)) hx hb dX6_tell_49 (by decide) ?_
      obtain ⟨σ_9, h_10, hf⟩ := obd hf
      refine xv_V (As := [.int (2 : Int32)]) (rest := []) S k_X6_begins q712 q713 q714 ⟨Nat.le_of_ble_eq_true rfl, Nat.le_of_ble_eq_true rfl⟩ ⟨rfl, rfl⟩ (c_X6_begins l D a c A hD (2 : Int32) σ σ_9 h_10) hK hP hS (va_recv hK.1 hP (rfl : vwCl[4]? = some (RX6, TX6, 27)) (mw0 a c σ)) rfl hl.1 rfl (Nat.le_of_ble_eq_true rfl) dX6_tell_50 ⟨Nat.zero_le _, Nat.zero_le _⟩ (fun H locs hP hS => ?_)
      refine lv_aload_n hx hb dX6_tell_53 rfl (lv_at hl 1 rfl) ?_
      refine lv_iconst (v := (1 : Int32)) hx hb dX6_tell_54 (by decide) ?_
      obtain ⟨σ_11, h_12, hf⟩ := obd hf
      refine xv_V (As := [.int (1 : Int32)]) (rest := []) S k_X6_begins q712 q713 q714 ⟨Nat.le_of_ble_eq_true rfl, Nat.le_of_ble_eq_true rfl⟩ ⟨rfl, rfl⟩ (c_X6_begins l D a c A hD (1 : Int32) σ_9 σ_11 h_12) hK hP hS (va_recv hK.1 hP (rfl : vwCl[4]? = some (RX6, TX6, 27)) (mw0 a c σ_9)) rfl hl.1 rfl (Nat.le_of_ble_eq_true rfl) dX6_tell_55 ⟨Nat.zero_le _, Nat.zero_le _⟩ (fun H locs hP hS => ?_)
      refine lv_iload_n hx hb dX6_tell_58 rfl (lv_at hl 0 rfl) ?_
      refine lv_bipush (v := (100 : Int32)) hx hb dX6_tell_59 (by decide) ?_
      refine lv_iadd hx hb dX6_tell_61 ?_
      exact hret _ _ _ _ _ _ dX6_tell_62 rfl hP hS (oret hf)
    have hf := oif c_8 hf
    by_cases c_13 : w_7 = (2 : Int32)
    · have hf := oit c_13 hf
      refine lv_lookup (tgt := 63) (off := 40) hx hb dX6_tell_23 (by decide) (by rw [c_13]; decide) (by decide) ?_
      refine lv_aload_n hx hb dX6_tell_63 rfl (lv_at hl 1 rfl) ?_
      refine lv_iconst (v := (3 : Int32)) hx hb dX6_tell_64 (by decide) ?_
      obtain ⟨σ_14, h_15, hf⟩ := obd hf
      refine xv_V (As := [.int (3 : Int32)]) (rest := []) S k_X6_begins q712 q713 q714 ⟨Nat.le_of_ble_eq_true rfl, Nat.le_of_ble_eq_true rfl⟩ ⟨rfl, rfl⟩ (c_X6_begins l D a c A hD (3 : Int32) σ σ_14 h_15) hK hP hS (va_recv hK.1 hP (rfl : vwCl[4]? = some (RX6, TX6, 27)) (mw0 a c σ)) rfl hl.1 rfl (Nat.le_of_ble_eq_true rfl) dX6_tell_65 ⟨Nat.zero_le _, Nat.zero_le _⟩ (fun H locs hP hS => ?_)
      refine lv_aload_n hx hb dX6_tell_68 rfl (lv_at hl 1 rfl) ?_
      refine lv_iconst (v := (2 : Int32)) hx hb dX6_tell_69 (by decide) ?_
      obtain ⟨σ_16, h_17, hf⟩ := obd hf
      refine xv_V (As := [.int (2 : Int32)]) (rest := []) S k_X6_begins q712 q713 q714 ⟨Nat.le_of_ble_eq_true rfl, Nat.le_of_ble_eq_true rfl⟩ ⟨rfl, rfl⟩ (c_X6_begins l D a c A hD (2 : Int32) σ_14 σ_16 h_17) hK hP hS (va_recv hK.1 hP (rfl : vwCl[4]? = some (RX6, TX6, 27)) (mw0 a c σ_14)) rfl hl.1 rfl (Nat.le_of_ble_eq_true rfl) dX6_tell_70 ⟨Nat.zero_le _, Nat.zero_le _⟩ (fun H locs hP hS => ?_)
      refine lv_aload_n hx hb dX6_tell_73 rfl (lv_at hl 1 rfl) ?_
      refine lv_iconst (v := (1 : Int32)) hx hb dX6_tell_74 (by decide) ?_
      obtain ⟨σ_18, h_19, hf⟩ := obd hf
      refine xv_V (As := [.int (1 : Int32)]) (rest := []) S k_X6_begins q712 q713 q714 ⟨Nat.le_of_ble_eq_true rfl, Nat.le_of_ble_eq_true rfl⟩ ⟨rfl, rfl⟩ (c_X6_begins l D a c A hD (1 : Int32) σ_16 σ_18 h_19) hK hP hS (va_recv hK.1 hP (rfl : vwCl[4]? = some (RX6, TX6, 27)) (mw0 a c σ_16)) rfl hl.1 rfl (Nat.le_of_ble_eq_true rfl) dX6_tell_75 ⟨Nat.zero_le _, Nat.zero_le _⟩ (fun H locs hP hS => ?_)
      refine lv_aload_n hx hb dX6_tell_78 rfl (lv_at hl 1 rfl) ?_
      refine lv_iconst (v := (1 : Int32)) hx hb dX6_tell_79 (by decide) ?_
      obtain ⟨σ_20, h_21, hf⟩ := obd hf
      refine xv_V (As := [.int (1 : Int32)]) (rest := []) S k_X6_begins q712 q713 q714 ⟨Nat.le_of_ble_eq_true rfl, Nat.le_of_ble_eq_true rfl⟩ ⟨rfl, rfl⟩ (c_X6_begins l D a c A hD (1 : Int32) σ_18 σ_20 h_21) hK hP hS (va_recv hK.1 hP (rfl : vwCl[4]? = some (RX6, TX6, 27)) (mw0 a c σ_18)) rfl hl.1 rfl (Nat.le_of_ble_eq_true rfl) dX6_tell_80 ⟨Nat.zero_le _, Nat.zero_le _⟩ (fun H locs hP hS => ?_)
      refine lv_iconst (v := (2 : Int32)) hx hb dX6_tell_83 (by decide) ?_
      refine lv_iload_n hx hb dX6_tell_84 rfl (lv_at hl 0 rfl) ?_
      refine lv_imul hx hb dX6_tell_85 ?_
      refine lv_bipush (v := (100 : Int32)) hx hb dX6_tell_86 (by decide) ?_
      refine lv_iadd hx hb dX6_tell_88 ?_
      exact hret _ _ _ _ _ _ dX6_tell_89 rfl hP hS (oret hf)
    have hf := oif c_13 hf
    refine lv_lookup (tgt := 90) (off := 67) hx hb dX6_tell_23 (by decide) (by show Op.lookupswitch.offset [(1, 25), (2, 40)] 67 _ = _; rw [lv_osw c_8 (a := 1) (by decide), lv_osw c_13 (a := 2) (by decide)]; rfl) (by decide) ?_
    refine lv_aload_n hx hb dX6_tell_90 rfl (lv_at hl 1 rfl) ?_
    refine lv_iconst (v := (1 : Int32)) hx hb dX6_tell_91 (by decide) ?_
    obtain ⟨σ_22, h_23, hf⟩ := obd hf
    refine xv_V (As := [.int (1 : Int32)]) (rest := []) S k_X6_begins q712 q713 q714 ⟨Nat.le_of_ble_eq_true rfl, Nat.le_of_ble_eq_true rfl⟩ ⟨rfl, rfl⟩ (c_X6_begins l D a c A hD (1 : Int32) σ σ_22 h_23) hK hP hS (va_recv hK.1 hP (rfl : vwCl[4]? = some (RX6, TX6, 27)) (mw0 a c σ)) rfl hl.1 rfl (Nat.le_of_ble_eq_true rfl) dX6_tell_92 ⟨Nat.zero_le _, Nat.zero_le _⟩ (fun H locs hP hS => ?_)
    refine lv_iload_n hx hb dX6_tell_95 rfl (lv_at hl 0 rfl) ?_
    exact hret _ _ _ _ _ _ dX6_tell_96 rfl hP hS (oret hf)
  have hf := oit c_3 hf
  refine lv_iconst (v := (-1 : Int32)) hx hb dX6_tell_8 (by decide) ?_
  exact hret _ _ _ _ _ _ dX6_tell_9 rfl hP hS (oret hf)
theorem dX6_shake_0 : decode cX6_shake 0 = .ok (.aload_n 0, 1) := by decide +kernel
theorem dX6_shake_1 : decode cX6_shake 1 = .ok (.iload_n 1, 1) := by decide +kernel
theorem dX6_shake_2 : decode cX6_shake 2 = .ok (.invokevirtual 78, 3) := by decide +kernel
theorem dX6_shake_5 : decode cX6_shake 5 = .ok (.ifCond .ne 5, 3) := by decide +kernel
theorem dX6_shake_8 : decode cX6_shake 8 = .ok (.iconst (-1), 1) := by decide +kernel
theorem dX6_shake_9 : decode cX6_shake 9 = .ok (.ireturn, 1) := by decide +kernel
theorem dX6_shake_10 : decode cX6_shake 10 = .ok (.aload_n 0, 1) := by decide +kernel
theorem dX6_shake_11 : decode cX6_shake 11 = .ok (.aload_n 0, 1) := by decide +kernel
theorem dX6_shake_12 : decode cX6_shake 12 = .ok (.getfield 19, 3) := by decide +kernel
theorem dX6_shake_15 : decode cX6_shake 15 = .ok (.iload_n 1, 1) := by decide +kernel
theorem dX6_shake_16 : decode cX6_shake 16 = .ok (.iaload, 1) := by decide +kernel
theorem dX6_shake_17 : decode cX6_shake 17 = .ok (.iconst 2, 1) := by decide +kernel
theorem dX6_shake_18 : decode cX6_shake 18 = .ok (.if_icmp .ne 7, 3) := by decide +kernel
theorem dX6_shake_21 : decode cX6_shake 21 = .ok (.iconst 5, 1) := by decide +kernel
theorem dX6_shake_22 : decode cX6_shake 22 = .ok (.goto 4, 3) := by decide +kernel
theorem dX6_shake_25 : decode cX6_shake 25 = .ok (.iconst 4, 1) := by decide +kernel
theorem dX6_shake_26 : decode cX6_shake 26 = .ok (.invokevirtual 203, 3) := by decide +kernel
theorem dX6_shake_29 : decode cX6_shake 29 = .ok (.aload_n 0, 1) := by decide +kernel
theorem dX6_shake_30 : decode cX6_shake 30 = .ok (.getfield 19, 3) := by decide +kernel
theorem dX6_shake_33 : decode cX6_shake 33 = .ok (.iload_n 1, 1) := by decide +kernel
theorem dX6_shake_34 : decode cX6_shake 34 = .ok (.iaload, 1) := by decide +kernel
theorem dX6_shake_35 : decode cX6_shake 35 = .ok (.iconst 2, 1) := by decide +kernel
theorem dX6_shake_36 : decode cX6_shake 36 = .ok (.if_icmp .ne 8, 3) := by decide +kernel
theorem dX6_shake_39 : decode cX6_shake 39 = .ok (.bipush 40, 2) := by decide +kernel
theorem dX6_shake_41 : decode cX6_shake 41 = .ok (.goto 9, 3) := by decide +kernel
theorem dX6_shake_44 : decode cX6_shake 44 = .ok (.aload_n 0, 1) := by decide +kernel
theorem dX6_shake_45 : decode cX6_shake 45 = .ok (.getfield 25, 3) := by decide +kernel
theorem dX6_shake_48 : decode cX6_shake 48 = .ok (.iload_n 1, 1) := by decide +kernel
theorem dX6_shake_49 : decode cX6_shake 49 = .ok (.iaload, 1) := by decide +kernel
theorem dX6_shake_50 : decode cX6_shake 50 = .ok (.ireturn, 1) := by decide +kernel
def f_X6_shake_j26 (x1 : Int32) (y1 : Int32) (σ : St) : Option (Int32 × St) :=
  bd (f_X6_begins y1 σ) fun σ_1 =>
  gd (ck x1 4) <|
  if (σ_1.1 4 x1.toNatClampNeg) = (2 : Int32) then (some ((40 : Int32), σ_1))
  else gd (ck x1 4) <|
    some ((σ_1.1 6 x1.toNatClampNeg), σ_1)
def f_X6_shake (x1 : Int32) (σ : St) : Option (Int32 × St) :=
  bd (f_X6_isDoll x1 σ) fun r_6 =>
  if r_6 = 0 then (some ((-1 : Int32), σ))
  else gd (ck x1 4) <|
    if (σ.1 4 x1.toNatClampNeg) = (2 : Int32) then (f_X6_shake_j26 x1 (5 : Int32) σ)
    else f_X6_shake_j26 x1 (4 : Int32) σ
abbrev rmX6_shake : Room := { frames := 1, cells := 0, slots := 0, locals := 21 }
set_option maxRecDepth 100000 in
set_option maxHeartbeats 4000000 in
theorem c_X6_shake (l : Launch) (D : va_G) (a : Nat → Nat) (c : Nat → ClassId) (A : Nat → Prop) (hD : ∀ σ, va_D A (mW a c σ)) (x1 : Int32) (σ : St) (r : Int32) (u : St) (hf : f_X6_shake x1 σ = some (r, u)) : MetI l yX6_shake cX6_shake 2 (some .int) rmX6_shake (mW a c) D c A [.ref (a 0), .int x1] σ r u := by
  refine mkI (by decide) (Nat.le_of_ble_eq_true rfl) rfl ?_
  intro p e s m args below meth cd Q ls h0 hK hP hret hl
  obtain ⟨S, hr, hlk⟩ := h0
  obtain ⟨hx, hb, hml, hown, ht⟩ := id S
  have hS : va_S A s.heap s.heap [] := va_S.rf
  have hl : lv_has ls 2 [(0, .ref (a 0)), (1, .int x1)] := hl
  have hf := obs hf
  have j26 : ∀ (x1 : Int32) (y1 : Int32) (σ : St) (H : Heap) (locs : List Loc) (ls : Array Slot), lv_has ls 2 [(0, .ref (a 0)), (1, .int x1)] → va_P D vwCl (mW a c σ) H → va_S A s.heap H locs → Option.bind (f_X6_shake_j26 x1 y1 σ) some = some (r, u) → W p l e rmX6_shake s m args below meth cd H locs 0 0 Q (F0 m 26 ls [.int y1, .ref (a 0)]) := by
    intro x1 y1 σ H locs ls hl hP hS hf
    have hf := oun (f_X6_shake_j26.eq_1 _ _ _) hf
    obtain ⟨σ_1, h_2, hf⟩ := obd hf
    refine xv_V (As := [.int y1]) (rest := []) S k_X6_begins q712 q713 q714 ⟨Nat.le_of_ble_eq_true rfl, Nat.le_of_ble_eq_true rfl⟩ ⟨rfl, rfl⟩ (c_X6_begins l D a c A hD y1 σ σ_1 h_2) hK hP hS (va_recv hK.1 hP (rfl : vwCl[4]? = some (RX6, TX6, 27)) (mw0 a c σ)) rfl hl.1 rfl (Nat.le_of_ble_eq_true rfl) dX6_shake_26 ⟨Nat.zero_le _, Nat.zero_le _⟩ (fun H locs hP hS => ?_)
    refine lv_aload_n hx hb dX6_shake_29 rfl (lv_at hl 0 rfl) ?_
    refine va_get (D := D) (ci := 4) (v := .ref (a 4)) (C := RX6) (T := TX6) (N := 27) hx hb ht gX6 hown hK.1 hP 0 (mw0 a c σ_1) rfl 7 (by decide) (ht _ q53) (fun _ h9 => h9) rfl dX6_shake_30 ?_
    refine lv_iload_n hx hb dX6_shake_33 rfl (lv_at hl 1 rfl) ?_
    obtain ⟨g_3, hf⟩ := ogd hf
    refine va_iald hx hb hK.1 hP 4 0 (mw4 a c σ_1) rfl (ck_in g_3) dX6_shake_34 ?_
    refine lv_iconst (v := (2 : Int32)) hx hb dX6_shake_35 (by decide) ?_
    refine lv_icmp_ne (tgt := 44) hx hb dX6_shake_36 (by decide) (fun c_4 => ?_) (fun c_4 => ?_)
    · have hf := oif c_4 hf
      refine lv_aload_n hx hb dX6_shake_44 rfl (lv_at hl 0 rfl) ?_
      refine va_get (D := D) (ci := 4) (v := .ref (a 6)) (C := RX6) (T := TX6) (N := 27) hx hb ht gX6 hown hK.1 hP 0 (mw0 a c σ_1) rfl 9 (by decide) (ht _ q55) (fun _ h9 => h9) rfl dX6_shake_45 ?_
      refine lv_iload_n hx hb dX6_shake_48 rfl (lv_at hl 1 rfl) ?_
      obtain ⟨g_5, hf⟩ := ogd hf
      refine va_iald hx hb hK.1 hP 6 0 (mw6 a c σ_1) rfl (ck_in g_5) dX6_shake_49 ?_
      exact hret _ _ _ _ _ _ dX6_shake_50 rfl hP hS (oret hf)
    have hf := oit c_4 hf
    refine lv_bipush (v := (40 : Int32)) hx hb dX6_shake_39 (by decide) ?_
    refine lv_goto (tgt := 50) hx hb dX6_shake_41 (by decide) ?_
    exact hret _ _ _ _ _ _ dX6_shake_50 rfl hP hS (oret hf)
  have hf := oun (f_X6_shake.eq_1 _ _) hf
  refine lv_aload_n hx hb dX6_shake_0 rfl (lv_at hl 0 rfl) ?_
  refine lv_iload_n hx hb dX6_shake_1 rfl (lv_at hl 1 rfl) ?_
  obtain ⟨r_6, h_7, hf⟩ := obd hf
  refine xv_I (As := [.int x1]) (rest := []) S k_X6_isDoll q226 q227 q228 ⟨Nat.le_of_ble_eq_true rfl, Nat.le_of_ble_eq_true rfl⟩ ⟨rfl, rfl⟩ (c_X6_isDoll l D a c A hD x1 σ r_6 h_7) hK hP hS (va_recv hK.1 hP (rfl : vwCl[4]? = some (RX6, TX6, 27)) (mw0 a c σ)) rfl hl.1 rfl (Nat.le_of_ble_eq_true rfl) dX6_shake_2 ⟨Nat.zero_le _, Nat.zero_le _⟩ (fun H locs hP hS => ?_)
  refine lv_if_ne (tgt := 10) hx hb dX6_shake_5 (by decide) (fun c_8 => ?_) (fun c_8 => ?_)
  · have hf := oif c_8 hf
    refine lv_aload_n hx hb dX6_shake_10 rfl (lv_at hl 0 rfl) ?_
    refine lv_aload_n hx hb dX6_shake_11 rfl (lv_at hl 0 rfl) ?_
    refine va_get (D := D) (ci := 4) (v := .ref (a 4)) (C := RX6) (T := TX6) (N := 27) hx hb ht gX6 hown hK.1 hP 0 (mw0 a c σ) rfl 7 (by decide) (ht _ q53) (fun _ h9 => h9) rfl dX6_shake_12 ?_
    refine lv_iload_n hx hb dX6_shake_15 rfl (lv_at hl 1 rfl) ?_
    obtain ⟨g_9, hf⟩ := ogd hf
    refine va_iald hx hb hK.1 hP 4 0 (mw4 a c σ) rfl (ck_in g_9) dX6_shake_16 ?_
    refine lv_iconst (v := (2 : Int32)) hx hb dX6_shake_17 (by decide) ?_
    refine lv_icmp_ne (tgt := 25) hx hb dX6_shake_18 (by decide) (fun c_10 => ?_) (fun c_10 => ?_)
    · have hf := oif c_10 hf
      refine lv_iconst (v := (4 : Int32)) hx hb dX6_shake_25 (by decide) ?_
      exact j26 x1 (4 : Int32) σ _ _ _ (lv_sub hl [0, 1] rfl) hP hS hf
    have hf := oit c_10 hf
    refine lv_iconst (v := (5 : Int32)) hx hb dX6_shake_21 (by decide) ?_
    refine lv_goto (tgt := 26) hx hb dX6_shake_22 (by decide) ?_
    exact j26 x1 (5 : Int32) σ _ _ _ (lv_sub hl [0, 1] rfl) hP hS hf
  have hf := oit c_8 hf
  refine lv_iconst (v := (-1 : Int32)) hx hb dX6_shake_8 (by decide) ?_
  exact hret _ _ _ _ _ _ dX6_shake_9 rfl hP hS (oret hf)
theorem dX6_as_0 : decode cX6_as 0 = .ok (.aload_n 0, 1) := by decide +kernel
theorem dX6_as_1 : decode cX6_as 1 = .ok (.iconst 0, 1) := by decide +kernel
theorem dX6_as_2 : decode cX6_as 2 = .ok (.putfield 65, 3) := by decide +kernel
theorem dX6_as_5 : decode cX6_as 5 = .ok (.aload_n 0, 1) := by decide +kernel
theorem dX6_as_6 : decode cX6_as 6 = .ok (.iload_n 1, 1) := by decide +kernel
theorem dX6_as_7 : decode cX6_as 7 = .ok (.invokevirtual 78, 3) := by decide +kernel
theorem dX6_as_10 : decode cX6_as 10 = .ok (.ifCond .ne 5, 3) := by decide +kernel
theorem dX6_as_13 : decode cX6_as 13 = .ok (.iconst (-1), 1) := by decide +kernel
theorem dX6_as_14 : decode cX6_as 14 = .ok (.ireturn, 1) := by decide +kernel
theorem dX6_as_15 : decode cX6_as 15 = .ok (.iload_n 2, 1) := by decide +kernel
theorem dX6_as_16 : decode cX6_as 16 = .ok (.iconst 0, 1) := by decide +kernel
theorem dX6_as_17 : decode cX6_as 17 = .ok (.iconst 2, 1) := by decide +kernel
theorem dX6_as_18 : decode cX6_as 18 = .ok (.invokestatic 71, 3) := by decide +kernel
theorem dX6_as_21 : decode cX6_as 21 = .ok (.ifCond .ne 6, 3) := by decide +kernel
theorem dX6_as_24 : decode cX6_as 24 = .ok (.bipush (-2), 2) := by decide +kernel
theorem dX6_as_26 : decode cX6_as 26 = .ok (.ireturn, 1) := by decide +kernel
theorem dX6_as_27 : decode cX6_as 27 = .ok (.aload_n 0, 1) := by decide +kernel
theorem dX6_as_28 : decode cX6_as 28 = .ok (.getfield 19, 3) := by decide +kernel
theorem dX6_as_31 : decode cX6_as 31 = .ok (.iload_n 1, 1) := by decide +kernel
theorem dX6_as_32 : decode cX6_as 32 = .ok (.iaload, 1) := by decide +kernel
theorem dX6_as_33 : decode cX6_as 33 = .ok (.iload_n 2, 1) := by decide +kernel
theorem dX6_as_34 : decode cX6_as 34 = .ok (.if_icmp .lt 7, 3) := by decide +kernel
theorem dX6_as_37 : decode cX6_as 37 = .ok (.iconst 1, 1) := by decide +kernel
theorem dX6_as_38 : decode cX6_as 38 = .ok (.goto 8, 3) := by decide +kernel
theorem dX6_as_41 : decode cX6_as 41 = .ok (.aload_n 0, 1) := by decide +kernel
theorem dX6_as_42 : decode cX6_as 42 = .ok (.iconst 2, 1) := by decide +kernel
theorem dX6_as_43 : decode cX6_as 43 = .ok (.invokevirtual 95, 3) := by decide +kernel
theorem dX6_as_46 : decode cX6_as 46 = .ok (.ireturn, 1) := by decide +kernel
def f_X6_as (x1 : Int32) (x2 : Int32) (σ : St) : Option (Int32 × St) :=
  nm (wS σ 0 0 (0 : Int32)) fun σ_1 =>
  bd (f_X6_isDoll x1 σ_1) fun r_2 =>
  if r_2 = 0 then (some ((-1 : Int32), σ_1))
  else bd (f_X6_within x2 (0 : Int32) (2 : Int32)) fun r_5 =>
    if r_5 = 0 then (some ((-2 : Int32), σ_1))
    else gd (ck x1 4) <|
      if (σ_1.1 4 x1.toNatClampNeg) < x2 then (bd2 (f_X6_fails (2 : Int32) σ_1) fun r_10 σ_11 =>
        some (r_10, σ_11))
      else some ((1 : Int32), σ_1)
abbrev rmX6_as : Room := { frames := 1, cells := 0, slots := 0, locals := 22 }
set_option maxRecDepth 100000 in
set_option maxHeartbeats 4000000 in
theorem c_X6_as (l : Launch) (D : va_G) (a : Nat → Nat) (c : Nat → ClassId) (A : Nat → Prop) (hD : ∀ σ, va_D A (mW a c σ)) (x1 : Int32) (x2 : Int32) (σ : St) (r : Int32) (u : St) (hf : f_X6_as x1 x2 σ = some (r, u)) : MetI l yX6_as cX6_as 3 (some .int) rmX6_as (mW a c) D c A [.ref (a 0), .int x1, .int x2] σ r u := by
  refine mkI (by decide) (Nat.le_of_ble_eq_true rfl) rfl ?_
  intro p e s m args below meth cd Q ls h0 hK hP hret hl
  obtain ⟨S, hr, hlk⟩ := h0
  obtain ⟨hx, hb, hml, hown, ht⟩ := id S
  have hS : va_S A s.heap s.heap [] := va_S.rf
  have hl : lv_has ls 3 [(0, .ref (a 0)), (1, .int x1), (2, .int x2)] := hl
  have hf := obs hf
  have hf := oun (f_X6_as.eq_1 _ _ _) hf
  refine lv_aload_n hx hb dX6_as_0 rfl (lv_at hl 0 rfl) ?_
  refine lv_iconst (v := (0 : Int32)) hx hb dX6_as_1 (by decide) ?_
  refine va_put (D := D) (ci := 4) (v := .int (0 : Int32)) (ty := .int) (C := RX6) (T := TX6) (N := 27) hx hb ht gX6 tyX6 tyX6_ok nmX6 hown hK.1 hP (hD σ) hS 0 (mw0 a c σ) rfl 0 (by decide) (ht _ q136) (fun _ h9 => h9) rfl (by decide +kernel) rfl rfl (Nat.le_of_ble_eq_true rfl) dX6_as_2 (fun H locs hP _ hS => ?_)
  have hP := vP_eq (mpX6_fault a c σ (0 : Int32)) hP
  obtain ⟨σ_1, eσ_1, hf⟩ := onm hf
  rw [eσ_1] at hP
  refine lv_aload_n hx hb dX6_as_5 rfl (lv_at hl 0 rfl) ?_
  refine lv_iload_n hx hb dX6_as_6 rfl (lv_at hl 1 rfl) ?_
  obtain ⟨r_2, h_3, hf⟩ := obd hf
  refine xv_I (As := [.int x1]) (rest := []) S k_X6_isDoll q226 q227 q228 ⟨Nat.le_of_ble_eq_true rfl, Nat.le_of_ble_eq_true rfl⟩ ⟨rfl, rfl⟩ (c_X6_isDoll l D a c A hD x1 σ_1 r_2 h_3) hK hP hS (va_recv hK.1 hP (rfl : vwCl[4]? = some (RX6, TX6, 27)) (mw0 a c σ_1)) rfl hl.1 rfl (Nat.le_of_ble_eq_true rfl) dX6_as_7 ⟨Nat.zero_le _, Nat.zero_le _⟩ (fun H locs hP hS => ?_)
  refine lv_if_ne (tgt := 15) hx hb dX6_as_10 (by decide) (fun c_4 => ?_) (fun c_4 => ?_)
  · have hf := oif c_4 hf
    refine lv_iload_n hx hb dX6_as_15 rfl (lv_at hl 2 rfl) ?_
    refine lv_iconst (v := (0 : Int32)) hx hb dX6_as_16 (by decide) ?_
    refine lv_iconst (v := (2 : Int32)) hx hb dX6_as_17 (by decide) ?_
    obtain ⟨r_5, h_6, hf⟩ := obd hf
    refine xs_S (As := [.int x2, .int (0 : Int32), .int (2 : Int32)]) (rest := []) S k_X6_within q146 q147 ⟨Nat.le_of_ble_eq_true rfl, Nat.le_of_ble_eq_true rfl⟩ ⟨rfl, rfl⟩ (c_X6_within l x2 (0 : Int32) (2 : Int32) r_5 h_6) hK.2 rfl hl.1 rfl (Nat.le_of_ble_eq_true rfl) dX6_as_18 ⟨Nat.zero_le _, Nat.zero_le _⟩ ?_
    refine lv_if_ne (tgt := 27) hx hb dX6_as_21 (by decide) (fun c_7 => ?_) (fun c_7 => ?_)
    · have hf := oif c_7 hf
      refine lv_aload_n hx hb dX6_as_27 rfl (lv_at hl 0 rfl) ?_
      refine va_get (D := D) (ci := 4) (v := .ref (a 4)) (C := RX6) (T := TX6) (N := 27) hx hb ht gX6 hown hK.1 hP 0 (mw0 a c σ_1) rfl 7 (by decide) (ht _ q53) (fun _ h9 => h9) rfl dX6_as_28 ?_
      refine lv_iload_n hx hb dX6_as_31 rfl (lv_at hl 1 rfl) ?_
      obtain ⟨g_8, hf⟩ := ogd hf
      refine va_iald hx hb hK.1 hP 4 0 (mw4 a c σ_1) rfl (ck_in g_8) dX6_as_32 ?_
      refine lv_iload_n hx hb dX6_as_33 rfl (lv_at hl 2 rfl) ?_
      refine lv_icmp_lt (tgt := 41) hx hb dX6_as_34 (by decide) (fun c_9 => ?_) (fun c_9 => ?_)
      · have hf := oit c_9 hf
        refine lv_aload_n hx hb dX6_as_41 rfl (lv_at hl 0 rfl) ?_
        refine lv_iconst (v := (2 : Int32)) hx hb dX6_as_42 (by decide) ?_
        obtain ⟨r_10, σ_11, h_12, hf⟩ := obd2 hf
        refine xv_I (As := [.int (2 : Int32)]) (rest := []) S k_X6_fails q156 q157 q158 ⟨Nat.le_of_ble_eq_true rfl, Nat.le_of_ble_eq_true rfl⟩ ⟨rfl, rfl⟩ (c_X6_fails l D a c A hD (2 : Int32) σ_1 r_10 σ_11 h_12) hK hP hS (va_recv hK.1 hP (rfl : vwCl[4]? = some (RX6, TX6, 27)) (mw0 a c σ_1)) rfl hl.1 rfl (Nat.le_of_ble_eq_true rfl) dX6_as_43 ⟨Nat.zero_le _, Nat.zero_le _⟩ (fun H locs hP hS => ?_)
        exact hret _ _ _ _ _ _ dX6_as_46 rfl hP hS (oret hf)
      have hf := oif c_9 hf
      refine lv_iconst (v := (1 : Int32)) hx hb dX6_as_37 (by decide) ?_
      refine lv_goto (tgt := 46) hx hb dX6_as_38 (by decide) ?_
      exact hret _ _ _ _ _ _ dX6_as_46 rfl hP hS (oret hf)
    have hf := oit c_7 hf
    refine lv_bipush (v := (-2 : Int32)) hx hb dX6_as_24 (by decide) ?_
    exact hret _ _ _ _ _ _ dX6_as_26 rfl hP hS (oret hf)
  have hf := oit c_4 hf
  refine lv_iconst (v := (-1 : Int32)) hx hb dX6_as_13 (by decide) ?_
  exact hret _ _ _ _ _ _ dX6_as_14 rfl hP hS (oret hf)
theorem dX6_trace_0 : decode cX6_trace 0 = .ok (.aload_n 0, 1) := by decide +kernel
theorem dX6_trace_1 : decode cX6_trace 1 = .ok (.getfield 200, 3) := by decide +kernel
theorem dX6_trace_4 : decode cX6_trace 4 = .ok (.ireturn, 1) := by decide +kernel
def f_X6_trace (σ : St) : Option Int32 :=
  some (σ.1 0 1)
abbrev rmX6_trace : Room := { frames := 0, cells := 0, slots := 0, locals := 0 }
set_option maxRecDepth 100000 in
set_option maxHeartbeats 4000000 in
theorem c_X6_trace (l : Launch) (D : va_G) (a : Nat → Nat) (c : Nat → ClassId) (A : Nat → Prop) (hD : ∀ σ, va_D A (mW a c σ)) (σ : St) (r : Int32) (hf : f_X6_trace σ = some r) : MetI l yX6_trace cX6_trace 1 (some .int) rmX6_trace (mW a c) D c A [.ref (a 0)] σ r σ := by
  refine mkI (by decide) (Nat.le_of_ble_eq_true rfl) rfl ?_
  intro p e s m args below meth cd Q ls h0 hK hP hret hl
  obtain ⟨S, hr, hlk⟩ := h0
  obtain ⟨hx, hb, hml, hown, ht⟩ := id S
  have hS : va_S A s.heap s.heap [] := va_S.rf
  have hl : lv_has ls 1 [(0, .ref (a 0))] := hl
  have hf := obs hf
  have hf := oun (f_X6_trace.eq_1 _) hf
  refine lv_aload_n hx hb dX6_trace_0 rfl (lv_at hl 0 rfl) ?_
  refine va_get (D := D) (ci := 4) (v := .int (σ.1 0 1)) (C := RX6) (T := TX6) (N := 27) hx hb ht gX6 hown hK.1 hP 0 (mw0 a c σ) rfl 1 (by decide) (ht _ q716) (fun _ h9 => h9) rfl dX6_trace_1 ?_
  exact hret _ _ _ _ _ _ dX6_trace_4 rfl hP hS ⟨Option.some.inj hf, rfl⟩
theorem dX6_fault_0 : decode cX6_fault 0 = .ok (.aload_n 0, 1) := by decide +kernel
theorem dX6_fault_1 : decode cX6_fault 1 = .ok (.getfield 65, 3) := by decide +kernel
theorem dX6_fault_4 : decode cX6_fault 4 = .ok (.ireturn, 1) := by decide +kernel
def f_X6_fault (σ : St) : Option Int32 :=
  some (σ.1 0 0)
abbrev rmX6_fault : Room := { frames := 0, cells := 0, slots := 0, locals := 0 }
set_option maxRecDepth 100000 in
set_option maxHeartbeats 4000000 in
theorem c_X6_fault (l : Launch) (D : va_G) (a : Nat → Nat) (c : Nat → ClassId) (A : Nat → Prop) (hD : ∀ σ, va_D A (mW a c σ)) (σ : St) (r : Int32) (hf : f_X6_fault σ = some r) : MetI l yX6_fault cX6_fault 1 (some .int) rmX6_fault (mW a c) D c A [.ref (a 0)] σ r σ := by
  refine mkI (by decide) (Nat.le_of_ble_eq_true rfl) rfl ?_
  intro p e s m args below meth cd Q ls h0 hK hP hret hl
  obtain ⟨S, hr, hlk⟩ := h0
  obtain ⟨hx, hb, hml, hown, ht⟩ := id S
  have hS : va_S A s.heap s.heap [] := va_S.rf
  have hl : lv_has ls 1 [(0, .ref (a 0))] := hl
  have hf := obs hf
  have hf := oun (f_X6_fault.eq_1 _) hf
  refine lv_aload_n hx hb dX6_fault_0 rfl (lv_at hl 0 rfl) ?_
  refine va_get (D := D) (ci := 4) (v := .int (σ.1 0 0)) (C := RX6) (T := TX6) (N := 27) hx hb ht gX6 hown hK.1 hP 0 (mw0 a c σ) rfl 0 (by decide) (ht _ q136) (fun _ h9 => h9) rfl dX6_fault_1 ?_
  exact hret _ _ _ _ _ _ dX6_fault_4 rfl hP hS ⟨Option.some.inj hf, rfl⟩
theorem dX6_many_0 : decode cX6_many 0 = .ok (.iconst 0, 1) := by decide +kernel
theorem dX6_many_1 : decode cX6_many 1 = .ok (.istore_n 2, 1) := by decide +kernel
theorem dX6_many_2 : decode cX6_many 2 = .ok (.iload_n 1, 1) := by decide +kernel
theorem dX6_many_3 : decode cX6_many 3 = .ok (.tableswitch 82 0 4 #[33, 38, 43, 72, 77], 33) := by decide +kernel
theorem dX6_many_36 : decode cX6_many 36 = .ok (.aload_n 0, 1) := by decide +kernel
theorem dX6_many_37 : decode cX6_many 37 = .ok (.getfield 75, 3) := by decide +kernel
theorem dX6_many_40 : decode cX6_many 40 = .ok (.ireturn, 1) := by decide +kernel
theorem dX6_many_41 : decode cX6_many 41 = .ok (.aload_n 0, 1) := by decide +kernel
theorem dX6_many_42 : decode cX6_many 42 = .ok (.invokevirtual 153, 3) := by decide +kernel
theorem dX6_many_45 : decode cX6_many 45 = .ok (.ireturn, 1) := by decide +kernel
theorem dX6_many_46 : decode cX6_many 46 = .ok (.iconst 0, 1) := by decide +kernel
theorem dX6_many_47 : decode cX6_many 47 = .ok (.istore_n 3, 1) := by decide +kernel
theorem dX6_many_48 : decode cX6_many 48 = .ok (.iload_n 3, 1) := by decide +kernel
theorem dX6_many_49 : decode cX6_many 49 = .ok (.aload_n 0, 1) := by decide +kernel
theorem dX6_many_50 : decode cX6_many 50 = .ok (.getfield 75, 3) := by decide +kernel
theorem dX6_many_53 : decode cX6_many 53 = .ok (.if_icmp .ge 20, 3) := by decide +kernel
theorem dX6_many_56 : decode cX6_many 56 = .ok (.iload_n 2, 1) := by decide +kernel
theorem dX6_many_57 : decode cX6_many 57 = .ok (.aload_n 0, 1) := by decide +kernel
theorem dX6_many_58 : decode cX6_many 58 = .ok (.getfield 105, 3) := by decide +kernel
theorem dX6_many_61 : decode cX6_many 61 = .ok (.iload_n 3, 1) := by decide +kernel
theorem dX6_many_62 : decode cX6_many 62 = .ok (.ishr, 1) := by decide +kernel
theorem dX6_many_63 : decode cX6_many 63 = .ok (.iconst 1, 1) := by decide +kernel
theorem dX6_many_64 : decode cX6_many 64 = .ok (.iand, 1) := by decide +kernel
theorem dX6_many_65 : decode cX6_many 65 = .ok (.iadd, 1) := by decide +kernel
theorem dX6_many_66 : decode cX6_many 66 = .ok (.istore_n 2, 1) := by decide +kernel
theorem dX6_many_67 : decode cX6_many 67 = .ok (.iinc 3 1, 3) := by decide +kernel
theorem dX6_many_70 : decode cX6_many 70 = .ok (.goto (-22), 3) := by decide +kernel
theorem dX6_many_73 : decode cX6_many 73 = .ok (.iload_n 2, 1) := by decide +kernel
theorem dX6_many_74 : decode cX6_many 74 = .ok (.ireturn, 1) := by decide +kernel
theorem dX6_many_75 : decode cX6_many 75 = .ok (.aload_n 0, 1) := by decide +kernel
theorem dX6_many_76 : decode cX6_many 76 = .ok (.getfield 108, 3) := by decide +kernel
theorem dX6_many_79 : decode cX6_many 79 = .ok (.ireturn, 1) := by decide +kernel
theorem dX6_many_80 : decode cX6_many 80 = .ok (.aload_n 0, 1) := by decide +kernel
theorem dX6_many_81 : decode cX6_many 81 = .ok (.getfield 111, 3) := by decide +kernel
theorem dX6_many_84 : decode cX6_many 84 = .ok (.ireturn, 1) := by decide +kernel
theorem dX6_many_85 : decode cX6_many 85 = .ok (.bipush (-2), 2) := by decide +kernel
theorem dX6_many_87 : decode cX6_many 87 = .ok (.ireturn, 1) := by decide +kernel
def f_X6_many_j73 (N : Nat) (x2 : Int32) (σ : St) : Option Int32 :=
  some x2
def f_X6_many_b48 (N : Nat) (x2 : Int32) (x3 : Int32) (σ : St) : Option ((Int32 × Int32) ⊕ ((Int32))) :=
  if (σ.1 0 2) ≤ x3 then (some (.inr x2))
  else nm (x2 + (((σ.1 0 4) >>> (x3 &&& 31)) &&& (1 : Int32))) fun x2_2 =>
  nm (x3 + (1 : Int32)) fun x3_3 =>
  some (.inl (x2_2, x3_3))
def f_X6_many (N : Nat) (x1 : Int32) (σ : St) : Option Int32 :=
  if x1 = (0 : Int32) then (some (σ.1 0 2))
  else if x1 = (1 : Int32) then (bd (f_X6_onTable N σ) fun r_6 =>
    some r_6)
  else if x1 = (2 : Int32) then (bd (lpF (fun s => f_X6_many_b48 N s.1 s.2 σ) N ((0 : Int32), (0 : Int32))) (fun o => f_X6_many_j73 N o σ))
  else if x1 = (3 : Int32) then (some (σ.1 0 3))
  else if x1 = (4 : Int32) then (some (σ.1 0 8))
  else some (-2 : Int32)
abbrev rmX6_many : Room := { frames := 1, cells := 0, slots := 0, locals := 22 }
set_option maxRecDepth 100000 in
set_option maxHeartbeats 4000000 in
theorem c_X6_many (l : Launch) (D : va_G) (a : Nat → Nat) (c : Nat → ClassId) (A : Nat → Prop) (hD : ∀ σ, va_D A (mW a c σ)) (N : Nat) (x1 : Int32) (σ : St) (r : Int32) (hf : f_X6_many N x1 σ = some r) : MetI l yX6_many cX6_many 4 (some .int) rmX6_many (mW a c) D c A [.ref (a 0), .int x1] σ r σ := by
  refine mkI (by decide) (Nat.le_of_ble_eq_true rfl) rfl ?_
  intro p e s m args below meth cd Q ls h0 hK hP hret hl
  obtain ⟨S, hr, hlk⟩ := h0
  obtain ⟨hx, hb, hml, hown, ht⟩ := id S
  have hS : va_S A s.heap s.heap [] := va_S.rf
  have hl : lv_has ls 4 [(0, .ref (a 0)), (1, .int x1)] := hl
  have hf := obs hf
  have j73 : ∀ (x2 : Int32) (H : Heap) (locs : List Loc) (ls : Array Slot), lv_has ls 4 [(2, .int x2)] → va_P D vwCl (mW a c σ) H → va_S A s.heap H locs → Option.bind (f_X6_many_j73 N x2 σ) some = some r → W p l e rmX6_many s m args below meth cd H locs 0 0 Q (F0 m 73 ls []) := by
    intro x2 H locs ls hl hP hS hf
    have hf := oun (f_X6_many_j73.eq_1 _ _ _) hf
    refine lv_iload_n hx hb dX6_many_73 rfl (lv_at hl 0 rfl) ?_
    exact hret _ _ _ _ _ _ dX6_many_74 rfl hP hS ⟨Option.some.inj hf, rfl⟩
  have L48 : ∀ (k : Nat) (x2 : Int32) (x3 : Int32) (H : Heap) (locs : List Loc) (ls : Array Slot), lv_has ls 4 [(0, .ref (a 0)), (2, .int x2), (3, .int x3)] → va_P D vwCl (mW a c σ) H → va_S A s.heap H locs → Option.bind (bd (lpF (fun s => f_X6_many_b48 N s.1 s.2 σ) k (x2, x3)) (fun o => f_X6_many_j73 N o σ)) some = some r → W p l e rmX6_many s m args below meth cd H locs 0 0 Q (F0 m 48 ls []) := by
    intro k
    induction k with
    | zero =>
      intro x2 x3 H locs ls hl hP hS hf
      exact (ol0 hf).elim
    | succ k ih =>
      intro x2 x3 H locs ls hl hP hS hf
      obtain ⟨K48, hf, hc48, hx48⟩ := ol1 hf
      have hf := oun (f_X6_many_b48.eq_1 N x2 x3 σ) hf
      refine lv_iload_n hx hb dX6_many_48 rfl (lv_at hl 2 rfl) ?_
      refine lv_aload_n hx hb dX6_many_49 rfl (lv_at hl 0 rfl) ?_
      refine va_get (D := D) (ci := 4) (v := .int (σ.1 0 2)) (C := RX6) (T := TX6) (N := 27) hx hb ht gX6 hown hK.1 hP 0 (mw0 a c σ) rfl 5 (by decide) (ht _ q139) (fun _ h9 => h9) rfl dX6_many_50 ?_
      refine lv_icmp_ge (tgt := 73) hx hb dX6_many_53 (by decide) (fun c_1 => ?_) (fun c_1 => ?_)
      · have hf := oit c_1 hf
        exact j73 x2 _ _ _ (lv_sub hl [1] rfl) hP hS (okx hf (hx48 _))
      have hf := oif c_1 hf
      refine lv_iload_n hx hb dX6_many_56 rfl (lv_at hl 1 rfl) ?_
      refine lv_aload_n hx hb dX6_many_57 rfl (lv_at hl 0 rfl) ?_
      refine va_get (D := D) (ci := 4) (v := .int (σ.1 0 4)) (C := RX6) (T := TX6) (N := 27) hx hb ht gX6 hown hK.1 hP 0 (mw0 a c σ) rfl 11 (by decide) (ht _ q140) (fun _ h9 => h9) rfl dX6_many_58 ?_
      refine lv_iload_n hx hb dX6_many_61 rfl (lv_at hl 2 rfl) ?_
      refine lv_ishr hx hb dX6_many_62 ?_
      refine lv_iconst (v := (1 : Int32)) hx hb dX6_many_63 (by decide) ?_
      refine lv_iand hx hb dX6_many_64 ?_
      refine lv_iadd hx hb dX6_many_65 ?_
      obtain ⟨x2_2, ex2_2, hf⟩ := onm hf
      refine lv_nm ex2_2 ?_
      refine lv_istore_n (lv' := [(2, .int x2_2), (0, .ref (a 0)), (3, .int x3)]) hx hb dX6_many_66 rfl hl (by decide) rfl (fun ls hl => ?_)
      obtain ⟨x3_3, ex3_3, hf⟩ := onm hf
      refine lv_iinc (v := x3_3) (lv' := [(3, .int x3_3), (2, .int x2_2), (0, .ref (a 0))]) hx hb dX6_many_67 hl (k := 2) rfl ex3_3 (by decide) rfl (fun ls hl => ?_)
      refine lv_goto (tgt := 48) hx hb dX6_many_70 (by decide) ?_
      exact ih x2_2 x3_3 _ _ _ (lv_sub hl [2, 1, 0] rfl) hP hS (okx hf (hc48 _))
  have hf := oun (f_X6_many.eq_1 _ _ _) hf
  refine lv_iconst (v := (0 : Int32)) hx hb dX6_many_0 (by decide) ?_
  refine lv_istore_n (lv' := [(2, .int (0 : Int32)), (0, .ref (a 0)), (1, .int x1)]) hx hb dX6_many_1 rfl hl (by decide) rfl (fun ls hl => ?_)
  refine lv_iload_n hx hb dX6_many_2 rfl (lv_at hl 2 rfl) ?_
  by_cases c_4 : x1 = (0 : Int32)
  · have hf := oit c_4 hf
    refine lv_tableIn (tgt := 36) (off := 33) hx hb dX6_many_3 (by rw [c_4]; decide) (by rw [c_4]; decide) (by rw [c_4]; decide) (by decide) ?_
    refine lv_aload_n hx hb dX6_many_36 rfl (lv_at hl 1 rfl) ?_
    refine va_get (D := D) (ci := 4) (v := .int (σ.1 0 2)) (C := RX6) (T := TX6) (N := 27) hx hb ht gX6 hown hK.1 hP 0 (mw0 a c σ) rfl 5 (by decide) (ht _ q139) (fun _ h9 => h9) rfl dX6_many_37 ?_
    exact hret _ _ _ _ _ _ dX6_many_40 rfl hP hS ⟨Option.some.inj hf, rfl⟩
  have hf := oif c_4 hf
  by_cases c_5 : x1 = (1 : Int32)
  · have hf := oit c_5 hf
    refine lv_tableIn (tgt := 41) (off := 38) hx hb dX6_many_3 (by rw [c_5]; decide) (by rw [c_5]; decide) (by rw [c_5]; decide) (by decide) ?_
    refine lv_aload_n hx hb dX6_many_41 rfl (lv_at hl 1 rfl) ?_
    obtain ⟨r_6, h_7, hf⟩ := obd hf
    refine xv_I (As := []) (rest := []) S k_X6_onTable q346 q347 q348 ⟨Nat.le_of_ble_eq_true rfl, Nat.le_of_ble_eq_true rfl⟩ ⟨rfl, rfl⟩ (c_X6_onTable l D a c A hD N σ r_6 h_7) hK hP hS (va_recv hK.1 hP (rfl : vwCl[4]? = some (RX6, TX6, 27)) (mw0 a c σ)) rfl hl.1 rfl (Nat.le_of_ble_eq_true rfl) dX6_many_42 ⟨Nat.zero_le _, Nat.zero_le _⟩ (fun H locs hP hS => ?_)
    exact hret _ _ _ _ _ _ dX6_many_45 rfl hP hS ⟨Option.some.inj hf, rfl⟩
  have hf := oif c_5 hf
  by_cases c_8 : x1 = (2 : Int32)
  · have hf := oit c_8 hf
    refine lv_tableIn (tgt := 46) (off := 43) hx hb dX6_many_3 (by rw [c_8]; decide) (by rw [c_8]; decide) (by rw [c_8]; decide) (by decide) ?_
    refine lv_iconst (v := (0 : Int32)) hx hb dX6_many_46 (by decide) ?_
    refine lv_istore_n (lv' := [(3, .int (0 : Int32)), (2, .int (0 : Int32)), (0, .ref (a 0)), (1, .int x1)]) hx hb dX6_many_47 rfl hl (by decide) rfl (fun ls hl => ?_)
    exact L48 N (0 : Int32) (0 : Int32) _ _ _ (lv_sub hl [2, 1, 0] rfl) hP hS hf
  have hf := oif c_8 hf
  by_cases c_9 : x1 = (3 : Int32)
  · have hf := oit c_9 hf
    refine lv_tableIn (tgt := 75) (off := 72) hx hb dX6_many_3 (by rw [c_9]; decide) (by rw [c_9]; decide) (by rw [c_9]; decide) (by decide) ?_
    refine lv_aload_n hx hb dX6_many_75 rfl (lv_at hl 1 rfl) ?_
    refine va_get (D := D) (ci := 4) (v := .int (σ.1 0 3)) (C := RX6) (T := TX6) (N := 27) hx hb ht gX6 hown hK.1 hP 0 (mw0 a c σ) rfl 6 (by decide) (ht _ q141) (fun _ h9 => h9) rfl dX6_many_76 ?_
    exact hret _ _ _ _ _ _ dX6_many_79 rfl hP hS ⟨Option.some.inj hf, rfl⟩
  have hf := oif c_9 hf
  by_cases c_10 : x1 = (4 : Int32)
  · have hf := oit c_10 hf
    refine lv_tableIn (tgt := 80) (off := 77) hx hb dX6_many_3 (by rw [c_10]; decide) (by rw [c_10]; decide) (by rw [c_10]; decide) (by decide) ?_
    refine lv_aload_n hx hb dX6_many_80 rfl (lv_at hl 1 rfl) ?_
    refine va_get (D := D) (ci := 4) (v := .int (σ.1 0 8)) (C := RX6) (T := TX6) (N := 27) hx hb ht gX6 hown hK.1 hP 0 (mw0 a c σ) rfl 23 (by decide) (ht _ q142) (fun _ h9 => h9) rfl dX6_many_81 ?_
    exact hret _ _ _ _ _ _ dX6_many_84 rfl hP hS ⟨Option.some.inj hf, rfl⟩
  have hf := oif c_10 hf
  refine lv_tableOut (tgt := 85) hx hb dX6_many_3 (by have z0 := lv_neT c_4 (a := 0) rfl; have z1 := lv_neT c_5 (a := 1) rfl; have z2 := lv_neT c_8 (a := 2) rfl; have z3 := lv_neT c_9 (a := 3) rfl; have z4 := lv_neT c_10 (a := 4) rfl; omega) (by decide) ?_
  refine lv_bipush (v := (-2 : Int32)) hx hb dX6_many_85 (by decide) ?_
  exact hret _ _ _ _ _ _ dX6_many_87 rfl hP hS ⟨Option.some.inj hf, rfl⟩
