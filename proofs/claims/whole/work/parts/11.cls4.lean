theorem dX5_leave_0 : decode cX5_leave 0 = .ok (.aload_n 0, 1) := by decide +kernel
theorem dX5_leave_1 : decode cX5_leave 1 = .ok (.bipush 31, 2) := by decide +kernel
theorem dX5_leave_3 : decode cX5_leave 3 = .ok (.aload_n 0, 1) := by decide +kernel
theorem dX5_leave_4 : decode cX5_leave 4 = .ok (.getfield 289, 3) := by decide +kernel
theorem dX5_leave_7 : decode cX5_leave 7 = .ok (.imul, 1) := by decide +kernel
theorem dX5_leave_8 : decode cX5_leave 8 = .ok (.iload_n 1, 1) := by decide +kernel
theorem dX5_leave_9 : decode cX5_leave 9 = .ok (.iadd, 1) := by decide +kernel
theorem dX5_leave_10 : decode cX5_leave 10 = .ok (.putfield 289, 3) := by decide +kernel
theorem dX5_leave_13 : decode cX5_leave 13 = .ok (.return_, 1) := by decide +kernel
def f_X5_leave (x1 : Int32) (σ : St) : Option St :=
  nm (wS σ 0 4 (((31 : Int32) * (σ.1 0 4)) + x1)) fun σ_1 =>
  some σ_1
abbrev rmX5_leave : Room := { frames := 0, cells := 0, slots := 0, locals := 0 }
set_option maxRecDepth 100000 in
set_option maxHeartbeats 4000000 in
theorem c_X5_leave (l : Launch) (D : va_G) (a : Nat → Nat) (c : Nat → ClassId) (A : Nat → Prop) (hD : ∀ σ, va_D A (cW a c σ)) (x1 : Int32) (σ : St) (u : St) (hf : f_X5_leave x1 σ = some u) : MetV l yX5_leave cX5_leave 2 (none) rmX5_leave (cW a c) D c A [.ref (a 0), .int x1] σ u := by
  refine mkV (by decide) (Nat.le_of_ble_eq_true rfl) rfl ?_
  intro p e s m args below meth cd Q ls h0 hK hP hret hl
  obtain ⟨S, hr, hlk⟩ := h0
  obtain ⟨hx, hb, hml, hown, ht⟩ := id S
  have hS : va_S A s.heap s.heap [] := va_S.rf
  have hl : lv_has ls 2 [(0, .ref (a 0)), (1, .int x1)] := hl
  have hf := obs hf
  have hf := oun (f_X5_leave.eq_1 _ _) hf
  refine lv_aload_n hx hb dX5_leave_0 rfl (lv_at hl 0 rfl) ?_
  refine lv_bipush (v := (31 : Int32)) hx hb dX5_leave_1 (by decide) ?_
  refine lv_aload_n hx hb dX5_leave_3 rfl (lv_at hl 0 rfl) ?_
  refine va_get (D := D) (ci := 3) (v := .int (σ.1 0 4)) (C := RX5) (T := TX5) (N := 12) hx hb ht gX5 hown hK.1 hP 0 (cw0 a c σ) rfl 10 (by decide) (ht _ q699) (fun _ h9 => h9) rfl dX5_leave_4 ?_
  refine lv_imul hx hb dX5_leave_7 ?_
  refine lv_iload_n hx hb dX5_leave_8 rfl (lv_at hl 1 rfl) ?_
  refine lv_iadd hx hb dX5_leave_9 ?_
  refine va_put (D := D) (ci := 3) (v := .int (((31 : Int32) * (σ.1 0 4)) + x1)) (ty := .int) (C := RX5) (T := TX5) (N := 12) hx hb ht gX5 tyX5 tyX5_ok nmX5 hown hK.1 hP (hD σ) hS 0 (cw0 a c σ) rfl 10 (by decide) (ht _ q699) (fun _ h9 => h9) rfl (by decide +kernel) rfl rfl (Nat.le_of_ble_eq_true rfl) dX5_leave_10 (fun H locs hP _ hS => ?_)
  have hP := vP_eq (cpX5_traced a c σ (((31 : Int32) * (σ.1 0 4)) + x1)) hP
  obtain ⟨σ_1, eσ_1, hf⟩ := onm hf
  rw [eσ_1] at hP
  exact hret _ _ _ _ _ dX5_leave_13 hP hS (Option.some.inj hf)
theorem dX5_tellPlain_0 : decode cX5_tellPlain 0 = .ok (.aload_n 0, 1) := by decide +kernel
theorem dX5_tellPlain_1 : decode cX5_tellPlain 1 = .ok (.iconst 1, 1) := by decide +kernel
theorem dX5_tellPlain_2 : decode cX5_tellPlain 2 = .ok (.invokevirtual 285, 3) := by decide +kernel
theorem dX5_tellPlain_5 : decode cX5_tellPlain 5 = .ok (.aload_n 1, 1) := by decide +kernel
theorem dX5_tellPlain_6 : decode cX5_tellPlain 6 = .ok (.getfield 99, 3) := by decide +kernel
theorem dX5_tellPlain_9 : decode cX5_tellPlain 9 = .ok (.ireturn, 1) := by decide +kernel
def f_X5_tellPlain (x1 : Nat) (σ : St) : Option (Int32 × St) :=
  bd (f_X5_leave (1 : Int32) σ) fun σ_1 =>
  some ((σ_1.1 2 x1), σ_1)
abbrev rmX5_tellPlain : Room := { frames := 1, cells := 0, slots := 0, locals := 21 }
set_option maxRecDepth 100000 in
set_option maxHeartbeats 4000000 in
theorem c_X5_tellPlain (l : Launch) (D : va_G) (a : Nat → Nat) (c : Nat → ClassId) (A : Nat → Prop) (hD : ∀ σ, va_D A (cW a c σ)) (x1 : Nat) (σ : St) (hx1 : x1 < 4) (r : Int32) (u : St) (hf : f_X5_tellPlain x1 σ = some (r, u)) : MetI l yX5_tellPlain cX5_tellPlain 2 (some .int) rmX5_tellPlain (cW a c) D c A [.ref (a 0), .ref (a (11 + x1))] σ r u := by
  refine mkI (by decide) (Nat.le_of_ble_eq_true rfl) rfl ?_
  intro p e s m args below meth cd Q ls h0 hK hP hret hl
  obtain ⟨S, hr, hlk⟩ := h0
  obtain ⟨hx, hb, hml, hown, ht⟩ := id S
  have hS : va_S A s.heap s.heap [] := va_S.rf
  have hl : lv_has ls 2 [(0, .ref (a 0)), (1, .ref (a (11 + x1)))] := hl
  have hf := obs hf
  have hf := oun (f_X5_tellPlain.eq_1 _ _) hf
  refine lv_aload_n hx hb dX5_tellPlain_0 rfl (lv_at hl 0 rfl) ?_
  refine lv_iconst (v := (1 : Int32)) hx hb dX5_tellPlain_1 (by decide) ?_
  obtain ⟨σ_1, h_2, hf⟩ := obd hf
  refine xv_V (As := [.int (1 : Int32)]) (rest := []) S k_X5_leave q695 q696 q697 ⟨Nat.le_of_ble_eq_true rfl, Nat.le_of_ble_eq_true rfl⟩ ⟨rfl, rfl⟩ (c_X5_leave l D a c A hD (1 : Int32) σ σ_1 h_2) hK hP hS (va_recv hK.1 hP (rfl : vwCl[3]? = some (RX5, TX5, 12)) (cw0 a c σ)) rfl hl.1 rfl (Nat.le_of_ble_eq_true rfl) dX5_tellPlain_2 ⟨Nat.zero_le _, Nat.zero_le _⟩ (fun H locs hP hS => ?_)
  refine lv_aload_n hx hb dX5_tellPlain_5 rfl (lv_at hl 1 rfl) ?_
  refine va_get (D := D) (ci := 0) (v := .int (σ_1.1 2 x1)) (C := RX0) (T := TX0) (N := 3) hx hb ht gX0 hown hK.1 hP (11 + x1) (cwX0 a c σ_1 x1 hx1) rfl 1 (by decide) (ht _ q181) (fun _ h9 => h9) rfl dX5_tellPlain_6 ?_
  exact hret _ _ _ _ _ _ dX5_tellPlain_9 rfl hP hS (oret hf)
theorem dX5_tellBrushed_0 : decode cX5_tellBrushed 0 = .ok (.aload_n 0, 1) := by decide +kernel
theorem dX5_tellBrushed_1 : decode cX5_tellBrushed 1 = .ok (.iconst 2, 1) := by decide +kernel
theorem dX5_tellBrushed_2 : decode cX5_tellBrushed 2 = .ok (.invokevirtual 285, 3) := by decide +kernel
theorem dX5_tellBrushed_5 : decode cX5_tellBrushed 5 = .ok (.aload_n 0, 1) := by decide +kernel
theorem dX5_tellBrushed_6 : decode cX5_tellBrushed 6 = .ok (.aload_n 1, 1) := by decide +kernel
theorem dX5_tellBrushed_7 : decode cX5_tellBrushed 7 = .ok (.invokevirtual 282, 3) := by decide +kernel
theorem dX5_tellBrushed_10 : decode cX5_tellBrushed 10 = .ok (.bipush 100, 2) := by decide +kernel
theorem dX5_tellBrushed_12 : decode cX5_tellBrushed 12 = .ok (.iadd, 1) := by decide +kernel
theorem dX5_tellBrushed_13 : decode cX5_tellBrushed 13 = .ok (.ireturn, 1) := by decide +kernel
def f_X5_tellBrushed (x1 : Nat) (σ : St) : Option (Int32 × St) :=
  bd (f_X5_leave (2 : Int32) σ) fun σ_1 =>
  bd2 (f_X5_tellPlain x1 σ_1) fun r_3 σ_4 =>
  some ((r_3 + (100 : Int32)), σ_4)
abbrev rmX5_tellBrushed : Room := { frames := 2, cells := 0, slots := 0, locals := 42 }
set_option maxRecDepth 100000 in
set_option maxHeartbeats 4000000 in
theorem c_X5_tellBrushed (l : Launch) (D : va_G) (a : Nat → Nat) (c : Nat → ClassId) (A : Nat → Prop) (hD : ∀ σ, va_D A (cW a c σ)) (x1 : Nat) (σ : St) (hx1 : x1 < 4) (r : Int32) (u : St) (hf : f_X5_tellBrushed x1 σ = some (r, u)) : MetI l yX5_tellBrushed cX5_tellBrushed 2 (some .int) rmX5_tellBrushed (cW a c) D c A [.ref (a 0), .ref (a (11 + x1))] σ r u := by
  refine mkI (by decide) (Nat.le_of_ble_eq_true rfl) rfl ?_
  intro p e s m args below meth cd Q ls h0 hK hP hret hl
  obtain ⟨S, hr, hlk⟩ := h0
  obtain ⟨hx, hb, hml, hown, ht⟩ := id S
  have hS : va_S A s.heap s.heap [] := va_S.rf
  have hl : lv_has ls 2 [(0, .ref (a 0)), (1, .ref (a (11 + x1)))] := hl
  have hf := obs hf
  have hf := oun (f_X5_tellBrushed.eq_1 _ _) hf
  refine lv_aload_n hx hb dX5_tellBrushed_0 rfl (lv_at hl 0 rfl) ?_
  refine lv_iconst (v := (2 : Int32)) hx hb dX5_tellBrushed_1 (by decide) ?_
  obtain ⟨σ_1, h_2, hf⟩ := obd hf
  refine xv_V (As := [.int (2 : Int32)]) (rest := []) S k_X5_leave q695 q696 q697 ⟨Nat.le_of_ble_eq_true rfl, Nat.le_of_ble_eq_true rfl⟩ ⟨rfl, rfl⟩ (c_X5_leave l D a c A hD (2 : Int32) σ σ_1 h_2) hK hP hS (va_recv hK.1 hP (rfl : vwCl[3]? = some (RX5, TX5, 12)) (cw0 a c σ)) rfl hl.1 rfl (Nat.le_of_ble_eq_true rfl) dX5_tellBrushed_2 ⟨Nat.zero_le _, Nat.zero_le _⟩ (fun H locs hP hS => ?_)
  refine lv_aload_n hx hb dX5_tellBrushed_5 rfl (lv_at hl 0 rfl) ?_
  refine lv_aload_n hx hb dX5_tellBrushed_6 rfl (lv_at hl 1 rfl) ?_
  obtain ⟨r_3, σ_4, h_5, hf⟩ := obd2 hf
  refine xv_I (As := [.ref (a (11 + x1))]) (rest := []) S k_X5_tellPlain q700 q701 q702 ⟨Nat.le_of_ble_eq_true rfl, Nat.le_of_ble_eq_true rfl⟩ ⟨rfl, rfl⟩ (c_X5_tellPlain l D a c A hD x1 σ_1 hx1 r_3 σ_4 h_5) hK hP hS (va_recv hK.1 hP (rfl : vwCl[3]? = some (RX5, TX5, 12)) (cw0 a c σ_1)) rfl hl.1 rfl (Nat.le_of_ble_eq_true rfl) dX5_tellBrushed_7 ⟨Nat.zero_le _, Nat.zero_le _⟩ (fun H locs hP hS => ?_)
  refine lv_bipush (v := (100 : Int32)) hx hb dX5_tellBrushed_10 (by decide) ?_
  refine lv_iadd hx hb dX5_tellBrushed_12 ?_
  exact hret _ _ _ _ _ _ dX5_tellBrushed_13 rfl hP hS (oret hf)
theorem dX5_tellSwollen_0 : decode cX5_tellSwollen 0 = .ok (.aload_n 0, 1) := by decide +kernel
theorem dX5_tellSwollen_1 : decode cX5_tellSwollen 1 = .ok (.iconst 3, 1) := by decide +kernel
theorem dX5_tellSwollen_2 : decode cX5_tellSwollen 2 = .ok (.invokevirtual 285, 3) := by decide +kernel
theorem dX5_tellSwollen_5 : decode cX5_tellSwollen 5 = .ok (.aload_n 0, 1) := by decide +kernel
theorem dX5_tellSwollen_6 : decode cX5_tellSwollen 6 = .ok (.aload_n 1, 1) := by decide +kernel
theorem dX5_tellSwollen_7 : decode cX5_tellSwollen 7 = .ok (.invokevirtual 275, 3) := by decide +kernel
theorem dX5_tellSwollen_10 : decode cX5_tellSwollen 10 = .ok (.istore_n 2, 1) := by decide +kernel
theorem dX5_tellSwollen_11 : decode cX5_tellSwollen 11 = .ok (.iload_n 2, 1) := by decide +kernel
theorem dX5_tellSwollen_12 : decode cX5_tellSwollen 12 = .ok (.aload_n 0, 1) := by decide +kernel
theorem dX5_tellSwollen_13 : decode cX5_tellSwollen 13 = .ok (.aload_n 1, 1) := by decide +kernel
theorem dX5_tellSwollen_14 : decode cX5_tellSwollen 14 = .ok (.invokevirtual 282, 3) := by decide +kernel
theorem dX5_tellSwollen_17 : decode cX5_tellSwollen 17 = .ok (.iadd, 1) := by decide +kernel
theorem dX5_tellSwollen_18 : decode cX5_tellSwollen 18 = .ok (.ireturn, 1) := by decide +kernel
def f_X5_tellSwollen (x1 : Nat) (σ : St) : Option (Int32 × St) :=
  bd (f_X5_leave (3 : Int32) σ) fun σ_1 =>
  bd2 (f_X5_tellBrushed x1 σ_1) fun r_3 σ_4 =>
  bd2 (f_X5_tellPlain x1 σ_4) fun r_6 σ_7 =>
  some ((r_3 + r_6), σ_7)
abbrev rmX5_tellSwollen : Room := { frames := 3, cells := 0, slots := 0, locals := 63 }
set_option maxRecDepth 100000 in
set_option maxHeartbeats 4000000 in
theorem c_X5_tellSwollen (l : Launch) (D : va_G) (a : Nat → Nat) (c : Nat → ClassId) (A : Nat → Prop) (hD : ∀ σ, va_D A (cW a c σ)) (x1 : Nat) (σ : St) (hx1 : x1 < 4) (r : Int32) (u : St) (hf : f_X5_tellSwollen x1 σ = some (r, u)) : MetI l yX5_tellSwollen cX5_tellSwollen 3 (some .int) rmX5_tellSwollen (cW a c) D c A [.ref (a 0), .ref (a (11 + x1))] σ r u := by
  refine mkI (by decide) (Nat.le_of_ble_eq_true rfl) rfl ?_
  intro p e s m args below meth cd Q ls h0 hK hP hret hl
  obtain ⟨S, hr, hlk⟩ := h0
  obtain ⟨hx, hb, hml, hown, ht⟩ := id S
  have hS : va_S A s.heap s.heap [] := va_S.rf
  have hl : lv_has ls 3 [(0, .ref (a 0)), (1, .ref (a (11 + x1)))] := hl
  have hf := obs hf
  have hf := oun (f_X5_tellSwollen.eq_1 _ _) hf
  refine lv_aload_n hx hb dX5_tellSwollen_0 rfl (lv_at hl 0 rfl) ?_
  refine lv_iconst (v := (3 : Int32)) hx hb dX5_tellSwollen_1 (by decide) ?_
  obtain ⟨σ_1, h_2, hf⟩ := obd hf
  refine xv_V (As := [.int (3 : Int32)]) (rest := []) S k_X5_leave q695 q696 q697 ⟨Nat.le_of_ble_eq_true rfl, Nat.le_of_ble_eq_true rfl⟩ ⟨rfl, rfl⟩ (c_X5_leave l D a c A hD (3 : Int32) σ σ_1 h_2) hK hP hS (va_recv hK.1 hP (rfl : vwCl[3]? = some (RX5, TX5, 12)) (cw0 a c σ)) rfl hl.1 rfl (Nat.le_of_ble_eq_true rfl) dX5_tellSwollen_2 ⟨Nat.zero_le _, Nat.zero_le _⟩ (fun H locs hP hS => ?_)
  refine lv_aload_n hx hb dX5_tellSwollen_5 rfl (lv_at hl 0 rfl) ?_
  refine lv_aload_n hx hb dX5_tellSwollen_6 rfl (lv_at hl 1 rfl) ?_
  obtain ⟨r_3, σ_4, h_5, hf⟩ := obd2 hf
  refine xv_I (As := [.ref (a (11 + x1))]) (rest := []) S k_X5_tellBrushed q691 q692 q693 ⟨Nat.le_of_ble_eq_true rfl, Nat.le_of_ble_eq_true rfl⟩ ⟨rfl, rfl⟩ (c_X5_tellBrushed l D a c A hD x1 σ_1 hx1 r_3 σ_4 h_5) hK hP hS (va_recv hK.1 hP (rfl : vwCl[3]? = some (RX5, TX5, 12)) (cw0 a c σ_1)) rfl hl.1 rfl (Nat.le_of_ble_eq_true rfl) dX5_tellSwollen_7 ⟨Nat.zero_le _, Nat.zero_le _⟩ (fun H locs hP hS => ?_)
  refine lv_istore_n (lv' := [(2, .int r_3), (0, .ref (a 0)), (1, .ref (a (11 + x1)))]) hx hb dX5_tellSwollen_10 rfl hl (by decide) rfl (fun ls hl => ?_)
  refine lv_iload_n hx hb dX5_tellSwollen_11 rfl (lv_at hl 0 rfl) ?_
  refine lv_aload_n hx hb dX5_tellSwollen_12 rfl (lv_at hl 1 rfl) ?_
  refine lv_aload_n hx hb dX5_tellSwollen_13 rfl (lv_at hl 2 rfl) ?_
  obtain ⟨r_6, σ_7, h_8, hf⟩ := obd2 hf
  refine xv_I (As := [.ref (a (11 + x1))]) (rest := [.int r_3]) S k_X5_tellPlain q700 q701 q702 ⟨Nat.le_of_ble_eq_true rfl, Nat.le_of_ble_eq_true rfl⟩ ⟨rfl, rfl⟩ (c_X5_tellPlain l D a c A hD x1 σ_4 hx1 r_6 σ_7 h_8) hK hP hS (va_recv hK.1 hP (rfl : vwCl[3]? = some (RX5, TX5, 12)) (cw0 a c σ_4)) rfl hl.1 rfl (Nat.le_of_ble_eq_true rfl) dX5_tellSwollen_14 ⟨Nat.zero_le _, Nat.zero_le _⟩ (fun H locs hP hS => ?_)
  refine lv_iadd hx hb dX5_tellSwollen_17 ?_
  exact hret _ _ _ _ _ _ dX5_tellSwollen_18 rfl hP hS (oret hf)
theorem dX5_tell_0 : decode cX5_tell 0 = .ok (.aload_n 0, 1) := by decide +kernel
theorem dX5_tell_1 : decode cX5_tell 1 = .ok (.iload_n 1, 1) := by decide +kernel
theorem dX5_tell_2 : decode cX5_tell 2 = .ok (.invokevirtual 93, 3) := by decide +kernel
theorem dX5_tell_5 : decode cX5_tell 5 = .ok (.ifCond .ne 5, 3) := by decide +kernel
theorem dX5_tell_8 : decode cX5_tell 8 = .ok (.iconst (-1), 1) := by decide +kernel
theorem dX5_tell_9 : decode cX5_tell 9 = .ok (.ireturn, 1) := by decide +kernel
theorem dX5_tell_10 : decode cX5_tell 10 = .ok (.aload_n 0, 1) := by decide +kernel
theorem dX5_tell_11 : decode cX5_tell 11 = .ok (.getfield 13, 3) := by decide +kernel
theorem dX5_tell_14 : decode cX5_tell 14 = .ok (.iload_n 1, 1) := by decide +kernel
theorem dX5_tell_15 : decode cX5_tell 15 = .ok (.aaload, 1) := by decide +kernel
theorem dX5_tell_16 : decode cX5_tell 16 = .ok (.getfield 96, 3) := by decide +kernel
theorem dX5_tell_19 : decode cX5_tell 19 = .ok (.lookupswitch 47 #[(1, 25), (2, 36)], 25) := by decide +kernel
theorem dX5_tell_44 : decode cX5_tell 44 = .ok (.aload_n 0, 1) := by decide +kernel
theorem dX5_tell_45 : decode cX5_tell 45 = .ok (.aload_n 0, 1) := by decide +kernel
theorem dX5_tell_46 : decode cX5_tell 46 = .ok (.getfield 13, 3) := by decide +kernel
theorem dX5_tell_49 : decode cX5_tell 49 = .ok (.iload_n 1, 1) := by decide +kernel
theorem dX5_tell_50 : decode cX5_tell 50 = .ok (.aaload, 1) := by decide +kernel
theorem dX5_tell_51 : decode cX5_tell 51 = .ok (.invokevirtual 275, 3) := by decide +kernel
theorem dX5_tell_54 : decode cX5_tell 54 = .ok (.ireturn, 1) := by decide +kernel
theorem dX5_tell_55 : decode cX5_tell 55 = .ok (.aload_n 0, 1) := by decide +kernel
theorem dX5_tell_56 : decode cX5_tell 56 = .ok (.aload_n 0, 1) := by decide +kernel
theorem dX5_tell_57 : decode cX5_tell 57 = .ok (.getfield 13, 3) := by decide +kernel
theorem dX5_tell_60 : decode cX5_tell 60 = .ok (.iload_n 1, 1) := by decide +kernel
theorem dX5_tell_61 : decode cX5_tell 61 = .ok (.aaload, 1) := by decide +kernel
theorem dX5_tell_62 : decode cX5_tell 62 = .ok (.invokevirtual 279, 3) := by decide +kernel
theorem dX5_tell_65 : decode cX5_tell 65 = .ok (.ireturn, 1) := by decide +kernel
theorem dX5_tell_66 : decode cX5_tell 66 = .ok (.aload_n 0, 1) := by decide +kernel
theorem dX5_tell_67 : decode cX5_tell 67 = .ok (.aload_n 0, 1) := by decide +kernel
theorem dX5_tell_68 : decode cX5_tell 68 = .ok (.getfield 13, 3) := by decide +kernel
theorem dX5_tell_71 : decode cX5_tell 71 = .ok (.iload_n 1, 1) := by decide +kernel
theorem dX5_tell_72 : decode cX5_tell 72 = .ok (.aaload, 1) := by decide +kernel
theorem dX5_tell_73 : decode cX5_tell 73 = .ok (.invokevirtual 282, 3) := by decide +kernel
theorem dX5_tell_76 : decode cX5_tell 76 = .ok (.ireturn, 1) := by decide +kernel
def f_X5_tell (x1 : Int32) (σ : St) : Option (Int32 × St) :=
  bd (f_X5_isDoll x1 σ) fun r_1 =>
  if r_1 = 0 then (some ((-1 : Int32), σ))
  else gd (ck x1 4) <|
    nm (σ.1 1 (Int32.toNatClampNeg x1)) fun w_5 =>
    if w_5 = (1 : Int32) then (gd (ck x1 4) <|
      bd2 (f_X5_tellBrushed (Int32.toNatClampNeg x1) σ) fun r_8 σ_9 =>
      some (r_8, σ_9))
    else if w_5 = (2 : Int32) then (gd (ck x1 4) <|
      bd2 (f_X5_tellSwollen (Int32.toNatClampNeg x1) σ) fun r_13 σ_14 =>
      some (r_13, σ_14))
    else gd (ck x1 4) <|
    bd2 (f_X5_tellPlain (Int32.toNatClampNeg x1) σ) fun r_17 σ_18 =>
    some (r_17, σ_18)
abbrev rmX5_tell : Room := { frames := 4, cells := 0, slots := 0, locals := 85 }
set_option maxRecDepth 100000 in
set_option maxHeartbeats 4000000 in
theorem c_X5_tell (l : Launch) (D : va_G) (a : Nat → Nat) (c : Nat → ClassId) (A : Nat → Prop) (hD : ∀ σ, va_D A (cW a c σ)) (x1 : Int32) (σ : St) (r : Int32) (u : St) (hf : f_X5_tell x1 σ = some (r, u)) : MetI l yX5_tell cX5_tell 2 (some .int) rmX5_tell (cW a c) D c A [.ref (a 0), .int x1] σ r u := by
  refine mkI (by decide) (Nat.le_of_ble_eq_true rfl) rfl ?_
  intro p e s m args below meth cd Q ls h0 hK hP hret hl
  obtain ⟨S, hr, hlk⟩ := h0
  obtain ⟨hx, hb, hml, hown, ht⟩ := id S
  have hS : va_S A s.heap s.heap [] := va_S.rf
  have hl : lv_has ls 2 [(0, .ref (a 0)), (1, .int x1)] := hl
  have hf := obs hf
  have hf := oun (f_X5_tell.eq_1 _ _) hf
  refine lv_aload_n hx hb dX5_tell_0 rfl (lv_at hl 0 rfl) ?_
  refine lv_iload_n hx hb dX5_tell_1 rfl (lv_at hl 1 rfl) ?_
  obtain ⟨r_1, h_2, hf⟩ := obd hf
  refine xv_I (As := [.int x1]) (rest := []) S k_X5_isDoll q183 q184 q185 ⟨Nat.le_of_ble_eq_true rfl, Nat.le_of_ble_eq_true rfl⟩ ⟨rfl, rfl⟩ (c_X5_isDoll l D a c A hD x1 σ r_1 h_2) hK hP hS (va_recv hK.1 hP (rfl : vwCl[3]? = some (RX5, TX5, 12)) (cw0 a c σ)) rfl hl.1 rfl (Nat.le_of_ble_eq_true rfl) dX5_tell_2 ⟨Nat.zero_le _, Nat.zero_le _⟩ (fun H locs hP hS => ?_)
  refine lv_if_ne (tgt := 10) hx hb dX5_tell_5 (by decide) (fun c_3 => ?_) (fun c_3 => ?_)
  · have hf := oif c_3 hf
    refine lv_aload_n hx hb dX5_tell_10 rfl (lv_at hl 0 rfl) ?_
    refine va_get (D := D) (ci := 3) (v := .ref (a 1)) (C := RX5) (T := TX5) (N := 12) hx hb ht gX5 hown hK.1 hP 0 (cw0 a c σ) rfl 0 (by decide) (ht _ q13) (fun _ h9 => h9) rfl dX5_tell_11 ?_
    refine lv_iload_n hx hb dX5_tell_14 rfl (lv_at hl 1 rfl) ?_
    obtain ⟨g_4, hf⟩ := ogd hf
    refine va_aldq hx hb hK.1 hP 1 3 (cw1 a c σ) rfl (ck_in g_4) dX5_tell_15 ?_
    refine W.eq (g2 := F0 m 16 ls [.ref (a (11 + (Int32.toNatClampNeg x1)))]) rfl ?_
    refine va_get (D := D) (ci := 0) (v := .int (σ.1 1 (Int32.toNatClampNeg x1))) (C := RX0) (T := TX0) (N := 3) hx hb ht gX0 hown hK.1 hP (11 + (Int32.toNatClampNeg x1)) (cwX0 a c σ (Int32.toNatClampNeg x1) (ck_lt g_4)) rfl 0 (by decide) (ht _ q180) (fun _ h9 => h9) rfl dX5_tell_16 ?_
    obtain ⟨w_5, ew_5, hf⟩ := onm hf
    refine lv_nm ew_5 ?_
    by_cases c_6 : w_5 = (1 : Int32)
    · have hf := oit c_6 hf
      refine lv_lookup (tgt := 44) (off := 25) hx hb dX5_tell_19 (by decide) (by rw [c_6]; decide) (by decide) ?_
      refine lv_aload_n hx hb dX5_tell_44 rfl (lv_at hl 0 rfl) ?_
      refine lv_aload_n hx hb dX5_tell_45 rfl (lv_at hl 0 rfl) ?_
      refine va_get (D := D) (ci := 3) (v := .ref (a 1)) (C := RX5) (T := TX5) (N := 12) hx hb ht gX5 hown hK.1 hP 0 (cw0 a c σ) rfl 0 (by decide) (ht _ q13) (fun _ h9 => h9) rfl dX5_tell_46 ?_
      refine lv_iload_n hx hb dX5_tell_49 rfl (lv_at hl 1 rfl) ?_
      obtain ⟨g_7, hf⟩ := ogd hf
      refine va_aldq hx hb hK.1 hP 1 3 (cw1 a c σ) rfl (ck_in g_7) dX5_tell_50 ?_
      refine W.eq (g2 := F0 m 51 ls [.ref (a (11 + (Int32.toNatClampNeg x1))), .ref (a 0)]) rfl ?_
      obtain ⟨r_8, σ_9, h_10, hf⟩ := obd2 hf
      refine xv_I (As := [.ref (a (11 + (Int32.toNatClampNeg x1)))]) (rest := []) S k_X5_tellBrushed q691 q692 q693 ⟨Nat.le_of_ble_eq_true rfl, Nat.le_of_ble_eq_true rfl⟩ ⟨rfl, rfl⟩ (c_X5_tellBrushed l D a c A hD (Int32.toNatClampNeg x1) σ (ck_lt g_7) r_8 σ_9 h_10) hK hP hS (va_recv hK.1 hP (rfl : vwCl[3]? = some (RX5, TX5, 12)) (cw0 a c σ)) rfl hl.1 rfl (Nat.le_of_ble_eq_true rfl) dX5_tell_51 ⟨Nat.zero_le _, Nat.zero_le _⟩ (fun H locs hP hS => ?_)
      exact hret _ _ _ _ _ _ dX5_tell_54 rfl hP hS (oret hf)
    have hf := oif c_6 hf
    by_cases c_11 : w_5 = (2 : Int32)
    · have hf := oit c_11 hf
      refine lv_lookup (tgt := 55) (off := 36) hx hb dX5_tell_19 (by decide) (by rw [c_11]; decide) (by decide) ?_
      refine lv_aload_n hx hb dX5_tell_55 rfl (lv_at hl 0 rfl) ?_
      refine lv_aload_n hx hb dX5_tell_56 rfl (lv_at hl 0 rfl) ?_
      refine va_get (D := D) (ci := 3) (v := .ref (a 1)) (C := RX5) (T := TX5) (N := 12) hx hb ht gX5 hown hK.1 hP 0 (cw0 a c σ) rfl 0 (by decide) (ht _ q13) (fun _ h9 => h9) rfl dX5_tell_57 ?_
      refine lv_iload_n hx hb dX5_tell_60 rfl (lv_at hl 1 rfl) ?_
      obtain ⟨g_12, hf⟩ := ogd hf
      refine va_aldq hx hb hK.1 hP 1 3 (cw1 a c σ) rfl (ck_in g_12) dX5_tell_61 ?_
      refine W.eq (g2 := F0 m 62 ls [.ref (a (11 + (Int32.toNatClampNeg x1))), .ref (a 0)]) rfl ?_
      obtain ⟨r_13, σ_14, h_15, hf⟩ := obd2 hf
      refine xv_I (As := [.ref (a (11 + (Int32.toNatClampNeg x1)))]) (rest := []) S k_X5_tellSwollen q704 q705 q706 ⟨Nat.le_of_ble_eq_true rfl, Nat.le_of_ble_eq_true rfl⟩ ⟨rfl, rfl⟩ (c_X5_tellSwollen l D a c A hD (Int32.toNatClampNeg x1) σ (ck_lt g_12) r_13 σ_14 h_15) hK hP hS (va_recv hK.1 hP (rfl : vwCl[3]? = some (RX5, TX5, 12)) (cw0 a c σ)) rfl hl.1 rfl (Nat.le_of_ble_eq_true rfl) dX5_tell_62 ⟨Nat.zero_le _, Nat.zero_le _⟩ (fun H locs hP hS => ?_)
      exact hret _ _ _ _ _ _ dX5_tell_65 rfl hP hS (oret hf)
    have hf := oif c_11 hf
    refine lv_lookup (tgt := 66) (off := 47) hx hb dX5_tell_19 (by decide) (by show Op.lookupswitch.offset [(1, 25), (2, 36)] 47 _ = _; rw [lv_osw c_6 (a := 1) (by decide), lv_osw c_11 (a := 2) (by decide)]; rfl) (by decide) ?_
    refine lv_aload_n hx hb dX5_tell_66 rfl (lv_at hl 0 rfl) ?_
    refine lv_aload_n hx hb dX5_tell_67 rfl (lv_at hl 0 rfl) ?_
    refine va_get (D := D) (ci := 3) (v := .ref (a 1)) (C := RX5) (T := TX5) (N := 12) hx hb ht gX5 hown hK.1 hP 0 (cw0 a c σ) rfl 0 (by decide) (ht _ q13) (fun _ h9 => h9) rfl dX5_tell_68 ?_
    refine lv_iload_n hx hb dX5_tell_71 rfl (lv_at hl 1 rfl) ?_
    obtain ⟨g_16, hf⟩ := ogd hf
    refine va_aldq hx hb hK.1 hP 1 3 (cw1 a c σ) rfl (ck_in g_16) dX5_tell_72 ?_
    refine W.eq (g2 := F0 m 73 ls [.ref (a (11 + (Int32.toNatClampNeg x1))), .ref (a 0)]) rfl ?_
    obtain ⟨r_17, σ_18, h_19, hf⟩ := obd2 hf
    refine xv_I (As := [.ref (a (11 + (Int32.toNatClampNeg x1)))]) (rest := []) S k_X5_tellPlain q700 q701 q702 ⟨Nat.le_of_ble_eq_true rfl, Nat.le_of_ble_eq_true rfl⟩ ⟨rfl, rfl⟩ (c_X5_tellPlain l D a c A hD (Int32.toNatClampNeg x1) σ (ck_lt g_16) r_17 σ_18 h_19) hK hP hS (va_recv hK.1 hP (rfl : vwCl[3]? = some (RX5, TX5, 12)) (cw0 a c σ)) rfl hl.1 rfl (Nat.le_of_ble_eq_true rfl) dX5_tell_73 ⟨Nat.zero_le _, Nat.zero_le _⟩ (fun H locs hP hS => ?_)
    exact hret _ _ _ _ _ _ dX5_tell_76 rfl hP hS (oret hf)
  have hf := oit c_3 hf
  refine lv_iconst (v := (-1 : Int32)) hx hb dX5_tell_8 (by decide) ?_
  exact hret _ _ _ _ _ _ dX5_tell_9 rfl hP hS (oret hf)
theorem dX5_shake_0 : decode cX5_shake 0 = .ok (.aload_n 0, 1) := by decide +kernel
theorem dX5_shake_1 : decode cX5_shake 1 = .ok (.iload_n 1, 1) := by decide +kernel
theorem dX5_shake_2 : decode cX5_shake 2 = .ok (.invokevirtual 93, 3) := by decide +kernel
theorem dX5_shake_5 : decode cX5_shake 5 = .ok (.ifCond .ne 5, 3) := by decide +kernel
theorem dX5_shake_8 : decode cX5_shake 8 = .ok (.iconst (-1), 1) := by decide +kernel
theorem dX5_shake_9 : decode cX5_shake 9 = .ok (.ireturn, 1) := by decide +kernel
theorem dX5_shake_10 : decode cX5_shake 10 = .ok (.aload_n 0, 1) := by decide +kernel
theorem dX5_shake_11 : decode cX5_shake 11 = .ok (.getfield 13, 3) := by decide +kernel
theorem dX5_shake_14 : decode cX5_shake 14 = .ok (.iload_n 1, 1) := by decide +kernel
theorem dX5_shake_15 : decode cX5_shake 15 = .ok (.aaload, 1) := by decide +kernel
theorem dX5_shake_16 : decode cX5_shake 16 = .ok (.getfield 96, 3) := by decide +kernel
theorem dX5_shake_19 : decode cX5_shake 19 = .ok (.iconst 2, 1) := by decide +kernel
theorem dX5_shake_20 : decode cX5_shake 20 = .ok (.if_icmp .ne 11, 3) := by decide +kernel
theorem dX5_shake_23 : decode cX5_shake 23 = .ok (.aload_n 0, 1) := by decide +kernel
theorem dX5_shake_24 : decode cX5_shake 24 = .ok (.iconst 5, 1) := by decide +kernel
theorem dX5_shake_25 : decode cX5_shake 25 = .ok (.invokevirtual 285, 3) := by decide +kernel
theorem dX5_shake_28 : decode cX5_shake 28 = .ok (.bipush 40, 2) := by decide +kernel
theorem dX5_shake_30 : decode cX5_shake 30 = .ok (.ireturn, 1) := by decide +kernel
theorem dX5_shake_31 : decode cX5_shake 31 = .ok (.aload_n 0, 1) := by decide +kernel
theorem dX5_shake_32 : decode cX5_shake 32 = .ok (.iconst 4, 1) := by decide +kernel
theorem dX5_shake_33 : decode cX5_shake 33 = .ok (.invokevirtual 285, 3) := by decide +kernel
theorem dX5_shake_36 : decode cX5_shake 36 = .ok (.aload_n 0, 1) := by decide +kernel
theorem dX5_shake_37 : decode cX5_shake 37 = .ok (.getfield 13, 3) := by decide +kernel
theorem dX5_shake_40 : decode cX5_shake 40 = .ok (.iload_n 1, 1) := by decide +kernel
theorem dX5_shake_41 : decode cX5_shake 41 = .ok (.aaload, 1) := by decide +kernel
theorem dX5_shake_42 : decode cX5_shake 42 = .ok (.getfield 102, 3) := by decide +kernel
theorem dX5_shake_45 : decode cX5_shake 45 = .ok (.ireturn, 1) := by decide +kernel
def f_X5_shake (x1 : Int32) (σ : St) : Option (Int32 × St) :=
  bd (f_X5_isDoll x1 σ) fun r_1 =>
  if r_1 = 0 then (some ((-1 : Int32), σ))
  else gd (ck x1 4) <|
    if (σ.1 1 (Int32.toNatClampNeg x1)) = (2 : Int32) then (bd (f_X5_leave (5 : Int32) σ) fun σ_9 =>
      some ((40 : Int32), σ_9))
    else bd (f_X5_leave (4 : Int32) σ) fun σ_6 =>
      gd (ck x1 4) <|
      some ((σ_6.1 3 (Int32.toNatClampNeg x1)), σ_6)
abbrev rmX5_shake : Room := { frames := 1, cells := 0, slots := 0, locals := 21 }
set_option maxRecDepth 100000 in
set_option maxHeartbeats 4000000 in
theorem c_X5_shake (l : Launch) (D : va_G) (a : Nat → Nat) (c : Nat → ClassId) (A : Nat → Prop) (hD : ∀ σ, va_D A (cW a c σ)) (x1 : Int32) (σ : St) (r : Int32) (u : St) (hf : f_X5_shake x1 σ = some (r, u)) : MetI l yX5_shake cX5_shake 2 (some .int) rmX5_shake (cW a c) D c A [.ref (a 0), .int x1] σ r u := by
  refine mkI (by decide) (Nat.le_of_ble_eq_true rfl) rfl ?_
  intro p e s m args below meth cd Q ls h0 hK hP hret hl
  obtain ⟨S, hr, hlk⟩ := h0
  obtain ⟨hx, hb, hml, hown, ht⟩ := id S
  have hS : va_S A s.heap s.heap [] := va_S.rf
  have hl : lv_has ls 2 [(0, .ref (a 0)), (1, .int x1)] := hl
  have hf := obs hf
  have hf := oun (f_X5_shake.eq_1 _ _) hf
  refine lv_aload_n hx hb dX5_shake_0 rfl (lv_at hl 0 rfl) ?_
  refine lv_iload_n hx hb dX5_shake_1 rfl (lv_at hl 1 rfl) ?_
  obtain ⟨r_1, h_2, hf⟩ := obd hf
  refine xv_I (As := [.int x1]) (rest := []) S k_X5_isDoll q183 q184 q185 ⟨Nat.le_of_ble_eq_true rfl, Nat.le_of_ble_eq_true rfl⟩ ⟨rfl, rfl⟩ (c_X5_isDoll l D a c A hD x1 σ r_1 h_2) hK hP hS (va_recv hK.1 hP (rfl : vwCl[3]? = some (RX5, TX5, 12)) (cw0 a c σ)) rfl hl.1 rfl (Nat.le_of_ble_eq_true rfl) dX5_shake_2 ⟨Nat.zero_le _, Nat.zero_le _⟩ (fun H locs hP hS => ?_)
  refine lv_if_ne (tgt := 10) hx hb dX5_shake_5 (by decide) (fun c_3 => ?_) (fun c_3 => ?_)
  · have hf := oif c_3 hf
    refine lv_aload_n hx hb dX5_shake_10 rfl (lv_at hl 0 rfl) ?_
    refine va_get (D := D) (ci := 3) (v := .ref (a 1)) (C := RX5) (T := TX5) (N := 12) hx hb ht gX5 hown hK.1 hP 0 (cw0 a c σ) rfl 0 (by decide) (ht _ q13) (fun _ h9 => h9) rfl dX5_shake_11 ?_
    refine lv_iload_n hx hb dX5_shake_14 rfl (lv_at hl 1 rfl) ?_
    obtain ⟨g_4, hf⟩ := ogd hf
    refine va_aldq hx hb hK.1 hP 1 3 (cw1 a c σ) rfl (ck_in g_4) dX5_shake_15 ?_
    refine W.eq (g2 := F0 m 16 ls [.ref (a (11 + (Int32.toNatClampNeg x1)))]) rfl ?_
    refine va_get (D := D) (ci := 0) (v := .int (σ.1 1 (Int32.toNatClampNeg x1))) (C := RX0) (T := TX0) (N := 3) hx hb ht gX0 hown hK.1 hP (11 + (Int32.toNatClampNeg x1)) (cwX0 a c σ (Int32.toNatClampNeg x1) (ck_lt g_4)) rfl 0 (by decide) (ht _ q180) (fun _ h9 => h9) rfl dX5_shake_16 ?_
    refine lv_iconst (v := (2 : Int32)) hx hb dX5_shake_19 (by decide) ?_
    refine lv_icmp_ne (tgt := 31) hx hb dX5_shake_20 (by decide) (fun c_5 => ?_) (fun c_5 => ?_)
    · have hf := oif c_5 hf
      refine lv_aload_n hx hb dX5_shake_31 rfl (lv_at hl 0 rfl) ?_
      refine lv_iconst (v := (4 : Int32)) hx hb dX5_shake_32 (by decide) ?_
      obtain ⟨σ_6, h_7, hf⟩ := obd hf
      refine xv_V (As := [.int (4 : Int32)]) (rest := []) S k_X5_leave q695 q696 q697 ⟨Nat.le_of_ble_eq_true rfl, Nat.le_of_ble_eq_true rfl⟩ ⟨rfl, rfl⟩ (c_X5_leave l D a c A hD (4 : Int32) σ σ_6 h_7) hK hP hS (va_recv hK.1 hP (rfl : vwCl[3]? = some (RX5, TX5, 12)) (cw0 a c σ)) rfl hl.1 rfl (Nat.le_of_ble_eq_true rfl) dX5_shake_33 ⟨Nat.zero_le _, Nat.zero_le _⟩ (fun H locs hP hS => ?_)
      refine lv_aload_n hx hb dX5_shake_36 rfl (lv_at hl 0 rfl) ?_
      refine va_get (D := D) (ci := 3) (v := .ref (a 1)) (C := RX5) (T := TX5) (N := 12) hx hb ht gX5 hown hK.1 hP 0 (cw0 a c σ_6) rfl 0 (by decide) (ht _ q13) (fun _ h9 => h9) rfl dX5_shake_37 ?_
      refine lv_iload_n hx hb dX5_shake_40 rfl (lv_at hl 1 rfl) ?_
      obtain ⟨g_8, hf⟩ := ogd hf
      refine va_aldq hx hb hK.1 hP 1 3 (cw1 a c σ_6) rfl (ck_in g_8) dX5_shake_41 ?_
      refine W.eq (g2 := F0 m 42 ls [.ref (a (11 + (Int32.toNatClampNeg x1)))]) rfl ?_
      refine va_get (D := D) (ci := 0) (v := .int (σ_6.1 3 (Int32.toNatClampNeg x1))) (C := RX0) (T := TX0) (N := 3) hx hb ht gX0 hown hK.1 hP (11 + (Int32.toNatClampNeg x1)) (cwX0 a c σ_6 (Int32.toNatClampNeg x1) (ck_lt g_8)) rfl 2 (by decide) (ht _ q182) (fun _ h9 => h9) rfl dX5_shake_42 ?_
      exact hret _ _ _ _ _ _ dX5_shake_45 rfl hP hS (oret hf)
    have hf := oit c_5 hf
    refine lv_aload_n hx hb dX5_shake_23 rfl (lv_at hl 0 rfl) ?_
    refine lv_iconst (v := (5 : Int32)) hx hb dX5_shake_24 (by decide) ?_
    obtain ⟨σ_9, h_10, hf⟩ := obd hf
    refine xv_V (As := [.int (5 : Int32)]) (rest := []) S k_X5_leave q695 q696 q697 ⟨Nat.le_of_ble_eq_true rfl, Nat.le_of_ble_eq_true rfl⟩ ⟨rfl, rfl⟩ (c_X5_leave l D a c A hD (5 : Int32) σ σ_9 h_10) hK hP hS (va_recv hK.1 hP (rfl : vwCl[3]? = some (RX5, TX5, 12)) (cw0 a c σ)) rfl hl.1 rfl (Nat.le_of_ble_eq_true rfl) dX5_shake_25 ⟨Nat.zero_le _, Nat.zero_le _⟩ (fun H locs hP hS => ?_)
    refine lv_bipush (v := (40 : Int32)) hx hb dX5_shake_28 (by decide) ?_
    exact hret _ _ _ _ _ _ dX5_shake_30 rfl hP hS (oret hf)
  have hf := oit c_3 hf
  refine lv_iconst (v := (-1 : Int32)) hx hb dX5_shake_8 (by decide) ?_
  exact hret _ _ _ _ _ _ dX5_shake_9 rfl hP hS (oret hf)
theorem dX5_as_0 : decode cX5_as 0 = .ok (.aload_n 0, 1) := by decide +kernel
theorem dX5_as_1 : decode cX5_as 1 = .ok (.iconst 0, 1) := by decide +kernel
theorem dX5_as_2 : decode cX5_as 2 = .ok (.putfield 43, 3) := by decide +kernel
theorem dX5_as_5 : decode cX5_as 5 = .ok (.aload_n 0, 1) := by decide +kernel
theorem dX5_as_6 : decode cX5_as 6 = .ok (.iload_n 1, 1) := by decide +kernel
theorem dX5_as_7 : decode cX5_as 7 = .ok (.invokevirtual 93, 3) := by decide +kernel
theorem dX5_as_10 : decode cX5_as 10 = .ok (.ifCond .ne 5, 3) := by decide +kernel
theorem dX5_as_13 : decode cX5_as 13 = .ok (.iconst (-1), 1) := by decide +kernel
theorem dX5_as_14 : decode cX5_as 14 = .ok (.ireturn, 1) := by decide +kernel
theorem dX5_as_15 : decode cX5_as 15 = .ok (.iload_n 2, 1) := by decide +kernel
theorem dX5_as_16 : decode cX5_as 16 = .ok (.ifCond .lt 8, 3) := by decide +kernel
theorem dX5_as_19 : decode cX5_as 19 = .ok (.iload_n 2, 1) := by decide +kernel
theorem dX5_as_20 : decode cX5_as 20 = .ok (.iconst 2, 1) := by decide +kernel
theorem dX5_as_21 : decode cX5_as 21 = .ok (.if_icmp .le 6, 3) := by decide +kernel
theorem dX5_as_24 : decode cX5_as 24 = .ok (.bipush (-2), 2) := by decide +kernel
theorem dX5_as_26 : decode cX5_as 26 = .ok (.ireturn, 1) := by decide +kernel
theorem dX5_as_27 : decode cX5_as 27 = .ok (.aload_n 0, 1) := by decide +kernel
theorem dX5_as_28 : decode cX5_as 28 = .ok (.getfield 13, 3) := by decide +kernel
theorem dX5_as_31 : decode cX5_as 31 = .ok (.iload_n 1, 1) := by decide +kernel
theorem dX5_as_32 : decode cX5_as 32 = .ok (.aaload, 1) := by decide +kernel
theorem dX5_as_33 : decode cX5_as 33 = .ok (.getfield 96, 3) := by decide +kernel
theorem dX5_as_36 : decode cX5_as 36 = .ok (.iload_n 2, 1) := by decide +kernel
theorem dX5_as_37 : decode cX5_as 37 = .ok (.if_icmp .ge 11, 3) := by decide +kernel
theorem dX5_as_40 : decode cX5_as 40 = .ok (.aload_n 0, 1) := by decide +kernel
theorem dX5_as_41 : decode cX5_as 41 = .ok (.iconst 2, 1) := by decide +kernel
theorem dX5_as_42 : decode cX5_as 42 = .ok (.invokevirtual 58, 3) := by decide +kernel
theorem dX5_as_45 : decode cX5_as 45 = .ok (.goto 4, 3) := by decide +kernel
theorem dX5_as_48 : decode cX5_as 48 = .ok (.iconst 1, 1) := by decide +kernel
theorem dX5_as_49 : decode cX5_as 49 = .ok (.ireturn, 1) := by decide +kernel
def f_X5_as (x1 : Int32) (x2 : Int32) (σ : St) : Option (Int32 × St) :=
  nm (wS σ 0 5 (0 : Int32)) fun σ_1 =>
  bd (f_X5_isDoll x1 σ_1) fun r_2 =>
  if r_2 = 0 then (some ((-1 : Int32), σ_1))
  else if x2 < 0 then (some ((-2 : Int32), σ_1))
    else if x2 ≤ (2 : Int32) then (gd (ck x1 4) <|
      if x2 ≤ (σ_1.1 1 (Int32.toNatClampNeg x1)) then (some ((1 : Int32), σ_1))
      else bd2 (f_X5_come (2 : Int32) σ_1) fun r_9 σ_10 =>
      some (r_9, σ_10))
    else some ((-2 : Int32), σ_1)
abbrev rmX5_as : Room := { frames := 1, cells := 0, slots := 0, locals := 21 }
set_option maxRecDepth 100000 in
set_option maxHeartbeats 4000000 in
theorem c_X5_as (l : Launch) (D : va_G) (a : Nat → Nat) (c : Nat → ClassId) (A : Nat → Prop) (hD : ∀ σ, va_D A (cW a c σ)) (x1 : Int32) (x2 : Int32) (σ : St) (r : Int32) (u : St) (hf : f_X5_as x1 x2 σ = some (r, u)) : MetI l yX5_as cX5_as 3 (some .int) rmX5_as (cW a c) D c A [.ref (a 0), .int x1, .int x2] σ r u := by
  refine mkI (by decide) (Nat.le_of_ble_eq_true rfl) rfl ?_
  intro p e s m args below meth cd Q ls h0 hK hP hret hl
  obtain ⟨S, hr, hlk⟩ := h0
  obtain ⟨hx, hb, hml, hown, ht⟩ := id S
  have hS : va_S A s.heap s.heap [] := va_S.rf
  have hl : lv_has ls 3 [(0, .ref (a 0)), (1, .int x1), (2, .int x2)] := hl
  have hf := obs hf
  have hf := oun (f_X5_as.eq_1 _ _ _) hf
  refine lv_aload_n hx hb dX5_as_0 rfl (lv_at hl 0 rfl) ?_
  refine lv_iconst (v := (0 : Int32)) hx hb dX5_as_1 (by decide) ?_
  refine va_put (D := D) (ci := 3) (v := .int (0 : Int32)) (ty := .int) (C := RX5) (T := TX5) (N := 12) hx hb ht gX5 tyX5 tyX5_ok nmX5 hown hK.1 hP (hD σ) hS 0 (cw0 a c σ) rfl 11 (by decide) (ht _ q73) (fun _ h9 => h9) rfl (by decide +kernel) rfl rfl (Nat.le_of_ble_eq_true rfl) dX5_as_2 (fun H locs hP _ hS => ?_)
  have hP := vP_eq (cpX5_latestFault a c σ (0 : Int32)) hP
  obtain ⟨σ_1, eσ_1, hf⟩ := onm hf
  rw [eσ_1] at hP
  refine lv_aload_n hx hb dX5_as_5 rfl (lv_at hl 0 rfl) ?_
  refine lv_iload_n hx hb dX5_as_6 rfl (lv_at hl 1 rfl) ?_
  obtain ⟨r_2, h_3, hf⟩ := obd hf
  refine xv_I (As := [.int x1]) (rest := []) S k_X5_isDoll q183 q184 q185 ⟨Nat.le_of_ble_eq_true rfl, Nat.le_of_ble_eq_true rfl⟩ ⟨rfl, rfl⟩ (c_X5_isDoll l D a c A hD x1 σ_1 r_2 h_3) hK hP hS (va_recv hK.1 hP (rfl : vwCl[3]? = some (RX5, TX5, 12)) (cw0 a c σ_1)) rfl hl.1 rfl (Nat.le_of_ble_eq_true rfl) dX5_as_7 ⟨Nat.zero_le _, Nat.zero_le _⟩ (fun H locs hP hS => ?_)
  refine lv_if_ne (tgt := 15) hx hb dX5_as_10 (by decide) (fun c_4 => ?_) (fun c_4 => ?_)
  · have hf := oif c_4 hf
    refine lv_iload_n hx hb dX5_as_15 rfl (lv_at hl 2 rfl) ?_
    refine lv_if_lt (tgt := 24) hx hb dX5_as_16 (by decide) (fun c_5 => ?_) (fun c_5 => ?_)
    · have hf := oit c_5 hf
      refine lv_bipush (v := (-2 : Int32)) hx hb dX5_as_24 (by decide) ?_
      exact hret _ _ _ _ _ _ dX5_as_26 rfl hP hS (oret hf)
    have hf := oif c_5 hf
    refine lv_iload_n hx hb dX5_as_19 rfl (lv_at hl 2 rfl) ?_
    refine lv_iconst (v := (2 : Int32)) hx hb dX5_as_20 (by decide) ?_
    refine lv_icmp_le (tgt := 27) hx hb dX5_as_21 (by decide) (fun c_6 => ?_) (fun c_6 => ?_)
    · have hf := oit c_6 hf
      refine lv_aload_n hx hb dX5_as_27 rfl (lv_at hl 0 rfl) ?_
      refine va_get (D := D) (ci := 3) (v := .ref (a 1)) (C := RX5) (T := TX5) (N := 12) hx hb ht gX5 hown hK.1 hP 0 (cw0 a c σ_1) rfl 0 (by decide) (ht _ q13) (fun _ h9 => h9) rfl dX5_as_28 ?_
      refine lv_iload_n hx hb dX5_as_31 rfl (lv_at hl 1 rfl) ?_
      obtain ⟨g_7, hf⟩ := ogd hf
      refine va_aldq hx hb hK.1 hP 1 3 (cw1 a c σ_1) rfl (ck_in g_7) dX5_as_32 ?_
      refine W.eq (g2 := F0 m 33 ls [.ref (a (11 + (Int32.toNatClampNeg x1)))]) rfl ?_
      refine va_get (D := D) (ci := 0) (v := .int (σ_1.1 1 (Int32.toNatClampNeg x1))) (C := RX0) (T := TX0) (N := 3) hx hb ht gX0 hown hK.1 hP (11 + (Int32.toNatClampNeg x1)) (cwX0 a c σ_1 (Int32.toNatClampNeg x1) (ck_lt g_7)) rfl 0 (by decide) (ht _ q180) (fun _ h9 => h9) rfl dX5_as_33 ?_
      refine lv_iload_n hx hb dX5_as_36 rfl (lv_at hl 2 rfl) ?_
      refine lv_icmp_ge (tgt := 48) hx hb dX5_as_37 (by decide) (fun c_8 => ?_) (fun c_8 => ?_)
      · have hf := oit c_8 hf
        refine lv_iconst (v := (1 : Int32)) hx hb dX5_as_48 (by decide) ?_
        exact hret _ _ _ _ _ _ dX5_as_49 rfl hP hS (oret hf)
      have hf := oif c_8 hf
      refine lv_aload_n hx hb dX5_as_40 rfl (lv_at hl 0 rfl) ?_
      refine lv_iconst (v := (2 : Int32)) hx hb dX5_as_41 (by decide) ?_
      obtain ⟨r_9, σ_10, h_11, hf⟩ := obd2 hf
      refine xv_I (As := [.int (2 : Int32)]) (rest := []) S k_X5_come q94 q95 q96 ⟨Nat.le_of_ble_eq_true rfl, Nat.le_of_ble_eq_true rfl⟩ ⟨rfl, rfl⟩ (c_X5_come l D a c A hD (2 : Int32) σ_1 r_9 σ_10 h_11) hK hP hS (va_recv hK.1 hP (rfl : vwCl[3]? = some (RX5, TX5, 12)) (cw0 a c σ_1)) rfl hl.1 rfl (Nat.le_of_ble_eq_true rfl) dX5_as_42 ⟨Nat.zero_le _, Nat.zero_le _⟩ (fun H locs hP hS => ?_)
      refine lv_goto (tgt := 49) hx hb dX5_as_45 (by decide) ?_
      exact hret _ _ _ _ _ _ dX5_as_49 rfl hP hS (oret hf)
    have hf := oif c_6 hf
    refine lv_bipush (v := (-2 : Int32)) hx hb dX5_as_24 (by decide) ?_
    exact hret _ _ _ _ _ _ dX5_as_26 rfl hP hS (oret hf)
  have hf := oit c_4 hf
  refine lv_iconst (v := (-1 : Int32)) hx hb dX5_as_13 (by decide) ?_
  exact hret _ _ _ _ _ _ dX5_as_14 rfl hP hS (oret hf)
theorem dX5_trace_0 : decode cX5_trace 0 = .ok (.aload_n 0, 1) := by decide +kernel
theorem dX5_trace_1 : decode cX5_trace 1 = .ok (.getfield 289, 3) := by decide +kernel
theorem dX5_trace_4 : decode cX5_trace 4 = .ok (.ireturn, 1) := by decide +kernel
def f_X5_trace (σ : St) : Option Int32 :=
  some (σ.1 0 4)
abbrev rmX5_trace : Room := { frames := 0, cells := 0, slots := 0, locals := 0 }
set_option maxRecDepth 100000 in
set_option maxHeartbeats 4000000 in
theorem c_X5_trace (l : Launch) (D : va_G) (a : Nat → Nat) (c : Nat → ClassId) (A : Nat → Prop) (hD : ∀ σ, va_D A (cW a c σ)) (σ : St) (r : Int32) (hf : f_X5_trace σ = some r) : MetI l yX5_trace cX5_trace 1 (some .int) rmX5_trace (cW a c) D c A [.ref (a 0)] σ r σ := by
  refine mkI (by decide) (Nat.le_of_ble_eq_true rfl) rfl ?_
  intro p e s m args below meth cd Q ls h0 hK hP hret hl
  obtain ⟨S, hr, hlk⟩ := h0
  obtain ⟨hx, hb, hml, hown, ht⟩ := id S
  have hS : va_S A s.heap s.heap [] := va_S.rf
  have hl : lv_has ls 1 [(0, .ref (a 0))] := hl
  have hf := obs hf
  have hf := oun (f_X5_trace.eq_1 _) hf
  refine lv_aload_n hx hb dX5_trace_0 rfl (lv_at hl 0 rfl) ?_
  refine va_get (D := D) (ci := 3) (v := .int (σ.1 0 4)) (C := RX5) (T := TX5) (N := 12) hx hb ht gX5 hown hK.1 hP 0 (cw0 a c σ) rfl 10 (by decide) (ht _ q699) (fun _ h9 => h9) rfl dX5_trace_1 ?_
  exact hret _ _ _ _ _ _ dX5_trace_4 rfl hP hS ⟨Option.some.inj hf, rfl⟩
theorem dX5_fault_0 : decode cX5_fault 0 = .ok (.aload_n 0, 1) := by decide +kernel
theorem dX5_fault_1 : decode cX5_fault 1 = .ok (.getfield 43, 3) := by decide +kernel
theorem dX5_fault_4 : decode cX5_fault 4 = .ok (.ireturn, 1) := by decide +kernel
def f_X5_fault (σ : St) : Option Int32 :=
  some (σ.1 0 5)
abbrev rmX5_fault : Room := { frames := 0, cells := 0, slots := 0, locals := 0 }
set_option maxRecDepth 100000 in
set_option maxHeartbeats 4000000 in
theorem c_X5_fault (l : Launch) (D : va_G) (a : Nat → Nat) (c : Nat → ClassId) (A : Nat → Prop) (hD : ∀ σ, va_D A (cW a c σ)) (σ : St) (r : Int32) (hf : f_X5_fault σ = some r) : MetI l yX5_fault cX5_fault 1 (some .int) rmX5_fault (cW a c) D c A [.ref (a 0)] σ r σ := by
  refine mkI (by decide) (Nat.le_of_ble_eq_true rfl) rfl ?_
  intro p e s m args below meth cd Q ls h0 hK hP hret hl
  obtain ⟨S, hr, hlk⟩ := h0
  obtain ⟨hx, hb, hml, hown, ht⟩ := id S
  have hS : va_S A s.heap s.heap [] := va_S.rf
  have hl : lv_has ls 1 [(0, .ref (a 0))] := hl
  have hf := obs hf
  have hf := oun (f_X5_fault.eq_1 _) hf
  refine lv_aload_n hx hb dX5_fault_0 rfl (lv_at hl 0 rfl) ?_
  refine va_get (D := D) (ci := 3) (v := .int (σ.1 0 5)) (C := RX5) (T := TX5) (N := 12) hx hb ht gX5 hown hK.1 hP 0 (cw0 a c σ) rfl 11 (by decide) (ht _ q73) (fun _ h9 => h9) rfl dX5_fault_1 ?_
  exact hret _ _ _ _ _ _ dX5_fault_4 rfl hP hS ⟨Option.some.inj hf, rfl⟩
theorem dX5_many_0 : decode cX5_many 0 = .ok (.iload_n 1, 1) := by decide +kernel
theorem dX5_many_1 : decode cX5_many 1 = .ok (.tableswitch 70 0 4 #[35, 40, 49, 60, 65], 35) := by decide +kernel
theorem dX5_many_36 : decode cX5_many 36 = .ok (.aload_n 0, 1) := by decide +kernel
theorem dX5_many_37 : decode cX5_many 37 = .ok (.getfield 72, 3) := by decide +kernel
theorem dX5_many_40 : decode cX5_many 40 = .ok (.ireturn, 1) := by decide +kernel
theorem dX5_many_41 : decode cX5_many 41 = .ok (.aload_n 0, 1) := by decide +kernel
theorem dX5_many_42 : decode cX5_many 42 = .ok (.aload_n 0, 1) := by decide +kernel
theorem dX5_many_43 : decode cX5_many 43 = .ok (.getfield 84, 3) := by decide +kernel
theorem dX5_many_46 : decode cX5_many 46 = .ok (.invokevirtual 149, 3) := by decide +kernel
theorem dX5_many_49 : decode cX5_many 49 = .ok (.ireturn, 1) := by decide +kernel
theorem dX5_many_50 : decode cX5_many 50 = .ok (.aload_n 0, 1) := by decide +kernel
theorem dX5_many_51 : decode cX5_many 51 = .ok (.getfield 84, 3) := by decide +kernel
theorem dX5_many_54 : decode cX5_many 54 = .ok (.invokestatic 171, 3) := by decide +kernel
theorem dX5_many_57 : decode cX5_many 57 = .ok (.invokestatic 186, 3) := by decide +kernel
theorem dX5_many_60 : decode cX5_many 60 = .ok (.ireturn, 1) := by decide +kernel
theorem dX5_many_61 : decode cX5_many 61 = .ok (.aload_n 0, 1) := by decide +kernel
theorem dX5_many_62 : decode cX5_many 62 = .ok (.getfield 87, 3) := by decide +kernel
theorem dX5_many_65 : decode cX5_many 65 = .ok (.ireturn, 1) := by decide +kernel
theorem dX5_many_66 : decode cX5_many 66 = .ok (.aload_n 0, 1) := by decide +kernel
theorem dX5_many_67 : decode cX5_many 67 = .ok (.getfield 90, 3) := by decide +kernel
theorem dX5_many_70 : decode cX5_many 70 = .ok (.ireturn, 1) := by decide +kernel
theorem dX5_many_71 : decode cX5_many 71 = .ok (.bipush (-2), 2) := by decide +kernel
theorem dX5_many_73 : decode cX5_many 73 = .ok (.ireturn, 1) := by decide +kernel
def f_X5_many (N : Nat) (x1 : Int32) (σ : St) : Option Int32 :=
  if x1 = (0 : Int32) then (some (σ.1 0 0))
  else if x1 = (1 : Int32) then (bd (f_X5_manyOnTable N (σ.1 0 1) σ) fun r_3 =>
    some r_3)
  else if x1 = (2 : Int32) then (bd (f_X3_openSet (σ.1 0 1)) fun r_6 =>
    bd (f_J6_bitCount_0f7a4 r_6) fun r_8 =>
    some r_8)
  else if x1 = (3 : Int32) then (some (σ.1 0 2))
  else if x1 = (4 : Int32) then (some (σ.1 0 3))
  else some (-2 : Int32)
abbrev rmX5_many : Room := { frames := 3, cells := 0, slots := 0, locals := 65 }
set_option maxRecDepth 100000 in
set_option maxHeartbeats 4000000 in
theorem c_X5_many (l : Launch) (D : va_G) (a : Nat → Nat) (c : Nat → ClassId) (A : Nat → Prop) (hD : ∀ σ, va_D A (cW a c σ)) (N : Nat) (x1 : Int32) (σ : St) (r : Int32) (hf : f_X5_many N x1 σ = some r) : MetI l yX5_many cX5_many 2 (some .int) rmX5_many (cW a c) D c A [.ref (a 0), .int x1] σ r σ := by
  refine mkI (by decide) (Nat.le_of_ble_eq_true rfl) rfl ?_
  intro p e s m args below meth cd Q ls h0 hK hP hret hl
  obtain ⟨S, hr, hlk⟩ := h0
  obtain ⟨hx, hb, hml, hown, ht⟩ := id S
  have hS : va_S A s.heap s.heap [] := va_S.rf
  have hl : lv_has ls 2 [(0, .ref (a 0)), (1, .int x1)] := hl
  have hf := obs hf
  have hf := oun (f_X5_many.eq_1 _ _ _) hf
  refine lv_iload_n hx hb dX5_many_0 rfl (lv_at hl 1 rfl) ?_
  by_cases c_1 : x1 = (0 : Int32)
  · have hf := oit c_1 hf
    refine lv_tableIn (tgt := 36) (off := 35) hx hb dX5_many_1 (by rw [c_1]; decide) (by rw [c_1]; decide) (by rw [c_1]; decide) (by decide) ?_
    refine lv_aload_n hx hb dX5_many_36 rfl (lv_at hl 0 rfl) ?_
    refine va_get (D := D) (ci := 3) (v := .int (σ.1 0 0)) (C := RX5) (T := TX5) (N := 12) hx hb ht gX5 hown hK.1 hP 0 (cw0 a c σ) rfl 6 (by decide) (ht _ q74) (fun _ h9 => h9) rfl dX5_many_37 ?_
    exact hret _ _ _ _ _ _ dX5_many_40 rfl hP hS ⟨Option.some.inj hf, rfl⟩
  have hf := oif c_1 hf
  by_cases c_2 : x1 = (1 : Int32)
  · have hf := oit c_2 hf
    refine lv_tableIn (tgt := 41) (off := 40) hx hb dX5_many_1 (by rw [c_2]; decide) (by rw [c_2]; decide) (by rw [c_2]; decide) (by decide) ?_
    refine lv_aload_n hx hb dX5_many_41 rfl (lv_at hl 0 rfl) ?_
    refine lv_aload_n hx hb dX5_many_42 rfl (lv_at hl 0 rfl) ?_
    refine va_get (D := D) (ci := 3) (v := .int (σ.1 0 1)) (C := RX5) (T := TX5) (N := 12) hx hb ht gX5 hown hK.1 hP 0 (cw0 a c σ) rfl 7 (by decide) (ht _ q116) (fun _ h9 => h9) rfl dX5_many_43 ?_
    obtain ⟨r_3, h_4, hf⟩ := obd hf
    refine xv_I (As := [.int (σ.1 0 1)]) (rest := []) S k_X5_manyOnTable q322 q323 q324 ⟨Nat.le_of_ble_eq_true rfl, Nat.le_of_ble_eq_true rfl⟩ ⟨rfl, rfl⟩ (c_X5_manyOnTable l D a c A hD N (σ.1 0 1) σ r_3 h_4) hK hP hS (va_recv hK.1 hP (rfl : vwCl[3]? = some (RX5, TX5, 12)) (cw0 a c σ)) rfl hl.1 rfl (Nat.le_of_ble_eq_true rfl) dX5_many_46 ⟨Nat.zero_le _, Nat.zero_le _⟩ (fun H locs hP hS => ?_)
    exact hret _ _ _ _ _ _ dX5_many_49 rfl hP hS ⟨Option.some.inj hf, rfl⟩
  have hf := oif c_2 hf
  by_cases c_5 : x1 = (2 : Int32)
  · have hf := oit c_5 hf
    refine lv_tableIn (tgt := 50) (off := 49) hx hb dX5_many_1 (by rw [c_5]; decide) (by rw [c_5]; decide) (by rw [c_5]; decide) (by decide) ?_
    refine lv_aload_n hx hb dX5_many_50 rfl (lv_at hl 0 rfl) ?_
    refine va_get (D := D) (ci := 3) (v := .int (σ.1 0 1)) (C := RX5) (T := TX5) (N := 12) hx hb ht gX5 hown hK.1 hP 0 (cw0 a c σ) rfl 7 (by decide) (ht _ q116) (fun _ h9 => h9) rfl dX5_many_51 ?_
    obtain ⟨r_6, h_7, hf⟩ := obd hf
    refine xs_S (As := [.int (σ.1 0 1)]) (rest := []) S k_X3_openSet q391 q200 ⟨Nat.le_of_ble_eq_true rfl, Nat.le_of_ble_eq_true rfl⟩ ⟨rfl, rfl⟩ (c_X3_openSet l (σ.1 0 1) r_6 h_7) hK.2 rfl hl.1 rfl (Nat.le_of_ble_eq_true rfl) dX5_many_54 ⟨Nat.zero_le _, Nat.zero_le _⟩ ?_
    obtain ⟨r_8, h_9, hf⟩ := obd hf
    refine xs_S (As := [.int r_6]) (rest := []) S k_J6_bitCount_0f7a4 q327 q328 ⟨Nat.le_of_ble_eq_true rfl, Nat.le_of_ble_eq_true rfl⟩ ⟨rfl, rfl⟩ (c_J6_bitCount_0f7a4 l r_6 r_8 h_9) hK.2 rfl hl.1 rfl (Nat.le_of_ble_eq_true rfl) dX5_many_57 ⟨Nat.zero_le _, Nat.zero_le _⟩ ?_
    exact hret _ _ _ _ _ _ dX5_many_60 rfl hP hS ⟨Option.some.inj hf, rfl⟩
  have hf := oif c_5 hf
  by_cases c_10 : x1 = (3 : Int32)
  · have hf := oit c_10 hf
    refine lv_tableIn (tgt := 61) (off := 60) hx hb dX5_many_1 (by rw [c_10]; decide) (by rw [c_10]; decide) (by rw [c_10]; decide) (by decide) ?_
    refine lv_aload_n hx hb dX5_many_61 rfl (lv_at hl 0 rfl) ?_
    refine va_get (D := D) (ci := 3) (v := .int (σ.1 0 2)) (C := RX5) (T := TX5) (N := 12) hx hb ht gX5 hown hK.1 hP 0 (cw0 a c σ) rfl 8 (by decide) (ht _ q117) (fun _ h9 => h9) rfl dX5_many_62 ?_
    exact hret _ _ _ _ _ _ dX5_many_65 rfl hP hS ⟨Option.some.inj hf, rfl⟩
  have hf := oif c_10 hf
  by_cases c_11 : x1 = (4 : Int32)
  · have hf := oit c_11 hf
    refine lv_tableIn (tgt := 66) (off := 65) hx hb dX5_many_1 (by rw [c_11]; decide) (by rw [c_11]; decide) (by rw [c_11]; decide) (by decide) ?_
    refine lv_aload_n hx hb dX5_many_66 rfl (lv_at hl 0 rfl) ?_
    refine va_get (D := D) (ci := 3) (v := .int (σ.1 0 3)) (C := RX5) (T := TX5) (N := 12) hx hb ht gX5 hown hK.1 hP 0 (cw0 a c σ) rfl 9 (by decide) (ht _ q118) (fun _ h9 => h9) rfl dX5_many_67 ?_
    exact hret _ _ _ _ _ _ dX5_many_70 rfl hP hS ⟨Option.some.inj hf, rfl⟩
  have hf := oif c_11 hf
  refine lv_tableOut (tgt := 71) hx hb dX5_many_1 (by have z0 := lv_neT c_1 (a := 0) rfl; have z1 := lv_neT c_2 (a := 1) rfl; have z2 := lv_neT c_5 (a := 2) rfl; have z3 := lv_neT c_10 (a := 3) rfl; have z4 := lv_neT c_11 (a := 4) rfl; omega) (by decide) ?_
  refine lv_bipush (v := (-2 : Int32)) hx hb dX5_many_71 (by decide) ?_
  exact hret _ _ _ _ _ _ dX5_many_73 rfl hP hS ⟨Option.some.inj hf, rfl⟩
