theorem dX6_against_0 : decode cX6_against 0 = .ok (.aload_n 0, 1) := by decide +kernel
theorem dX6_against_1 : decode cX6_against 1 = .ok (.getfield 9, 3) := by decide +kernel
theorem dX6_against_4 : decode cX6_against 4 = .ok (.iload_n 1, 1) := by decide +kernel
theorem dX6_against_5 : decode cX6_against 5 = .ok (.iaload, 1) := by decide +kernel
theorem dX6_against_6 : decode cX6_against 6 = .ok (.bipush (-9), 2) := by decide +kernel
theorem dX6_against_8 : decode cX6_against 8 = .ok (.if_icmp .eq 15, 3) := by decide +kernel
theorem dX6_against_11 : decode cX6_against 11 = .ok (.aload_n 0, 1) := by decide +kernel
theorem dX6_against_12 : decode cX6_against 12 = .ok (.getfield 9, 3) := by decide +kernel
theorem dX6_against_15 : decode cX6_against 15 = .ok (.iload_n 1, 1) := by decide +kernel
theorem dX6_against_16 : decode cX6_against 16 = .ok (.iaload, 1) := by decide +kernel
theorem dX6_against_17 : decode cX6_against 17 = .ok (.iload_n 2, 1) := by decide +kernel
theorem dX6_against_18 : decode cX6_against 18 = .ok (.if_icmp .eq 5, 3) := by decide +kernel
theorem dX6_against_21 : decode cX6_against 21 = .ok (.iconst 2, 1) := by decide +kernel
theorem dX6_against_22 : decode cX6_against 22 = .ok (.ireturn, 1) := by decide +kernel
theorem dX6_against_23 : decode cX6_against 23 = .ok (.aload_n 0, 1) := by decide +kernel
theorem dX6_against_24 : decode cX6_against 24 = .ok (.getfield 9, 3) := by decide +kernel
theorem dX6_against_27 : decode cX6_against 27 = .ok (.iload_n 1, 1) := by decide +kernel
theorem dX6_against_28 : decode cX6_against 28 = .ok (.iaload, 1) := by decide +kernel
theorem dX6_against_29 : decode cX6_against 29 = .ok (.bipush (-9), 2) := by decide +kernel
theorem dX6_against_31 : decode cX6_against 31 = .ok (.if_icmp .ne 5, 3) := by decide +kernel
theorem dX6_against_34 : decode cX6_against 34 = .ok (.iconst 1, 1) := by decide +kernel
theorem dX6_against_35 : decode cX6_against 35 = .ok (.ireturn, 1) := by decide +kernel
theorem dX6_against_36 : decode cX6_against 36 = .ok (.iload 4, 2) := by decide +kernel
theorem dX6_against_38 : decode cX6_against 38 = .ok (.ifCond .ge 5, 3) := by decide +kernel
theorem dX6_against_41 : decode cX6_against 41 = .ok (.iconst 4, 1) := by decide +kernel
theorem dX6_against_42 : decode cX6_against 42 = .ok (.ireturn, 1) := by decide +kernel
theorem dX6_against_43 : decode cX6_against 43 = .ok (.iload_n 3, 1) := by decide +kernel
theorem dX6_against_44 : decode cX6_against 44 = .ok (.ifCond .lt 26, 3) := by decide +kernel
theorem dX6_against_47 : decode cX6_against 47 = .ok (.iload_n 3, 1) := by decide +kernel
theorem dX6_against_48 : decode cX6_against 48 = .ok (.aload_n 0, 1) := by decide +kernel
theorem dX6_against_49 : decode cX6_against 49 = .ok (.getfield 13, 3) := by decide +kernel
theorem dX6_against_52 : decode cX6_against 52 = .ok (.iload_n 1, 1) := by decide +kernel
theorem dX6_against_53 : decode cX6_against 53 = .ok (.iaload, 1) := by decide +kernel
theorem dX6_against_54 : decode cX6_against 54 = .ok (.if_icmp .gt 16, 3) := by decide +kernel
theorem dX6_against_57 : decode cX6_against 57 = .ok (.iload 4, 2) := by decide +kernel
theorem dX6_against_59 : decode cX6_against 59 = .ok (.aload_n 0, 1) := by decide +kernel
theorem dX6_against_60 : decode cX6_against 60 = .ok (.getfield 13, 3) := by decide +kernel
theorem dX6_against_63 : decode cX6_against 63 = .ok (.iload_n 1, 1) := by decide +kernel
theorem dX6_against_64 : decode cX6_against 64 = .ok (.iaload, 1) := by decide +kernel
theorem dX6_against_65 : decode cX6_against 65 = .ok (.iload_n 3, 1) := by decide +kernel
theorem dX6_against_66 : decode cX6_against 66 = .ok (.isub, 1) := by decide +kernel
theorem dX6_against_67 : decode cX6_against 67 = .ok (.if_icmp .le 7, 3) := by decide +kernel
theorem dX6_against_70 : decode cX6_against 70 = .ok (.iconst 3, 1) := by decide +kernel
theorem dX6_against_71 : decode cX6_against 71 = .ok (.goto 4, 3) := by decide +kernel
theorem dX6_against_74 : decode cX6_against 74 = .ok (.iconst 0, 1) := by decide +kernel
theorem dX6_against_75 : decode cX6_against 75 = .ok (.ireturn, 1) := by decide +kernel
def f_X6_against_j70 (σ : St) : Option Int32 :=
  some (3 : Int32)
def f_X6_against_j23 (x1 : Int32) (x3 : Int32) (x4 : Int32) (σ : St) : Option Int32 :=
  gd (ck x1 4) <|
  if (σ.1 1 x1.toNatClampNeg) = (-9 : Int32) then (some (1 : Int32))
  else if 0 ≤ x4 then (if x3 < 0 then (f_X6_against_j70 σ)
      else gd (ck x1 4) <|
      if (σ.1 2 x1.toNatClampNeg) < x3 then (f_X6_against_j70 σ)
      else gd (ck x1 4) <|
      if x4 ≤ ((σ.1 2 x1.toNatClampNeg) - x3) then (some (0 : Int32))
      else f_X6_against_j70 σ)
    else some (4 : Int32)
def f_X6_against (x1 : Int32) (x2 : Int32) (x3 : Int32) (x4 : Int32) (σ : St) : Option Int32 :=
  gd (ck x1 4) <|
  if (σ.1 1 x1.toNatClampNeg) = (-9 : Int32) then (f_X6_against_j23 x1 x3 x4 σ)
  else gd (ck x1 4) <|
  if (σ.1 1 x1.toNatClampNeg) = x2 then (f_X6_against_j23 x1 x3 x4 σ)
  else some (2 : Int32)
abbrev rmX6_against : Room := { frames := 0, cells := 0, slots := 0, locals := 0 }
set_option maxRecDepth 100000 in
set_option maxHeartbeats 4000000 in
theorem c_X6_against (l : Launch) (D : va_G) (a : Nat → Nat) (c : Nat → ClassId) (A : Nat → Prop) (hD : ∀ σ, va_D A (mW a c σ)) (x1 : Int32) (x2 : Int32) (x3 : Int32) (x4 : Int32) (σ : St) (r : Int32) (hf : f_X6_against x1 x2 x3 x4 σ = some r) : MetI l yX6_against cX6_against 5 (some .int) rmX6_against (mW a c) D c A [.ref (a 0), .int x1, .int x2, .int x3, .int x4] σ r σ := by
  refine mkI (by decide) (Nat.le_of_ble_eq_true rfl) rfl ?_
  intro p e s m args below meth cd Q ls h0 hK hP hret hl
  obtain ⟨S, hr, hlk⟩ := h0
  obtain ⟨hx, hb, hml, hown, ht⟩ := id S
  have hS : va_S A s.heap s.heap [] := va_S.rf
  have hl : lv_has ls 5 [(0, .ref (a 0)), (1, .int x1), (2, .int x2), (3, .int x3), (4, .int x4)] := hl
  have hf := obs hf
  have j70 : ∀ (H : Heap) (locs : List Loc) (ls : Array Slot), lv_has ls 5 [] → va_P D vwCl (mW a c σ) H → va_S A s.heap H locs → Option.bind (f_X6_against_j70 σ) some = some r → W p l e rmX6_against s m args below meth cd H locs 0 0 Q (F0 m 70 ls []) := by
    intro H locs ls hl hP hS hf
    have hf := oun (f_X6_against_j70.eq_1 _) hf
    refine lv_iconst (v := (3 : Int32)) hx hb dX6_against_70 (by decide) ?_
    refine lv_goto (tgt := 75) hx hb dX6_against_71 (by decide) ?_
    exact hret _ _ _ _ _ _ dX6_against_75 rfl hP hS ⟨Option.some.inj hf, rfl⟩
  have j23 : ∀ (x1 : Int32) (x3 : Int32) (x4 : Int32) (H : Heap) (locs : List Loc) (ls : Array Slot), lv_has ls 5 [(0, .ref (a 0)), (1, .int x1), (3, .int x3), (4, .int x4)] → va_P D vwCl (mW a c σ) H → va_S A s.heap H locs → Option.bind (f_X6_against_j23 x1 x3 x4 σ) some = some r → W p l e rmX6_against s m args below meth cd H locs 0 0 Q (F0 m 23 ls []) := by
    intro x1 x3 x4 H locs ls hl hP hS hf
    have hf := oun (f_X6_against_j23.eq_1 _ _ _ _) hf
    refine lv_aload_n hx hb dX6_against_23 rfl (lv_at hl 0 rfl) ?_
    refine va_get (D := D) (ci := 4) (v := .ref (a 1)) (C := RX6) (T := TX6) (N := 27) hx hb ht gX6 hown hK.1 hP 0 (mw0 a c σ) rfl 2 (by decide) (ht _ q50) (fun _ h9 => h9) rfl dX6_against_24 ?_
    refine lv_iload_n hx hb dX6_against_27 rfl (lv_at hl 1 rfl) ?_
    obtain ⟨g_1, hf⟩ := ogd hf
    refine va_iald hx hb hK.1 hP 1 0 (mw1 a c σ) rfl (ck_in g_1) dX6_against_28 ?_
    refine lv_bipush (v := (-9 : Int32)) hx hb dX6_against_29 (by decide) ?_
    refine lv_icmp_ne (tgt := 36) hx hb dX6_against_31 (by decide) (fun c_2 => ?_) (fun c_2 => ?_)
    · have hf := oif c_2 hf
      refine lv_iload hx hb dX6_against_36 (lv_at hl 3 rfl) ?_
      refine lv_if_ge (tgt := 43) hx hb dX6_against_38 (by decide) (fun c_3 => ?_) (fun c_3 => ?_)
      · have hf := oit c_3 hf
        refine lv_iload_n hx hb dX6_against_43 rfl (lv_at hl 2 rfl) ?_
        refine lv_if_lt (tgt := 70) hx hb dX6_against_44 (by decide) (fun c_4 => ?_) (fun c_4 => ?_)
        · have hf := oit c_4 hf
          exact j70 _ _ _ (lv_sub hl [] rfl) hP hS hf
        have hf := oif c_4 hf
        refine lv_iload_n hx hb dX6_against_47 rfl (lv_at hl 2 rfl) ?_
        refine lv_aload_n hx hb dX6_against_48 rfl (lv_at hl 0 rfl) ?_
        refine va_get (D := D) (ci := 4) (v := .ref (a 2)) (C := RX6) (T := TX6) (N := 27) hx hb ht gX6 hown hK.1 hP 0 (mw0 a c σ) rfl 3 (by decide) (ht _ q51) (fun _ h9 => h9) rfl dX6_against_49 ?_
        refine lv_iload_n hx hb dX6_against_52 rfl (lv_at hl 1 rfl) ?_
        obtain ⟨g_5, hf⟩ := ogd hf
        refine va_iald hx hb hK.1 hP 2 0 (mw2 a c σ) rfl (ck_in g_5) dX6_against_53 ?_
        refine lv_icmp_gt (tgt := 70) hx hb dX6_against_54 (by decide) (fun c_6 => ?_) (fun c_6 => ?_)
        · have hf := oit c_6 hf
          exact j70 _ _ _ (lv_sub hl [] rfl) hP hS hf
        have hf := oif c_6 hf
        refine lv_iload hx hb dX6_against_57 (lv_at hl 3 rfl) ?_
        refine lv_aload_n hx hb dX6_against_59 rfl (lv_at hl 0 rfl) ?_
        refine va_get (D := D) (ci := 4) (v := .ref (a 2)) (C := RX6) (T := TX6) (N := 27) hx hb ht gX6 hown hK.1 hP 0 (mw0 a c σ) rfl 3 (by decide) (ht _ q51) (fun _ h9 => h9) rfl dX6_against_60 ?_
        refine lv_iload_n hx hb dX6_against_63 rfl (lv_at hl 1 rfl) ?_
        obtain ⟨g_7, hf⟩ := ogd hf
        refine va_iald hx hb hK.1 hP 2 0 (mw2 a c σ) rfl (ck_in g_7) dX6_against_64 ?_
        refine lv_iload_n hx hb dX6_against_65 rfl (lv_at hl 2 rfl) ?_
        refine lv_isub hx hb dX6_against_66 ?_
        refine lv_icmp_le (tgt := 74) hx hb dX6_against_67 (by decide) (fun c_8 => ?_) (fun c_8 => ?_)
        · have hf := oit c_8 hf
          refine lv_iconst (v := (0 : Int32)) hx hb dX6_against_74 (by decide) ?_
          exact hret _ _ _ _ _ _ dX6_against_75 rfl hP hS ⟨Option.some.inj hf, rfl⟩
        have hf := oif c_8 hf
        exact j70 _ _ _ (lv_sub hl [] rfl) hP hS hf
      have hf := oif c_3 hf
      refine lv_iconst (v := (4 : Int32)) hx hb dX6_against_41 (by decide) ?_
      exact hret _ _ _ _ _ _ dX6_against_42 rfl hP hS ⟨Option.some.inj hf, rfl⟩
    have hf := oit c_2 hf
    refine lv_iconst (v := (1 : Int32)) hx hb dX6_against_34 (by decide) ?_
    exact hret _ _ _ _ _ _ dX6_against_35 rfl hP hS ⟨Option.some.inj hf, rfl⟩
  have hf := oun (f_X6_against.eq_1 _ _ _ _ _) hf
  refine lv_aload_n hx hb dX6_against_0 rfl (lv_at hl 0 rfl) ?_
  refine va_get (D := D) (ci := 4) (v := .ref (a 1)) (C := RX6) (T := TX6) (N := 27) hx hb ht gX6 hown hK.1 hP 0 (mw0 a c σ) rfl 2 (by decide) (ht _ q50) (fun _ h9 => h9) rfl dX6_against_1 ?_
  refine lv_iload_n hx hb dX6_against_4 rfl (lv_at hl 1 rfl) ?_
  obtain ⟨g_9, hf⟩ := ogd hf
  refine va_iald hx hb hK.1 hP 1 0 (mw1 a c σ) rfl (ck_in g_9) dX6_against_5 ?_
  refine lv_bipush (v := (-9 : Int32)) hx hb dX6_against_6 (by decide) ?_
  refine lv_icmp_eq (tgt := 23) hx hb dX6_against_8 (by decide) (fun c_10 => ?_) (fun c_10 => ?_)
  · have hf := oit c_10 hf
    exact j23 x1 x3 x4 _ _ _ (lv_sub hl [0, 1, 3, 4] rfl) hP hS hf
  have hf := oif c_10 hf
  refine lv_aload_n hx hb dX6_against_11 rfl (lv_at hl 0 rfl) ?_
  refine va_get (D := D) (ci := 4) (v := .ref (a 1)) (C := RX6) (T := TX6) (N := 27) hx hb ht gX6 hown hK.1 hP 0 (mw0 a c σ) rfl 2 (by decide) (ht _ q50) (fun _ h9 => h9) rfl dX6_against_12 ?_
  refine lv_iload_n hx hb dX6_against_15 rfl (lv_at hl 1 rfl) ?_
  obtain ⟨g_11, hf⟩ := ogd hf
  refine va_iald hx hb hK.1 hP 1 0 (mw1 a c σ) rfl (ck_in g_11) dX6_against_16 ?_
  refine lv_iload_n hx hb dX6_against_17 rfl (lv_at hl 2 rfl) ?_
  refine lv_icmp_eq (tgt := 23) hx hb dX6_against_18 (by decide) (fun c_12 => ?_) (fun c_12 => ?_)
  · have hf := oit c_12 hf
    exact j23 x1 x3 x4 _ _ _ (lv_sub hl [0, 1, 3, 4] rfl) hP hS hf
  have hf := oif c_12 hf
  refine lv_iconst (v := (2 : Int32)) hx hb dX6_against_21 (by decide) ?_
  exact hret _ _ _ _ _ _ dX6_against_22 rfl hP hS ⟨Option.some.inj hf, rfl⟩
theorem dX6_fails_0 : decode cX6_fails 0 = .ok (.aload_n 0, 1) := by decide +kernel
theorem dX6_fails_1 : decode cX6_fails 1 = .ok (.iload_n 1, 1) := by decide +kernel
theorem dX6_fails_2 : decode cX6_fails 2 = .ok (.putfield 65, 3) := by decide +kernel
theorem dX6_fails_5 : decode cX6_fails 5 = .ok (.bipush (-10), 2) := by decide +kernel
theorem dX6_fails_7 : decode cX6_fails 7 = .ok (.iload_n 1, 1) := by decide +kernel
theorem dX6_fails_8 : decode cX6_fails 8 = .ok (.isub, 1) := by decide +kernel
theorem dX6_fails_9 : decode cX6_fails 9 = .ok (.ireturn, 1) := by decide +kernel
def f_X6_fails (x1 : Int32) (σ : St) : Option (Int32 × St) :=
  nm (wS σ 0 0 x1) fun σ_1 =>
  some (((-10 : Int32) - x1), σ_1)
abbrev rmX6_fails : Room := { frames := 0, cells := 0, slots := 0, locals := 0 }
set_option maxRecDepth 100000 in
set_option maxHeartbeats 4000000 in
theorem c_X6_fails (l : Launch) (D : va_G) (a : Nat → Nat) (c : Nat → ClassId) (A : Nat → Prop) (hD : ∀ σ, va_D A (mW a c σ)) (x1 : Int32) (σ : St) (r : Int32) (u : St) (hf : f_X6_fails x1 σ = some (r, u)) : MetI l yX6_fails cX6_fails 2 (some .int) rmX6_fails (mW a c) D c A [.ref (a 0), .int x1] σ r u := by
  refine mkI (by decide) (Nat.le_of_ble_eq_true rfl) rfl ?_
  intro p e s m args below meth cd Q ls h0 hK hP hret hl
  obtain ⟨S, hr, hlk⟩ := h0
  obtain ⟨hx, hb, hml, hown, ht⟩ := id S
  have hS : va_S A s.heap s.heap [] := va_S.rf
  have hl : lv_has ls 2 [(0, .ref (a 0)), (1, .int x1)] := hl
  have hf := obs hf
  have hf := oun (f_X6_fails.eq_1 _ _) hf
  refine lv_aload_n hx hb dX6_fails_0 rfl (lv_at hl 0 rfl) ?_
  refine lv_iload_n hx hb dX6_fails_1 rfl (lv_at hl 1 rfl) ?_
  refine va_put (D := D) (ci := 4) (v := .int x1) (ty := .int) (C := RX6) (T := TX6) (N := 27) hx hb ht gX6 tyX6 tyX6_ok nmX6 hown hK.1 hP (hD σ) hS 0 (mw0 a c σ) rfl 0 (by decide) (ht _ q136) (fun _ h9 => h9) rfl (by decide +kernel) rfl rfl (Nat.le_of_ble_eq_true rfl) dX6_fails_2 (fun H locs hP _ hS => ?_)
  have hP := vP_eq (mpX6_fault a c σ x1) hP
  obtain ⟨σ_1, eσ_1, hf⟩ := onm hf
  rw [eσ_1] at hP
  refine lv_bipush (v := (-10 : Int32)) hx hb dX6_fails_5 (by decide) ?_
  refine lv_iload_n hx hb dX6_fails_7 rfl (lv_at hl 1 rfl) ?_
  refine lv_isub hx hb dX6_fails_8 ?_
  exact hret _ _ _ _ _ _ dX6_fails_9 rfl hP hS (oret hf)
theorem dX6_isSign_0 : decode cX6_isSign 0 = .ok (.aload_n 0, 1) := by decide +kernel
theorem dX6_isSign_1 : decode cX6_isSign 1 = .ok (.getfield 82, 3) := by decide +kernel
theorem dX6_isSign_4 : decode cX6_isSign 4 = .ok (.iload_n 1, 1) := by decide +kernel
theorem dX6_isSign_5 : decode cX6_isSign 5 = .ok (.if_icmp .ge 16, 3) := by decide +kernel
theorem dX6_isSign_8 : decode cX6_isSign 8 = .ok (.aload_n 0, 1) := by decide +kernel
theorem dX6_isSign_9 : decode cX6_isSign 9 = .ok (.getfield 16, 3) := by decide +kernel
theorem dX6_isSign_12 : decode cX6_isSign 12 = .ok (.aload_n 0, 1) := by decide +kernel
theorem dX6_isSign_13 : decode cX6_isSign 13 = .ok (.getfield 82, 3) := by decide +kernel
theorem dX6_isSign_16 : decode cX6_isSign 16 = .ok (.iaload, 1) := by decide +kernel
theorem dX6_isSign_17 : decode cX6_isSign 17 = .ok (.iload_n 2, 1) := by decide +kernel
theorem dX6_isSign_18 : decode cX6_isSign 18 = .ok (.if_icmp .eq 5, 3) := by decide +kernel
theorem dX6_isSign_21 : decode cX6_isSign 21 = .ok (.iconst 0, 1) := by decide +kernel
theorem dX6_isSign_22 : decode cX6_isSign 22 = .ok (.ireturn, 1) := by decide +kernel
theorem dX6_isSign_23 : decode cX6_isSign 23 = .ok (.aload_n 0, 1) := by decide +kernel
theorem dX6_isSign_24 : decode cX6_isSign 24 = .ok (.dup, 1) := by decide +kernel
theorem dX6_isSign_25 : decode cX6_isSign 25 = .ok (.getfield 82, 3) := by decide +kernel
theorem dX6_isSign_28 : decode cX6_isSign 28 = .ok (.iconst 1, 1) := by decide +kernel
theorem dX6_isSign_29 : decode cX6_isSign 29 = .ok (.iadd, 1) := by decide +kernel
theorem dX6_isSign_30 : decode cX6_isSign 30 = .ok (.putfield 82, 3) := by decide +kernel
theorem dX6_isSign_33 : decode cX6_isSign 33 = .ok (.iconst 1, 1) := by decide +kernel
theorem dX6_isSign_34 : decode cX6_isSign 34 = .ok (.ireturn, 1) := by decide +kernel
def f_X6_isSign (x1 : Int32) (x2 : Int32) (σ : St) : Option (Int32 × St) :=
  if x1 ≤ (σ.1 0 5) then (some ((0 : Int32), σ))
  else gd (ck (σ.1 0 5) 240) <|
  if (σ.1 3 (σ.1 0 5).toNatClampNeg) = x2 then (nm (wS σ 0 5 ((σ.1 0 5) + (1 : Int32))) fun σ_4 =>
    some ((1 : Int32), σ_4))
  else some ((0 : Int32), σ)
abbrev rmX6_isSign : Room := { frames := 0, cells := 0, slots := 0, locals := 0 }
set_option maxRecDepth 100000 in
set_option maxHeartbeats 4000000 in
theorem c_X6_isSign (l : Launch) (D : va_G) (a : Nat → Nat) (c : Nat → ClassId) (A : Nat → Prop) (hD : ∀ σ, va_D A (mW a c σ)) (x1 : Int32) (x2 : Int32) (σ : St) (r : Int32) (u : St) (hf : f_X6_isSign x1 x2 σ = some (r, u)) : MetI l yX6_isSign cX6_isSign 3 (some .boolean) rmX6_isSign (mW a c) D c A [.ref (a 0), .int x1, .int x2] σ r u := by
  refine mkI (by decide) (Nat.le_of_ble_eq_true rfl) rfl ?_
  intro p e s m args below meth cd Q ls h0 hK hP hret hl
  obtain ⟨S, hr, hlk⟩ := h0
  obtain ⟨hx, hb, hml, hown, ht⟩ := id S
  have hS : va_S A s.heap s.heap [] := va_S.rf
  have hl : lv_has ls 3 [(0, .ref (a 0)), (1, .int x1), (2, .int x2)] := hl
  have hf := obs hf
  have hf := oun (f_X6_isSign.eq_1 _ _ _) hf
  refine lv_aload_n hx hb dX6_isSign_0 rfl (lv_at hl 0 rfl) ?_
  refine va_get (D := D) (ci := 4) (v := .int (σ.1 0 5)) (C := RX6) (T := TX6) (N := 27) hx hb ht gX6 hown hK.1 hP 0 (mw0 a c σ) rfl 12 (by decide) (ht _ q137) (fun _ h9 => h9) rfl dX6_isSign_1 ?_
  refine lv_iload_n hx hb dX6_isSign_4 rfl (lv_at hl 1 rfl) ?_
  refine lv_icmp_ge (tgt := 21) hx hb dX6_isSign_5 (by decide) (fun c_1 => ?_) (fun c_1 => ?_)
  · have hf := oit c_1 hf
    refine lv_iconst (v := (0 : Int32)) hx hb dX6_isSign_21 (by decide) ?_
    exact hret _ _ _ _ _ _ dX6_isSign_22 (by decide) hP hS (oret hf)
  have hf := oif c_1 hf
  refine lv_aload_n hx hb dX6_isSign_8 rfl (lv_at hl 0 rfl) ?_
  refine va_get (D := D) (ci := 4) (v := .ref (a 3)) (C := RX6) (T := TX6) (N := 27) hx hb ht gX6 hown hK.1 hP 0 (mw0 a c σ) rfl 4 (by decide) (ht _ q52) (fun _ h9 => h9) rfl dX6_isSign_9 ?_
  refine lv_aload_n hx hb dX6_isSign_12 rfl (lv_at hl 0 rfl) ?_
  refine va_get (D := D) (ci := 4) (v := .int (σ.1 0 5)) (C := RX6) (T := TX6) (N := 27) hx hb ht gX6 hown hK.1 hP 0 (mw0 a c σ) rfl 12 (by decide) (ht _ q137) (fun _ h9 => h9) rfl dX6_isSign_13 ?_
  obtain ⟨g_2, hf⟩ := ogd hf
  refine va_iald hx hb hK.1 hP 3 0 (mw3 a c σ) rfl (ck_in g_2) dX6_isSign_16 ?_
  refine lv_iload_n hx hb dX6_isSign_17 rfl (lv_at hl 2 rfl) ?_
  refine lv_icmp_eq (tgt := 23) hx hb dX6_isSign_18 (by decide) (fun c_3 => ?_) (fun c_3 => ?_)
  · have hf := oit c_3 hf
    refine lv_aload_n hx hb dX6_isSign_23 rfl (lv_at hl 0 rfl) ?_
    refine lv_dup hx hb dX6_isSign_24 rfl ?_
    refine va_get (D := D) (ci := 4) (v := .int (σ.1 0 5)) (C := RX6) (T := TX6) (N := 27) hx hb ht gX6 hown hK.1 hP 0 (mw0 a c σ) rfl 12 (by decide) (ht _ q137) (fun _ h9 => h9) rfl dX6_isSign_25 ?_
    refine lv_iconst (v := (1 : Int32)) hx hb dX6_isSign_28 (by decide) ?_
    refine lv_iadd hx hb dX6_isSign_29 ?_
    refine va_put (D := D) (ci := 4) (v := .int ((σ.1 0 5) + (1 : Int32))) (ty := .int) (C := RX6) (T := TX6) (N := 27) hx hb ht gX6 tyX6 tyX6_ok nmX6 hown hK.1 hP (hD σ) hS 0 (mw0 a c σ) rfl 12 (by decide) (ht _ q137) (fun _ h9 => h9) rfl (by decide +kernel) rfl rfl (Nat.le_of_ble_eq_true rfl) dX6_isSign_30 (fun H locs hP _ hS => ?_)
    have hP := vP_eq (mpX6_at a c σ ((σ.1 0 5) + (1 : Int32))) hP
    obtain ⟨σ_4, eσ_4, hf⟩ := onm hf
    rw [eσ_4] at hP
    refine lv_iconst (v := (1 : Int32)) hx hb dX6_isSign_33 (by decide) ?_
    exact hret _ _ _ _ _ _ dX6_isSign_34 (by decide) hP hS (oret hf)
  have hf := oif c_3 hf
  refine lv_iconst (v := (0 : Int32)) hx hb dX6_isSign_21 (by decide) ?_
  exact hret _ _ _ _ _ _ dX6_isSign_22 (by decide) hP hS (oret hf)
theorem dX6_digit_0 : decode cX6_digit 0 = .ok (.aload_n 0, 1) := by decide +kernel
theorem dX6_digit_1 : decode cX6_digit 1 = .ok (.getfield 82, 3) := by decide +kernel
theorem dX6_digit_4 : decode cX6_digit 4 = .ok (.iload_n 1, 1) := by decide +kernel
theorem dX6_digit_5 : decode cX6_digit 5 = .ok (.if_icmp .ge 26, 3) := by decide +kernel
theorem dX6_digit_8 : decode cX6_digit 8 = .ok (.aload_n 0, 1) := by decide +kernel
theorem dX6_digit_9 : decode cX6_digit 9 = .ok (.getfield 16, 3) := by decide +kernel
theorem dX6_digit_12 : decode cX6_digit 12 = .ok (.aload_n 0, 1) := by decide +kernel
theorem dX6_digit_13 : decode cX6_digit 13 = .ok (.getfield 82, 3) := by decide +kernel
theorem dX6_digit_16 : decode cX6_digit 16 = .ok (.iaload, 1) := by decide +kernel
theorem dX6_digit_17 : decode cX6_digit 17 = .ok (.bipush 48, 2) := by decide +kernel
theorem dX6_digit_19 : decode cX6_digit 19 = .ok (.iload_n 2, 1) := by decide +kernel
theorem dX6_digit_20 : decode cX6_digit 20 = .ok (.iadd, 1) := by decide +kernel
theorem dX6_digit_21 : decode cX6_digit 21 = .ok (.bipush 48, 2) := by decide +kernel
theorem dX6_digit_23 : decode cX6_digit 23 = .ok (.iload_n 3, 1) := by decide +kernel
theorem dX6_digit_24 : decode cX6_digit 24 = .ok (.iadd, 1) := by decide +kernel
theorem dX6_digit_25 : decode cX6_digit 25 = .ok (.invokestatic 71, 3) := by decide +kernel
theorem dX6_digit_28 : decode cX6_digit 28 = .ok (.ifCond .ne 6, 3) := by decide +kernel
theorem dX6_digit_31 : decode cX6_digit 31 = .ok (.bipush (-9), 2) := by decide +kernel
theorem dX6_digit_33 : decode cX6_digit 33 = .ok (.ireturn, 1) := by decide +kernel
theorem dX6_digit_34 : decode cX6_digit 34 = .ok (.aload_n 0, 1) := by decide +kernel
theorem dX6_digit_35 : decode cX6_digit 35 = .ok (.dup, 1) := by decide +kernel
theorem dX6_digit_36 : decode cX6_digit 36 = .ok (.getfield 82, 3) := by decide +kernel
theorem dX6_digit_39 : decode cX6_digit 39 = .ok (.iconst 1, 1) := by decide +kernel
theorem dX6_digit_40 : decode cX6_digit 40 = .ok (.iadd, 1) := by decide +kernel
theorem dX6_digit_41 : decode cX6_digit 41 = .ok (.putfield 82, 3) := by decide +kernel
theorem dX6_digit_44 : decode cX6_digit 44 = .ok (.aload_n 0, 1) := by decide +kernel
theorem dX6_digit_45 : decode cX6_digit 45 = .ok (.getfield 16, 3) := by decide +kernel
theorem dX6_digit_48 : decode cX6_digit 48 = .ok (.aload_n 0, 1) := by decide +kernel
theorem dX6_digit_49 : decode cX6_digit 49 = .ok (.getfield 82, 3) := by decide +kernel
theorem dX6_digit_52 : decode cX6_digit 52 = .ok (.iconst 1, 1) := by decide +kernel
theorem dX6_digit_53 : decode cX6_digit 53 = .ok (.isub, 1) := by decide +kernel
theorem dX6_digit_54 : decode cX6_digit 54 = .ok (.iaload, 1) := by decide +kernel
theorem dX6_digit_55 : decode cX6_digit 55 = .ok (.bipush 48, 2) := by decide +kernel
theorem dX6_digit_57 : decode cX6_digit 57 = .ok (.isub, 1) := by decide +kernel
theorem dX6_digit_58 : decode cX6_digit 58 = .ok (.ireturn, 1) := by decide +kernel
def f_X6_digit (x1 : Int32) (x2 : Int32) (x3 : Int32) (σ : St) : Option (Int32 × St) :=
  if x1 ≤ (σ.1 0 5) then (some ((-9 : Int32), σ))
  else gd (ck (σ.1 0 5) 240) <|
  bd (f_X6_within (σ.1 3 (σ.1 0 5).toNatClampNeg) ((48 : Int32) + x2) ((48 : Int32) + x3)) fun r_3 =>
  if r_3 = 0 then (some ((-9 : Int32), σ))
  else nm (wS σ 0 5 ((σ.1 0 5) + (1 : Int32))) fun σ_6 =>
    gd (ck ((σ_6.1 0 5) - (1 : Int32)) 240) <|
    some (((σ_6.1 3 ((σ_6.1 0 5) - (1 : Int32)).toNatClampNeg) - (48 : Int32)), σ_6)
abbrev rmX6_digit : Room := { frames := 1, cells := 0, slots := 0, locals := 22 }
set_option maxRecDepth 100000 in
set_option maxHeartbeats 4000000 in
theorem c_X6_digit (l : Launch) (D : va_G) (a : Nat → Nat) (c : Nat → ClassId) (A : Nat → Prop) (hD : ∀ σ, va_D A (mW a c σ)) (x1 : Int32) (x2 : Int32) (x3 : Int32) (σ : St) (r : Int32) (u : St) (hf : f_X6_digit x1 x2 x3 σ = some (r, u)) : MetI l yX6_digit cX6_digit 4 (some .int) rmX6_digit (mW a c) D c A [.ref (a 0), .int x1, .int x2, .int x3] σ r u := by
  refine mkI (by decide) (Nat.le_of_ble_eq_true rfl) rfl ?_
  intro p e s m args below meth cd Q ls h0 hK hP hret hl
  obtain ⟨S, hr, hlk⟩ := h0
  obtain ⟨hx, hb, hml, hown, ht⟩ := id S
  have hS : va_S A s.heap s.heap [] := va_S.rf
  have hl : lv_has ls 4 [(0, .ref (a 0)), (1, .int x1), (2, .int x2), (3, .int x3)] := hl
  have hf := obs hf
  have hf := oun (f_X6_digit.eq_1 _ _ _ _) hf
  refine lv_aload_n hx hb dX6_digit_0 rfl (lv_at hl 0 rfl) ?_
  refine va_get (D := D) (ci := 4) (v := .int (σ.1 0 5)) (C := RX6) (T := TX6) (N := 27) hx hb ht gX6 hown hK.1 hP 0 (mw0 a c σ) rfl 12 (by decide) (ht _ q137) (fun _ h9 => h9) rfl dX6_digit_1 ?_
  refine lv_iload_n hx hb dX6_digit_4 rfl (lv_at hl 1 rfl) ?_
  refine lv_icmp_ge (tgt := 31) hx hb dX6_digit_5 (by decide) (fun c_1 => ?_) (fun c_1 => ?_)
  · have hf := oit c_1 hf
    refine lv_bipush (v := (-9 : Int32)) hx hb dX6_digit_31 (by decide) ?_
    exact hret _ _ _ _ _ _ dX6_digit_33 rfl hP hS (oret hf)
  have hf := oif c_1 hf
  refine lv_aload_n hx hb dX6_digit_8 rfl (lv_at hl 0 rfl) ?_
  refine va_get (D := D) (ci := 4) (v := .ref (a 3)) (C := RX6) (T := TX6) (N := 27) hx hb ht gX6 hown hK.1 hP 0 (mw0 a c σ) rfl 4 (by decide) (ht _ q52) (fun _ h9 => h9) rfl dX6_digit_9 ?_
  refine lv_aload_n hx hb dX6_digit_12 rfl (lv_at hl 0 rfl) ?_
  refine va_get (D := D) (ci := 4) (v := .int (σ.1 0 5)) (C := RX6) (T := TX6) (N := 27) hx hb ht gX6 hown hK.1 hP 0 (mw0 a c σ) rfl 12 (by decide) (ht _ q137) (fun _ h9 => h9) rfl dX6_digit_13 ?_
  obtain ⟨g_2, hf⟩ := ogd hf
  refine va_iald hx hb hK.1 hP 3 0 (mw3 a c σ) rfl (ck_in g_2) dX6_digit_16 ?_
  refine lv_bipush (v := (48 : Int32)) hx hb dX6_digit_17 (by decide) ?_
  refine lv_iload_n hx hb dX6_digit_19 rfl (lv_at hl 2 rfl) ?_
  refine lv_iadd hx hb dX6_digit_20 ?_
  refine lv_bipush (v := (48 : Int32)) hx hb dX6_digit_21 (by decide) ?_
  refine lv_iload_n hx hb dX6_digit_23 rfl (lv_at hl 3 rfl) ?_
  refine lv_iadd hx hb dX6_digit_24 ?_
  obtain ⟨r_3, h_4, hf⟩ := obd hf
  refine xs_S (As := [.int (σ.1 3 (σ.1 0 5).toNatClampNeg), .int ((48 : Int32) + x2), .int ((48 : Int32) + x3)]) (rest := []) S k_X6_within q146 q147 ⟨Nat.le_of_ble_eq_true rfl, Nat.le_of_ble_eq_true rfl⟩ ⟨rfl, rfl⟩ (c_X6_within l (σ.1 3 (σ.1 0 5).toNatClampNeg) ((48 : Int32) + x2) ((48 : Int32) + x3) r_3 h_4) hK.2 rfl hl.1 rfl (Nat.le_of_ble_eq_true rfl) dX6_digit_25 ⟨Nat.zero_le _, Nat.zero_le _⟩ ?_
  refine lv_if_ne (tgt := 34) hx hb dX6_digit_28 (by decide) (fun c_5 => ?_) (fun c_5 => ?_)
  · have hf := oif c_5 hf
    refine lv_aload_n hx hb dX6_digit_34 rfl (lv_at hl 0 rfl) ?_
    refine lv_dup hx hb dX6_digit_35 rfl ?_
    refine va_get (D := D) (ci := 4) (v := .int (σ.1 0 5)) (C := RX6) (T := TX6) (N := 27) hx hb ht gX6 hown hK.1 hP 0 (mw0 a c σ) rfl 12 (by decide) (ht _ q137) (fun _ h9 => h9) rfl dX6_digit_36 ?_
    refine lv_iconst (v := (1 : Int32)) hx hb dX6_digit_39 (by decide) ?_
    refine lv_iadd hx hb dX6_digit_40 ?_
    refine va_put (D := D) (ci := 4) (v := .int ((σ.1 0 5) + (1 : Int32))) (ty := .int) (C := RX6) (T := TX6) (N := 27) hx hb ht gX6 tyX6 tyX6_ok nmX6 hown hK.1 hP (hD σ) hS 0 (mw0 a c σ) rfl 12 (by decide) (ht _ q137) (fun _ h9 => h9) rfl (by decide +kernel) rfl rfl (Nat.le_of_ble_eq_true rfl) dX6_digit_41 (fun H locs hP _ hS => ?_)
    have hP := vP_eq (mpX6_at a c σ ((σ.1 0 5) + (1 : Int32))) hP
    obtain ⟨σ_6, eσ_6, hf⟩ := onm hf
    rw [eσ_6] at hP
    refine lv_aload_n hx hb dX6_digit_44 rfl (lv_at hl 0 rfl) ?_
    refine va_get (D := D) (ci := 4) (v := .ref (a 3)) (C := RX6) (T := TX6) (N := 27) hx hb ht gX6 hown hK.1 hP 0 (mw0 a c σ_6) rfl 4 (by decide) (ht _ q52) (fun _ h9 => h9) rfl dX6_digit_45 ?_
    refine lv_aload_n hx hb dX6_digit_48 rfl (lv_at hl 0 rfl) ?_
    refine va_get (D := D) (ci := 4) (v := .int (σ_6.1 0 5)) (C := RX6) (T := TX6) (N := 27) hx hb ht gX6 hown hK.1 hP 0 (mw0 a c σ_6) rfl 12 (by decide) (ht _ q137) (fun _ h9 => h9) rfl dX6_digit_49 ?_
    refine lv_iconst (v := (1 : Int32)) hx hb dX6_digit_52 (by decide) ?_
    refine lv_isub hx hb dX6_digit_53 ?_
    obtain ⟨g_7, hf⟩ := ogd hf
    refine va_iald hx hb hK.1 hP 3 0 (mw3 a c σ_6) rfl (ck_in g_7) dX6_digit_54 ?_
    refine lv_bipush (v := (48 : Int32)) hx hb dX6_digit_55 (by decide) ?_
    refine lv_isub hx hb dX6_digit_57 ?_
    exact hret _ _ _ _ _ _ dX6_digit_58 rfl hP hS (oret hf)
  have hf := oit c_5 hf
  refine lv_bipush (v := (-9 : Int32)) hx hb dX6_digit_31 (by decide) ?_
  exact hret _ _ _ _ _ _ dX6_digit_33 rfl hP hS (oret hf)
theorem dX6_readDoll_0 : decode cX6_readDoll 0 = .ok (.aload_n 0, 1) := by decide +kernel
theorem dX6_readDoll_1 : decode cX6_readDoll 1 = .ok (.getfield 82, 3) := by decide +kernel
theorem dX6_readDoll_4 : decode cX6_readDoll 4 = .ok (.iload_n 1, 1) := by decide +kernel
theorem dX6_readDoll_5 : decode cX6_readDoll 5 = .ok (.if_icmp .ge 15, 3) := by decide +kernel
theorem dX6_readDoll_8 : decode cX6_readDoll 8 = .ok (.aload_n 0, 1) := by decide +kernel
theorem dX6_readDoll_9 : decode cX6_readDoll 9 = .ok (.getfield 16, 3) := by decide +kernel
theorem dX6_readDoll_12 : decode cX6_readDoll 12 = .ok (.aload_n 0, 1) := by decide +kernel
theorem dX6_readDoll_13 : decode cX6_readDoll 13 = .ok (.getfield 82, 3) := by decide +kernel
theorem dX6_readDoll_16 : decode cX6_readDoll 16 = .ok (.iaload, 1) := by decide +kernel
theorem dX6_readDoll_17 : decode cX6_readDoll 17 = .ok (.goto 4, 3) := by decide +kernel
theorem dX6_readDoll_20 : decode cX6_readDoll 20 = .ok (.iconst 0, 1) := by decide +kernel
theorem dX6_readDoll_21 : decode cX6_readDoll 21 = .ok (.istore_n 2, 1) := by decide +kernel
theorem dX6_readDoll_22 : decode cX6_readDoll 22 = .ok (.iconst 3, 1) := by decide +kernel
theorem dX6_readDoll_23 : decode cX6_readDoll 23 = .ok (.aload_n 0, 1) := by decide +kernel
theorem dX6_readDoll_24 : decode cX6_readDoll 24 = .ok (.getfield 102, 3) := by decide +kernel
theorem dX6_readDoll_27 : decode cX6_readDoll 27 = .ok (.imul, 1) := by decide +kernel
theorem dX6_readDoll_28 : decode cX6_readDoll 28 = .ok (.istore_n 3, 1) := by decide +kernel
theorem dX6_readDoll_29 : decode cX6_readDoll 29 = .ok (.aload_n 0, 1) := by decide +kernel
theorem dX6_readDoll_30 : decode cX6_readDoll 30 = .ok (.getfield 31, 3) := by decide +kernel
theorem dX6_readDoll_33 : decode cX6_readDoll 33 = .ok (.iload_n 3, 1) := by decide +kernel
theorem dX6_readDoll_34 : decode cX6_readDoll 34 = .ok (.iload_n 2, 1) := by decide +kernel
theorem dX6_readDoll_35 : decode cX6_readDoll 35 = .ok (.bipush 112, 2) := by decide +kernel
theorem dX6_readDoll_37 : decode cX6_readDoll 37 = .ok (.if_icmp .ne 7, 3) := by decide +kernel
theorem dX6_readDoll_40 : decode cX6_readDoll 40 = .ok (.iconst 0, 1) := by decide +kernel
theorem dX6_readDoll_41 : decode cX6_readDoll 41 = .ok (.goto 25, 3) := by decide +kernel
theorem dX6_readDoll_44 : decode cX6_readDoll 44 = .ok (.iload_n 2, 1) := by decide +kernel
theorem dX6_readDoll_45 : decode cX6_readDoll 45 = .ok (.bipush 98, 2) := by decide +kernel
theorem dX6_readDoll_47 : decode cX6_readDoll 47 = .ok (.if_icmp .ne 7, 3) := by decide +kernel
theorem dX6_readDoll_50 : decode cX6_readDoll 50 = .ok (.iconst 1, 1) := by decide +kernel
theorem dX6_readDoll_51 : decode cX6_readDoll 51 = .ok (.goto 15, 3) := by decide +kernel
theorem dX6_readDoll_54 : decode cX6_readDoll 54 = .ok (.iload_n 2, 1) := by decide +kernel
theorem dX6_readDoll_55 : decode cX6_readDoll 55 = .ok (.bipush 115, 2) := by decide +kernel
theorem dX6_readDoll_57 : decode cX6_readDoll 57 = .ok (.if_icmp .ne 7, 3) := by decide +kernel
theorem dX6_readDoll_60 : decode cX6_readDoll 60 = .ok (.iconst 2, 1) := by decide +kernel
theorem dX6_readDoll_61 : decode cX6_readDoll 61 = .ok (.goto 5, 3) := by decide +kernel
theorem dX6_readDoll_64 : decode cX6_readDoll 64 = .ok (.bipush (-9), 2) := by decide +kernel
theorem dX6_readDoll_66 : decode cX6_readDoll 66 = .ok (.iastore, 1) := by decide +kernel
theorem dX6_readDoll_67 : decode cX6_readDoll 67 = .ok (.aload_n 0, 1) := by decide +kernel
theorem dX6_readDoll_68 : decode cX6_readDoll 68 = .ok (.getfield 31, 3) := by decide +kernel
theorem dX6_readDoll_71 : decode cX6_readDoll 71 = .ok (.iload_n 3, 1) := by decide +kernel
theorem dX6_readDoll_72 : decode cX6_readDoll 72 = .ok (.iaload, 1) := by decide +kernel
theorem dX6_readDoll_73 : decode cX6_readDoll 73 = .ok (.bipush (-9), 2) := by decide +kernel
theorem dX6_readDoll_75 : decode cX6_readDoll 75 = .ok (.if_icmp .ne 5, 3) := by decide +kernel
theorem dX6_readDoll_78 : decode cX6_readDoll 78 = .ok (.iconst 0, 1) := by decide +kernel
theorem dX6_readDoll_79 : decode cX6_readDoll 79 = .ok (.ireturn, 1) := by decide +kernel
theorem dX6_readDoll_80 : decode cX6_readDoll 80 = .ok (.aload_n 0, 1) := by decide +kernel
theorem dX6_readDoll_81 : decode cX6_readDoll 81 = .ok (.dup, 1) := by decide +kernel
theorem dX6_readDoll_82 : decode cX6_readDoll 82 = .ok (.getfield 82, 3) := by decide +kernel
theorem dX6_readDoll_85 : decode cX6_readDoll 85 = .ok (.iconst 1, 1) := by decide +kernel
theorem dX6_readDoll_86 : decode cX6_readDoll 86 = .ok (.iadd, 1) := by decide +kernel
theorem dX6_readDoll_87 : decode cX6_readDoll 87 = .ok (.putfield 82, 3) := by decide +kernel
theorem dX6_readDoll_90 : decode cX6_readDoll 90 = .ok (.aload_n 0, 1) := by decide +kernel
theorem dX6_readDoll_91 : decode cX6_readDoll 91 = .ok (.getfield 31, 3) := by decide +kernel
theorem dX6_readDoll_94 : decode cX6_readDoll 94 = .ok (.iload_n 3, 1) := by decide +kernel
theorem dX6_readDoll_95 : decode cX6_readDoll 95 = .ok (.iconst 1, 1) := by decide +kernel
theorem dX6_readDoll_96 : decode cX6_readDoll 96 = .ok (.iadd, 1) := by decide +kernel
theorem dX6_readDoll_97 : decode cX6_readDoll 97 = .ok (.aload_n 0, 1) := by decide +kernel
theorem dX6_readDoll_98 : decode cX6_readDoll 98 = .ok (.iload_n 1, 1) := by decide +kernel
theorem dX6_readDoll_99 : decode cX6_readDoll 99 = .ok (.iconst 1, 1) := by decide +kernel
theorem dX6_readDoll_100 : decode cX6_readDoll 100 = .ok (.bipush 9, 2) := by decide +kernel
theorem dX6_readDoll_102 : decode cX6_readDoll 102 = .ok (.invokevirtual 121, 3) := by decide +kernel
theorem dX6_readDoll_105 : decode cX6_readDoll 105 = .ok (.iastore, 1) := by decide +kernel
theorem dX6_readDoll_106 : decode cX6_readDoll 106 = .ok (.aload_n 0, 1) := by decide +kernel
theorem dX6_readDoll_107 : decode cX6_readDoll 107 = .ok (.getfield 31, 3) := by decide +kernel
theorem dX6_readDoll_110 : decode cX6_readDoll 110 = .ok (.iload_n 3, 1) := by decide +kernel
theorem dX6_readDoll_111 : decode cX6_readDoll 111 = .ok (.iconst 1, 1) := by decide +kernel
theorem dX6_readDoll_112 : decode cX6_readDoll 112 = .ok (.iadd, 1) := by decide +kernel
theorem dX6_readDoll_113 : decode cX6_readDoll 113 = .ok (.iaload, 1) := by decide +kernel
theorem dX6_readDoll_114 : decode cX6_readDoll 114 = .ok (.bipush (-9), 2) := by decide +kernel
theorem dX6_readDoll_116 : decode cX6_readDoll 116 = .ok (.if_icmp .ne 5, 3) := by decide +kernel
theorem dX6_readDoll_119 : decode cX6_readDoll 119 = .ok (.iconst 0, 1) := by decide +kernel
theorem dX6_readDoll_120 : decode cX6_readDoll 120 = .ok (.ireturn, 1) := by decide +kernel
theorem dX6_readDoll_121 : decode cX6_readDoll 121 = .ok (.aload_n 0, 1) := by decide +kernel
theorem dX6_readDoll_122 : decode cX6_readDoll 122 = .ok (.getfield 31, 3) := by decide +kernel
theorem dX6_readDoll_125 : decode cX6_readDoll 125 = .ok (.iload_n 3, 1) := by decide +kernel
theorem dX6_readDoll_126 : decode cX6_readDoll 126 = .ok (.iconst 2, 1) := by decide +kernel
theorem dX6_readDoll_127 : decode cX6_readDoll 127 = .ok (.iadd, 1) := by decide +kernel
theorem dX6_readDoll_128 : decode cX6_readDoll 128 = .ok (.aload_n 0, 1) := by decide +kernel
theorem dX6_readDoll_129 : decode cX6_readDoll 129 = .ok (.iload_n 1, 1) := by decide +kernel
theorem dX6_readDoll_130 : decode cX6_readDoll 130 = .ok (.iconst 0, 1) := by decide +kernel
theorem dX6_readDoll_131 : decode cX6_readDoll 131 = .ok (.aload_n 0, 1) := by decide +kernel
theorem dX6_readDoll_132 : decode cX6_readDoll 132 = .ok (.getfield 31, 3) := by decide +kernel
theorem dX6_readDoll_135 : decode cX6_readDoll 135 = .ok (.iload_n 3, 1) := by decide +kernel
theorem dX6_readDoll_136 : decode cX6_readDoll 136 = .ok (.iconst 1, 1) := by decide +kernel
theorem dX6_readDoll_137 : decode cX6_readDoll 137 = .ok (.iadd, 1) := by decide +kernel
theorem dX6_readDoll_138 : decode cX6_readDoll 138 = .ok (.iaload, 1) := by decide +kernel
theorem dX6_readDoll_139 : decode cX6_readDoll 139 = .ok (.iconst 1, 1) := by decide +kernel
theorem dX6_readDoll_140 : decode cX6_readDoll 140 = .ok (.isub, 1) := by decide +kernel
theorem dX6_readDoll_141 : decode cX6_readDoll 141 = .ok (.invokevirtual 121, 3) := by decide +kernel
theorem dX6_readDoll_144 : decode cX6_readDoll 144 = .ok (.iastore, 1) := by decide +kernel
theorem dX6_readDoll_145 : decode cX6_readDoll 145 = .ok (.aload_n 0, 1) := by decide +kernel
theorem dX6_readDoll_146 : decode cX6_readDoll 146 = .ok (.dup, 1) := by decide +kernel
theorem dX6_readDoll_147 : decode cX6_readDoll 147 = .ok (.getfield 102, 3) := by decide +kernel
theorem dX6_readDoll_150 : decode cX6_readDoll 150 = .ok (.iconst 1, 1) := by decide +kernel
theorem dX6_readDoll_151 : decode cX6_readDoll 151 = .ok (.iadd, 1) := by decide +kernel
theorem dX6_readDoll_152 : decode cX6_readDoll 152 = .ok (.putfield 102, 3) := by decide +kernel
theorem dX6_readDoll_155 : decode cX6_readDoll 155 = .ok (.aload_n 0, 1) := by decide +kernel
theorem dX6_readDoll_156 : decode cX6_readDoll 156 = .ok (.getfield 31, 3) := by decide +kernel
theorem dX6_readDoll_159 : decode cX6_readDoll 159 = .ok (.iload_n 3, 1) := by decide +kernel
theorem dX6_readDoll_160 : decode cX6_readDoll 160 = .ok (.iconst 2, 1) := by decide +kernel
theorem dX6_readDoll_161 : decode cX6_readDoll 161 = .ok (.iadd, 1) := by decide +kernel
theorem dX6_readDoll_162 : decode cX6_readDoll 162 = .ok (.iaload, 1) := by decide +kernel
theorem dX6_readDoll_163 : decode cX6_readDoll 163 = .ok (.bipush (-9), 2) := by decide +kernel
theorem dX6_readDoll_165 : decode cX6_readDoll 165 = .ok (.if_icmp .eq 7, 3) := by decide +kernel
theorem dX6_readDoll_168 : decode cX6_readDoll 168 = .ok (.iconst 1, 1) := by decide +kernel
theorem dX6_readDoll_169 : decode cX6_readDoll 169 = .ok (.goto 4, 3) := by decide +kernel
theorem dX6_readDoll_172 : decode cX6_readDoll 172 = .ok (.iconst 0, 1) := by decide +kernel
theorem dX6_readDoll_173 : decode cX6_readDoll 173 = .ok (.ireturn, 1) := by decide +kernel
def f_X6_readDoll_j66 (x1 : Int32) (x3 : Int32) (y1 : Int32) (y2 : Int32) (σ : St) : Option (Int32 × St) :=
  gd (ck y1 12) <|
  nm (wS σ 8 (Int32.toNatClampNeg y1) y2) fun σ_2 =>
  gd (ck x3 12) <|
  if (σ_2.1 8 x3.toNatClampNeg) = (-9 : Int32) then (some ((0 : Int32), σ_2))
  else nm (wS σ_2 0 5 ((σ_2.1 0 5) + (1 : Int32))) fun σ_5 =>
    bd2 (f_X6_digit x1 (1 : Int32) (9 : Int32) σ_5) fun r_6 σ_7 =>
    gd (ck (x3 + (1 : Int32)) 12) <|
    nm (wS σ_7 8 (Int32.toNatClampNeg (x3 + (1 : Int32))) r_6) fun σ_10 =>
    gd (ck (x3 + (1 : Int32)) 12) <|
    if (σ_10.1 8 (x3 + (1 : Int32)).toNatClampNeg) = (-9 : Int32) then (some ((0 : Int32), σ_10))
    else gd (ck (x3 + (1 : Int32)) 12) <|
      bd2 (f_X6_digit x1 (0 : Int32) ((σ_10.1 8 (x3 + (1 : Int32)).toNatClampNeg) - (1 : Int32)) σ_10) fun r_14 σ_15 =>
      gd (ck (x3 + (2 : Int32)) 12) <|
      nm (wS σ_15 8 (Int32.toNatClampNeg (x3 + (2 : Int32))) r_14) fun σ_18 =>
      nm (wS σ_18 0 6 ((σ_18.1 0 6) + (1 : Int32))) fun σ_19 =>
      gd (ck (x3 + (2 : Int32)) 12) <|
      if (σ_19.1 8 (x3 + (2 : Int32)).toNatClampNeg) = (-9 : Int32) then (some ((0 : Int32), σ_19))
      else some ((1 : Int32), σ_19)
def f_X6_readDoll_j21 (x1 : Int32) (y0 : Int32) (σ : St) : Option (Int32 × St) :=
  nm ((3 : Int32) * (σ.1 0 6)) fun x3_22 =>
  if y0 = (112 : Int32) then (f_X6_readDoll_j66 x1 x3_22 x3_22 (0 : Int32) σ)
  else if y0 = (98 : Int32) then (f_X6_readDoll_j66 x1 x3_22 x3_22 (1 : Int32) σ)
    else if y0 = (115 : Int32) then (f_X6_readDoll_j66 x1 x3_22 x3_22 (2 : Int32) σ)
      else f_X6_readDoll_j66 x1 x3_22 x3_22 (-9 : Int32) σ
def f_X6_readDoll (x1 : Int32) (σ : St) : Option (Int32 × St) :=
  if x1 ≤ (σ.1 0 5) then (f_X6_readDoll_j21 x1 (0 : Int32) σ)
  else gd (ck (σ.1 0 5) 240) <|
  f_X6_readDoll_j21 x1 (σ.1 3 (σ.1 0 5).toNatClampNeg) σ
abbrev rmX6_readDoll : Room := { frames := 2, cells := 0, slots := 0, locals := 45 }
set_option maxRecDepth 100000 in
set_option maxHeartbeats 4000000 in
theorem c_X6_readDoll (l : Launch) (D : va_G) (a : Nat → Nat) (c : Nat → ClassId) (A : Nat → Prop) (hD : ∀ σ, va_D A (mW a c σ)) (x1 : Int32) (σ : St) (r : Int32) (u : St) (hf : f_X6_readDoll x1 σ = some (r, u)) : MetI l yX6_readDoll cX6_readDoll 4 (some .boolean) rmX6_readDoll (mW a c) D c A [.ref (a 0), .int x1] σ r u := by
  refine mkI (by decide) (Nat.le_of_ble_eq_true rfl) rfl ?_
  intro p e s m args below meth cd Q ls h0 hK hP hret hl
  obtain ⟨S, hr, hlk⟩ := h0
  obtain ⟨hx, hb, hml, hown, ht⟩ := id S
  have hS : va_S A s.heap s.heap [] := va_S.rf
  have hl : lv_has ls 4 [(0, .ref (a 0)), (1, .int x1)] := hl
  have hf := obs hf
  have j66 : ∀ (x1 : Int32) (x3 : Int32) (y1 : Int32) (y2 : Int32) (σ : St) (H : Heap) (locs : List Loc) (ls : Array Slot), lv_has ls 4 [(0, .ref (a 0)), (1, .int x1), (3, .int x3)] → va_P D vwCl (mW a c σ) H → va_S A s.heap H locs → Option.bind (f_X6_readDoll_j66 x1 x3 y1 y2 σ) some = some (r, u) → W p l e rmX6_readDoll s m args below meth cd H locs 0 0 Q (F0 m 66 ls [.int y2, .int y1, .ref (a 8)]) := by
    intro x1 x3 y1 y2 σ H locs ls hl hP hS hf
    have hf := oun (f_X6_readDoll_j66.eq_1 _ _ _ _ _) hf
    obtain ⟨g_1, hf⟩ := ogd hf
    refine va_iast hx hb hK.1 hP (hD σ) hS 8 0 (mw8 a c σ) rfl (ck_in g_1) dX6_readDoll_66 (fun H locs hP _ hS => ?_)
    have hP := vP_eq (mpA_m8 a c σ (Int32.toNatClampNeg y1) y2) hP
    obtain ⟨σ_2, eσ_2, hf⟩ := onm hf
    rw [eσ_2] at hP
    refine lv_aload_n hx hb dX6_readDoll_67 rfl (lv_at hl 0 rfl) ?_
    refine va_get (D := D) (ci := 4) (v := .ref (a 8)) (C := RX6) (T := TX6) (N := 27) hx hb ht gX6 hown hK.1 hP 0 (mw0 a c σ_2) rfl 14 (by decide) (ht _ q57) (fun _ h9 => h9) rfl dX6_readDoll_68 ?_
    refine lv_iload_n hx hb dX6_readDoll_71 rfl (lv_at hl 2 rfl) ?_
    obtain ⟨g_3, hf⟩ := ogd hf
    refine va_iald hx hb hK.1 hP 8 0 (mw8 a c σ_2) rfl (ck_in g_3) dX6_readDoll_72 ?_
    refine lv_bipush (v := (-9 : Int32)) hx hb dX6_readDoll_73 (by decide) ?_
    refine lv_icmp_ne (tgt := 80) hx hb dX6_readDoll_75 (by decide) (fun c_4 => ?_) (fun c_4 => ?_)
    · have hf := oif c_4 hf
      refine lv_aload_n hx hb dX6_readDoll_80 rfl (lv_at hl 0 rfl) ?_
      refine lv_dup hx hb dX6_readDoll_81 rfl ?_
      refine va_get (D := D) (ci := 4) (v := .int (σ_2.1 0 5)) (C := RX6) (T := TX6) (N := 27) hx hb ht gX6 hown hK.1 hP 0 (mw0 a c σ_2) rfl 12 (by decide) (ht _ q137) (fun _ h9 => h9) rfl dX6_readDoll_82 ?_
      refine lv_iconst (v := (1 : Int32)) hx hb dX6_readDoll_85 (by decide) ?_
      refine lv_iadd hx hb dX6_readDoll_86 ?_
      refine va_put (D := D) (ci := 4) (v := .int ((σ_2.1 0 5) + (1 : Int32))) (ty := .int) (C := RX6) (T := TX6) (N := 27) hx hb ht gX6 tyX6 tyX6_ok nmX6 hown hK.1 hP (hD σ_2) hS 0 (mw0 a c σ_2) rfl 12 (by decide) (ht _ q137) (fun _ h9 => h9) rfl (by decide +kernel) rfl rfl (Nat.le_of_ble_eq_true rfl) dX6_readDoll_87 (fun H locs hP _ hS => ?_)
      have hP := vP_eq (mpX6_at a c σ_2 ((σ_2.1 0 5) + (1 : Int32))) hP
      obtain ⟨σ_5, eσ_5, hf⟩ := onm hf
      rw [eσ_5] at hP
      refine lv_aload_n hx hb dX6_readDoll_90 rfl (lv_at hl 0 rfl) ?_
      refine va_get (D := D) (ci := 4) (v := .ref (a 8)) (C := RX6) (T := TX6) (N := 27) hx hb ht gX6 hown hK.1 hP 0 (mw0 a c σ_5) rfl 14 (by decide) (ht _ q57) (fun _ h9 => h9) rfl dX6_readDoll_91 ?_
      refine lv_iload_n hx hb dX6_readDoll_94 rfl (lv_at hl 2 rfl) ?_
      refine lv_iconst (v := (1 : Int32)) hx hb dX6_readDoll_95 (by decide) ?_
      refine lv_iadd hx hb dX6_readDoll_96 ?_
      refine lv_aload_n hx hb dX6_readDoll_97 rfl (lv_at hl 0 rfl) ?_
      refine lv_iload_n hx hb dX6_readDoll_98 rfl (lv_at hl 1 rfl) ?_
      refine lv_iconst (v := (1 : Int32)) hx hb dX6_readDoll_99 (by decide) ?_
      refine lv_bipush (v := (9 : Int32)) hx hb dX6_readDoll_100 (by decide) ?_
      obtain ⟨r_6, σ_7, h_8, hf⟩ := obd2 hf
      refine xv_I (As := [.int x1, .int (1 : Int32), .int (9 : Int32)]) (rest := [.int (x3 + (1 : Int32)), .ref (a 8)]) S k_X6_digit q172 q173 q174 ⟨Nat.le_of_ble_eq_true rfl, Nat.le_of_ble_eq_true rfl⟩ ⟨rfl, rfl⟩ (c_X6_digit l D a c A hD x1 (1 : Int32) (9 : Int32) σ_5 r_6 σ_7 h_8) hK hP hS (va_recv hK.1 hP (rfl : vwCl[4]? = some (RX6, TX6, 27)) (mw0 a c σ_5)) rfl hl.1 rfl (Nat.le_of_ble_eq_true rfl) dX6_readDoll_102 ⟨Nat.zero_le _, Nat.zero_le _⟩ (fun H locs hP hS => ?_)
      obtain ⟨g_9, hf⟩ := ogd hf
      refine va_iast hx hb hK.1 hP (hD σ_7) hS 8 0 (mw8 a c σ_7) rfl (ck_in g_9) dX6_readDoll_105 (fun H locs hP _ hS => ?_)
      have hP := vP_eq (mpA_m8 a c σ_7 (Int32.toNatClampNeg (x3 + (1 : Int32))) r_6) hP
      obtain ⟨σ_10, eσ_10, hf⟩ := onm hf
      rw [eσ_10] at hP
      refine lv_aload_n hx hb dX6_readDoll_106 rfl (lv_at hl 0 rfl) ?_
      refine va_get (D := D) (ci := 4) (v := .ref (a 8)) (C := RX6) (T := TX6) (N := 27) hx hb ht gX6 hown hK.1 hP 0 (mw0 a c σ_10) rfl 14 (by decide) (ht _ q57) (fun _ h9 => h9) rfl dX6_readDoll_107 ?_
      refine lv_iload_n hx hb dX6_readDoll_110 rfl (lv_at hl 2 rfl) ?_
      refine lv_iconst (v := (1 : Int32)) hx hb dX6_readDoll_111 (by decide) ?_
      refine lv_iadd hx hb dX6_readDoll_112 ?_
      obtain ⟨g_11, hf⟩ := ogd hf
      refine va_iald hx hb hK.1 hP 8 0 (mw8 a c σ_10) rfl (ck_in g_11) dX6_readDoll_113 ?_
      refine lv_bipush (v := (-9 : Int32)) hx hb dX6_readDoll_114 (by decide) ?_
      refine lv_icmp_ne (tgt := 121) hx hb dX6_readDoll_116 (by decide) (fun c_12 => ?_) (fun c_12 => ?_)
      · have hf := oif c_12 hf
        refine lv_aload_n hx hb dX6_readDoll_121 rfl (lv_at hl 0 rfl) ?_
        refine va_get (D := D) (ci := 4) (v := .ref (a 8)) (C := RX6) (T := TX6) (N := 27) hx hb ht gX6 hown hK.1 hP 0 (mw0 a c σ_10) rfl 14 (by decide) (ht _ q57) (fun _ h9 => h9) rfl dX6_readDoll_122 ?_
        refine lv_iload_n hx hb dX6_readDoll_125 rfl (lv_at hl 2 rfl) ?_
        refine lv_iconst (v := (2 : Int32)) hx hb dX6_readDoll_126 (by decide) ?_
        refine lv_iadd hx hb dX6_readDoll_127 ?_
        refine lv_aload_n hx hb dX6_readDoll_128 rfl (lv_at hl 0 rfl) ?_
        refine lv_iload_n hx hb dX6_readDoll_129 rfl (lv_at hl 1 rfl) ?_
        refine lv_iconst (v := (0 : Int32)) hx hb dX6_readDoll_130 (by decide) ?_
        refine lv_aload_n hx hb dX6_readDoll_131 rfl (lv_at hl 0 rfl) ?_
        refine va_get (D := D) (ci := 4) (v := .ref (a 8)) (C := RX6) (T := TX6) (N := 27) hx hb ht gX6 hown hK.1 hP 0 (mw0 a c σ_10) rfl 14 (by decide) (ht _ q57) (fun _ h9 => h9) rfl dX6_readDoll_132 ?_
        refine lv_iload_n hx hb dX6_readDoll_135 rfl (lv_at hl 2 rfl) ?_
        refine lv_iconst (v := (1 : Int32)) hx hb dX6_readDoll_136 (by decide) ?_
        refine lv_iadd hx hb dX6_readDoll_137 ?_
        obtain ⟨g_13, hf⟩ := ogd hf
        refine va_iald hx hb hK.1 hP 8 0 (mw8 a c σ_10) rfl (ck_in g_13) dX6_readDoll_138 ?_
        refine lv_iconst (v := (1 : Int32)) hx hb dX6_readDoll_139 (by decide) ?_
        refine lv_isub hx hb dX6_readDoll_140 ?_
        obtain ⟨r_14, σ_15, h_16, hf⟩ := obd2 hf
        refine xv_I (As := [.int x1, .int (0 : Int32), .int ((σ_10.1 8 (x3 + (1 : Int32)).toNatClampNeg) - (1 : Int32))]) (rest := [.int (x3 + (2 : Int32)), .ref (a 8)]) S k_X6_digit q172 q173 q174 ⟨Nat.le_of_ble_eq_true rfl, Nat.le_of_ble_eq_true rfl⟩ ⟨rfl, rfl⟩ (c_X6_digit l D a c A hD x1 (0 : Int32) ((σ_10.1 8 (x3 + (1 : Int32)).toNatClampNeg) - (1 : Int32)) σ_10 r_14 σ_15 h_16) hK hP hS (va_recv hK.1 hP (rfl : vwCl[4]? = some (RX6, TX6, 27)) (mw0 a c σ_10)) rfl hl.1 rfl (Nat.le_of_ble_eq_true rfl) dX6_readDoll_141 ⟨Nat.zero_le _, Nat.zero_le _⟩ (fun H locs hP hS => ?_)
        obtain ⟨g_17, hf⟩ := ogd hf
        refine va_iast hx hb hK.1 hP (hD σ_15) hS 8 0 (mw8 a c σ_15) rfl (ck_in g_17) dX6_readDoll_144 (fun H locs hP _ hS => ?_)
        have hP := vP_eq (mpA_m8 a c σ_15 (Int32.toNatClampNeg (x3 + (2 : Int32))) r_14) hP
        obtain ⟨σ_18, eσ_18, hf⟩ := onm hf
        rw [eσ_18] at hP
        refine lv_aload_n hx hb dX6_readDoll_145 rfl (lv_at hl 0 rfl) ?_
        refine lv_dup hx hb dX6_readDoll_146 rfl ?_
        refine va_get (D := D) (ci := 4) (v := .int (σ_18.1 0 6)) (C := RX6) (T := TX6) (N := 27) hx hb ht gX6 hown hK.1 hP 0 (mw0 a c σ_18) rfl 13 (by decide) (ht _ q138) (fun _ h9 => h9) rfl dX6_readDoll_147 ?_
        refine lv_iconst (v := (1 : Int32)) hx hb dX6_readDoll_150 (by decide) ?_
        refine lv_iadd hx hb dX6_readDoll_151 ?_
        refine va_put (D := D) (ci := 4) (v := .int ((σ_18.1 0 6) + (1 : Int32))) (ty := .int) (C := RX6) (T := TX6) (N := 27) hx hb ht gX6 tyX6 tyX6_ok nmX6 hown hK.1 hP (hD σ_18) hS 0 (mw0 a c σ_18) rfl 13 (by decide) (ht _ q138) (fun _ h9 => h9) rfl (by decide +kernel) rfl rfl (Nat.le_of_ble_eq_true rfl) dX6_readDoll_152 (fun H locs hP _ hS => ?_)
        have hP := vP_eq (mpX6_readDolls a c σ_18 ((σ_18.1 0 6) + (1 : Int32))) hP
        obtain ⟨σ_19, eσ_19, hf⟩ := onm hf
        rw [eσ_19] at hP
        refine lv_aload_n hx hb dX6_readDoll_155 rfl (lv_at hl 0 rfl) ?_
        refine va_get (D := D) (ci := 4) (v := .ref (a 8)) (C := RX6) (T := TX6) (N := 27) hx hb ht gX6 hown hK.1 hP 0 (mw0 a c σ_19) rfl 14 (by decide) (ht _ q57) (fun _ h9 => h9) rfl dX6_readDoll_156 ?_
        refine lv_iload_n hx hb dX6_readDoll_159 rfl (lv_at hl 2 rfl) ?_
        refine lv_iconst (v := (2 : Int32)) hx hb dX6_readDoll_160 (by decide) ?_
        refine lv_iadd hx hb dX6_readDoll_161 ?_
        obtain ⟨g_20, hf⟩ := ogd hf
        refine va_iald hx hb hK.1 hP 8 0 (mw8 a c σ_19) rfl (ck_in g_20) dX6_readDoll_162 ?_
        refine lv_bipush (v := (-9 : Int32)) hx hb dX6_readDoll_163 (by decide) ?_
        refine lv_icmp_eq (tgt := 172) hx hb dX6_readDoll_165 (by decide) (fun c_21 => ?_) (fun c_21 => ?_)
        · have hf := oit c_21 hf
          refine lv_iconst (v := (0 : Int32)) hx hb dX6_readDoll_172 (by decide) ?_
          exact hret _ _ _ _ _ _ dX6_readDoll_173 (by decide) hP hS (oret hf)
        have hf := oif c_21 hf
        refine lv_iconst (v := (1 : Int32)) hx hb dX6_readDoll_168 (by decide) ?_
        refine lv_goto (tgt := 173) hx hb dX6_readDoll_169 (by decide) ?_
        exact hret _ _ _ _ _ _ dX6_readDoll_173 (by decide) hP hS (oret hf)
      have hf := oit c_12 hf
      refine lv_iconst (v := (0 : Int32)) hx hb dX6_readDoll_119 (by decide) ?_
      exact hret _ _ _ _ _ _ dX6_readDoll_120 (by decide) hP hS (oret hf)
    have hf := oit c_4 hf
    refine lv_iconst (v := (0 : Int32)) hx hb dX6_readDoll_78 (by decide) ?_
    exact hret _ _ _ _ _ _ dX6_readDoll_79 (by decide) hP hS (oret hf)
  have j21 : ∀ (x1 : Int32) (y0 : Int32) (σ : St) (H : Heap) (locs : List Loc) (ls : Array Slot), lv_has ls 4 [(0, .ref (a 0)), (1, .int x1)] → va_P D vwCl (mW a c σ) H → va_S A s.heap H locs → Option.bind (f_X6_readDoll_j21 x1 y0 σ) some = some (r, u) → W p l e rmX6_readDoll s m args below meth cd H locs 0 0 Q (F0 m 21 ls [.int y0]) := by
    intro x1 y0 σ H locs ls hl hP hS hf
    have hf := oun (f_X6_readDoll_j21.eq_1 _ _ _) hf
    refine lv_istore_n (lv' := [(2, .int y0), (0, .ref (a 0)), (1, .int x1)]) hx hb dX6_readDoll_21 rfl hl (by decide) rfl (fun ls hl => ?_)
    refine lv_iconst (v := (3 : Int32)) hx hb dX6_readDoll_22 (by decide) ?_
    refine lv_aload_n hx hb dX6_readDoll_23 rfl (lv_at hl 1 rfl) ?_
    refine va_get (D := D) (ci := 4) (v := .int (σ.1 0 6)) (C := RX6) (T := TX6) (N := 27) hx hb ht gX6 hown hK.1 hP 0 (mw0 a c σ) rfl 13 (by decide) (ht _ q138) (fun _ h9 => h9) rfl dX6_readDoll_24 ?_
    refine lv_imul hx hb dX6_readDoll_27 ?_
    obtain ⟨x3_22, ex3_22, hf⟩ := onm hf
    refine lv_nm ex3_22 ?_
    refine lv_istore_n (lv' := [(3, .int x3_22), (2, .int y0), (0, .ref (a 0)), (1, .int x1)]) hx hb dX6_readDoll_28 rfl hl (by decide) rfl (fun ls hl => ?_)
    refine lv_aload_n hx hb dX6_readDoll_29 rfl (lv_at hl 2 rfl) ?_
    refine va_get (D := D) (ci := 4) (v := .ref (a 8)) (C := RX6) (T := TX6) (N := 27) hx hb ht gX6 hown hK.1 hP 0 (mw0 a c σ) rfl 14 (by decide) (ht _ q57) (fun _ h9 => h9) rfl dX6_readDoll_30 ?_
    refine lv_iload_n hx hb dX6_readDoll_33 rfl (lv_at hl 0 rfl) ?_
    refine lv_iload_n hx hb dX6_readDoll_34 rfl (lv_at hl 1 rfl) ?_
    refine lv_bipush (v := (112 : Int32)) hx hb dX6_readDoll_35 (by decide) ?_
    refine lv_icmp_ne (tgt := 44) hx hb dX6_readDoll_37 (by decide) (fun c_23 => ?_) (fun c_23 => ?_)
    · have hf := oif c_23 hf
      refine lv_iload_n hx hb dX6_readDoll_44 rfl (lv_at hl 1 rfl) ?_
      refine lv_bipush (v := (98 : Int32)) hx hb dX6_readDoll_45 (by decide) ?_
      refine lv_icmp_ne (tgt := 54) hx hb dX6_readDoll_47 (by decide) (fun c_24 => ?_) (fun c_24 => ?_)
      · have hf := oif c_24 hf
        refine lv_iload_n hx hb dX6_readDoll_54 rfl (lv_at hl 1 rfl) ?_
        refine lv_bipush (v := (115 : Int32)) hx hb dX6_readDoll_55 (by decide) ?_
        refine lv_icmp_ne (tgt := 64) hx hb dX6_readDoll_57 (by decide) (fun c_25 => ?_) (fun c_25 => ?_)
        · have hf := oif c_25 hf
          refine lv_bipush (v := (-9 : Int32)) hx hb dX6_readDoll_64 (by decide) ?_
          exact j66 x1 x3_22 x3_22 (-9 : Int32) σ _ _ _ (lv_sub hl [2, 3, 0] rfl) hP hS hf
        have hf := oit c_25 hf
        refine lv_iconst (v := (2 : Int32)) hx hb dX6_readDoll_60 (by decide) ?_
        refine lv_goto (tgt := 66) hx hb dX6_readDoll_61 (by decide) ?_
        exact j66 x1 x3_22 x3_22 (2 : Int32) σ _ _ _ (lv_sub hl [2, 3, 0] rfl) hP hS hf
      have hf := oit c_24 hf
      refine lv_iconst (v := (1 : Int32)) hx hb dX6_readDoll_50 (by decide) ?_
      refine lv_goto (tgt := 66) hx hb dX6_readDoll_51 (by decide) ?_
      exact j66 x1 x3_22 x3_22 (1 : Int32) σ _ _ _ (lv_sub hl [2, 3, 0] rfl) hP hS hf
    have hf := oit c_23 hf
    refine lv_iconst (v := (0 : Int32)) hx hb dX6_readDoll_40 (by decide) ?_
    refine lv_goto (tgt := 66) hx hb dX6_readDoll_41 (by decide) ?_
    exact j66 x1 x3_22 x3_22 (0 : Int32) σ _ _ _ (lv_sub hl [2, 3, 0] rfl) hP hS hf
  have hf := oun (f_X6_readDoll.eq_1 _ _) hf
  refine lv_aload_n hx hb dX6_readDoll_0 rfl (lv_at hl 0 rfl) ?_
  refine va_get (D := D) (ci := 4) (v := .int (σ.1 0 5)) (C := RX6) (T := TX6) (N := 27) hx hb ht gX6 hown hK.1 hP 0 (mw0 a c σ) rfl 12 (by decide) (ht _ q137) (fun _ h9 => h9) rfl dX6_readDoll_1 ?_
  refine lv_iload_n hx hb dX6_readDoll_4 rfl (lv_at hl 1 rfl) ?_
  refine lv_icmp_ge (tgt := 20) hx hb dX6_readDoll_5 (by decide) (fun c_26 => ?_) (fun c_26 => ?_)
  · have hf := oit c_26 hf
    refine lv_iconst (v := (0 : Int32)) hx hb dX6_readDoll_20 (by decide) ?_
    exact j21 x1 (0 : Int32) σ _ _ _ (lv_sub hl [0, 1] rfl) hP hS hf
  have hf := oif c_26 hf
  refine lv_aload_n hx hb dX6_readDoll_8 rfl (lv_at hl 0 rfl) ?_
  refine va_get (D := D) (ci := 4) (v := .ref (a 3)) (C := RX6) (T := TX6) (N := 27) hx hb ht gX6 hown hK.1 hP 0 (mw0 a c σ) rfl 4 (by decide) (ht _ q52) (fun _ h9 => h9) rfl dX6_readDoll_9 ?_
  refine lv_aload_n hx hb dX6_readDoll_12 rfl (lv_at hl 0 rfl) ?_
  refine va_get (D := D) (ci := 4) (v := .int (σ.1 0 5)) (C := RX6) (T := TX6) (N := 27) hx hb ht gX6 hown hK.1 hP 0 (mw0 a c σ) rfl 12 (by decide) (ht _ q137) (fun _ h9 => h9) rfl dX6_readDoll_13 ?_
  obtain ⟨g_27, hf⟩ := ogd hf
  refine va_iald hx hb hK.1 hP 3 0 (mw3 a c σ) rfl (ck_in g_27) dX6_readDoll_16 ?_
  refine lv_goto (tgt := 21) hx hb dX6_readDoll_17 (by decide) ?_
  exact j21 x1 (σ.1 3 (σ.1 0 5).toNatClampNeg) σ _ _ _ (lv_sub hl [0, 1] rfl) hP hS hf
theorem dX6_readAll_0 : decode cX6_readAll 0 = .ok (.aload_n 0, 1) := by decide +kernel
theorem dX6_readAll_1 : decode cX6_readAll 1 = .ok (.iconst 0, 1) := by decide +kernel
theorem dX6_readAll_2 : decode cX6_readAll 2 = .ok (.putfield 102, 3) := by decide +kernel
theorem dX6_readAll_5 : decode cX6_readAll 5 = .ok (.aload_n 0, 1) := by decide +kernel
theorem dX6_readAll_6 : decode cX6_readAll 6 = .ok (.iload_n 1, 1) := by decide +kernel
theorem dX6_readAll_7 : decode cX6_readAll 7 = .ok (.bipush 110, 2) := by decide +kernel
theorem dX6_readAll_9 : decode cX6_readAll 9 = .ok (.invokevirtual 114, 3) := by decide +kernel
theorem dX6_readAll_12 : decode cX6_readAll 12 = .ok (.ifCond .ne 5, 3) := by decide +kernel
theorem dX6_readAll_15 : decode cX6_readAll 15 = .ok (.iconst 0, 1) := by decide +kernel
theorem dX6_readAll_16 : decode cX6_readAll 16 = .ok (.ireturn, 1) := by decide +kernel
theorem dX6_readAll_17 : decode cX6_readAll 17 = .ok (.aload_n 0, 1) := by decide +kernel
theorem dX6_readAll_18 : decode cX6_readAll 18 = .ok (.getfield 102, 3) := by decide +kernel
theorem dX6_readAll_21 : decode cX6_readAll 21 = .ok (.ifCond .eq 19, 3) := by decide +kernel
theorem dX6_readAll_24 : decode cX6_readAll 24 = .ok (.aload_n 0, 1) := by decide +kernel
theorem dX6_readAll_25 : decode cX6_readAll 25 = .ok (.getfield 102, 3) := by decide +kernel
theorem dX6_readAll_28 : decode cX6_readAll 28 = .ok (.iconst 4, 1) := by decide +kernel
theorem dX6_readAll_29 : decode cX6_readAll 29 = .ok (.if_icmp .ge 31, 3) := by decide +kernel
theorem dX6_readAll_32 : decode cX6_readAll 32 = .ok (.aload_n 0, 1) := by decide +kernel
theorem dX6_readAll_33 : decode cX6_readAll 33 = .ok (.getfield 82, 3) := by decide +kernel
theorem dX6_readAll_36 : decode cX6_readAll 36 = .ok (.iload_n 1, 1) := by decide +kernel
theorem dX6_readAll_37 : decode cX6_readAll 37 = .ok (.if_icmp .ge 23, 3) := by decide +kernel
theorem dX6_readAll_40 : decode cX6_readAll 40 = .ok (.aload_n 0, 1) := by decide +kernel
theorem dX6_readAll_41 : decode cX6_readAll 41 = .ok (.iload_n 1, 1) := by decide +kernel
theorem dX6_readAll_42 : decode cX6_readAll 42 = .ok (.bipush 59, 2) := by decide +kernel
theorem dX6_readAll_44 : decode cX6_readAll 44 = .ok (.invokevirtual 114, 3) := by decide +kernel
theorem dX6_readAll_47 : decode cX6_readAll 47 = .ok (.ifCond .eq 11, 3) := by decide +kernel
theorem dX6_readAll_50 : decode cX6_readAll 50 = .ok (.aload_n 0, 1) := by decide +kernel
theorem dX6_readAll_51 : decode cX6_readAll 51 = .ok (.iload_n 1, 1) := by decide +kernel
theorem dX6_readAll_52 : decode cX6_readAll 52 = .ok (.invokevirtual 118, 3) := by decide +kernel
theorem dX6_readAll_55 : decode cX6_readAll 55 = .ok (.ifCond .ne (-38), 3) := by decide +kernel
theorem dX6_readAll_58 : decode cX6_readAll 58 = .ok (.iconst 0, 1) := by decide +kernel
theorem dX6_readAll_59 : decode cX6_readAll 59 = .ok (.ireturn, 1) := by decide +kernel
theorem dX6_readAll_60 : decode cX6_readAll 60 = .ok (.aload_n 0, 1) := by decide +kernel
theorem dX6_readAll_61 : decode cX6_readAll 61 = .ok (.getfield 82, 3) := by decide +kernel
theorem dX6_readAll_64 : decode cX6_readAll 64 = .ok (.iload_n 1, 1) := by decide +kernel
theorem dX6_readAll_65 : decode cX6_readAll 65 = .ok (.if_icmp .ne 7, 3) := by decide +kernel
theorem dX6_readAll_68 : decode cX6_readAll 68 = .ok (.iconst 1, 1) := by decide +kernel
theorem dX6_readAll_69 : decode cX6_readAll 69 = .ok (.goto 4, 3) := by decide +kernel
theorem dX6_readAll_72 : decode cX6_readAll 72 = .ok (.iconst 0, 1) := by decide +kernel
theorem dX6_readAll_73 : decode cX6_readAll 73 = .ok (.ireturn, 1) := by decide +kernel
def f_X6_readAll_j60 (N : Nat) (x1 : Int32) (σ : St) : Option (Int32 × St) :=
  if (σ.1 0 5) = x1 then (some ((1 : Int32), σ))
  else some ((0 : Int32), σ)
def f_X6_readAll_j40 (N : Nat) (x1 : Int32) (σ : St) : Option ((St) ⊕ ((Int32 × St) ⊕ (St))) :=
  bd2 (f_X6_isSign x1 (59 : Int32) σ) fun r_2 σ_3 =>
  if r_2 = 0 then (some (.inr (.inl ((0 : Int32), σ_3))))
  else bd2 (f_X6_readDoll x1 σ_3) fun r_6 σ_7 =>
  if r_6 = 0 then (some (.inr (.inl ((0 : Int32), σ_7))))
  else some (.inl σ_7)
def f_X6_readAll_b17 (N : Nat) (x1 : Int32) (σ : St) : Option ((St) ⊕ ((Int32 × St) ⊕ (St))) :=
  if (σ.1 0 6) = 0 then (f_X6_readAll_j40 N x1 σ)
  else if (4 : Int32) ≤ (σ.1 0 6) then (some (.inr (.inr σ)))
  else if x1 ≤ (σ.1 0 5) then (some (.inr (.inr σ)))
  else f_X6_readAll_j40 N x1 σ
def f_X6_readAll (N : Nat) (x1 : Int32) (σ : St) : Option (Int32 × St) :=
  nm (wS σ 0 6 (0 : Int32)) fun σ_13 =>
  bd2 (f_X6_isSign x1 (110 : Int32) σ_13) fun r_14 σ_15 =>
  if r_14 = 0 then (some ((0 : Int32), σ_15))
  else bd (lpF (fun s => f_X6_readAll_b17 N x1 s) N σ_15) (Sum.elim (fun v => some v) (fun o => f_X6_readAll_j60 N x1 o))
abbrev rmX6_readAll : Room := { frames := 3, cells := 0, slots := 0, locals := 68 }
set_option maxRecDepth 100000 in
set_option maxHeartbeats 4000000 in
theorem c_X6_readAll (l : Launch) (D : va_G) (a : Nat → Nat) (c : Nat → ClassId) (A : Nat → Prop) (hD : ∀ σ, va_D A (mW a c σ)) (N : Nat) (x1 : Int32) (σ : St) (r : Int32) (u : St) (hf : f_X6_readAll N x1 σ = some (r, u)) : MetI l yX6_readAll cX6_readAll 2 (some .boolean) rmX6_readAll (mW a c) D c A [.ref (a 0), .int x1] σ r u := by
  refine mkI (by decide) (Nat.le_of_ble_eq_true rfl) rfl ?_
  intro p e s m args below meth cd Q ls h0 hK hP hret hl
  obtain ⟨S, hr, hlk⟩ := h0
  obtain ⟨hx, hb, hml, hown, ht⟩ := id S
  have hS : va_S A s.heap s.heap [] := va_S.rf
  have hl : lv_has ls 2 [(0, .ref (a 0)), (1, .int x1)] := hl
  have hf := obs hf
  have j60 : ∀ (x1 : Int32) (σ : St) (H : Heap) (locs : List Loc) (ls : Array Slot), lv_has ls 2 [(0, .ref (a 0)), (1, .int x1)] → va_P D vwCl (mW a c σ) H → va_S A s.heap H locs → Option.bind (f_X6_readAll_j60 N x1 σ) some = some (r, u) → W p l e rmX6_readAll s m args below meth cd H locs 0 0 Q (F0 m 60 ls []) := by
    intro x1 σ H locs ls hl hP hS hf
    have hf := oun (f_X6_readAll_j60.eq_1 _ _ _) hf
    refine lv_aload_n hx hb dX6_readAll_60 rfl (lv_at hl 0 rfl) ?_
    refine va_get (D := D) (ci := 4) (v := .int (σ.1 0 5)) (C := RX6) (T := TX6) (N := 27) hx hb ht gX6 hown hK.1 hP 0 (mw0 a c σ) rfl 12 (by decide) (ht _ q137) (fun _ h9 => h9) rfl dX6_readAll_61 ?_
    refine lv_iload_n hx hb dX6_readAll_64 rfl (lv_at hl 1 rfl) ?_
    refine lv_icmp_ne (tgt := 72) hx hb dX6_readAll_65 (by decide) (fun c_1 => ?_) (fun c_1 => ?_)
    · have hf := oif c_1 hf
      refine lv_iconst (v := (0 : Int32)) hx hb dX6_readAll_72 (by decide) ?_
      exact hret _ _ _ _ _ _ dX6_readAll_73 (by decide) hP hS (oret hf)
    have hf := oit c_1 hf
    refine lv_iconst (v := (1 : Int32)) hx hb dX6_readAll_68 (by decide) ?_
    refine lv_goto (tgt := 73) hx hb dX6_readAll_69 (by decide) ?_
    exact hret _ _ _ _ _ _ dX6_readAll_73 (by decide) hP hS (oret hf)
  have L17 : ∀ (x1 : Int32) (k : Nat) (σ : St) (H : Heap) (locs : List Loc) (ls : Array Slot), lv_has ls 2 [(0, .ref (a 0)), (1, .int x1)] → va_P D vwCl (mW a c σ) H → va_S A s.heap H locs → Option.bind (bd (lpF (fun s => f_X6_readAll_b17 N x1 s) k σ) (Sum.elim (fun v => some v) (fun o => f_X6_readAll_j60 N x1 o))) some = some (r, u) → W p l e rmX6_readAll s m args below meth cd H locs 0 0 Q (F0 m 17 ls []) := by
    intro x1 k
    induction k with
    | zero =>
      intro σ H locs ls hl hP hS hf
      exact (ol0 hf).elim
    | succ k ih =>
      intro σ H locs ls hl hP hS hf
      obtain ⟨K17, hf, hc17, hx17⟩ := ol1 hf
      have j40 : ∀ (σ : St) (H : Heap) (locs : List Loc) (ls : Array Slot), lv_has ls 2 [(0, .ref (a 0)), (1, .int x1)] → va_P D vwCl (mW a c σ) H → va_S A s.heap H locs → Option.bind (f_X6_readAll_j40 N x1 σ) K17 = some (r, u) → W p l e rmX6_readAll s m args below meth cd H locs 0 0 Q (F0 m 40 ls []) := by
        intro σ H locs ls hl hP hS hf
        have hf := oun (f_X6_readAll_j40.eq_1 _ _ _) hf
        refine lv_aload_n hx hb dX6_readAll_40 rfl (lv_at hl 0 rfl) ?_
        refine lv_iload_n hx hb dX6_readAll_41 rfl (lv_at hl 1 rfl) ?_
        refine lv_bipush (v := (59 : Int32)) hx hb dX6_readAll_42 (by decide) ?_
        obtain ⟨r_2, σ_3, h_4, hf⟩ := obd2 hf
        refine xv_I (As := [.int x1, .int (59 : Int32)]) (rest := []) S k_X6_isSign q164 q165 q166 ⟨Nat.le_of_ble_eq_true rfl, Nat.le_of_ble_eq_true rfl⟩ ⟨rfl, rfl⟩ (c_X6_isSign l D a c A hD x1 (59 : Int32) σ r_2 σ_3 h_4) hK hP hS (va_recv hK.1 hP (rfl : vwCl[4]? = some (RX6, TX6, 27)) (mw0 a c σ)) rfl hl.1 rfl (Nat.le_of_ble_eq_true rfl) dX6_readAll_44 ⟨Nat.zero_le _, Nat.zero_le _⟩ (fun H locs hP hS => ?_)
        refine lv_if_eq (tgt := 58) hx hb dX6_readAll_47 (by decide) (fun c_5 => ?_) (fun c_5 => ?_)
        · have hf := oit c_5 hf
          refine lv_iconst (v := (0 : Int32)) hx hb dX6_readAll_58 (by decide) ?_
          have hf := okx hf (hx17 _)
          exact hret _ _ _ _ _ _ dX6_readAll_59 (by decide) hP hS (oret hf)
        have hf := oif c_5 hf
        refine lv_aload_n hx hb dX6_readAll_50 rfl (lv_at hl 0 rfl) ?_
        refine lv_iload_n hx hb dX6_readAll_51 rfl (lv_at hl 1 rfl) ?_
        obtain ⟨r_6, σ_7, h_8, hf⟩ := obd2 hf
        refine xv_I (As := [.int x1]) (rest := []) S k_X6_readDoll q168 q169 q170 ⟨Nat.le_of_ble_eq_true rfl, Nat.le_of_ble_eq_true rfl⟩ ⟨rfl, rfl⟩ (c_X6_readDoll l D a c A hD x1 σ_3 r_6 σ_7 h_8) hK hP hS (va_recv hK.1 hP (rfl : vwCl[4]? = some (RX6, TX6, 27)) (mw0 a c σ_3)) rfl hl.1 rfl (Nat.le_of_ble_eq_true rfl) dX6_readAll_52 ⟨Nat.zero_le _, Nat.zero_le _⟩ (fun H locs hP hS => ?_)
        refine lv_if_ne (tgt := 17) hx hb dX6_readAll_55 (by decide) (fun c_9 => ?_) (fun c_9 => ?_)
        · have hf := oif c_9 hf
          exact ih σ_7 _ _ _ (lv_sub hl [0, 1] rfl) hP hS (okx hf (hc17 _))
        have hf := oit c_9 hf
        refine lv_iconst (v := (0 : Int32)) hx hb dX6_readAll_58 (by decide) ?_
        have hf := okx hf (hx17 _)
        exact hret _ _ _ _ _ _ dX6_readAll_59 (by decide) hP hS (oret hf)
      have hf := oun (f_X6_readAll_b17.eq_1 N x1 σ) hf
      refine lv_aload_n hx hb dX6_readAll_17 rfl (lv_at hl 0 rfl) ?_
      refine va_get (D := D) (ci := 4) (v := .int (σ.1 0 6)) (C := RX6) (T := TX6) (N := 27) hx hb ht gX6 hown hK.1 hP 0 (mw0 a c σ) rfl 13 (by decide) (ht _ q138) (fun _ h9 => h9) rfl dX6_readAll_18 ?_
      refine lv_if_eq (tgt := 40) hx hb dX6_readAll_21 (by decide) (fun c_10 => ?_) (fun c_10 => ?_)
      · have hf := oit c_10 hf
        exact j40 σ _ _ _ (lv_sub hl [0, 1] rfl) hP hS hf
      have hf := oif c_10 hf
      refine lv_aload_n hx hb dX6_readAll_24 rfl (lv_at hl 0 rfl) ?_
      refine va_get (D := D) (ci := 4) (v := .int (σ.1 0 6)) (C := RX6) (T := TX6) (N := 27) hx hb ht gX6 hown hK.1 hP 0 (mw0 a c σ) rfl 13 (by decide) (ht _ q138) (fun _ h9 => h9) rfl dX6_readAll_25 ?_
      refine lv_iconst (v := (4 : Int32)) hx hb dX6_readAll_28 (by decide) ?_
      refine lv_icmp_ge (tgt := 60) hx hb dX6_readAll_29 (by decide) (fun c_11 => ?_) (fun c_11 => ?_)
      · have hf := oit c_11 hf
        exact j60 x1 σ _ _ _ (lv_sub hl [0, 1] rfl) hP hS (okx hf (hx17 _))
      have hf := oif c_11 hf
      refine lv_aload_n hx hb dX6_readAll_32 rfl (lv_at hl 0 rfl) ?_
      refine va_get (D := D) (ci := 4) (v := .int (σ.1 0 5)) (C := RX6) (T := TX6) (N := 27) hx hb ht gX6 hown hK.1 hP 0 (mw0 a c σ) rfl 12 (by decide) (ht _ q137) (fun _ h9 => h9) rfl dX6_readAll_33 ?_
      refine lv_iload_n hx hb dX6_readAll_36 rfl (lv_at hl 1 rfl) ?_
      refine lv_icmp_ge (tgt := 60) hx hb dX6_readAll_37 (by decide) (fun c_12 => ?_) (fun c_12 => ?_)
      · have hf := oit c_12 hf
        exact j60 x1 σ _ _ _ (lv_sub hl [0, 1] rfl) hP hS (okx hf (hx17 _))
      have hf := oif c_12 hf
      exact j40 σ _ _ _ (lv_sub hl [0, 1] rfl) hP hS hf
  have hf := oun (f_X6_readAll.eq_1 _ _ _) hf
  refine lv_aload_n hx hb dX6_readAll_0 rfl (lv_at hl 0 rfl) ?_
  refine lv_iconst (v := (0 : Int32)) hx hb dX6_readAll_1 (by decide) ?_
  refine va_put (D := D) (ci := 4) (v := .int (0 : Int32)) (ty := .int) (C := RX6) (T := TX6) (N := 27) hx hb ht gX6 tyX6 tyX6_ok nmX6 hown hK.1 hP (hD σ) hS 0 (mw0 a c σ) rfl 13 (by decide) (ht _ q138) (fun _ h9 => h9) rfl (by decide +kernel) rfl rfl (Nat.le_of_ble_eq_true rfl) dX6_readAll_2 (fun H locs hP _ hS => ?_)
  have hP := vP_eq (mpX6_readDolls a c σ (0 : Int32)) hP
  obtain ⟨σ_13, eσ_13, hf⟩ := onm hf
  rw [eσ_13] at hP
  refine lv_aload_n hx hb dX6_readAll_5 rfl (lv_at hl 0 rfl) ?_
  refine lv_iload_n hx hb dX6_readAll_6 rfl (lv_at hl 1 rfl) ?_
  refine lv_bipush (v := (110 : Int32)) hx hb dX6_readAll_7 (by decide) ?_
  obtain ⟨r_14, σ_15, h_16, hf⟩ := obd2 hf
  refine xv_I (As := [.int x1, .int (110 : Int32)]) (rest := []) S k_X6_isSign q164 q165 q166 ⟨Nat.le_of_ble_eq_true rfl, Nat.le_of_ble_eq_true rfl⟩ ⟨rfl, rfl⟩ (c_X6_isSign l D a c A hD x1 (110 : Int32) σ_13 r_14 σ_15 h_16) hK hP hS (va_recv hK.1 hP (rfl : vwCl[4]? = some (RX6, TX6, 27)) (mw0 a c σ_13)) rfl hl.1 rfl (Nat.le_of_ble_eq_true rfl) dX6_readAll_9 ⟨Nat.zero_le _, Nat.zero_le _⟩ (fun H locs hP hS => ?_)
  refine lv_if_ne (tgt := 17) hx hb dX6_readAll_12 (by decide) (fun c_17 => ?_) (fun c_17 => ?_)
  · have hf := oif c_17 hf
    exact L17 x1 N σ_15 _ _ _ (lv_sub hl [0, 1] rfl) hP hS hf
  have hf := oit c_17 hf
  refine lv_iconst (v := (0 : Int32)) hx hb dX6_readAll_15 (by decide) ?_
  exact hret _ _ _ _ _ _ dX6_readAll_16 (by decide) hP hS (oret hf)
theorem dX6_dolls_0 : decode cX6_dolls 0 = .ok (.aload_n 0, 1) := by decide +kernel
theorem dX6_dolls_1 : decode cX6_dolls 1 = .ok (.iconst 0, 1) := by decide +kernel
theorem dX6_dolls_2 : decode cX6_dolls 2 = .ok (.putfield 65, 3) := by decide +kernel
theorem dX6_dolls_5 : decode cX6_dolls 5 = .ok (.iload_n 1, 1) := by decide +kernel
theorem dX6_dolls_6 : decode cX6_dolls 6 = .ok (.invokestatic 85, 3) := by decide +kernel
theorem dX6_dolls_9 : decode cX6_dolls 9 = .ok (.ifCond .ne 5, 3) := by decide +kernel
theorem dX6_dolls_12 : decode cX6_dolls 12 = .ok (.iconst (-1), 1) := by decide +kernel
theorem dX6_dolls_13 : decode cX6_dolls 13 = .ok (.ireturn, 1) := by decide +kernel
theorem dX6_dolls_14 : decode cX6_dolls 14 = .ok (.iload_n 2, 1) := by decide +kernel
theorem dX6_dolls_15 : decode cX6_dolls 15 = .ok (.invokestatic 88, 3) := by decide +kernel
theorem dX6_dolls_18 : decode cX6_dolls 18 = .ok (.ifCond .ne 6, 3) := by decide +kernel
theorem dX6_dolls_21 : decode cX6_dolls 21 = .ok (.bipush (-2), 2) := by decide +kernel
theorem dX6_dolls_23 : decode cX6_dolls 23 = .ok (.ireturn, 1) := by decide +kernel
theorem dX6_dolls_24 : decode cX6_dolls 24 = .ok (.aload_n 0, 1) := by decide +kernel
theorem dX6_dolls_25 : decode cX6_dolls 25 = .ok (.iload_n 1, 1) := by decide +kernel
theorem dX6_dolls_26 : decode cX6_dolls 26 = .ok (.iload_n 2, 1) := by decide +kernel
theorem dX6_dolls_27 : decode cX6_dolls 27 = .ok (.iload_n 3, 1) := by decide +kernel
theorem dX6_dolls_28 : decode cX6_dolls 28 = .ok (.iload 4, 2) := by decide +kernel
theorem dX6_dolls_30 : decode cX6_dolls 30 = .ok (.invokevirtual 91, 3) := by decide +kernel
theorem dX6_dolls_33 : decode cX6_dolls 33 = .ok (.istore 5, 2) := by decide +kernel
theorem dX6_dolls_35 : decode cX6_dolls 35 = .ok (.iload 5, 2) := by decide +kernel
theorem dX6_dolls_37 : decode cX6_dolls 37 = .ok (.ifCond .eq 10, 3) := by decide +kernel
theorem dX6_dolls_40 : decode cX6_dolls 40 = .ok (.aload_n 0, 1) := by decide +kernel
theorem dX6_dolls_41 : decode cX6_dolls 41 = .ok (.iload 5, 2) := by decide +kernel
theorem dX6_dolls_43 : decode cX6_dolls 43 = .ok (.invokevirtual 95, 3) := by decide +kernel
theorem dX6_dolls_46 : decode cX6_dolls 46 = .ok (.ireturn, 1) := by decide +kernel
theorem dX6_dolls_47 : decode cX6_dolls 47 = .ok (.bipush 60, 2) := by decide +kernel
theorem dX6_dolls_49 : decode cX6_dolls 49 = .ok (.iload_n 1, 1) := by decide +kernel
theorem dX6_dolls_50 : decode cX6_dolls 50 = .ok (.imul, 1) := by decide +kernel
theorem dX6_dolls_51 : decode cX6_dolls 51 = .ok (.iload_n 3, 1) := by decide +kernel
theorem dX6_dolls_52 : decode cX6_dolls 52 = .ok (.iadd, 1) := by decide +kernel
theorem dX6_dolls_53 : decode cX6_dolls 53 = .ok (.istore 6, 2) := by decide +kernel
theorem dX6_dolls_55 : decode cX6_dolls 55 = .ok (.aload_n 0, 1) := by decide +kernel
theorem dX6_dolls_56 : decode cX6_dolls 56 = .ok (.iload 6, 2) := by decide +kernel
theorem dX6_dolls_58 : decode cX6_dolls 58 = .ok (.putfield 82, 3) := by decide +kernel
theorem dX6_dolls_61 : decode cX6_dolls 61 = .ok (.aload_n 0, 1) := by decide +kernel
theorem dX6_dolls_62 : decode cX6_dolls 62 = .ok (.iload 6, 2) := by decide +kernel
theorem dX6_dolls_64 : decode cX6_dolls 64 = .ok (.iload 4, 2) := by decide +kernel
theorem dX6_dolls_66 : decode cX6_dolls 66 = .ok (.iadd, 1) := by decide +kernel
theorem dX6_dolls_67 : decode cX6_dolls 67 = .ok (.invokevirtual 99, 3) := by decide +kernel
theorem dX6_dolls_70 : decode cX6_dolls 70 = .ok (.ifCond .ne 14, 3) := by decide +kernel
theorem dX6_dolls_73 : decode cX6_dolls 73 = .ok (.bipush (-100), 2) := by decide +kernel
theorem dX6_dolls_75 : decode cX6_dolls 75 = .ok (.aload_n 0, 1) := by decide +kernel
theorem dX6_dolls_76 : decode cX6_dolls 76 = .ok (.getfield 82, 3) := by decide +kernel
theorem dX6_dolls_79 : decode cX6_dolls 79 = .ok (.iload 6, 2) := by decide +kernel
theorem dX6_dolls_81 : decode cX6_dolls 81 = .ok (.isub, 1) := by decide +kernel
theorem dX6_dolls_82 : decode cX6_dolls 82 = .ok (.isub, 1) := by decide +kernel
theorem dX6_dolls_83 : decode cX6_dolls 83 = .ok (.ireturn, 1) := by decide +kernel
theorem dX6_dolls_84 : decode cX6_dolls 84 = .ok (.aload_n 0, 1) := by decide +kernel
theorem dX6_dolls_85 : decode cX6_dolls 85 = .ok (.aload_n 0, 1) := by decide +kernel
theorem dX6_dolls_86 : decode cX6_dolls 86 = .ok (.getfield 102, 3) := by decide +kernel
theorem dX6_dolls_89 : decode cX6_dolls 89 = .ok (.putfield 75, 3) := by decide +kernel
theorem dX6_dolls_92 : decode cX6_dolls 92 = .ok (.iconst 0, 1) := by decide +kernel
theorem dX6_dolls_93 : decode cX6_dolls 93 = .ok (.istore 7, 2) := by decide +kernel
theorem dX6_dolls_95 : decode cX6_dolls 95 = .ok (.iload 7, 2) := by decide +kernel
theorem dX6_dolls_97 : decode cX6_dolls 97 = .ok (.aload_n 0, 1) := by decide +kernel
theorem dX6_dolls_98 : decode cX6_dolls 98 = .ok (.getfield 75, 3) := by decide +kernel
theorem dX6_dolls_101 : decode cX6_dolls 101 = .ok (.if_icmp .ge 69, 3) := by decide +kernel
theorem dX6_dolls_104 : decode cX6_dolls 104 = .ok (.aload_n 0, 1) := by decide +kernel
theorem dX6_dolls_105 : decode cX6_dolls 105 = .ok (.getfield 19, 3) := by decide +kernel
theorem dX6_dolls_108 : decode cX6_dolls 108 = .ok (.iload 7, 2) := by decide +kernel
theorem dX6_dolls_110 : decode cX6_dolls 110 = .ok (.aload_n 0, 1) := by decide +kernel
theorem dX6_dolls_111 : decode cX6_dolls 111 = .ok (.getfield 31, 3) := by decide +kernel
theorem dX6_dolls_114 : decode cX6_dolls 114 = .ok (.iconst 3, 1) := by decide +kernel
theorem dX6_dolls_115 : decode cX6_dolls 115 = .ok (.iload 7, 2) := by decide +kernel
theorem dX6_dolls_117 : decode cX6_dolls 117 = .ok (.imul, 1) := by decide +kernel
theorem dX6_dolls_118 : decode cX6_dolls 118 = .ok (.iaload, 1) := by decide +kernel
theorem dX6_dolls_119 : decode cX6_dolls 119 = .ok (.iastore, 1) := by decide +kernel
theorem dX6_dolls_120 : decode cX6_dolls 120 = .ok (.aload_n 0, 1) := by decide +kernel
theorem dX6_dolls_121 : decode cX6_dolls 121 = .ok (.getfield 22, 3) := by decide +kernel
theorem dX6_dolls_124 : decode cX6_dolls 124 = .ok (.iload 7, 2) := by decide +kernel
theorem dX6_dolls_126 : decode cX6_dolls 126 = .ok (.aload_n 0, 1) := by decide +kernel
theorem dX6_dolls_127 : decode cX6_dolls 127 = .ok (.getfield 31, 3) := by decide +kernel
theorem dX6_dolls_130 : decode cX6_dolls 130 = .ok (.iconst 3, 1) := by decide +kernel
theorem dX6_dolls_131 : decode cX6_dolls 131 = .ok (.iload 7, 2) := by decide +kernel
theorem dX6_dolls_133 : decode cX6_dolls 133 = .ok (.imul, 1) := by decide +kernel
theorem dX6_dolls_134 : decode cX6_dolls 134 = .ok (.iconst 1, 1) := by decide +kernel
theorem dX6_dolls_135 : decode cX6_dolls 135 = .ok (.iadd, 1) := by decide +kernel
theorem dX6_dolls_136 : decode cX6_dolls 136 = .ok (.iaload, 1) := by decide +kernel
theorem dX6_dolls_137 : decode cX6_dolls 137 = .ok (.iastore, 1) := by decide +kernel
theorem dX6_dolls_138 : decode cX6_dolls 138 = .ok (.aload_n 0, 1) := by decide +kernel
theorem dX6_dolls_139 : decode cX6_dolls 139 = .ok (.getfield 25, 3) := by decide +kernel
theorem dX6_dolls_142 : decode cX6_dolls 142 = .ok (.iload 7, 2) := by decide +kernel
theorem dX6_dolls_144 : decode cX6_dolls 144 = .ok (.aload_n 0, 1) := by decide +kernel
theorem dX6_dolls_145 : decode cX6_dolls 145 = .ok (.getfield 31, 3) := by decide +kernel
theorem dX6_dolls_148 : decode cX6_dolls 148 = .ok (.iconst 3, 1) := by decide +kernel
theorem dX6_dolls_149 : decode cX6_dolls 149 = .ok (.iload 7, 2) := by decide +kernel
theorem dX6_dolls_151 : decode cX6_dolls 151 = .ok (.imul, 1) := by decide +kernel
theorem dX6_dolls_152 : decode cX6_dolls 152 = .ok (.iconst 2, 1) := by decide +kernel
theorem dX6_dolls_153 : decode cX6_dolls 153 = .ok (.iadd, 1) := by decide +kernel
theorem dX6_dolls_154 : decode cX6_dolls 154 = .ok (.iaload, 1) := by decide +kernel
theorem dX6_dolls_155 : decode cX6_dolls 155 = .ok (.iastore, 1) := by decide +kernel
theorem dX6_dolls_156 : decode cX6_dolls 156 = .ok (.aload_n 0, 1) := by decide +kernel
theorem dX6_dolls_157 : decode cX6_dolls 157 = .ok (.getfield 28, 3) := by decide +kernel
theorem dX6_dolls_160 : decode cX6_dolls 160 = .ok (.iload 7, 2) := by decide +kernel
theorem dX6_dolls_162 : decode cX6_dolls 162 = .ok (.iconst 0, 1) := by decide +kernel
theorem dX6_dolls_163 : decode cX6_dolls 163 = .ok (.iastore, 1) := by decide +kernel
theorem dX6_dolls_164 : decode cX6_dolls 164 = .ok (.iinc 7 1, 3) := by decide +kernel
theorem dX6_dolls_167 : decode cX6_dolls 167 = .ok (.goto (-72), 3) := by decide +kernel
theorem dX6_dolls_170 : decode cX6_dolls 170 = .ok (.aload_n 0, 1) := by decide +kernel
theorem dX6_dolls_171 : decode cX6_dolls 171 = .ok (.iconst 0, 1) := by decide +kernel
theorem dX6_dolls_172 : decode cX6_dolls 172 = .ok (.putfield 105, 3) := by decide +kernel
theorem dX6_dolls_175 : decode cX6_dolls 175 = .ok (.aload_n 0, 1) := by decide +kernel
theorem dX6_dolls_176 : decode cX6_dolls 176 = .ok (.iconst 0, 1) := by decide +kernel
theorem dX6_dolls_177 : decode cX6_dolls 177 = .ok (.putfield 108, 3) := by decide +kernel
theorem dX6_dolls_180 : decode cX6_dolls 180 = .ok (.aload_n 0, 1) := by decide +kernel
theorem dX6_dolls_181 : decode cX6_dolls 181 = .ok (.iconst 0, 1) := by decide +kernel
theorem dX6_dolls_182 : decode cX6_dolls 182 = .ok (.putfield 111, 3) := by decide +kernel
theorem dX6_dolls_185 : decode cX6_dolls 185 = .ok (.aload_n 0, 1) := by decide +kernel
theorem dX6_dolls_186 : decode cX6_dolls 186 = .ok (.getfield 75, 3) := by decide +kernel
theorem dX6_dolls_189 : decode cX6_dolls 189 = .ok (.ireturn, 1) := by decide +kernel
def f_X6_dolls_j170 (N : Nat) (σ : St) : Option (Int32 × St) :=
  nm (wS σ 0 4 (0 : Int32)) fun σ_1 =>
  nm (wS σ_1 0 3 (0 : Int32)) fun σ_2 =>
  nm (wS σ_2 0 8 (0 : Int32)) fun σ_3 =>
  some ((σ_3.1 0 2), σ_3)
def f_X6_dolls_b95 (N : Nat) (x7 : Int32) (σ : St) : Option ((Int32 × St) ⊕ ((St))) :=
  if (σ.1 0 2) ≤ x7 then (some (.inr σ))
  else gd (ck ((3 : Int32) * x7) 12) <|
  gd (ck x7 4) <|
  nm (wS σ 4 (Int32.toNatClampNeg x7) (σ.1 8 ((3 : Int32) * x7).toNatClampNeg)) fun σ_7 =>
  gd (ck (((3 : Int32) * x7) + (1 : Int32)) 12) <|
  gd (ck x7 4) <|
  nm (wS σ_7 5 (Int32.toNatClampNeg x7) (σ_7.1 8 (((3 : Int32) * x7) + (1 : Int32)).toNatClampNeg)) fun σ_10 =>
  gd (ck (((3 : Int32) * x7) + (2 : Int32)) 12) <|
  gd (ck x7 4) <|
  nm (wS σ_10 6 (Int32.toNatClampNeg x7) (σ_10.1 8 (((3 : Int32) * x7) + (2 : Int32)).toNatClampNeg)) fun σ_13 =>
  gd (ck x7 4) <|
  nm (wS σ_13 7 (Int32.toNatClampNeg x7) (0 : Int32)) fun σ_15 =>
  nm (x7 + (1 : Int32)) fun x7_16 =>
  some (.inl (x7_16, σ_15))
def f_X6_dolls (N : Nat) (x1 : Int32) (x2 : Int32) (x3 : Int32) (x4 : Int32) (σ : St) : Option (Int32 × St) :=
  nm (wS σ 0 0 (0 : Int32)) fun σ_17 =>
  bd (f_X6_isSheet x1) fun r_18 =>
  if r_18 = 0 then (some ((-1 : Int32), σ_17))
  else bd (f_X6_isSort x2) fun r_21 =>
    if r_21 = 0 then (some ((-2 : Int32), σ_17))
    else bd (f_X6_against x1 x2 x3 x4 σ_17) fun r_24 =>
      if r_24 = 0 then (nm (((60 : Int32) * x1) + x3) fun x6_27 =>
        nm (wS σ_17 0 5 x6_27) fun σ_28 =>
        bd2 (f_X6_readAll N (x6_27 + x4) σ_28) fun r_29 σ_30 =>
        if r_29 = 0 then (some (((-100 : Int32) - ((σ_30.1 0 5) - x6_27)), σ_30))
        else nm (wS σ_30 0 2 (σ_30.1 0 6)) fun σ_33 =>
          bd (lpF (fun s => f_X6_dolls_b95 N s.1 s.2) N ((0 : Int32), σ_33)) (fun o => f_X6_dolls_j170 N o))
      else bd2 (f_X6_fails r_24 σ_17) fun r_34 σ_35 =>
      some (r_34, σ_35)
abbrev rmX6_dolls : Room := { frames := 4, cells := 0, slots := 0, locals := 89 }
set_option maxRecDepth 100000 in
set_option maxHeartbeats 4000000 in
theorem c_X6_dolls (l : Launch) (D : va_G) (a : Nat → Nat) (c : Nat → ClassId) (A : Nat → Prop) (hD : ∀ σ, va_D A (mW a c σ)) (N : Nat) (x1 : Int32) (x2 : Int32) (x3 : Int32) (x4 : Int32) (σ : St) (r : Int32) (u : St) (hf : f_X6_dolls N x1 x2 x3 x4 σ = some (r, u)) : MetI l yX6_dolls cX6_dolls 8 (some .int) rmX6_dolls (mW a c) D c A [.ref (a 0), .int x1, .int x2, .int x3, .int x4] σ r u := by
  refine mkI (by decide) (Nat.le_of_ble_eq_true rfl) rfl ?_
  intro p e s m args below meth cd Q ls h0 hK hP hret hl
  obtain ⟨S, hr, hlk⟩ := h0
  obtain ⟨hx, hb, hml, hown, ht⟩ := id S
  have hS : va_S A s.heap s.heap [] := va_S.rf
  have hl : lv_has ls 8 [(0, .ref (a 0)), (1, .int x1), (2, .int x2), (3, .int x3), (4, .int x4)] := hl
  have hf := obs hf
  have j170 : ∀ (σ : St) (H : Heap) (locs : List Loc) (ls : Array Slot), lv_has ls 8 [(0, .ref (a 0))] → va_P D vwCl (mW a c σ) H → va_S A s.heap H locs → Option.bind (f_X6_dolls_j170 N σ) some = some (r, u) → W p l e rmX6_dolls s m args below meth cd H locs 0 0 Q (F0 m 170 ls []) := by
    intro σ H locs ls hl hP hS hf
    have hf := oun (f_X6_dolls_j170.eq_1 _ _) hf
    refine lv_aload_n hx hb dX6_dolls_170 rfl (lv_at hl 0 rfl) ?_
    refine lv_iconst (v := (0 : Int32)) hx hb dX6_dolls_171 (by decide) ?_
    refine va_put (D := D) (ci := 4) (v := .int (0 : Int32)) (ty := .int) (C := RX6) (T := TX6) (N := 27) hx hb ht gX6 tyX6 tyX6_ok nmX6 hown hK.1 hP (hD σ) hS 0 (mw0 a c σ) rfl 11 (by decide) (ht _ q140) (fun _ h9 => h9) rfl (by decide +kernel) rfl rfl (Nat.le_of_ble_eq_true rfl) dX6_dolls_172 (fun H locs hP _ hS => ?_)
    have hP := vP_eq (mpX6_open a c σ (0 : Int32)) hP
    obtain ⟨σ_1, eσ_1, hf⟩ := onm hf
    rw [eσ_1] at hP
    refine lv_aload_n hx hb dX6_dolls_175 rfl (lv_at hl 0 rfl) ?_
    refine lv_iconst (v := (0 : Int32)) hx hb dX6_dolls_176 (by decide) ?_
    refine va_put (D := D) (ci := 4) (v := .int (0 : Int32)) (ty := .int) (C := RX6) (T := TX6) (N := 27) hx hb ht gX6 tyX6 tyX6_ok nmX6 hown hK.1 hP (hD σ_1) hS 0 (mw0 a c σ_1) rfl 6 (by decide) (ht _ q141) (fun _ h9 => h9) rfl (by decide +kernel) rfl rfl (Nat.le_of_ble_eq_true rfl) dX6_dolls_177 (fun H locs hP _ hS => ?_)
    have hP := vP_eq (mpX6_done a c σ_1 (0 : Int32)) hP
    obtain ⟨σ_2, eσ_2, hf⟩ := onm hf
    rw [eσ_2] at hP
    refine lv_aload_n hx hb dX6_dolls_180 rfl (lv_at hl 0 rfl) ?_
    refine lv_iconst (v := (0 : Int32)) hx hb dX6_dolls_181 (by decide) ?_
    refine va_put (D := D) (ci := 4) (v := .int (0 : Int32)) (ty := .int) (C := RX6) (T := TX6) (N := 27) hx hb ht gX6 tyX6 tyX6_ok nmX6 hown hK.1 hP (hD σ_2) hS 0 (mw0 a c σ_2) rfl 23 (by decide) (ht _ q142) (fun _ h9 => h9) rfl (by decide +kernel) rfl rfl (Nat.le_of_ble_eq_true rfl) dX6_dolls_182 (fun H locs hP _ hS => ?_)
    have hP := vP_eq (mpX6_readings a c σ_2 (0 : Int32)) hP
    obtain ⟨σ_3, eσ_3, hf⟩ := onm hf
    rw [eσ_3] at hP
    refine lv_aload_n hx hb dX6_dolls_185 rfl (lv_at hl 0 rfl) ?_
    refine va_get (D := D) (ci := 4) (v := .int (σ_3.1 0 2)) (C := RX6) (T := TX6) (N := 27) hx hb ht gX6 hown hK.1 hP 0 (mw0 a c σ_3) rfl 5 (by decide) (ht _ q139) (fun _ h9 => h9) rfl dX6_dolls_186 ?_
    exact hret _ _ _ _ _ _ dX6_dolls_189 rfl hP hS (oret hf)
  have L95 : ∀ (k : Nat) (x7 : Int32) (σ : St) (H : Heap) (locs : List Loc) (ls : Array Slot), lv_has ls 8 [(0, .ref (a 0)), (7, .int x7)] → va_P D vwCl (mW a c σ) H → va_S A s.heap H locs → Option.bind (bd (lpF (fun s => f_X6_dolls_b95 N s.1 s.2) k (x7, σ)) (fun o => f_X6_dolls_j170 N o)) some = some (r, u) → W p l e rmX6_dolls s m args below meth cd H locs 0 0 Q (F0 m 95 ls []) := by
    intro k
    induction k with
    | zero =>
      intro x7 σ H locs ls hl hP hS hf
      exact (ol0 hf).elim
    | succ k ih =>
      intro x7 σ H locs ls hl hP hS hf
      obtain ⟨K95, hf, hc95, hx95⟩ := ol1 hf
      have hf := oun (f_X6_dolls_b95.eq_1 N x7 σ) hf
      refine lv_iload hx hb dX6_dolls_95 (lv_at hl 1 rfl) ?_
      refine lv_aload_n hx hb dX6_dolls_97 rfl (lv_at hl 0 rfl) ?_
      refine va_get (D := D) (ci := 4) (v := .int (σ.1 0 2)) (C := RX6) (T := TX6) (N := 27) hx hb ht gX6 hown hK.1 hP 0 (mw0 a c σ) rfl 5 (by decide) (ht _ q139) (fun _ h9 => h9) rfl dX6_dolls_98 ?_
      refine lv_icmp_ge (tgt := 170) hx hb dX6_dolls_101 (by decide) (fun c_4 => ?_) (fun c_4 => ?_)
      · have hf := oit c_4 hf
        exact j170 σ _ _ _ (lv_sub hl [0] rfl) hP hS (okx hf (hx95 _))
      have hf := oif c_4 hf
      refine lv_aload_n hx hb dX6_dolls_104 rfl (lv_at hl 0 rfl) ?_
      refine va_get (D := D) (ci := 4) (v := .ref (a 4)) (C := RX6) (T := TX6) (N := 27) hx hb ht gX6 hown hK.1 hP 0 (mw0 a c σ) rfl 7 (by decide) (ht _ q53) (fun _ h9 => h9) rfl dX6_dolls_105 ?_
      refine lv_iload hx hb dX6_dolls_108 (lv_at hl 1 rfl) ?_
      refine lv_aload_n hx hb dX6_dolls_110 rfl (lv_at hl 0 rfl) ?_
      refine va_get (D := D) (ci := 4) (v := .ref (a 8)) (C := RX6) (T := TX6) (N := 27) hx hb ht gX6 hown hK.1 hP 0 (mw0 a c σ) rfl 14 (by decide) (ht _ q57) (fun _ h9 => h9) rfl dX6_dolls_111 ?_
      refine lv_iconst (v := (3 : Int32)) hx hb dX6_dolls_114 (by decide) ?_
      refine lv_iload hx hb dX6_dolls_115 (lv_at hl 1 rfl) ?_
      refine lv_imul hx hb dX6_dolls_117 ?_
      obtain ⟨g_5, hf⟩ := ogd hf
      refine va_iald hx hb hK.1 hP 8 0 (mw8 a c σ) rfl (ck_in g_5) dX6_dolls_118 ?_
      obtain ⟨g_6, hf⟩ := ogd hf
      refine va_iast hx hb hK.1 hP (hD σ) hS 4 0 (mw4 a c σ) rfl (ck_in g_6) dX6_dolls_119 (fun H locs hP _ hS => ?_)
      have hP := vP_eq (mpA_m4 a c σ (Int32.toNatClampNeg x7) (σ.1 8 ((3 : Int32) * x7).toNatClampNeg)) hP
      obtain ⟨σ_7, eσ_7, hf⟩ := onm hf
      rw [eσ_7] at hP
      refine lv_aload_n hx hb dX6_dolls_120 rfl (lv_at hl 0 rfl) ?_
      refine va_get (D := D) (ci := 4) (v := .ref (a 5)) (C := RX6) (T := TX6) (N := 27) hx hb ht gX6 hown hK.1 hP 0 (mw0 a c σ_7) rfl 8 (by decide) (ht _ q54) (fun _ h9 => h9) rfl dX6_dolls_121 ?_
      refine lv_iload hx hb dX6_dolls_124 (lv_at hl 1 rfl) ?_
      refine lv_aload_n hx hb dX6_dolls_126 rfl (lv_at hl 0 rfl) ?_
      refine va_get (D := D) (ci := 4) (v := .ref (a 8)) (C := RX6) (T := TX6) (N := 27) hx hb ht gX6 hown hK.1 hP 0 (mw0 a c σ_7) rfl 14 (by decide) (ht _ q57) (fun _ h9 => h9) rfl dX6_dolls_127 ?_
      refine lv_iconst (v := (3 : Int32)) hx hb dX6_dolls_130 (by decide) ?_
      refine lv_iload hx hb dX6_dolls_131 (lv_at hl 1 rfl) ?_
      refine lv_imul hx hb dX6_dolls_133 ?_
      refine lv_iconst (v := (1 : Int32)) hx hb dX6_dolls_134 (by decide) ?_
      refine lv_iadd hx hb dX6_dolls_135 ?_
      obtain ⟨g_8, hf⟩ := ogd hf
      refine va_iald hx hb hK.1 hP 8 0 (mw8 a c σ_7) rfl (ck_in g_8) dX6_dolls_136 ?_
      obtain ⟨g_9, hf⟩ := ogd hf
      refine va_iast hx hb hK.1 hP (hD σ_7) hS 5 0 (mw5 a c σ_7) rfl (ck_in g_9) dX6_dolls_137 (fun H locs hP _ hS => ?_)
      have hP := vP_eq (mpA_m5 a c σ_7 (Int32.toNatClampNeg x7) (σ_7.1 8 (((3 : Int32) * x7) + (1 : Int32)).toNatClampNeg)) hP
      obtain ⟨σ_10, eσ_10, hf⟩ := onm hf
      rw [eσ_10] at hP
      refine lv_aload_n hx hb dX6_dolls_138 rfl (lv_at hl 0 rfl) ?_
      refine va_get (D := D) (ci := 4) (v := .ref (a 6)) (C := RX6) (T := TX6) (N := 27) hx hb ht gX6 hown hK.1 hP 0 (mw0 a c σ_10) rfl 9 (by decide) (ht _ q55) (fun _ h9 => h9) rfl dX6_dolls_139 ?_
      refine lv_iload hx hb dX6_dolls_142 (lv_at hl 1 rfl) ?_
      refine lv_aload_n hx hb dX6_dolls_144 rfl (lv_at hl 0 rfl) ?_
      refine va_get (D := D) (ci := 4) (v := .ref (a 8)) (C := RX6) (T := TX6) (N := 27) hx hb ht gX6 hown hK.1 hP 0 (mw0 a c σ_10) rfl 14 (by decide) (ht _ q57) (fun _ h9 => h9) rfl dX6_dolls_145 ?_
      refine lv_iconst (v := (3 : Int32)) hx hb dX6_dolls_148 (by decide) ?_
      refine lv_iload hx hb dX6_dolls_149 (lv_at hl 1 rfl) ?_
      refine lv_imul hx hb dX6_dolls_151 ?_
      refine lv_iconst (v := (2 : Int32)) hx hb dX6_dolls_152 (by decide) ?_
      refine lv_iadd hx hb dX6_dolls_153 ?_
      obtain ⟨g_11, hf⟩ := ogd hf
      refine va_iald hx hb hK.1 hP 8 0 (mw8 a c σ_10) rfl (ck_in g_11) dX6_dolls_154 ?_
      obtain ⟨g_12, hf⟩ := ogd hf
      refine va_iast hx hb hK.1 hP (hD σ_10) hS 6 0 (mw6 a c σ_10) rfl (ck_in g_12) dX6_dolls_155 (fun H locs hP _ hS => ?_)
      have hP := vP_eq (mpA_m6 a c σ_10 (Int32.toNatClampNeg x7) (σ_10.1 8 (((3 : Int32) * x7) + (2 : Int32)).toNatClampNeg)) hP
      obtain ⟨σ_13, eσ_13, hf⟩ := onm hf
      rw [eσ_13] at hP
      refine lv_aload_n hx hb dX6_dolls_156 rfl (lv_at hl 0 rfl) ?_
      refine va_get (D := D) (ci := 4) (v := .ref (a 7)) (C := RX6) (T := TX6) (N := 27) hx hb ht gX6 hown hK.1 hP 0 (mw0 a c σ_13) rfl 10 (by decide) (ht _ q56) (fun _ h9 => h9) rfl dX6_dolls_157 ?_
      refine lv_iload hx hb dX6_dolls_160 (lv_at hl 1 rfl) ?_
      refine lv_iconst (v := (0 : Int32)) hx hb dX6_dolls_162 (by decide) ?_
      obtain ⟨g_14, hf⟩ := ogd hf
      refine va_iast hx hb hK.1 hP (hD σ_13) hS 7 0 (mw7 a c σ_13) rfl (ck_in g_14) dX6_dolls_163 (fun H locs hP _ hS => ?_)
      have hP := vP_eq (mpA_m7 a c σ_13 (Int32.toNatClampNeg x7) (0 : Int32)) hP
      obtain ⟨σ_15, eσ_15, hf⟩ := onm hf
      rw [eσ_15] at hP
      obtain ⟨x7_16, ex7_16, hf⟩ := onm hf
      refine lv_iinc (v := x7_16) (lv' := [(7, .int x7_16), (0, .ref (a 0))]) hx hb dX6_dolls_164 hl (k := 1) rfl ex7_16 (by decide) rfl (fun ls hl => ?_)
      refine lv_goto (tgt := 95) hx hb dX6_dolls_167 (by decide) ?_
      exact ih x7_16 σ_15 _ _ _ (lv_sub hl [1, 0] rfl) hP hS (okx hf (hc95 _))
  have hf := oun (f_X6_dolls.eq_1 _ _ _ _ _ _) hf
  refine lv_aload_n hx hb dX6_dolls_0 rfl (lv_at hl 0 rfl) ?_
  refine lv_iconst (v := (0 : Int32)) hx hb dX6_dolls_1 (by decide) ?_
  refine va_put (D := D) (ci := 4) (v := .int (0 : Int32)) (ty := .int) (C := RX6) (T := TX6) (N := 27) hx hb ht gX6 tyX6 tyX6_ok nmX6 hown hK.1 hP (hD σ) hS 0 (mw0 a c σ) rfl 0 (by decide) (ht _ q136) (fun _ h9 => h9) rfl (by decide +kernel) rfl rfl (Nat.le_of_ble_eq_true rfl) dX6_dolls_2 (fun H locs hP _ hS => ?_)
  have hP := vP_eq (mpX6_fault a c σ (0 : Int32)) hP
  obtain ⟨σ_17, eσ_17, hf⟩ := onm hf
  rw [eσ_17] at hP
  refine lv_iload_n hx hb dX6_dolls_5 rfl (lv_at hl 1 rfl) ?_
  obtain ⟨r_18, h_19, hf⟩ := obd hf
  refine xs_S (As := [.int x1]) (rest := []) S k_X6_isSheet q143 q144 ⟨Nat.le_of_ble_eq_true rfl, Nat.le_of_ble_eq_true rfl⟩ ⟨rfl, rfl⟩ (c_X6_isSheet l x1 r_18 h_19) hK.2 rfl hl.1 rfl (Nat.le_of_ble_eq_true rfl) dX6_dolls_6 ⟨Nat.zero_le _, Nat.zero_le _⟩ ?_
  refine lv_if_ne (tgt := 14) hx hb dX6_dolls_9 (by decide) (fun c_20 => ?_) (fun c_20 => ?_)
  · have hf := oif c_20 hf
    refine lv_iload_n hx hb dX6_dolls_14 rfl (lv_at hl 2 rfl) ?_
    obtain ⟨r_21, h_22, hf⟩ := obd hf
    refine xs_S (As := [.int x2]) (rest := []) S k_X6_isSort q149 q150 ⟨Nat.le_of_ble_eq_true rfl, Nat.le_of_ble_eq_true rfl⟩ ⟨rfl, rfl⟩ (c_X6_isSort l x2 r_21 h_22) hK.2 rfl hl.1 rfl (Nat.le_of_ble_eq_true rfl) dX6_dolls_15 ⟨Nat.zero_le _, Nat.zero_le _⟩ ?_
    refine lv_if_ne (tgt := 24) hx hb dX6_dolls_18 (by decide) (fun c_23 => ?_) (fun c_23 => ?_)
    · have hf := oif c_23 hf
      refine lv_aload_n hx hb dX6_dolls_24 rfl (lv_at hl 0 rfl) ?_
      refine lv_iload_n hx hb dX6_dolls_25 rfl (lv_at hl 1 rfl) ?_
      refine lv_iload_n hx hb dX6_dolls_26 rfl (lv_at hl 2 rfl) ?_
      refine lv_iload_n hx hb dX6_dolls_27 rfl (lv_at hl 3 rfl) ?_
      refine lv_iload hx hb dX6_dolls_28 (lv_at hl 4 rfl) ?_
      obtain ⟨r_24, h_25, hf⟩ := obd hf
      refine xv_I (As := [.int x1, .int x2, .int x3, .int x4]) (rest := []) S k_X6_against q152 q153 q154 ⟨Nat.le_of_ble_eq_true rfl, Nat.le_of_ble_eq_true rfl⟩ ⟨rfl, rfl⟩ (c_X6_against l D a c A hD x1 x2 x3 x4 σ_17 r_24 h_25) hK hP hS (va_recv hK.1 hP (rfl : vwCl[4]? = some (RX6, TX6, 27)) (mw0 a c σ_17)) rfl hl.1 rfl (Nat.le_of_ble_eq_true rfl) dX6_dolls_30 ⟨Nat.zero_le _, Nat.zero_le _⟩ (fun H locs hP hS => ?_)
      refine lv_istore (lv' := [(5, .int r_24), (0, .ref (a 0)), (1, .int x1), (2, .int x2), (3, .int x3), (4, .int x4)]) hx hb dX6_dolls_33 hl (by decide) rfl (fun ls hl => ?_)
      refine lv_iload hx hb dX6_dolls_35 (lv_at hl 0 rfl) ?_
      refine lv_if_eq (tgt := 47) hx hb dX6_dolls_37 (by decide) (fun c_26 => ?_) (fun c_26 => ?_)
      · have hf := oit c_26 hf
        refine lv_bipush (v := (60 : Int32)) hx hb dX6_dolls_47 (by decide) ?_
        refine lv_iload_n hx hb dX6_dolls_49 rfl (lv_at hl 2 rfl) ?_
        refine lv_imul hx hb dX6_dolls_50 ?_
        refine lv_iload_n hx hb dX6_dolls_51 rfl (lv_at hl 4 rfl) ?_
        refine lv_iadd hx hb dX6_dolls_52 ?_
        obtain ⟨x6_27, ex6_27, hf⟩ := onm hf
        refine lv_nm ex6_27 ?_
        refine lv_istore (lv' := [(6, .int x6_27), (5, .int r_24), (0, .ref (a 0)), (1, .int x1), (2, .int x2), (3, .int x3), (4, .int x4)]) hx hb dX6_dolls_53 hl (by decide) rfl (fun ls hl => ?_)
        refine lv_aload_n hx hb dX6_dolls_55 rfl (lv_at hl 2 rfl) ?_
        refine lv_iload hx hb dX6_dolls_56 (lv_at hl 0 rfl) ?_
        refine va_put (D := D) (ci := 4) (v := .int x6_27) (ty := .int) (C := RX6) (T := TX6) (N := 27) hx hb ht gX6 tyX6 tyX6_ok nmX6 hown hK.1 hP (hD σ_17) hS 0 (mw0 a c σ_17) rfl 12 (by decide) (ht _ q137) (fun _ h9 => h9) rfl (by decide +kernel) rfl rfl (Nat.le_of_ble_eq_true rfl) dX6_dolls_58 (fun H locs hP _ hS => ?_)
        have hP := vP_eq (mpX6_at a c σ_17 x6_27) hP
        obtain ⟨σ_28, eσ_28, hf⟩ := onm hf
        rw [eσ_28] at hP
        refine lv_aload_n hx hb dX6_dolls_61 rfl (lv_at hl 2 rfl) ?_
        refine lv_iload hx hb dX6_dolls_62 (lv_at hl 0 rfl) ?_
        refine lv_iload hx hb dX6_dolls_64 (lv_at hl 6 rfl) ?_
        refine lv_iadd hx hb dX6_dolls_66 ?_
        obtain ⟨r_29, σ_30, h_31, hf⟩ := obd2 hf
        refine xv_I (As := [.int (x6_27 + x4)]) (rest := []) S k_X6_readAll q160 q161 q162 ⟨Nat.le_of_ble_eq_true rfl, Nat.le_of_ble_eq_true rfl⟩ ⟨rfl, rfl⟩ (c_X6_readAll l D a c A hD N (x6_27 + x4) σ_28 r_29 σ_30 h_31) hK hP hS (va_recv hK.1 hP (rfl : vwCl[4]? = some (RX6, TX6, 27)) (mw0 a c σ_28)) rfl hl.1 rfl (Nat.le_of_ble_eq_true rfl) dX6_dolls_67 ⟨Nat.zero_le _, Nat.zero_le _⟩ (fun H locs hP hS => ?_)
        refine lv_if_ne (tgt := 84) hx hb dX6_dolls_70 (by decide) (fun c_32 => ?_) (fun c_32 => ?_)
        · have hf := oif c_32 hf
          refine lv_aload_n hx hb dX6_dolls_84 rfl (lv_at hl 2 rfl) ?_
          refine lv_aload_n hx hb dX6_dolls_85 rfl (lv_at hl 2 rfl) ?_
          refine va_get (D := D) (ci := 4) (v := .int (σ_30.1 0 6)) (C := RX6) (T := TX6) (N := 27) hx hb ht gX6 hown hK.1 hP 0 (mw0 a c σ_30) rfl 13 (by decide) (ht _ q138) (fun _ h9 => h9) rfl dX6_dolls_86 ?_
          refine va_put (D := D) (ci := 4) (v := .int (σ_30.1 0 6)) (ty := .int) (C := RX6) (T := TX6) (N := 27) hx hb ht gX6 tyX6 tyX6_ok nmX6 hown hK.1 hP (hD σ_30) hS 0 (mw0 a c σ_30) rfl 5 (by decide) (ht _ q139) (fun _ h9 => h9) rfl (by decide +kernel) rfl rfl (Nat.le_of_ble_eq_true rfl) dX6_dolls_89 (fun H locs hP _ hS => ?_)
          have hP := vP_eq (mpX6_dolls a c σ_30 (σ_30.1 0 6)) hP
          obtain ⟨σ_33, eσ_33, hf⟩ := onm hf
          rw [eσ_33] at hP
          refine lv_iconst (v := (0 : Int32)) hx hb dX6_dolls_92 (by decide) ?_
          refine lv_istore (lv' := [(7, .int (0 : Int32)), (6, .int x6_27), (5, .int r_24), (0, .ref (a 0)), (1, .int x1), (2, .int x2), (3, .int x3), (4, .int x4)]) hx hb dX6_dolls_93 hl (by decide) rfl (fun ls hl => ?_)
          exact L95 N (0 : Int32) σ_33 _ _ _ (lv_sub hl [3, 0] rfl) hP hS hf
        have hf := oit c_32 hf
        refine lv_bipush (v := (-100 : Int32)) hx hb dX6_dolls_73 (by decide) ?_
        refine lv_aload_n hx hb dX6_dolls_75 rfl (lv_at hl 2 rfl) ?_
        refine va_get (D := D) (ci := 4) (v := .int (σ_30.1 0 5)) (C := RX6) (T := TX6) (N := 27) hx hb ht gX6 hown hK.1 hP 0 (mw0 a c σ_30) rfl 12 (by decide) (ht _ q137) (fun _ h9 => h9) rfl dX6_dolls_76 ?_
        refine lv_iload hx hb dX6_dolls_79 (lv_at hl 0 rfl) ?_
        refine lv_isub hx hb dX6_dolls_81 ?_
        refine lv_isub hx hb dX6_dolls_82 ?_
        exact hret _ _ _ _ _ _ dX6_dolls_83 rfl hP hS (oret hf)
      have hf := oif c_26 hf
      refine lv_aload_n hx hb dX6_dolls_40 rfl (lv_at hl 1 rfl) ?_
      refine lv_iload hx hb dX6_dolls_41 (lv_at hl 0 rfl) ?_
      obtain ⟨r_34, σ_35, h_36, hf⟩ := obd2 hf
      refine xv_I (As := [.int r_24]) (rest := []) S k_X6_fails q156 q157 q158 ⟨Nat.le_of_ble_eq_true rfl, Nat.le_of_ble_eq_true rfl⟩ ⟨rfl, rfl⟩ (c_X6_fails l D a c A hD r_24 σ_17 r_34 σ_35 h_36) hK hP hS (va_recv hK.1 hP (rfl : vwCl[4]? = some (RX6, TX6, 27)) (mw0 a c σ_17)) rfl hl.1 rfl (Nat.le_of_ble_eq_true rfl) dX6_dolls_43 ⟨Nat.zero_le _, Nat.zero_le _⟩ (fun H locs hP hS => ?_)
      exact hret _ _ _ _ _ _ dX6_dolls_46 rfl hP hS (oret hf)
    have hf := oit c_23 hf
    refine lv_bipush (v := (-2 : Int32)) hx hb dX6_dolls_21 (by decide) ?_
    exact hret _ _ _ _ _ _ dX6_dolls_23 rfl hP hS (oret hf)
  have hf := oit c_20 hf
  refine lv_iconst (v := (-1 : Int32)) hx hb dX6_dolls_12 (by decide) ?_
  exact hret _ _ _ _ _ _ dX6_dolls_13 rfl hP hS (oret hf)
theorem dX6_inOf_0 : decode cX6_inOf 0 = .ok (.iconst 0, 1) := by decide +kernel
theorem dX6_inOf_1 : decode cX6_inOf 1 = .ok (.istore_n 2, 1) := by decide +kernel
theorem dX6_inOf_2 : decode cX6_inOf 2 = .ok (.iload_n 2, 1) := by decide +kernel
theorem dX6_inOf_3 : decode cX6_inOf 3 = .ok (.aload_n 0, 1) := by decide +kernel
theorem dX6_inOf_4 : decode cX6_inOf 4 = .ok (.getfield 75, 3) := by decide +kernel
theorem dX6_inOf_7 : decode cX6_inOf 7 = .ok (.if_icmp .ge 23, 3) := by decide +kernel
theorem dX6_inOf_10 : decode cX6_inOf 10 = .ok (.aload_n 0, 1) := by decide +kernel
theorem dX6_inOf_11 : decode cX6_inOf 11 = .ok (.getfield 28, 3) := by decide +kernel
theorem dX6_inOf_14 : decode cX6_inOf 14 = .ok (.iload_n 2, 1) := by decide +kernel
theorem dX6_inOf_15 : decode cX6_inOf 15 = .ok (.iaload, 1) := by decide +kernel
theorem dX6_inOf_16 : decode cX6_inOf 16 = .ok (.iconst 1, 1) := by decide +kernel
theorem dX6_inOf_17 : decode cX6_inOf 17 = .ok (.iload_n 1, 1) := by decide +kernel
theorem dX6_inOf_18 : decode cX6_inOf 18 = .ok (.iadd, 1) := by decide +kernel
theorem dX6_inOf_19 : decode cX6_inOf 19 = .ok (.if_icmp .ne 5, 3) := by decide +kernel
theorem dX6_inOf_22 : decode cX6_inOf 22 = .ok (.iload_n 2, 1) := by decide +kernel
theorem dX6_inOf_23 : decode cX6_inOf 23 = .ok (.ireturn, 1) := by decide +kernel
theorem dX6_inOf_24 : decode cX6_inOf 24 = .ok (.iinc 2 1, 3) := by decide +kernel
theorem dX6_inOf_27 : decode cX6_inOf 27 = .ok (.goto (-25), 3) := by decide +kernel
theorem dX6_inOf_30 : decode cX6_inOf 30 = .ok (.bipush (-9), 2) := by decide +kernel
theorem dX6_inOf_32 : decode cX6_inOf 32 = .ok (.ireturn, 1) := by decide +kernel
def f_X6_inOf_j30 (N : Nat) (σ : St) : Option Int32 :=
  some (-9 : Int32)
def f_X6_inOf_b2 (N : Nat) (x1 : Int32) (x2 : Int32) (σ : St) : Option ((Int32) ⊕ (Int32 ⊕ (Unit))) :=
  if (σ.1 0 2) ≤ x2 then (some (.inr (.inr ())))
  else gd (ck x2 4) <|
  if (σ.1 7 x2.toNatClampNeg) = ((1 : Int32) + x1) then (some (.inr (.inl x2)))
  else nm (x2 + (1 : Int32)) fun x2_4 =>
    some (.inl x2_4)
def f_X6_inOf (N : Nat) (x1 : Int32) (σ : St) : Option Int32 :=
  bd (lpF (fun s => f_X6_inOf_b2 N x1 s σ) N (0 : Int32)) (Sum.elim (fun v => some v) (fun o => f_X6_inOf_j30 N σ))
abbrev rmX6_inOf : Room := { frames := 0, cells := 0, slots := 0, locals := 0 }
set_option maxRecDepth 100000 in
set_option maxHeartbeats 4000000 in
theorem c_X6_inOf (l : Launch) (D : va_G) (a : Nat → Nat) (c : Nat → ClassId) (A : Nat → Prop) (hD : ∀ σ, va_D A (mW a c σ)) (N : Nat) (x1 : Int32) (σ : St) (r : Int32) (hf : f_X6_inOf N x1 σ = some r) : MetI l yX6_inOf cX6_inOf 3 (some .int) rmX6_inOf (mW a c) D c A [.ref (a 0), .int x1] σ r σ := by
  refine mkI (by decide) (Nat.le_of_ble_eq_true rfl) rfl ?_
  intro p e s m args below meth cd Q ls h0 hK hP hret hl
  obtain ⟨S, hr, hlk⟩ := h0
  obtain ⟨hx, hb, hml, hown, ht⟩ := id S
  have hS : va_S A s.heap s.heap [] := va_S.rf
  have hl : lv_has ls 3 [(0, .ref (a 0)), (1, .int x1)] := hl
  have hf := obs hf
  have j30 : ∀ (H : Heap) (locs : List Loc) (ls : Array Slot), lv_has ls 3 [] → va_P D vwCl (mW a c σ) H → va_S A s.heap H locs → Option.bind (f_X6_inOf_j30 N σ) some = some r → W p l e rmX6_inOf s m args below meth cd H locs 0 0 Q (F0 m 30 ls []) := by
    intro H locs ls hl hP hS hf
    have hf := oun (f_X6_inOf_j30.eq_1 _ _) hf
    refine lv_bipush (v := (-9 : Int32)) hx hb dX6_inOf_30 (by decide) ?_
    exact hret _ _ _ _ _ _ dX6_inOf_32 rfl hP hS ⟨Option.some.inj hf, rfl⟩
  have L2 : ∀ (x1 : Int32) (k : Nat) (x2 : Int32) (H : Heap) (locs : List Loc) (ls : Array Slot), lv_has ls 3 [(0, .ref (a 0)), (1, .int x1), (2, .int x2)] → va_P D vwCl (mW a c σ) H → va_S A s.heap H locs → Option.bind (bd (lpF (fun s => f_X6_inOf_b2 N x1 s σ) k x2) (Sum.elim (fun v => some v) (fun o => f_X6_inOf_j30 N σ))) some = some r → W p l e rmX6_inOf s m args below meth cd H locs 0 0 Q (F0 m 2 ls []) := by
    intro x1 k
    induction k with
    | zero =>
      intro x2 H locs ls hl hP hS hf
      exact (ol0 hf).elim
    | succ k ih =>
      intro x2 H locs ls hl hP hS hf
      obtain ⟨K2, hf, hc2, hx2⟩ := ol1 hf
      have hf := oun (f_X6_inOf_b2.eq_1 N x1 x2 σ) hf
      refine lv_iload_n hx hb dX6_inOf_2 rfl (lv_at hl 2 rfl) ?_
      refine lv_aload_n hx hb dX6_inOf_3 rfl (lv_at hl 0 rfl) ?_
      refine va_get (D := D) (ci := 4) (v := .int (σ.1 0 2)) (C := RX6) (T := TX6) (N := 27) hx hb ht gX6 hown hK.1 hP 0 (mw0 a c σ) rfl 5 (by decide) (ht _ q139) (fun _ h9 => h9) rfl dX6_inOf_4 ?_
      refine lv_icmp_ge (tgt := 30) hx hb dX6_inOf_7 (by decide) (fun c_1 => ?_) (fun c_1 => ?_)
      · have hf := oit c_1 hf
        exact j30 _ _ _ (lv_sub hl [] rfl) hP hS (okx hf (hx2 _))
      have hf := oif c_1 hf
      refine lv_aload_n hx hb dX6_inOf_10 rfl (lv_at hl 0 rfl) ?_
      refine va_get (D := D) (ci := 4) (v := .ref (a 7)) (C := RX6) (T := TX6) (N := 27) hx hb ht gX6 hown hK.1 hP 0 (mw0 a c σ) rfl 10 (by decide) (ht _ q56) (fun _ h9 => h9) rfl dX6_inOf_11 ?_
      refine lv_iload_n hx hb dX6_inOf_14 rfl (lv_at hl 2 rfl) ?_
      obtain ⟨g_2, hf⟩ := ogd hf
      refine va_iald hx hb hK.1 hP 7 0 (mw7 a c σ) rfl (ck_in g_2) dX6_inOf_15 ?_
      refine lv_iconst (v := (1 : Int32)) hx hb dX6_inOf_16 (by decide) ?_
      refine lv_iload_n hx hb dX6_inOf_17 rfl (lv_at hl 1 rfl) ?_
      refine lv_iadd hx hb dX6_inOf_18 ?_
      refine lv_icmp_ne (tgt := 24) hx hb dX6_inOf_19 (by decide) (fun c_3 => ?_) (fun c_3 => ?_)
      · have hf := oif c_3 hf
        obtain ⟨x2_4, ex2_4, hf⟩ := onm hf
        refine lv_iinc (v := x2_4) (lv' := [(2, .int x2_4), (0, .ref (a 0)), (1, .int x1)]) hx hb dX6_inOf_24 hl (k := 2) rfl ex2_4 (by decide) rfl (fun ls hl => ?_)
        refine lv_goto (tgt := 2) hx hb dX6_inOf_27 (by decide) ?_
        exact ih x2_4 _ _ _ (lv_sub hl [1, 2, 0] rfl) hP hS (okx hf (hc2 _))
      have hf := oit c_3 hf
      refine lv_iload_n hx hb dX6_inOf_22 rfl (lv_at hl 2 rfl) ?_
      have hf := okx hf (hx2 _)
      exact hret _ _ _ _ _ _ dX6_inOf_23 rfl hP hS ⟨Option.some.inj hf, rfl⟩
  have hf := oun (f_X6_inOf.eq_1 _ _ _) hf
  refine lv_iconst (v := (0 : Int32)) hx hb dX6_inOf_0 (by decide) ?_
  refine lv_istore_n (lv' := [(2, .int (0 : Int32)), (0, .ref (a 0)), (1, .int x1)]) hx hb dX6_inOf_1 rfl hl (by decide) rfl (fun ls hl => ?_)
  exact L2 x1 N (0 : Int32) _ _ _ (lv_sub hl [1, 2, 0] rfl) hP hS hf
theorem dX6_isAtHand_0 : decode cX6_isAtHand 0 = .ok (.aload_n 0, 1) := by decide +kernel
theorem dX6_isAtHand_1 : decode cX6_isAtHand 1 = .ok (.getfield 28, 3) := by decide +kernel
theorem dX6_isAtHand_4 : decode cX6_isAtHand 4 = .ok (.iload_n 1, 1) := by decide +kernel
theorem dX6_isAtHand_5 : decode cX6_isAtHand 5 = .ok (.iaload, 1) := by decide +kernel
theorem dX6_isAtHand_6 : decode cX6_isAtHand 6 = .ok (.istore_n 2, 1) := by decide +kernel
theorem dX6_isAtHand_7 : decode cX6_isAtHand 7 = .ok (.iconst 1, 1) := by decide +kernel
theorem dX6_isAtHand_8 : decode cX6_isAtHand 8 = .ok (.istore_n 3, 1) := by decide +kernel
theorem dX6_isAtHand_9 : decode cX6_isAtHand 9 = .ok (.iload_n 2, 1) := by decide +kernel
theorem dX6_isAtHand_10 : decode cX6_isAtHand 10 = .ok (.ifCond .eq 30, 3) := by decide +kernel
theorem dX6_isAtHand_13 : decode cX6_isAtHand 13 = .ok (.iload_n 3, 1) := by decide +kernel
theorem dX6_isAtHand_14 : decode cX6_isAtHand 14 = .ok (.ifCond .eq 26, 3) := by decide +kernel
theorem dX6_isAtHand_17 : decode cX6_isAtHand 17 = .ok (.aload_n 0, 1) := by decide +kernel
theorem dX6_isAtHand_18 : decode cX6_isAtHand 18 = .ok (.getfield 105, 3) := by decide +kernel
theorem dX6_isAtHand_21 : decode cX6_isAtHand 21 = .ok (.iload_n 2, 1) := by decide +kernel
theorem dX6_isAtHand_22 : decode cX6_isAtHand 22 = .ok (.iconst 1, 1) := by decide +kernel
theorem dX6_isAtHand_23 : decode cX6_isAtHand 23 = .ok (.isub, 1) := by decide +kernel
theorem dX6_isAtHand_24 : decode cX6_isAtHand 24 = .ok (.invokestatic 128, 3) := by decide +kernel
theorem dX6_isAtHand_27 : decode cX6_isAtHand 27 = .ok (.istore_n 3, 1) := by decide +kernel
theorem dX6_isAtHand_28 : decode cX6_isAtHand 28 = .ok (.aload_n 0, 1) := by decide +kernel
theorem dX6_isAtHand_29 : decode cX6_isAtHand 29 = .ok (.getfield 28, 3) := by decide +kernel
theorem dX6_isAtHand_32 : decode cX6_isAtHand 32 = .ok (.iload_n 2, 1) := by decide +kernel
theorem dX6_isAtHand_33 : decode cX6_isAtHand 33 = .ok (.iconst 1, 1) := by decide +kernel
theorem dX6_isAtHand_34 : decode cX6_isAtHand 34 = .ok (.isub, 1) := by decide +kernel
theorem dX6_isAtHand_35 : decode cX6_isAtHand 35 = .ok (.iaload, 1) := by decide +kernel
theorem dX6_isAtHand_36 : decode cX6_isAtHand 36 = .ok (.istore_n 2, 1) := by decide +kernel
theorem dX6_isAtHand_37 : decode cX6_isAtHand 37 = .ok (.goto (-28), 3) := by decide +kernel
theorem dX6_isAtHand_40 : decode cX6_isAtHand 40 = .ok (.iload_n 3, 1) := by decide +kernel
theorem dX6_isAtHand_41 : decode cX6_isAtHand 41 = .ok (.ireturn, 1) := by decide +kernel
def f_X6_isAtHand_j40 (N : Nat) (x3 : Int32) (σ : St) : Option Int32 :=
  gd (isB x3) <|
  some x3
def f_X6_isAtHand_b9 (N : Nat) (x2 : Int32) (x3 : Int32) (σ : St) : Option ((Int32 × Int32) ⊕ ((Int32))) :=
  if x2 = 0 then (some (.inr x3))
  else if x3 = 0 then (some (.inr x3))
  else bd (f_X6_isOf (σ.1 0 4) (x2 - (1 : Int32))) fun r_4 =>
  gd (ck (x2 - (1 : Int32)) 4) <|
  nm (σ.1 7 (x2 - (1 : Int32)).toNatClampNeg) fun x2_7 =>
  some (.inl (x2_7, r_4))
def f_X6_isAtHand (N : Nat) (x1 : Int32) (σ : St) : Option Int32 :=
  gd (ck x1 4) <|
  nm (σ.1 7 x1.toNatClampNeg) fun x2_9 =>
  bd (lpF (fun s => f_X6_isAtHand_b9 N s.1 s.2 σ) N (x2_9, (1 : Int32))) (fun o => f_X6_isAtHand_j40 N o σ)
abbrev rmX6_isAtHand : Room := { frames := 1, cells := 0, slots := 0, locals := 21 }
set_option maxRecDepth 100000 in
set_option maxHeartbeats 4000000 in
theorem c_X6_isAtHand (l : Launch) (D : va_G) (a : Nat → Nat) (c : Nat → ClassId) (A : Nat → Prop) (hD : ∀ σ, va_D A (mW a c σ)) (N : Nat) (x1 : Int32) (σ : St) (r : Int32) (hf : f_X6_isAtHand N x1 σ = some r) : MetI l yX6_isAtHand cX6_isAtHand 4 (some .boolean) rmX6_isAtHand (mW a c) D c A [.ref (a 0), .int x1] σ r σ := by
  refine mkI (by decide) (Nat.le_of_ble_eq_true rfl) rfl ?_
  intro p e s m args below meth cd Q ls h0 hK hP hret hl
  obtain ⟨S, hr, hlk⟩ := h0
  obtain ⟨hx, hb, hml, hown, ht⟩ := id S
  have hS : va_S A s.heap s.heap [] := va_S.rf
  have hl : lv_has ls 4 [(0, .ref (a 0)), (1, .int x1)] := hl
  have hf := obs hf
  have j40 : ∀ (x3 : Int32) (H : Heap) (locs : List Loc) (ls : Array Slot), lv_has ls 4 [(3, .int x3)] → va_P D vwCl (mW a c σ) H → va_S A s.heap H locs → Option.bind (f_X6_isAtHand_j40 N x3 σ) some = some r → W p l e rmX6_isAtHand s m args below meth cd H locs 0 0 Q (F0 m 40 ls []) := by
    intro x3 H locs ls hl hP hS hf
    have hf := oun (f_X6_isAtHand_j40.eq_1 _ _ _) hf
    refine lv_iload_n hx hb dX6_isAtHand_40 rfl (lv_at hl 0 rfl) ?_
    obtain ⟨g_1, hf⟩ := ogd hf
    exact hret _ _ _ _ _ _ dX6_isAtHand_41 (isB_n g_1) hP hS ⟨Option.some.inj hf, rfl⟩
  have L9 : ∀ (k : Nat) (x2 : Int32) (x3 : Int32) (H : Heap) (locs : List Loc) (ls : Array Slot), lv_has ls 4 [(0, .ref (a 0)), (2, .int x2), (3, .int x3)] → va_P D vwCl (mW a c σ) H → va_S A s.heap H locs → Option.bind (bd (lpF (fun s => f_X6_isAtHand_b9 N s.1 s.2 σ) k (x2, x3)) (fun o => f_X6_isAtHand_j40 N o σ)) some = some r → W p l e rmX6_isAtHand s m args below meth cd H locs 0 0 Q (F0 m 9 ls []) := by
    intro k
    induction k with
    | zero =>
      intro x2 x3 H locs ls hl hP hS hf
      exact (ol0 hf).elim
    | succ k ih =>
      intro x2 x3 H locs ls hl hP hS hf
      obtain ⟨K9, hf, hc9, hx9⟩ := ol1 hf
      have hf := oun (f_X6_isAtHand_b9.eq_1 N x2 x3 σ) hf
      refine lv_iload_n hx hb dX6_isAtHand_9 rfl (lv_at hl 1 rfl) ?_
      refine lv_if_eq (tgt := 40) hx hb dX6_isAtHand_10 (by decide) (fun c_2 => ?_) (fun c_2 => ?_)
      · have hf := oit c_2 hf
        exact j40 x3 _ _ _ (lv_sub hl [2] rfl) hP hS (okx hf (hx9 _))
      have hf := oif c_2 hf
      refine lv_iload_n hx hb dX6_isAtHand_13 rfl (lv_at hl 2 rfl) ?_
      refine lv_if_eq (tgt := 40) hx hb dX6_isAtHand_14 (by decide) (fun c_3 => ?_) (fun c_3 => ?_)
      · have hf := oit c_3 hf
        exact j40 x3 _ _ _ (lv_sub hl [2] rfl) hP hS (okx hf (hx9 _))
      have hf := oif c_3 hf
      refine lv_aload_n hx hb dX6_isAtHand_17 rfl (lv_at hl 0 rfl) ?_
      refine va_get (D := D) (ci := 4) (v := .int (σ.1 0 4)) (C := RX6) (T := TX6) (N := 27) hx hb ht gX6 hown hK.1 hP 0 (mw0 a c σ) rfl 11 (by decide) (ht _ q140) (fun _ h9 => h9) rfl dX6_isAtHand_18 ?_
      refine lv_iload_n hx hb dX6_isAtHand_21 rfl (lv_at hl 1 rfl) ?_
      refine lv_iconst (v := (1 : Int32)) hx hb dX6_isAtHand_22 (by decide) ?_
      refine lv_isub hx hb dX6_isAtHand_23 ?_
      obtain ⟨r_4, h_5, hf⟩ := obd hf
      refine xs_S (As := [.int (σ.1 0 4), .int (x2 - (1 : Int32))]) (rest := []) S k_X6_isOf q238 q239 ⟨Nat.le_of_ble_eq_true rfl, Nat.le_of_ble_eq_true rfl⟩ ⟨rfl, rfl⟩ (c_X6_isOf l (σ.1 0 4) (x2 - (1 : Int32)) r_4 h_5) hK.2 rfl hl.1 rfl (Nat.le_of_ble_eq_true rfl) dX6_isAtHand_24 ⟨Nat.zero_le _, Nat.zero_le _⟩ ?_
      refine lv_istore_n (lv' := [(3, .int r_4), (0, .ref (a 0)), (2, .int x2)]) hx hb dX6_isAtHand_27 rfl hl (by decide) rfl (fun ls hl => ?_)
      refine lv_aload_n hx hb dX6_isAtHand_28 rfl (lv_at hl 1 rfl) ?_
      refine va_get (D := D) (ci := 4) (v := .ref (a 7)) (C := RX6) (T := TX6) (N := 27) hx hb ht gX6 hown hK.1 hP 0 (mw0 a c σ) rfl 10 (by decide) (ht _ q56) (fun _ h9 => h9) rfl dX6_isAtHand_29 ?_
      refine lv_iload_n hx hb dX6_isAtHand_32 rfl (lv_at hl 2 rfl) ?_
      refine lv_iconst (v := (1 : Int32)) hx hb dX6_isAtHand_33 (by decide) ?_
      refine lv_isub hx hb dX6_isAtHand_34 ?_
      obtain ⟨g_6, hf⟩ := ogd hf
      refine va_iald hx hb hK.1 hP 7 0 (mw7 a c σ) rfl (ck_in g_6) dX6_isAtHand_35 ?_
      obtain ⟨x2_7, ex2_7, hf⟩ := onm hf
      refine lv_nm ex2_7 ?_
      refine lv_istore_n (lv' := [(2, .int x2_7), (3, .int r_4), (0, .ref (a 0))]) hx hb dX6_isAtHand_36 rfl hl (by decide) rfl (fun ls hl => ?_)
      refine lv_goto (tgt := 9) hx hb dX6_isAtHand_37 (by decide) ?_
      exact ih x2_7 r_4 _ _ _ (lv_sub hl [2, 0, 1] rfl) hP hS (okx hf (hc9 _))
  have hf := oun (f_X6_isAtHand.eq_1 _ _ _) hf
  refine lv_aload_n hx hb dX6_isAtHand_0 rfl (lv_at hl 0 rfl) ?_
  refine va_get (D := D) (ci := 4) (v := .ref (a 7)) (C := RX6) (T := TX6) (N := 27) hx hb ht gX6 hown hK.1 hP 0 (mw0 a c σ) rfl 10 (by decide) (ht _ q56) (fun _ h9 => h9) rfl dX6_isAtHand_1 ?_
  refine lv_iload_n hx hb dX6_isAtHand_4 rfl (lv_at hl 1 rfl) ?_
  obtain ⟨g_8, hf⟩ := ogd hf
  refine va_iald hx hb hK.1 hP 7 0 (mw7 a c σ) rfl (ck_in g_8) dX6_isAtHand_5 ?_
  obtain ⟨x2_9, ex2_9, hf⟩ := onm hf
  refine lv_nm ex2_9 ?_
  refine lv_istore_n (lv' := [(2, .int x2_9), (0, .ref (a 0)), (1, .int x1)]) hx hb dX6_isAtHand_6 rfl hl (by decide) rfl (fun ls hl => ?_)
  refine lv_iconst (v := (1 : Int32)) hx hb dX6_isAtHand_7 (by decide) ?_
  refine lv_istore_n (lv' := [(3, .int (1 : Int32)), (2, .int x2_9), (0, .ref (a 0)), (1, .int x1)]) hx hb dX6_isAtHand_8 rfl hl (by decide) rfl (fun ls hl => ?_)
  exact L9 N x2_9 (1 : Int32) _ _ _ (lv_sub hl [2, 1, 0] rfl) hP hS hf
theorem dX6_isDoll_0 : decode cX6_isDoll 0 = .ok (.iload_n 1, 1) := by decide +kernel
theorem dX6_isDoll_1 : decode cX6_isDoll 1 = .ok (.ifCond .lt 15, 3) := by decide +kernel
theorem dX6_isDoll_4 : decode cX6_isDoll 4 = .ok (.iload_n 1, 1) := by decide +kernel
theorem dX6_isDoll_5 : decode cX6_isDoll 5 = .ok (.aload_n 0, 1) := by decide +kernel
theorem dX6_isDoll_6 : decode cX6_isDoll 6 = .ok (.getfield 75, 3) := by decide +kernel
theorem dX6_isDoll_9 : decode cX6_isDoll 9 = .ok (.if_icmp .ge 7, 3) := by decide +kernel
theorem dX6_isDoll_12 : decode cX6_isDoll 12 = .ok (.iconst 1, 1) := by decide +kernel
theorem dX6_isDoll_13 : decode cX6_isDoll 13 = .ok (.goto 4, 3) := by decide +kernel
theorem dX6_isDoll_16 : decode cX6_isDoll 16 = .ok (.iconst 0, 1) := by decide +kernel
theorem dX6_isDoll_17 : decode cX6_isDoll 17 = .ok (.ireturn, 1) := by decide +kernel
def f_X6_isDoll (x1 : Int32) (σ : St) : Option Int32 :=
  if x1 < 0 then (some (0 : Int32))
  else if (σ.1 0 2) ≤ x1 then (some (0 : Int32))
  else some (1 : Int32)
abbrev rmX6_isDoll : Room := { frames := 0, cells := 0, slots := 0, locals := 0 }
set_option maxRecDepth 100000 in
set_option maxHeartbeats 4000000 in
theorem c_X6_isDoll (l : Launch) (D : va_G) (a : Nat → Nat) (c : Nat → ClassId) (A : Nat → Prop) (hD : ∀ σ, va_D A (mW a c σ)) (x1 : Int32) (σ : St) (r : Int32) (hf : f_X6_isDoll x1 σ = some r) : MetI l yX6_isDoll cX6_isDoll 2 (some .boolean) rmX6_isDoll (mW a c) D c A [.ref (a 0), .int x1] σ r σ := by
  refine mkI (by decide) (Nat.le_of_ble_eq_true rfl) rfl ?_
  intro p e s m args below meth cd Q ls h0 hK hP hret hl
  obtain ⟨S, hr, hlk⟩ := h0
  obtain ⟨hx, hb, hml, hown, ht⟩ := id S
  have hS : va_S A s.heap s.heap [] := va_S.rf
  have hl : lv_has ls 2 [(0, .ref (a 0)), (1, .int x1)] := hl
  have hf := obs hf
  have hf := oun (f_X6_isDoll.eq_1 _ _) hf
  refine lv_iload_n hx hb dX6_isDoll_0 rfl (lv_at hl 1 rfl) ?_
  refine lv_if_lt (tgt := 16) hx hb dX6_isDoll_1 (by decide) (fun c_1 => ?_) (fun c_1 => ?_)
  · have hf := oit c_1 hf
    refine lv_iconst (v := (0 : Int32)) hx hb dX6_isDoll_16 (by decide) ?_
    exact hret _ _ _ _ _ _ dX6_isDoll_17 (by decide) hP hS ⟨Option.some.inj hf, rfl⟩
  have hf := oif c_1 hf
  refine lv_iload_n hx hb dX6_isDoll_4 rfl (lv_at hl 1 rfl) ?_
  refine lv_aload_n hx hb dX6_isDoll_5 rfl (lv_at hl 0 rfl) ?_
  refine va_get (D := D) (ci := 4) (v := .int (σ.1 0 2)) (C := RX6) (T := TX6) (N := 27) hx hb ht gX6 hown hK.1 hP 0 (mw0 a c σ) rfl 5 (by decide) (ht _ q139) (fun _ h9 => h9) rfl dX6_isDoll_6 ?_
  refine lv_icmp_ge (tgt := 16) hx hb dX6_isDoll_9 (by decide) (fun c_2 => ?_) (fun c_2 => ?_)
  · have hf := oit c_2 hf
    refine lv_iconst (v := (0 : Int32)) hx hb dX6_isDoll_16 (by decide) ?_
    exact hret _ _ _ _ _ _ dX6_isDoll_17 (by decide) hP hS ⟨Option.some.inj hf, rfl⟩
  have hf := oif c_2 hf
  refine lv_iconst (v := (1 : Int32)) hx hb dX6_isDoll_12 (by decide) ?_
  refine lv_goto (tgt := 17) hx hb dX6_isDoll_13 (by decide) ?_
  exact hret _ _ _ _ _ _ dX6_isDoll_17 (by decide) hP hS ⟨Option.some.inj hf, rfl⟩
theorem dX6_manyWithin_0 : decode cX6_manyWithin 0 = .ok (.iconst 0, 1) := by decide +kernel
theorem dX6_manyWithin_1 : decode cX6_manyWithin 1 = .ok (.istore_n 2, 1) := by decide +kernel
theorem dX6_manyWithin_2 : decode cX6_manyWithin 2 = .ok (.aload_n 0, 1) := by decide +kernel
theorem dX6_manyWithin_3 : decode cX6_manyWithin 3 = .ok (.iload_n 1, 1) := by decide +kernel
theorem dX6_manyWithin_4 : decode cX6_manyWithin 4 = .ok (.invokevirtual 131, 3) := by decide +kernel
theorem dX6_manyWithin_7 : decode cX6_manyWithin 7 = .ok (.istore_n 3, 1) := by decide +kernel
theorem dX6_manyWithin_8 : decode cX6_manyWithin 8 = .ok (.iload_n 3, 1) := by decide +kernel
theorem dX6_manyWithin_9 : decode cX6_manyWithin 9 = .ok (.bipush (-9), 2) := by decide +kernel
theorem dX6_manyWithin_11 : decode cX6_manyWithin 11 = .ok (.if_icmp .eq 15, 3) := by decide +kernel
theorem dX6_manyWithin_14 : decode cX6_manyWithin 14 = .ok (.iinc 2 1, 3) := by decide +kernel
theorem dX6_manyWithin_17 : decode cX6_manyWithin 17 = .ok (.aload_n 0, 1) := by decide +kernel
theorem dX6_manyWithin_18 : decode cX6_manyWithin 18 = .ok (.iload_n 3, 1) := by decide +kernel
theorem dX6_manyWithin_19 : decode cX6_manyWithin 19 = .ok (.invokevirtual 131, 3) := by decide +kernel
theorem dX6_manyWithin_22 : decode cX6_manyWithin 22 = .ok (.istore_n 3, 1) := by decide +kernel
theorem dX6_manyWithin_23 : decode cX6_manyWithin 23 = .ok (.goto (-15), 3) := by decide +kernel
theorem dX6_manyWithin_26 : decode cX6_manyWithin 26 = .ok (.iload_n 2, 1) := by decide +kernel
theorem dX6_manyWithin_27 : decode cX6_manyWithin 27 = .ok (.ireturn, 1) := by decide +kernel
def f_X6_manyWithin_j26 (N : Nat) (x2 : Int32) (σ : St) : Option Int32 :=
  some x2
def f_X6_manyWithin_b8 (N : Nat) (x2 : Int32) (x3 : Int32) (σ : St) : Option ((Int32 × Int32) ⊕ ((Int32))) :=
  if x3 = (-9 : Int32) then (some (.inr x2))
  else nm (x2 + (1 : Int32)) fun x2_2 =>
  bd (f_X6_inOf N x3 σ) fun r_3 =>
  some (.inl (x2_2, r_3))
def f_X6_manyWithin (N : Nat) (x1 : Int32) (σ : St) : Option Int32 :=
  bd (f_X6_inOf N x1 σ) fun r_5 =>
  bd (lpF (fun s => f_X6_manyWithin_b8 N s.1 s.2 σ) N ((0 : Int32), r_5)) (fun o => f_X6_manyWithin_j26 N o σ)
abbrev rmX6_manyWithin : Room := { frames := 1, cells := 0, slots := 0, locals := 22 }
set_option maxRecDepth 100000 in
set_option maxHeartbeats 4000000 in
theorem c_X6_manyWithin (l : Launch) (D : va_G) (a : Nat → Nat) (c : Nat → ClassId) (A : Nat → Prop) (hD : ∀ σ, va_D A (mW a c σ)) (N : Nat) (x1 : Int32) (σ : St) (r : Int32) (hf : f_X6_manyWithin N x1 σ = some r) : MetI l yX6_manyWithin cX6_manyWithin 4 (some .int) rmX6_manyWithin (mW a c) D c A [.ref (a 0), .int x1] σ r σ := by
  refine mkI (by decide) (Nat.le_of_ble_eq_true rfl) rfl ?_
  intro p e s m args below meth cd Q ls h0 hK hP hret hl
  obtain ⟨S, hr, hlk⟩ := h0
  obtain ⟨hx, hb, hml, hown, ht⟩ := id S
  have hS : va_S A s.heap s.heap [] := va_S.rf
  have hl : lv_has ls 4 [(0, .ref (a 0)), (1, .int x1)] := hl
  have hf := obs hf
  have j26 : ∀ (x2 : Int32) (H : Heap) (locs : List Loc) (ls : Array Slot), lv_has ls 4 [(2, .int x2)] → va_P D vwCl (mW a c σ) H → va_S A s.heap H locs → Option.bind (f_X6_manyWithin_j26 N x2 σ) some = some r → W p l e rmX6_manyWithin s m args below meth cd H locs 0 0 Q (F0 m 26 ls []) := by
    intro x2 H locs ls hl hP hS hf
    have hf := oun (f_X6_manyWithin_j26.eq_1 _ _ _) hf
    refine lv_iload_n hx hb dX6_manyWithin_26 rfl (lv_at hl 0 rfl) ?_
    exact hret _ _ _ _ _ _ dX6_manyWithin_27 rfl hP hS ⟨Option.some.inj hf, rfl⟩
  have L8 : ∀ (k : Nat) (x2 : Int32) (x3 : Int32) (H : Heap) (locs : List Loc) (ls : Array Slot), lv_has ls 4 [(0, .ref (a 0)), (2, .int x2), (3, .int x3)] → va_P D vwCl (mW a c σ) H → va_S A s.heap H locs → Option.bind (bd (lpF (fun s => f_X6_manyWithin_b8 N s.1 s.2 σ) k (x2, x3)) (fun o => f_X6_manyWithin_j26 N o σ)) some = some r → W p l e rmX6_manyWithin s m args below meth cd H locs 0 0 Q (F0 m 8 ls []) := by
    intro k
    induction k with
    | zero =>
      intro x2 x3 H locs ls hl hP hS hf
      exact (ol0 hf).elim
    | succ k ih =>
      intro x2 x3 H locs ls hl hP hS hf
      obtain ⟨K8, hf, hc8, hx8⟩ := ol1 hf
      have hf := oun (f_X6_manyWithin_b8.eq_1 N x2 x3 σ) hf
      refine lv_iload_n hx hb dX6_manyWithin_8 rfl (lv_at hl 2 rfl) ?_
      refine lv_bipush (v := (-9 : Int32)) hx hb dX6_manyWithin_9 (by decide) ?_
      refine lv_icmp_eq (tgt := 26) hx hb dX6_manyWithin_11 (by decide) (fun c_1 => ?_) (fun c_1 => ?_)
      · have hf := oit c_1 hf
        exact j26 x2 _ _ _ (lv_sub hl [1] rfl) hP hS (okx hf (hx8 _))
      have hf := oif c_1 hf
      obtain ⟨x2_2, ex2_2, hf⟩ := onm hf
      refine lv_iinc (v := x2_2) (lv' := [(2, .int x2_2), (0, .ref (a 0)), (3, .int x3)]) hx hb dX6_manyWithin_14 hl (k := 1) rfl ex2_2 (by decide) rfl (fun ls hl => ?_)
      refine lv_aload_n hx hb dX6_manyWithin_17 rfl (lv_at hl 1 rfl) ?_
      refine lv_iload_n hx hb dX6_manyWithin_18 rfl (lv_at hl 2 rfl) ?_
      obtain ⟨r_3, h_4, hf⟩ := obd hf
      refine xv_I (As := [.int x3]) (rest := []) S k_X6_inOf q241 q242 q243 ⟨Nat.le_of_ble_eq_true rfl, Nat.le_of_ble_eq_true rfl⟩ ⟨rfl, rfl⟩ (c_X6_inOf l D a c A hD N x3 σ r_3 h_4) hK hP hS (va_recv hK.1 hP (rfl : vwCl[4]? = some (RX6, TX6, 27)) (mw0 a c σ)) rfl hl.1 rfl (Nat.le_of_ble_eq_true rfl) dX6_manyWithin_19 ⟨Nat.zero_le _, Nat.zero_le _⟩ (fun H locs hP hS => ?_)
      refine lv_istore_n (lv' := [(3, .int r_3), (2, .int x2_2), (0, .ref (a 0))]) hx hb dX6_manyWithin_22 rfl hl (by decide) rfl (fun ls hl => ?_)
      refine lv_goto (tgt := 8) hx hb dX6_manyWithin_23 (by decide) ?_
      exact ih x2_2 r_3 _ _ _ (lv_sub hl [2, 1, 0] rfl) hP hS (okx hf (hc8 _))
  have hf := oun (f_X6_manyWithin.eq_1 _ _ _) hf
  refine lv_iconst (v := (0 : Int32)) hx hb dX6_manyWithin_0 (by decide) ?_
  refine lv_istore_n (lv' := [(2, .int (0 : Int32)), (0, .ref (a 0)), (1, .int x1)]) hx hb dX6_manyWithin_1 rfl hl (by decide) rfl (fun ls hl => ?_)
  refine lv_aload_n hx hb dX6_manyWithin_2 rfl (lv_at hl 1 rfl) ?_
  refine lv_iload_n hx hb dX6_manyWithin_3 rfl (lv_at hl 2 rfl) ?_
  obtain ⟨r_5, h_6, hf⟩ := obd hf
  refine xv_I (As := [.int x1]) (rest := []) S k_X6_inOf q241 q242 q243 ⟨Nat.le_of_ble_eq_true rfl, Nat.le_of_ble_eq_true rfl⟩ ⟨rfl, rfl⟩ (c_X6_inOf l D a c A hD N x1 σ r_5 h_6) hK hP hS (va_recv hK.1 hP (rfl : vwCl[4]? = some (RX6, TX6, 27)) (mw0 a c σ)) rfl hl.1 rfl (Nat.le_of_ble_eq_true rfl) dX6_manyWithin_4 ⟨Nat.zero_le _, Nat.zero_le _⟩ (fun H locs hP hS => ?_)
  refine lv_istore_n (lv' := [(3, .int r_5), (2, .int (0 : Int32)), (0, .ref (a 0)), (1, .int x1)]) hx hb dX6_manyWithin_7 rfl hl (by decide) rfl (fun ls hl => ?_)
  exact L8 N (0 : Int32) r_5 _ _ _ (lv_sub hl [2, 1, 0] rfl) hP hS hf
theorem dX6_wideOf_0 : decode cX6_wideOf 0 = .ok (.aload_n 0, 1) := by decide +kernel
theorem dX6_wideOf_1 : decode cX6_wideOf 1 = .ok (.getfield 19, 3) := by decide +kernel
theorem dX6_wideOf_4 : decode cX6_wideOf 4 = .ok (.iload_n 1, 1) := by decide +kernel
theorem dX6_wideOf_5 : decode cX6_wideOf 5 = .ok (.iaload, 1) := by decide +kernel
theorem dX6_wideOf_6 : decode cX6_wideOf 6 = .ok (.ifCond .ne 12, 3) := by decide +kernel
theorem dX6_wideOf_9 : decode cX6_wideOf 9 = .ok (.aload_n 0, 1) := by decide +kernel
theorem dX6_wideOf_10 : decode cX6_wideOf 10 = .ok (.getfield 22, 3) := by decide +kernel
theorem dX6_wideOf_13 : decode cX6_wideOf 13 = .ok (.iload_n 1, 1) := by decide +kernel
theorem dX6_wideOf_14 : decode cX6_wideOf 14 = .ok (.iaload, 1) := by decide +kernel
theorem dX6_wideOf_15 : decode cX6_wideOf 15 = .ok (.goto 32, 3) := by decide +kernel
theorem dX6_wideOf_18 : decode cX6_wideOf 18 = .ok (.aload_n 0, 1) := by decide +kernel
theorem dX6_wideOf_19 : decode cX6_wideOf 19 = .ok (.getfield 19, 3) := by decide +kernel
theorem dX6_wideOf_22 : decode cX6_wideOf 22 = .ok (.iload_n 1, 1) := by decide +kernel
theorem dX6_wideOf_23 : decode cX6_wideOf 23 = .ok (.iaload, 1) := by decide +kernel
theorem dX6_wideOf_24 : decode cX6_wideOf 24 = .ok (.iconst 1, 1) := by decide +kernel
theorem dX6_wideOf_25 : decode cX6_wideOf 25 = .ok (.if_icmp .ne 14, 3) := by decide +kernel
theorem dX6_wideOf_28 : decode cX6_wideOf 28 = .ok (.aload_n 0, 1) := by decide +kernel
theorem dX6_wideOf_29 : decode cX6_wideOf 29 = .ok (.getfield 22, 3) := by decide +kernel
theorem dX6_wideOf_32 : decode cX6_wideOf 32 = .ok (.iload_n 1, 1) := by decide +kernel
theorem dX6_wideOf_33 : decode cX6_wideOf 33 = .ok (.iaload, 1) := by decide +kernel
theorem dX6_wideOf_34 : decode cX6_wideOf 34 = .ok (.iconst 1, 1) := by decide +kernel
theorem dX6_wideOf_35 : decode cX6_wideOf 35 = .ok (.iadd, 1) := by decide +kernel
theorem dX6_wideOf_36 : decode cX6_wideOf 36 = .ok (.goto 11, 3) := by decide +kernel
theorem dX6_wideOf_39 : decode cX6_wideOf 39 = .ok (.iconst 2, 1) := by decide +kernel
theorem dX6_wideOf_40 : decode cX6_wideOf 40 = .ok (.aload_n 0, 1) := by decide +kernel
theorem dX6_wideOf_41 : decode cX6_wideOf 41 = .ok (.getfield 22, 3) := by decide +kernel
theorem dX6_wideOf_44 : decode cX6_wideOf 44 = .ok (.iload_n 1, 1) := by decide +kernel
theorem dX6_wideOf_45 : decode cX6_wideOf 45 = .ok (.iaload, 1) := by decide +kernel
theorem dX6_wideOf_46 : decode cX6_wideOf 46 = .ok (.imul, 1) := by decide +kernel
theorem dX6_wideOf_47 : decode cX6_wideOf 47 = .ok (.ireturn, 1) := by decide +kernel
def f_X6_wideOf (x1 : Int32) (σ : St) : Option Int32 :=
  gd (ck x1 4) <|
  if (σ.1 4 x1.toNatClampNeg) = 0 then (gd (ck x1 4) <|
    some (σ.1 5 x1.toNatClampNeg))
  else gd (ck x1 4) <|
    if (σ.1 4 x1.toNatClampNeg) = (1 : Int32) then (gd (ck x1 4) <|
      some ((σ.1 5 x1.toNatClampNeg) + (1 : Int32)))
    else gd (ck x1 4) <|
      some ((2 : Int32) * (σ.1 5 x1.toNatClampNeg))
abbrev rmX6_wideOf : Room := { frames := 0, cells := 0, slots := 0, locals := 0 }
set_option maxRecDepth 100000 in
set_option maxHeartbeats 4000000 in
theorem c_X6_wideOf (l : Launch) (D : va_G) (a : Nat → Nat) (c : Nat → ClassId) (A : Nat → Prop) (hD : ∀ σ, va_D A (mW a c σ)) (x1 : Int32) (σ : St) (r : Int32) (hf : f_X6_wideOf x1 σ = some r) : MetI l yX6_wideOf cX6_wideOf 2 (some .int) rmX6_wideOf (mW a c) D c A [.ref (a 0), .int x1] σ r σ := by
  refine mkI (by decide) (Nat.le_of_ble_eq_true rfl) rfl ?_
  intro p e s m args below meth cd Q ls h0 hK hP hret hl
  obtain ⟨S, hr, hlk⟩ := h0
  obtain ⟨hx, hb, hml, hown, ht⟩ := id S
  have hS : va_S A s.heap s.heap [] := va_S.rf
  have hl : lv_has ls 2 [(0, .ref (a 0)), (1, .int x1)] := hl
  have hf := obs hf
  have hf := oun (f_X6_wideOf.eq_1 _ _) hf
  refine lv_aload_n hx hb dX6_wideOf_0 rfl (lv_at hl 0 rfl) ?_
  refine va_get (D := D) (ci := 4) (v := .ref (a 4)) (C := RX6) (T := TX6) (N := 27) hx hb ht gX6 hown hK.1 hP 0 (mw0 a c σ) rfl 7 (by decide) (ht _ q53) (fun _ h9 => h9) rfl dX6_wideOf_1 ?_
  refine lv_iload_n hx hb dX6_wideOf_4 rfl (lv_at hl 1 rfl) ?_
  obtain ⟨g_1, hf⟩ := ogd hf
  refine va_iald hx hb hK.1 hP 4 0 (mw4 a c σ) rfl (ck_in g_1) dX6_wideOf_5 ?_
  refine lv_if_ne (tgt := 18) hx hb dX6_wideOf_6 (by decide) (fun c_2 => ?_) (fun c_2 => ?_)
  · have hf := oif c_2 hf
    refine lv_aload_n hx hb dX6_wideOf_18 rfl (lv_at hl 0 rfl) ?_
    refine va_get (D := D) (ci := 4) (v := .ref (a 4)) (C := RX6) (T := TX6) (N := 27) hx hb ht gX6 hown hK.1 hP 0 (mw0 a c σ) rfl 7 (by decide) (ht _ q53) (fun _ h9 => h9) rfl dX6_wideOf_19 ?_
    refine lv_iload_n hx hb dX6_wideOf_22 rfl (lv_at hl 1 rfl) ?_
    obtain ⟨g_3, hf⟩ := ogd hf
    refine va_iald hx hb hK.1 hP 4 0 (mw4 a c σ) rfl (ck_in g_3) dX6_wideOf_23 ?_
    refine lv_iconst (v := (1 : Int32)) hx hb dX6_wideOf_24 (by decide) ?_
    refine lv_icmp_ne (tgt := 39) hx hb dX6_wideOf_25 (by decide) (fun c_4 => ?_) (fun c_4 => ?_)
    · have hf := oif c_4 hf
      refine lv_iconst (v := (2 : Int32)) hx hb dX6_wideOf_39 (by decide) ?_
      refine lv_aload_n hx hb dX6_wideOf_40 rfl (lv_at hl 0 rfl) ?_
      refine va_get (D := D) (ci := 4) (v := .ref (a 5)) (C := RX6) (T := TX6) (N := 27) hx hb ht gX6 hown hK.1 hP 0 (mw0 a c σ) rfl 8 (by decide) (ht _ q54) (fun _ h9 => h9) rfl dX6_wideOf_41 ?_
      refine lv_iload_n hx hb dX6_wideOf_44 rfl (lv_at hl 1 rfl) ?_
      obtain ⟨g_5, hf⟩ := ogd hf
      refine va_iald hx hb hK.1 hP 5 0 (mw5 a c σ) rfl (ck_in g_5) dX6_wideOf_45 ?_
      refine lv_imul hx hb dX6_wideOf_46 ?_
      exact hret _ _ _ _ _ _ dX6_wideOf_47 rfl hP hS ⟨Option.some.inj hf, rfl⟩
    have hf := oit c_4 hf
    refine lv_aload_n hx hb dX6_wideOf_28 rfl (lv_at hl 0 rfl) ?_
    refine va_get (D := D) (ci := 4) (v := .ref (a 5)) (C := RX6) (T := TX6) (N := 27) hx hb ht gX6 hown hK.1 hP 0 (mw0 a c σ) rfl 8 (by decide) (ht _ q54) (fun _ h9 => h9) rfl dX6_wideOf_29 ?_
    refine lv_iload_n hx hb dX6_wideOf_32 rfl (lv_at hl 1 rfl) ?_
    obtain ⟨g_6, hf⟩ := ogd hf
    refine va_iald hx hb hK.1 hP 5 0 (mw5 a c σ) rfl (ck_in g_6) dX6_wideOf_33 ?_
    refine lv_iconst (v := (1 : Int32)) hx hb dX6_wideOf_34 (by decide) ?_
    refine lv_iadd hx hb dX6_wideOf_35 ?_
    refine lv_goto (tgt := 47) hx hb dX6_wideOf_36 (by decide) ?_
    exact hret _ _ _ _ _ _ dX6_wideOf_47 rfl hP hS ⟨Option.some.inj hf, rfl⟩
  have hf := oit c_2 hf
  refine lv_aload_n hx hb dX6_wideOf_9 rfl (lv_at hl 0 rfl) ?_
  refine va_get (D := D) (ci := 4) (v := .ref (a 5)) (C := RX6) (T := TX6) (N := 27) hx hb ht gX6 hown hK.1 hP 0 (mw0 a c σ) rfl 8 (by decide) (ht _ q54) (fun _ h9 => h9) rfl dX6_wideOf_10 ?_
  refine lv_iload_n hx hb dX6_wideOf_13 rfl (lv_at hl 1 rfl) ?_
  obtain ⟨g_7, hf⟩ := ogd hf
  refine va_iald hx hb hK.1 hP 5 0 (mw5 a c σ) rfl (ck_in g_7) dX6_wideOf_14 ?_
  refine lv_goto (tgt := 47) hx hb dX6_wideOf_15 (by decide) ?_
  exact hret _ _ _ _ _ _ dX6_wideOf_47 rfl hP hS ⟨Option.some.inj hf, rfl⟩
