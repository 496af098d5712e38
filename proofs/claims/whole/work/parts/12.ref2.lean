theorem dX6_ofDoll_0 : decode cX6_ofDoll 0 = .ok (.aload_n 0, 1) := by decide +kernel
theorem dX6_ofDoll_1 : decode cX6_ofDoll 1 = .ok (.iload_n 1, 1) := by decide +kernel
theorem dX6_ofDoll_2 : decode cX6_ofDoll 2 = .ok (.invokevirtual 78, 3) := by decide +kernel
theorem dX6_ofDoll_5 : decode cX6_ofDoll 5 = .ok (.ifCond .ne 5, 3) := by decide +kernel
theorem dX6_ofDoll_8 : decode cX6_ofDoll 8 = .ok (.iconst (-1), 1) := by decide +kernel
theorem dX6_ofDoll_9 : decode cX6_ofDoll 9 = .ok (.ireturn, 1) := by decide +kernel
theorem dX6_ofDoll_10 : decode cX6_ofDoll 10 = .ok (.iload_n 2, 1) := by decide +kernel
theorem dX6_ofDoll_11 : decode cX6_ofDoll 11 = .ok (.tableswitch 118 0 8 #[49, 56, 63, 70, 76, 83, 92, 106, 112], 49) := by decide +kernel
theorem dX6_ofDoll_60 : decode cX6_ofDoll 60 = .ok (.aload_n 0, 1) := by decide +kernel
theorem dX6_ofDoll_61 : decode cX6_ofDoll 61 = .ok (.getfield 19, 3) := by decide +kernel
theorem dX6_ofDoll_64 : decode cX6_ofDoll 64 = .ok (.iload_n 1, 1) := by decide +kernel
theorem dX6_ofDoll_65 : decode cX6_ofDoll 65 = .ok (.iaload, 1) := by decide +kernel
theorem dX6_ofDoll_66 : decode cX6_ofDoll 66 = .ok (.ireturn, 1) := by decide +kernel
theorem dX6_ofDoll_67 : decode cX6_ofDoll 67 = .ok (.aload_n 0, 1) := by decide +kernel
theorem dX6_ofDoll_68 : decode cX6_ofDoll 68 = .ok (.getfield 22, 3) := by decide +kernel
theorem dX6_ofDoll_71 : decode cX6_ofDoll 71 = .ok (.iload_n 1, 1) := by decide +kernel
theorem dX6_ofDoll_72 : decode cX6_ofDoll 72 = .ok (.iaload, 1) := by decide +kernel
theorem dX6_ofDoll_73 : decode cX6_ofDoll 73 = .ok (.ireturn, 1) := by decide +kernel
theorem dX6_ofDoll_74 : decode cX6_ofDoll 74 = .ok (.aload_n 0, 1) := by decide +kernel
theorem dX6_ofDoll_75 : decode cX6_ofDoll 75 = .ok (.getfield 25, 3) := by decide +kernel
theorem dX6_ofDoll_78 : decode cX6_ofDoll 78 = .ok (.iload_n 1, 1) := by decide +kernel
theorem dX6_ofDoll_79 : decode cX6_ofDoll 79 = .ok (.iaload, 1) := by decide +kernel
theorem dX6_ofDoll_80 : decode cX6_ofDoll 80 = .ok (.ireturn, 1) := by decide +kernel
theorem dX6_ofDoll_81 : decode cX6_ofDoll 81 = .ok (.aload_n 0, 1) := by decide +kernel
theorem dX6_ofDoll_82 : decode cX6_ofDoll 82 = .ok (.iload_n 1, 1) := by decide +kernel
theorem dX6_ofDoll_83 : decode cX6_ofDoll 83 = .ok (.invokevirtual 125, 3) := by decide +kernel
theorem dX6_ofDoll_86 : decode cX6_ofDoll 86 = .ok (.ireturn, 1) := by decide +kernel
theorem dX6_ofDoll_87 : decode cX6_ofDoll 87 = .ok (.aload_n 0, 1) := by decide +kernel
theorem dX6_ofDoll_88 : decode cX6_ofDoll 88 = .ok (.getfield 28, 3) := by decide +kernel
theorem dX6_ofDoll_91 : decode cX6_ofDoll 91 = .ok (.iload_n 1, 1) := by decide +kernel
theorem dX6_ofDoll_92 : decode cX6_ofDoll 92 = .ok (.iaload, 1) := by decide +kernel
theorem dX6_ofDoll_93 : decode cX6_ofDoll 93 = .ok (.ireturn, 1) := by decide +kernel
theorem dX6_ofDoll_94 : decode cX6_ofDoll 94 = .ok (.aload_n 0, 1) := by decide +kernel
theorem dX6_ofDoll_95 : decode cX6_ofDoll 95 = .ok (.getfield 105, 3) := by decide +kernel
theorem dX6_ofDoll_98 : decode cX6_ofDoll 98 = .ok (.iload_n 1, 1) := by decide +kernel
theorem dX6_ofDoll_99 : decode cX6_ofDoll 99 = .ok (.ishr, 1) := by decide +kernel
theorem dX6_ofDoll_100 : decode cX6_ofDoll 100 = .ok (.iconst 1, 1) := by decide +kernel
theorem dX6_ofDoll_101 : decode cX6_ofDoll 101 = .ok (.iand, 1) := by decide +kernel
theorem dX6_ofDoll_102 : decode cX6_ofDoll 102 = .ok (.ireturn, 1) := by decide +kernel
theorem dX6_ofDoll_103 : decode cX6_ofDoll 103 = .ok (.aload_n 0, 1) := by decide +kernel
theorem dX6_ofDoll_104 : decode cX6_ofDoll 104 = .ok (.iload_n 1, 1) := by decide +kernel
theorem dX6_ofDoll_105 : decode cX6_ofDoll 105 = .ok (.invokevirtual 134, 3) := by decide +kernel
theorem dX6_ofDoll_108 : decode cX6_ofDoll 108 = .ok (.ifCond .eq 7, 3) := by decide +kernel
theorem dX6_ofDoll_111 : decode cX6_ofDoll 111 = .ok (.iconst 1, 1) := by decide +kernel
theorem dX6_ofDoll_112 : decode cX6_ofDoll 112 = .ok (.goto 4, 3) := by decide +kernel
theorem dX6_ofDoll_115 : decode cX6_ofDoll 115 = .ok (.iconst 0, 1) := by decide +kernel
theorem dX6_ofDoll_116 : decode cX6_ofDoll 116 = .ok (.ireturn, 1) := by decide +kernel
theorem dX6_ofDoll_117 : decode cX6_ofDoll 117 = .ok (.aload_n 0, 1) := by decide +kernel
theorem dX6_ofDoll_118 : decode cX6_ofDoll 118 = .ok (.iload_n 1, 1) := by decide +kernel
theorem dX6_ofDoll_119 : decode cX6_ofDoll 119 = .ok (.invokevirtual 131, 3) := by decide +kernel
theorem dX6_ofDoll_122 : decode cX6_ofDoll 122 = .ok (.ireturn, 1) := by decide +kernel
theorem dX6_ofDoll_123 : decode cX6_ofDoll 123 = .ok (.aload_n 0, 1) := by decide +kernel
theorem dX6_ofDoll_124 : decode cX6_ofDoll 124 = .ok (.iload_n 1, 1) := by decide +kernel
theorem dX6_ofDoll_125 : decode cX6_ofDoll 125 = .ok (.invokevirtual 137, 3) := by decide +kernel
theorem dX6_ofDoll_128 : decode cX6_ofDoll 128 = .ok (.ireturn, 1) := by decide +kernel
theorem dX6_ofDoll_129 : decode cX6_ofDoll 129 = .ok (.bipush (-2), 2) := by decide +kernel
theorem dX6_ofDoll_131 : decode cX6_ofDoll 131 = .ok (.ireturn, 1) := by decide +kernel
def f_X6_ofDoll (N : Nat) (x1 : Int32) (x2 : Int32) (σ : St) : Option Int32 :=
  bd (f_X6_isDoll x1 σ) fun r_1 =>
  if r_1 = 0 then (some (-1 : Int32))
  else if x2 = (0 : Int32) then (gd (ck x1 4) <|
      some (σ.1 4 x1.toNatClampNeg))
    else if x2 = (1 : Int32) then (gd (ck x1 4) <|
      some (σ.1 5 x1.toNatClampNeg))
    else if x2 = (2 : Int32) then (gd (ck x1 4) <|
      some (σ.1 6 x1.toNatClampNeg))
    else if x2 = (3 : Int32) then (bd (f_X6_wideOf x1 σ) fun r_11 =>
      some r_11)
    else if x2 = (4 : Int32) then (gd (ck x1 4) <|
      some (σ.1 7 x1.toNatClampNeg))
    else if x2 = (5 : Int32) then (some (((σ.1 0 4) >>> (x1 &&& 31)) &&& (1 : Int32)))
    else if x2 = (6 : Int32) then (bd (f_X6_isAtHand N x1 σ) fun r_17 =>
      if r_17 = 0 then (some (0 : Int32))
      else some (1 : Int32))
    else if x2 = (7 : Int32) then (bd (f_X6_inOf N x1 σ) fun r_21 =>
      some r_21)
    else if x2 = (8 : Int32) then (bd (f_X6_manyWithin N x1 σ) fun r_24 =>
      some r_24)
    else some (-2 : Int32)
abbrev rmX6_ofDoll : Room := { frames := 2, cells := 0, slots := 0, locals := 45 }
set_option maxRecDepth 100000 in
set_option maxHeartbeats 4000000 in
theorem c_X6_ofDoll (l : Launch) (D : va_G) (a : Nat → Nat) (c : Nat → ClassId) (A : Nat → Prop) (hD : ∀ σ, va_D A (mW a c σ)) (N : Nat) (x1 : Int32) (x2 : Int32) (σ : St) (r : Int32) (hf : f_X6_ofDoll N x1 x2 σ = some r) : MetI l yX6_ofDoll cX6_ofDoll 3 (some .int) rmX6_ofDoll (mW a c) D c A [.ref (a 0), .int x1, .int x2] σ r σ := by
  refine mkI (by decide) (Nat.le_of_ble_eq_true rfl) rfl ?_
  intro p e s m args below meth cd Q ls h0 hK hP hret hl
  obtain ⟨S, hr, hlk⟩ := h0
  obtain ⟨hx, hb, hml, hown, ht⟩ := id S
  have hS : va_S A s.heap s.heap [] := va_S.rf
  have hl : lv_has ls 3 [(0, .ref (a 0)), (1, .int x1), (2, .int x2)] := hl
  have hf := obs hf
  have hf := oun (f_X6_ofDoll.eq_1 _ _ _ _) hf
  refine lv_aload_n hx hb dX6_ofDoll_0 rfl (lv_at hl 0 rfl) ?_
  refine lv_iload_n hx hb dX6_ofDoll_1 rfl (lv_at hl 1 rfl) ?_
  obtain ⟨r_1, h_2, hf⟩ := obd hf
  refine xv_I (As := [.int x1]) (rest := []) S k_X6_isDoll q226 q227 q228 ⟨Nat.le_of_ble_eq_true rfl, Nat.le_of_ble_eq_true rfl⟩ ⟨rfl, rfl⟩ (c_X6_isDoll l D a c A hD x1 σ r_1 h_2) hK hP hS (va_recv hK.1 hP (rfl : vwCl[4]? = some (RX6, TX6, 27)) (mw0 a c σ)) rfl hl.1 rfl (Nat.le_of_ble_eq_true rfl) dX6_ofDoll_2 ⟨Nat.zero_le _, Nat.zero_le _⟩ (fun H locs hP hS => ?_)
  refine lv_if_ne (tgt := 10) hx hb dX6_ofDoll_5 (by decide) (fun c_3 => ?_) (fun c_3 => ?_)
  · have hf := oif c_3 hf
    refine lv_iload_n hx hb dX6_ofDoll_10 rfl (lv_at hl 2 rfl) ?_
    by_cases c_4 : x2 = (0 : Int32)
    · have hf := oit c_4 hf
      refine lv_tableIn (tgt := 60) (off := 49) hx hb dX6_ofDoll_11 (by rw [c_4]; decide) (by rw [c_4]; decide) (by rw [c_4]; decide) (by decide) ?_
      refine lv_aload_n hx hb dX6_ofDoll_60 rfl (lv_at hl 0 rfl) ?_
      refine va_get (D := D) (ci := 4) (v := .ref (a 4)) (C := RX6) (T := TX6) (N := 27) hx hb ht gX6 hown hK.1 hP 0 (mw0 a c σ) rfl 7 (by decide) (ht _ q53) (fun _ h9 => h9) rfl dX6_ofDoll_61 ?_
      refine lv_iload_n hx hb dX6_ofDoll_64 rfl (lv_at hl 1 rfl) ?_
      obtain ⟨g_5, hf⟩ := ogd hf
      refine va_iald hx hb hK.1 hP 4 0 (mw4 a c σ) rfl (ck_in g_5) dX6_ofDoll_65 ?_
      exact hret _ _ _ _ _ _ dX6_ofDoll_66 rfl hP hS ⟨Option.some.inj hf, rfl⟩
    have hf := oif c_4 hf
    by_cases c_6 : x2 = (1 : Int32)
    · have hf := oit c_6 hf
      refine lv_tableIn (tgt := 67) (off := 56) hx hb dX6_ofDoll_11 (by rw [c_6]; decide) (by rw [c_6]; decide) (by rw [c_6]; decide) (by decide) ?_
      refine lv_aload_n hx hb dX6_ofDoll_67 rfl (lv_at hl 0 rfl) ?_
      refine va_get (D := D) (ci := 4) (v := .ref (a 5)) (C := RX6) (T := TX6) (N := 27) hx hb ht gX6 hown hK.1 hP 0 (mw0 a c σ) rfl 8 (by decide) (ht _ q54) (fun _ h9 => h9) rfl dX6_ofDoll_68 ?_
      refine lv_iload_n hx hb dX6_ofDoll_71 rfl (lv_at hl 1 rfl) ?_
      obtain ⟨g_7, hf⟩ := ogd hf
      refine va_iald hx hb hK.1 hP 5 0 (mw5 a c σ) rfl (ck_in g_7) dX6_ofDoll_72 ?_
      exact hret _ _ _ _ _ _ dX6_ofDoll_73 rfl hP hS ⟨Option.some.inj hf, rfl⟩
    have hf := oif c_6 hf
    by_cases c_8 : x2 = (2 : Int32)
    · have hf := oit c_8 hf
      refine lv_tableIn (tgt := 74) (off := 63) hx hb dX6_ofDoll_11 (by rw [c_8]; decide) (by rw [c_8]; decide) (by rw [c_8]; decide) (by decide) ?_
      refine lv_aload_n hx hb dX6_ofDoll_74 rfl (lv_at hl 0 rfl) ?_
      refine va_get (D := D) (ci := 4) (v := .ref (a 6)) (C := RX6) (T := TX6) (N := 27) hx hb ht gX6 hown hK.1 hP 0 (mw0 a c σ) rfl 9 (by decide) (ht _ q55) (fun _ h9 => h9) rfl dX6_ofDoll_75 ?_
      refine lv_iload_n hx hb dX6_ofDoll_78 rfl (lv_at hl 1 rfl) ?_
      obtain ⟨g_9, hf⟩ := ogd hf
      refine va_iald hx hb hK.1 hP 6 0 (mw6 a c σ) rfl (ck_in g_9) dX6_ofDoll_79 ?_
      exact hret _ _ _ _ _ _ dX6_ofDoll_80 rfl hP hS ⟨Option.some.inj hf, rfl⟩
    have hf := oif c_8 hf
    by_cases c_10 : x2 = (3 : Int32)
    · have hf := oit c_10 hf
      refine lv_tableIn (tgt := 81) (off := 70) hx hb dX6_ofDoll_11 (by rw [c_10]; decide) (by rw [c_10]; decide) (by rw [c_10]; decide) (by decide) ?_
      refine lv_aload_n hx hb dX6_ofDoll_81 rfl (lv_at hl 0 rfl) ?_
      refine lv_iload_n hx hb dX6_ofDoll_82 rfl (lv_at hl 1 rfl) ?_
      obtain ⟨r_11, h_12, hf⟩ := obd hf
      refine xv_I (As := [.int x1]) (rest := []) S k_X6_wideOf q230 q231 q232 ⟨Nat.le_of_ble_eq_true rfl, Nat.le_of_ble_eq_true rfl⟩ ⟨rfl, rfl⟩ (c_X6_wideOf l D a c A hD x1 σ r_11 h_12) hK hP hS (va_recv hK.1 hP (rfl : vwCl[4]? = some (RX6, TX6, 27)) (mw0 a c σ)) rfl hl.1 rfl (Nat.le_of_ble_eq_true rfl) dX6_ofDoll_83 ⟨Nat.zero_le _, Nat.zero_le _⟩ (fun H locs hP hS => ?_)
      exact hret _ _ _ _ _ _ dX6_ofDoll_86 rfl hP hS ⟨Option.some.inj hf, rfl⟩
    have hf := oif c_10 hf
    by_cases c_13 : x2 = (4 : Int32)
    · have hf := oit c_13 hf
      refine lv_tableIn (tgt := 87) (off := 76) hx hb dX6_ofDoll_11 (by rw [c_13]; decide) (by rw [c_13]; decide) (by rw [c_13]; decide) (by decide) ?_
      refine lv_aload_n hx hb dX6_ofDoll_87 rfl (lv_at hl 0 rfl) ?_
      refine va_get (D := D) (ci := 4) (v := .ref (a 7)) (C := RX6) (T := TX6) (N := 27) hx hb ht gX6 hown hK.1 hP 0 (mw0 a c σ) rfl 10 (by decide) (ht _ q56) (fun _ h9 => h9) rfl dX6_ofDoll_88 ?_
      refine lv_iload_n hx hb dX6_ofDoll_91 rfl (lv_at hl 1 rfl) ?_
      obtain ⟨g_14, hf⟩ := ogd hf
      refine va_iald hx hb hK.1 hP 7 0 (mw7 a c σ) rfl (ck_in g_14) dX6_ofDoll_92 ?_
      exact hret _ _ _ _ _ _ dX6_ofDoll_93 rfl hP hS ⟨Option.some.inj hf, rfl⟩
    have hf := oif c_13 hf
    by_cases c_15 : x2 = (5 : Int32)
    · have hf := oit c_15 hf
      refine lv_tableIn (tgt := 94) (off := 83) hx hb dX6_ofDoll_11 (by rw [c_15]; decide) (by rw [c_15]; decide) (by rw [c_15]; decide) (by decide) ?_
      refine lv_aload_n hx hb dX6_ofDoll_94 rfl (lv_at hl 0 rfl) ?_
      refine va_get (D := D) (ci := 4) (v := .int (σ.1 0 4)) (C := RX6) (T := TX6) (N := 27) hx hb ht gX6 hown hK.1 hP 0 (mw0 a c σ) rfl 11 (by decide) (ht _ q140) (fun _ h9 => h9) rfl dX6_ofDoll_95 ?_
      refine lv_iload_n hx hb dX6_ofDoll_98 rfl (lv_at hl 1 rfl) ?_
      refine lv_ishr hx hb dX6_ofDoll_99 ?_
      refine lv_iconst (v := (1 : Int32)) hx hb dX6_ofDoll_100 (by decide) ?_
      refine lv_iand hx hb dX6_ofDoll_101 ?_
      exact hret _ _ _ _ _ _ dX6_ofDoll_102 rfl hP hS ⟨Option.some.inj hf, rfl⟩
    have hf := oif c_15 hf
    by_cases c_16 : x2 = (6 : Int32)
    · have hf := oit c_16 hf
      refine lv_tableIn (tgt := 103) (off := 92) hx hb dX6_ofDoll_11 (by rw [c_16]; decide) (by rw [c_16]; decide) (by rw [c_16]; decide) (by decide) ?_
      refine lv_aload_n hx hb dX6_ofDoll_103 rfl (lv_at hl 0 rfl) ?_
      refine lv_iload_n hx hb dX6_ofDoll_104 rfl (lv_at hl 1 rfl) ?_
      obtain ⟨r_17, h_18, hf⟩ := obd hf
      refine xv_I (As := [.int x1]) (rest := []) S k_X6_isAtHand q234 q235 q236 ⟨Nat.le_of_ble_eq_true rfl, Nat.le_of_ble_eq_true rfl⟩ ⟨rfl, rfl⟩ (c_X6_isAtHand l D a c A hD N x1 σ r_17 h_18) hK hP hS (va_recv hK.1 hP (rfl : vwCl[4]? = some (RX6, TX6, 27)) (mw0 a c σ)) rfl hl.1 rfl (Nat.le_of_ble_eq_true rfl) dX6_ofDoll_105 ⟨Nat.zero_le _, Nat.zero_le _⟩ (fun H locs hP hS => ?_)
      refine lv_if_eq (tgt := 115) hx hb dX6_ofDoll_108 (by decide) (fun c_19 => ?_) (fun c_19 => ?_)
      · have hf := oit c_19 hf
        refine lv_iconst (v := (0 : Int32)) hx hb dX6_ofDoll_115 (by decide) ?_
        exact hret _ _ _ _ _ _ dX6_ofDoll_116 rfl hP hS ⟨Option.some.inj hf, rfl⟩
      have hf := oif c_19 hf
      refine lv_iconst (v := (1 : Int32)) hx hb dX6_ofDoll_111 (by decide) ?_
      refine lv_goto (tgt := 116) hx hb dX6_ofDoll_112 (by decide) ?_
      exact hret _ _ _ _ _ _ dX6_ofDoll_116 rfl hP hS ⟨Option.some.inj hf, rfl⟩
    have hf := oif c_16 hf
    by_cases c_20 : x2 = (7 : Int32)
    · have hf := oit c_20 hf
      refine lv_tableIn (tgt := 117) (off := 106) hx hb dX6_ofDoll_11 (by rw [c_20]; decide) (by rw [c_20]; decide) (by rw [c_20]; decide) (by decide) ?_
      refine lv_aload_n hx hb dX6_ofDoll_117 rfl (lv_at hl 0 rfl) ?_
      refine lv_iload_n hx hb dX6_ofDoll_118 rfl (lv_at hl 1 rfl) ?_
      obtain ⟨r_21, h_22, hf⟩ := obd hf
      refine xv_I (As := [.int x1]) (rest := []) S k_X6_inOf q241 q242 q243 ⟨Nat.le_of_ble_eq_true rfl, Nat.le_of_ble_eq_true rfl⟩ ⟨rfl, rfl⟩ (c_X6_inOf l D a c A hD N x1 σ r_21 h_22) hK hP hS (va_recv hK.1 hP (rfl : vwCl[4]? = some (RX6, TX6, 27)) (mw0 a c σ)) rfl hl.1 rfl (Nat.le_of_ble_eq_true rfl) dX6_ofDoll_119 ⟨Nat.zero_le _, Nat.zero_le _⟩ (fun H locs hP hS => ?_)
      exact hret _ _ _ _ _ _ dX6_ofDoll_122 rfl hP hS ⟨Option.some.inj hf, rfl⟩
    have hf := oif c_20 hf
    by_cases c_23 : x2 = (8 : Int32)
    · have hf := oit c_23 hf
      refine lv_tableIn (tgt := 123) (off := 112) hx hb dX6_ofDoll_11 (by rw [c_23]; decide) (by rw [c_23]; decide) (by rw [c_23]; decide) (by decide) ?_
      refine lv_aload_n hx hb dX6_ofDoll_123 rfl (lv_at hl 0 rfl) ?_
      refine lv_iload_n hx hb dX6_ofDoll_124 rfl (lv_at hl 1 rfl) ?_
      obtain ⟨r_24, h_25, hf⟩ := obd hf
      refine xv_I (As := [.int x1]) (rest := []) S k_X6_manyWithin q245 q246 q247 ⟨Nat.le_of_ble_eq_true rfl, Nat.le_of_ble_eq_true rfl⟩ ⟨rfl, rfl⟩ (c_X6_manyWithin l D a c A hD N x1 σ r_24 h_25) hK hP hS (va_recv hK.1 hP (rfl : vwCl[4]? = some (RX6, TX6, 27)) (mw0 a c σ)) rfl hl.1 rfl (Nat.le_of_ble_eq_true rfl) dX6_ofDoll_125 ⟨Nat.zero_le _, Nat.zero_le _⟩ (fun H locs hP hS => ?_)
      exact hret _ _ _ _ _ _ dX6_ofDoll_128 rfl hP hS ⟨Option.some.inj hf, rfl⟩
    have hf := oif c_23 hf
    refine lv_tableOut (tgt := 129) hx hb dX6_ofDoll_11 (by have z0 := lv_neT c_4 (a := 0) rfl; have z1 := lv_neT c_6 (a := 1) rfl; have z2 := lv_neT c_8 (a := 2) rfl; have z3 := lv_neT c_10 (a := 3) rfl; have z4 := lv_neT c_13 (a := 4) rfl; have z5 := lv_neT c_15 (a := 5) rfl; have z6 := lv_neT c_16 (a := 6) rfl; have z7 := lv_neT c_20 (a := 7) rfl; have z8 := lv_neT c_23 (a := 8) rfl; omega) (by decide) ?_
    refine lv_bipush (v := (-2 : Int32)) hx hb dX6_ofDoll_129 (by decide) ?_
    exact hret _ _ _ _ _ _ dX6_ofDoll_131 rfl hP hS ⟨Option.some.inj hf, rfl⟩
  have hf := oit c_3 hf
  refine lv_iconst (v := (-1 : Int32)) hx hb dX6_ofDoll_8 (by decide) ?_
  exact hret _ _ _ _ _ _ dX6_ofDoll_9 rfl hP hS ⟨Option.some.inj hf, rfl⟩
theorem dX6_girth_0 : decode cX6_girth 0 = .ok (.aload_n 0, 1) := by decide +kernel
theorem dX6_girth_1 : decode cX6_girth 1 = .ok (.iload_n 1, 1) := by decide +kernel
theorem dX6_girth_2 : decode cX6_girth 2 = .ok (.invokevirtual 78, 3) := by decide +kernel
theorem dX6_girth_5 : decode cX6_girth 5 = .ok (.ifCond .ne 5, 3) := by decide +kernel
theorem dX6_girth_8 : decode cX6_girth 8 = .ok (.iconst (-1), 1) := by decide +kernel
theorem dX6_girth_9 : decode cX6_girth 9 = .ok (.ireturn, 1) := by decide +kernel
theorem dX6_girth_10 : decode cX6_girth 10 = .ok (.iload_n 2, 1) := by decide +kernel
theorem dX6_girth_11 : decode cX6_girth 11 = .ok (.iconst 1, 1) := by decide +kernel
theorem dX6_girth_12 : decode cX6_girth 12 = .ok (.bipush 9, 2) := by decide +kernel
theorem dX6_girth_14 : decode cX6_girth 14 = .ok (.invokestatic 71, 3) := by decide +kernel
theorem dX6_girth_17 : decode cX6_girth 17 = .ok (.ifCond .eq 13, 3) := by decide +kernel
theorem dX6_girth_20 : decode cX6_girth 20 = .ok (.iload_n 2, 1) := by decide +kernel
theorem dX6_girth_21 : decode cX6_girth 21 = .ok (.aload_n 0, 1) := by decide +kernel
theorem dX6_girth_22 : decode cX6_girth 22 = .ok (.getfield 25, 3) := by decide +kernel
theorem dX6_girth_25 : decode cX6_girth 25 = .ok (.iload_n 1, 1) := by decide +kernel
theorem dX6_girth_26 : decode cX6_girth 26 = .ok (.iaload, 1) := by decide +kernel
theorem dX6_girth_27 : decode cX6_girth 27 = .ok (.if_icmp .gt 6, 3) := by decide +kernel
theorem dX6_girth_30 : decode cX6_girth 30 = .ok (.bipush (-2), 2) := by decide +kernel
theorem dX6_girth_32 : decode cX6_girth 32 = .ok (.ireturn, 1) := by decide +kernel
theorem dX6_girth_33 : decode cX6_girth 33 = .ok (.aload_n 0, 1) := by decide +kernel
theorem dX6_girth_34 : decode cX6_girth 34 = .ok (.getfield 22, 3) := by decide +kernel
theorem dX6_girth_37 : decode cX6_girth 37 = .ok (.iload_n 1, 1) := by decide +kernel
theorem dX6_girth_38 : decode cX6_girth 38 = .ok (.iaload, 1) := by decide +kernel
theorem dX6_girth_39 : decode cX6_girth 39 = .ok (.istore_n 3, 1) := by decide +kernel
theorem dX6_girth_40 : decode cX6_girth 40 = .ok (.aload_n 0, 1) := by decide +kernel
theorem dX6_girth_41 : decode cX6_girth 41 = .ok (.getfield 22, 3) := by decide +kernel
theorem dX6_girth_44 : decode cX6_girth 44 = .ok (.iload_n 1, 1) := by decide +kernel
theorem dX6_girth_45 : decode cX6_girth 45 = .ok (.iload_n 2, 1) := by decide +kernel
theorem dX6_girth_46 : decode cX6_girth 46 = .ok (.iastore, 1) := by decide +kernel
theorem dX6_girth_47 : decode cX6_girth 47 = .ok (.iload_n 3, 1) := by decide +kernel
theorem dX6_girth_48 : decode cX6_girth 48 = .ok (.ireturn, 1) := by decide +kernel
def f_X6_girth (x1 : Int32) (x2 : Int32) (σ : St) : Option (Int32 × St) :=
  bd (f_X6_isDoll x1 σ) fun r_1 =>
  if r_1 = 0 then (some ((-1 : Int32), σ))
  else bd (f_X6_within x2 (1 : Int32) (9 : Int32)) fun r_4 =>
    if r_4 = 0 then (some ((-2 : Int32), σ))
    else gd (ck x1 4) <|
    if (σ.1 6 x1.toNatClampNeg) < x2 then (gd (ck x1 4) <|
      nm (σ.1 5 x1.toNatClampNeg) fun x3_10 =>
      gd (ck x1 4) <|
      nm (wS σ 5 (Int32.toNatClampNeg x1) x2) fun σ_12 =>
      some (x3_10, σ_12))
    else some ((-2 : Int32), σ)
abbrev rmX6_girth : Room := { frames := 1, cells := 0, slots := 0, locals := 22 }
set_option maxRecDepth 100000 in
set_option maxHeartbeats 4000000 in
theorem c_X6_girth (l : Launch) (D : va_G) (a : Nat → Nat) (c : Nat → ClassId) (A : Nat → Prop) (hD : ∀ σ, va_D A (mW a c σ)) (x1 : Int32) (x2 : Int32) (σ : St) (r : Int32) (u : St) (hf : f_X6_girth x1 x2 σ = some (r, u)) : MetI l yX6_girth cX6_girth 4 (some .int) rmX6_girth (mW a c) D c A [.ref (a 0), .int x1, .int x2] σ r u := by
  refine mkI (by decide) (Nat.le_of_ble_eq_true rfl) rfl ?_
  intro p e s m args below meth cd Q ls h0 hK hP hret hl
  obtain ⟨S, hr, hlk⟩ := h0
  obtain ⟨hx, hb, hml, hown, ht⟩ := id S
  have hS : va_S A s.heap s.heap [] := va_S.rf
  have hl : lv_has ls 4 [(0, .ref (a 0)), (1, .int x1), (2, .int x2)] := hl
  have hf := obs hf
  have hf := oun (f_X6_girth.eq_1 _ _ _) hf
  refine lv_aload_n hx hb dX6_girth_0 rfl (lv_at hl 0 rfl) ?_
  refine lv_iload_n hx hb dX6_girth_1 rfl (lv_at hl 1 rfl) ?_
  obtain ⟨r_1, h_2, hf⟩ := obd hf
  refine xv_I (As := [.int x1]) (rest := []) S k_X6_isDoll q226 q227 q228 ⟨Nat.le_of_ble_eq_true rfl, Nat.le_of_ble_eq_true rfl⟩ ⟨rfl, rfl⟩ (c_X6_isDoll l D a c A hD x1 σ r_1 h_2) hK hP hS (va_recv hK.1 hP (rfl : vwCl[4]? = some (RX6, TX6, 27)) (mw0 a c σ)) rfl hl.1 rfl (Nat.le_of_ble_eq_true rfl) dX6_girth_2 ⟨Nat.zero_le _, Nat.zero_le _⟩ (fun H locs hP hS => ?_)
  refine lv_if_ne (tgt := 10) hx hb dX6_girth_5 (by decide) (fun c_3 => ?_) (fun c_3 => ?_)
  · have hf := oif c_3 hf
    refine lv_iload_n hx hb dX6_girth_10 rfl (lv_at hl 2 rfl) ?_
    refine lv_iconst (v := (1 : Int32)) hx hb dX6_girth_11 (by decide) ?_
    refine lv_bipush (v := (9 : Int32)) hx hb dX6_girth_12 (by decide) ?_
    obtain ⟨r_4, h_5, hf⟩ := obd hf
    refine xs_S (As := [.int x2, .int (1 : Int32), .int (9 : Int32)]) (rest := []) S k_X6_within q146 q147 ⟨Nat.le_of_ble_eq_true rfl, Nat.le_of_ble_eq_true rfl⟩ ⟨rfl, rfl⟩ (c_X6_within l x2 (1 : Int32) (9 : Int32) r_4 h_5) hK.2 rfl hl.1 rfl (Nat.le_of_ble_eq_true rfl) dX6_girth_14 ⟨Nat.zero_le _, Nat.zero_le _⟩ ?_
    refine lv_if_eq (tgt := 30) hx hb dX6_girth_17 (by decide) (fun c_6 => ?_) (fun c_6 => ?_)
    · have hf := oit c_6 hf
      refine lv_bipush (v := (-2 : Int32)) hx hb dX6_girth_30 (by decide) ?_
      exact hret _ _ _ _ _ _ dX6_girth_32 rfl hP hS (oret hf)
    have hf := oif c_6 hf
    refine lv_iload_n hx hb dX6_girth_20 rfl (lv_at hl 2 rfl) ?_
    refine lv_aload_n hx hb dX6_girth_21 rfl (lv_at hl 0 rfl) ?_
    refine va_get (D := D) (ci := 4) (v := .ref (a 6)) (C := RX6) (T := TX6) (N := 27) hx hb ht gX6 hown hK.1 hP 0 (mw0 a c σ) rfl 9 (by decide) (ht _ q55) (fun _ h9 => h9) rfl dX6_girth_22 ?_
    refine lv_iload_n hx hb dX6_girth_25 rfl (lv_at hl 1 rfl) ?_
    obtain ⟨g_7, hf⟩ := ogd hf
    refine va_iald hx hb hK.1 hP 6 0 (mw6 a c σ) rfl (ck_in g_7) dX6_girth_26 ?_
    refine lv_icmp_gt (tgt := 33) hx hb dX6_girth_27 (by decide) (fun c_8 => ?_) (fun c_8 => ?_)
    · have hf := oit c_8 hf
      refine lv_aload_n hx hb dX6_girth_33 rfl (lv_at hl 0 rfl) ?_
      refine va_get (D := D) (ci := 4) (v := .ref (a 5)) (C := RX6) (T := TX6) (N := 27) hx hb ht gX6 hown hK.1 hP 0 (mw0 a c σ) rfl 8 (by decide) (ht _ q54) (fun _ h9 => h9) rfl dX6_girth_34 ?_
      refine lv_iload_n hx hb dX6_girth_37 rfl (lv_at hl 1 rfl) ?_
      obtain ⟨g_9, hf⟩ := ogd hf
      refine va_iald hx hb hK.1 hP 5 0 (mw5 a c σ) rfl (ck_in g_9) dX6_girth_38 ?_
      obtain ⟨x3_10, ex3_10, hf⟩ := onm hf
      refine lv_nm ex3_10 ?_
      refine lv_istore_n (lv' := [(3, .int x3_10), (0, .ref (a 0)), (1, .int x1), (2, .int x2)]) hx hb dX6_girth_39 rfl hl (by decide) rfl (fun ls hl => ?_)
      refine lv_aload_n hx hb dX6_girth_40 rfl (lv_at hl 1 rfl) ?_
      refine va_get (D := D) (ci := 4) (v := .ref (a 5)) (C := RX6) (T := TX6) (N := 27) hx hb ht gX6 hown hK.1 hP 0 (mw0 a c σ) rfl 8 (by decide) (ht _ q54) (fun _ h9 => h9) rfl dX6_girth_41 ?_
      refine lv_iload_n hx hb dX6_girth_44 rfl (lv_at hl 2 rfl) ?_
      refine lv_iload_n hx hb dX6_girth_45 rfl (lv_at hl 3 rfl) ?_
      obtain ⟨g_11, hf⟩ := ogd hf
      refine va_iast hx hb hK.1 hP (hD σ) hS 5 0 (mw5 a c σ) rfl (ck_in g_11) dX6_girth_46 (fun H locs hP _ hS => ?_)
      have hP := vP_eq (mpA_m5 a c σ (Int32.toNatClampNeg x1) x2) hP
      obtain ⟨σ_12, eσ_12, hf⟩ := onm hf
      rw [eσ_12] at hP
      refine lv_iload_n hx hb dX6_girth_47 rfl (lv_at hl 0 rfl) ?_
      exact hret _ _ _ _ _ _ dX6_girth_48 rfl hP hS (oret hf)
    have hf := oif c_8 hf
    refine lv_bipush (v := (-2 : Int32)) hx hb dX6_girth_30 (by decide) ?_
    exact hret _ _ _ _ _ _ dX6_girth_32 rfl hP hS (oret hf)
  have hf := oit c_3 hf
  refine lv_iconst (v := (-1 : Int32)) hx hb dX6_girth_8 (by decide) ?_
  exact hret _ _ _ _ _ _ dX6_girth_9 rfl hP hS (oret hf)
theorem dX6_room_0 : decode cX6_room 0 = .ok (.aload_n 0, 1) := by decide +kernel
theorem dX6_room_1 : decode cX6_room 1 = .ok (.iload_n 1, 1) := by decide +kernel
theorem dX6_room_2 : decode cX6_room 2 = .ok (.invokevirtual 78, 3) := by decide +kernel
theorem dX6_room_5 : decode cX6_room 5 = .ok (.ifCond .ne 5, 3) := by decide +kernel
theorem dX6_room_8 : decode cX6_room 8 = .ok (.iconst (-1), 1) := by decide +kernel
theorem dX6_room_9 : decode cX6_room 9 = .ok (.ireturn, 1) := by decide +kernel
theorem dX6_room_10 : decode cX6_room 10 = .ok (.iload_n 2, 1) := by decide +kernel
theorem dX6_room_11 : decode cX6_room 11 = .ok (.iconst 0, 1) := by decide +kernel
theorem dX6_room_12 : decode cX6_room 12 = .ok (.bipush 9, 2) := by decide +kernel
theorem dX6_room_14 : decode cX6_room 14 = .ok (.invokestatic 71, 3) := by decide +kernel
theorem dX6_room_17 : decode cX6_room 17 = .ok (.ifCond .eq 13, 3) := by decide +kernel
theorem dX6_room_20 : decode cX6_room 20 = .ok (.iload_n 2, 1) := by decide +kernel
theorem dX6_room_21 : decode cX6_room 21 = .ok (.aload_n 0, 1) := by decide +kernel
theorem dX6_room_22 : decode cX6_room 22 = .ok (.getfield 22, 3) := by decide +kernel
theorem dX6_room_25 : decode cX6_room 25 = .ok (.iload_n 1, 1) := by decide +kernel
theorem dX6_room_26 : decode cX6_room 26 = .ok (.iaload, 1) := by decide +kernel
theorem dX6_room_27 : decode cX6_room 27 = .ok (.if_icmp .lt 6, 3) := by decide +kernel
theorem dX6_room_30 : decode cX6_room 30 = .ok (.bipush (-2), 2) := by decide +kernel
theorem dX6_room_32 : decode cX6_room 32 = .ok (.ireturn, 1) := by decide +kernel
theorem dX6_room_33 : decode cX6_room 33 = .ok (.aload_n 0, 1) := by decide +kernel
theorem dX6_room_34 : decode cX6_room 34 = .ok (.getfield 25, 3) := by decide +kernel
theorem dX6_room_37 : decode cX6_room 37 = .ok (.iload_n 1, 1) := by decide +kernel
theorem dX6_room_38 : decode cX6_room 38 = .ok (.iaload, 1) := by decide +kernel
theorem dX6_room_39 : decode cX6_room 39 = .ok (.istore_n 3, 1) := by decide +kernel
theorem dX6_room_40 : decode cX6_room 40 = .ok (.aload_n 0, 1) := by decide +kernel
theorem dX6_room_41 : decode cX6_room 41 = .ok (.getfield 25, 3) := by decide +kernel
theorem dX6_room_44 : decode cX6_room 44 = .ok (.iload_n 1, 1) := by decide +kernel
theorem dX6_room_45 : decode cX6_room 45 = .ok (.iload_n 2, 1) := by decide +kernel
theorem dX6_room_46 : decode cX6_room 46 = .ok (.iastore, 1) := by decide +kernel
theorem dX6_room_47 : decode cX6_room 47 = .ok (.iload_n 3, 1) := by decide +kernel
theorem dX6_room_48 : decode cX6_room 48 = .ok (.ireturn, 1) := by decide +kernel
def f_X6_room (x1 : Int32) (x2 : Int32) (σ : St) : Option (Int32 × St) :=
  bd (f_X6_isDoll x1 σ) fun r_1 =>
  if r_1 = 0 then (some ((-1 : Int32), σ))
  else bd (f_X6_within x2 (0 : Int32) (9 : Int32)) fun r_4 =>
    if r_4 = 0 then (some ((-2 : Int32), σ))
    else gd (ck x1 4) <|
    if x2 < (σ.1 5 x1.toNatClampNeg) then (gd (ck x1 4) <|
      nm (σ.1 6 x1.toNatClampNeg) fun x3_10 =>
      gd (ck x1 4) <|
      nm (wS σ 6 (Int32.toNatClampNeg x1) x2) fun σ_12 =>
      some (x3_10, σ_12))
    else some ((-2 : Int32), σ)
abbrev rmX6_room : Room := { frames := 1, cells := 0, slots := 0, locals := 22 }
set_option maxRecDepth 100000 in
set_option maxHeartbeats 4000000 in
theorem c_X6_room (l : Launch) (D : va_G) (a : Nat → Nat) (c : Nat → ClassId) (A : Nat → Prop) (hD : ∀ σ, va_D A (mW a c σ)) (x1 : Int32) (x2 : Int32) (σ : St) (r : Int32) (u : St) (hf : f_X6_room x1 x2 σ = some (r, u)) : MetI l yX6_room cX6_room 4 (some .int) rmX6_room (mW a c) D c A [.ref (a 0), .int x1, .int x2] σ r u := by
  refine mkI (by decide) (Nat.le_of_ble_eq_true rfl) rfl ?_
  intro p e s m args below meth cd Q ls h0 hK hP hret hl
  obtain ⟨S, hr, hlk⟩ := h0
  obtain ⟨hx, hb, hml, hown, ht⟩ := id S
  have hS : va_S A s.heap s.heap [] := va_S.rf
  have hl : lv_has ls 4 [(0, .ref (a 0)), (1, .int x1), (2, .int x2)] := hl
  have hf := obs hf
  have hf := oun (f_X6_room.eq_1 _ _ _) hf
  refine lv_aload_n hx hb dX6_room_0 rfl (lv_at hl 0 rfl) ?_
  refine lv_iload_n hx hb dX6_room_1 rfl (lv_at hl 1 rfl) ?_
  obtain ⟨r_1, h_2, hf⟩ := obd hf
  refine xv_I (As := [.int x1]) (rest := []) S k_X6_isDoll q226 q227 q228 ⟨Nat.le_of_ble_eq_true rfl, Nat.le_of_ble_eq_true rfl⟩ ⟨rfl, rfl⟩ (c_X6_isDoll l D a c A hD x1 σ r_1 h_2) hK hP hS (va_recv hK.1 hP (rfl : vwCl[4]? = some (RX6, TX6, 27)) (mw0 a c σ)) rfl hl.1 rfl (Nat.le_of_ble_eq_true rfl) dX6_room_2 ⟨Nat.zero_le _, Nat.zero_le _⟩ (fun H locs hP hS => ?_)
  refine lv_if_ne (tgt := 10) hx hb dX6_room_5 (by decide) (fun c_3 => ?_) (fun c_3 => ?_)
  · have hf := oif c_3 hf
    refine lv_iload_n hx hb dX6_room_10 rfl (lv_at hl 2 rfl) ?_
    refine lv_iconst (v := (0 : Int32)) hx hb dX6_room_11 (by decide) ?_
    refine lv_bipush (v := (9 : Int32)) hx hb dX6_room_12 (by decide) ?_
    obtain ⟨r_4, h_5, hf⟩ := obd hf
    refine xs_S (As := [.int x2, .int (0 : Int32), .int (9 : Int32)]) (rest := []) S k_X6_within q146 q147 ⟨Nat.le_of_ble_eq_true rfl, Nat.le_of_ble_eq_true rfl⟩ ⟨rfl, rfl⟩ (c_X6_within l x2 (0 : Int32) (9 : Int32) r_4 h_5) hK.2 rfl hl.1 rfl (Nat.le_of_ble_eq_true rfl) dX6_room_14 ⟨Nat.zero_le _, Nat.zero_le _⟩ ?_
    refine lv_if_eq (tgt := 30) hx hb dX6_room_17 (by decide) (fun c_6 => ?_) (fun c_6 => ?_)
    · have hf := oit c_6 hf
      refine lv_bipush (v := (-2 : Int32)) hx hb dX6_room_30 (by decide) ?_
      exact hret _ _ _ _ _ _ dX6_room_32 rfl hP hS (oret hf)
    have hf := oif c_6 hf
    refine lv_iload_n hx hb dX6_room_20 rfl (lv_at hl 2 rfl) ?_
    refine lv_aload_n hx hb dX6_room_21 rfl (lv_at hl 0 rfl) ?_
    refine va_get (D := D) (ci := 4) (v := .ref (a 5)) (C := RX6) (T := TX6) (N := 27) hx hb ht gX6 hown hK.1 hP 0 (mw0 a c σ) rfl 8 (by decide) (ht _ q54) (fun _ h9 => h9) rfl dX6_room_22 ?_
    refine lv_iload_n hx hb dX6_room_25 rfl (lv_at hl 1 rfl) ?_
    obtain ⟨g_7, hf⟩ := ogd hf
    refine va_iald hx hb hK.1 hP 5 0 (mw5 a c σ) rfl (ck_in g_7) dX6_room_26 ?_
    refine lv_icmp_lt (tgt := 33) hx hb dX6_room_27 (by decide) (fun c_8 => ?_) (fun c_8 => ?_)
    · have hf := oit c_8 hf
      refine lv_aload_n hx hb dX6_room_33 rfl (lv_at hl 0 rfl) ?_
      refine va_get (D := D) (ci := 4) (v := .ref (a 6)) (C := RX6) (T := TX6) (N := 27) hx hb ht gX6 hown hK.1 hP 0 (mw0 a c σ) rfl 9 (by decide) (ht _ q55) (fun _ h9 => h9) rfl dX6_room_34 ?_
      refine lv_iload_n hx hb dX6_room_37 rfl (lv_at hl 1 rfl) ?_
      obtain ⟨g_9, hf⟩ := ogd hf
      refine va_iald hx hb hK.1 hP 6 0 (mw6 a c σ) rfl (ck_in g_9) dX6_room_38 ?_
      obtain ⟨x3_10, ex3_10, hf⟩ := onm hf
      refine lv_nm ex3_10 ?_
      refine lv_istore_n (lv' := [(3, .int x3_10), (0, .ref (a 0)), (1, .int x1), (2, .int x2)]) hx hb dX6_room_39 rfl hl (by decide) rfl (fun ls hl => ?_)
      refine lv_aload_n hx hb dX6_room_40 rfl (lv_at hl 1 rfl) ?_
      refine va_get (D := D) (ci := 4) (v := .ref (a 6)) (C := RX6) (T := TX6) (N := 27) hx hb ht gX6 hown hK.1 hP 0 (mw0 a c σ) rfl 9 (by decide) (ht _ q55) (fun _ h9 => h9) rfl dX6_room_41 ?_
      refine lv_iload_n hx hb dX6_room_44 rfl (lv_at hl 2 rfl) ?_
      refine lv_iload_n hx hb dX6_room_45 rfl (lv_at hl 3 rfl) ?_
      obtain ⟨g_11, hf⟩ := ogd hf
      refine va_iast hx hb hK.1 hP (hD σ) hS 6 0 (mw6 a c σ) rfl (ck_in g_11) dX6_room_46 (fun H locs hP _ hS => ?_)
      have hP := vP_eq (mpA_m6 a c σ (Int32.toNatClampNeg x1) x2) hP
      obtain ⟨σ_12, eσ_12, hf⟩ := onm hf
      rw [eσ_12] at hP
      refine lv_iload_n hx hb dX6_room_47 rfl (lv_at hl 0 rfl) ?_
      exact hret _ _ _ _ _ _ dX6_room_48 rfl hP hS (oret hf)
    have hf := oif c_8 hf
    refine lv_bipush (v := (-2 : Int32)) hx hb dX6_room_30 (by decide) ?_
    exact hret _ _ _ _ _ _ dX6_room_32 rfl hP hS (oret hf)
  have hf := oit c_3 hf
  refine lv_iconst (v := (-1 : Int32)) hx hb dX6_room_8 (by decide) ?_
  exact hret _ _ _ _ _ _ dX6_room_9 rfl hP hS (oret hf)
theorem dX6_areTwo_0 : decode cX6_areTwo 0 = .ok (.aload_n 0, 1) := by decide +kernel
theorem dX6_areTwo_1 : decode cX6_areTwo 1 = .ok (.iload_n 1, 1) := by decide +kernel
theorem dX6_areTwo_2 : decode cX6_areTwo 2 = .ok (.invokevirtual 78, 3) := by decide +kernel
theorem dX6_areTwo_5 : decode cX6_areTwo 5 = .ok (.ifCond .eq 20, 3) := by decide +kernel
theorem dX6_areTwo_8 : decode cX6_areTwo 8 = .ok (.aload_n 0, 1) := by decide +kernel
theorem dX6_areTwo_9 : decode cX6_areTwo 9 = .ok (.iload_n 2, 1) := by decide +kernel
theorem dX6_areTwo_10 : decode cX6_areTwo 10 = .ok (.invokevirtual 78, 3) := by decide +kernel
theorem dX6_areTwo_13 : decode cX6_areTwo 13 = .ok (.ifCond .eq 12, 3) := by decide +kernel
theorem dX6_areTwo_16 : decode cX6_areTwo 16 = .ok (.iload_n 1, 1) := by decide +kernel
theorem dX6_areTwo_17 : decode cX6_areTwo 17 = .ok (.iload_n 2, 1) := by decide +kernel
theorem dX6_areTwo_18 : decode cX6_areTwo 18 = .ok (.if_icmp .eq 7, 3) := by decide +kernel
theorem dX6_areTwo_21 : decode cX6_areTwo 21 = .ok (.iconst 1, 1) := by decide +kernel
theorem dX6_areTwo_22 : decode cX6_areTwo 22 = .ok (.goto 4, 3) := by decide +kernel
theorem dX6_areTwo_25 : decode cX6_areTwo 25 = .ok (.iconst 0, 1) := by decide +kernel
theorem dX6_areTwo_26 : decode cX6_areTwo 26 = .ok (.ireturn, 1) := by decide +kernel
def f_X6_areTwo (x1 : Int32) (x2 : Int32) (σ : St) : Option Int32 :=
  bd (f_X6_isDoll x1 σ) fun r_1 =>
  if r_1 = 0 then (some (0 : Int32))
  else bd (f_X6_isDoll x2 σ) fun r_4 =>
  if r_4 = 0 then (some (0 : Int32))
  else if x1 = x2 then (some (0 : Int32))
  else some (1 : Int32)
abbrev rmX6_areTwo : Room := { frames := 1, cells := 0, slots := 0, locals := 21 }
set_option maxRecDepth 100000 in
set_option maxHeartbeats 4000000 in
theorem c_X6_areTwo (l : Launch) (D : va_G) (a : Nat → Nat) (c : Nat → ClassId) (A : Nat → Prop) (hD : ∀ σ, va_D A (mW a c σ)) (x1 : Int32) (x2 : Int32) (σ : St) (r : Int32) (hf : f_X6_areTwo x1 x2 σ = some r) : MetI l yX6_areTwo cX6_areTwo 3 (some .boolean) rmX6_areTwo (mW a c) D c A [.ref (a 0), .int x1, .int x2] σ r σ := by
  refine mkI (by decide) (Nat.le_of_ble_eq_true rfl) rfl ?_
  intro p e s m args below meth cd Q ls h0 hK hP hret hl
  obtain ⟨S, hr, hlk⟩ := h0
  obtain ⟨hx, hb, hml, hown, ht⟩ := id S
  have hS : va_S A s.heap s.heap [] := va_S.rf
  have hl : lv_has ls 3 [(0, .ref (a 0)), (1, .int x1), (2, .int x2)] := hl
  have hf := obs hf
  have hf := oun (f_X6_areTwo.eq_1 _ _ _) hf
  refine lv_aload_n hx hb dX6_areTwo_0 rfl (lv_at hl 0 rfl) ?_
  refine lv_iload_n hx hb dX6_areTwo_1 rfl (lv_at hl 1 rfl) ?_
  obtain ⟨r_1, h_2, hf⟩ := obd hf
  refine xv_I (As := [.int x1]) (rest := []) S k_X6_isDoll q226 q227 q228 ⟨Nat.le_of_ble_eq_true rfl, Nat.le_of_ble_eq_true rfl⟩ ⟨rfl, rfl⟩ (c_X6_isDoll l D a c A hD x1 σ r_1 h_2) hK hP hS (va_recv hK.1 hP (rfl : vwCl[4]? = some (RX6, TX6, 27)) (mw0 a c σ)) rfl hl.1 rfl (Nat.le_of_ble_eq_true rfl) dX6_areTwo_2 ⟨Nat.zero_le _, Nat.zero_le _⟩ (fun H locs hP hS => ?_)
  refine lv_if_eq (tgt := 25) hx hb dX6_areTwo_5 (by decide) (fun c_3 => ?_) (fun c_3 => ?_)
  · have hf := oit c_3 hf
    refine lv_iconst (v := (0 : Int32)) hx hb dX6_areTwo_25 (by decide) ?_
    exact hret _ _ _ _ _ _ dX6_areTwo_26 (by decide) hP hS ⟨Option.some.inj hf, rfl⟩
  have hf := oif c_3 hf
  refine lv_aload_n hx hb dX6_areTwo_8 rfl (lv_at hl 0 rfl) ?_
  refine lv_iload_n hx hb dX6_areTwo_9 rfl (lv_at hl 2 rfl) ?_
  obtain ⟨r_4, h_5, hf⟩ := obd hf
  refine xv_I (As := [.int x2]) (rest := []) S k_X6_isDoll q226 q227 q228 ⟨Nat.le_of_ble_eq_true rfl, Nat.le_of_ble_eq_true rfl⟩ ⟨rfl, rfl⟩ (c_X6_isDoll l D a c A hD x2 σ r_4 h_5) hK hP hS (va_recv hK.1 hP (rfl : vwCl[4]? = some (RX6, TX6, 27)) (mw0 a c σ)) rfl hl.1 rfl (Nat.le_of_ble_eq_true rfl) dX6_areTwo_10 ⟨Nat.zero_le _, Nat.zero_le _⟩ (fun H locs hP hS => ?_)
  refine lv_if_eq (tgt := 25) hx hb dX6_areTwo_13 (by decide) (fun c_6 => ?_) (fun c_6 => ?_)
  · have hf := oit c_6 hf
    refine lv_iconst (v := (0 : Int32)) hx hb dX6_areTwo_25 (by decide) ?_
    exact hret _ _ _ _ _ _ dX6_areTwo_26 (by decide) hP hS ⟨Option.some.inj hf, rfl⟩
  have hf := oif c_6 hf
  refine lv_iload_n hx hb dX6_areTwo_16 rfl (lv_at hl 1 rfl) ?_
  refine lv_iload_n hx hb dX6_areTwo_17 rfl (lv_at hl 2 rfl) ?_
  refine lv_icmp_eq (tgt := 25) hx hb dX6_areTwo_18 (by decide) (fun c_7 => ?_) (fun c_7 => ?_)
  · have hf := oit c_7 hf
    refine lv_iconst (v := (0 : Int32)) hx hb dX6_areTwo_25 (by decide) ?_
    exact hret _ _ _ _ _ _ dX6_areTwo_26 (by decide) hP hS ⟨Option.some.inj hf, rfl⟩
  have hf := oif c_7 hf
  refine lv_iconst (v := (1 : Int32)) hx hb dX6_areTwo_21 (by decide) ?_
  refine lv_goto (tgt := 26) hx hb dX6_areTwo_22 (by decide) ?_
  exact hret _ _ _ _ _ _ dX6_areTwo_26 (by decide) hP hS ⟨Option.some.inj hf, rfl⟩
theorem dX6_fitsInto_0 : decode cX6_fitsInto 0 = .ok (.aload_n 0, 1) := by decide +kernel
theorem dX6_fitsInto_1 : decode cX6_fitsInto 1 = .ok (.iload_n 1, 1) := by decide +kernel
theorem dX6_fitsInto_2 : decode cX6_fitsInto 2 = .ok (.invokevirtual 125, 3) := by decide +kernel
theorem dX6_fitsInto_5 : decode cX6_fitsInto 5 = .ok (.aload_n 0, 1) := by decide +kernel
theorem dX6_fitsInto_6 : decode cX6_fitsInto 6 = .ok (.getfield 25, 3) := by decide +kernel
theorem dX6_fitsInto_9 : decode cX6_fitsInto 9 = .ok (.iload_n 2, 1) := by decide +kernel
theorem dX6_fitsInto_10 : decode cX6_fitsInto 10 = .ok (.iaload, 1) := by decide +kernel
theorem dX6_fitsInto_11 : decode cX6_fitsInto 11 = .ok (.if_icmp .gt 7, 3) := by decide +kernel
theorem dX6_fitsInto_14 : decode cX6_fitsInto 14 = .ok (.iconst 1, 1) := by decide +kernel
theorem dX6_fitsInto_15 : decode cX6_fitsInto 15 = .ok (.goto 4, 3) := by decide +kernel
theorem dX6_fitsInto_18 : decode cX6_fitsInto 18 = .ok (.iconst 0, 1) := by decide +kernel
theorem dX6_fitsInto_19 : decode cX6_fitsInto 19 = .ok (.ireturn, 1) := by decide +kernel
def f_X6_fitsInto (x1 : Int32) (x2 : Int32) (σ : St) : Option Int32 :=
  bd (f_X6_wideOf x1 σ) fun r_1 =>
  gd (ck x2 4) <|
  if (σ.1 6 x2.toNatClampNeg) < r_1 then (some (0 : Int32))
  else some (1 : Int32)
abbrev rmX6_fitsInto : Room := { frames := 1, cells := 0, slots := 0, locals := 21 }
set_option maxRecDepth 100000 in
set_option maxHeartbeats 4000000 in
theorem c_X6_fitsInto (l : Launch) (D : va_G) (a : Nat → Nat) (c : Nat → ClassId) (A : Nat → Prop) (hD : ∀ σ, va_D A (mW a c σ)) (x1 : Int32) (x2 : Int32) (σ : St) (r : Int32) (hf : f_X6_fitsInto x1 x2 σ = some r) : MetI l yX6_fitsInto cX6_fitsInto 3 (some .boolean) rmX6_fitsInto (mW a c) D c A [.ref (a 0), .int x1, .int x2] σ r σ := by
  refine mkI (by decide) (Nat.le_of_ble_eq_true rfl) rfl ?_
  intro p e s m args below meth cd Q ls h0 hK hP hret hl
  obtain ⟨S, hr, hlk⟩ := h0
  obtain ⟨hx, hb, hml, hown, ht⟩ := id S
  have hS : va_S A s.heap s.heap [] := va_S.rf
  have hl : lv_has ls 3 [(0, .ref (a 0)), (1, .int x1), (2, .int x2)] := hl
  have hf := obs hf
  have hf := oun (f_X6_fitsInto.eq_1 _ _ _) hf
  refine lv_aload_n hx hb dX6_fitsInto_0 rfl (lv_at hl 0 rfl) ?_
  refine lv_iload_n hx hb dX6_fitsInto_1 rfl (lv_at hl 1 rfl) ?_
  obtain ⟨r_1, h_2, hf⟩ := obd hf
  refine xv_I (As := [.int x1]) (rest := []) S k_X6_wideOf q230 q231 q232 ⟨Nat.le_of_ble_eq_true rfl, Nat.le_of_ble_eq_true rfl⟩ ⟨rfl, rfl⟩ (c_X6_wideOf l D a c A hD x1 σ r_1 h_2) hK hP hS (va_recv hK.1 hP (rfl : vwCl[4]? = some (RX6, TX6, 27)) (mw0 a c σ)) rfl hl.1 rfl (Nat.le_of_ble_eq_true rfl) dX6_fitsInto_2 ⟨Nat.zero_le _, Nat.zero_le _⟩ (fun H locs hP hS => ?_)
  refine lv_aload_n hx hb dX6_fitsInto_5 rfl (lv_at hl 0 rfl) ?_
  refine va_get (D := D) (ci := 4) (v := .ref (a 6)) (C := RX6) (T := TX6) (N := 27) hx hb ht gX6 hown hK.1 hP 0 (mw0 a c σ) rfl 9 (by decide) (ht _ q55) (fun _ h9 => h9) rfl dX6_fitsInto_6 ?_
  refine lv_iload_n hx hb dX6_fitsInto_9 rfl (lv_at hl 2 rfl) ?_
  obtain ⟨g_3, hf⟩ := ogd hf
  refine va_iald hx hb hK.1 hP 6 0 (mw6 a c σ) rfl (ck_in g_3) dX6_fitsInto_10 ?_
  refine lv_icmp_gt (tgt := 18) hx hb dX6_fitsInto_11 (by decide) (fun c_4 => ?_) (fun c_4 => ?_)
  · have hf := oit c_4 hf
    refine lv_iconst (v := (0 : Int32)) hx hb dX6_fitsInto_18 (by decide) ?_
    exact hret _ _ _ _ _ _ dX6_fitsInto_19 (by decide) hP hS ⟨Option.some.inj hf, rfl⟩
  have hf := oif c_4 hf
  refine lv_iconst (v := (1 : Int32)) hx hb dX6_fitsInto_14 (by decide) ?_
  refine lv_goto (tgt := 19) hx hb dX6_fitsInto_15 (by decide) ?_
  exact hret _ _ _ _ _ _ dX6_fitsInto_19 (by decide) hP hS ⟨Option.some.inj hf, rfl⟩
theorem dX6_fits_0 : decode cX6_fits 0 = .ok (.aload_n 0, 1) := by decide +kernel
theorem dX6_fits_1 : decode cX6_fits 1 = .ok (.iload_n 1, 1) := by decide +kernel
theorem dX6_fits_2 : decode cX6_fits 2 = .ok (.iload_n 2, 1) := by decide +kernel
theorem dX6_fits_3 : decode cX6_fits 3 = .ok (.invokevirtual 140, 3) := by decide +kernel
theorem dX6_fits_6 : decode cX6_fits 6 = .ok (.ifCond .eq 20, 3) := by decide +kernel
theorem dX6_fits_9 : decode cX6_fits 9 = .ok (.aload_n 0, 1) := by decide +kernel
theorem dX6_fits_10 : decode cX6_fits 10 = .ok (.iload_n 1, 1) := by decide +kernel
theorem dX6_fits_11 : decode cX6_fits 11 = .ok (.iload_n 2, 1) := by decide +kernel
theorem dX6_fits_12 : decode cX6_fits 12 = .ok (.invokevirtual 143, 3) := by decide +kernel
theorem dX6_fits_15 : decode cX6_fits 15 = .ok (.ifCond .eq 7, 3) := by decide +kernel
theorem dX6_fits_18 : decode cX6_fits 18 = .ok (.iconst 1, 1) := by decide +kernel
theorem dX6_fits_19 : decode cX6_fits 19 = .ok (.goto 8, 3) := by decide +kernel
theorem dX6_fits_22 : decode cX6_fits 22 = .ok (.iconst 0, 1) := by decide +kernel
theorem dX6_fits_23 : decode cX6_fits 23 = .ok (.goto 4, 3) := by decide +kernel
theorem dX6_fits_26 : decode cX6_fits 26 = .ok (.iconst (-1), 1) := by decide +kernel
theorem dX6_fits_27 : decode cX6_fits 27 = .ok (.ireturn, 1) := by decide +kernel
def f_X6_fits (x1 : Int32) (x2 : Int32) (σ : St) : Option Int32 :=
  bd (f_X6_areTwo x1 x2 σ) fun r_1 =>
  if r_1 = 0 then (some (-1 : Int32))
  else bd (f_X6_fitsInto x1 x2 σ) fun r_4 =>
  if r_4 = 0 then (some (0 : Int32))
  else some (1 : Int32)
abbrev rmX6_fits : Room := { frames := 2, cells := 0, slots := 0, locals := 43 }
set_option maxRecDepth 100000 in
set_option maxHeartbeats 4000000 in
theorem c_X6_fits (l : Launch) (D : va_G) (a : Nat → Nat) (c : Nat → ClassId) (A : Nat → Prop) (hD : ∀ σ, va_D A (mW a c σ)) (x1 : Int32) (x2 : Int32) (σ : St) (r : Int32) (hf : f_X6_fits x1 x2 σ = some r) : MetI l yX6_fits cX6_fits 3 (some .int) rmX6_fits (mW a c) D c A [.ref (a 0), .int x1, .int x2] σ r σ := by
  refine mkI (by decide) (Nat.le_of_ble_eq_true rfl) rfl ?_
  intro p e s m args below meth cd Q ls h0 hK hP hret hl
  obtain ⟨S, hr, hlk⟩ := h0
  obtain ⟨hx, hb, hml, hown, ht⟩ := id S
  have hS : va_S A s.heap s.heap [] := va_S.rf
  have hl : lv_has ls 3 [(0, .ref (a 0)), (1, .int x1), (2, .int x2)] := hl
  have hf := obs hf
  have hf := oun (f_X6_fits.eq_1 _ _ _) hf
  refine lv_aload_n hx hb dX6_fits_0 rfl (lv_at hl 0 rfl) ?_
  refine lv_iload_n hx hb dX6_fits_1 rfl (lv_at hl 1 rfl) ?_
  refine lv_iload_n hx hb dX6_fits_2 rfl (lv_at hl 2 rfl) ?_
  obtain ⟨r_1, h_2, hf⟩ := obd hf
  refine xv_I (As := [.int x1, .int x2]) (rest := []) S k_X6_areTwo q283 q284 q285 ⟨Nat.le_of_ble_eq_true rfl, Nat.le_of_ble_eq_true rfl⟩ ⟨rfl, rfl⟩ (c_X6_areTwo l D a c A hD x1 x2 σ r_1 h_2) hK hP hS (va_recv hK.1 hP (rfl : vwCl[4]? = some (RX6, TX6, 27)) (mw0 a c σ)) rfl hl.1 rfl (Nat.le_of_ble_eq_true rfl) dX6_fits_3 ⟨Nat.zero_le _, Nat.zero_le _⟩ (fun H locs hP hS => ?_)
  refine lv_if_eq (tgt := 26) hx hb dX6_fits_6 (by decide) (fun c_3 => ?_) (fun c_3 => ?_)
  · have hf := oit c_3 hf
    refine lv_iconst (v := (-1 : Int32)) hx hb dX6_fits_26 (by decide) ?_
    exact hret _ _ _ _ _ _ dX6_fits_27 rfl hP hS ⟨Option.some.inj hf, rfl⟩
  have hf := oif c_3 hf
  refine lv_aload_n hx hb dX6_fits_9 rfl (lv_at hl 0 rfl) ?_
  refine lv_iload_n hx hb dX6_fits_10 rfl (lv_at hl 1 rfl) ?_
  refine lv_iload_n hx hb dX6_fits_11 rfl (lv_at hl 2 rfl) ?_
  obtain ⟨r_4, h_5, hf⟩ := obd hf
  refine xv_I (As := [.int x1, .int x2]) (rest := []) S k_X6_fitsInto q287 q288 q289 ⟨Nat.le_of_ble_eq_true rfl, Nat.le_of_ble_eq_true rfl⟩ ⟨rfl, rfl⟩ (c_X6_fitsInto l D a c A hD x1 x2 σ r_4 h_5) hK hP hS (va_recv hK.1 hP (rfl : vwCl[4]? = some (RX6, TX6, 27)) (mw0 a c σ)) rfl hl.1 rfl (Nat.le_of_ble_eq_true rfl) dX6_fits_12 ⟨Nat.zero_le _, Nat.zero_le _⟩ (fun H locs hP hS => ?_)
  refine lv_if_eq (tgt := 22) hx hb dX6_fits_15 (by decide) (fun c_6 => ?_) (fun c_6 => ?_)
  · have hf := oit c_6 hf
    refine lv_iconst (v := (0 : Int32)) hx hb dX6_fits_22 (by decide) ?_
    refine lv_goto (tgt := 27) hx hb dX6_fits_23 (by decide) ?_
    exact hret _ _ _ _ _ _ dX6_fits_27 rfl hP hS ⟨Option.some.inj hf, rfl⟩
  have hf := oif c_6 hf
  refine lv_iconst (v := (1 : Int32)) hx hb dX6_fits_18 (by decide) ?_
  refine lv_goto (tgt := 27) hx hb dX6_fits_19 (by decide) ?_
  exact hret _ _ _ _ _ _ dX6_fits_27 rfl hP hS ⟨Option.some.inj hf, rfl⟩
theorem dX6_canDo_0 : decode cX6_canDo 0 = .ok (.iload_n 1, 1) := by decide +kernel
theorem dX6_canDo_1 : decode cX6_canDo 1 = .ok (.bipush 12, 2) := by decide +kernel
theorem dX6_canDo_3 : decode cX6_canDo 3 = .ok (.if_icmp .lt 90, 3) := by decide +kernel
theorem dX6_canDo_6 : decode cX6_canDo 6 = .ok (.iload_n 1, 1) := by decide +kernel
theorem dX6_canDo_7 : decode cX6_canDo 7 = .ok (.bipush 12, 2) := by decide +kernel
theorem dX6_canDo_9 : decode cX6_canDo 9 = .ok (.isub, 1) := by decide +kernel
theorem dX6_canDo_10 : decode cX6_canDo 10 = .ok (.iconst 4, 1) := by decide +kernel
theorem dX6_canDo_11 : decode cX6_canDo 11 = .ok (.idiv, 1) := by decide +kernel
theorem dX6_canDo_12 : decode cX6_canDo 12 = .ok (.istore_n 2, 1) := by decide +kernel
theorem dX6_canDo_13 : decode cX6_canDo 13 = .ok (.iload_n 1, 1) := by decide +kernel
theorem dX6_canDo_14 : decode cX6_canDo 14 = .ok (.bipush 12, 2) := by decide +kernel
theorem dX6_canDo_16 : decode cX6_canDo 16 = .ok (.isub, 1) := by decide +kernel
theorem dX6_canDo_17 : decode cX6_canDo 17 = .ok (.iconst 4, 1) := by decide +kernel
theorem dX6_canDo_18 : decode cX6_canDo 18 = .ok (.irem, 1) := by decide +kernel
theorem dX6_canDo_19 : decode cX6_canDo 19 = .ok (.istore_n 3, 1) := by decide +kernel
theorem dX6_canDo_20 : decode cX6_canDo 20 = .ok (.aload_n 0, 1) := by decide +kernel
theorem dX6_canDo_21 : decode cX6_canDo 21 = .ok (.iload_n 2, 1) := by decide +kernel
theorem dX6_canDo_22 : decode cX6_canDo 22 = .ok (.iload_n 3, 1) := by decide +kernel
theorem dX6_canDo_23 : decode cX6_canDo 23 = .ok (.invokevirtual 140, 3) := by decide +kernel
theorem dX6_canDo_26 : decode cX6_canDo 26 = .ok (.ifCond .eq 65, 3) := by decide +kernel
theorem dX6_canDo_29 : decode cX6_canDo 29 = .ok (.aload_n 0, 1) := by decide +kernel
theorem dX6_canDo_30 : decode cX6_canDo 30 = .ok (.getfield 28, 3) := by decide +kernel
theorem dX6_canDo_33 : decode cX6_canDo 33 = .ok (.iload_n 2, 1) := by decide +kernel
theorem dX6_canDo_34 : decode cX6_canDo 34 = .ok (.iaload, 1) := by decide +kernel
theorem dX6_canDo_35 : decode cX6_canDo 35 = .ok (.ifCond .ne 56, 3) := by decide +kernel
theorem dX6_canDo_38 : decode cX6_canDo 38 = .ok (.aload_n 0, 1) := by decide +kernel
theorem dX6_canDo_39 : decode cX6_canDo 39 = .ok (.getfield 105, 3) := by decide +kernel
theorem dX6_canDo_42 : decode cX6_canDo 42 = .ok (.iload_n 2, 1) := by decide +kernel
theorem dX6_canDo_43 : decode cX6_canDo 43 = .ok (.invokestatic 128, 3) := by decide +kernel
theorem dX6_canDo_46 : decode cX6_canDo 46 = .ok (.ifCond .ne 45, 3) := by decide +kernel
theorem dX6_canDo_49 : decode cX6_canDo 49 = .ok (.aload_n 0, 1) := by decide +kernel
theorem dX6_canDo_50 : decode cX6_canDo 50 = .ok (.iload_n 2, 1) := by decide +kernel
theorem dX6_canDo_51 : decode cX6_canDo 51 = .ok (.iload_n 3, 1) := by decide +kernel
theorem dX6_canDo_52 : decode cX6_canDo 52 = .ok (.invokevirtual 143, 3) := by decide +kernel
theorem dX6_canDo_55 : decode cX6_canDo 55 = .ok (.ifCond .eq 36, 3) := by decide +kernel
theorem dX6_canDo_58 : decode cX6_canDo 58 = .ok (.aload_n 0, 1) := by decide +kernel
theorem dX6_canDo_59 : decode cX6_canDo 59 = .ok (.iload_n 3, 1) := by decide +kernel
theorem dX6_canDo_60 : decode cX6_canDo 60 = .ok (.invokevirtual 134, 3) := by decide +kernel
theorem dX6_canDo_63 : decode cX6_canDo 63 = .ok (.ifCond .eq 28, 3) := by decide +kernel
theorem dX6_canDo_66 : decode cX6_canDo 66 = .ok (.aload_n 0, 1) := by decide +kernel
theorem dX6_canDo_67 : decode cX6_canDo 67 = .ok (.getfield 105, 3) := by decide +kernel
theorem dX6_canDo_70 : decode cX6_canDo 70 = .ok (.iload_n 3, 1) := by decide +kernel
theorem dX6_canDo_71 : decode cX6_canDo 71 = .ok (.invokestatic 128, 3) := by decide +kernel
theorem dX6_canDo_74 : decode cX6_canDo 74 = .ok (.ifCond .eq 17, 3) := by decide +kernel
theorem dX6_canDo_77 : decode cX6_canDo 77 = .ok (.aload_n 0, 1) := by decide +kernel
theorem dX6_canDo_78 : decode cX6_canDo 78 = .ok (.iload_n 3, 1) := by decide +kernel
theorem dX6_canDo_79 : decode cX6_canDo 79 = .ok (.invokevirtual 131, 3) := by decide +kernel
theorem dX6_canDo_82 : decode cX6_canDo 82 = .ok (.bipush (-9), 2) := by decide +kernel
theorem dX6_canDo_84 : decode cX6_canDo 84 = .ok (.if_icmp .ne 7, 3) := by decide +kernel
theorem dX6_canDo_87 : decode cX6_canDo 87 = .ok (.iconst 1, 1) := by decide +kernel
theorem dX6_canDo_88 : decode cX6_canDo 88 = .ok (.goto 4, 3) := by decide +kernel
theorem dX6_canDo_91 : decode cX6_canDo 91 = .ok (.iconst 0, 1) := by decide +kernel
theorem dX6_canDo_92 : decode cX6_canDo 92 = .ok (.ireturn, 1) := by decide +kernel
theorem dX6_canDo_93 : decode cX6_canDo 93 = .ok (.iload_n 1, 1) := by decide +kernel
theorem dX6_canDo_94 : decode cX6_canDo 94 = .ok (.iconst 4, 1) := by decide +kernel
theorem dX6_canDo_95 : decode cX6_canDo 95 = .ok (.irem, 1) := by decide +kernel
theorem dX6_canDo_96 : decode cX6_canDo 96 = .ok (.istore_n 2, 1) := by decide +kernel
theorem dX6_canDo_97 : decode cX6_canDo 97 = .ok (.aload_n 0, 1) := by decide +kernel
theorem dX6_canDo_98 : decode cX6_canDo 98 = .ok (.iload_n 2, 1) := by decide +kernel
theorem dX6_canDo_99 : decode cX6_canDo 99 = .ok (.invokevirtual 78, 3) := by decide +kernel
theorem dX6_canDo_102 : decode cX6_canDo 102 = .ok (.ifCond .eq 11, 3) := by decide +kernel
theorem dX6_canDo_105 : decode cX6_canDo 105 = .ok (.aload_n 0, 1) := by decide +kernel
theorem dX6_canDo_106 : decode cX6_canDo 106 = .ok (.iload_n 2, 1) := by decide +kernel
theorem dX6_canDo_107 : decode cX6_canDo 107 = .ok (.invokevirtual 134, 3) := by decide +kernel
theorem dX6_canDo_110 : decode cX6_canDo 110 = .ok (.ifCond .ne 5, 3) := by decide +kernel
theorem dX6_canDo_113 : decode cX6_canDo 113 = .ok (.iconst 0, 1) := by decide +kernel
theorem dX6_canDo_114 : decode cX6_canDo 114 = .ok (.ireturn, 1) := by decide +kernel
theorem dX6_canDo_115 : decode cX6_canDo 115 = .ok (.iload_n 1, 1) := by decide +kernel
theorem dX6_canDo_116 : decode cX6_canDo 116 = .ok (.iconst 4, 1) := by decide +kernel
theorem dX6_canDo_117 : decode cX6_canDo 117 = .ok (.if_icmp .ge 20, 3) := by decide +kernel
theorem dX6_canDo_120 : decode cX6_canDo 120 = .ok (.aload_n 0, 1) := by decide +kernel
theorem dX6_canDo_121 : decode cX6_canDo 121 = .ok (.getfield 105, 3) := by decide +kernel
theorem dX6_canDo_124 : decode cX6_canDo 124 = .ok (.iload_n 2, 1) := by decide +kernel
theorem dX6_canDo_125 : decode cX6_canDo 125 = .ok (.invokestatic 128, 3) := by decide +kernel
theorem dX6_canDo_128 : decode cX6_canDo 128 = .ok (.ifCond .ne 7, 3) := by decide +kernel
theorem dX6_canDo_131 : decode cX6_canDo 131 = .ok (.iconst 1, 1) := by decide +kernel
theorem dX6_canDo_132 : decode cX6_canDo 132 = .ok (.goto 4, 3) := by decide +kernel
theorem dX6_canDo_135 : decode cX6_canDo 135 = .ok (.iconst 0, 1) := by decide +kernel
theorem dX6_canDo_136 : decode cX6_canDo 136 = .ok (.ireturn, 1) := by decide +kernel
theorem dX6_canDo_137 : decode cX6_canDo 137 = .ok (.iload_n 1, 1) := by decide +kernel
theorem dX6_canDo_138 : decode cX6_canDo 138 = .ok (.bipush 8, 2) := by decide +kernel
theorem dX6_canDo_140 : decode cX6_canDo 140 = .ok (.if_icmp .lt 18, 3) := by decide +kernel
theorem dX6_canDo_143 : decode cX6_canDo 143 = .ok (.aload_n 0, 1) := by decide +kernel
theorem dX6_canDo_144 : decode cX6_canDo 144 = .ok (.getfield 28, 3) := by decide +kernel
theorem dX6_canDo_147 : decode cX6_canDo 147 = .ok (.iload_n 2, 1) := by decide +kernel
theorem dX6_canDo_148 : decode cX6_canDo 148 = .ok (.iaload, 1) := by decide +kernel
theorem dX6_canDo_149 : decode cX6_canDo 149 = .ok (.ifCond .eq 7, 3) := by decide +kernel
theorem dX6_canDo_152 : decode cX6_canDo 152 = .ok (.iconst 1, 1) := by decide +kernel
theorem dX6_canDo_153 : decode cX6_canDo 153 = .ok (.goto 4, 3) := by decide +kernel
theorem dX6_canDo_156 : decode cX6_canDo 156 = .ok (.iconst 0, 1) := by decide +kernel
theorem dX6_canDo_157 : decode cX6_canDo 157 = .ok (.ireturn, 1) := by decide +kernel
theorem dX6_canDo_158 : decode cX6_canDo 158 = .ok (.aload_n 0, 1) := by decide +kernel
theorem dX6_canDo_159 : decode cX6_canDo 159 = .ok (.getfield 105, 3) := by decide +kernel
theorem dX6_canDo_162 : decode cX6_canDo 162 = .ok (.iload_n 2, 1) := by decide +kernel
theorem dX6_canDo_163 : decode cX6_canDo 163 = .ok (.invokestatic 128, 3) := by decide +kernel
theorem dX6_canDo_166 : decode cX6_canDo 166 = .ok (.ifCond .eq 32, 3) := by decide +kernel
theorem dX6_canDo_169 : decode cX6_canDo 169 = .ok (.aload_n 0, 1) := by decide +kernel
theorem dX6_canDo_170 : decode cX6_canDo 170 = .ok (.iload_n 2, 1) := by decide +kernel
theorem dX6_canDo_171 : decode cX6_canDo 171 = .ok (.invokevirtual 131, 3) := by decide +kernel
theorem dX6_canDo_174 : decode cX6_canDo 174 = .ok (.bipush (-9), 2) := by decide +kernel
theorem dX6_canDo_176 : decode cX6_canDo 176 = .ok (.if_icmp .eq 18, 3) := by decide +kernel
theorem dX6_canDo_179 : decode cX6_canDo 179 = .ok (.aload_n 0, 1) := by decide +kernel
theorem dX6_canDo_180 : decode cX6_canDo 180 = .ok (.getfield 105, 3) := by decide +kernel
theorem dX6_canDo_183 : decode cX6_canDo 183 = .ok (.aload_n 0, 1) := by decide +kernel
theorem dX6_canDo_184 : decode cX6_canDo 184 = .ok (.iload_n 2, 1) := by decide +kernel
theorem dX6_canDo_185 : decode cX6_canDo 185 = .ok (.invokevirtual 131, 3) := by decide +kernel
theorem dX6_canDo_188 : decode cX6_canDo 188 = .ok (.invokestatic 128, 3) := by decide +kernel
theorem dX6_canDo_191 : decode cX6_canDo 191 = .ok (.ifCond .ne 7, 3) := by decide +kernel
theorem dX6_canDo_194 : decode cX6_canDo 194 = .ok (.iconst 1, 1) := by decide +kernel
theorem dX6_canDo_195 : decode cX6_canDo 195 = .ok (.goto 4, 3) := by decide +kernel
theorem dX6_canDo_198 : decode cX6_canDo 198 = .ok (.iconst 0, 1) := by decide +kernel
theorem dX6_canDo_199 : decode cX6_canDo 199 = .ok (.ireturn, 1) := by decide +kernel
def f_X6_canDo_j194 (N : Nat) (σ : St) : Option Int32 :=
  some (1 : Int32)
def f_X6_canDo (N : Nat) (x1 : Int32) (σ : St) : Option Int32 :=
  if x1 < (12 : Int32) then (nm (x1 - x1 / (4 : Int32) * (4 : Int32)) fun x2_2 =>
    bd (f_X6_isDoll x2_2 σ) fun r_3 =>
    if r_3 = 0 then (some (0 : Int32))
    else bd (f_X6_isAtHand N x2_2 σ) fun r_6 =>
    if r_6 = 0 then (some (0 : Int32))
    else if (4 : Int32) ≤ x1 then (if x1 < (8 : Int32) then (bd (f_X6_isOf (σ.1 0 4) x2_2) fun r_11 =>
          if r_11 = 0 then (some (0 : Int32))
          else bd (f_X6_inOf N x2_2 σ) fun r_14 =>
          if r_14 = (-9 : Int32) then (f_X6_canDo_j194 N σ)
          else bd (f_X6_inOf N x2_2 σ) fun r_17 =>
          bd (f_X6_isOf (σ.1 0 4) r_17) fun r_19 =>
          if r_19 = 0 then (f_X6_canDo_j194 N σ)
          else some (0 : Int32))
        else gd (ck x2_2 4) <|
        if (σ.1 7 x2_2.toNatClampNeg) = 0 then (some (0 : Int32))
        else some (1 : Int32))
      else bd (f_X6_isOf (σ.1 0 4) x2_2) fun r_24 =>
      if r_24 = 0 then (some (1 : Int32))
      else some (0 : Int32))
  else nm ((x1 - (12 : Int32)) / (4 : Int32)) fun x2_27 =>
  nm ((x1 - (12 : Int32)) - (x1 - (12 : Int32)) / (4 : Int32) * (4 : Int32)) fun x3_28 =>
  bd (f_X6_areTwo x2_27 x3_28 σ) fun r_29 =>
  if r_29 = 0 then (some (0 : Int32))
  else gd (ck x2_27 4) <|
  if (σ.1 7 x2_27.toNatClampNeg) = 0 then (bd (f_X6_isOf (σ.1 0 4) x2_27) fun r_34 =>
    if r_34 = 0 then (bd (f_X6_fitsInto x2_27 x3_28 σ) fun r_37 =>
      if r_37 = 0 then (some (0 : Int32))
      else bd (f_X6_isAtHand N x3_28 σ) fun r_40 =>
      if r_40 = 0 then (some (0 : Int32))
      else bd (f_X6_isOf (σ.1 0 4) x3_28) fun r_43 =>
      if r_43 = 0 then (some (0 : Int32))
      else bd (f_X6_inOf N x3_28 σ) fun r_46 =>
      if r_46 = (-9 : Int32) then (some (1 : Int32))
      else some (0 : Int32))
    else some (0 : Int32))
  else some (0 : Int32)
abbrev rmX6_canDo : Room := { frames := 2, cells := 0, slots := 0, locals := 44 }
set_option maxRecDepth 100000 in
set_option maxHeartbeats 4000000 in
theorem c_X6_canDo (l : Launch) (D : va_G) (a : Nat → Nat) (c : Nat → ClassId) (A : Nat → Prop) (hD : ∀ σ, va_D A (mW a c σ)) (N : Nat) (x1 : Int32) (σ : St) (r : Int32) (hf : f_X6_canDo N x1 σ = some r) : MetI l yX6_canDo cX6_canDo 4 (some .boolean) rmX6_canDo (mW a c) D c A [.ref (a 0), .int x1] σ r σ := by
  refine mkI (by decide) (Nat.le_of_ble_eq_true rfl) rfl ?_
  intro p e s m args below meth cd Q ls h0 hK hP hret hl
  obtain ⟨S, hr, hlk⟩ := h0
  obtain ⟨hx, hb, hml, hown, ht⟩ := id S
  have hS : va_S A s.heap s.heap [] := va_S.rf
  have hl : lv_has ls 4 [(0, .ref (a 0)), (1, .int x1)] := hl
  have hf := obs hf
  have j194 : ∀ (H : Heap) (locs : List Loc) (ls : Array Slot), lv_has ls 4 [] → va_P D vwCl (mW a c σ) H → va_S A s.heap H locs → Option.bind (f_X6_canDo_j194 N σ) some = some r → W p l e rmX6_canDo s m args below meth cd H locs 0 0 Q (F0 m 194 ls []) := by
    intro H locs ls hl hP hS hf
    have hf := oun (f_X6_canDo_j194.eq_1 _ _) hf
    refine lv_iconst (v := (1 : Int32)) hx hb dX6_canDo_194 (by decide) ?_
    refine lv_goto (tgt := 199) hx hb dX6_canDo_195 (by decide) ?_
    exact hret _ _ _ _ _ _ dX6_canDo_199 (by decide) hP hS ⟨Option.some.inj hf, rfl⟩
  have hf := oun (f_X6_canDo.eq_1 _ _ _) hf
  refine lv_iload_n hx hb dX6_canDo_0 rfl (lv_at hl 1 rfl) ?_
  refine lv_bipush (v := (12 : Int32)) hx hb dX6_canDo_1 (by decide) ?_
  refine lv_icmp_lt (tgt := 93) hx hb dX6_canDo_3 (by decide) (fun c_1 => ?_) (fun c_1 => ?_)
  · have hf := oit c_1 hf
    refine lv_iload_n hx hb dX6_canDo_93 rfl (lv_at hl 1 rfl) ?_
    refine lv_iconst (v := (4 : Int32)) hx hb dX6_canDo_94 (by decide) ?_
    refine lv_irem hx hb dX6_canDo_95 (by decide) ?_
    obtain ⟨x2_2, ex2_2, hf⟩ := onm hf
    refine lv_nm ex2_2 ?_
    refine lv_istore_n (lv' := [(2, .int x2_2), (0, .ref (a 0)), (1, .int x1)]) hx hb dX6_canDo_96 rfl hl (by decide) rfl (fun ls hl => ?_)
    refine lv_aload_n hx hb dX6_canDo_97 rfl (lv_at hl 1 rfl) ?_
    refine lv_iload_n hx hb dX6_canDo_98 rfl (lv_at hl 0 rfl) ?_
    obtain ⟨r_3, h_4, hf⟩ := obd hf
    refine xv_I (As := [.int x2_2]) (rest := []) S k_X6_isDoll q226 q227 q228 ⟨Nat.le_of_ble_eq_true rfl, Nat.le_of_ble_eq_true rfl⟩ ⟨rfl, rfl⟩ (c_X6_isDoll l D a c A hD x2_2 σ r_3 h_4) hK hP hS (va_recv hK.1 hP (rfl : vwCl[4]? = some (RX6, TX6, 27)) (mw0 a c σ)) rfl hl.1 rfl (Nat.le_of_ble_eq_true rfl) dX6_canDo_99 ⟨Nat.zero_le _, Nat.zero_le _⟩ (fun H locs hP hS => ?_)
    refine lv_if_eq (tgt := 113) hx hb dX6_canDo_102 (by decide) (fun c_5 => ?_) (fun c_5 => ?_)
    · have hf := oit c_5 hf
      refine lv_iconst (v := (0 : Int32)) hx hb dX6_canDo_113 (by decide) ?_
      exact hret _ _ _ _ _ _ dX6_canDo_114 (by decide) hP hS ⟨Option.some.inj hf, rfl⟩
    have hf := oif c_5 hf
    refine lv_aload_n hx hb dX6_canDo_105 rfl (lv_at hl 1 rfl) ?_
    refine lv_iload_n hx hb dX6_canDo_106 rfl (lv_at hl 0 rfl) ?_
    obtain ⟨r_6, h_7, hf⟩ := obd hf
    refine xv_I (As := [.int x2_2]) (rest := []) S k_X6_isAtHand q234 q235 q236 ⟨Nat.le_of_ble_eq_true rfl, Nat.le_of_ble_eq_true rfl⟩ ⟨rfl, rfl⟩ (c_X6_isAtHand l D a c A hD N x2_2 σ r_6 h_7) hK hP hS (va_recv hK.1 hP (rfl : vwCl[4]? = some (RX6, TX6, 27)) (mw0 a c σ)) rfl hl.1 rfl (Nat.le_of_ble_eq_true rfl) dX6_canDo_107 ⟨Nat.zero_le _, Nat.zero_le _⟩ (fun H locs hP hS => ?_)
    refine lv_if_ne (tgt := 115) hx hb dX6_canDo_110 (by decide) (fun c_8 => ?_) (fun c_8 => ?_)
    · have hf := oif c_8 hf
      refine lv_iload_n hx hb dX6_canDo_115 rfl (lv_at hl 2 rfl) ?_
      refine lv_iconst (v := (4 : Int32)) hx hb dX6_canDo_116 (by decide) ?_
      refine lv_icmp_ge (tgt := 137) hx hb dX6_canDo_117 (by decide) (fun c_9 => ?_) (fun c_9 => ?_)
      · have hf := oit c_9 hf
        refine lv_iload_n hx hb dX6_canDo_137 rfl (lv_at hl 2 rfl) ?_
        refine lv_bipush (v := (8 : Int32)) hx hb dX6_canDo_138 (by decide) ?_
        refine lv_icmp_lt (tgt := 158) hx hb dX6_canDo_140 (by decide) (fun c_10 => ?_) (fun c_10 => ?_)
        · have hf := oit c_10 hf
          refine lv_aload_n hx hb dX6_canDo_158 rfl (lv_at hl 1 rfl) ?_
          refine va_get (D := D) (ci := 4) (v := .int (σ.1 0 4)) (C := RX6) (T := TX6) (N := 27) hx hb ht gX6 hown hK.1 hP 0 (mw0 a c σ) rfl 11 (by decide) (ht _ q140) (fun _ h9 => h9) rfl dX6_canDo_159 ?_
          refine lv_iload_n hx hb dX6_canDo_162 rfl (lv_at hl 0 rfl) ?_
          obtain ⟨r_11, h_12, hf⟩ := obd hf
          refine xs_S (As := [.int (σ.1 0 4), .int x2_2]) (rest := []) S k_X6_isOf q238 q239 ⟨Nat.le_of_ble_eq_true rfl, Nat.le_of_ble_eq_true rfl⟩ ⟨rfl, rfl⟩ (c_X6_isOf l (σ.1 0 4) x2_2 r_11 h_12) hK.2 rfl hl.1 rfl (Nat.le_of_ble_eq_true rfl) dX6_canDo_163 ⟨Nat.zero_le _, Nat.zero_le _⟩ ?_
          refine lv_if_eq (tgt := 198) hx hb dX6_canDo_166 (by decide) (fun c_13 => ?_) (fun c_13 => ?_)
          · have hf := oit c_13 hf
            refine lv_iconst (v := (0 : Int32)) hx hb dX6_canDo_198 (by decide) ?_
            exact hret _ _ _ _ _ _ dX6_canDo_199 (by decide) hP hS ⟨Option.some.inj hf, rfl⟩
          have hf := oif c_13 hf
          refine lv_aload_n hx hb dX6_canDo_169 rfl (lv_at hl 1 rfl) ?_
          refine lv_iload_n hx hb dX6_canDo_170 rfl (lv_at hl 0 rfl) ?_
          obtain ⟨r_14, h_15, hf⟩ := obd hf
          refine xv_I (As := [.int x2_2]) (rest := []) S k_X6_inOf q241 q242 q243 ⟨Nat.le_of_ble_eq_true rfl, Nat.le_of_ble_eq_true rfl⟩ ⟨rfl, rfl⟩ (c_X6_inOf l D a c A hD N x2_2 σ r_14 h_15) hK hP hS (va_recv hK.1 hP (rfl : vwCl[4]? = some (RX6, TX6, 27)) (mw0 a c σ)) rfl hl.1 rfl (Nat.le_of_ble_eq_true rfl) dX6_canDo_171 ⟨Nat.zero_le _, Nat.zero_le _⟩ (fun H locs hP hS => ?_)
          refine lv_bipush (v := (-9 : Int32)) hx hb dX6_canDo_174 (by decide) ?_
          refine lv_icmp_eq (tgt := 194) hx hb dX6_canDo_176 (by decide) (fun c_16 => ?_) (fun c_16 => ?_)
          · have hf := oit c_16 hf
            exact j194 _ _ _ (lv_sub hl [] rfl) hP hS hf
          have hf := oif c_16 hf
          refine lv_aload_n hx hb dX6_canDo_179 rfl (lv_at hl 1 rfl) ?_
          refine va_get (D := D) (ci := 4) (v := .int (σ.1 0 4)) (C := RX6) (T := TX6) (N := 27) hx hb ht gX6 hown hK.1 hP 0 (mw0 a c σ) rfl 11 (by decide) (ht _ q140) (fun _ h9 => h9) rfl dX6_canDo_180 ?_
          refine lv_aload_n hx hb dX6_canDo_183 rfl (lv_at hl 1 rfl) ?_
          refine lv_iload_n hx hb dX6_canDo_184 rfl (lv_at hl 0 rfl) ?_
          obtain ⟨r_17, h_18, hf⟩ := obd hf
          refine xv_I (As := [.int x2_2]) (rest := [.int (σ.1 0 4)]) S k_X6_inOf q241 q242 q243 ⟨Nat.le_of_ble_eq_true rfl, Nat.le_of_ble_eq_true rfl⟩ ⟨rfl, rfl⟩ (c_X6_inOf l D a c A hD N x2_2 σ r_17 h_18) hK hP hS (va_recv hK.1 hP (rfl : vwCl[4]? = some (RX6, TX6, 27)) (mw0 a c σ)) rfl hl.1 rfl (Nat.le_of_ble_eq_true rfl) dX6_canDo_185 ⟨Nat.zero_le _, Nat.zero_le _⟩ (fun H locs hP hS => ?_)
          obtain ⟨r_19, h_20, hf⟩ := obd hf
          refine xs_S (As := [.int (σ.1 0 4), .int r_17]) (rest := []) S k_X6_isOf q238 q239 ⟨Nat.le_of_ble_eq_true rfl, Nat.le_of_ble_eq_true rfl⟩ ⟨rfl, rfl⟩ (c_X6_isOf l (σ.1 0 4) r_17 r_19 h_20) hK.2 rfl hl.1 rfl (Nat.le_of_ble_eq_true rfl) dX6_canDo_188 ⟨Nat.zero_le _, Nat.zero_le _⟩ ?_
          refine lv_if_ne (tgt := 198) hx hb dX6_canDo_191 (by decide) (fun c_21 => ?_) (fun c_21 => ?_)
          · have hf := oif c_21 hf
            refine lv_iconst (v := (0 : Int32)) hx hb dX6_canDo_198 (by decide) ?_
            exact hret _ _ _ _ _ _ dX6_canDo_199 (by decide) hP hS ⟨Option.some.inj hf, rfl⟩
          have hf := oit c_21 hf
          exact j194 _ _ _ (lv_sub hl [] rfl) hP hS hf
        have hf := oif c_10 hf
        refine lv_aload_n hx hb dX6_canDo_143 rfl (lv_at hl 1 rfl) ?_
        refine va_get (D := D) (ci := 4) (v := .ref (a 7)) (C := RX6) (T := TX6) (N := 27) hx hb ht gX6 hown hK.1 hP 0 (mw0 a c σ) rfl 10 (by decide) (ht _ q56) (fun _ h9 => h9) rfl dX6_canDo_144 ?_
        refine lv_iload_n hx hb dX6_canDo_147 rfl (lv_at hl 0 rfl) ?_
        obtain ⟨g_22, hf⟩ := ogd hf
        refine va_iald hx hb hK.1 hP 7 0 (mw7 a c σ) rfl (ck_in g_22) dX6_canDo_148 ?_
        refine lv_if_eq (tgt := 156) hx hb dX6_canDo_149 (by decide) (fun c_23 => ?_) (fun c_23 => ?_)
        · have hf := oit c_23 hf
          refine lv_iconst (v := (0 : Int32)) hx hb dX6_canDo_156 (by decide) ?_
          exact hret _ _ _ _ _ _ dX6_canDo_157 (by decide) hP hS ⟨Option.some.inj hf, rfl⟩
        have hf := oif c_23 hf
        refine lv_iconst (v := (1 : Int32)) hx hb dX6_canDo_152 (by decide) ?_
        refine lv_goto (tgt := 157) hx hb dX6_canDo_153 (by decide) ?_
        exact hret _ _ _ _ _ _ dX6_canDo_157 (by decide) hP hS ⟨Option.some.inj hf, rfl⟩
      have hf := oif c_9 hf
      refine lv_aload_n hx hb dX6_canDo_120 rfl (lv_at hl 1 rfl) ?_
      refine va_get (D := D) (ci := 4) (v := .int (σ.1 0 4)) (C := RX6) (T := TX6) (N := 27) hx hb ht gX6 hown hK.1 hP 0 (mw0 a c σ) rfl 11 (by decide) (ht _ q140) (fun _ h9 => h9) rfl dX6_canDo_121 ?_
      refine lv_iload_n hx hb dX6_canDo_124 rfl (lv_at hl 0 rfl) ?_
      obtain ⟨r_24, h_25, hf⟩ := obd hf
      refine xs_S (As := [.int (σ.1 0 4), .int x2_2]) (rest := []) S k_X6_isOf q238 q239 ⟨Nat.le_of_ble_eq_true rfl, Nat.le_of_ble_eq_true rfl⟩ ⟨rfl, rfl⟩ (c_X6_isOf l (σ.1 0 4) x2_2 r_24 h_25) hK.2 rfl hl.1 rfl (Nat.le_of_ble_eq_true rfl) dX6_canDo_125 ⟨Nat.zero_le _, Nat.zero_le _⟩ ?_
      refine lv_if_ne (tgt := 135) hx hb dX6_canDo_128 (by decide) (fun c_26 => ?_) (fun c_26 => ?_)
      · have hf := oif c_26 hf
        refine lv_iconst (v := (0 : Int32)) hx hb dX6_canDo_135 (by decide) ?_
        exact hret _ _ _ _ _ _ dX6_canDo_136 (by decide) hP hS ⟨Option.some.inj hf, rfl⟩
      have hf := oit c_26 hf
      refine lv_iconst (v := (1 : Int32)) hx hb dX6_canDo_131 (by decide) ?_
      refine lv_goto (tgt := 136) hx hb dX6_canDo_132 (by decide) ?_
      exact hret _ _ _ _ _ _ dX6_canDo_136 (by decide) hP hS ⟨Option.some.inj hf, rfl⟩
    have hf := oit c_8 hf
    refine lv_iconst (v := (0 : Int32)) hx hb dX6_canDo_113 (by decide) ?_
    exact hret _ _ _ _ _ _ dX6_canDo_114 (by decide) hP hS ⟨Option.some.inj hf, rfl⟩
  have hf := oif c_1 hf
  refine lv_iload_n hx hb dX6_canDo_6 rfl (lv_at hl 1 rfl) ?_
  refine lv_bipush (v := (12 : Int32)) hx hb dX6_canDo_7 (by decide) ?_
  refine lv_isub hx hb dX6_canDo_9 ?_
  refine lv_iconst (v := (4 : Int32)) hx hb dX6_canDo_10 (by decide) ?_
  refine lv_idiv hx hb dX6_canDo_11 (by decide) ?_
  obtain ⟨x2_27, ex2_27, hf⟩ := onm hf
  refine lv_nm ex2_27 ?_
  refine lv_istore_n (lv' := [(2, .int x2_27), (0, .ref (a 0)), (1, .int x1)]) hx hb dX6_canDo_12 rfl hl (by decide) rfl (fun ls hl => ?_)
  refine lv_iload_n hx hb dX6_canDo_13 rfl (lv_at hl 2 rfl) ?_
  refine lv_bipush (v := (12 : Int32)) hx hb dX6_canDo_14 (by decide) ?_
  refine lv_isub hx hb dX6_canDo_16 ?_
  refine lv_iconst (v := (4 : Int32)) hx hb dX6_canDo_17 (by decide) ?_
  refine lv_irem hx hb dX6_canDo_18 (by decide) ?_
  obtain ⟨x3_28, ex3_28, hf⟩ := onm hf
  refine lv_nm ex3_28 ?_
  refine lv_istore_n (lv' := [(3, .int x3_28), (2, .int x2_27), (0, .ref (a 0)), (1, .int x1)]) hx hb dX6_canDo_19 rfl hl (by decide) rfl (fun ls hl => ?_)
  refine lv_aload_n hx hb dX6_canDo_20 rfl (lv_at hl 2 rfl) ?_
  refine lv_iload_n hx hb dX6_canDo_21 rfl (lv_at hl 1 rfl) ?_
  refine lv_iload_n hx hb dX6_canDo_22 rfl (lv_at hl 0 rfl) ?_
  obtain ⟨r_29, h_30, hf⟩ := obd hf
  refine xv_I (As := [.int x2_27, .int x3_28]) (rest := []) S k_X6_areTwo q283 q284 q285 ⟨Nat.le_of_ble_eq_true rfl, Nat.le_of_ble_eq_true rfl⟩ ⟨rfl, rfl⟩ (c_X6_areTwo l D a c A hD x2_27 x3_28 σ r_29 h_30) hK hP hS (va_recv hK.1 hP (rfl : vwCl[4]? = some (RX6, TX6, 27)) (mw0 a c σ)) rfl hl.1 rfl (Nat.le_of_ble_eq_true rfl) dX6_canDo_23 ⟨Nat.zero_le _, Nat.zero_le _⟩ (fun H locs hP hS => ?_)
  refine lv_if_eq (tgt := 91) hx hb dX6_canDo_26 (by decide) (fun c_31 => ?_) (fun c_31 => ?_)
  · have hf := oit c_31 hf
    refine lv_iconst (v := (0 : Int32)) hx hb dX6_canDo_91 (by decide) ?_
    exact hret _ _ _ _ _ _ dX6_canDo_92 (by decide) hP hS ⟨Option.some.inj hf, rfl⟩
  have hf := oif c_31 hf
  refine lv_aload_n hx hb dX6_canDo_29 rfl (lv_at hl 2 rfl) ?_
  refine va_get (D := D) (ci := 4) (v := .ref (a 7)) (C := RX6) (T := TX6) (N := 27) hx hb ht gX6 hown hK.1 hP 0 (mw0 a c σ) rfl 10 (by decide) (ht _ q56) (fun _ h9 => h9) rfl dX6_canDo_30 ?_
  refine lv_iload_n hx hb dX6_canDo_33 rfl (lv_at hl 1 rfl) ?_
  obtain ⟨g_32, hf⟩ := ogd hf
  refine va_iald hx hb hK.1 hP 7 0 (mw7 a c σ) rfl (ck_in g_32) dX6_canDo_34 ?_
  refine lv_if_ne (tgt := 91) hx hb dX6_canDo_35 (by decide) (fun c_33 => ?_) (fun c_33 => ?_)
  · have hf := oif c_33 hf
    refine lv_iconst (v := (0 : Int32)) hx hb dX6_canDo_91 (by decide) ?_
    exact hret _ _ _ _ _ _ dX6_canDo_92 (by decide) hP hS ⟨Option.some.inj hf, rfl⟩
  have hf := oit c_33 hf
  refine lv_aload_n hx hb dX6_canDo_38 rfl (lv_at hl 2 rfl) ?_
  refine va_get (D := D) (ci := 4) (v := .int (σ.1 0 4)) (C := RX6) (T := TX6) (N := 27) hx hb ht gX6 hown hK.1 hP 0 (mw0 a c σ) rfl 11 (by decide) (ht _ q140) (fun _ h9 => h9) rfl dX6_canDo_39 ?_
  refine lv_iload_n hx hb dX6_canDo_42 rfl (lv_at hl 1 rfl) ?_
  obtain ⟨r_34, h_35, hf⟩ := obd hf
  refine xs_S (As := [.int (σ.1 0 4), .int x2_27]) (rest := []) S k_X6_isOf q238 q239 ⟨Nat.le_of_ble_eq_true rfl, Nat.le_of_ble_eq_true rfl⟩ ⟨rfl, rfl⟩ (c_X6_isOf l (σ.1 0 4) x2_27 r_34 h_35) hK.2 rfl hl.1 rfl (Nat.le_of_ble_eq_true rfl) dX6_canDo_43 ⟨Nat.zero_le _, Nat.zero_le _⟩ ?_
  refine lv_if_ne (tgt := 91) hx hb dX6_canDo_46 (by decide) (fun c_36 => ?_) (fun c_36 => ?_)
  · have hf := oif c_36 hf
    refine lv_iconst (v := (0 : Int32)) hx hb dX6_canDo_91 (by decide) ?_
    exact hret _ _ _ _ _ _ dX6_canDo_92 (by decide) hP hS ⟨Option.some.inj hf, rfl⟩
  have hf := oit c_36 hf
  refine lv_aload_n hx hb dX6_canDo_49 rfl (lv_at hl 2 rfl) ?_
  refine lv_iload_n hx hb dX6_canDo_50 rfl (lv_at hl 1 rfl) ?_
  refine lv_iload_n hx hb dX6_canDo_51 rfl (lv_at hl 0 rfl) ?_
  obtain ⟨r_37, h_38, hf⟩ := obd hf
  refine xv_I (As := [.int x2_27, .int x3_28]) (rest := []) S k_X6_fitsInto q287 q288 q289 ⟨Nat.le_of_ble_eq_true rfl, Nat.le_of_ble_eq_true rfl⟩ ⟨rfl, rfl⟩ (c_X6_fitsInto l D a c A hD x2_27 x3_28 σ r_37 h_38) hK hP hS (va_recv hK.1 hP (rfl : vwCl[4]? = some (RX6, TX6, 27)) (mw0 a c σ)) rfl hl.1 rfl (Nat.le_of_ble_eq_true rfl) dX6_canDo_52 ⟨Nat.zero_le _, Nat.zero_le _⟩ (fun H locs hP hS => ?_)
  refine lv_if_eq (tgt := 91) hx hb dX6_canDo_55 (by decide) (fun c_39 => ?_) (fun c_39 => ?_)
  · have hf := oit c_39 hf
    refine lv_iconst (v := (0 : Int32)) hx hb dX6_canDo_91 (by decide) ?_
    exact hret _ _ _ _ _ _ dX6_canDo_92 (by decide) hP hS ⟨Option.some.inj hf, rfl⟩
  have hf := oif c_39 hf
  refine lv_aload_n hx hb dX6_canDo_58 rfl (lv_at hl 2 rfl) ?_
  refine lv_iload_n hx hb dX6_canDo_59 rfl (lv_at hl 0 rfl) ?_
  obtain ⟨r_40, h_41, hf⟩ := obd hf
  refine xv_I (As := [.int x3_28]) (rest := []) S k_X6_isAtHand q234 q235 q236 ⟨Nat.le_of_ble_eq_true rfl, Nat.le_of_ble_eq_true rfl⟩ ⟨rfl, rfl⟩ (c_X6_isAtHand l D a c A hD N x3_28 σ r_40 h_41) hK hP hS (va_recv hK.1 hP (rfl : vwCl[4]? = some (RX6, TX6, 27)) (mw0 a c σ)) rfl hl.1 rfl (Nat.le_of_ble_eq_true rfl) dX6_canDo_60 ⟨Nat.zero_le _, Nat.zero_le _⟩ (fun H locs hP hS => ?_)
  refine lv_if_eq (tgt := 91) hx hb dX6_canDo_63 (by decide) (fun c_42 => ?_) (fun c_42 => ?_)
  · have hf := oit c_42 hf
    refine lv_iconst (v := (0 : Int32)) hx hb dX6_canDo_91 (by decide) ?_
    exact hret _ _ _ _ _ _ dX6_canDo_92 (by decide) hP hS ⟨Option.some.inj hf, rfl⟩
  have hf := oif c_42 hf
  refine lv_aload_n hx hb dX6_canDo_66 rfl (lv_at hl 2 rfl) ?_
  refine va_get (D := D) (ci := 4) (v := .int (σ.1 0 4)) (C := RX6) (T := TX6) (N := 27) hx hb ht gX6 hown hK.1 hP 0 (mw0 a c σ) rfl 11 (by decide) (ht _ q140) (fun _ h9 => h9) rfl dX6_canDo_67 ?_
  refine lv_iload_n hx hb dX6_canDo_70 rfl (lv_at hl 0 rfl) ?_
  obtain ⟨r_43, h_44, hf⟩ := obd hf
  refine xs_S (As := [.int (σ.1 0 4), .int x3_28]) (rest := []) S k_X6_isOf q238 q239 ⟨Nat.le_of_ble_eq_true rfl, Nat.le_of_ble_eq_true rfl⟩ ⟨rfl, rfl⟩ (c_X6_isOf l (σ.1 0 4) x3_28 r_43 h_44) hK.2 rfl hl.1 rfl (Nat.le_of_ble_eq_true rfl) dX6_canDo_71 ⟨Nat.zero_le _, Nat.zero_le _⟩ ?_
  refine lv_if_eq (tgt := 91) hx hb dX6_canDo_74 (by decide) (fun c_45 => ?_) (fun c_45 => ?_)
  · have hf := oit c_45 hf
    refine lv_iconst (v := (0 : Int32)) hx hb dX6_canDo_91 (by decide) ?_
    exact hret _ _ _ _ _ _ dX6_canDo_92 (by decide) hP hS ⟨Option.some.inj hf, rfl⟩
  have hf := oif c_45 hf
  refine lv_aload_n hx hb dX6_canDo_77 rfl (lv_at hl 2 rfl) ?_
  refine lv_iload_n hx hb dX6_canDo_78 rfl (lv_at hl 0 rfl) ?_
  obtain ⟨r_46, h_47, hf⟩ := obd hf
  refine xv_I (As := [.int x3_28]) (rest := []) S k_X6_inOf q241 q242 q243 ⟨Nat.le_of_ble_eq_true rfl, Nat.le_of_ble_eq_true rfl⟩ ⟨rfl, rfl⟩ (c_X6_inOf l D a c A hD N x3_28 σ r_46 h_47) hK hP hS (va_recv hK.1 hP (rfl : vwCl[4]? = some (RX6, TX6, 27)) (mw0 a c σ)) rfl hl.1 rfl (Nat.le_of_ble_eq_true rfl) dX6_canDo_79 ⟨Nat.zero_le _, Nat.zero_le _⟩ (fun H locs hP hS => ?_)
  refine lv_bipush (v := (-9 : Int32)) hx hb dX6_canDo_82 (by decide) ?_
  refine lv_icmp_ne (tgt := 91) hx hb dX6_canDo_84 (by decide) (fun c_48 => ?_) (fun c_48 => ?_)
  · have hf := oif c_48 hf
    refine lv_iconst (v := (0 : Int32)) hx hb dX6_canDo_91 (by decide) ?_
    exact hret _ _ _ _ _ _ dX6_canDo_92 (by decide) hP hS ⟨Option.some.inj hf, rfl⟩
  have hf := oit c_48 hf
  refine lv_iconst (v := (1 : Int32)) hx hb dX6_canDo_87 (by decide) ?_
  refine lv_goto (tgt := 92) hx hb dX6_canDo_88 (by decide) ?_
  exact hret _ _ _ _ _ _ dX6_canDo_92 (by decide) hP hS ⟨Option.some.inj hf, rfl⟩
theorem dX6_does_0 : decode cX6_does 0 = .ok (.iload_n 1, 1) := by decide +kernel
theorem dX6_does_1 : decode cX6_does 1 = .ok (.iconst 4, 1) := by decide +kernel
theorem dX6_does_2 : decode cX6_does 2 = .ok (.irem, 1) := by decide +kernel
theorem dX6_does_3 : decode cX6_does 3 = .ok (.istore_n 2, 1) := by decide +kernel
theorem dX6_does_4 : decode cX6_does 4 = .ok (.iload_n 1, 1) := by decide +kernel
theorem dX6_does_5 : decode cX6_does 5 = .ok (.bipush 12, 2) := by decide +kernel
theorem dX6_does_7 : decode cX6_does 7 = .ok (.if_icmp .lt 25, 3) := by decide +kernel
theorem dX6_does_10 : decode cX6_does 10 = .ok (.aload_n 0, 1) := by decide +kernel
theorem dX6_does_11 : decode cX6_does 11 = .ok (.getfield 28, 3) := by decide +kernel
theorem dX6_does_14 : decode cX6_does 14 = .ok (.iload_n 1, 1) := by decide +kernel
theorem dX6_does_15 : decode cX6_does 15 = .ok (.bipush 12, 2) := by decide +kernel
theorem dX6_does_17 : decode cX6_does 17 = .ok (.isub, 1) := by decide +kernel
theorem dX6_does_18 : decode cX6_does 18 = .ok (.iconst 4, 1) := by decide +kernel
theorem dX6_does_19 : decode cX6_does 19 = .ok (.idiv, 1) := by decide +kernel
theorem dX6_does_20 : decode cX6_does 20 = .ok (.iconst 1, 1) := by decide +kernel
theorem dX6_does_21 : decode cX6_does 21 = .ok (.iload_n 1, 1) := by decide +kernel
theorem dX6_does_22 : decode cX6_does 22 = .ok (.bipush 12, 2) := by decide +kernel
theorem dX6_does_24 : decode cX6_does 24 = .ok (.isub, 1) := by decide +kernel
theorem dX6_does_25 : decode cX6_does 25 = .ok (.iconst 4, 1) := by decide +kernel
theorem dX6_does_26 : decode cX6_does 26 = .ok (.irem, 1) := by decide +kernel
theorem dX6_does_27 : decode cX6_does 27 = .ok (.iadd, 1) := by decide +kernel
theorem dX6_does_28 : decode cX6_does 28 = .ok (.iastore, 1) := by decide +kernel
theorem dX6_does_29 : decode cX6_does 29 = .ok (.goto 31, 3) := by decide +kernel
theorem dX6_does_32 : decode cX6_does 32 = .ok (.iload_n 1, 1) := by decide +kernel
theorem dX6_does_33 : decode cX6_does 33 = .ok (.bipush 8, 2) := by decide +kernel
theorem dX6_does_35 : decode cX6_does 35 = .ok (.if_icmp .lt 13, 3) := by decide +kernel
theorem dX6_does_38 : decode cX6_does 38 = .ok (.aload_n 0, 1) := by decide +kernel
theorem dX6_does_39 : decode cX6_does 39 = .ok (.getfield 28, 3) := by decide +kernel
theorem dX6_does_42 : decode cX6_does 42 = .ok (.iload_n 2, 1) := by decide +kernel
theorem dX6_does_43 : decode cX6_does 43 = .ok (.iconst 0, 1) := by decide +kernel
theorem dX6_does_44 : decode cX6_does 44 = .ok (.iastore, 1) := by decide +kernel
theorem dX6_does_45 : decode cX6_does 45 = .ok (.goto 15, 3) := by decide +kernel
theorem dX6_does_48 : decode cX6_does 48 = .ok (.aload_n 0, 1) := by decide +kernel
theorem dX6_does_49 : decode cX6_does 49 = .ok (.dup, 1) := by decide +kernel
theorem dX6_does_50 : decode cX6_does 50 = .ok (.getfield 105, 3) := by decide +kernel
theorem dX6_does_53 : decode cX6_does 53 = .ok (.iconst 1, 1) := by decide +kernel
theorem dX6_does_54 : decode cX6_does 54 = .ok (.iload_n 2, 1) := by decide +kernel
theorem dX6_does_55 : decode cX6_does 55 = .ok (.ishl, 1) := by decide +kernel
theorem dX6_does_56 : decode cX6_does 56 = .ok (.ixor, 1) := by decide +kernel
theorem dX6_does_57 : decode cX6_does 57 = .ok (.putfield 105, 3) := by decide +kernel
theorem dX6_does_60 : decode cX6_does 60 = .ok (.return_, 1) := by decide +kernel
def f_X6_does (x1 : Int32) (σ : St) : Option St :=
  nm (x1 - x1 / (4 : Int32) * (4 : Int32)) fun x2_1 =>
  if x1 < (12 : Int32) then (if x1 < (8 : Int32) then (nm (wS σ 0 4 ((σ.1 0 4) ^^^ ((1 : Int32) <<< (x2_1 &&& 31)))) fun σ_4 =>
      some σ_4)
    else gd (ck x2_1 4) <|
    nm (wS σ 7 (Int32.toNatClampNeg x2_1) (0 : Int32)) fun σ_6 =>
    some σ_6)
  else gd (ck ((x1 - (12 : Int32)) / (4 : Int32)) 4) <|
  nm (wS σ 7 (Int32.toNatClampNeg ((x1 - (12 : Int32)) / (4 : Int32))) ((1 : Int32) + ((x1 - (12 : Int32)) - (x1 - (12 : Int32)) / (4 : Int32) * (4 : Int32)))) fun σ_8 =>
  some σ_8
abbrev rmX6_does : Room := { frames := 0, cells := 0, slots := 0, locals := 0 }
set_option maxRecDepth 100000 in
set_option maxHeartbeats 4000000 in
theorem c_X6_does (l : Launch) (D : va_G) (a : Nat → Nat) (c : Nat → ClassId) (A : Nat → Prop) (hD : ∀ σ, va_D A (mW a c σ)) (x1 : Int32) (σ : St) (u : St) (hf : f_X6_does x1 σ = some u) : MetV l yX6_does cX6_does 3 (none) rmX6_does (mW a c) D c A [.ref (a 0), .int x1] σ u := by
  refine mkV (by decide) (Nat.le_of_ble_eq_true rfl) rfl ?_
  intro p e s m args below meth cd Q ls h0 hK hP hret hl
  obtain ⟨S, hr, hlk⟩ := h0
  obtain ⟨hx, hb, hml, hown, ht⟩ := id S
  have hS : va_S A s.heap s.heap [] := va_S.rf
  have hl : lv_has ls 3 [(0, .ref (a 0)), (1, .int x1)] := hl
  have hf := obs hf
  have hf := oun (f_X6_does.eq_1 _ _) hf
  refine lv_iload_n hx hb dX6_does_0 rfl (lv_at hl 1 rfl) ?_
  refine lv_iconst (v := (4 : Int32)) hx hb dX6_does_1 (by decide) ?_
  refine lv_irem hx hb dX6_does_2 (by decide) ?_
  obtain ⟨x2_1, ex2_1, hf⟩ := onm hf
  refine lv_nm ex2_1 ?_
  refine lv_istore_n (lv' := [(2, .int x2_1), (0, .ref (a 0)), (1, .int x1)]) hx hb dX6_does_3 rfl hl (by decide) rfl (fun ls hl => ?_)
  refine lv_iload_n hx hb dX6_does_4 rfl (lv_at hl 2 rfl) ?_
  refine lv_bipush (v := (12 : Int32)) hx hb dX6_does_5 (by decide) ?_
  refine lv_icmp_lt (tgt := 32) hx hb dX6_does_7 (by decide) (fun c_2 => ?_) (fun c_2 => ?_)
  · have hf := oit c_2 hf
    refine lv_iload_n hx hb dX6_does_32 rfl (lv_at hl 2 rfl) ?_
    refine lv_bipush (v := (8 : Int32)) hx hb dX6_does_33 (by decide) ?_
    refine lv_icmp_lt (tgt := 48) hx hb dX6_does_35 (by decide) (fun c_3 => ?_) (fun c_3 => ?_)
    · have hf := oit c_3 hf
      refine lv_aload_n hx hb dX6_does_48 rfl (lv_at hl 1 rfl) ?_
      refine lv_dup hx hb dX6_does_49 rfl ?_
      refine va_get (D := D) (ci := 4) (v := .int (σ.1 0 4)) (C := RX6) (T := TX6) (N := 27) hx hb ht gX6 hown hK.1 hP 0 (mw0 a c σ) rfl 11 (by decide) (ht _ q140) (fun _ h9 => h9) rfl dX6_does_50 ?_
      refine lv_iconst (v := (1 : Int32)) hx hb dX6_does_53 (by decide) ?_
      refine lv_iload_n hx hb dX6_does_54 rfl (lv_at hl 0 rfl) ?_
      refine lv_ishl hx hb dX6_does_55 ?_
      refine lv_ixor hx hb dX6_does_56 ?_
      refine va_put (D := D) (ci := 4) (v := .int ((σ.1 0 4) ^^^ ((1 : Int32) <<< (x2_1 &&& 31)))) (ty := .int) (C := RX6) (T := TX6) (N := 27) hx hb ht gX6 tyX6 tyX6_ok nmX6 hown hK.1 hP (hD σ) hS 0 (mw0 a c σ) rfl 11 (by decide) (ht _ q140) (fun _ h9 => h9) rfl (by decide +kernel) rfl rfl (Nat.le_of_ble_eq_true rfl) dX6_does_57 (fun H locs hP _ hS => ?_)
      have hP := vP_eq (mpX6_open a c σ ((σ.1 0 4) ^^^ ((1 : Int32) <<< (x2_1 &&& 31)))) hP
      obtain ⟨σ_4, eσ_4, hf⟩ := onm hf
      rw [eσ_4] at hP
      exact hret _ _ _ _ _ dX6_does_60 hP hS (Option.some.inj hf)
    have hf := oif c_3 hf
    refine lv_aload_n hx hb dX6_does_38 rfl (lv_at hl 1 rfl) ?_
    refine va_get (D := D) (ci := 4) (v := .ref (a 7)) (C := RX6) (T := TX6) (N := 27) hx hb ht gX6 hown hK.1 hP 0 (mw0 a c σ) rfl 10 (by decide) (ht _ q56) (fun _ h9 => h9) rfl dX6_does_39 ?_
    refine lv_iload_n hx hb dX6_does_42 rfl (lv_at hl 0 rfl) ?_
    refine lv_iconst (v := (0 : Int32)) hx hb dX6_does_43 (by decide) ?_
    obtain ⟨g_5, hf⟩ := ogd hf
    refine va_iast hx hb hK.1 hP (hD σ) hS 7 0 (mw7 a c σ) rfl (ck_in g_5) dX6_does_44 (fun H locs hP _ hS => ?_)
    have hP := vP_eq (mpA_m7 a c σ (Int32.toNatClampNeg x2_1) (0 : Int32)) hP
    obtain ⟨σ_6, eσ_6, hf⟩ := onm hf
    rw [eσ_6] at hP
    refine lv_goto (tgt := 60) hx hb dX6_does_45 (by decide) ?_
    exact hret _ _ _ _ _ dX6_does_60 hP hS (Option.some.inj hf)
  have hf := oif c_2 hf
  refine lv_aload_n hx hb dX6_does_10 rfl (lv_at hl 1 rfl) ?_
  refine va_get (D := D) (ci := 4) (v := .ref (a 7)) (C := RX6) (T := TX6) (N := 27) hx hb ht gX6 hown hK.1 hP 0 (mw0 a c σ) rfl 10 (by decide) (ht _ q56) (fun _ h9 => h9) rfl dX6_does_11 ?_
  refine lv_iload_n hx hb dX6_does_14 rfl (lv_at hl 2 rfl) ?_
  refine lv_bipush (v := (12 : Int32)) hx hb dX6_does_15 (by decide) ?_
  refine lv_isub hx hb dX6_does_17 ?_
  refine lv_iconst (v := (4 : Int32)) hx hb dX6_does_18 (by decide) ?_
  refine lv_idiv hx hb dX6_does_19 (by decide) ?_
  refine lv_iconst (v := (1 : Int32)) hx hb dX6_does_20 (by decide) ?_
  refine lv_iload_n hx hb dX6_does_21 rfl (lv_at hl 2 rfl) ?_
  refine lv_bipush (v := (12 : Int32)) hx hb dX6_does_22 (by decide) ?_
  refine lv_isub hx hb dX6_does_24 ?_
  refine lv_iconst (v := (4 : Int32)) hx hb dX6_does_25 (by decide) ?_
  refine lv_irem hx hb dX6_does_26 (by decide) ?_
  refine lv_iadd hx hb dX6_does_27 ?_
  obtain ⟨g_7, hf⟩ := ogd hf
  refine va_iast hx hb hK.1 hP (hD σ) hS 7 0 (mw7 a c σ) rfl (ck_in g_7) dX6_does_28 (fun H locs hP _ hS => ?_)
  have hP := vP_eq (mpA_m7 a c σ (Int32.toNatClampNeg ((x1 - (12 : Int32)) / (4 : Int32))) ((1 : Int32) + ((x1 - (12 : Int32)) - (x1 - (12 : Int32)) / (4 : Int32) * (4 : Int32)))) hP
  obtain ⟨σ_8, eσ_8, hf⟩ := onm hf
  rw [eσ_8] at hP
  refine lv_goto (tgt := 60) hx hb dX6_does_29 (by decide) ?_
  exact hret _ _ _ _ _ dX6_does_60 hP hS (Option.some.inj hf)
theorem dX6_onTable_0 : decode cX6_onTable 0 = .ok (.iconst 0, 1) := by decide +kernel
theorem dX6_onTable_1 : decode cX6_onTable 1 = .ok (.istore_n 1, 1) := by decide +kernel
theorem dX6_onTable_2 : decode cX6_onTable 2 = .ok (.iconst 0, 1) := by decide +kernel
theorem dX6_onTable_3 : decode cX6_onTable 3 = .ok (.istore_n 2, 1) := by decide +kernel
theorem dX6_onTable_4 : decode cX6_onTable 4 = .ok (.iload_n 2, 1) := by decide +kernel
theorem dX6_onTable_5 : decode cX6_onTable 5 = .ok (.aload_n 0, 1) := by decide +kernel
theorem dX6_onTable_6 : decode cX6_onTable 6 = .ok (.getfield 75, 3) := by decide +kernel
theorem dX6_onTable_9 : decode cX6_onTable 9 = .ok (.if_icmp .ge 26, 3) := by decide +kernel
theorem dX6_onTable_12 : decode cX6_onTable 12 = .ok (.iload_n 1, 1) := by decide +kernel
theorem dX6_onTable_13 : decode cX6_onTable 13 = .ok (.aload_n 0, 1) := by decide +kernel
theorem dX6_onTable_14 : decode cX6_onTable 14 = .ok (.getfield 28, 3) := by decide +kernel
theorem dX6_onTable_17 : decode cX6_onTable 17 = .ok (.iload_n 2, 1) := by decide +kernel
theorem dX6_onTable_18 : decode cX6_onTable 18 = .ok (.iaload, 1) := by decide +kernel
theorem dX6_onTable_19 : decode cX6_onTable 19 = .ok (.ifCond .ne 7, 3) := by decide +kernel
theorem dX6_onTable_22 : decode cX6_onTable 22 = .ok (.iconst 1, 1) := by decide +kernel
theorem dX6_onTable_23 : decode cX6_onTable 23 = .ok (.goto 4, 3) := by decide +kernel
theorem dX6_onTable_26 : decode cX6_onTable 26 = .ok (.iconst 0, 1) := by decide +kernel
theorem dX6_onTable_27 : decode cX6_onTable 27 = .ok (.iadd, 1) := by decide +kernel
theorem dX6_onTable_28 : decode cX6_onTable 28 = .ok (.istore_n 1, 1) := by decide +kernel
theorem dX6_onTable_29 : decode cX6_onTable 29 = .ok (.iinc 2 1, 3) := by decide +kernel
theorem dX6_onTable_32 : decode cX6_onTable 32 = .ok (.goto (-28), 3) := by decide +kernel
theorem dX6_onTable_35 : decode cX6_onTable 35 = .ok (.iload_n 1, 1) := by decide +kernel
theorem dX6_onTable_36 : decode cX6_onTable 36 = .ok (.ireturn, 1) := by decide +kernel
def f_X6_onTable_j35 (N : Nat) (x1 : Int32) (σ : St) : Option Int32 :=
  some x1
def f_X6_onTable_j27 (N : Nat) (x2 : Int32) (y0 : Int32) (y1 : Int32) (σ : St) : Option ((Int32 × Int32) ⊕ ((Int32))) :=
  nm (y0 + y1) fun x1_1 =>
  nm (x2 + (1 : Int32)) fun x2_2 =>
  some (.inl (x1_1, x2_2))
def f_X6_onTable_b4 (N : Nat) (x1 : Int32) (x2 : Int32) (σ : St) : Option ((Int32 × Int32) ⊕ ((Int32))) :=
  if (σ.1 0 2) ≤ x2 then (some (.inr x1))
  else gd (ck x2 4) <|
  if (σ.1 7 x2.toNatClampNeg) = 0 then (f_X6_onTable_j27 N x2 x1 (1 : Int32) σ)
  else f_X6_onTable_j27 N x2 x1 (0 : Int32) σ
def f_X6_onTable (N : Nat) (σ : St) : Option Int32 :=
  bd (lpF (fun s => f_X6_onTable_b4 N s.1 s.2 σ) N ((0 : Int32), (0 : Int32))) (fun o => f_X6_onTable_j35 N o σ)
abbrev rmX6_onTable : Room := { frames := 0, cells := 0, slots := 0, locals := 0 }
set_option maxRecDepth 100000 in
set_option maxHeartbeats 4000000 in
theorem c_X6_onTable (l : Launch) (D : va_G) (a : Nat → Nat) (c : Nat → ClassId) (A : Nat → Prop) (hD : ∀ σ, va_D A (mW a c σ)) (N : Nat) (σ : St) (r : Int32) (hf : f_X6_onTable N σ = some r) : MetI l yX6_onTable cX6_onTable 3 (some .int) rmX6_onTable (mW a c) D c A [.ref (a 0)] σ r σ := by
  refine mkI (by decide) (Nat.le_of_ble_eq_true rfl) rfl ?_
  intro p e s m args below meth cd Q ls h0 hK hP hret hl
  obtain ⟨S, hr, hlk⟩ := h0
  obtain ⟨hx, hb, hml, hown, ht⟩ := id S
  have hS : va_S A s.heap s.heap [] := va_S.rf
  have hl : lv_has ls 3 [(0, .ref (a 0))] := hl
  have hf := obs hf
  have j35 : ∀ (x1 : Int32) (H : Heap) (locs : List Loc) (ls : Array Slot), lv_has ls 3 [(1, .int x1)] → va_P D vwCl (mW a c σ) H → va_S A s.heap H locs → Option.bind (f_X6_onTable_j35 N x1 σ) some = some r → W p l e rmX6_onTable s m args below meth cd H locs 0 0 Q (F0 m 35 ls []) := by
    intro x1 H locs ls hl hP hS hf
    have hf := oun (f_X6_onTable_j35.eq_1 _ _ _) hf
    refine lv_iload_n hx hb dX6_onTable_35 rfl (lv_at hl 0 rfl) ?_
    exact hret _ _ _ _ _ _ dX6_onTable_36 rfl hP hS ⟨Option.some.inj hf, rfl⟩
  have L4 : ∀ (k : Nat) (x1 : Int32) (x2 : Int32) (H : Heap) (locs : List Loc) (ls : Array Slot), lv_has ls 3 [(0, .ref (a 0)), (1, .int x1), (2, .int x2)] → va_P D vwCl (mW a c σ) H → va_S A s.heap H locs → Option.bind (bd (lpF (fun s => f_X6_onTable_b4 N s.1 s.2 σ) k (x1, x2)) (fun o => f_X6_onTable_j35 N o σ)) some = some r → W p l e rmX6_onTable s m args below meth cd H locs 0 0 Q (F0 m 4 ls []) := by
    intro k
    induction k with
    | zero =>
      intro x1 x2 H locs ls hl hP hS hf
      exact (ol0 hf).elim
    | succ k ih =>
      intro x1 x2 H locs ls hl hP hS hf
      obtain ⟨K4, hf, hc4, hx4⟩ := ol1 hf
      have j27 : ∀ (x2 : Int32) (y0 : Int32) (y1 : Int32) (H : Heap) (locs : List Loc) (ls : Array Slot), lv_has ls 3 [(0, .ref (a 0)), (2, .int x2)] → va_P D vwCl (mW a c σ) H → va_S A s.heap H locs → Option.bind (f_X6_onTable_j27 N x2 y0 y1 σ) K4 = some r → W p l e rmX6_onTable s m args below meth cd H locs 0 0 Q (F0 m 27 ls [.int y1, .int y0]) := by
        intro x2 y0 y1 H locs ls hl hP hS hf
        have hf := oun (f_X6_onTable_j27.eq_1 _ _ _ _ _) hf
        refine lv_iadd hx hb dX6_onTable_27 ?_
        obtain ⟨x1_1, ex1_1, hf⟩ := onm hf
        refine lv_nm ex1_1 ?_
        refine lv_istore_n (lv' := [(1, .int x1_1), (0, .ref (a 0)), (2, .int x2)]) hx hb dX6_onTable_28 rfl hl (by decide) rfl (fun ls hl => ?_)
        obtain ⟨x2_2, ex2_2, hf⟩ := onm hf
        refine lv_iinc (v := x2_2) (lv' := [(2, .int x2_2), (1, .int x1_1), (0, .ref (a 0))]) hx hb dX6_onTable_29 hl (k := 2) rfl ex2_2 (by decide) rfl (fun ls hl => ?_)
        refine lv_goto (tgt := 4) hx hb dX6_onTable_32 (by decide) ?_
        exact ih x1_1 x2_2 _ _ _ (lv_sub hl [2, 1, 0] rfl) hP hS (okx hf (hc4 _))
      have hf := oun (f_X6_onTable_b4.eq_1 N x1 x2 σ) hf
      refine lv_iload_n hx hb dX6_onTable_4 rfl (lv_at hl 2 rfl) ?_
      refine lv_aload_n hx hb dX6_onTable_5 rfl (lv_at hl 0 rfl) ?_
      refine va_get (D := D) (ci := 4) (v := .int (σ.1 0 2)) (C := RX6) (T := TX6) (N := 27) hx hb ht gX6 hown hK.1 hP 0 (mw0 a c σ) rfl 5 (by decide) (ht _ q139) (fun _ h9 => h9) rfl dX6_onTable_6 ?_
      refine lv_icmp_ge (tgt := 35) hx hb dX6_onTable_9 (by decide) (fun c_3 => ?_) (fun c_3 => ?_)
      · have hf := oit c_3 hf
        exact j35 x1 _ _ _ (lv_sub hl [1] rfl) hP hS (okx hf (hx4 _))
      have hf := oif c_3 hf
      refine lv_iload_n hx hb dX6_onTable_12 rfl (lv_at hl 1 rfl) ?_
      refine lv_aload_n hx hb dX6_onTable_13 rfl (lv_at hl 0 rfl) ?_
      refine va_get (D := D) (ci := 4) (v := .ref (a 7)) (C := RX6) (T := TX6) (N := 27) hx hb ht gX6 hown hK.1 hP 0 (mw0 a c σ) rfl 10 (by decide) (ht _ q56) (fun _ h9 => h9) rfl dX6_onTable_14 ?_
      refine lv_iload_n hx hb dX6_onTable_17 rfl (lv_at hl 2 rfl) ?_
      obtain ⟨g_4, hf⟩ := ogd hf
      refine va_iald hx hb hK.1 hP 7 0 (mw7 a c σ) rfl (ck_in g_4) dX6_onTable_18 ?_
      refine lv_if_ne (tgt := 26) hx hb dX6_onTable_19 (by decide) (fun c_5 => ?_) (fun c_5 => ?_)
      · have hf := oif c_5 hf
        refine lv_iconst (v := (0 : Int32)) hx hb dX6_onTable_26 (by decide) ?_
        exact j27 x2 x1 (0 : Int32) _ _ _ (lv_sub hl [0, 2] rfl) hP hS hf
      have hf := oit c_5 hf
      refine lv_iconst (v := (1 : Int32)) hx hb dX6_onTable_22 (by decide) ?_
      refine lv_goto (tgt := 27) hx hb dX6_onTable_23 (by decide) ?_
      exact j27 x2 x1 (1 : Int32) _ _ _ (lv_sub hl [0, 2] rfl) hP hS hf
  have hf := oun (f_X6_onTable.eq_1 _ _) hf
  refine lv_iconst (v := (0 : Int32)) hx hb dX6_onTable_0 (by decide) ?_
  refine lv_istore_n (lv' := [(1, .int (0 : Int32)), (0, .ref (a 0))]) hx hb dX6_onTable_1 rfl hl (by decide) rfl (fun ls hl => ?_)
  refine lv_iconst (v := (0 : Int32)) hx hb dX6_onTable_2 (by decide) ?_
  refine lv_istore_n (lv' := [(2, .int (0 : Int32)), (1, .int (0 : Int32)), (0, .ref (a 0))]) hx hb dX6_onTable_3 rfl hl (by decide) rfl (fun ls hl => ?_)
  exact L4 N (0 : Int32) (0 : Int32) _ _ _ (lv_sub hl [2, 1, 0] rfl) hP hS hf
theorem dX6_act_0 : decode cX6_act 0 = .ok (.iload_n 1, 1) := by decide +kernel
theorem dX6_act_1 : decode cX6_act 1 = .ok (.iconst 0, 1) := by decide +kernel
theorem dX6_act_2 : decode cX6_act 2 = .ok (.bipush 27, 2) := by decide +kernel
theorem dX6_act_4 : decode cX6_act 4 = .ok (.invokestatic 71, 3) := by decide +kernel
theorem dX6_act_7 : decode cX6_act 7 = .ok (.ifCond .ne 6, 3) := by decide +kernel
theorem dX6_act_10 : decode cX6_act 10 = .ok (.bipush (-2), 2) := by decide +kernel
theorem dX6_act_12 : decode cX6_act 12 = .ok (.ireturn, 1) := by decide +kernel
theorem dX6_act_13 : decode cX6_act 13 = .ok (.aload_n 0, 1) := by decide +kernel
theorem dX6_act_14 : decode cX6_act 14 = .ok (.getfield 75, 3) := by decide +kernel
theorem dX6_act_17 : decode cX6_act 17 = .ok (.ifCond .eq 11, 3) := by decide +kernel
theorem dX6_act_20 : decode cX6_act 20 = .ok (.aload_n 0, 1) := by decide +kernel
theorem dX6_act_21 : decode cX6_act 21 = .ok (.iload_n 1, 1) := by decide +kernel
theorem dX6_act_22 : decode cX6_act 22 = .ok (.invokevirtual 146, 3) := by decide +kernel
theorem dX6_act_25 : decode cX6_act 25 = .ok (.ifCond .ne 6, 3) := by decide +kernel
theorem dX6_act_28 : decode cX6_act 28 = .ok (.bipush (-3), 2) := by decide +kernel
theorem dX6_act_30 : decode cX6_act 30 = .ok (.ireturn, 1) := by decide +kernel
theorem dX6_act_31 : decode cX6_act 31 = .ok (.aload_n 0, 1) := by decide +kernel
theorem dX6_act_32 : decode cX6_act 32 = .ok (.iload_n 1, 1) := by decide +kernel
theorem dX6_act_33 : decode cX6_act 33 = .ok (.invokevirtual 149, 3) := by decide +kernel
theorem dX6_act_36 : decode cX6_act 36 = .ok (.aload_n 0, 1) := by decide +kernel
theorem dX6_act_37 : decode cX6_act 37 = .ok (.dup, 1) := by decide +kernel
theorem dX6_act_38 : decode cX6_act 38 = .ok (.getfield 108, 3) := by decide +kernel
theorem dX6_act_41 : decode cX6_act 41 = .ok (.iconst 1, 1) := by decide +kernel
theorem dX6_act_42 : decode cX6_act 42 = .ok (.iadd, 1) := by decide +kernel
theorem dX6_act_43 : decode cX6_act 43 = .ok (.putfield 108, 3) := by decide +kernel
theorem dX6_act_46 : decode cX6_act 46 = .ok (.aload_n 0, 1) := by decide +kernel
theorem dX6_act_47 : decode cX6_act 47 = .ok (.invokevirtual 153, 3) := by decide +kernel
theorem dX6_act_50 : decode cX6_act 50 = .ok (.ireturn, 1) := by decide +kernel
def f_X6_act (N : Nat) (x1 : Int32) (σ : St) : Option (Int32 × St) :=
  bd (f_X6_within x1 (0 : Int32) (27 : Int32)) fun r_1 =>
  if r_1 = 0 then (some ((-2 : Int32), σ))
  else if (σ.1 0 2) = 0 then (some ((-3 : Int32), σ))
    else bd (f_X6_canDo N x1 σ) fun r_5 =>
    if r_5 = 0 then (some ((-3 : Int32), σ))
    else bd (f_X6_does x1 σ) fun σ_8 =>
      nm (wS σ_8 0 3 ((σ_8.1 0 3) + (1 : Int32))) fun σ_10 =>
      bd (f_X6_onTable N σ_10) fun r_11 =>
      some (r_11, σ_10)
abbrev rmX6_act : Room := { frames := 3, cells := 0, slots := 0, locals := 67 }
set_option maxRecDepth 100000 in
set_option maxHeartbeats 4000000 in
theorem c_X6_act (l : Launch) (D : va_G) (a : Nat → Nat) (c : Nat → ClassId) (A : Nat → Prop) (hD : ∀ σ, va_D A (mW a c σ)) (N : Nat) (x1 : Int32) (σ : St) (r : Int32) (u : St) (hf : f_X6_act N x1 σ = some (r, u)) : MetI l yX6_act cX6_act 2 (some .int) rmX6_act (mW a c) D c A [.ref (a 0), .int x1] σ r u := by
  refine mkI (by decide) (Nat.le_of_ble_eq_true rfl) rfl ?_
  intro p e s m args below meth cd Q ls h0 hK hP hret hl
  obtain ⟨S, hr, hlk⟩ := h0
  obtain ⟨hx, hb, hml, hown, ht⟩ := id S
  have hS : va_S A s.heap s.heap [] := va_S.rf
  have hl : lv_has ls 2 [(0, .ref (a 0)), (1, .int x1)] := hl
  have hf := obs hf
  have hf := oun (f_X6_act.eq_1 _ _ _) hf
  refine lv_iload_n hx hb dX6_act_0 rfl (lv_at hl 1 rfl) ?_
  refine lv_iconst (v := (0 : Int32)) hx hb dX6_act_1 (by decide) ?_
  refine lv_bipush (v := (27 : Int32)) hx hb dX6_act_2 (by decide) ?_
  obtain ⟨r_1, h_2, hf⟩ := obd hf
  refine xs_S (As := [.int x1, .int (0 : Int32), .int (27 : Int32)]) (rest := []) S k_X6_within q146 q147 ⟨Nat.le_of_ble_eq_true rfl, Nat.le_of_ble_eq_true rfl⟩ ⟨rfl, rfl⟩ (c_X6_within l x1 (0 : Int32) (27 : Int32) r_1 h_2) hK.2 rfl hl.1 rfl (Nat.le_of_ble_eq_true rfl) dX6_act_4 ⟨Nat.zero_le _, Nat.zero_le _⟩ ?_
  refine lv_if_ne (tgt := 13) hx hb dX6_act_7 (by decide) (fun c_3 => ?_) (fun c_3 => ?_)
  · have hf := oif c_3 hf
    refine lv_aload_n hx hb dX6_act_13 rfl (lv_at hl 0 rfl) ?_
    refine va_get (D := D) (ci := 4) (v := .int (σ.1 0 2)) (C := RX6) (T := TX6) (N := 27) hx hb ht gX6 hown hK.1 hP 0 (mw0 a c σ) rfl 5 (by decide) (ht _ q139) (fun _ h9 => h9) rfl dX6_act_14 ?_
    refine lv_if_eq (tgt := 28) hx hb dX6_act_17 (by decide) (fun c_4 => ?_) (fun c_4 => ?_)
    · have hf := oit c_4 hf
      refine lv_bipush (v := (-3 : Int32)) hx hb dX6_act_28 (by decide) ?_
      exact hret _ _ _ _ _ _ dX6_act_30 rfl hP hS (oret hf)
    have hf := oif c_4 hf
    refine lv_aload_n hx hb dX6_act_20 rfl (lv_at hl 0 rfl) ?_
    refine lv_iload_n hx hb dX6_act_21 rfl (lv_at hl 1 rfl) ?_
    obtain ⟨r_5, h_6, hf⟩ := obd hf
    refine xv_I (As := [.int x1]) (rest := []) S k_X6_canDo q338 q339 q340 ⟨Nat.le_of_ble_eq_true rfl, Nat.le_of_ble_eq_true rfl⟩ ⟨rfl, rfl⟩ (c_X6_canDo l D a c A hD N x1 σ r_5 h_6) hK hP hS (va_recv hK.1 hP (rfl : vwCl[4]? = some (RX6, TX6, 27)) (mw0 a c σ)) rfl hl.1 rfl (Nat.le_of_ble_eq_true rfl) dX6_act_22 ⟨Nat.zero_le _, Nat.zero_le _⟩ (fun H locs hP hS => ?_)
    refine lv_if_ne (tgt := 31) hx hb dX6_act_25 (by decide) (fun c_7 => ?_) (fun c_7 => ?_)
    · have hf := oif c_7 hf
      refine lv_aload_n hx hb dX6_act_31 rfl (lv_at hl 0 rfl) ?_
      refine lv_iload_n hx hb dX6_act_32 rfl (lv_at hl 1 rfl) ?_
      obtain ⟨σ_8, h_9, hf⟩ := obd hf
      refine xv_V (As := [.int x1]) (rest := []) S k_X6_does q342 q343 q344 ⟨Nat.le_of_ble_eq_true rfl, Nat.le_of_ble_eq_true rfl⟩ ⟨rfl, rfl⟩ (c_X6_does l D a c A hD x1 σ σ_8 h_9) hK hP hS (va_recv hK.1 hP (rfl : vwCl[4]? = some (RX6, TX6, 27)) (mw0 a c σ)) rfl hl.1 rfl (Nat.le_of_ble_eq_true rfl) dX6_act_33 ⟨Nat.zero_le _, Nat.zero_le _⟩ (fun H locs hP hS => ?_)
      refine lv_aload_n hx hb dX6_act_36 rfl (lv_at hl 0 rfl) ?_
      refine lv_dup hx hb dX6_act_37 rfl ?_
      refine va_get (D := D) (ci := 4) (v := .int (σ_8.1 0 3)) (C := RX6) (T := TX6) (N := 27) hx hb ht gX6 hown hK.1 hP 0 (mw0 a c σ_8) rfl 6 (by decide) (ht _ q141) (fun _ h9 => h9) rfl dX6_act_38 ?_
      refine lv_iconst (v := (1 : Int32)) hx hb dX6_act_41 (by decide) ?_
      refine lv_iadd hx hb dX6_act_42 ?_
      refine va_put (D := D) (ci := 4) (v := .int ((σ_8.1 0 3) + (1 : Int32))) (ty := .int) (C := RX6) (T := TX6) (N := 27) hx hb ht gX6 tyX6 tyX6_ok nmX6 hown hK.1 hP (hD σ_8) hS 0 (mw0 a c σ_8) rfl 6 (by decide) (ht _ q141) (fun _ h9 => h9) rfl (by decide +kernel) rfl rfl (Nat.le_of_ble_eq_true rfl) dX6_act_43 (fun H locs hP _ hS => ?_)
      have hP := vP_eq (mpX6_done a c σ_8 ((σ_8.1 0 3) + (1 : Int32))) hP
      obtain ⟨σ_10, eσ_10, hf⟩ := onm hf
      rw [eσ_10] at hP
      refine lv_aload_n hx hb dX6_act_46 rfl (lv_at hl 0 rfl) ?_
      obtain ⟨r_11, h_12, hf⟩ := obd hf
      refine xv_I (As := []) (rest := []) S k_X6_onTable q346 q347 q348 ⟨Nat.le_of_ble_eq_true rfl, Nat.le_of_ble_eq_true rfl⟩ ⟨rfl, rfl⟩ (c_X6_onTable l D a c A hD N σ_10 r_11 h_12) hK hP hS (va_recv hK.1 hP (rfl : vwCl[4]? = some (RX6, TX6, 27)) (mw0 a c σ_10)) rfl hl.1 rfl (Nat.le_of_ble_eq_true rfl) dX6_act_47 ⟨Nat.zero_le _, Nat.zero_le _⟩ (fun H locs hP hS => ?_)
      exact hret _ _ _ _ _ _ dX6_act_50 rfl hP hS (oret hf)
    have hf := oit c_7 hf
    refine lv_bipush (v := (-3 : Int32)) hx hb dX6_act_28 (by decide) ?_
    exact hret _ _ _ _ _ _ dX6_act_30 rfl hP hS (oret hf)
  have hf := oit c_3 hf
  refine lv_bipush (v := (-2 : Int32)) hx hb dX6_act_10 (by decide) ?_
  exact hret _ _ _ _ _ _ dX6_act_12 rfl hP hS (oret hf)
theorem dX6_anew_0 : decode cX6_anew 0 = .ok (.aload_n 0, 1) := by decide +kernel
theorem dX6_anew_1 : decode cX6_anew 1 = .ok (.getfield 75, 3) := by decide +kernel
theorem dX6_anew_4 : decode cX6_anew 4 = .ok (.ifCond .ne 6, 3) := by decide +kernel
theorem dX6_anew_7 : decode cX6_anew 7 = .ok (.bipush (-3), 2) := by decide +kernel
theorem dX6_anew_9 : decode cX6_anew 9 = .ok (.ireturn, 1) := by decide +kernel
theorem dX6_anew_10 : decode cX6_anew 10 = .ok (.aload_n 0, 1) := by decide +kernel
theorem dX6_anew_11 : decode cX6_anew 11 = .ok (.getfield 75, 3) := by decide +kernel
theorem dX6_anew_14 : decode cX6_anew 14 = .ok (.aload_n 0, 1) := by decide +kernel
theorem dX6_anew_15 : decode cX6_anew 15 = .ok (.invokevirtual 153, 3) := by decide +kernel
theorem dX6_anew_18 : decode cX6_anew 18 = .ok (.isub, 1) := by decide +kernel
theorem dX6_anew_19 : decode cX6_anew 19 = .ok (.istore_n 1, 1) := by decide +kernel
theorem dX6_anew_20 : decode cX6_anew 20 = .ok (.iconst 0, 1) := by decide +kernel
theorem dX6_anew_21 : decode cX6_anew 21 = .ok (.istore_n 2, 1) := by decide +kernel
theorem dX6_anew_22 : decode cX6_anew 22 = .ok (.iload_n 2, 1) := by decide +kernel
theorem dX6_anew_23 : decode cX6_anew 23 = .ok (.aload_n 0, 1) := by decide +kernel
theorem dX6_anew_24 : decode cX6_anew 24 = .ok (.getfield 75, 3) := by decide +kernel
theorem dX6_anew_27 : decode cX6_anew 27 = .ok (.if_icmp .ge 16, 3) := by decide +kernel
theorem dX6_anew_30 : decode cX6_anew 30 = .ok (.aload_n 0, 1) := by decide +kernel
theorem dX6_anew_31 : decode cX6_anew 31 = .ok (.getfield 28, 3) := by decide +kernel
theorem dX6_anew_34 : decode cX6_anew 34 = .ok (.iload_n 2, 1) := by decide +kernel
theorem dX6_anew_35 : decode cX6_anew 35 = .ok (.iconst 0, 1) := by decide +kernel
theorem dX6_anew_36 : decode cX6_anew 36 = .ok (.iastore, 1) := by decide +kernel
theorem dX6_anew_37 : decode cX6_anew 37 = .ok (.iinc 2 1, 3) := by decide +kernel
theorem dX6_anew_40 : decode cX6_anew 40 = .ok (.goto (-18), 3) := by decide +kernel
theorem dX6_anew_43 : decode cX6_anew 43 = .ok (.aload_n 0, 1) := by decide +kernel
theorem dX6_anew_44 : decode cX6_anew 44 = .ok (.iconst 0, 1) := by decide +kernel
theorem dX6_anew_45 : decode cX6_anew 45 = .ok (.putfield 105, 3) := by decide +kernel
theorem dX6_anew_48 : decode cX6_anew 48 = .ok (.iload_n 1, 1) := by decide +kernel
theorem dX6_anew_49 : decode cX6_anew 49 = .ok (.ireturn, 1) := by decide +kernel
def f_X6_anew_j43 (N : Nat) (x1 : Int32) (σ : St) : Option (Int32 × St) :=
  nm (wS σ 0 4 (0 : Int32)) fun σ_1 =>
  some (x1, σ_1)
def f_X6_anew_b22 (N : Nat) (x1 : Int32) (x2 : Int32) (σ : St) : Option ((Int32 × St) ⊕ ((St))) :=
  if (σ.1 0 2) ≤ x2 then (some (.inr σ))
  else gd (ck x2 4) <|
  nm (wS σ 7 (Int32.toNatClampNeg x2) (0 : Int32)) fun σ_4 =>
  nm (x2 + (1 : Int32)) fun x2_5 =>
  some (.inl (x2_5, σ_4))
def f_X6_anew (N : Nat) (σ : St) : Option (Int32 × St) :=
  if (σ.1 0 2) = 0 then (some ((-3 : Int32), σ))
  else bd (f_X6_onTable N σ) fun r_7 =>
    nm ((σ.1 0 2) - r_7) fun x1_9 =>
    bd (lpF (fun s => f_X6_anew_b22 N x1_9 s.1 s.2) N ((0 : Int32), σ)) (fun o => f_X6_anew_j43 N x1_9 o)
abbrev rmX6_anew : Room := { frames := 1, cells := 0, slots := 0, locals := 22 }
set_option maxRecDepth 100000 in
set_option maxHeartbeats 4000000 in
theorem c_X6_anew (l : Launch) (D : va_G) (a : Nat → Nat) (c : Nat → ClassId) (A : Nat → Prop) (hD : ∀ σ, va_D A (mW a c σ)) (N : Nat) (σ : St) (r : Int32) (u : St) (hf : f_X6_anew N σ = some (r, u)) : MetI l yX6_anew cX6_anew 3 (some .int) rmX6_anew (mW a c) D c A [.ref (a 0)] σ r u := by
  refine mkI (by decide) (Nat.le_of_ble_eq_true rfl) rfl ?_
  intro p e s m args below meth cd Q ls h0 hK hP hret hl
  obtain ⟨S, hr, hlk⟩ := h0
  obtain ⟨hx, hb, hml, hown, ht⟩ := id S
  have hS : va_S A s.heap s.heap [] := va_S.rf
  have hl : lv_has ls 3 [(0, .ref (a 0))] := hl
  have hf := obs hf
  have j43 : ∀ (x1 : Int32) (σ : St) (H : Heap) (locs : List Loc) (ls : Array Slot), lv_has ls 3 [(0, .ref (a 0)), (1, .int x1)] → va_P D vwCl (mW a c σ) H → va_S A s.heap H locs → Option.bind (f_X6_anew_j43 N x1 σ) some = some (r, u) → W p l e rmX6_anew s m args below meth cd H locs 0 0 Q (F0 m 43 ls []) := by
    intro x1 σ H locs ls hl hP hS hf
    have hf := oun (f_X6_anew_j43.eq_1 _ _ _) hf
    refine lv_aload_n hx hb dX6_anew_43 rfl (lv_at hl 0 rfl) ?_
    refine lv_iconst (v := (0 : Int32)) hx hb dX6_anew_44 (by decide) ?_
    refine va_put (D := D) (ci := 4) (v := .int (0 : Int32)) (ty := .int) (C := RX6) (T := TX6) (N := 27) hx hb ht gX6 tyX6 tyX6_ok nmX6 hown hK.1 hP (hD σ) hS 0 (mw0 a c σ) rfl 11 (by decide) (ht _ q140) (fun _ h9 => h9) rfl (by decide +kernel) rfl rfl (Nat.le_of_ble_eq_true rfl) dX6_anew_45 (fun H locs hP _ hS => ?_)
    have hP := vP_eq (mpX6_open a c σ (0 : Int32)) hP
    obtain ⟨σ_1, eσ_1, hf⟩ := onm hf
    rw [eσ_1] at hP
    refine lv_iload_n hx hb dX6_anew_48 rfl (lv_at hl 1 rfl) ?_
    exact hret _ _ _ _ _ _ dX6_anew_49 rfl hP hS (oret hf)
  have L22 : ∀ (x1 : Int32) (k : Nat) (x2 : Int32) (σ : St) (H : Heap) (locs : List Loc) (ls : Array Slot), lv_has ls 3 [(0, .ref (a 0)), (1, .int x1), (2, .int x2)] → va_P D vwCl (mW a c σ) H → va_S A s.heap H locs → Option.bind (bd (lpF (fun s => f_X6_anew_b22 N x1 s.1 s.2) k (x2, σ)) (fun o => f_X6_anew_j43 N x1 o)) some = some (r, u) → W p l e rmX6_anew s m args below meth cd H locs 0 0 Q (F0 m 22 ls []) := by
    intro x1 k
    induction k with
    | zero =>
      intro x2 σ H locs ls hl hP hS hf
      exact (ol0 hf).elim
    | succ k ih =>
      intro x2 σ H locs ls hl hP hS hf
      obtain ⟨K22, hf, hc22, hx22⟩ := ol1 hf
      have hf := oun (f_X6_anew_b22.eq_1 N x1 x2 σ) hf
      refine lv_iload_n hx hb dX6_anew_22 rfl (lv_at hl 2 rfl) ?_
      refine lv_aload_n hx hb dX6_anew_23 rfl (lv_at hl 0 rfl) ?_
      refine va_get (D := D) (ci := 4) (v := .int (σ.1 0 2)) (C := RX6) (T := TX6) (N := 27) hx hb ht gX6 hown hK.1 hP 0 (mw0 a c σ) rfl 5 (by decide) (ht _ q139) (fun _ h9 => h9) rfl dX6_anew_24 ?_
      refine lv_icmp_ge (tgt := 43) hx hb dX6_anew_27 (by decide) (fun c_2 => ?_) (fun c_2 => ?_)
      · have hf := oit c_2 hf
        exact j43 x1 σ _ _ _ (lv_sub hl [0, 1] rfl) hP hS (okx hf (hx22 _))
      have hf := oif c_2 hf
      refine lv_aload_n hx hb dX6_anew_30 rfl (lv_at hl 0 rfl) ?_
      refine va_get (D := D) (ci := 4) (v := .ref (a 7)) (C := RX6) (T := TX6) (N := 27) hx hb ht gX6 hown hK.1 hP 0 (mw0 a c σ) rfl 10 (by decide) (ht _ q56) (fun _ h9 => h9) rfl dX6_anew_31 ?_
      refine lv_iload_n hx hb dX6_anew_34 rfl (lv_at hl 2 rfl) ?_
      refine lv_iconst (v := (0 : Int32)) hx hb dX6_anew_35 (by decide) ?_
      obtain ⟨g_3, hf⟩ := ogd hf
      refine va_iast hx hb hK.1 hP (hD σ) hS 7 0 (mw7 a c σ) rfl (ck_in g_3) dX6_anew_36 (fun H locs hP _ hS => ?_)
      have hP := vP_eq (mpA_m7 a c σ (Int32.toNatClampNeg x2) (0 : Int32)) hP
      obtain ⟨σ_4, eσ_4, hf⟩ := onm hf
      rw [eσ_4] at hP
      obtain ⟨x2_5, ex2_5, hf⟩ := onm hf
      refine lv_iinc (v := x2_5) (lv' := [(2, .int x2_5), (0, .ref (a 0)), (1, .int x1)]) hx hb dX6_anew_37 hl (k := 2) rfl ex2_5 (by decide) rfl (fun ls hl => ?_)
      refine lv_goto (tgt := 22) hx hb dX6_anew_40 (by decide) ?_
      exact ih x2_5 σ_4 _ _ _ (lv_sub hl [1, 2, 0] rfl) hP hS (okx hf (hc22 _))
  have hf := oun (f_X6_anew.eq_1 _ _) hf
  refine lv_aload_n hx hb dX6_anew_0 rfl (lv_at hl 0 rfl) ?_
  refine va_get (D := D) (ci := 4) (v := .int (σ.1 0 2)) (C := RX6) (T := TX6) (N := 27) hx hb ht gX6 hown hK.1 hP 0 (mw0 a c σ) rfl 5 (by decide) (ht _ q139) (fun _ h9 => h9) rfl dX6_anew_1 ?_
  refine lv_if_ne (tgt := 10) hx hb dX6_anew_4 (by decide) (fun c_6 => ?_) (fun c_6 => ?_)
  · have hf := oif c_6 hf
    refine lv_aload_n hx hb dX6_anew_10 rfl (lv_at hl 0 rfl) ?_
    refine va_get (D := D) (ci := 4) (v := .int (σ.1 0 2)) (C := RX6) (T := TX6) (N := 27) hx hb ht gX6 hown hK.1 hP 0 (mw0 a c σ) rfl 5 (by decide) (ht _ q139) (fun _ h9 => h9) rfl dX6_anew_11 ?_
    refine lv_aload_n hx hb dX6_anew_14 rfl (lv_at hl 0 rfl) ?_
    obtain ⟨r_7, h_8, hf⟩ := obd hf
    refine xv_I (As := []) (rest := [.int (σ.1 0 2)]) S k_X6_onTable q346 q347 q348 ⟨Nat.le_of_ble_eq_true rfl, Nat.le_of_ble_eq_true rfl⟩ ⟨rfl, rfl⟩ (c_X6_onTable l D a c A hD N σ r_7 h_8) hK hP hS (va_recv hK.1 hP (rfl : vwCl[4]? = some (RX6, TX6, 27)) (mw0 a c σ)) rfl hl.1 rfl (Nat.le_of_ble_eq_true rfl) dX6_anew_15 ⟨Nat.zero_le _, Nat.zero_le _⟩ (fun H locs hP hS => ?_)
    refine lv_isub hx hb dX6_anew_18 ?_
    obtain ⟨x1_9, ex1_9, hf⟩ := onm hf
    refine lv_nm ex1_9 ?_
    refine lv_istore_n (lv' := [(1, .int x1_9), (0, .ref (a 0))]) hx hb dX6_anew_19 rfl hl (by decide) rfl (fun ls hl => ?_)
    refine lv_iconst (v := (0 : Int32)) hx hb dX6_anew_20 (by decide) ?_
    refine lv_istore_n (lv' := [(2, .int (0 : Int32)), (1, .int x1_9), (0, .ref (a 0))]) hx hb dX6_anew_21 rfl hl (by decide) rfl (fun ls hl => ?_)
    exact L22 x1_9 N (0 : Int32) σ _ _ _ (lv_sub hl [2, 1, 0] rfl) hP hS hf
  have hf := oit c_6 hf
  refine lv_bipush (v := (-3 : Int32)) hx hb dX6_anew_7 (by decide) ?_
  exact hret _ _ _ _ _ _ dX6_anew_9 rfl hP hS (oret hf)
theorem dX6_can_0 : decode cX6_can 0 = .ok (.aload_n 0, 1) := by decide +kernel
theorem dX6_can_1 : decode cX6_can 1 = .ok (.getfield 75, 3) := by decide +kernel
theorem dX6_can_4 : decode cX6_can 4 = .ok (.ifCond .ne 6, 3) := by decide +kernel
theorem dX6_can_7 : decode cX6_can 7 = .ok (.bipush (-3), 2) := by decide +kernel
theorem dX6_can_9 : decode cX6_can 9 = .ok (.ireturn, 1) := by decide +kernel
theorem dX6_can_10 : decode cX6_can 10 = .ok (.iconst 0, 1) := by decide +kernel
theorem dX6_can_11 : decode cX6_can 11 = .ok (.istore_n 1, 1) := by decide +kernel
theorem dX6_can_12 : decode cX6_can 12 = .ok (.iconst 0, 1) := by decide +kernel
theorem dX6_can_13 : decode cX6_can 13 = .ok (.istore_n 2, 1) := by decide +kernel
theorem dX6_can_14 : decode cX6_can 14 = .ok (.iload_n 2, 1) := by decide +kernel
theorem dX6_can_15 : decode cX6_can 15 = .ok (.bipush 28, 2) := by decide +kernel
theorem dX6_can_17 : decode cX6_can 17 = .ok (.if_icmp .ge 27, 3) := by decide +kernel
theorem dX6_can_20 : decode cX6_can 20 = .ok (.iload_n 1, 1) := by decide +kernel
theorem dX6_can_21 : decode cX6_can 21 = .ok (.aload_n 0, 1) := by decide +kernel
theorem dX6_can_22 : decode cX6_can 22 = .ok (.iload_n 2, 1) := by decide +kernel
theorem dX6_can_23 : decode cX6_can 23 = .ok (.invokevirtual 146, 3) := by decide +kernel
theorem dX6_can_26 : decode cX6_can 26 = .ok (.ifCond .eq 9, 3) := by decide +kernel
theorem dX6_can_29 : decode cX6_can 29 = .ok (.iconst 1, 1) := by decide +kernel
theorem dX6_can_30 : decode cX6_can 30 = .ok (.iload_n 2, 1) := by decide +kernel
theorem dX6_can_31 : decode cX6_can 31 = .ok (.ishl, 1) := by decide +kernel
theorem dX6_can_32 : decode cX6_can 32 = .ok (.goto 4, 3) := by decide +kernel
theorem dX6_can_35 : decode cX6_can 35 = .ok (.iconst 0, 1) := by decide +kernel
theorem dX6_can_36 : decode cX6_can 36 = .ok (.ior, 1) := by decide +kernel
theorem dX6_can_37 : decode cX6_can 37 = .ok (.istore_n 1, 1) := by decide +kernel
theorem dX6_can_38 : decode cX6_can 38 = .ok (.iinc 2 1, 3) := by decide +kernel
theorem dX6_can_41 : decode cX6_can 41 = .ok (.goto (-27), 3) := by decide +kernel
theorem dX6_can_44 : decode cX6_can 44 = .ok (.iload_n 1, 1) := by decide +kernel
theorem dX6_can_45 : decode cX6_can 45 = .ok (.ireturn, 1) := by decide +kernel
def f_X6_can_j44 (N : Nat) (x1 : Int32) (σ : St) : Option Int32 :=
  some x1
def f_X6_can_j36 (N : Nat) (x2 : Int32) (y0 : Int32) (y1 : Int32) (σ : St) : Option ((Int32 × Int32) ⊕ ((Int32))) :=
  nm (y0 ||| y1) fun x1_1 =>
  nm (x2 + (1 : Int32)) fun x2_2 =>
  some (.inl (x1_1, x2_2))
def f_X6_can_b14 (N : Nat) (x1 : Int32) (x2 : Int32) (σ : St) : Option ((Int32 × Int32) ⊕ ((Int32))) :=
  if (28 : Int32) ≤ x2 then (some (.inr x1))
  else bd (f_X6_canDo N x2 σ) fun r_4 =>
  if r_4 = 0 then (f_X6_can_j36 N x2 x1 (0 : Int32) σ)
  else f_X6_can_j36 N x2 x1 ((1 : Int32) <<< (x2 &&& 31)) σ
def f_X6_can (N : Nat) (σ : St) : Option Int32 :=
  if (σ.1 0 2) = 0 then (some (-3 : Int32))
  else bd (lpF (fun s => f_X6_can_b14 N s.1 s.2 σ) N ((0 : Int32), (0 : Int32))) (fun o => f_X6_can_j44 N o σ)
abbrev rmX6_can : Room := { frames := 3, cells := 0, slots := 0, locals := 67 }
set_option maxRecDepth 100000 in
set_option maxHeartbeats 4000000 in
theorem c_X6_can (l : Launch) (D : va_G) (a : Nat → Nat) (c : Nat → ClassId) (A : Nat → Prop) (hD : ∀ σ, va_D A (mW a c σ)) (N : Nat) (σ : St) (r : Int32) (hf : f_X6_can N σ = some r) : MetI l yX6_can cX6_can 3 (some .int) rmX6_can (mW a c) D c A [.ref (a 0)] σ r σ := by
  refine mkI (by decide) (Nat.le_of_ble_eq_true rfl) rfl ?_
  intro p e s m args below meth cd Q ls h0 hK hP hret hl
  obtain ⟨S, hr, hlk⟩ := h0
  obtain ⟨hx, hb, hml, hown, ht⟩ := id S
  have hS : va_S A s.heap s.heap [] := va_S.rf
  have hl : lv_has ls 3 [(0, .ref (a 0))] := hl
  have hf := obs hf
  have j44 : ∀ (x1 : Int32) (H : Heap) (locs : List Loc) (ls : Array Slot), lv_has ls 3 [(1, .int x1)] → va_P D vwCl (mW a c σ) H → va_S A s.heap H locs → Option.bind (f_X6_can_j44 N x1 σ) some = some r → W p l e rmX6_can s m args below meth cd H locs 0 0 Q (F0 m 44 ls []) := by
    intro x1 H locs ls hl hP hS hf
    have hf := oun (f_X6_can_j44.eq_1 _ _ _) hf
    refine lv_iload_n hx hb dX6_can_44 rfl (lv_at hl 0 rfl) ?_
    exact hret _ _ _ _ _ _ dX6_can_45 rfl hP hS ⟨Option.some.inj hf, rfl⟩
  have L14 : ∀ (k : Nat) (x1 : Int32) (x2 : Int32) (H : Heap) (locs : List Loc) (ls : Array Slot), lv_has ls 3 [(0, .ref (a 0)), (1, .int x1), (2, .int x2)] → va_P D vwCl (mW a c σ) H → va_S A s.heap H locs → Option.bind (bd (lpF (fun s => f_X6_can_b14 N s.1 s.2 σ) k (x1, x2)) (fun o => f_X6_can_j44 N o σ)) some = some r → W p l e rmX6_can s m args below meth cd H locs 0 0 Q (F0 m 14 ls []) := by
    intro k
    induction k with
    | zero =>
      intro x1 x2 H locs ls hl hP hS hf
      exact (ol0 hf).elim
    | succ k ih =>
      intro x1 x2 H locs ls hl hP hS hf
      obtain ⟨K14, hf, hc14, hx14⟩ := ol1 hf
      have j36 : ∀ (x2 : Int32) (y0 : Int32) (y1 : Int32) (H : Heap) (locs : List Loc) (ls : Array Slot), lv_has ls 3 [(0, .ref (a 0)), (2, .int x2)] → va_P D vwCl (mW a c σ) H → va_S A s.heap H locs → Option.bind (f_X6_can_j36 N x2 y0 y1 σ) K14 = some r → W p l e rmX6_can s m args below meth cd H locs 0 0 Q (F0 m 36 ls [.int y1, .int y0]) := by
        intro x2 y0 y1 H locs ls hl hP hS hf
        have hf := oun (f_X6_can_j36.eq_1 _ _ _ _ _) hf
        refine lv_ior hx hb dX6_can_36 ?_
        obtain ⟨x1_1, ex1_1, hf⟩ := onm hf
        refine lv_nm ex1_1 ?_
        refine lv_istore_n (lv' := [(1, .int x1_1), (0, .ref (a 0)), (2, .int x2)]) hx hb dX6_can_37 rfl hl (by decide) rfl (fun ls hl => ?_)
        obtain ⟨x2_2, ex2_2, hf⟩ := onm hf
        refine lv_iinc (v := x2_2) (lv' := [(2, .int x2_2), (1, .int x1_1), (0, .ref (a 0))]) hx hb dX6_can_38 hl (k := 2) rfl ex2_2 (by decide) rfl (fun ls hl => ?_)
        refine lv_goto (tgt := 14) hx hb dX6_can_41 (by decide) ?_
        exact ih x1_1 x2_2 _ _ _ (lv_sub hl [2, 1, 0] rfl) hP hS (okx hf (hc14 _))
      have hf := oun (f_X6_can_b14.eq_1 N x1 x2 σ) hf
      refine lv_iload_n hx hb dX6_can_14 rfl (lv_at hl 2 rfl) ?_
      refine lv_bipush (v := (28 : Int32)) hx hb dX6_can_15 (by decide) ?_
      refine lv_icmp_ge (tgt := 44) hx hb dX6_can_17 (by decide) (fun c_3 => ?_) (fun c_3 => ?_)
      · have hf := oit c_3 hf
        exact j44 x1 _ _ _ (lv_sub hl [1] rfl) hP hS (okx hf (hx14 _))
      have hf := oif c_3 hf
      refine lv_iload_n hx hb dX6_can_20 rfl (lv_at hl 1 rfl) ?_
      refine lv_aload_n hx hb dX6_can_21 rfl (lv_at hl 0 rfl) ?_
      refine lv_iload_n hx hb dX6_can_22 rfl (lv_at hl 2 rfl) ?_
      obtain ⟨r_4, h_5, hf⟩ := obd hf
      refine xv_I (As := [.int x2]) (rest := [.int x1]) S k_X6_canDo q338 q339 q340 ⟨Nat.le_of_ble_eq_true rfl, Nat.le_of_ble_eq_true rfl⟩ ⟨rfl, rfl⟩ (c_X6_canDo l D a c A hD N x2 σ r_4 h_5) hK hP hS (va_recv hK.1 hP (rfl : vwCl[4]? = some (RX6, TX6, 27)) (mw0 a c σ)) rfl hl.1 rfl (Nat.le_of_ble_eq_true rfl) dX6_can_23 ⟨Nat.zero_le _, Nat.zero_le _⟩ (fun H locs hP hS => ?_)
      refine lv_if_eq (tgt := 35) hx hb dX6_can_26 (by decide) (fun c_6 => ?_) (fun c_6 => ?_)
      · have hf := oit c_6 hf
        refine lv_iconst (v := (0 : Int32)) hx hb dX6_can_35 (by decide) ?_
        exact j36 x2 x1 (0 : Int32) _ _ _ (lv_sub hl [0, 2] rfl) hP hS hf
      have hf := oif c_6 hf
      refine lv_iconst (v := (1 : Int32)) hx hb dX6_can_29 (by decide) ?_
      refine lv_iload_n hx hb dX6_can_30 rfl (lv_at hl 2 rfl) ?_
      refine lv_ishl hx hb dX6_can_31 ?_
      refine lv_goto (tgt := 36) hx hb dX6_can_32 (by decide) ?_
      exact j36 x2 x1 ((1 : Int32) <<< (x2 &&& 31)) _ _ _ (lv_sub hl [0, 2] rfl) hP hS hf
  have hf := oun (f_X6_can.eq_1 _ _) hf
  refine lv_aload_n hx hb dX6_can_0 rfl (lv_at hl 0 rfl) ?_
  refine va_get (D := D) (ci := 4) (v := .int (σ.1 0 2)) (C := RX6) (T := TX6) (N := 27) hx hb ht gX6 hown hK.1 hP 0 (mw0 a c σ) rfl 5 (by decide) (ht _ q139) (fun _ h9 => h9) rfl dX6_can_1 ?_
  refine lv_if_ne (tgt := 10) hx hb dX6_can_4 (by decide) (fun c_7 => ?_) (fun c_7 => ?_)
  · have hf := oif c_7 hf
    refine lv_iconst (v := (0 : Int32)) hx hb dX6_can_10 (by decide) ?_
    refine lv_istore_n (lv' := [(1, .int (0 : Int32)), (0, .ref (a 0))]) hx hb dX6_can_11 rfl hl (by decide) rfl (fun ls hl => ?_)
    refine lv_iconst (v := (0 : Int32)) hx hb dX6_can_12 (by decide) ?_
    refine lv_istore_n (lv' := [(2, .int (0 : Int32)), (1, .int (0 : Int32)), (0, .ref (a 0))]) hx hb dX6_can_13 rfl hl (by decide) rfl (fun ls hl => ?_)
    exact L14 N (0 : Int32) (0 : Int32) _ _ _ (lv_sub hl [2, 1, 0] rfl) hP hS hf
  have hf := oit c_7 hf
  refine lv_bipush (v := (-3 : Int32)) hx hb dX6_can_7 (by decide) ?_
  exact hret _ _ _ _ _ _ dX6_can_9 rfl hP hS ⟨Option.some.inj hf, rfl⟩
theorem dX6_becomeNest_0 : decode cX6_becomeNest 0 = .ok (.iload_n 1, 1) := by decide +kernel
theorem dX6_becomeNest_1 : decode cX6_becomeNest 1 = .ok (.istore_n 2, 1) := by decide +kernel
theorem dX6_becomeNest_2 : decode cX6_becomeNest 2 = .ok (.iconst 3, 1) := by decide +kernel
theorem dX6_becomeNest_3 : decode cX6_becomeNest 3 = .ok (.istore_n 3, 1) := by decide +kernel
theorem dX6_becomeNest_4 : decode cX6_becomeNest 4 = .ok (.iload_n 3, 1) := by decide +kernel
theorem dX6_becomeNest_5 : decode cX6_becomeNest 5 = .ok (.ifCond .lt 22, 3) := by decide +kernel
theorem dX6_becomeNest_8 : decode cX6_becomeNest 8 = .ok (.aload_n 0, 1) := by decide +kernel
theorem dX6_becomeNest_9 : decode cX6_becomeNest 9 = .ok (.getfield 28, 3) := by decide +kernel
theorem dX6_becomeNest_12 : decode cX6_becomeNest 12 = .ok (.iload_n 3, 1) := by decide +kernel
theorem dX6_becomeNest_13 : decode cX6_becomeNest 13 = .ok (.iload_n 2, 1) := by decide +kernel
theorem dX6_becomeNest_14 : decode cX6_becomeNest 14 = .ok (.iconst 5, 1) := by decide +kernel
theorem dX6_becomeNest_15 : decode cX6_becomeNest 15 = .ok (.irem, 1) := by decide +kernel
theorem dX6_becomeNest_16 : decode cX6_becomeNest 16 = .ok (.iastore, 1) := by decide +kernel
theorem dX6_becomeNest_17 : decode cX6_becomeNest 17 = .ok (.iload_n 2, 1) := by decide +kernel
theorem dX6_becomeNest_18 : decode cX6_becomeNest 18 = .ok (.iconst 5, 1) := by decide +kernel
theorem dX6_becomeNest_19 : decode cX6_becomeNest 19 = .ok (.idiv, 1) := by decide +kernel
theorem dX6_becomeNest_20 : decode cX6_becomeNest 20 = .ok (.istore_n 2, 1) := by decide +kernel
theorem dX6_becomeNest_21 : decode cX6_becomeNest 21 = .ok (.iinc 3 (-1), 3) := by decide +kernel
theorem dX6_becomeNest_24 : decode cX6_becomeNest 24 = .ok (.goto (-20), 3) := by decide +kernel
theorem dX6_becomeNest_27 : decode cX6_becomeNest 27 = .ok (.aload_n 0, 1) := by decide +kernel
theorem dX6_becomeNest_28 : decode cX6_becomeNest 28 = .ok (.iload_n 2, 1) := by decide +kernel
theorem dX6_becomeNest_29 : decode cX6_becomeNest 29 = .ok (.putfield 105, 3) := by decide +kernel
theorem dX6_becomeNest_32 : decode cX6_becomeNest 32 = .ok (.return_, 1) := by decide +kernel
def f_X6_becomeNest_j27 (N : Nat) (x2 : Int32) (σ : St) : Option St :=
  nm (wS σ 0 4 x2) fun σ_1 =>
  some σ_1
def f_X6_becomeNest_b4 (N : Nat) (x2 : Int32) (x3 : Int32) (σ : St) : Option ((Int32 × Int32 × St) ⊕ ((Int32 × St))) :=
  if x3 < 0 then (some (.inr (x2, σ)))
  else gd (ck x3 4) <|
  nm (wS σ 7 (Int32.toNatClampNeg x3) (x2 - x2 / (5 : Int32) * (5 : Int32))) fun σ_4 =>
  nm (x2 / (5 : Int32)) fun x2_5 =>
  nm (x3 + (-1 : Int32)) fun x3_6 =>
  some (.inl (x2_5, x3_6, σ_4))
def f_X6_becomeNest (N : Nat) (x1 : Int32) (σ : St) : Option St :=
  bd (lpF (fun s => f_X6_becomeNest_b4 N s.1 s.2.1 s.2.2) N (x1, (3 : Int32), σ)) (fun o => f_X6_becomeNest_j27 N o.1 o.2)
abbrev rmX6_becomeNest : Room := { frames := 0, cells := 0, slots := 0, locals := 0 }
set_option maxRecDepth 100000 in
set_option maxHeartbeats 4000000 in
theorem c_X6_becomeNest (l : Launch) (D : va_G) (a : Nat → Nat) (c : Nat → ClassId) (A : Nat → Prop) (hD : ∀ σ, va_D A (mW a c σ)) (N : Nat) (x1 : Int32) (σ : St) (u : St) (hf : f_X6_becomeNest N x1 σ = some u) : MetV l yX6_becomeNest cX6_becomeNest 4 (none) rmX6_becomeNest (mW a c) D c A [.ref (a 0), .int x1] σ u := by
  refine mkV (by decide) (Nat.le_of_ble_eq_true rfl) rfl ?_
  intro p e s m args below meth cd Q ls h0 hK hP hret hl
  obtain ⟨S, hr, hlk⟩ := h0
  obtain ⟨hx, hb, hml, hown, ht⟩ := id S
  have hS : va_S A s.heap s.heap [] := va_S.rf
  have hl : lv_has ls 4 [(0, .ref (a 0)), (1, .int x1)] := hl
  have hf := obs hf
  have j27 : ∀ (x2 : Int32) (σ : St) (H : Heap) (locs : List Loc) (ls : Array Slot), lv_has ls 4 [(0, .ref (a 0)), (2, .int x2)] → va_P D vwCl (mW a c σ) H → va_S A s.heap H locs → Option.bind (f_X6_becomeNest_j27 N x2 σ) some = some u → W p l e rmX6_becomeNest s m args below meth cd H locs 0 0 Q (F0 m 27 ls []) := by
    intro x2 σ H locs ls hl hP hS hf
    have hf := oun (f_X6_becomeNest_j27.eq_1 _ _ _) hf
    refine lv_aload_n hx hb dX6_becomeNest_27 rfl (lv_at hl 0 rfl) ?_
    refine lv_iload_n hx hb dX6_becomeNest_28 rfl (lv_at hl 1 rfl) ?_
    refine va_put (D := D) (ci := 4) (v := .int x2) (ty := .int) (C := RX6) (T := TX6) (N := 27) hx hb ht gX6 tyX6 tyX6_ok nmX6 hown hK.1 hP (hD σ) hS 0 (mw0 a c σ) rfl 11 (by decide) (ht _ q140) (fun _ h9 => h9) rfl (by decide +kernel) rfl rfl (Nat.le_of_ble_eq_true rfl) dX6_becomeNest_29 (fun H locs hP _ hS => ?_)
    have hP := vP_eq (mpX6_open a c σ x2) hP
    obtain ⟨σ_1, eσ_1, hf⟩ := onm hf
    rw [eσ_1] at hP
    exact hret _ _ _ _ _ dX6_becomeNest_32 hP hS (Option.some.inj hf)
  have L4 : ∀ (k : Nat) (x2 : Int32) (x3 : Int32) (σ : St) (H : Heap) (locs : List Loc) (ls : Array Slot), lv_has ls 4 [(0, .ref (a 0)), (2, .int x2), (3, .int x3)] → va_P D vwCl (mW a c σ) H → va_S A s.heap H locs → Option.bind (bd (lpF (fun s => f_X6_becomeNest_b4 N s.1 s.2.1 s.2.2) k (x2, x3, σ)) (fun o => f_X6_becomeNest_j27 N o.1 o.2)) some = some u → W p l e rmX6_becomeNest s m args below meth cd H locs 0 0 Q (F0 m 4 ls []) := by
    intro k
    induction k with
    | zero =>
      intro x2 x3 σ H locs ls hl hP hS hf
      exact (ol0 hf).elim
    | succ k ih =>
      intro x2 x3 σ H locs ls hl hP hS hf
      obtain ⟨K4, hf, hc4, hx4⟩ := ol1 hf
      have hf := oun (f_X6_becomeNest_b4.eq_1 N x2 x3 σ) hf
      refine lv_iload_n hx hb dX6_becomeNest_4 rfl (lv_at hl 2 rfl) ?_
      refine lv_if_lt (tgt := 27) hx hb dX6_becomeNest_5 (by decide) (fun c_2 => ?_) (fun c_2 => ?_)
      · have hf := oit c_2 hf
        exact j27 x2 σ _ _ _ (lv_sub hl [0, 1] rfl) hP hS (okx hf (hx4 _))
      have hf := oif c_2 hf
      refine lv_aload_n hx hb dX6_becomeNest_8 rfl (lv_at hl 0 rfl) ?_
      refine va_get (D := D) (ci := 4) (v := .ref (a 7)) (C := RX6) (T := TX6) (N := 27) hx hb ht gX6 hown hK.1 hP 0 (mw0 a c σ) rfl 10 (by decide) (ht _ q56) (fun _ h9 => h9) rfl dX6_becomeNest_9 ?_
      refine lv_iload_n hx hb dX6_becomeNest_12 rfl (lv_at hl 2 rfl) ?_
      refine lv_iload_n hx hb dX6_becomeNest_13 rfl (lv_at hl 1 rfl) ?_
      refine lv_iconst (v := (5 : Int32)) hx hb dX6_becomeNest_14 (by decide) ?_
      refine lv_irem hx hb dX6_becomeNest_15 (by decide) ?_
      obtain ⟨g_3, hf⟩ := ogd hf
      refine va_iast hx hb hK.1 hP (hD σ) hS 7 0 (mw7 a c σ) rfl (ck_in g_3) dX6_becomeNest_16 (fun H locs hP _ hS => ?_)
      have hP := vP_eq (mpA_m7 a c σ (Int32.toNatClampNeg x3) (x2 - x2 / (5 : Int32) * (5 : Int32))) hP
      obtain ⟨σ_4, eσ_4, hf⟩ := onm hf
      rw [eσ_4] at hP
      refine lv_iload_n hx hb dX6_becomeNest_17 rfl (lv_at hl 1 rfl) ?_
      refine lv_iconst (v := (5 : Int32)) hx hb dX6_becomeNest_18 (by decide) ?_
      refine lv_idiv hx hb dX6_becomeNest_19 (by decide) ?_
      obtain ⟨x2_5, ex2_5, hf⟩ := onm hf
      refine lv_nm ex2_5 ?_
      refine lv_istore_n (lv' := [(2, .int x2_5), (0, .ref (a 0)), (3, .int x3)]) hx hb dX6_becomeNest_20 rfl hl (by decide) rfl (fun ls hl => ?_)
      obtain ⟨x3_6, ex3_6, hf⟩ := onm hf
      refine lv_iinc (v := x3_6) (lv' := [(3, .int x3_6), (2, .int x2_5), (0, .ref (a 0))]) hx hb dX6_becomeNest_21 hl (k := 2) rfl ex3_6 (by decide) rfl (fun ls hl => ?_)
      refine lv_goto (tgt := 4) hx hb dX6_becomeNest_24 (by decide) ?_
      exact ih x2_5 x3_6 σ_4 _ _ _ (lv_sub hl [2, 1, 0] rfl) hP hS (okx hf (hc4 _))
  have hf := oun (f_X6_becomeNest.eq_1 _ _ _) hf
  refine lv_iload_n hx hb dX6_becomeNest_0 rfl (lv_at hl 1 rfl) ?_
  refine lv_istore_n (lv' := [(2, .int x1), (0, .ref (a 0)), (1, .int x1)]) hx hb dX6_becomeNest_1 rfl hl (by decide) rfl (fun ls hl => ?_)
  refine lv_iconst (v := (3 : Int32)) hx hb dX6_becomeNest_2 (by decide) ?_
  refine lv_istore_n (lv' := [(3, .int (3 : Int32)), (2, .int x1), (0, .ref (a 0)), (1, .int x1)]) hx hb dX6_becomeNest_3 rfl hl (by decide) rfl (fun ls hl => ?_)
  exact L4 N x1 (3 : Int32) σ _ _ _ (lv_sub hl [2, 1, 0] rfl) hP hS hf
theorem dX6_goDay_0 : decode cX6_goDay 0 = .ok (.iconst 0, 1) := by decide +kernel
theorem dX6_goDay_1 : decode cX6_goDay 1 = .ok (.istore_n 3, 1) := by decide +kernel
theorem dX6_goDay_2 : decode cX6_goDay 2 = .ok (.iload_n 3, 1) := by decide +kernel
theorem dX6_goDay_3 : decode cX6_goDay 3 = .ok (.iload_n 2, 1) := by decide +kernel
theorem dX6_goDay_4 : decode cX6_goDay 4 = .ok (.if_icmp .ge 38, 3) := by decide +kernel
theorem dX6_goDay_7 : decode cX6_goDay 7 = .ok (.aload_n 0, 1) := by decide +kernel
theorem dX6_goDay_8 : decode cX6_goDay 8 = .ok (.aload_n 0, 1) := by decide +kernel
theorem dX6_goDay_9 : decode cX6_goDay 9 = .ok (.getfield 16, 3) := by decide +kernel
theorem dX6_goDay_12 : decode cX6_goDay 12 = .ok (.iload_n 1, 1) := by decide +kernel
theorem dX6_goDay_13 : decode cX6_goDay 13 = .ok (.iload_n 3, 1) := by decide +kernel
theorem dX6_goDay_14 : decode cX6_goDay 14 = .ok (.iadd, 1) := by decide +kernel
theorem dX6_goDay_15 : decode cX6_goDay 15 = .ok (.iaload, 1) := by decide +kernel
theorem dX6_goDay_16 : decode cX6_goDay 16 = .ok (.invokevirtual 146, 3) := by decide +kernel
theorem dX6_goDay_19 : decode cX6_goDay 19 = .ok (.ifCond .ne 5, 3) := by decide +kernel
theorem dX6_goDay_22 : decode cX6_goDay 22 = .ok (.iload_n 3, 1) := by decide +kernel
theorem dX6_goDay_23 : decode cX6_goDay 23 = .ok (.ireturn, 1) := by decide +kernel
theorem dX6_goDay_24 : decode cX6_goDay 24 = .ok (.aload_n 0, 1) := by decide +kernel
theorem dX6_goDay_25 : decode cX6_goDay 25 = .ok (.aload_n 0, 1) := by decide +kernel
theorem dX6_goDay_26 : decode cX6_goDay 26 = .ok (.getfield 16, 3) := by decide +kernel
theorem dX6_goDay_29 : decode cX6_goDay 29 = .ok (.iload_n 1, 1) := by decide +kernel
theorem dX6_goDay_30 : decode cX6_goDay 30 = .ok (.iload_n 3, 1) := by decide +kernel
theorem dX6_goDay_31 : decode cX6_goDay 31 = .ok (.iadd, 1) := by decide +kernel
theorem dX6_goDay_32 : decode cX6_goDay 32 = .ok (.iaload, 1) := by decide +kernel
theorem dX6_goDay_33 : decode cX6_goDay 33 = .ok (.invokevirtual 149, 3) := by decide +kernel
theorem dX6_goDay_36 : decode cX6_goDay 36 = .ok (.iinc 3 1, 3) := by decide +kernel
theorem dX6_goDay_39 : decode cX6_goDay 39 = .ok (.goto (-37), 3) := by decide +kernel
theorem dX6_goDay_42 : decode cX6_goDay 42 = .ok (.bipush (-9), 2) := by decide +kernel
theorem dX6_goDay_44 : decode cX6_goDay 44 = .ok (.ireturn, 1) := by decide +kernel
def f_X6_goDay_j42 (N : Nat) (σ : St) : Option (Int32 × St) :=
  some ((-9 : Int32), σ)
def f_X6_goDay_b2 (N : Nat) (x1 : Int32) (x2 : Int32) (x3 : Int32) (σ : St) : Option ((Int32 × St) ⊕ ((Int32 × St) ⊕ (St))) :=
  if x2 ≤ x3 then (some (.inr (.inr σ)))
  else gd (ck (x1 + x3) 240) <|
  bd (f_X6_canDo N (σ.1 3 (x1 + x3).toNatClampNeg) σ) fun r_3 =>
  if r_3 = 0 then (some (.inr (.inl (x3, σ))))
  else gd (ck (x1 + x3) 240) <|
    bd (f_X6_does (σ.1 3 (x1 + x3).toNatClampNeg) σ) fun σ_7 =>
    nm (x3 + (1 : Int32)) fun x3_9 =>
    some (.inl (x3_9, σ_7))
def f_X6_goDay (N : Nat) (x1 : Int32) (x2 : Int32) (σ : St) : Option (Int32 × St) :=
  bd (lpF (fun s => f_X6_goDay_b2 N x1 x2 s.1 s.2) N ((0 : Int32), σ)) (Sum.elim (fun v => some v) (fun o => f_X6_goDay_j42 N o))
abbrev rmX6_goDay : Room := { frames := 3, cells := 0, slots := 0, locals := 67 }
set_option maxRecDepth 100000 in
set_option maxHeartbeats 4000000 in
theorem c_X6_goDay (l : Launch) (D : va_G) (a : Nat → Nat) (c : Nat → ClassId) (A : Nat → Prop) (hD : ∀ σ, va_D A (mW a c σ)) (N : Nat) (x1 : Int32) (x2 : Int32) (σ : St) (r : Int32) (u : St) (hf : f_X6_goDay N x1 x2 σ = some (r, u)) : MetI l yX6_goDay cX6_goDay 4 (some .int) rmX6_goDay (mW a c) D c A [.ref (a 0), .int x1, .int x2] σ r u := by
  refine mkI (by decide) (Nat.le_of_ble_eq_true rfl) rfl ?_
  intro p e s m args below meth cd Q ls h0 hK hP hret hl
  obtain ⟨S, hr, hlk⟩ := h0
  obtain ⟨hx, hb, hml, hown, ht⟩ := id S
  have hS : va_S A s.heap s.heap [] := va_S.rf
  have hl : lv_has ls 4 [(0, .ref (a 0)), (1, .int x1), (2, .int x2)] := hl
  have hf := obs hf
  have j42 : ∀ (σ : St) (H : Heap) (locs : List Loc) (ls : Array Slot), lv_has ls 4 [] → va_P D vwCl (mW a c σ) H → va_S A s.heap H locs → Option.bind (f_X6_goDay_j42 N σ) some = some (r, u) → W p l e rmX6_goDay s m args below meth cd H locs 0 0 Q (F0 m 42 ls []) := by
    intro σ H locs ls hl hP hS hf
    have hf := oun (f_X6_goDay_j42.eq_1 _ _) hf
    refine lv_bipush (v := (-9 : Int32)) hx hb dX6_goDay_42 (by decide) ?_
    exact hret _ _ _ _ _ _ dX6_goDay_44 rfl hP hS (oret hf)
  have L2 : ∀ (x1 : Int32) (x2 : Int32) (k : Nat) (x3 : Int32) (σ : St) (H : Heap) (locs : List Loc) (ls : Array Slot), lv_has ls 4 [(0, .ref (a 0)), (1, .int x1), (2, .int x2), (3, .int x3)] → va_P D vwCl (mW a c σ) H → va_S A s.heap H locs → Option.bind (bd (lpF (fun s => f_X6_goDay_b2 N x1 x2 s.1 s.2) k (x3, σ)) (Sum.elim (fun v => some v) (fun o => f_X6_goDay_j42 N o))) some = some (r, u) → W p l e rmX6_goDay s m args below meth cd H locs 0 0 Q (F0 m 2 ls []) := by
    intro x1 x2 k
    induction k with
    | zero =>
      intro x3 σ H locs ls hl hP hS hf
      exact (ol0 hf).elim
    | succ k ih =>
      intro x3 σ H locs ls hl hP hS hf
      obtain ⟨K2, hf, hc2, hx2⟩ := ol1 hf
      have hf := oun (f_X6_goDay_b2.eq_1 N x1 x2 x3 σ) hf
      refine lv_iload_n hx hb dX6_goDay_2 rfl (lv_at hl 3 rfl) ?_
      refine lv_iload_n hx hb dX6_goDay_3 rfl (lv_at hl 2 rfl) ?_
      refine lv_icmp_ge (tgt := 42) hx hb dX6_goDay_4 (by decide) (fun c_1 => ?_) (fun c_1 => ?_)
      · have hf := oit c_1 hf
        exact j42 σ _ _ _ (lv_sub hl [] rfl) hP hS (okx hf (hx2 _))
      have hf := oif c_1 hf
      refine lv_aload_n hx hb dX6_goDay_7 rfl (lv_at hl 0 rfl) ?_
      refine lv_aload_n hx hb dX6_goDay_8 rfl (lv_at hl 0 rfl) ?_
      refine va_get (D := D) (ci := 4) (v := .ref (a 3)) (C := RX6) (T := TX6) (N := 27) hx hb ht gX6 hown hK.1 hP 0 (mw0 a c σ) rfl 4 (by decide) (ht _ q52) (fun _ h9 => h9) rfl dX6_goDay_9 ?_
      refine lv_iload_n hx hb dX6_goDay_12 rfl (lv_at hl 1 rfl) ?_
      refine lv_iload_n hx hb dX6_goDay_13 rfl (lv_at hl 3 rfl) ?_
      refine lv_iadd hx hb dX6_goDay_14 ?_
      obtain ⟨g_2, hf⟩ := ogd hf
      refine va_iald hx hb hK.1 hP 3 0 (mw3 a c σ) rfl (ck_in g_2) dX6_goDay_15 ?_
      obtain ⟨r_3, h_4, hf⟩ := obd hf
      refine xv_I (As := [.int (σ.1 3 (x1 + x3).toNatClampNeg)]) (rest := []) S k_X6_canDo q338 q339 q340 ⟨Nat.le_of_ble_eq_true rfl, Nat.le_of_ble_eq_true rfl⟩ ⟨rfl, rfl⟩ (c_X6_canDo l D a c A hD N (σ.1 3 (x1 + x3).toNatClampNeg) σ r_3 h_4) hK hP hS (va_recv hK.1 hP (rfl : vwCl[4]? = some (RX6, TX6, 27)) (mw0 a c σ)) rfl hl.1 rfl (Nat.le_of_ble_eq_true rfl) dX6_goDay_16 ⟨Nat.zero_le _, Nat.zero_le _⟩ (fun H locs hP hS => ?_)
      refine lv_if_ne (tgt := 24) hx hb dX6_goDay_19 (by decide) (fun c_5 => ?_) (fun c_5 => ?_)
      · have hf := oif c_5 hf
        refine lv_aload_n hx hb dX6_goDay_24 rfl (lv_at hl 0 rfl) ?_
        refine lv_aload_n hx hb dX6_goDay_25 rfl (lv_at hl 0 rfl) ?_
        refine va_get (D := D) (ci := 4) (v := .ref (a 3)) (C := RX6) (T := TX6) (N := 27) hx hb ht gX6 hown hK.1 hP 0 (mw0 a c σ) rfl 4 (by decide) (ht _ q52) (fun _ h9 => h9) rfl dX6_goDay_26 ?_
        refine lv_iload_n hx hb dX6_goDay_29 rfl (lv_at hl 1 rfl) ?_
        refine lv_iload_n hx hb dX6_goDay_30 rfl (lv_at hl 3 rfl) ?_
        refine lv_iadd hx hb dX6_goDay_31 ?_
        obtain ⟨g_6, hf⟩ := ogd hf
        refine va_iald hx hb hK.1 hP 3 0 (mw3 a c σ) rfl (ck_in g_6) dX6_goDay_32 ?_
        obtain ⟨σ_7, h_8, hf⟩ := obd hf
        refine xv_V (As := [.int (σ.1 3 (x1 + x3).toNatClampNeg)]) (rest := []) S k_X6_does q342 q343 q344 ⟨Nat.le_of_ble_eq_true rfl, Nat.le_of_ble_eq_true rfl⟩ ⟨rfl, rfl⟩ (c_X6_does l D a c A hD (σ.1 3 (x1 + x3).toNatClampNeg) σ σ_7 h_8) hK hP hS (va_recv hK.1 hP (rfl : vwCl[4]? = some (RX6, TX6, 27)) (mw0 a c σ)) rfl hl.1 rfl (Nat.le_of_ble_eq_true rfl) dX6_goDay_33 ⟨Nat.zero_le _, Nat.zero_le _⟩ (fun H locs hP hS => ?_)
        obtain ⟨x3_9, ex3_9, hf⟩ := onm hf
        refine lv_iinc (v := x3_9) (lv' := [(3, .int x3_9), (0, .ref (a 0)), (1, .int x1), (2, .int x2)]) hx hb dX6_goDay_36 hl (k := 3) rfl ex3_9 (by decide) rfl (fun ls hl => ?_)
        refine lv_goto (tgt := 2) hx hb dX6_goDay_39 (by decide) ?_
        exact ih x3_9 σ_7 _ _ _ (lv_sub hl [1, 2, 3, 0] rfl) hP hS (okx hf (hc2 _))
      have hf := oit c_5 hf
      refine lv_iload_n hx hb dX6_goDay_22 rfl (lv_at hl 3 rfl) ?_
      have hf := okx hf (hx2 _)
      exact hret _ _ _ _ _ _ dX6_goDay_23 rfl hP hS (oret hf)
  have hf := oun (f_X6_goDay.eq_1 _ _ _ _) hf
  refine lv_iconst (v := (0 : Int32)) hx hb dX6_goDay_0 (by decide) ?_
  refine lv_istore_n (lv' := [(3, .int (0 : Int32)), (0, .ref (a 0)), (1, .int x1), (2, .int x2)]) hx hb dX6_goDay_1 rfl hl (by decide) rfl (fun ls hl => ?_)
  exact L2 x1 x2 N (0 : Int32) σ _ _ _ (lv_sub hl [1, 2, 3, 0] rfl) hP hS hf
