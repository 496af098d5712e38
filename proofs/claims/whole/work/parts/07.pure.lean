theorem dX4_kindOf_0 : decode cX4_kindOf 0 = .ok (.iload_n 0, 1) := by decide +kernel
theorem dX4_kindOf_1 : decode cX4_kindOf 1 = .ok (.lookupswitch 41 #[(98, 37), (112, 35), (115, 39)], 35) := by decide +kernel
theorem dX4_kindOf_36 : decode cX4_kindOf 36 = .ok (.iconst 0, 1) := by decide +kernel
theorem dX4_kindOf_37 : decode cX4_kindOf 37 = .ok (.ireturn, 1) := by decide +kernel
theorem dX4_kindOf_38 : decode cX4_kindOf 38 = .ok (.iconst 1, 1) := by decide +kernel
theorem dX4_kindOf_39 : decode cX4_kindOf 39 = .ok (.ireturn, 1) := by decide +kernel
theorem dX4_kindOf_40 : decode cX4_kindOf 40 = .ok (.iconst 2, 1) := by decide +kernel
theorem dX4_kindOf_41 : decode cX4_kindOf 41 = .ok (.ireturn, 1) := by decide +kernel
theorem dX4_kindOf_42 : decode cX4_kindOf 42 = .ok (.bipush (-9), 2) := by decide +kernel
theorem dX4_kindOf_44 : decode cX4_kindOf 44 = .ok (.ireturn, 1) := by decide +kernel
def f_X4_kindOf (x0 : Int32) : Option Int32 :=
  if x0 = (98 : Int32) then (some (1 : Int32))
  else if x0 = (112 : Int32) then (some (0 : Int32))
  else if x0 = (115 : Int32) then (some (2 : Int32))
  else some (-9 : Int32)
abbrev rmX4_kindOf : Room := { frames := 0, cells := 0, slots := 0, locals := 0 }
set_option maxRecDepth 100000 in
set_option maxHeartbeats 4000000 in
theorem c_X4_kindOf (l : Launch) (x0 : Int32) (r : Int32) (hf : f_X4_kindOf x0 = some r) : MetS l yX4_kindOf cX4_kindOf 1 (some .int) rmX4_kindOf [.int x0] r := by
  refine mkS (by decide) (Nat.le_of_ble_eq_true rfl) rfl ?_
  intro p e s m args below meth cd Q ls h0 hK hret hl
  obtain ⟨S, hr, hlk⟩ := h0
  obtain ⟨hx, hb, hml, hown, ht⟩ := id S
  have hl : lv_has ls 1 [(0, .int x0)] := hl
  have hf := obs hf
  have hf := oun (f_X4_kindOf.eq_1 _) hf
  refine lv_iload_n hx hb dX4_kindOf_0 rfl (lv_at hl 0 rfl) ?_
  by_cases c_1 : x0 = (98 : Int32)
  · have hf := oit c_1 hf
    refine lv_lookup (tgt := 38) (off := 37) hx hb dX4_kindOf_1 (by decide) (by rw [c_1]; decide) (by decide) ?_
    refine lv_iconst (v := (1 : Int32)) hx hb dX4_kindOf_38 (by decide) ?_
    exact hret _ _ _ dX4_kindOf_39 rfl (Option.some.inj hf)
  have hf := oif c_1 hf
  by_cases c_2 : x0 = (112 : Int32)
  · have hf := oit c_2 hf
    refine lv_lookup (tgt := 36) (off := 35) hx hb dX4_kindOf_1 (by decide) (by rw [c_2]; decide) (by decide) ?_
    refine lv_iconst (v := (0 : Int32)) hx hb dX4_kindOf_36 (by decide) ?_
    exact hret _ _ _ dX4_kindOf_37 rfl (Option.some.inj hf)
  have hf := oif c_2 hf
  by_cases c_3 : x0 = (115 : Int32)
  · have hf := oit c_3 hf
    refine lv_lookup (tgt := 40) (off := 39) hx hb dX4_kindOf_1 (by decide) (by rw [c_3]; decide) (by decide) ?_
    refine lv_iconst (v := (2 : Int32)) hx hb dX4_kindOf_40 (by decide) ?_
    exact hret _ _ _ dX4_kindOf_41 rfl (Option.some.inj hf)
  have hf := oif c_3 hf
  refine lv_lookup (tgt := 42) (off := 41) hx hb dX4_kindOf_1 (by decide) (by show Op.lookupswitch.offset [(98, 37), (112, 35), (115, 39)] 41 _ = _; rw [lv_osw c_1 (a := 98) (by decide), lv_osw c_2 (a := 112) (by decide), lv_osw c_3 (a := 115) (by decide)]; rfl) (by decide) ?_
  refine lv_bipush (v := (-9 : Int32)) hx hb dX4_kindOf_42 (by decide) ?_
  exact hret _ _ _ dX4_kindOf_44 rfl (Option.some.inj hf)
theorem dX4_goesOn_0 : decode cX4_goesOn 0 = .ok (.iload_n 0, 1) := by decide +kernel
theorem dX4_goesOn_1 : decode cX4_goesOn 1 = .ok (.ifCond .ne 15, 3) := by decide +kernel
theorem dX4_goesOn_4 : decode cX4_goesOn 4 = .ok (.iload_n 1, 1) := by decide +kernel
theorem dX4_goesOn_5 : decode cX4_goesOn 5 = .ok (.bipush 110, 2) := by decide +kernel
theorem dX4_goesOn_7 : decode cX4_goesOn 7 = .ok (.if_icmp .ne 7, 3) := by decide +kernel
theorem dX4_goesOn_10 : decode cX4_goesOn 10 = .ok (.iconst 1, 1) := by decide +kernel
theorem dX4_goesOn_11 : decode cX4_goesOn 11 = .ok (.goto 4, 3) := by decide +kernel
theorem dX4_goesOn_14 : decode cX4_goesOn 14 = .ok (.iconst 0, 1) := by decide +kernel
theorem dX4_goesOn_15 : decode cX4_goesOn 15 = .ok (.ireturn, 1) := by decide +kernel
theorem dX4_goesOn_16 : decode cX4_goesOn 16 = .ok (.iload_n 0, 1) := by decide +kernel
theorem dX4_goesOn_17 : decode cX4_goesOn 17 = .ok (.bipush 17, 2) := by decide +kernel
theorem dX4_goesOn_19 : decode cX4_goesOn 19 = .ok (.if_icmp .lt 5, 3) := by decide +kernel
theorem dX4_goesOn_22 : decode cX4_goesOn 22 = .ok (.iconst 0, 1) := by decide +kernel
theorem dX4_goesOn_23 : decode cX4_goesOn 23 = .ok (.ireturn, 1) := by decide +kernel
theorem dX4_goesOn_24 : decode cX4_goesOn 24 = .ok (.iload_n 0, 1) := by decide +kernel
theorem dX4_goesOn_25 : decode cX4_goesOn 25 = .ok (.iconst 1, 1) := by decide +kernel
theorem dX4_goesOn_26 : decode cX4_goesOn 26 = .ok (.isub, 1) := by decide +kernel
theorem dX4_goesOn_27 : decode cX4_goesOn 27 = .ok (.iconst 4, 1) := by decide +kernel
theorem dX4_goesOn_28 : decode cX4_goesOn 28 = .ok (.irem, 1) := by decide +kernel
theorem dX4_goesOn_29 : decode cX4_goesOn 29 = .ok (.tableswitch 72 0 2 #[27, 39, 54], 27) := by decide +kernel
theorem dX4_goesOn_56 : decode cX4_goesOn 56 = .ok (.iload_n 1, 1) := by decide +kernel
theorem dX4_goesOn_57 : decode cX4_goesOn 57 = .ok (.bipush 59, 2) := by decide +kernel
theorem dX4_goesOn_59 : decode cX4_goesOn 59 = .ok (.if_icmp .ne 7, 3) := by decide +kernel
theorem dX4_goesOn_62 : decode cX4_goesOn 62 = .ok (.iconst 1, 1) := by decide +kernel
theorem dX4_goesOn_63 : decode cX4_goesOn 63 = .ok (.goto 4, 3) := by decide +kernel
theorem dX4_goesOn_66 : decode cX4_goesOn 66 = .ok (.iconst 0, 1) := by decide +kernel
theorem dX4_goesOn_67 : decode cX4_goesOn 67 = .ok (.ireturn, 1) := by decide +kernel
theorem dX4_goesOn_68 : decode cX4_goesOn 68 = .ok (.iload_n 1, 1) := by decide +kernel
theorem dX4_goesOn_69 : decode cX4_goesOn 69 = .ok (.invokestatic 21, 3) := by decide +kernel
theorem dX4_goesOn_72 : decode cX4_goesOn 72 = .ok (.bipush (-9), 2) := by decide +kernel
theorem dX4_goesOn_74 : decode cX4_goesOn 74 = .ok (.if_icmp .eq 7, 3) := by decide +kernel
theorem dX4_goesOn_77 : decode cX4_goesOn 77 = .ok (.iconst 1, 1) := by decide +kernel
theorem dX4_goesOn_78 : decode cX4_goesOn 78 = .ok (.goto 4, 3) := by decide +kernel
theorem dX4_goesOn_81 : decode cX4_goesOn 81 = .ok (.iconst 0, 1) := by decide +kernel
theorem dX4_goesOn_82 : decode cX4_goesOn 82 = .ok (.ireturn, 1) := by decide +kernel
theorem dX4_goesOn_83 : decode cX4_goesOn 83 = .ok (.iload_n 1, 1) := by decide +kernel
theorem dX4_goesOn_84 : decode cX4_goesOn 84 = .ok (.bipush 49, 2) := by decide +kernel
theorem dX4_goesOn_86 : decode cX4_goesOn 86 = .ok (.if_icmp .lt 13, 3) := by decide +kernel
theorem dX4_goesOn_89 : decode cX4_goesOn 89 = .ok (.iload_n 1, 1) := by decide +kernel
theorem dX4_goesOn_90 : decode cX4_goesOn 90 = .ok (.bipush 57, 2) := by decide +kernel
theorem dX4_goesOn_92 : decode cX4_goesOn 92 = .ok (.if_icmp .gt 7, 3) := by decide +kernel
theorem dX4_goesOn_95 : decode cX4_goesOn 95 = .ok (.iconst 1, 1) := by decide +kernel
theorem dX4_goesOn_96 : decode cX4_goesOn 96 = .ok (.goto 4, 3) := by decide +kernel
theorem dX4_goesOn_99 : decode cX4_goesOn 99 = .ok (.iconst 0, 1) := by decide +kernel
theorem dX4_goesOn_100 : decode cX4_goesOn 100 = .ok (.ireturn, 1) := by decide +kernel
theorem dX4_goesOn_101 : decode cX4_goesOn 101 = .ok (.iload_n 1, 1) := by decide +kernel
theorem dX4_goesOn_102 : decode cX4_goesOn 102 = .ok (.bipush 48, 2) := by decide +kernel
theorem dX4_goesOn_104 : decode cX4_goesOn 104 = .ok (.if_icmp .lt 12, 3) := by decide +kernel
theorem dX4_goesOn_107 : decode cX4_goesOn 107 = .ok (.iload_n 1, 1) := by decide +kernel
theorem dX4_goesOn_108 : decode cX4_goesOn 108 = .ok (.iload_n 2, 1) := by decide +kernel
theorem dX4_goesOn_109 : decode cX4_goesOn 109 = .ok (.if_icmp .ge 7, 3) := by decide +kernel
theorem dX4_goesOn_112 : decode cX4_goesOn 112 = .ok (.iconst 1, 1) := by decide +kernel
theorem dX4_goesOn_113 : decode cX4_goesOn 113 = .ok (.goto 4, 3) := by decide +kernel
theorem dX4_goesOn_116 : decode cX4_goesOn 116 = .ok (.iconst 0, 1) := by decide +kernel
theorem dX4_goesOn_117 : decode cX4_goesOn 117 = .ok (.ireturn, 1) := by decide +kernel
def f_X4_goesOn (x0 : Int32) (x1 : Int32) (x2 : Int32) : Option Int32 :=
  if x0 = 0 then (if x1 = (110 : Int32) then (some (1 : Int32))
    else some (0 : Int32))
  else if x0 < (17 : Int32) then (nm ((x0 - (1 : Int32)) - (x0 - (1 : Int32)) / (4 : Int32) * (4 : Int32)) fun w_3 =>
      if w_3 = (0 : Int32) then (if x1 = (59 : Int32) then (some (1 : Int32))
        else some (0 : Int32))
      else if w_3 = (1 : Int32) then (bd (f_X4_kindOf x1) fun r_7 =>
        if r_7 = (-9 : Int32) then (some (0 : Int32))
        else some (1 : Int32))
      else if w_3 = (2 : Int32) then (if x1 < (49 : Int32) then (some (0 : Int32))
        else if (57 : Int32) < x1 then (some (0 : Int32))
        else some (1 : Int32))
      else if x1 < (48 : Int32) then (some (0 : Int32))
      else if x2 ≤ x1 then (some (0 : Int32))
      else some (1 : Int32))
    else some (0 : Int32)
abbrev rmX4_goesOn : Room := { frames := 1, cells := 0, slots := 0, locals := 20 }
set_option maxRecDepth 100000 in
set_option maxHeartbeats 4000000 in
theorem c_X4_goesOn (l : Launch) (x0 : Int32) (x1 : Int32) (x2 : Int32) (r : Int32) (hf : f_X4_goesOn x0 x1 x2 = some r) : MetS l yX4_goesOn cX4_goesOn 3 (some .boolean) rmX4_goesOn [.int x0, .int x1, .int x2] r := by
  refine mkS (by decide) (Nat.le_of_ble_eq_true rfl) rfl ?_
  intro p e s m args below meth cd Q ls h0 hK hret hl
  obtain ⟨S, hr, hlk⟩ := h0
  obtain ⟨hx, hb, hml, hown, ht⟩ := id S
  have hl : lv_has ls 3 [(0, .int x0), (1, .int x1), (2, .int x2)] := hl
  have hf := obs hf
  have hf := oun (f_X4_goesOn.eq_1 _ _ _) hf
  refine lv_iload_n hx hb dX4_goesOn_0 rfl (lv_at hl 0 rfl) ?_
  refine lv_if_ne (tgt := 16) hx hb dX4_goesOn_1 (by decide) (fun c_1 => ?_) (fun c_1 => ?_)
  · have hf := oif c_1 hf
    refine lv_iload_n hx hb dX4_goesOn_16 rfl (lv_at hl 0 rfl) ?_
    refine lv_bipush (v := (17 : Int32)) hx hb dX4_goesOn_17 (by decide) ?_
    refine lv_icmp_lt (tgt := 24) hx hb dX4_goesOn_19 (by decide) (fun c_2 => ?_) (fun c_2 => ?_)
    · have hf := oit c_2 hf
      refine lv_iload_n hx hb dX4_goesOn_24 rfl (lv_at hl 0 rfl) ?_
      refine lv_iconst (v := (1 : Int32)) hx hb dX4_goesOn_25 (by decide) ?_
      refine lv_isub hx hb dX4_goesOn_26 ?_
      refine lv_iconst (v := (4 : Int32)) hx hb dX4_goesOn_27 (by decide) ?_
      refine lv_irem hx hb dX4_goesOn_28 (by decide) ?_
      obtain ⟨w_3, ew_3, hf⟩ := onm hf
      refine lv_nm ew_3 ?_
      by_cases c_4 : w_3 = (0 : Int32)
      · have hf := oit c_4 hf
        refine lv_tableIn (tgt := 56) (off := 27) hx hb dX4_goesOn_29 (by rw [c_4]; decide) (by rw [c_4]; decide) (by rw [c_4]; decide) (by decide) ?_
        refine lv_iload_n hx hb dX4_goesOn_56 rfl (lv_at hl 1 rfl) ?_
        refine lv_bipush (v := (59 : Int32)) hx hb dX4_goesOn_57 (by decide) ?_
        refine lv_icmp_ne (tgt := 66) hx hb dX4_goesOn_59 (by decide) (fun c_5 => ?_) (fun c_5 => ?_)
        · have hf := oif c_5 hf
          refine lv_iconst (v := (0 : Int32)) hx hb dX4_goesOn_66 (by decide) ?_
          exact hret _ _ _ dX4_goesOn_67 (by decide) (Option.some.inj hf)
        have hf := oit c_5 hf
        refine lv_iconst (v := (1 : Int32)) hx hb dX4_goesOn_62 (by decide) ?_
        refine lv_goto (tgt := 67) hx hb dX4_goesOn_63 (by decide) ?_
        exact hret _ _ _ dX4_goesOn_67 (by decide) (Option.some.inj hf)
      have hf := oif c_4 hf
      by_cases c_6 : w_3 = (1 : Int32)
      · have hf := oit c_6 hf
        refine lv_tableIn (tgt := 68) (off := 39) hx hb dX4_goesOn_29 (by rw [c_6]; decide) (by rw [c_6]; decide) (by rw [c_6]; decide) (by decide) ?_
        refine lv_iload_n hx hb dX4_goesOn_68 rfl (lv_at hl 1 rfl) ?_
        obtain ⟨r_7, h_8, hf⟩ := obd hf
        refine xs_S (As := [.int x1]) (rest := []) S k_X4_kindOf q109 q110 ⟨Nat.le_of_ble_eq_true rfl, Nat.le_of_ble_eq_true rfl⟩ ⟨rfl, rfl⟩ (c_X4_kindOf l x1 r_7 h_8) hK rfl hl.1 rfl (Nat.le_of_ble_eq_true rfl) dX4_goesOn_69 ⟨Nat.zero_le _, Nat.zero_le _⟩ ?_
        refine lv_bipush (v := (-9 : Int32)) hx hb dX4_goesOn_72 (by decide) ?_
        refine lv_icmp_eq (tgt := 81) hx hb dX4_goesOn_74 (by decide) (fun c_9 => ?_) (fun c_9 => ?_)
        · have hf := oit c_9 hf
          refine lv_iconst (v := (0 : Int32)) hx hb dX4_goesOn_81 (by decide) ?_
          exact hret _ _ _ dX4_goesOn_82 (by decide) (Option.some.inj hf)
        have hf := oif c_9 hf
        refine lv_iconst (v := (1 : Int32)) hx hb dX4_goesOn_77 (by decide) ?_
        refine lv_goto (tgt := 82) hx hb dX4_goesOn_78 (by decide) ?_
        exact hret _ _ _ dX4_goesOn_82 (by decide) (Option.some.inj hf)
      have hf := oif c_6 hf
      by_cases c_10 : w_3 = (2 : Int32)
      · have hf := oit c_10 hf
        refine lv_tableIn (tgt := 83) (off := 54) hx hb dX4_goesOn_29 (by rw [c_10]; decide) (by rw [c_10]; decide) (by rw [c_10]; decide) (by decide) ?_
        refine lv_iload_n hx hb dX4_goesOn_83 rfl (lv_at hl 1 rfl) ?_
        refine lv_bipush (v := (49 : Int32)) hx hb dX4_goesOn_84 (by decide) ?_
        refine lv_icmp_lt (tgt := 99) hx hb dX4_goesOn_86 (by decide) (fun c_11 => ?_) (fun c_11 => ?_)
        · have hf := oit c_11 hf
          refine lv_iconst (v := (0 : Int32)) hx hb dX4_goesOn_99 (by decide) ?_
          exact hret _ _ _ dX4_goesOn_100 (by decide) (Option.some.inj hf)
        have hf := oif c_11 hf
        refine lv_iload_n hx hb dX4_goesOn_89 rfl (lv_at hl 1 rfl) ?_
        refine lv_bipush (v := (57 : Int32)) hx hb dX4_goesOn_90 (by decide) ?_
        refine lv_icmp_gt (tgt := 99) hx hb dX4_goesOn_92 (by decide) (fun c_12 => ?_) (fun c_12 => ?_)
        · have hf := oit c_12 hf
          refine lv_iconst (v := (0 : Int32)) hx hb dX4_goesOn_99 (by decide) ?_
          exact hret _ _ _ dX4_goesOn_100 (by decide) (Option.some.inj hf)
        have hf := oif c_12 hf
        refine lv_iconst (v := (1 : Int32)) hx hb dX4_goesOn_95 (by decide) ?_
        refine lv_goto (tgt := 100) hx hb dX4_goesOn_96 (by decide) ?_
        exact hret _ _ _ dX4_goesOn_100 (by decide) (Option.some.inj hf)
      have hf := oif c_10 hf
      refine lv_tableOut (tgt := 101) hx hb dX4_goesOn_29 (by have z0 := lv_neT c_4 (a := 0) rfl; have z1 := lv_neT c_6 (a := 1) rfl; have z2 := lv_neT c_10 (a := 2) rfl; omega) (by decide) ?_
      refine lv_iload_n hx hb dX4_goesOn_101 rfl (lv_at hl 1 rfl) ?_
      refine lv_bipush (v := (48 : Int32)) hx hb dX4_goesOn_102 (by decide) ?_
      refine lv_icmp_lt (tgt := 116) hx hb dX4_goesOn_104 (by decide) (fun c_13 => ?_) (fun c_13 => ?_)
      · have hf := oit c_13 hf
        refine lv_iconst (v := (0 : Int32)) hx hb dX4_goesOn_116 (by decide) ?_
        exact hret _ _ _ dX4_goesOn_117 (by decide) (Option.some.inj hf)
      have hf := oif c_13 hf
      refine lv_iload_n hx hb dX4_goesOn_107 rfl (lv_at hl 1 rfl) ?_
      refine lv_iload_n hx hb dX4_goesOn_108 rfl (lv_at hl 2 rfl) ?_
      refine lv_icmp_ge (tgt := 116) hx hb dX4_goesOn_109 (by decide) (fun c_14 => ?_) (fun c_14 => ?_)
      · have hf := oit c_14 hf
        refine lv_iconst (v := (0 : Int32)) hx hb dX4_goesOn_116 (by decide) ?_
        exact hret _ _ _ dX4_goesOn_117 (by decide) (Option.some.inj hf)
      have hf := oif c_14 hf
      refine lv_iconst (v := (1 : Int32)) hx hb dX4_goesOn_112 (by decide) ?_
      refine lv_goto (tgt := 117) hx hb dX4_goesOn_113 (by decide) ?_
      exact hret _ _ _ dX4_goesOn_117 (by decide) (Option.some.inj hf)
    have hf := oif c_2 hf
    refine lv_iconst (v := (0 : Int32)) hx hb dX4_goesOn_22 (by decide) ?_
    exact hret _ _ _ dX4_goesOn_23 (by decide) (Option.some.inj hf)
  have hf := oit c_1 hf
  refine lv_iload_n hx hb dX4_goesOn_4 rfl (lv_at hl 1 rfl) ?_
  refine lv_bipush (v := (110 : Int32)) hx hb dX4_goesOn_5 (by decide) ?_
  refine lv_icmp_ne (tgt := 14) hx hb dX4_goesOn_7 (by decide) (fun c_15 => ?_) (fun c_15 => ?_)
  · have hf := oif c_15 hf
    refine lv_iconst (v := (0 : Int32)) hx hb dX4_goesOn_14 (by decide) ?_
    exact hret _ _ _ dX4_goesOn_15 (by decide) (Option.some.inj hf)
  have hf := oit c_15 hf
  refine lv_iconst (v := (1 : Int32)) hx hb dX4_goesOn_10 (by decide) ?_
  refine lv_goto (tgt := 15) hx hb dX4_goesOn_11 (by decide) ?_
  exact hret _ _ _ dX4_goesOn_15 (by decide) (Option.some.inj hf)
theorem dX5_isLane_0 : decode cX5_isLane 0 = .ok (.iload_n 0, 1) := by decide +kernel
theorem dX5_isLane_1 : decode cX5_isLane 1 = .ok (.ifCond .lt 12, 3) := by decide +kernel
theorem dX5_isLane_4 : decode cX5_isLane 4 = .ok (.iload_n 0, 1) := by decide +kernel
theorem dX5_isLane_5 : decode cX5_isLane 5 = .ok (.iconst 2, 1) := by decide +kernel
theorem dX5_isLane_6 : decode cX5_isLane 6 = .ok (.if_icmp .gt 7, 3) := by decide +kernel
theorem dX5_isLane_9 : decode cX5_isLane 9 = .ok (.iconst 1, 1) := by decide +kernel
theorem dX5_isLane_10 : decode cX5_isLane 10 = .ok (.goto 4, 3) := by decide +kernel
theorem dX5_isLane_13 : decode cX5_isLane 13 = .ok (.iconst 0, 1) := by decide +kernel
theorem dX5_isLane_14 : decode cX5_isLane 14 = .ok (.ireturn, 1) := by decide +kernel
def f_X5_isLane (x0 : Int32) : Option Int32 :=
  if x0 < 0 then (some (0 : Int32))
  else if (2 : Int32) < x0 then (some (0 : Int32))
  else some (1 : Int32)
abbrev rmX5_isLane : Room := { frames := 0, cells := 0, slots := 0, locals := 0 }
set_option maxRecDepth 100000 in
set_option maxHeartbeats 4000000 in
theorem c_X5_isLane (l : Launch) (x0 : Int32) (r : Int32) (hf : f_X5_isLane x0 = some r) : MetS l yX5_isLane cX5_isLane 1 (some .boolean) rmX5_isLane [.int x0] r := by
  refine mkS (by decide) (Nat.le_of_ble_eq_true rfl) rfl ?_
  intro p e s m args below meth cd Q ls h0 hK hret hl
  obtain ⟨S, hr, hlk⟩ := h0
  obtain ⟨hx, hb, hml, hown, ht⟩ := id S
  have hl : lv_has ls 1 [(0, .int x0)] := hl
  have hf := obs hf
  have hf := oun (f_X5_isLane.eq_1 _) hf
  refine lv_iload_n hx hb dX5_isLane_0 rfl (lv_at hl 0 rfl) ?_
  refine lv_if_lt (tgt := 13) hx hb dX5_isLane_1 (by decide) (fun c_1 => ?_) (fun c_1 => ?_)
  · have hf := oit c_1 hf
    refine lv_iconst (v := (0 : Int32)) hx hb dX5_isLane_13 (by decide) ?_
    exact hret _ _ _ dX5_isLane_14 (by decide) (Option.some.inj hf)
  have hf := oif c_1 hf
  refine lv_iload_n hx hb dX5_isLane_4 rfl (lv_at hl 0 rfl) ?_
  refine lv_iconst (v := (2 : Int32)) hx hb dX5_isLane_5 (by decide) ?_
  refine lv_icmp_gt (tgt := 13) hx hb dX5_isLane_6 (by decide) (fun c_2 => ?_) (fun c_2 => ?_)
  · have hf := oit c_2 hf
    refine lv_iconst (v := (0 : Int32)) hx hb dX5_isLane_13 (by decide) ?_
    exact hret _ _ _ dX5_isLane_14 (by decide) (Option.some.inj hf)
  have hf := oif c_2 hf
  refine lv_iconst (v := (1 : Int32)) hx hb dX5_isLane_9 (by decide) ?_
  refine lv_goto (tgt := 14) hx hb dX5_isLane_10 (by decide) ?_
  exact hret _ _ _ dX5_isLane_14 (by decide) (Option.some.inj hf)
theorem dX5_isSheet_0 : decode cX5_isSheet 0 = .ok (.iload_n 0, 1) := by decide +kernel
theorem dX5_isSheet_1 : decode cX5_isSheet 1 = .ok (.ifCond .lt 12, 3) := by decide +kernel
theorem dX5_isSheet_4 : decode cX5_isSheet 4 = .ok (.iload_n 0, 1) := by decide +kernel
theorem dX5_isSheet_5 : decode cX5_isSheet 5 = .ok (.iconst 4, 1) := by decide +kernel
theorem dX5_isSheet_6 : decode cX5_isSheet 6 = .ok (.if_icmp .ge 7, 3) := by decide +kernel
theorem dX5_isSheet_9 : decode cX5_isSheet 9 = .ok (.iconst 1, 1) := by decide +kernel
theorem dX5_isSheet_10 : decode cX5_isSheet 10 = .ok (.goto 4, 3) := by decide +kernel
theorem dX5_isSheet_13 : decode cX5_isSheet 13 = .ok (.iconst 0, 1) := by decide +kernel
theorem dX5_isSheet_14 : decode cX5_isSheet 14 = .ok (.ireturn, 1) := by decide +kernel
def f_X5_isSheet (x0 : Int32) : Option Int32 :=
  if x0 < 0 then (some (0 : Int32))
  else if (4 : Int32) ≤ x0 then (some (0 : Int32))
  else some (1 : Int32)
abbrev rmX5_isSheet : Room := { frames := 0, cells := 0, slots := 0, locals := 0 }
set_option maxRecDepth 100000 in
set_option maxHeartbeats 4000000 in
theorem c_X5_isSheet (l : Launch) (x0 : Int32) (r : Int32) (hf : f_X5_isSheet x0 = some r) : MetS l yX5_isSheet cX5_isSheet 1 (some .boolean) rmX5_isSheet [.int x0] r := by
  refine mkS (by decide) (Nat.le_of_ble_eq_true rfl) rfl ?_
  intro p e s m args below meth cd Q ls h0 hK hret hl
  obtain ⟨S, hr, hlk⟩ := h0
  obtain ⟨hx, hb, hml, hown, ht⟩ := id S
  have hl : lv_has ls 1 [(0, .int x0)] := hl
  have hf := obs hf
  have hf := oun (f_X5_isSheet.eq_1 _) hf
  refine lv_iload_n hx hb dX5_isSheet_0 rfl (lv_at hl 0 rfl) ?_
  refine lv_if_lt (tgt := 13) hx hb dX5_isSheet_1 (by decide) (fun c_1 => ?_) (fun c_1 => ?_)
  · have hf := oit c_1 hf
    refine lv_iconst (v := (0 : Int32)) hx hb dX5_isSheet_13 (by decide) ?_
    exact hret _ _ _ dX5_isSheet_14 (by decide) (Option.some.inj hf)
  have hf := oif c_1 hf
  refine lv_iload_n hx hb dX5_isSheet_4 rfl (lv_at hl 0 rfl) ?_
  refine lv_iconst (v := (4 : Int32)) hx hb dX5_isSheet_5 (by decide) ?_
  refine lv_icmp_ge (tgt := 13) hx hb dX5_isSheet_6 (by decide) (fun c_2 => ?_) (fun c_2 => ?_)
  · have hf := oit c_2 hf
    refine lv_iconst (v := (0 : Int32)) hx hb dX5_isSheet_13 (by decide) ?_
    exact hret _ _ _ dX5_isSheet_14 (by decide) (Option.some.inj hf)
  have hf := oif c_2 hf
  refine lv_iconst (v := (1 : Int32)) hx hb dX5_isSheet_9 (by decide) ?_
  refine lv_goto (tgt := 14) hx hb dX5_isSheet_10 (by decide) ?_
  exact hret _ _ _ dX5_isSheet_14 (by decide) (Option.some.inj hf)
theorem dX4_dollsIn_0 : decode cX4_dollsIn 0 = .ok (.iconst 4, 1) := by decide +kernel
theorem dX4_dollsIn_1 : decode cX4_dollsIn 1 = .ok (.iload_n 0, 1) := by decide +kernel
theorem dX4_dollsIn_2 : decode cX4_dollsIn 2 = .ok (.iconst 1, 1) := by decide +kernel
theorem dX4_dollsIn_3 : decode cX4_dollsIn 3 = .ok (.isub, 1) := by decide +kernel
theorem dX4_dollsIn_4 : decode cX4_dollsIn 4 = .ok (.iconst 4, 1) := by decide +kernel
theorem dX4_dollsIn_5 : decode cX4_dollsIn 5 = .ok (.idiv, 1) := by decide +kernel
theorem dX4_dollsIn_6 : decode cX4_dollsIn 6 = .ok (.invokestatic 24, 3) := by decide +kernel
theorem dX4_dollsIn_9 : decode cX4_dollsIn 9 = .ok (.ireturn, 1) := by decide +kernel
def f_X4_dollsIn (x0 : Int32) : Option Int32 :=
  some (if ((x0 - (1 : Int32)) / (4 : Int32)) < (4 : Int32) then ((x0 - (1 : Int32)) / (4 : Int32)) else (4 : Int32))
abbrev rmX4_dollsIn : Room := { frames := 1, cells := 0, slots := 0, locals := 21 }
set_option maxRecDepth 100000 in
set_option maxHeartbeats 4000000 in
theorem c_X4_dollsIn (l : Launch) (x0 : Int32) (r : Int32) (hf : f_X4_dollsIn x0 = some r) : MetS l yX4_dollsIn cX4_dollsIn 1 (some .int) rmX4_dollsIn [.int x0] r := by
  refine mkS (by decide) (Nat.le_of_ble_eq_true rfl) rfl ?_
  intro p e s m args below meth cd Q ls h0 hK hret hl
  obtain ⟨S, hr, hlk⟩ := h0
  obtain ⟨hx, hb, hml, hown, ht⟩ := id S
  have hl : lv_has ls 1 [(0, .int x0)] := hl
  have hf := obs hf
  have hf := oun (f_X4_dollsIn.eq_1 _) hf
  refine lv_iconst (v := (4 : Int32)) hx hb dX4_dollsIn_0 (by decide) ?_
  refine lv_iload_n hx hb dX4_dollsIn_1 rfl (lv_at hl 0 rfl) ?_
  refine lv_iconst (v := (1 : Int32)) hx hb dX4_dollsIn_2 (by decide) ?_
  refine lv_isub hx hb dX4_dollsIn_3 ?_
  refine lv_iconst (v := (4 : Int32)) hx hb dX4_dollsIn_4 (by decide) ?_
  refine lv_idiv hx hb dX4_dollsIn_5 (by decide) ?_
  refine va_mmin hx hb (hml.trans hl.1.symm) hown (ht _ q122) (ht _ q123) (ht _ q124) (ht _ q125) (by exact Nat.le_of_ble_eq_true rfl) (by exact Nat.le_of_ble_eq_true rfl) (Nat.zero_le _) (Nat.zero_le _) dX4_dollsIn_6 ?_
  exact hret _ _ _ dX4_dollsIn_9 rfl (Option.some.inj hf)
theorem dX6_within_0 : decode cX6_within 0 = .ok (.iload_n 0, 1) := by decide +kernel
theorem dX6_within_1 : decode cX6_within 1 = .ok (.iload_n 1, 1) := by decide +kernel
theorem dX6_within_2 : decode cX6_within 2 = .ok (.if_icmp .lt 12, 3) := by decide +kernel
theorem dX6_within_5 : decode cX6_within 5 = .ok (.iload_n 0, 1) := by decide +kernel
theorem dX6_within_6 : decode cX6_within 6 = .ok (.iload_n 2, 1) := by decide +kernel
theorem dX6_within_7 : decode cX6_within 7 = .ok (.if_icmp .gt 7, 3) := by decide +kernel
theorem dX6_within_10 : decode cX6_within 10 = .ok (.iconst 1, 1) := by decide +kernel
theorem dX6_within_11 : decode cX6_within 11 = .ok (.goto 4, 3) := by decide +kernel
theorem dX6_within_14 : decode cX6_within 14 = .ok (.iconst 0, 1) := by decide +kernel
theorem dX6_within_15 : decode cX6_within 15 = .ok (.ireturn, 1) := by decide +kernel
def f_X6_within (x0 : Int32) (x1 : Int32) (x2 : Int32) : Option Int32 :=
  if x0 < x1 then (some (0 : Int32))
  else if x2 < x0 then (some (0 : Int32))
  else some (1 : Int32)
abbrev rmX6_within : Room := { frames := 0, cells := 0, slots := 0, locals := 0 }
set_option maxRecDepth 100000 in
set_option maxHeartbeats 4000000 in
theorem c_X6_within (l : Launch) (x0 : Int32) (x1 : Int32) (x2 : Int32) (r : Int32) (hf : f_X6_within x0 x1 x2 = some r) : MetS l yX6_within cX6_within 3 (some .boolean) rmX6_within [.int x0, .int x1, .int x2] r := by
  refine mkS (by decide) (Nat.le_of_ble_eq_true rfl) rfl ?_
  intro p e s m args below meth cd Q ls h0 hK hret hl
  obtain ⟨S, hr, hlk⟩ := h0
  obtain ⟨hx, hb, hml, hown, ht⟩ := id S
  have hl : lv_has ls 3 [(0, .int x0), (1, .int x1), (2, .int x2)] := hl
  have hf := obs hf
  have hf := oun (f_X6_within.eq_1 _ _ _) hf
  refine lv_iload_n hx hb dX6_within_0 rfl (lv_at hl 0 rfl) ?_
  refine lv_iload_n hx hb dX6_within_1 rfl (lv_at hl 1 rfl) ?_
  refine lv_icmp_lt (tgt := 14) hx hb dX6_within_2 (by decide) (fun c_1 => ?_) (fun c_1 => ?_)
  · have hf := oit c_1 hf
    refine lv_iconst (v := (0 : Int32)) hx hb dX6_within_14 (by decide) ?_
    exact hret _ _ _ dX6_within_15 (by decide) (Option.some.inj hf)
  have hf := oif c_1 hf
  refine lv_iload_n hx hb dX6_within_5 rfl (lv_at hl 0 rfl) ?_
  refine lv_iload_n hx hb dX6_within_6 rfl (lv_at hl 2 rfl) ?_
  refine lv_icmp_gt (tgt := 14) hx hb dX6_within_7 (by decide) (fun c_2 => ?_) (fun c_2 => ?_)
  · have hf := oit c_2 hf
    refine lv_iconst (v := (0 : Int32)) hx hb dX6_within_14 (by decide) ?_
    exact hret _ _ _ dX6_within_15 (by decide) (Option.some.inj hf)
  have hf := oif c_2 hf
  refine lv_iconst (v := (1 : Int32)) hx hb dX6_within_10 (by decide) ?_
  refine lv_goto (tgt := 15) hx hb dX6_within_11 (by decide) ?_
  exact hret _ _ _ dX6_within_15 (by decide) (Option.some.inj hf)
theorem dX6_isSheet_0 : decode cX6_isSheet 0 = .ok (.iload_n 0, 1) := by decide +kernel
theorem dX6_isSheet_1 : decode cX6_isSheet 1 = .ok (.iconst 0, 1) := by decide +kernel
theorem dX6_isSheet_2 : decode cX6_isSheet 2 = .ok (.iconst 3, 1) := by decide +kernel
theorem dX6_isSheet_3 : decode cX6_isSheet 3 = .ok (.invokestatic 71, 3) := by decide +kernel
theorem dX6_isSheet_6 : decode cX6_isSheet 6 = .ok (.ireturn, 1) := by decide +kernel
def f_X6_isSheet (x0 : Int32) : Option Int32 :=
  bd (f_X6_within x0 (0 : Int32) (3 : Int32)) fun r_1 =>
  gd (isB r_1) <|
  some r_1
abbrev rmX6_isSheet : Room := { frames := 1, cells := 0, slots := 0, locals := 22 }
set_option maxRecDepth 100000 in
set_option maxHeartbeats 4000000 in
theorem c_X6_isSheet (l : Launch) (x0 : Int32) (r : Int32) (hf : f_X6_isSheet x0 = some r) : MetS l yX6_isSheet cX6_isSheet 1 (some .boolean) rmX6_isSheet [.int x0] r := by
  refine mkS (by decide) (Nat.le_of_ble_eq_true rfl) rfl ?_
  intro p e s m args below meth cd Q ls h0 hK hret hl
  obtain ⟨S, hr, hlk⟩ := h0
  obtain ⟨hx, hb, hml, hown, ht⟩ := id S
  have hl : lv_has ls 1 [(0, .int x0)] := hl
  have hf := obs hf
  have hf := oun (f_X6_isSheet.eq_1 _) hf
  refine lv_iload_n hx hb dX6_isSheet_0 rfl (lv_at hl 0 rfl) ?_
  refine lv_iconst (v := (0 : Int32)) hx hb dX6_isSheet_1 (by decide) ?_
  refine lv_iconst (v := (3 : Int32)) hx hb dX6_isSheet_2 (by decide) ?_
  obtain ⟨r_1, h_2, hf⟩ := obd hf
  refine xs_S (As := [.int x0, .int (0 : Int32), .int (3 : Int32)]) (rest := []) S k_X6_within q146 q147 ⟨Nat.le_of_ble_eq_true rfl, Nat.le_of_ble_eq_true rfl⟩ ⟨rfl, rfl⟩ (c_X6_within l x0 (0 : Int32) (3 : Int32) r_1 h_2) hK rfl hl.1 rfl (Nat.le_of_ble_eq_true rfl) dX6_isSheet_3 ⟨Nat.zero_le _, Nat.zero_le _⟩ ?_
  obtain ⟨g_3, hf⟩ := ogd hf
  exact hret _ _ _ dX6_isSheet_6 (isB_n g_3) (Option.some.inj hf)
theorem dX6_isSort_0 : decode cX6_isSort 0 = .ok (.iload_n 0, 1) := by decide +kernel
theorem dX6_isSort_1 : decode cX6_isSort 1 = .ok (.iconst 0, 1) := by decide +kernel
theorem dX6_isSort_2 : decode cX6_isSort 2 = .ok (.iconst 2, 1) := by decide +kernel
theorem dX6_isSort_3 : decode cX6_isSort 3 = .ok (.invokestatic 71, 3) := by decide +kernel
theorem dX6_isSort_6 : decode cX6_isSort 6 = .ok (.ireturn, 1) := by decide +kernel
def f_X6_isSort (x0 : Int32) : Option Int32 :=
  bd (f_X6_within x0 (0 : Int32) (2 : Int32)) fun r_1 =>
  gd (isB r_1) <|
  some r_1
abbrev rmX6_isSort : Room := { frames := 1, cells := 0, slots := 0, locals := 22 }
set_option maxRecDepth 100000 in
set_option maxHeartbeats 4000000 in
theorem c_X6_isSort (l : Launch) (x0 : Int32) (r : Int32) (hf : f_X6_isSort x0 = some r) : MetS l yX6_isSort cX6_isSort 1 (some .boolean) rmX6_isSort [.int x0] r := by
  refine mkS (by decide) (Nat.le_of_ble_eq_true rfl) rfl ?_
  intro p e s m args below meth cd Q ls h0 hK hret hl
  obtain ⟨S, hr, hlk⟩ := h0
  obtain ⟨hx, hb, hml, hown, ht⟩ := id S
  have hl : lv_has ls 1 [(0, .int x0)] := hl
  have hf := obs hf
  have hf := oun (f_X6_isSort.eq_1 _) hf
  refine lv_iload_n hx hb dX6_isSort_0 rfl (lv_at hl 0 rfl) ?_
  refine lv_iconst (v := (0 : Int32)) hx hb dX6_isSort_1 (by decide) ?_
  refine lv_iconst (v := (2 : Int32)) hx hb dX6_isSort_2 (by decide) ?_
  obtain ⟨r_1, h_2, hf⟩ := obd hf
  refine xs_S (As := [.int x0, .int (0 : Int32), .int (2 : Int32)]) (rest := []) S k_X6_within q146 q147 ⟨Nat.le_of_ble_eq_true rfl, Nat.le_of_ble_eq_true rfl⟩ ⟨rfl, rfl⟩ (c_X6_within l x0 (0 : Int32) (2 : Int32) r_1 h_2) hK rfl hl.1 rfl (Nat.le_of_ble_eq_true rfl) dX6_isSort_3 ⟨Nat.zero_le _, Nat.zero_le _⟩ ?_
  obtain ⟨g_3, hf⟩ := ogd hf
  exact hret _ _ _ dX6_isSort_6 (isB_n g_3) (Option.some.inj hf)
theorem dX3_openSet_0 : decode cX3_openSet 0 = .ok (.iload_n 0, 1) := by decide +kernel
theorem dX3_openSet_1 : decode cX3_openSet 1 = .ok (.bipush 12, 2) := by decide +kernel
theorem dX3_openSet_3 : decode cX3_openSet 3 = .ok (.ishr, 1) := by decide +kernel
theorem dX3_openSet_4 : decode cX3_openSet 4 = .ok (.bipush 15, 2) := by decide +kernel
theorem dX3_openSet_6 : decode cX3_openSet 6 = .ok (.iand, 1) := by decide +kernel
theorem dX3_openSet_7 : decode cX3_openSet 7 = .ok (.ireturn, 1) := by decide +kernel
def f_X3_openSet (x0 : Int32) : Option Int32 :=
  some ((x0 >>> ((12 : Int32) &&& 31)) &&& (15 : Int32))
abbrev rmX3_openSet : Room := { frames := 0, cells := 0, slots := 0, locals := 0 }
set_option maxRecDepth 100000 in
set_option maxHeartbeats 4000000 in
theorem c_X3_openSet (l : Launch) (x0 : Int32) (r : Int32) (hf : f_X3_openSet x0 = some r) : MetS l yX3_openSet cX3_openSet 1 (some .int) rmX3_openSet [.int x0] r := by
  refine mkS (by decide) (Nat.le_of_ble_eq_true rfl) rfl ?_
  intro p e s m args below meth cd Q ls h0 hK hret hl
  obtain ⟨S, hr, hlk⟩ := h0
  obtain ⟨hx, hb, hml, hown, ht⟩ := id S
  have hl : lv_has ls 1 [(0, .int x0)] := hl
  have hf := obs hf
  have hf := oun (f_X3_openSet.eq_1 _) hf
  refine lv_iload_n hx hb dX3_openSet_0 rfl (lv_at hl 0 rfl) ?_
  refine lv_bipush (v := (12 : Int32)) hx hb dX3_openSet_1 (by decide) ?_
  refine lv_ishr hx hb dX3_openSet_3 ?_
  refine lv_bipush (v := (15 : Int32)) hx hb dX3_openSet_4 (by decide) ?_
  refine lv_iand hx hb dX3_openSet_6 ?_
  exact hret _ _ _ dX3_openSet_7 rfl (Option.some.inj hf)
theorem dX3_placeOf_0 : decode cX3_placeOf 0 = .ok (.iload_n 0, 1) := by decide +kernel
theorem dX3_placeOf_1 : decode cX3_placeOf 1 = .ok (.iconst 3, 1) := by decide +kernel
theorem dX3_placeOf_2 : decode cX3_placeOf 2 = .ok (.iload_n 1, 1) := by decide +kernel
theorem dX3_placeOf_3 : decode cX3_placeOf 3 = .ok (.imul, 1) := by decide +kernel
theorem dX3_placeOf_4 : decode cX3_placeOf 4 = .ok (.ishr, 1) := by decide +kernel
theorem dX3_placeOf_5 : decode cX3_placeOf 5 = .ok (.bipush 7, 2) := by decide +kernel
theorem dX3_placeOf_7 : decode cX3_placeOf 7 = .ok (.iand, 1) := by decide +kernel
theorem dX3_placeOf_8 : decode cX3_placeOf 8 = .ok (.ireturn, 1) := by decide +kernel
def f_X3_placeOf (x0 : Int32) (x1 : Int32) : Option Int32 :=
  some ((x0 >>> (((3 : Int32) * x1) &&& 31)) &&& (7 : Int32))
abbrev rmX3_placeOf : Room := { frames := 0, cells := 0, slots := 0, locals := 0 }
set_option maxRecDepth 100000 in
set_option maxHeartbeats 4000000 in
theorem c_X3_placeOf (l : Launch) (x0 : Int32) (x1 : Int32) (r : Int32) (hf : f_X3_placeOf x0 x1 = some r) : MetS l yX3_placeOf cX3_placeOf 2 (some .int) rmX3_placeOf [.int x0, .int x1] r := by
  refine mkS (by decide) (Nat.le_of_ble_eq_true rfl) rfl ?_
  intro p e s m args below meth cd Q ls h0 hK hret hl
  obtain ⟨S, hr, hlk⟩ := h0
  obtain ⟨hx, hb, hml, hown, ht⟩ := id S
  have hl : lv_has ls 2 [(0, .int x0), (1, .int x1)] := hl
  have hf := obs hf
  have hf := oun (f_X3_placeOf.eq_1 _ _) hf
  refine lv_iload_n hx hb dX3_placeOf_0 rfl (lv_at hl 0 rfl) ?_
  refine lv_iconst (v := (3 : Int32)) hx hb dX3_placeOf_1 (by decide) ?_
  refine lv_iload_n hx hb dX3_placeOf_2 rfl (lv_at hl 1 rfl) ?_
  refine lv_imul hx hb dX3_placeOf_3 ?_
  refine lv_ishr hx hb dX3_placeOf_4 ?_
  refine lv_bipush (v := (7 : Int32)) hx hb dX3_placeOf_5 (by decide) ?_
  refine lv_iand hx hb dX3_placeOf_7 ?_
  exact hret _ _ _ dX3_placeOf_8 rfl (Option.some.inj hf)
theorem dX5_has_0 : decode cX5_has 0 = .ok (.iload_n 0, 1) := by decide +kernel
theorem dX5_has_1 : decode cX5_has 1 = .ok (.iload_n 1, 1) := by decide +kernel
theorem dX5_has_2 : decode cX5_has 2 = .ok (.ishr, 1) := by decide +kernel
theorem dX5_has_3 : decode cX5_has 3 = .ok (.iconst 1, 1) := by decide +kernel
theorem dX5_has_4 : decode cX5_has 4 = .ok (.iand, 1) := by decide +kernel
theorem dX5_has_5 : decode cX5_has 5 = .ok (.ifCond .eq 7, 3) := by decide +kernel
theorem dX5_has_8 : decode cX5_has 8 = .ok (.iconst 1, 1) := by decide +kernel
theorem dX5_has_9 : decode cX5_has 9 = .ok (.goto 4, 3) := by decide +kernel
theorem dX5_has_12 : decode cX5_has 12 = .ok (.iconst 0, 1) := by decide +kernel
theorem dX5_has_13 : decode cX5_has 13 = .ok (.ireturn, 1) := by decide +kernel
def f_X5_has (x0 : Int32) (x1 : Int32) : Option Int32 :=
  if ((x0 >>> (x1 &&& 31)) &&& (1 : Int32)) = 0 then (some (0 : Int32))
  else some (1 : Int32)
abbrev rmX5_has : Room := { frames := 0, cells := 0, slots := 0, locals := 0 }
set_option maxRecDepth 100000 in
set_option maxHeartbeats 4000000 in
theorem c_X5_has (l : Launch) (x0 : Int32) (x1 : Int32) (r : Int32) (hf : f_X5_has x0 x1 = some r) : MetS l yX5_has cX5_has 2 (some .boolean) rmX5_has [.int x0, .int x1] r := by
  refine mkS (by decide) (Nat.le_of_ble_eq_true rfl) rfl ?_
  intro p e s m args below meth cd Q ls h0 hK hret hl
  obtain ⟨S, hr, hlk⟩ := h0
  obtain ⟨hx, hb, hml, hown, ht⟩ := id S
  have hl : lv_has ls 2 [(0, .int x0), (1, .int x1)] := hl
  have hf := obs hf
  have hf := oun (f_X5_has.eq_1 _ _) hf
  refine lv_iload_n hx hb dX5_has_0 rfl (lv_at hl 0 rfl) ?_
  refine lv_iload_n hx hb dX5_has_1 rfl (lv_at hl 1 rfl) ?_
  refine lv_ishr hx hb dX5_has_2 ?_
  refine lv_iconst (v := (1 : Int32)) hx hb dX5_has_3 (by decide) ?_
  refine lv_iand hx hb dX5_has_4 ?_
  refine lv_if_eq (tgt := 12) hx hb dX5_has_5 (by decide) (fun c_1 => ?_) (fun c_1 => ?_)
  · have hf := oit c_1 hf
    refine lv_iconst (v := (0 : Int32)) hx hb dX5_has_12 (by decide) ?_
    exact hret _ _ _ dX5_has_13 (by decide) (Option.some.inj hf)
  have hf := oif c_1 hf
  refine lv_iconst (v := (1 : Int32)) hx hb dX5_has_8 (by decide) ?_
  refine lv_goto (tgt := 13) hx hb dX5_has_9 (by decide) ?_
  exact hret _ _ _ dX5_has_13 (by decide) (Option.some.inj hf)
theorem dX3_canBeGotAt_0 : decode cX3_canBeGotAt 0 = .ok (.iload_n 0, 1) := by decide +kernel
theorem dX3_canBeGotAt_1 : decode cX3_canBeGotAt 1 = .ok (.invokestatic 11, 3) := by decide +kernel
theorem dX3_canBeGotAt_4 : decode cX3_canBeGotAt 4 = .ok (.istore_n 2, 1) := by decide +kernel
theorem dX3_canBeGotAt_5 : decode cX3_canBeGotAt 5 = .ok (.iload_n 0, 1) := by decide +kernel
theorem dX3_canBeGotAt_6 : decode cX3_canBeGotAt 6 = .ok (.iload_n 1, 1) := by decide +kernel
theorem dX3_canBeGotAt_7 : decode cX3_canBeGotAt 7 = .ok (.invokestatic 19, 3) := by decide +kernel
theorem dX3_canBeGotAt_10 : decode cX3_canBeGotAt 10 = .ok (.istore_n 3, 1) := by decide +kernel
theorem dX3_canBeGotAt_11 : decode cX3_canBeGotAt 11 = .ok (.iconst 0, 1) := by decide +kernel
theorem dX3_canBeGotAt_12 : decode cX3_canBeGotAt 12 = .ok (.istore 4, 2) := by decide +kernel
theorem dX3_canBeGotAt_14 : decode cX3_canBeGotAt 14 = .ok (.iload 4, 2) := by decide +kernel
theorem dX3_canBeGotAt_16 : decode cX3_canBeGotAt 16 = .ok (.iconst 4, 1) := by decide +kernel
theorem dX3_canBeGotAt_17 : decode cX3_canBeGotAt 17 = .ok (.if_icmp .ge 33, 3) := by decide +kernel
theorem dX3_canBeGotAt_20 : decode cX3_canBeGotAt 20 = .ok (.iload_n 3, 1) := by decide +kernel
theorem dX3_canBeGotAt_21 : decode cX3_canBeGotAt 21 = .ok (.ifCond .eq 29, 3) := by decide +kernel
theorem dX3_canBeGotAt_24 : decode cX3_canBeGotAt 24 = .ok (.iload_n 2, 1) := by decide +kernel
theorem dX3_canBeGotAt_25 : decode cX3_canBeGotAt 25 = .ok (.iload_n 3, 1) := by decide +kernel
theorem dX3_canBeGotAt_26 : decode cX3_canBeGotAt 26 = .ok (.iconst 1, 1) := by decide +kernel
theorem dX3_canBeGotAt_27 : decode cX3_canBeGotAt 27 = .ok (.isub, 1) := by decide +kernel
theorem dX3_canBeGotAt_28 : decode cX3_canBeGotAt 28 = .ok (.invokestatic 15, 3) := by decide +kernel
theorem dX3_canBeGotAt_31 : decode cX3_canBeGotAt 31 = .ok (.ifCond .ne 5, 3) := by decide +kernel
theorem dX3_canBeGotAt_34 : decode cX3_canBeGotAt 34 = .ok (.iconst 0, 1) := by decide +kernel
theorem dX3_canBeGotAt_35 : decode cX3_canBeGotAt 35 = .ok (.ireturn, 1) := by decide +kernel
theorem dX3_canBeGotAt_36 : decode cX3_canBeGotAt 36 = .ok (.iload_n 0, 1) := by decide +kernel
theorem dX3_canBeGotAt_37 : decode cX3_canBeGotAt 37 = .ok (.iload_n 3, 1) := by decide +kernel
theorem dX3_canBeGotAt_38 : decode cX3_canBeGotAt 38 = .ok (.iconst 1, 1) := by decide +kernel
theorem dX3_canBeGotAt_39 : decode cX3_canBeGotAt 39 = .ok (.isub, 1) := by decide +kernel
theorem dX3_canBeGotAt_40 : decode cX3_canBeGotAt 40 = .ok (.invokestatic 19, 3) := by decide +kernel
theorem dX3_canBeGotAt_43 : decode cX3_canBeGotAt 43 = .ok (.istore_n 3, 1) := by decide +kernel
theorem dX3_canBeGotAt_44 : decode cX3_canBeGotAt 44 = .ok (.iinc 4 1, 3) := by decide +kernel
theorem dX3_canBeGotAt_47 : decode cX3_canBeGotAt 47 = .ok (.goto (-33), 3) := by decide +kernel
theorem dX3_canBeGotAt_50 : decode cX3_canBeGotAt 50 = .ok (.iconst 1, 1) := by decide +kernel
theorem dX3_canBeGotAt_51 : decode cX3_canBeGotAt 51 = .ok (.ireturn, 1) := by decide +kernel
def f_X3_canBeGotAt_j50 (N : Nat) : Option Int32 :=
  some (1 : Int32)
def f_X3_canBeGotAt_b14 (N : Nat) (x0 : Int32) (x2 : Int32) (x3 : Int32) (x4 : Int32) : Option ((Int32 × Int32) ⊕ (Int32 ⊕ (Unit))) :=
  if (4 : Int32) ≤ x4 then (some (.inr (.inr ())))
  else if x3 = 0 then (some (.inr (.inr ())))
  else bd (f_X5_has x2 (x3 - (1 : Int32))) fun r_3 =>
  if r_3 = 0 then (some (.inr (.inl (0 : Int32))))
  else bd (f_X3_placeOf x0 (x3 - (1 : Int32))) fun r_6 =>
    nm (x4 + (1 : Int32)) fun x4_8 =>
    some (.inl (r_6, x4_8))
def f_X3_canBeGotAt (N : Nat) (x0 : Int32) (x1 : Int32) : Option Int32 :=
  bd (f_X3_openSet x0) fun r_9 =>
  bd (f_X3_placeOf x0 x1) fun r_11 =>
  bd (lpF (fun s => f_X3_canBeGotAt_b14 N x0 r_9 s.1 s.2) N (r_11, (0 : Int32))) (Sum.elim (fun v => some v) (fun o => f_X3_canBeGotAt_j50 N))
abbrev rmX3_canBeGotAt : Room := { frames := 1, cells := 0, slots := 0, locals := 21 }
set_option maxRecDepth 100000 in
set_option maxHeartbeats 4000000 in
theorem c_X3_canBeGotAt (l : Launch) (N : Nat) (x0 : Int32) (x1 : Int32) (r : Int32) (hf : f_X3_canBeGotAt N x0 x1 = some r) : MetS l yX3_canBeGotAt cX3_canBeGotAt 5 (some .boolean) rmX3_canBeGotAt [.int x0, .int x1] r := by
  refine mkS (by decide) (Nat.le_of_ble_eq_true rfl) rfl ?_
  intro p e s m args below meth cd Q ls h0 hK hret hl
  obtain ⟨S, hr, hlk⟩ := h0
  obtain ⟨hx, hb, hml, hown, ht⟩ := id S
  have hl : lv_has ls 5 [(0, .int x0), (1, .int x1)] := hl
  have hf := obs hf
  have j50 : ∀ (ls : Array Slot), lv_has ls 5 [] → Option.bind (f_X3_canBeGotAt_j50 N) some = some r → W p l e rmX3_canBeGotAt s m args below meth cd s.heap [] 0 0 Q (F0 m 50 ls []) := by
    intro ls hl hf
    have hf := oun (f_X3_canBeGotAt_j50.eq_1 _) hf
    refine lv_iconst (v := (1 : Int32)) hx hb dX3_canBeGotAt_50 (by decide) ?_
    exact hret _ _ _ dX3_canBeGotAt_51 (by decide) (Option.some.inj hf)
  have L14 : ∀ (x0 : Int32) (x2 : Int32) (k : Nat) (x3 : Int32) (x4 : Int32) (ls : Array Slot), lv_has ls 5 [(0, .int x0), (2, .int x2), (3, .int x3), (4, .int x4)] → Option.bind (bd (lpF (fun s => f_X3_canBeGotAt_b14 N x0 x2 s.1 s.2) k (x3, x4)) (Sum.elim (fun v => some v) (fun o => f_X3_canBeGotAt_j50 N))) some = some r → W p l e rmX3_canBeGotAt s m args below meth cd s.heap [] 0 0 Q (F0 m 14 ls []) := by
    intro x0 x2 k
    induction k with
    | zero =>
      intro x3 x4 ls hl hf
      exact (ol0 hf).elim
    | succ k ih =>
      intro x3 x4 ls hl hf
      obtain ⟨K14, hf, hc14, hx14⟩ := ol1 hf
      have hf := oun (f_X3_canBeGotAt_b14.eq_1 N x0 x2 x3 x4) hf
      refine lv_iload hx hb dX3_canBeGotAt_14 (lv_at hl 3 rfl) ?_
      refine lv_iconst (v := (4 : Int32)) hx hb dX3_canBeGotAt_16 (by decide) ?_
      refine lv_icmp_ge (tgt := 50) hx hb dX3_canBeGotAt_17 (by decide) (fun c_1 => ?_) (fun c_1 => ?_)
      · have hf := oit c_1 hf
        exact j50 _ (lv_sub hl [] rfl) (okx hf (hx14 _))
      have hf := oif c_1 hf
      refine lv_iload_n hx hb dX3_canBeGotAt_20 rfl (lv_at hl 2 rfl) ?_
      refine lv_if_eq (tgt := 50) hx hb dX3_canBeGotAt_21 (by decide) (fun c_2 => ?_) (fun c_2 => ?_)
      · have hf := oit c_2 hf
        exact j50 _ (lv_sub hl [] rfl) (okx hf (hx14 _))
      have hf := oif c_2 hf
      refine lv_iload_n hx hb dX3_canBeGotAt_24 rfl (lv_at hl 1 rfl) ?_
      refine lv_iload_n hx hb dX3_canBeGotAt_25 rfl (lv_at hl 2 rfl) ?_
      refine lv_iconst (v := (1 : Int32)) hx hb dX3_canBeGotAt_26 (by decide) ?_
      refine lv_isub hx hb dX3_canBeGotAt_27 ?_
      obtain ⟨r_3, h_4, hf⟩ := obd hf
      refine xn_S (As := [.int x2, .int (x3 - (1 : Int32))]) (rest := []) S k_X5_has hK.1 q202 ⟨Nat.le_of_ble_eq_true rfl, Nat.le_of_ble_eq_true rfl⟩ ⟨rfl, rfl⟩ (c_X5_has l x2 (x3 - (1 : Int32)) r_3 h_4) hK rfl hl.1 rfl (Nat.le_of_ble_eq_true rfl) dX3_canBeGotAt_28 ⟨Nat.zero_le _, Nat.zero_le _⟩ ?_
      refine lv_if_ne (tgt := 36) hx hb dX3_canBeGotAt_31 (by decide) (fun c_5 => ?_) (fun c_5 => ?_)
      · have hf := oif c_5 hf
        refine lv_iload_n hx hb dX3_canBeGotAt_36 rfl (lv_at hl 0 rfl) ?_
        refine lv_iload_n hx hb dX3_canBeGotAt_37 rfl (lv_at hl 2 rfl) ?_
        refine lv_iconst (v := (1 : Int32)) hx hb dX3_canBeGotAt_38 (by decide) ?_
        refine lv_isub hx hb dX3_canBeGotAt_39 ?_
        obtain ⟨r_6, h_7, hf⟩ := obd hf
        refine xs_S (As := [.int x0, .int (x3 - (1 : Int32))]) (rest := []) S k_X3_placeOf q213 q193 ⟨Nat.le_of_ble_eq_true rfl, Nat.le_of_ble_eq_true rfl⟩ ⟨rfl, rfl⟩ (c_X3_placeOf l x0 (x3 - (1 : Int32)) r_6 h_7) hK rfl hl.1 rfl (Nat.le_of_ble_eq_true rfl) dX3_canBeGotAt_40 ⟨Nat.zero_le _, Nat.zero_le _⟩ ?_
        refine lv_istore_n (lv' := [(3, .int r_6), (0, .int x0), (2, .int x2), (4, .int x4)]) hx hb dX3_canBeGotAt_43 rfl hl (by decide) rfl (fun ls hl => ?_)
        obtain ⟨x4_8, ex4_8, hf⟩ := onm hf
        refine lv_iinc (v := x4_8) (lv' := [(4, .int x4_8), (3, .int r_6), (0, .int x0), (2, .int x2)]) hx hb dX3_canBeGotAt_44 hl (k := 3) rfl ex4_8 (by decide) rfl (fun ls hl => ?_)
        refine lv_goto (tgt := 14) hx hb dX3_canBeGotAt_47 (by decide) ?_
        exact ih r_6 x4_8 _ (lv_sub hl [2, 3, 1, 0] rfl) (okx hf (hc14 _))
      have hf := oit c_5 hf
      refine lv_iconst (v := (0 : Int32)) hx hb dX3_canBeGotAt_34 (by decide) ?_
      have hf := okx hf (hx14 _)
      exact hret _ _ _ dX3_canBeGotAt_35 (by decide) (Option.some.inj hf)
  have hf := oun (f_X3_canBeGotAt.eq_1 _ _ _) hf
  refine lv_iload_n hx hb dX3_canBeGotAt_0 rfl (lv_at hl 0 rfl) ?_
  obtain ⟨r_9, h_10, hf⟩ := obd hf
  refine xs_S (As := [.int x0]) (rest := []) S k_X3_openSet q199 q200 ⟨Nat.le_of_ble_eq_true rfl, Nat.le_of_ble_eq_true rfl⟩ ⟨rfl, rfl⟩ (c_X3_openSet l x0 r_9 h_10) hK rfl hl.1 rfl (Nat.le_of_ble_eq_true rfl) dX3_canBeGotAt_1 ⟨Nat.zero_le _, Nat.zero_le _⟩ ?_
  refine lv_istore_n (lv' := [(2, .int r_9), (0, .int x0), (1, .int x1)]) hx hb dX3_canBeGotAt_4 rfl hl (by decide) rfl (fun ls hl => ?_)
  refine lv_iload_n hx hb dX3_canBeGotAt_5 rfl (lv_at hl 1 rfl) ?_
  refine lv_iload_n hx hb dX3_canBeGotAt_6 rfl (lv_at hl 2 rfl) ?_
  obtain ⟨r_11, h_12, hf⟩ := obd hf
  refine xs_S (As := [.int x0, .int x1]) (rest := []) S k_X3_placeOf q213 q193 ⟨Nat.le_of_ble_eq_true rfl, Nat.le_of_ble_eq_true rfl⟩ ⟨rfl, rfl⟩ (c_X3_placeOf l x0 x1 r_11 h_12) hK rfl hl.1 rfl (Nat.le_of_ble_eq_true rfl) dX3_canBeGotAt_7 ⟨Nat.zero_le _, Nat.zero_le _⟩ ?_
  refine lv_istore_n (lv' := [(3, .int r_11), (2, .int r_9), (0, .int x0), (1, .int x1)]) hx hb dX3_canBeGotAt_10 rfl hl (by decide) rfl (fun ls hl => ?_)
  refine lv_iconst (v := (0 : Int32)) hx hb dX3_canBeGotAt_11 (by decide) ?_
  refine lv_istore (lv' := [(4, .int (0 : Int32)), (3, .int r_11), (2, .int r_9), (0, .int x0), (1, .int x1)]) hx hb dX3_canBeGotAt_12 hl (by decide) rfl (fun ls hl => ?_)
  exact L14 x0 r_9 N r_11 (0 : Int32) _ (lv_sub hl [3, 2, 1, 0] rfl) hf
theorem dX3_handSet_0 : decode cX3_handSet 0 = .ok (.iconst 0, 1) := by decide +kernel
theorem dX3_handSet_1 : decode cX3_handSet 1 = .ok (.istore_n 2, 1) := by decide +kernel
theorem dX3_handSet_2 : decode cX3_handSet 2 = .ok (.iconst 0, 1) := by decide +kernel
theorem dX3_handSet_3 : decode cX3_handSet 3 = .ok (.istore_n 3, 1) := by decide +kernel
theorem dX3_handSet_4 : decode cX3_handSet 4 = .ok (.iload_n 3, 1) := by decide +kernel
theorem dX3_handSet_5 : decode cX3_handSet 5 = .ok (.iload_n 1, 1) := by decide +kernel
theorem dX3_handSet_6 : decode cX3_handSet 6 = .ok (.if_icmp .ge 23, 3) := by decide +kernel
theorem dX3_handSet_9 : decode cX3_handSet 9 = .ok (.iload_n 0, 1) := by decide +kernel
theorem dX3_handSet_10 : decode cX3_handSet 10 = .ok (.iload_n 3, 1) := by decide +kernel
theorem dX3_handSet_11 : decode cX3_handSet 11 = .ok (.invokestatic 23, 3) := by decide +kernel
theorem dX3_handSet_14 : decode cX3_handSet 14 = .ok (.ifCond .eq 9, 3) := by decide +kernel
theorem dX3_handSet_17 : decode cX3_handSet 17 = .ok (.iload_n 2, 1) := by decide +kernel
theorem dX3_handSet_18 : decode cX3_handSet 18 = .ok (.iconst 1, 1) := by decide +kernel
theorem dX3_handSet_19 : decode cX3_handSet 19 = .ok (.iload_n 3, 1) := by decide +kernel
theorem dX3_handSet_20 : decode cX3_handSet 20 = .ok (.ishl, 1) := by decide +kernel
theorem dX3_handSet_21 : decode cX3_handSet 21 = .ok (.ior, 1) := by decide +kernel
theorem dX3_handSet_22 : decode cX3_handSet 22 = .ok (.istore_n 2, 1) := by decide +kernel
theorem dX3_handSet_23 : decode cX3_handSet 23 = .ok (.iinc 3 1, 3) := by decide +kernel
theorem dX3_handSet_26 : decode cX3_handSet 26 = .ok (.goto (-22), 3) := by decide +kernel
theorem dX3_handSet_29 : decode cX3_handSet 29 = .ok (.iload_n 2, 1) := by decide +kernel
theorem dX3_handSet_30 : decode cX3_handSet 30 = .ok (.ireturn, 1) := by decide +kernel
def f_X3_handSet_j29 (N : Nat) (x2 : Int32) : Option Int32 :=
  some x2
def f_X3_handSet_j23 (N : Nat) (x0 : Int32) (x1 : Int32) (x2 : Int32) (x3 : Int32) : Option ((Int32 × Int32) ⊕ ((Int32))) :=
  nm (x3 + (1 : Int32)) fun x3_1 =>
  some (.inl (x2, x3_1))
def f_X3_handSet_b4 (N : Nat) (x0 : Int32) (x1 : Int32) (x2 : Int32) (x3 : Int32) : Option ((Int32 × Int32) ⊕ ((Int32))) :=
  if x1 ≤ x3 then (some (.inr x2))
  else bd (f_X3_canBeGotAt N x0 x3) fun r_3 =>
  if r_3 = 0 then (f_X3_handSet_j23 N x0 x1 x2 x3)
  else nm (x2 ||| ((1 : Int32) <<< (x3 &&& 31))) fun x2_6 =>
  f_X3_handSet_j23 N x0 x1 x2_6 x3
def f_X3_handSet (N : Nat) (x0 : Int32) (x1 : Int32) : Option Int32 :=
  bd (lpF (fun s => f_X3_handSet_b4 N x0 x1 s.1 s.2) N ((0 : Int32), (0 : Int32))) (fun o => f_X3_handSet_j29 N o)
abbrev rmX3_handSet : Room := { frames := 2, cells := 0, slots := 0, locals := 45 }
set_option maxRecDepth 100000 in
set_option maxHeartbeats 4000000 in
theorem c_X3_handSet (l : Launch) (N : Nat) (x0 : Int32) (x1 : Int32) (r : Int32) (hf : f_X3_handSet N x0 x1 = some r) : MetS l yX3_handSet cX3_handSet 4 (some .int) rmX3_handSet [.int x0, .int x1] r := by
  refine mkS (by decide) (Nat.le_of_ble_eq_true rfl) rfl ?_
  intro p e s m args below meth cd Q ls h0 hK hret hl
  obtain ⟨S, hr, hlk⟩ := h0
  obtain ⟨hx, hb, hml, hown, ht⟩ := id S
  have hl : lv_has ls 4 [(0, .int x0), (1, .int x1)] := hl
  have hf := obs hf
  have j29 : ∀ (x2 : Int32) (ls : Array Slot), lv_has ls 4 [(2, .int x2)] → Option.bind (f_X3_handSet_j29 N x2) some = some r → W p l e rmX3_handSet s m args below meth cd s.heap [] 0 0 Q (F0 m 29 ls []) := by
    intro x2 ls hl hf
    have hf := oun (f_X3_handSet_j29.eq_1 _ _) hf
    refine lv_iload_n hx hb dX3_handSet_29 rfl (lv_at hl 0 rfl) ?_
    exact hret _ _ _ dX3_handSet_30 rfl (Option.some.inj hf)
  have L4 : ∀ (x0 : Int32) (x1 : Int32) (k : Nat) (x2 : Int32) (x3 : Int32) (ls : Array Slot), lv_has ls 4 [(0, .int x0), (1, .int x1), (2, .int x2), (3, .int x3)] → Option.bind (bd (lpF (fun s => f_X3_handSet_b4 N x0 x1 s.1 s.2) k (x2, x3)) (fun o => f_X3_handSet_j29 N o)) some = some r → W p l e rmX3_handSet s m args below meth cd s.heap [] 0 0 Q (F0 m 4 ls []) := by
    intro x0 x1 k
    induction k with
    | zero =>
      intro x2 x3 ls hl hf
      exact (ol0 hf).elim
    | succ k ih =>
      intro x2 x3 ls hl hf
      obtain ⟨K4, hf, hc4, hx4⟩ := ol1 hf
      have j23 : ∀ (x2 : Int32) (x3 : Int32) (ls : Array Slot), lv_has ls 4 [(0, .int x0), (1, .int x1), (2, .int x2), (3, .int x3)] → Option.bind (f_X3_handSet_j23 N x0 x1 x2 x3) K4 = some r → W p l e rmX3_handSet s m args below meth cd s.heap [] 0 0 Q (F0 m 23 ls []) := by
        intro x2 x3 ls hl hf
        have hf := oun (f_X3_handSet_j23.eq_1 _ _ _ _ _) hf
        obtain ⟨x3_1, ex3_1, hf⟩ := onm hf
        refine lv_iinc (v := x3_1) (lv' := [(3, .int x3_1), (0, .int x0), (1, .int x1), (2, .int x2)]) hx hb dX3_handSet_23 hl (k := 3) rfl ex3_1 (by decide) rfl (fun ls hl => ?_)
        refine lv_goto (tgt := 4) hx hb dX3_handSet_26 (by decide) ?_
        exact ih x2 x3_1 _ (lv_sub hl [1, 2, 3, 0] rfl) (okx hf (hc4 _))
      have hf := oun (f_X3_handSet_b4.eq_1 N x0 x1 x2 x3) hf
      refine lv_iload_n hx hb dX3_handSet_4 rfl (lv_at hl 3 rfl) ?_
      refine lv_iload_n hx hb dX3_handSet_5 rfl (lv_at hl 1 rfl) ?_
      refine lv_icmp_ge (tgt := 29) hx hb dX3_handSet_6 (by decide) (fun c_2 => ?_) (fun c_2 => ?_)
      · have hf := oit c_2 hf
        exact j29 x2 _ (lv_sub hl [2] rfl) (okx hf (hx4 _))
      have hf := oif c_2 hf
      refine lv_iload_n hx hb dX3_handSet_9 rfl (lv_at hl 0 rfl) ?_
      refine lv_iload_n hx hb dX3_handSet_10 rfl (lv_at hl 3 rfl) ?_
      obtain ⟨r_3, h_4, hf⟩ := obd hf
      refine xs_S (As := [.int x0, .int x3]) (rest := []) S k_X3_canBeGotAt q210 q211 ⟨Nat.le_of_ble_eq_true rfl, Nat.le_of_ble_eq_true rfl⟩ ⟨rfl, rfl⟩ (c_X3_canBeGotAt l N x0 x3 r_3 h_4) hK rfl hl.1 rfl (Nat.le_of_ble_eq_true rfl) dX3_handSet_11 ⟨Nat.zero_le _, Nat.zero_le _⟩ ?_
      refine lv_if_eq (tgt := 23) hx hb dX3_handSet_14 (by decide) (fun c_5 => ?_) (fun c_5 => ?_)
      · have hf := oit c_5 hf
        exact j23 x2 x3 _ (lv_sub hl [0, 1, 2, 3] rfl) hf
      have hf := oif c_5 hf
      refine lv_iload_n hx hb dX3_handSet_17 rfl (lv_at hl 2 rfl) ?_
      refine lv_iconst (v := (1 : Int32)) hx hb dX3_handSet_18 (by decide) ?_
      refine lv_iload_n hx hb dX3_handSet_19 rfl (lv_at hl 3 rfl) ?_
      refine lv_ishl hx hb dX3_handSet_20 ?_
      refine lv_ior hx hb dX3_handSet_21 ?_
      obtain ⟨x2_6, ex2_6, hf⟩ := onm hf
      refine lv_nm ex2_6 ?_
      refine lv_istore_n (lv' := [(2, .int x2_6), (0, .int x0), (1, .int x1), (3, .int x3)]) hx hb dX3_handSet_22 rfl hl (by decide) rfl (fun ls hl => ?_)
      exact j23 x2_6 x3 _ (lv_sub hl [1, 2, 0, 3] rfl) hf
  have hf := oun (f_X3_handSet.eq_1 _ _ _) hf
  refine lv_iconst (v := (0 : Int32)) hx hb dX3_handSet_0 (by decide) ?_
  refine lv_istore_n (lv' := [(2, .int (0 : Int32)), (0, .int x0), (1, .int x1)]) hx hb dX3_handSet_1 rfl hl (by decide) rfl (fun ls hl => ?_)
  refine lv_iconst (v := (0 : Int32)) hx hb dX3_handSet_2 (by decide) ?_
  refine lv_istore_n (lv' := [(3, .int (0 : Int32)), (2, .int (0 : Int32)), (0, .int x0), (1, .int x1)]) hx hb dX3_handSet_3 rfl hl (by decide) rfl (fun ls hl => ?_)
  exact L4 x0 x1 N (0 : Int32) (0 : Int32) _ (lv_sub hl [2, 3, 1, 0] rfl) hf
theorem dX3_innerOf_0 : decode cX3_innerOf 0 = .ok (.iconst 0, 1) := by decide +kernel
theorem dX3_innerOf_1 : decode cX3_innerOf 1 = .ok (.istore_n 3, 1) := by decide +kernel
theorem dX3_innerOf_2 : decode cX3_innerOf 2 = .ok (.iload_n 3, 1) := by decide +kernel
theorem dX3_innerOf_3 : decode cX3_innerOf 3 = .ok (.iload_n 2, 1) := by decide +kernel
theorem dX3_innerOf_4 : decode cX3_innerOf 4 = .ok (.if_icmp .ge 22, 3) := by decide +kernel
theorem dX3_innerOf_7 : decode cX3_innerOf 7 = .ok (.iload_n 0, 1) := by decide +kernel
theorem dX3_innerOf_8 : decode cX3_innerOf 8 = .ok (.iload_n 3, 1) := by decide +kernel
theorem dX3_innerOf_9 : decode cX3_innerOf 9 = .ok (.invokestatic 19, 3) := by decide +kernel
theorem dX3_innerOf_12 : decode cX3_innerOf 12 = .ok (.iload_n 1, 1) := by decide +kernel
theorem dX3_innerOf_13 : decode cX3_innerOf 13 = .ok (.iconst 1, 1) := by decide +kernel
theorem dX3_innerOf_14 : decode cX3_innerOf 14 = .ok (.iadd, 1) := by decide +kernel
theorem dX3_innerOf_15 : decode cX3_innerOf 15 = .ok (.if_icmp .ne 5, 3) := by decide +kernel
theorem dX3_innerOf_18 : decode cX3_innerOf 18 = .ok (.iload_n 3, 1) := by decide +kernel
theorem dX3_innerOf_19 : decode cX3_innerOf 19 = .ok (.ireturn, 1) := by decide +kernel
theorem dX3_innerOf_20 : decode cX3_innerOf 20 = .ok (.iinc 3 1, 3) := by decide +kernel
theorem dX3_innerOf_23 : decode cX3_innerOf 23 = .ok (.goto (-21), 3) := by decide +kernel
theorem dX3_innerOf_26 : decode cX3_innerOf 26 = .ok (.bipush (-9), 2) := by decide +kernel
theorem dX3_innerOf_28 : decode cX3_innerOf 28 = .ok (.ireturn, 1) := by decide +kernel
def f_X3_innerOf_j26 (N : Nat) : Option Int32 :=
  some (-9 : Int32)
def f_X3_innerOf_b2 (N : Nat) (x0 : Int32) (x1 : Int32) (x2 : Int32) (x3 : Int32) : Option ((Int32) ⊕ (Int32 ⊕ (Unit))) :=
  if x2 ≤ x3 then (some (.inr (.inr ())))
  else bd (f_X3_placeOf x0 x3) fun r_2 =>
  if r_2 = (x1 + (1 : Int32)) then (some (.inr (.inl x3)))
  else nm (x3 + (1 : Int32)) fun x3_5 =>
    some (.inl x3_5)
def f_X3_innerOf (N : Nat) (x0 : Int32) (x1 : Int32) (x2 : Int32) : Option Int32 :=
  bd (lpF (fun s => f_X3_innerOf_b2 N x0 x1 x2 s) N (0 : Int32)) (Sum.elim (fun v => some v) (fun o => f_X3_innerOf_j26 N))
abbrev rmX3_innerOf : Room := { frames := 1, cells := 0, slots := 0, locals := 21 }
set_option maxRecDepth 100000 in
set_option maxHeartbeats 4000000 in
theorem c_X3_innerOf (l : Launch) (N : Nat) (x0 : Int32) (x1 : Int32) (x2 : Int32) (r : Int32) (hf : f_X3_innerOf N x0 x1 x2 = some r) : MetS l yX3_innerOf cX3_innerOf 4 (some .int) rmX3_innerOf [.int x0, .int x1, .int x2] r := by
  refine mkS (by decide) (Nat.le_of_ble_eq_true rfl) rfl ?_
  intro p e s m args below meth cd Q ls h0 hK hret hl
  obtain ⟨S, hr, hlk⟩ := h0
  obtain ⟨hx, hb, hml, hown, ht⟩ := id S
  have hl : lv_has ls 4 [(0, .int x0), (1, .int x1), (2, .int x2)] := hl
  have hf := obs hf
  have j26 : ∀ (ls : Array Slot), lv_has ls 4 [] → Option.bind (f_X3_innerOf_j26 N) some = some r → W p l e rmX3_innerOf s m args below meth cd s.heap [] 0 0 Q (F0 m 26 ls []) := by
    intro ls hl hf
    have hf := oun (f_X3_innerOf_j26.eq_1 _) hf
    refine lv_bipush (v := (-9 : Int32)) hx hb dX3_innerOf_26 (by decide) ?_
    exact hret _ _ _ dX3_innerOf_28 rfl (Option.some.inj hf)
  have L2 : ∀ (x0 : Int32) (x1 : Int32) (x2 : Int32) (k : Nat) (x3 : Int32) (ls : Array Slot), lv_has ls 4 [(0, .int x0), (1, .int x1), (2, .int x2), (3, .int x3)] → Option.bind (bd (lpF (fun s => f_X3_innerOf_b2 N x0 x1 x2 s) k x3) (Sum.elim (fun v => some v) (fun o => f_X3_innerOf_j26 N))) some = some r → W p l e rmX3_innerOf s m args below meth cd s.heap [] 0 0 Q (F0 m 2 ls []) := by
    intro x0 x1 x2 k
    induction k with
    | zero =>
      intro x3 ls hl hf
      exact (ol0 hf).elim
    | succ k ih =>
      intro x3 ls hl hf
      obtain ⟨K2, hf, hc2, hx2⟩ := ol1 hf
      have hf := oun (f_X3_innerOf_b2.eq_1 N x0 x1 x2 x3) hf
      refine lv_iload_n hx hb dX3_innerOf_2 rfl (lv_at hl 3 rfl) ?_
      refine lv_iload_n hx hb dX3_innerOf_3 rfl (lv_at hl 2 rfl) ?_
      refine lv_icmp_ge (tgt := 26) hx hb dX3_innerOf_4 (by decide) (fun c_1 => ?_) (fun c_1 => ?_)
      · have hf := oit c_1 hf
        exact j26 _ (lv_sub hl [] rfl) (okx hf (hx2 _))
      have hf := oif c_1 hf
      refine lv_iload_n hx hb dX3_innerOf_7 rfl (lv_at hl 0 rfl) ?_
      refine lv_iload_n hx hb dX3_innerOf_8 rfl (lv_at hl 3 rfl) ?_
      obtain ⟨r_2, h_3, hf⟩ := obd hf
      refine xs_S (As := [.int x0, .int x3]) (rest := []) S k_X3_placeOf q213 q193 ⟨Nat.le_of_ble_eq_true rfl, Nat.le_of_ble_eq_true rfl⟩ ⟨rfl, rfl⟩ (c_X3_placeOf l x0 x3 r_2 h_3) hK rfl hl.1 rfl (Nat.le_of_ble_eq_true rfl) dX3_innerOf_9 ⟨Nat.zero_le _, Nat.zero_le _⟩ ?_
      refine lv_iload_n hx hb dX3_innerOf_12 rfl (lv_at hl 1 rfl) ?_
      refine lv_iconst (v := (1 : Int32)) hx hb dX3_innerOf_13 (by decide) ?_
      refine lv_iadd hx hb dX3_innerOf_14 ?_
      refine lv_icmp_ne (tgt := 20) hx hb dX3_innerOf_15 (by decide) (fun c_4 => ?_) (fun c_4 => ?_)
      · have hf := oif c_4 hf
        obtain ⟨x3_5, ex3_5, hf⟩ := onm hf
        refine lv_iinc (v := x3_5) (lv' := [(3, .int x3_5), (0, .int x0), (1, .int x1), (2, .int x2)]) hx hb dX3_innerOf_20 hl (k := 3) rfl ex3_5 (by decide) rfl (fun ls hl => ?_)
        refine lv_goto (tgt := 2) hx hb dX3_innerOf_23 (by decide) ?_
        exact ih x3_5 _ (lv_sub hl [1, 2, 3, 0] rfl) (okx hf (hc2 _))
      have hf := oit c_4 hf
      refine lv_iload_n hx hb dX3_innerOf_18 rfl (lv_at hl 3 rfl) ?_
      have hf := okx hf (hx2 _)
      exact hret _ _ _ dX3_innerOf_19 rfl (Option.some.inj hf)
  have hf := oun (f_X3_innerOf.eq_1 _ _ _ _) hf
  refine lv_iconst (v := (0 : Int32)) hx hb dX3_innerOf_0 (by decide) ?_
  refine lv_istore_n (lv' := [(3, .int (0 : Int32)), (0, .int x0), (1, .int x1), (2, .int x2)]) hx hb dX3_innerOf_1 rfl hl (by decide) rfl (fun ls hl => ?_)
  exact L2 x0 x1 x2 N (0 : Int32) _ (lv_sub hl [1, 2, 3, 0] rfl) hf
theorem dX3_isOpen_0 : decode cX3_isOpen 0 = .ok (.iload_n 0, 1) := by decide +kernel
theorem dX3_isOpen_1 : decode cX3_isOpen 1 = .ok (.invokestatic 11, 3) := by decide +kernel
theorem dX3_isOpen_4 : decode cX3_isOpen 4 = .ok (.iload_n 1, 1) := by decide +kernel
theorem dX3_isOpen_5 : decode cX3_isOpen 5 = .ok (.invokestatic 15, 3) := by decide +kernel
theorem dX3_isOpen_8 : decode cX3_isOpen 8 = .ok (.ireturn, 1) := by decide +kernel
def f_X3_isOpen (x0 : Int32) (x1 : Int32) : Option Int32 :=
  bd (f_X3_openSet x0) fun r_1 =>
  bd (f_X5_has r_1 x1) fun r_3 =>
  gd (isB r_3) <|
  some r_3
abbrev rmX3_isOpen : Room := { frames := 1, cells := 0, slots := 0, locals := 21 }
set_option maxRecDepth 100000 in
set_option maxHeartbeats 4000000 in
theorem c_X3_isOpen (l : Launch) (x0 : Int32) (x1 : Int32) (r : Int32) (hf : f_X3_isOpen x0 x1 = some r) : MetS l yX3_isOpen cX3_isOpen 2 (some .boolean) rmX3_isOpen [.int x0, .int x1] r := by
  refine mkS (by decide) (Nat.le_of_ble_eq_true rfl) rfl ?_
  intro p e s m args below meth cd Q ls h0 hK hret hl
  obtain ⟨S, hr, hlk⟩ := h0
  obtain ⟨hx, hb, hml, hown, ht⟩ := id S
  have hl : lv_has ls 2 [(0, .int x0), (1, .int x1)] := hl
  have hf := obs hf
  have hf := oun (f_X3_isOpen.eq_1 _ _) hf
  refine lv_iload_n hx hb dX3_isOpen_0 rfl (lv_at hl 0 rfl) ?_
  obtain ⟨r_1, h_2, hf⟩ := obd hf
  refine xs_S (As := [.int x0]) (rest := []) S k_X3_openSet q199 q200 ⟨Nat.le_of_ble_eq_true rfl, Nat.le_of_ble_eq_true rfl⟩ ⟨rfl, rfl⟩ (c_X3_openSet l x0 r_1 h_2) hK rfl hl.1 rfl (Nat.le_of_ble_eq_true rfl) dX3_isOpen_1 ⟨Nat.zero_le _, Nat.zero_le _⟩ ?_
  refine lv_iload_n hx hb dX3_isOpen_4 rfl (lv_at hl 1 rfl) ?_
  obtain ⟨r_3, h_4, hf⟩ := obd hf
  refine xn_S (As := [.int r_1, .int x1]) (rest := []) S k_X5_has hK.1 q202 ⟨Nat.le_of_ble_eq_true rfl, Nat.le_of_ble_eq_true rfl⟩ ⟨rfl, rfl⟩ (c_X5_has l r_1 x1 r_3 h_4) hK rfl hl.1 rfl (Nat.le_of_ble_eq_true rfl) dX3_isOpen_5 ⟨Nat.zero_le _, Nat.zero_le _⟩ ?_
  obtain ⟨g_5, hf⟩ := ogd hf
  exact hret _ _ _ dX3_isOpen_8 (isB_n g_5) (Option.some.inj hf)
theorem dX3_manyWithin_0 : decode cX3_manyWithin 0 = .ok (.iload_n 0, 1) := by decide +kernel
theorem dX3_manyWithin_1 : decode cX3_manyWithin 1 = .ok (.iload_n 1, 1) := by decide +kernel
theorem dX3_manyWithin_2 : decode cX3_manyWithin 2 = .ok (.iload_n 2, 1) := by decide +kernel
theorem dX3_manyWithin_3 : decode cX3_manyWithin 3 = .ok (.invokestatic 26, 3) := by decide +kernel
theorem dX3_manyWithin_6 : decode cX3_manyWithin 6 = .ok (.istore_n 3, 1) := by decide +kernel
theorem dX3_manyWithin_7 : decode cX3_manyWithin 7 = .ok (.iconst 0, 1) := by decide +kernel
theorem dX3_manyWithin_8 : decode cX3_manyWithin 8 = .ok (.istore 4, 2) := by decide +kernel
theorem dX3_manyWithin_10 : decode cX3_manyWithin 10 = .ok (.iconst 0, 1) := by decide +kernel
theorem dX3_manyWithin_11 : decode cX3_manyWithin 11 = .ok (.istore 5, 2) := by decide +kernel
theorem dX3_manyWithin_13 : decode cX3_manyWithin 13 = .ok (.iload 5, 2) := by decide +kernel
theorem dX3_manyWithin_15 : decode cX3_manyWithin 15 = .ok (.iconst 4, 1) := by decide +kernel
theorem dX3_manyWithin_16 : decode cX3_manyWithin 16 = .ok (.if_icmp .ge 25, 3) := by decide +kernel
theorem dX3_manyWithin_19 : decode cX3_manyWithin 19 = .ok (.iload_n 3, 1) := by decide +kernel
theorem dX3_manyWithin_20 : decode cX3_manyWithin 20 = .ok (.bipush (-9), 2) := by decide +kernel
theorem dX3_manyWithin_22 : decode cX3_manyWithin 22 = .ok (.if_icmp .eq 19, 3) := by decide +kernel
theorem dX3_manyWithin_25 : decode cX3_manyWithin 25 = .ok (.iinc 4 1, 3) := by decide +kernel
theorem dX3_manyWithin_28 : decode cX3_manyWithin 28 = .ok (.iload_n 0, 1) := by decide +kernel
theorem dX3_manyWithin_29 : decode cX3_manyWithin 29 = .ok (.iload_n 3, 1) := by decide +kernel
theorem dX3_manyWithin_30 : decode cX3_manyWithin 30 = .ok (.iload_n 2, 1) := by decide +kernel
theorem dX3_manyWithin_31 : decode cX3_manyWithin 31 = .ok (.invokestatic 26, 3) := by decide +kernel
theorem dX3_manyWithin_34 : decode cX3_manyWithin 34 = .ok (.istore_n 3, 1) := by decide +kernel
theorem dX3_manyWithin_35 : decode cX3_manyWithin 35 = .ok (.iinc 5 1, 3) := by decide +kernel
theorem dX3_manyWithin_38 : decode cX3_manyWithin 38 = .ok (.goto (-25), 3) := by decide +kernel
theorem dX3_manyWithin_41 : decode cX3_manyWithin 41 = .ok (.iload 4, 2) := by decide +kernel
theorem dX3_manyWithin_43 : decode cX3_manyWithin 43 = .ok (.ireturn, 1) := by decide +kernel
def f_X3_manyWithin_j41 (N : Nat) (x4 : Int32) : Option Int32 :=
  some x4
def f_X3_manyWithin_b13 (N : Nat) (x0 : Int32) (x2 : Int32) (x3 : Int32) (x4 : Int32) (x5 : Int32) : Option ((Int32 × Int32 × Int32) ⊕ ((Int32))) :=
  if (4 : Int32) ≤ x5 then (some (.inr x4))
  else if x3 = (-9 : Int32) then (some (.inr x4))
  else nm (x4 + (1 : Int32)) fun x4_3 =>
  bd (f_X3_innerOf N x0 x3 x2) fun r_4 =>
  nm (x5 + (1 : Int32)) fun x5_6 =>
  some (.inl (r_4, x4_3, x5_6))
def f_X3_manyWithin (N : Nat) (x0 : Int32) (x1 : Int32) (x2 : Int32) : Option Int32 :=
  bd (f_X3_innerOf N x0 x1 x2) fun r_7 =>
  bd (lpF (fun s => f_X3_manyWithin_b13 N x0 x2 s.1 s.2.1 s.2.2) N (r_7, (0 : Int32), (0 : Int32))) (fun o => f_X3_manyWithin_j41 N o)
abbrev rmX3_manyWithin : Room := { frames := 2, cells := 0, slots := 0, locals := 44 }
set_option maxRecDepth 100000 in
set_option maxHeartbeats 4000000 in
theorem c_X3_manyWithin (l : Launch) (N : Nat) (x0 : Int32) (x1 : Int32) (x2 : Int32) (r : Int32) (hf : f_X3_manyWithin N x0 x1 x2 = some r) : MetS l yX3_manyWithin cX3_manyWithin 6 (some .int) rmX3_manyWithin [.int x0, .int x1, .int x2] r := by
  refine mkS (by decide) (Nat.le_of_ble_eq_true rfl) rfl ?_
  intro p e s m args below meth cd Q ls h0 hK hret hl
  obtain ⟨S, hr, hlk⟩ := h0
  obtain ⟨hx, hb, hml, hown, ht⟩ := id S
  have hl : lv_has ls 6 [(0, .int x0), (1, .int x1), (2, .int x2)] := hl
  have hf := obs hf
  have j41 : ∀ (x4 : Int32) (ls : Array Slot), lv_has ls 6 [(4, .int x4)] → Option.bind (f_X3_manyWithin_j41 N x4) some = some r → W p l e rmX3_manyWithin s m args below meth cd s.heap [] 0 0 Q (F0 m 41 ls []) := by
    intro x4 ls hl hf
    have hf := oun (f_X3_manyWithin_j41.eq_1 _ _) hf
    refine lv_iload hx hb dX3_manyWithin_41 (lv_at hl 0 rfl) ?_
    exact hret _ _ _ dX3_manyWithin_43 rfl (Option.some.inj hf)
  have L13 : ∀ (x0 : Int32) (x2 : Int32) (k : Nat) (x3 : Int32) (x4 : Int32) (x5 : Int32) (ls : Array Slot), lv_has ls 6 [(0, .int x0), (2, .int x2), (3, .int x3), (4, .int x4), (5, .int x5)] → Option.bind (bd (lpF (fun s => f_X3_manyWithin_b13 N x0 x2 s.1 s.2.1 s.2.2) k (x3, x4, x5)) (fun o => f_X3_manyWithin_j41 N o)) some = some r → W p l e rmX3_manyWithin s m args below meth cd s.heap [] 0 0 Q (F0 m 13 ls []) := by
    intro x0 x2 k
    induction k with
    | zero =>
      intro x3 x4 x5 ls hl hf
      exact (ol0 hf).elim
    | succ k ih =>
      intro x3 x4 x5 ls hl hf
      obtain ⟨K13, hf, hc13, hx13⟩ := ol1 hf
      have hf := oun (f_X3_manyWithin_b13.eq_1 N x0 x2 x3 x4 x5) hf
      refine lv_iload hx hb dX3_manyWithin_13 (lv_at hl 4 rfl) ?_
      refine lv_iconst (v := (4 : Int32)) hx hb dX3_manyWithin_15 (by decide) ?_
      refine lv_icmp_ge (tgt := 41) hx hb dX3_manyWithin_16 (by decide) (fun c_1 => ?_) (fun c_1 => ?_)
      · have hf := oit c_1 hf
        exact j41 x4 _ (lv_sub hl [3] rfl) (okx hf (hx13 _))
      have hf := oif c_1 hf
      refine lv_iload_n hx hb dX3_manyWithin_19 rfl (lv_at hl 2 rfl) ?_
      refine lv_bipush (v := (-9 : Int32)) hx hb dX3_manyWithin_20 (by decide) ?_
      refine lv_icmp_eq (tgt := 41) hx hb dX3_manyWithin_22 (by decide) (fun c_2 => ?_) (fun c_2 => ?_)
      · have hf := oit c_2 hf
        exact j41 x4 _ (lv_sub hl [3] rfl) (okx hf (hx13 _))
      have hf := oif c_2 hf
      obtain ⟨x4_3, ex4_3, hf⟩ := onm hf
      refine lv_iinc (v := x4_3) (lv' := [(4, .int x4_3), (0, .int x0), (2, .int x2), (3, .int x3), (5, .int x5)]) hx hb dX3_manyWithin_25 hl (k := 3) rfl ex4_3 (by decide) rfl (fun ls hl => ?_)
      refine lv_iload_n hx hb dX3_manyWithin_28 rfl (lv_at hl 1 rfl) ?_
      refine lv_iload_n hx hb dX3_manyWithin_29 rfl (lv_at hl 3 rfl) ?_
      refine lv_iload_n hx hb dX3_manyWithin_30 rfl (lv_at hl 2 rfl) ?_
      obtain ⟨r_4, h_5, hf⟩ := obd hf
      refine xs_S (As := [.int x0, .int x3, .int x2]) (rest := []) S k_X3_innerOf q221 q216 ⟨Nat.le_of_ble_eq_true rfl, Nat.le_of_ble_eq_true rfl⟩ ⟨rfl, rfl⟩ (c_X3_innerOf l N x0 x3 x2 r_4 h_5) hK rfl hl.1 rfl (Nat.le_of_ble_eq_true rfl) dX3_manyWithin_31 ⟨Nat.zero_le _, Nat.zero_le _⟩ ?_
      refine lv_istore_n (lv' := [(3, .int r_4), (4, .int x4_3), (0, .int x0), (2, .int x2), (5, .int x5)]) hx hb dX3_manyWithin_34 rfl hl (by decide) rfl (fun ls hl => ?_)
      obtain ⟨x5_6, ex5_6, hf⟩ := onm hf
      refine lv_iinc (v := x5_6) (lv' := [(5, .int x5_6), (3, .int r_4), (4, .int x4_3), (0, .int x0), (2, .int x2)]) hx hb dX3_manyWithin_35 hl (k := 4) rfl ex5_6 (by decide) rfl (fun ls hl => ?_)
      refine lv_goto (tgt := 13) hx hb dX3_manyWithin_38 (by decide) ?_
      exact ih r_4 x4_3 x5_6 _ (lv_sub hl [3, 4, 1, 2, 0] rfl) (okx hf (hc13 _))
  have hf := oun (f_X3_manyWithin.eq_1 _ _ _ _) hf
  refine lv_iload_n hx hb dX3_manyWithin_0 rfl (lv_at hl 0 rfl) ?_
  refine lv_iload_n hx hb dX3_manyWithin_1 rfl (lv_at hl 1 rfl) ?_
  refine lv_iload_n hx hb dX3_manyWithin_2 rfl (lv_at hl 2 rfl) ?_
  obtain ⟨r_7, h_8, hf⟩ := obd hf
  refine xs_S (As := [.int x0, .int x1, .int x2]) (rest := []) S k_X3_innerOf q221 q216 ⟨Nat.le_of_ble_eq_true rfl, Nat.le_of_ble_eq_true rfl⟩ ⟨rfl, rfl⟩ (c_X3_innerOf l N x0 x1 x2 r_7 h_8) hK rfl hl.1 rfl (Nat.le_of_ble_eq_true rfl) dX3_manyWithin_3 ⟨Nat.zero_le _, Nat.zero_le _⟩ ?_
  refine lv_istore_n (lv' := [(3, .int r_7), (0, .int x0), (1, .int x1), (2, .int x2)]) hx hb dX3_manyWithin_6 rfl hl (by decide) rfl (fun ls hl => ?_)
  refine lv_iconst (v := (0 : Int32)) hx hb dX3_manyWithin_7 (by decide) ?_
  refine lv_istore (lv' := [(4, .int (0 : Int32)), (3, .int r_7), (0, .int x0), (1, .int x1), (2, .int x2)]) hx hb dX3_manyWithin_8 hl (by decide) rfl (fun ls hl => ?_)
  refine lv_iconst (v := (0 : Int32)) hx hb dX3_manyWithin_10 (by decide) ?_
  refine lv_istore (lv' := [(5, .int (0 : Int32)), (4, .int (0 : Int32)), (3, .int r_7), (0, .int x0), (1, .int x1), (2, .int x2)]) hx hb dX3_manyWithin_11 hl (by decide) rfl (fun ls hl => ?_)
  exact L13 x0 x2 N r_7 (0 : Int32) (0 : Int32) _ (lv_sub hl [3, 5, 2, 1, 0] rfl) hf
theorem dX5_oneIf_0 : decode cX5_oneIf 0 = .ok (.iload_n 0, 1) := by decide +kernel
theorem dX5_oneIf_1 : decode cX5_oneIf 1 = .ok (.ifCond .eq 7, 3) := by decide +kernel
theorem dX5_oneIf_4 : decode cX5_oneIf 4 = .ok (.iconst 1, 1) := by decide +kernel
theorem dX5_oneIf_5 : decode cX5_oneIf 5 = .ok (.goto 4, 3) := by decide +kernel
theorem dX5_oneIf_8 : decode cX5_oneIf 8 = .ok (.iconst 0, 1) := by decide +kernel
theorem dX5_oneIf_9 : decode cX5_oneIf 9 = .ok (.ireturn, 1) := by decide +kernel
def f_X5_oneIf (x0 : Int32) : Option Int32 :=
  if x0 = 0 then (some (0 : Int32))
  else some (1 : Int32)
abbrev rmX5_oneIf : Room := { frames := 0, cells := 0, slots := 0, locals := 0 }
set_option maxRecDepth 100000 in
set_option maxHeartbeats 4000000 in
theorem c_X5_oneIf (l : Launch) (x0 : Int32) (r : Int32) (hf : f_X5_oneIf x0 = some r) : MetS l yX5_oneIf cX5_oneIf 1 (some .int) rmX5_oneIf [.int x0] r := by
  refine mkS (by decide) (Nat.le_of_ble_eq_true rfl) rfl ?_
  intro p e s m args below meth cd Q ls h0 hK hret hl
  obtain ⟨S, hr, hlk⟩ := h0
  obtain ⟨hx, hb, hml, hown, ht⟩ := id S
  have hl : lv_has ls 1 [(0, .int x0)] := hl
  have hf := obs hf
  have hf := oun (f_X5_oneIf.eq_1 _) hf
  refine lv_iload_n hx hb dX5_oneIf_0 rfl (lv_at hl 0 rfl) ?_
  refine lv_if_eq (tgt := 8) hx hb dX5_oneIf_1 (by decide) (fun c_1 => ?_) (fun c_1 => ?_)
  · have hf := oit c_1 hf
    refine lv_iconst (v := (0 : Int32)) hx hb dX5_oneIf_8 (by decide) ?_
    exact hret _ _ _ dX5_oneIf_9 rfl (Option.some.inj hf)
  have hf := oif c_1 hf
  refine lv_iconst (v := (1 : Int32)) hx hb dX5_oneIf_4 (by decide) ?_
  refine lv_goto (tgt := 9) hx hb dX5_oneIf_5 (by decide) ?_
  exact hret _ _ _ dX5_oneIf_9 rfl (Option.some.inj hf)
theorem dX6_isOf_0 : decode cX6_isOf 0 = .ok (.iload_n 0, 1) := by decide +kernel
theorem dX6_isOf_1 : decode cX6_isOf 1 = .ok (.iload_n 1, 1) := by decide +kernel
theorem dX6_isOf_2 : decode cX6_isOf 2 = .ok (.ishr, 1) := by decide +kernel
theorem dX6_isOf_3 : decode cX6_isOf 3 = .ok (.iconst 1, 1) := by decide +kernel
theorem dX6_isOf_4 : decode cX6_isOf 4 = .ok (.iand, 1) := by decide +kernel
theorem dX6_isOf_5 : decode cX6_isOf 5 = .ok (.iconst 1, 1) := by decide +kernel
theorem dX6_isOf_6 : decode cX6_isOf 6 = .ok (.if_icmp .ne 7, 3) := by decide +kernel
theorem dX6_isOf_9 : decode cX6_isOf 9 = .ok (.iconst 1, 1) := by decide +kernel
theorem dX6_isOf_10 : decode cX6_isOf 10 = .ok (.goto 4, 3) := by decide +kernel
theorem dX6_isOf_13 : decode cX6_isOf 13 = .ok (.iconst 0, 1) := by decide +kernel
theorem dX6_isOf_14 : decode cX6_isOf 14 = .ok (.ireturn, 1) := by decide +kernel
def f_X6_isOf (x0 : Int32) (x1 : Int32) : Option Int32 :=
  if ((x0 >>> (x1 &&& 31)) &&& (1 : Int32)) = (1 : Int32) then (some (1 : Int32))
  else some (0 : Int32)
abbrev rmX6_isOf : Room := { frames := 0, cells := 0, slots := 0, locals := 0 }
set_option maxRecDepth 100000 in
set_option maxHeartbeats 4000000 in
theorem c_X6_isOf (l : Launch) (x0 : Int32) (x1 : Int32) (r : Int32) (hf : f_X6_isOf x0 x1 = some r) : MetS l yX6_isOf cX6_isOf 2 (some .boolean) rmX6_isOf [.int x0, .int x1] r := by
  refine mkS (by decide) (Nat.le_of_ble_eq_true rfl) rfl ?_
  intro p e s m args below meth cd Q ls h0 hK hret hl
  obtain ⟨S, hr, hlk⟩ := h0
  obtain ⟨hx, hb, hml, hown, ht⟩ := id S
  have hl : lv_has ls 2 [(0, .int x0), (1, .int x1)] := hl
  have hf := obs hf
  have hf := oun (f_X6_isOf.eq_1 _ _) hf
  refine lv_iload_n hx hb dX6_isOf_0 rfl (lv_at hl 0 rfl) ?_
  refine lv_iload_n hx hb dX6_isOf_1 rfl (lv_at hl 1 rfl) ?_
  refine lv_ishr hx hb dX6_isOf_2 ?_
  refine lv_iconst (v := (1 : Int32)) hx hb dX6_isOf_3 (by decide) ?_
  refine lv_iand hx hb dX6_isOf_4 ?_
  refine lv_iconst (v := (1 : Int32)) hx hb dX6_isOf_5 (by decide) ?_
  refine lv_icmp_ne (tgt := 13) hx hb dX6_isOf_6 (by decide) (fun c_1 => ?_) (fun c_1 => ?_)
  · have hf := oif c_1 hf
    refine lv_iconst (v := (0 : Int32)) hx hb dX6_isOf_13 (by decide) ?_
    exact hret _ _ _ dX6_isOf_14 (by decide) (Option.some.inj hf)
  have hf := oit c_1 hf
  refine lv_iconst (v := (1 : Int32)) hx hb dX6_isOf_9 (by decide) ?_
  refine lv_goto (tgt := 14) hx hb dX6_isOf_10 (by decide) ?_
  exact hret _ _ _ dX6_isOf_14 (by decide) (Option.some.inj hf)
theorem dX3_moved_0 : decode cX3_moved 0 = .ok (.iconst 3, 1) := by decide +kernel
theorem dX3_moved_1 : decode cX3_moved 1 = .ok (.iload_n 1, 1) := by decide +kernel
theorem dX3_moved_2 : decode cX3_moved 2 = .ok (.imul, 1) := by decide +kernel
theorem dX3_moved_3 : decode cX3_moved 3 = .ok (.istore_n 3, 1) := by decide +kernel
theorem dX3_moved_4 : decode cX3_moved 4 = .ok (.iload_n 0, 1) := by decide +kernel
theorem dX3_moved_5 : decode cX3_moved 5 = .ok (.bipush 7, 2) := by decide +kernel
theorem dX3_moved_7 : decode cX3_moved 7 = .ok (.iload_n 3, 1) := by decide +kernel
theorem dX3_moved_8 : decode cX3_moved 8 = .ok (.ishl, 1) := by decide +kernel
theorem dX3_moved_9 : decode cX3_moved 9 = .ok (.iconst (-1), 1) := by decide +kernel
theorem dX3_moved_10 : decode cX3_moved 10 = .ok (.ixor, 1) := by decide +kernel
theorem dX3_moved_11 : decode cX3_moved 11 = .ok (.iand, 1) := by decide +kernel
theorem dX3_moved_12 : decode cX3_moved 12 = .ok (.iload_n 2, 1) := by decide +kernel
theorem dX3_moved_13 : decode cX3_moved 13 = .ok (.iload_n 3, 1) := by decide +kernel
theorem dX3_moved_14 : decode cX3_moved 14 = .ok (.ishl, 1) := by decide +kernel
theorem dX3_moved_15 : decode cX3_moved 15 = .ok (.ior, 1) := by decide +kernel
theorem dX3_moved_16 : decode cX3_moved 16 = .ok (.ireturn, 1) := by decide +kernel
def f_X3_moved (x0 : Int32) (x1 : Int32) (x2 : Int32) : Option Int32 :=
  nm ((3 : Int32) * x1) fun x3_1 =>
  some ((x0 &&& (((7 : Int32) <<< (x3_1 &&& 31)) ^^^ (-1 : Int32))) ||| (x2 <<< (x3_1 &&& 31)))
abbrev rmX3_moved : Room := { frames := 0, cells := 0, slots := 0, locals := 0 }
set_option maxRecDepth 100000 in
set_option maxHeartbeats 4000000 in
theorem c_X3_moved (l : Launch) (x0 : Int32) (x1 : Int32) (x2 : Int32) (r : Int32) (hf : f_X3_moved x0 x1 x2 = some r) : MetS l yX3_moved cX3_moved 4 (some .int) rmX3_moved [.int x0, .int x1, .int x2] r := by
  refine mkS (by decide) (Nat.le_of_ble_eq_true rfl) rfl ?_
  intro p e s m args below meth cd Q ls h0 hK hret hl
  obtain ⟨S, hr, hlk⟩ := h0
  obtain ⟨hx, hb, hml, hown, ht⟩ := id S
  have hl : lv_has ls 4 [(0, .int x0), (1, .int x1), (2, .int x2)] := hl
  have hf := obs hf
  have hf := oun (f_X3_moved.eq_1 _ _ _) hf
  refine lv_iconst (v := (3 : Int32)) hx hb dX3_moved_0 (by decide) ?_
  refine lv_iload_n hx hb dX3_moved_1 rfl (lv_at hl 1 rfl) ?_
  refine lv_imul hx hb dX3_moved_2 ?_
  obtain ⟨x3_1, ex3_1, hf⟩ := onm hf
  refine lv_nm ex3_1 ?_
  refine lv_istore_n (lv' := [(3, .int x3_1), (0, .int x0), (1, .int x1), (2, .int x2)]) hx hb dX3_moved_3 rfl hl (by decide) rfl (fun ls hl => ?_)
  refine lv_iload_n hx hb dX3_moved_4 rfl (lv_at hl 1 rfl) ?_
  refine lv_bipush (v := (7 : Int32)) hx hb dX3_moved_5 (by decide) ?_
  refine lv_iload_n hx hb dX3_moved_7 rfl (lv_at hl 0 rfl) ?_
  refine lv_ishl hx hb dX3_moved_8 ?_
  refine lv_iconst (v := (-1 : Int32)) hx hb dX3_moved_9 (by decide) ?_
  refine lv_ixor hx hb dX3_moved_10 ?_
  refine lv_iand hx hb dX3_moved_11 ?_
  refine lv_iload_n hx hb dX3_moved_12 rfl (lv_at hl 3 rfl) ?_
  refine lv_iload_n hx hb dX3_moved_13 rfl (lv_at hl 0 rfl) ?_
  refine lv_ishl hx hb dX3_moved_14 ?_
  refine lv_ior hx hb dX3_moved_15 ?_
  exact hret _ _ _ dX3_moved_16 rfl (Option.some.inj hf)
theorem dX3_after_0 : decode cX3_after 0 = .ok (.iload_n 1, 1) := by decide +kernel
theorem dX3_after_1 : decode cX3_after 1 = .ok (.iconst 4, 1) := by decide +kernel
theorem dX3_after_2 : decode cX3_after 2 = .ok (.if_icmp .ge 12, 3) := by decide +kernel
theorem dX3_after_5 : decode cX3_after 5 = .ok (.iload_n 0, 1) := by decide +kernel
theorem dX3_after_6 : decode cX3_after 6 = .ok (.iconst 1, 1) := by decide +kernel
theorem dX3_after_7 : decode cX3_after 7 = .ok (.bipush 12, 2) := by decide +kernel
theorem dX3_after_9 : decode cX3_after 9 = .ok (.iload_n 1, 1) := by decide +kernel
theorem dX3_after_10 : decode cX3_after 10 = .ok (.iadd, 1) := by decide +kernel
theorem dX3_after_11 : decode cX3_after 11 = .ok (.ishl, 1) := by decide +kernel
theorem dX3_after_12 : decode cX3_after 12 = .ok (.ior, 1) := by decide +kernel
theorem dX3_after_13 : decode cX3_after 13 = .ok (.ireturn, 1) := by decide +kernel
theorem dX3_after_14 : decode cX3_after 14 = .ok (.iload_n 1, 1) := by decide +kernel
theorem dX3_after_15 : decode cX3_after 15 = .ok (.bipush 8, 2) := by decide +kernel
theorem dX3_after_17 : decode cX3_after 17 = .ok (.if_icmp .ge 16, 3) := by decide +kernel
theorem dX3_after_20 : decode cX3_after 20 = .ok (.iload_n 0, 1) := by decide +kernel
theorem dX3_after_21 : decode cX3_after 21 = .ok (.iconst 1, 1) := by decide +kernel
theorem dX3_after_22 : decode cX3_after 22 = .ok (.bipush 12, 2) := by decide +kernel
theorem dX3_after_24 : decode cX3_after 24 = .ok (.iload_n 1, 1) := by decide +kernel
theorem dX3_after_25 : decode cX3_after 25 = .ok (.iadd, 1) := by decide +kernel
theorem dX3_after_26 : decode cX3_after 26 = .ok (.iconst 4, 1) := by decide +kernel
theorem dX3_after_27 : decode cX3_after 27 = .ok (.isub, 1) := by decide +kernel
theorem dX3_after_28 : decode cX3_after 28 = .ok (.ishl, 1) := by decide +kernel
theorem dX3_after_29 : decode cX3_after 29 = .ok (.iconst (-1), 1) := by decide +kernel
theorem dX3_after_30 : decode cX3_after 30 = .ok (.ixor, 1) := by decide +kernel
theorem dX3_after_31 : decode cX3_after 31 = .ok (.iand, 1) := by decide +kernel
theorem dX3_after_32 : decode cX3_after 32 = .ok (.ireturn, 1) := by decide +kernel
theorem dX3_after_33 : decode cX3_after 33 = .ok (.iload_n 1, 1) := by decide +kernel
theorem dX3_after_34 : decode cX3_after 34 = .ok (.bipush 12, 2) := by decide +kernel
theorem dX3_after_36 : decode cX3_after 36 = .ok (.if_icmp .ge 13, 3) := by decide +kernel
theorem dX3_after_39 : decode cX3_after 39 = .ok (.iload_n 0, 1) := by decide +kernel
theorem dX3_after_40 : decode cX3_after 40 = .ok (.iload_n 1, 1) := by decide +kernel
theorem dX3_after_41 : decode cX3_after 41 = .ok (.bipush 8, 2) := by decide +kernel
theorem dX3_after_43 : decode cX3_after 43 = .ok (.isub, 1) := by decide +kernel
theorem dX3_after_44 : decode cX3_after 44 = .ok (.iconst 0, 1) := by decide +kernel
theorem dX3_after_45 : decode cX3_after 45 = .ok (.invokestatic 47, 3) := by decide +kernel
theorem dX3_after_48 : decode cX3_after 48 = .ok (.ireturn, 1) := by decide +kernel
theorem dX3_after_49 : decode cX3_after 49 = .ok (.iload_n 0, 1) := by decide +kernel
theorem dX3_after_50 : decode cX3_after 50 = .ok (.iload_n 1, 1) := by decide +kernel
theorem dX3_after_51 : decode cX3_after 51 = .ok (.bipush 12, 2) := by decide +kernel
theorem dX3_after_53 : decode cX3_after 53 = .ok (.isub, 1) := by decide +kernel
theorem dX3_after_54 : decode cX3_after 54 = .ok (.iconst 4, 1) := by decide +kernel
theorem dX3_after_55 : decode cX3_after 55 = .ok (.idiv, 1) := by decide +kernel
theorem dX3_after_56 : decode cX3_after 56 = .ok (.iload_n 1, 1) := by decide +kernel
theorem dX3_after_57 : decode cX3_after 57 = .ok (.bipush 12, 2) := by decide +kernel
theorem dX3_after_59 : decode cX3_after 59 = .ok (.isub, 1) := by decide +kernel
theorem dX3_after_60 : decode cX3_after 60 = .ok (.iconst 4, 1) := by decide +kernel
theorem dX3_after_61 : decode cX3_after 61 = .ok (.irem, 1) := by decide +kernel
theorem dX3_after_62 : decode cX3_after 62 = .ok (.iconst 1, 1) := by decide +kernel
theorem dX3_after_63 : decode cX3_after 63 = .ok (.iadd, 1) := by decide +kernel
theorem dX3_after_64 : decode cX3_after 64 = .ok (.invokestatic 47, 3) := by decide +kernel
theorem dX3_after_67 : decode cX3_after 67 = .ok (.ireturn, 1) := by decide +kernel
def f_X3_after (x0 : Int32) (x1 : Int32) : Option Int32 :=
  if (4 : Int32) ≤ x1 then (if (8 : Int32) ≤ x1 then (if (12 : Int32) ≤ x1 then (bd (f_X3_moved x0 ((x1 - (12 : Int32)) / (4 : Int32)) (((x1 - (12 : Int32)) - (x1 - (12 : Int32)) / (4 : Int32) * (4 : Int32)) + (1 : Int32))) fun r_4 =>
        some r_4)
      else bd (f_X3_moved x0 (x1 - (8 : Int32)) (0 : Int32)) fun r_6 =>
      some r_6)
    else some (x0 &&& (((1 : Int32) <<< ((((12 : Int32) + x1) - (4 : Int32)) &&& 31)) ^^^ (-1 : Int32))))
  else some (x0 ||| ((1 : Int32) <<< (((12 : Int32) + x1) &&& 31)))
abbrev rmX3_after : Room := { frames := 1, cells := 0, slots := 0, locals := 23 }
set_option maxRecDepth 100000 in
set_option maxHeartbeats 4000000 in
theorem c_X3_after (l : Launch) (x0 : Int32) (x1 : Int32) (r : Int32) (hf : f_X3_after x0 x1 = some r) : MetS l yX3_after cX3_after 2 (some .int) rmX3_after [.int x0, .int x1] r := by
  refine mkS (by decide) (Nat.le_of_ble_eq_true rfl) rfl ?_
  intro p e s m args below meth cd Q ls h0 hK hret hl
  obtain ⟨S, hr, hlk⟩ := h0
  obtain ⟨hx, hb, hml, hown, ht⟩ := id S
  have hl : lv_has ls 2 [(0, .int x0), (1, .int x1)] := hl
  have hf := obs hf
  have hf := oun (f_X3_after.eq_1 _ _) hf
  refine lv_iload_n hx hb dX3_after_0 rfl (lv_at hl 1 rfl) ?_
  refine lv_iconst (v := (4 : Int32)) hx hb dX3_after_1 (by decide) ?_
  refine lv_icmp_ge (tgt := 14) hx hb dX3_after_2 (by decide) (fun c_1 => ?_) (fun c_1 => ?_)
  · have hf := oit c_1 hf
    refine lv_iload_n hx hb dX3_after_14 rfl (lv_at hl 1 rfl) ?_
    refine lv_bipush (v := (8 : Int32)) hx hb dX3_after_15 (by decide) ?_
    refine lv_icmp_ge (tgt := 33) hx hb dX3_after_17 (by decide) (fun c_2 => ?_) (fun c_2 => ?_)
    · have hf := oit c_2 hf
      refine lv_iload_n hx hb dX3_after_33 rfl (lv_at hl 1 rfl) ?_
      refine lv_bipush (v := (12 : Int32)) hx hb dX3_after_34 (by decide) ?_
      refine lv_icmp_ge (tgt := 49) hx hb dX3_after_36 (by decide) (fun c_3 => ?_) (fun c_3 => ?_)
      · have hf := oit c_3 hf
        refine lv_iload_n hx hb dX3_after_49 rfl (lv_at hl 0 rfl) ?_
        refine lv_iload_n hx hb dX3_after_50 rfl (lv_at hl 1 rfl) ?_
        refine lv_bipush (v := (12 : Int32)) hx hb dX3_after_51 (by decide) ?_
        refine lv_isub hx hb dX3_after_53 ?_
        refine lv_iconst (v := (4 : Int32)) hx hb dX3_after_54 (by decide) ?_
        refine lv_idiv hx hb dX3_after_55 (by decide) ?_
        refine lv_iload_n hx hb dX3_after_56 rfl (lv_at hl 1 rfl) ?_
        refine lv_bipush (v := (12 : Int32)) hx hb dX3_after_57 (by decide) ?_
        refine lv_isub hx hb dX3_after_59 ?_
        refine lv_iconst (v := (4 : Int32)) hx hb dX3_after_60 (by decide) ?_
        refine lv_irem hx hb dX3_after_61 (by decide) ?_
        refine lv_iconst (v := (1 : Int32)) hx hb dX3_after_62 (by decide) ?_
        refine lv_iadd hx hb dX3_after_63 ?_
        obtain ⟨r_4, h_5, hf⟩ := obd hf
        refine xs_S (As := [.int x0, .int ((x1 - (12 : Int32)) / (4 : Int32)), .int (((x1 - (12 : Int32)) - (x1 - (12 : Int32)) / (4 : Int32) * (4 : Int32)) + (1 : Int32))]) (rest := []) S k_X3_moved q319 q320 ⟨Nat.le_of_ble_eq_true rfl, Nat.le_of_ble_eq_true rfl⟩ ⟨rfl, rfl⟩ (c_X3_moved l x0 ((x1 - (12 : Int32)) / (4 : Int32)) (((x1 - (12 : Int32)) - (x1 - (12 : Int32)) / (4 : Int32) * (4 : Int32)) + (1 : Int32)) r_4 h_5) hK rfl hl.1 rfl (Nat.le_of_ble_eq_true rfl) dX3_after_64 ⟨Nat.zero_le _, Nat.zero_le _⟩ ?_
        exact hret _ _ _ dX3_after_67 rfl (Option.some.inj hf)
      have hf := oif c_3 hf
      refine lv_iload_n hx hb dX3_after_39 rfl (lv_at hl 0 rfl) ?_
      refine lv_iload_n hx hb dX3_after_40 rfl (lv_at hl 1 rfl) ?_
      refine lv_bipush (v := (8 : Int32)) hx hb dX3_after_41 (by decide) ?_
      refine lv_isub hx hb dX3_after_43 ?_
      refine lv_iconst (v := (0 : Int32)) hx hb dX3_after_44 (by decide) ?_
      obtain ⟨r_6, h_7, hf⟩ := obd hf
      refine xs_S (As := [.int x0, .int (x1 - (8 : Int32)), .int (0 : Int32)]) (rest := []) S k_X3_moved q319 q320 ⟨Nat.le_of_ble_eq_true rfl, Nat.le_of_ble_eq_true rfl⟩ ⟨rfl, rfl⟩ (c_X3_moved l x0 (x1 - (8 : Int32)) (0 : Int32) r_6 h_7) hK rfl hl.1 rfl (Nat.le_of_ble_eq_true rfl) dX3_after_45 ⟨Nat.zero_le _, Nat.zero_le _⟩ ?_
      exact hret _ _ _ dX3_after_48 rfl (Option.some.inj hf)
    have hf := oif c_2 hf
    refine lv_iload_n hx hb dX3_after_20 rfl (lv_at hl 0 rfl) ?_
    refine lv_iconst (v := (1 : Int32)) hx hb dX3_after_21 (by decide) ?_
    refine lv_bipush (v := (12 : Int32)) hx hb dX3_after_22 (by decide) ?_
    refine lv_iload_n hx hb dX3_after_24 rfl (lv_at hl 1 rfl) ?_
    refine lv_iadd hx hb dX3_after_25 ?_
    refine lv_iconst (v := (4 : Int32)) hx hb dX3_after_26 (by decide) ?_
    refine lv_isub hx hb dX3_after_27 ?_
    refine lv_ishl hx hb dX3_after_28 ?_
    refine lv_iconst (v := (-1 : Int32)) hx hb dX3_after_29 (by decide) ?_
    refine lv_ixor hx hb dX3_after_30 ?_
    refine lv_iand hx hb dX3_after_31 ?_
    exact hret _ _ _ dX3_after_32 rfl (Option.some.inj hf)
  have hf := oif c_1 hf
  refine lv_iload_n hx hb dX3_after_5 rfl (lv_at hl 0 rfl) ?_
  refine lv_iconst (v := (1 : Int32)) hx hb dX3_after_6 (by decide) ?_
  refine lv_bipush (v := (12 : Int32)) hx hb dX3_after_7 (by decide) ?_
  refine lv_iload_n hx hb dX3_after_9 rfl (lv_at hl 1 rfl) ?_
  refine lv_iadd hx hb dX3_after_10 ?_
  refine lv_ishl hx hb dX3_after_11 ?_
  refine lv_ior hx hb dX3_after_12 ?_
  exact hret _ _ _ dX3_after_13 rfl (Option.some.inj hf)
theorem dX3_outersOf_0 : decode cX3_outersOf 0 = .ok (.iconst 0, 1) := by decide +kernel
theorem dX3_outersOf_1 : decode cX3_outersOf 1 = .ok (.istore_n 2, 1) := by decide +kernel
theorem dX3_outersOf_2 : decode cX3_outersOf 2 = .ok (.iconst 0, 1) := by decide +kernel
theorem dX3_outersOf_3 : decode cX3_outersOf 3 = .ok (.istore_n 3, 1) := by decide +kernel
theorem dX3_outersOf_4 : decode cX3_outersOf 4 = .ok (.iload_n 3, 1) := by decide +kernel
theorem dX3_outersOf_5 : decode cX3_outersOf 5 = .ok (.iconst 4, 1) := by decide +kernel
theorem dX3_outersOf_6 : decode cX3_outersOf 6 = .ok (.if_icmp .ge 38, 3) := by decide +kernel
theorem dX3_outersOf_9 : decode cX3_outersOf 9 = .ok (.iload_n 0, 1) := by decide +kernel
theorem dX3_outersOf_10 : decode cX3_outersOf 10 = .ok (.iload_n 3, 1) := by decide +kernel
theorem dX3_outersOf_11 : decode cX3_outersOf 11 = .ok (.invokestatic 19, 3) := by decide +kernel
theorem dX3_outersOf_14 : decode cX3_outersOf 14 = .ok (.istore 4, 2) := by decide +kernel
theorem dX3_outersOf_16 : decode cX3_outersOf 16 = .ok (.iload_n 1, 1) := by decide +kernel
theorem dX3_outersOf_17 : decode cX3_outersOf 17 = .ok (.iload_n 3, 1) := by decide +kernel
theorem dX3_outersOf_18 : decode cX3_outersOf 18 = .ok (.invokestatic 15, 3) := by decide +kernel
theorem dX3_outersOf_21 : decode cX3_outersOf 21 = .ok (.ifCond .eq 17, 3) := by decide +kernel
theorem dX3_outersOf_24 : decode cX3_outersOf 24 = .ok (.iload 4, 2) := by decide +kernel
theorem dX3_outersOf_26 : decode cX3_outersOf 26 = .ok (.ifCond .eq 12, 3) := by decide +kernel
theorem dX3_outersOf_29 : decode cX3_outersOf 29 = .ok (.iload_n 2, 1) := by decide +kernel
theorem dX3_outersOf_30 : decode cX3_outersOf 30 = .ok (.iconst 1, 1) := by decide +kernel
theorem dX3_outersOf_31 : decode cX3_outersOf 31 = .ok (.iload 4, 2) := by decide +kernel
theorem dX3_outersOf_33 : decode cX3_outersOf 33 = .ok (.iconst 1, 1) := by decide +kernel
theorem dX3_outersOf_34 : decode cX3_outersOf 34 = .ok (.isub, 1) := by decide +kernel
theorem dX3_outersOf_35 : decode cX3_outersOf 35 = .ok (.ishl, 1) := by decide +kernel
theorem dX3_outersOf_36 : decode cX3_outersOf 36 = .ok (.ior, 1) := by decide +kernel
theorem dX3_outersOf_37 : decode cX3_outersOf 37 = .ok (.istore_n 2, 1) := by decide +kernel
theorem dX3_outersOf_38 : decode cX3_outersOf 38 = .ok (.iinc 3 1, 3) := by decide +kernel
theorem dX3_outersOf_41 : decode cX3_outersOf 41 = .ok (.goto (-37), 3) := by decide +kernel
theorem dX3_outersOf_44 : decode cX3_outersOf 44 = .ok (.iload_n 2, 1) := by decide +kernel
theorem dX3_outersOf_45 : decode cX3_outersOf 45 = .ok (.ireturn, 1) := by decide +kernel
def f_X3_outersOf_j44 (N : Nat) (x2 : Int32) : Option Int32 :=
  some x2
def f_X3_outersOf_j38 (N : Nat) (x0 : Int32) (x1 : Int32) (x2 : Int32) (x3 : Int32) : Option ((Int32 × Int32) ⊕ ((Int32))) :=
  nm (x3 + (1 : Int32)) fun x3_1 =>
  some (.inl (x2, x3_1))
def f_X3_outersOf_b4 (N : Nat) (x0 : Int32) (x1 : Int32) (x2 : Int32) (x3 : Int32) : Option ((Int32 × Int32) ⊕ ((Int32))) :=
  if (4 : Int32) ≤ x3 then (some (.inr x2))
  else bd (f_X3_placeOf x0 x3) fun r_3 =>
  bd (f_X5_has x1 x3) fun r_5 =>
  if r_5 = 0 then (f_X3_outersOf_j38 N x0 x1 x2 x3)
  else if r_3 = 0 then (f_X3_outersOf_j38 N x0 x1 x2 x3)
  else nm (x2 ||| ((1 : Int32) <<< ((r_3 - (1 : Int32)) &&& 31))) fun x2_9 =>
  f_X3_outersOf_j38 N x0 x1 x2_9 x3
def f_X3_outersOf (N : Nat) (x0 : Int32) (x1 : Int32) : Option Int32 :=
  bd (lpF (fun s => f_X3_outersOf_b4 N x0 x1 s.1 s.2) N ((0 : Int32), (0 : Int32))) (fun o => f_X3_outersOf_j44 N o)
abbrev rmX3_outersOf : Room := { frames := 1, cells := 0, slots := 0, locals := 21 }
set_option maxRecDepth 100000 in
set_option maxHeartbeats 4000000 in
theorem c_X3_outersOf (l : Launch) (N : Nat) (x0 : Int32) (x1 : Int32) (r : Int32) (hf : f_X3_outersOf N x0 x1 = some r) : MetS l yX3_outersOf cX3_outersOf 5 (some .int) rmX3_outersOf [.int x0, .int x1] r := by
  refine mkS (by decide) (Nat.le_of_ble_eq_true rfl) rfl ?_
  intro p e s m args below meth cd Q ls h0 hK hret hl
  obtain ⟨S, hr, hlk⟩ := h0
  obtain ⟨hx, hb, hml, hown, ht⟩ := id S
  have hl : lv_has ls 5 [(0, .int x0), (1, .int x1)] := hl
  have hf := obs hf
  have j44 : ∀ (x2 : Int32) (ls : Array Slot), lv_has ls 5 [(2, .int x2)] → Option.bind (f_X3_outersOf_j44 N x2) some = some r → W p l e rmX3_outersOf s m args below meth cd s.heap [] 0 0 Q (F0 m 44 ls []) := by
    intro x2 ls hl hf
    have hf := oun (f_X3_outersOf_j44.eq_1 _ _) hf
    refine lv_iload_n hx hb dX3_outersOf_44 rfl (lv_at hl 0 rfl) ?_
    exact hret _ _ _ dX3_outersOf_45 rfl (Option.some.inj hf)
  have L4 : ∀ (x0 : Int32) (x1 : Int32) (k : Nat) (x2 : Int32) (x3 : Int32) (ls : Array Slot), lv_has ls 5 [(0, .int x0), (1, .int x1), (2, .int x2), (3, .int x3)] → Option.bind (bd (lpF (fun s => f_X3_outersOf_b4 N x0 x1 s.1 s.2) k (x2, x3)) (fun o => f_X3_outersOf_j44 N o)) some = some r → W p l e rmX3_outersOf s m args below meth cd s.heap [] 0 0 Q (F0 m 4 ls []) := by
    intro x0 x1 k
    induction k with
    | zero =>
      intro x2 x3 ls hl hf
      exact (ol0 hf).elim
    | succ k ih =>
      intro x2 x3 ls hl hf
      obtain ⟨K4, hf, hc4, hx4⟩ := ol1 hf
      have j38 : ∀ (x2 : Int32) (x3 : Int32) (ls : Array Slot), lv_has ls 5 [(0, .int x0), (1, .int x1), (2, .int x2), (3, .int x3)] → Option.bind (f_X3_outersOf_j38 N x0 x1 x2 x3) K4 = some r → W p l e rmX3_outersOf s m args below meth cd s.heap [] 0 0 Q (F0 m 38 ls []) := by
        intro x2 x3 ls hl hf
        have hf := oun (f_X3_outersOf_j38.eq_1 _ _ _ _ _) hf
        obtain ⟨x3_1, ex3_1, hf⟩ := onm hf
        refine lv_iinc (v := x3_1) (lv' := [(3, .int x3_1), (0, .int x0), (1, .int x1), (2, .int x2)]) hx hb dX3_outersOf_38 hl (k := 3) rfl ex3_1 (by decide) rfl (fun ls hl => ?_)
        refine lv_goto (tgt := 4) hx hb dX3_outersOf_41 (by decide) ?_
        exact ih x2 x3_1 _ (lv_sub hl [1, 2, 3, 0] rfl) (okx hf (hc4 _))
      have hf := oun (f_X3_outersOf_b4.eq_1 N x0 x1 x2 x3) hf
      refine lv_iload_n hx hb dX3_outersOf_4 rfl (lv_at hl 3 rfl) ?_
      refine lv_iconst (v := (4 : Int32)) hx hb dX3_outersOf_5 (by decide) ?_
      refine lv_icmp_ge (tgt := 44) hx hb dX3_outersOf_6 (by decide) (fun c_2 => ?_) (fun c_2 => ?_)
      · have hf := oit c_2 hf
        exact j44 x2 _ (lv_sub hl [2] rfl) (okx hf (hx4 _))
      have hf := oif c_2 hf
      refine lv_iload_n hx hb dX3_outersOf_9 rfl (lv_at hl 0 rfl) ?_
      refine lv_iload_n hx hb dX3_outersOf_10 rfl (lv_at hl 3 rfl) ?_
      obtain ⟨r_3, h_4, hf⟩ := obd hf
      refine xs_S (As := [.int x0, .int x3]) (rest := []) S k_X3_placeOf q213 q193 ⟨Nat.le_of_ble_eq_true rfl, Nat.le_of_ble_eq_true rfl⟩ ⟨rfl, rfl⟩ (c_X3_placeOf l x0 x3 r_3 h_4) hK rfl hl.1 rfl (Nat.le_of_ble_eq_true rfl) dX3_outersOf_11 ⟨Nat.zero_le _, Nat.zero_le _⟩ ?_
      refine lv_istore (lv' := [(4, .int r_3), (0, .int x0), (1, .int x1), (2, .int x2), (3, .int x3)]) hx hb dX3_outersOf_14 hl (by decide) rfl (fun ls hl => ?_)
      refine lv_iload_n hx hb dX3_outersOf_16 rfl (lv_at hl 2 rfl) ?_
      refine lv_iload_n hx hb dX3_outersOf_17 rfl (lv_at hl 4 rfl) ?_
      obtain ⟨r_5, h_6, hf⟩ := obd hf
      refine xn_S (As := [.int x1, .int x3]) (rest := []) S k_X5_has hK.1 q202 ⟨Nat.le_of_ble_eq_true rfl, Nat.le_of_ble_eq_true rfl⟩ ⟨rfl, rfl⟩ (c_X5_has l x1 x3 r_5 h_6) hK rfl hl.1 rfl (Nat.le_of_ble_eq_true rfl) dX3_outersOf_18 ⟨Nat.zero_le _, Nat.zero_le _⟩ ?_
      refine lv_if_eq (tgt := 38) hx hb dX3_outersOf_21 (by decide) (fun c_7 => ?_) (fun c_7 => ?_)
      · have hf := oit c_7 hf
        exact j38 x2 x3 _ (lv_sub hl [1, 2, 3, 4] rfl) hf
      have hf := oif c_7 hf
      refine lv_iload hx hb dX3_outersOf_24 (lv_at hl 0 rfl) ?_
      refine lv_if_eq (tgt := 38) hx hb dX3_outersOf_26 (by decide) (fun c_8 => ?_) (fun c_8 => ?_)
      · have hf := oit c_8 hf
        exact j38 x2 x3 _ (lv_sub hl [1, 2, 3, 4] rfl) hf
      have hf := oif c_8 hf
      refine lv_iload_n hx hb dX3_outersOf_29 rfl (lv_at hl 3 rfl) ?_
      refine lv_iconst (v := (1 : Int32)) hx hb dX3_outersOf_30 (by decide) ?_
      refine lv_iload hx hb dX3_outersOf_31 (lv_at hl 0 rfl) ?_
      refine lv_iconst (v := (1 : Int32)) hx hb dX3_outersOf_33 (by decide) ?_
      refine lv_isub hx hb dX3_outersOf_34 ?_
      refine lv_ishl hx hb dX3_outersOf_35 ?_
      refine lv_ior hx hb dX3_outersOf_36 ?_
      obtain ⟨x2_9, ex2_9, hf⟩ := onm hf
      refine lv_nm ex2_9 ?_
      refine lv_istore_n (lv' := [(2, .int x2_9), (4, .int r_3), (0, .int x0), (1, .int x1), (3, .int x3)]) hx hb dX3_outersOf_37 rfl hl (by decide) rfl (fun ls hl => ?_)
      exact j38 x2_9 x3 _ (lv_sub hl [2, 3, 0, 4] rfl) hf
  have hf := oun (f_X3_outersOf.eq_1 _ _ _) hf
  refine lv_iconst (v := (0 : Int32)) hx hb dX3_outersOf_0 (by decide) ?_
  refine lv_istore_n (lv' := [(2, .int (0 : Int32)), (0, .int x0), (1, .int x1)]) hx hb dX3_outersOf_1 rfl hl (by decide) rfl (fun ls hl => ?_)
  refine lv_iconst (v := (0 : Int32)) hx hb dX3_outersOf_2 (by decide) ?_
  refine lv_istore_n (lv' := [(3, .int (0 : Int32)), (2, .int (0 : Int32)), (0, .int x0), (1, .int x1)]) hx hb dX3_outersOf_3 rfl hl (by decide) rfl (fun ls hl => ?_)
  exact L4 x0 x1 N (0 : Int32) (0 : Int32) _ (lv_sub hl [2, 3, 1, 0] rfl) hf
theorem dX3_tableSet_0 : decode cX3_tableSet 0 = .ok (.iconst 0, 1) := by decide +kernel
theorem dX3_tableSet_1 : decode cX3_tableSet 1 = .ok (.istore_n 2, 1) := by decide +kernel
theorem dX3_tableSet_2 : decode cX3_tableSet 2 = .ok (.iconst 0, 1) := by decide +kernel
theorem dX3_tableSet_3 : decode cX3_tableSet 3 = .ok (.istore_n 3, 1) := by decide +kernel
theorem dX3_tableSet_4 : decode cX3_tableSet 4 = .ok (.iload_n 3, 1) := by decide +kernel
theorem dX3_tableSet_5 : decode cX3_tableSet 5 = .ok (.iload_n 1, 1) := by decide +kernel
theorem dX3_tableSet_6 : decode cX3_tableSet 6 = .ok (.if_icmp .ge 23, 3) := by decide +kernel
theorem dX3_tableSet_9 : decode cX3_tableSet 9 = .ok (.iload_n 0, 1) := by decide +kernel
theorem dX3_tableSet_10 : decode cX3_tableSet 10 = .ok (.iload_n 3, 1) := by decide +kernel
theorem dX3_tableSet_11 : decode cX3_tableSet 11 = .ok (.invokestatic 19, 3) := by decide +kernel
theorem dX3_tableSet_14 : decode cX3_tableSet 14 = .ok (.ifCond .ne 9, 3) := by decide +kernel
theorem dX3_tableSet_17 : decode cX3_tableSet 17 = .ok (.iload_n 2, 1) := by decide +kernel
theorem dX3_tableSet_18 : decode cX3_tableSet 18 = .ok (.iconst 1, 1) := by decide +kernel
theorem dX3_tableSet_19 : decode cX3_tableSet 19 = .ok (.iload_n 3, 1) := by decide +kernel
theorem dX3_tableSet_20 : decode cX3_tableSet 20 = .ok (.ishl, 1) := by decide +kernel
theorem dX3_tableSet_21 : decode cX3_tableSet 21 = .ok (.ior, 1) := by decide +kernel
theorem dX3_tableSet_22 : decode cX3_tableSet 22 = .ok (.istore_n 2, 1) := by decide +kernel
theorem dX3_tableSet_23 : decode cX3_tableSet 23 = .ok (.iinc 3 1, 3) := by decide +kernel
theorem dX3_tableSet_26 : decode cX3_tableSet 26 = .ok (.goto (-22), 3) := by decide +kernel
theorem dX3_tableSet_29 : decode cX3_tableSet 29 = .ok (.iload_n 2, 1) := by decide +kernel
theorem dX3_tableSet_30 : decode cX3_tableSet 30 = .ok (.ireturn, 1) := by decide +kernel
def f_X3_tableSet_j29 (N : Nat) (x2 : Int32) : Option Int32 :=
  some x2
def f_X3_tableSet_j23 (N : Nat) (x0 : Int32) (x1 : Int32) (x2 : Int32) (x3 : Int32) : Option ((Int32 × Int32) ⊕ ((Int32))) :=
  nm (x3 + (1 : Int32)) fun x3_1 =>
  some (.inl (x2, x3_1))
def f_X3_tableSet_b4 (N : Nat) (x0 : Int32) (x1 : Int32) (x2 : Int32) (x3 : Int32) : Option ((Int32 × Int32) ⊕ ((Int32))) :=
  if x1 ≤ x3 then (some (.inr x2))
  else bd (f_X3_placeOf x0 x3) fun r_3 =>
  if r_3 = 0 then (nm (x2 ||| ((1 : Int32) <<< (x3 &&& 31))) fun x2_6 =>
    f_X3_tableSet_j23 N x0 x1 x2_6 x3)
  else f_X3_tableSet_j23 N x0 x1 x2 x3
def f_X3_tableSet (N : Nat) (x0 : Int32) (x1 : Int32) : Option Int32 :=
  bd (lpF (fun s => f_X3_tableSet_b4 N x0 x1 s.1 s.2) N ((0 : Int32), (0 : Int32))) (fun o => f_X3_tableSet_j29 N o)
abbrev rmX3_tableSet : Room := { frames := 1, cells := 0, slots := 0, locals := 21 }
set_option maxRecDepth 100000 in
set_option maxHeartbeats 4000000 in
theorem c_X3_tableSet (l : Launch) (N : Nat) (x0 : Int32) (x1 : Int32) (r : Int32) (hf : f_X3_tableSet N x0 x1 = some r) : MetS l yX3_tableSet cX3_tableSet 4 (some .int) rmX3_tableSet [.int x0, .int x1] r := by
  refine mkS (by decide) (Nat.le_of_ble_eq_true rfl) rfl ?_
  intro p e s m args below meth cd Q ls h0 hK hret hl
  obtain ⟨S, hr, hlk⟩ := h0
  obtain ⟨hx, hb, hml, hown, ht⟩ := id S
  have hl : lv_has ls 4 [(0, .int x0), (1, .int x1)] := hl
  have hf := obs hf
  have j29 : ∀ (x2 : Int32) (ls : Array Slot), lv_has ls 4 [(2, .int x2)] → Option.bind (f_X3_tableSet_j29 N x2) some = some r → W p l e rmX3_tableSet s m args below meth cd s.heap [] 0 0 Q (F0 m 29 ls []) := by
    intro x2 ls hl hf
    have hf := oun (f_X3_tableSet_j29.eq_1 _ _) hf
    refine lv_iload_n hx hb dX3_tableSet_29 rfl (lv_at hl 0 rfl) ?_
    exact hret _ _ _ dX3_tableSet_30 rfl (Option.some.inj hf)
  have L4 : ∀ (x0 : Int32) (x1 : Int32) (k : Nat) (x2 : Int32) (x3 : Int32) (ls : Array Slot), lv_has ls 4 [(0, .int x0), (1, .int x1), (2, .int x2), (3, .int x3)] → Option.bind (bd (lpF (fun s => f_X3_tableSet_b4 N x0 x1 s.1 s.2) k (x2, x3)) (fun o => f_X3_tableSet_j29 N o)) some = some r → W p l e rmX3_tableSet s m args below meth cd s.heap [] 0 0 Q (F0 m 4 ls []) := by
    intro x0 x1 k
    induction k with
    | zero =>
      intro x2 x3 ls hl hf
      exact (ol0 hf).elim
    | succ k ih =>
      intro x2 x3 ls hl hf
      obtain ⟨K4, hf, hc4, hx4⟩ := ol1 hf
      have j23 : ∀ (x2 : Int32) (x3 : Int32) (ls : Array Slot), lv_has ls 4 [(0, .int x0), (1, .int x1), (2, .int x2), (3, .int x3)] → Option.bind (f_X3_tableSet_j23 N x0 x1 x2 x3) K4 = some r → W p l e rmX3_tableSet s m args below meth cd s.heap [] 0 0 Q (F0 m 23 ls []) := by
        intro x2 x3 ls hl hf
        have hf := oun (f_X3_tableSet_j23.eq_1 _ _ _ _ _) hf
        obtain ⟨x3_1, ex3_1, hf⟩ := onm hf
        refine lv_iinc (v := x3_1) (lv' := [(3, .int x3_1), (0, .int x0), (1, .int x1), (2, .int x2)]) hx hb dX3_tableSet_23 hl (k := 3) rfl ex3_1 (by decide) rfl (fun ls hl => ?_)
        refine lv_goto (tgt := 4) hx hb dX3_tableSet_26 (by decide) ?_
        exact ih x2 x3_1 _ (lv_sub hl [1, 2, 3, 0] rfl) (okx hf (hc4 _))
      have hf := oun (f_X3_tableSet_b4.eq_1 N x0 x1 x2 x3) hf
      refine lv_iload_n hx hb dX3_tableSet_4 rfl (lv_at hl 3 rfl) ?_
      refine lv_iload_n hx hb dX3_tableSet_5 rfl (lv_at hl 1 rfl) ?_
      refine lv_icmp_ge (tgt := 29) hx hb dX3_tableSet_6 (by decide) (fun c_2 => ?_) (fun c_2 => ?_)
      · have hf := oit c_2 hf
        exact j29 x2 _ (lv_sub hl [2] rfl) (okx hf (hx4 _))
      have hf := oif c_2 hf
      refine lv_iload_n hx hb dX3_tableSet_9 rfl (lv_at hl 0 rfl) ?_
      refine lv_iload_n hx hb dX3_tableSet_10 rfl (lv_at hl 3 rfl) ?_
      obtain ⟨r_3, h_4, hf⟩ := obd hf
      refine xs_S (As := [.int x0, .int x3]) (rest := []) S k_X3_placeOf q213 q193 ⟨Nat.le_of_ble_eq_true rfl, Nat.le_of_ble_eq_true rfl⟩ ⟨rfl, rfl⟩ (c_X3_placeOf l x0 x3 r_3 h_4) hK rfl hl.1 rfl (Nat.le_of_ble_eq_true rfl) dX3_tableSet_11 ⟨Nat.zero_le _, Nat.zero_le _⟩ ?_
      refine lv_if_ne (tgt := 23) hx hb dX3_tableSet_14 (by decide) (fun c_5 => ?_) (fun c_5 => ?_)
      · have hf := oif c_5 hf
        exact j23 x2 x3 _ (lv_sub hl [0, 1, 2, 3] rfl) hf
      have hf := oit c_5 hf
      refine lv_iload_n hx hb dX3_tableSet_17 rfl (lv_at hl 2 rfl) ?_
      refine lv_iconst (v := (1 : Int32)) hx hb dX3_tableSet_18 (by decide) ?_
      refine lv_iload_n hx hb dX3_tableSet_19 rfl (lv_at hl 3 rfl) ?_
      refine lv_ishl hx hb dX3_tableSet_20 ?_
      refine lv_ior hx hb dX3_tableSet_21 ?_
      obtain ⟨x2_6, ex2_6, hf⟩ := onm hf
      refine lv_nm ex2_6 ?_
      refine lv_istore_n (lv' := [(2, .int x2_6), (0, .int x0), (1, .int x1), (3, .int x3)]) hx hb dX3_tableSet_22 rfl hl (by decide) rfl (fun ls hl => ?_)
      exact j23 x2_6 x3 _ (lv_sub hl [1, 2, 0, 3] rfl) hf
  have hf := oun (f_X3_tableSet.eq_1 _ _ _) hf
  refine lv_iconst (v := (0 : Int32)) hx hb dX3_tableSet_0 (by decide) ?_
  refine lv_istore_n (lv' := [(2, .int (0 : Int32)), (0, .int x0), (1, .int x1)]) hx hb dX3_tableSet_1 rfl hl (by decide) rfl (fun ls hl => ?_)
  refine lv_iconst (v := (0 : Int32)) hx hb dX3_tableSet_2 (by decide) ?_
  refine lv_istore_n (lv' := [(3, .int (0 : Int32)), (2, .int (0 : Int32)), (0, .int x0), (1, .int x1)]) hx hb dX3_tableSet_3 rfl hl (by decide) rfl (fun ls hl => ?_)
  exact L4 x0 x1 N (0 : Int32) (0 : Int32) _ (lv_sub hl [2, 3, 1, 0] rfl) hf
theorem dX3_doable_0 : decode cX3_doable 0 = .ok (.iload_n 0, 1) := by decide +kernel
theorem dX3_doable_1 : decode cX3_doable 1 = .ok (.iload_n 1, 1) := by decide +kernel
theorem dX3_doable_2 : decode cX3_doable 2 = .ok (.invokestatic 38, 3) := by decide +kernel
theorem dX3_doable_5 : decode cX3_doable 5 = .ok (.istore_n 3, 1) := by decide +kernel
theorem dX3_doable_6 : decode cX3_doable 6 = .ok (.iload_n 0, 1) := by decide +kernel
theorem dX3_doable_7 : decode cX3_doable 7 = .ok (.iload_n 1, 1) := by decide +kernel
theorem dX3_doable_8 : decode cX3_doable 8 = .ok (.invokestatic 41, 3) := by decide +kernel
theorem dX3_doable_11 : decode cX3_doable 11 = .ok (.istore 4, 2) := by decide +kernel
theorem dX3_doable_13 : decode cX3_doable 13 = .ok (.iload_n 0, 1) := by decide +kernel
theorem dX3_doable_14 : decode cX3_doable 14 = .ok (.invokestatic 11, 3) := by decide +kernel
theorem dX3_doable_17 : decode cX3_doable 17 = .ok (.istore 5, 2) := by decide +kernel
theorem dX3_doable_19 : decode cX3_doable 19 = .ok (.iload_n 3, 1) := by decide +kernel
theorem dX3_doable_20 : decode cX3_doable 20 = .ok (.iload 5, 2) := by decide +kernel
theorem dX3_doable_22 : decode cX3_doable 22 = .ok (.iand, 1) := by decide +kernel
theorem dX3_doable_23 : decode cX3_doable 23 = .ok (.iload_n 0, 1) := by decide +kernel
theorem dX3_doable_24 : decode cX3_doable 24 = .ok (.bipush 15, 2) := by decide +kernel
theorem dX3_doable_26 : decode cX3_doable 26 = .ok (.invokestatic 44, 3) := by decide +kernel
theorem dX3_doable_29 : decode cX3_doable 29 = .ok (.iconst (-1), 1) := by decide +kernel
theorem dX3_doable_30 : decode cX3_doable 30 = .ok (.ixor, 1) := by decide +kernel
theorem dX3_doable_31 : decode cX3_doable 31 = .ok (.iand, 1) := by decide +kernel
theorem dX3_doable_32 : decode cX3_doable 32 = .ok (.istore 6, 2) := by decide +kernel
theorem dX3_doable_34 : decode cX3_doable 34 = .ok (.iload_n 3, 1) := by decide +kernel
theorem dX3_doable_35 : decode cX3_doable 35 = .ok (.iload 5, 2) := by decide +kernel
theorem dX3_doable_37 : decode cX3_doable 37 = .ok (.iconst (-1), 1) := by decide +kernel
theorem dX3_doable_38 : decode cX3_doable 38 = .ok (.ixor, 1) := by decide +kernel
theorem dX3_doable_39 : decode cX3_doable 39 = .ok (.iand, 1) := by decide +kernel
theorem dX3_doable_40 : decode cX3_doable 40 = .ok (.istore 7, 2) := by decide +kernel
theorem dX3_doable_42 : decode cX3_doable 42 = .ok (.iload 7, 2) := by decide +kernel
theorem dX3_doable_44 : decode cX3_doable 44 = .ok (.iload_n 3, 1) := by decide +kernel
theorem dX3_doable_45 : decode cX3_doable 45 = .ok (.iload 5, 2) := by decide +kernel
theorem dX3_doable_47 : decode cX3_doable 47 = .ok (.iand, 1) := by decide +kernel
theorem dX3_doable_48 : decode cX3_doable 48 = .ok (.iload_n 0, 1) := by decide +kernel
theorem dX3_doable_49 : decode cX3_doable 49 = .ok (.iload 5, 2) := by decide +kernel
theorem dX3_doable_51 : decode cX3_doable 51 = .ok (.invokestatic 44, 3) := by decide +kernel
theorem dX3_doable_54 : decode cX3_doable 54 = .ok (.iconst (-1), 1) := by decide +kernel
theorem dX3_doable_55 : decode cX3_doable 55 = .ok (.ixor, 1) := by decide +kernel
theorem dX3_doable_56 : decode cX3_doable 56 = .ok (.iand, 1) := by decide +kernel
theorem dX3_doable_57 : decode cX3_doable 57 = .ok (.iconst 4, 1) := by decide +kernel
theorem dX3_doable_58 : decode cX3_doable 58 = .ok (.ishl, 1) := by decide +kernel
theorem dX3_doable_59 : decode cX3_doable 59 = .ok (.ior, 1) := by decide +kernel
theorem dX3_doable_60 : decode cX3_doable 60 = .ok (.istore 7, 2) := by decide +kernel
theorem dX3_doable_62 : decode cX3_doable 62 = .ok (.iload 7, 2) := by decide +kernel
theorem dX3_doable_64 : decode cX3_doable 64 = .ok (.iload_n 3, 1) := by decide +kernel
theorem dX3_doable_65 : decode cX3_doable 65 = .ok (.iload 4, 2) := by decide +kernel
theorem dX3_doable_67 : decode cX3_doable 67 = .ok (.iconst (-1), 1) := by decide +kernel
theorem dX3_doable_68 : decode cX3_doable 68 = .ok (.ixor, 1) := by decide +kernel
theorem dX3_doable_69 : decode cX3_doable 69 = .ok (.iand, 1) := by decide +kernel
theorem dX3_doable_70 : decode cX3_doable 70 = .ok (.bipush 8, 2) := by decide +kernel
theorem dX3_doable_72 : decode cX3_doable 72 = .ok (.ishl, 1) := by decide +kernel
theorem dX3_doable_73 : decode cX3_doable 73 = .ok (.ior, 1) := by decide +kernel
theorem dX3_doable_74 : decode cX3_doable 74 = .ok (.istore 7, 2) := by decide +kernel
theorem dX3_doable_76 : decode cX3_doable 76 = .ok (.iconst 0, 1) := by decide +kernel
theorem dX3_doable_77 : decode cX3_doable 77 = .ok (.istore 8, 2) := by decide +kernel
theorem dX3_doable_79 : decode cX3_doable 79 = .ok (.iload 8, 2) := by decide +kernel
theorem dX3_doable_81 : decode cX3_doable 81 = .ok (.iload_n 1, 1) := by decide +kernel
theorem dX3_doable_82 : decode cX3_doable 82 = .ok (.if_icmp .ge 46, 3) := by decide +kernel
theorem dX3_doable_85 : decode cX3_doable 85 = .ok (.iload 4, 2) := by decide +kernel
theorem dX3_doable_87 : decode cX3_doable 87 = .ok (.iload 5, 2) := by decide +kernel
theorem dX3_doable_89 : decode cX3_doable 89 = .ok (.iconst (-1), 1) := by decide +kernel
theorem dX3_doable_90 : decode cX3_doable 90 = .ok (.ixor, 1) := by decide +kernel
theorem dX3_doable_91 : decode cX3_doable 91 = .ok (.iand, 1) := by decide +kernel
theorem dX3_doable_92 : decode cX3_doable 92 = .ok (.iload 8, 2) := by decide +kernel
theorem dX3_doable_94 : decode cX3_doable 94 = .ok (.invokestatic 15, 3) := by decide +kernel
theorem dX3_doable_97 : decode cX3_doable 97 = .ok (.ifCond .eq 25, 3) := by decide +kernel
theorem dX3_doable_100 : decode cX3_doable 100 = .ok (.iload 7, 2) := by decide +kernel
theorem dX3_doable_102 : decode cX3_doable 102 = .ok (.iload 6, 2) := by decide +kernel
theorem dX3_doable_104 : decode cX3_doable 104 = .ok (.iload_n 2, 1) := by decide +kernel
theorem dX3_doable_105 : decode cX3_doable 105 = .ok (.iconst 4, 1) := by decide +kernel
theorem dX3_doable_106 : decode cX3_doable 106 = .ok (.iload 8, 2) := by decide +kernel
theorem dX3_doable_108 : decode cX3_doable 108 = .ok (.imul, 1) := by decide +kernel
theorem dX3_doable_109 : decode cX3_doable 109 = .ok (.ishr, 1) := by decide +kernel
theorem dX3_doable_110 : decode cX3_doable 110 = .ok (.iand, 1) := by decide +kernel
theorem dX3_doable_111 : decode cX3_doable 111 = .ok (.bipush 12, 2) := by decide +kernel
theorem dX3_doable_113 : decode cX3_doable 113 = .ok (.iconst 4, 1) := by decide +kernel
theorem dX3_doable_114 : decode cX3_doable 114 = .ok (.iload 8, 2) := by decide +kernel
theorem dX3_doable_116 : decode cX3_doable 116 = .ok (.imul, 1) := by decide +kernel
theorem dX3_doable_117 : decode cX3_doable 117 = .ok (.iadd, 1) := by decide +kernel
theorem dX3_doable_118 : decode cX3_doable 118 = .ok (.ishl, 1) := by decide +kernel
theorem dX3_doable_119 : decode cX3_doable 119 = .ok (.ior, 1) := by decide +kernel
theorem dX3_doable_120 : decode cX3_doable 120 = .ok (.istore 7, 2) := by decide +kernel
theorem dX3_doable_122 : decode cX3_doable 122 = .ok (.iinc 8 1, 3) := by decide +kernel
theorem dX3_doable_125 : decode cX3_doable 125 = .ok (.goto (-46), 3) := by decide +kernel
theorem dX3_doable_128 : decode cX3_doable 128 = .ok (.iload 7, 2) := by decide +kernel
theorem dX3_doable_130 : decode cX3_doable 130 = .ok (.ireturn, 1) := by decide +kernel
def f_X3_doable_j128 (N : Nat) (x7 : Int32) : Option Int32 :=
  some x7
def f_X3_doable_j122 (N : Nat) (x1 : Int32) (x2 : Int32) (x4 : Int32) (x5 : Int32) (x6 : Int32) (x7 : Int32) (x8 : Int32) : Option ((Int32 × Int32) ⊕ ((Int32))) :=
  nm (x8 + (1 : Int32)) fun x8_1 =>
  some (.inl (x7, x8_1))
def f_X3_doable_b79 (N : Nat) (x1 : Int32) (x2 : Int32) (x4 : Int32) (x5 : Int32) (x6 : Int32) (x7 : Int32) (x8 : Int32) : Option ((Int32 × Int32) ⊕ ((Int32))) :=
  if x1 ≤ x8 then (some (.inr x7))
  else bd (f_X5_has (x4 &&& (x5 ^^^ (-1 : Int32))) x8) fun r_3 =>
  if r_3 = 0 then (f_X3_doable_j122 N x1 x2 x4 x5 x6 x7 x8)
  else nm (x7 ||| ((x6 &&& (x2 >>> (((4 : Int32) * x8) &&& 31))) <<< (((12 : Int32) + ((4 : Int32) * x8)) &&& 31))) fun x7_6 =>
  f_X3_doable_j122 N x1 x2 x4 x5 x6 x7_6 x8
def f_X3_doable (N : Nat) (x0 : Int32) (x1 : Int32) (x2 : Int32) : Option Int32 :=
  bd (f_X3_handSet N x0 x1) fun r_7 =>
  bd (f_X3_tableSet N x0 x1) fun r_9 =>
  bd (f_X3_openSet x0) fun r_11 =>
  bd (f_X3_outersOf N x0 (15 : Int32)) fun r_13 =>
  nm ((r_7 &&& r_11) &&& (r_13 ^^^ (-1 : Int32))) fun x6_15 =>
  nm (r_7 &&& (r_11 ^^^ (-1 : Int32))) fun x7_16 =>
  bd (f_X3_outersOf N x0 r_11) fun r_17 =>
  nm (x7_16 ||| (((r_7 &&& r_11) &&& (r_17 ^^^ (-1 : Int32))) <<< ((4 : Int32) &&& 31))) fun x7_19 =>
  nm (x7_19 ||| ((r_7 &&& (r_9 ^^^ (-1 : Int32))) <<< ((8 : Int32) &&& 31))) fun x7_20 =>
  bd (lpF (fun s => f_X3_doable_b79 N x1 x2 r_9 r_11 x6_15 s.1 s.2) N (x7_20, (0 : Int32))) (fun o => f_X3_doable_j128 N o)
abbrev rmX3_doable : Room := { frames := 3, cells := 0, slots := 0, locals := 68 }
set_option maxRecDepth 100000 in
set_option maxHeartbeats 4000000 in
theorem c_X3_doable (l : Launch) (N : Nat) (x0 : Int32) (x1 : Int32) (x2 : Int32) (r : Int32) (hf : f_X3_doable N x0 x1 x2 = some r) : MetS l yX3_doable cX3_doable 9 (some .int) rmX3_doable [.int x0, .int x1, .int x2] r := by
  refine mkS (by decide) (Nat.le_of_ble_eq_true rfl) rfl ?_
  intro p e s m args below meth cd Q ls h0 hK hret hl
  obtain ⟨S, hr, hlk⟩ := h0
  obtain ⟨hx, hb, hml, hown, ht⟩ := id S
  have hl : lv_has ls 9 [(0, .int x0), (1, .int x1), (2, .int x2)] := hl
  have hf := obs hf
  have j128 : ∀ (x7 : Int32) (ls : Array Slot), lv_has ls 9 [(7, .int x7)] → Option.bind (f_X3_doable_j128 N x7) some = some r → W p l e rmX3_doable s m args below meth cd s.heap [] 0 0 Q (F0 m 128 ls []) := by
    intro x7 ls hl hf
    have hf := oun (f_X3_doable_j128.eq_1 _ _) hf
    refine lv_iload hx hb dX3_doable_128 (lv_at hl 0 rfl) ?_
    exact hret _ _ _ dX3_doable_130 rfl (Option.some.inj hf)
  have L79 : ∀ (x1 : Int32) (x2 : Int32) (x4 : Int32) (x5 : Int32) (x6 : Int32) (k : Nat) (x7 : Int32) (x8 : Int32) (ls : Array Slot), lv_has ls 9 [(1, .int x1), (2, .int x2), (4, .int x4), (5, .int x5), (6, .int x6), (7, .int x7), (8, .int x8)] → Option.bind (bd (lpF (fun s => f_X3_doable_b79 N x1 x2 x4 x5 x6 s.1 s.2) k (x7, x8)) (fun o => f_X3_doable_j128 N o)) some = some r → W p l e rmX3_doable s m args below meth cd s.heap [] 0 0 Q (F0 m 79 ls []) := by
    intro x1 x2 x4 x5 x6 k
    induction k with
    | zero =>
      intro x7 x8 ls hl hf
      exact (ol0 hf).elim
    | succ k ih =>
      intro x7 x8 ls hl hf
      obtain ⟨K79, hf, hc79, hx79⟩ := ol1 hf
      have j122 : ∀ (x7 : Int32) (x8 : Int32) (ls : Array Slot), lv_has ls 9 [(1, .int x1), (2, .int x2), (4, .int x4), (5, .int x5), (6, .int x6), (7, .int x7), (8, .int x8)] → Option.bind (f_X3_doable_j122 N x1 x2 x4 x5 x6 x7 x8) K79 = some r → W p l e rmX3_doable s m args below meth cd s.heap [] 0 0 Q (F0 m 122 ls []) := by
        intro x7 x8 ls hl hf
        have hf := oun (f_X3_doable_j122.eq_1 _ _ _ _ _ _ _ _) hf
        obtain ⟨x8_1, ex8_1, hf⟩ := onm hf
        refine lv_iinc (v := x8_1) (lv' := [(8, .int x8_1), (1, .int x1), (2, .int x2), (4, .int x4), (5, .int x5), (6, .int x6), (7, .int x7)]) hx hb dX3_doable_122 hl (k := 6) rfl ex8_1 (by decide) rfl (fun ls hl => ?_)
        refine lv_goto (tgt := 79) hx hb dX3_doable_125 (by decide) ?_
        exact ih x7 x8_1 _ (lv_sub hl [1, 2, 3, 4, 5, 6, 0] rfl) (okx hf (hc79 _))
      have hf := oun (f_X3_doable_b79.eq_1 N x1 x2 x4 x5 x6 x7 x8) hf
      refine lv_iload hx hb dX3_doable_79 (lv_at hl 6 rfl) ?_
      refine lv_iload_n hx hb dX3_doable_81 rfl (lv_at hl 0 rfl) ?_
      refine lv_icmp_ge (tgt := 128) hx hb dX3_doable_82 (by decide) (fun c_2 => ?_) (fun c_2 => ?_)
      · have hf := oit c_2 hf
        exact j128 x7 _ (lv_sub hl [5] rfl) (okx hf (hx79 _))
      have hf := oif c_2 hf
      refine lv_iload hx hb dX3_doable_85 (lv_at hl 2 rfl) ?_
      refine lv_iload hx hb dX3_doable_87 (lv_at hl 3 rfl) ?_
      refine lv_iconst (v := (-1 : Int32)) hx hb dX3_doable_89 (by decide) ?_
      refine lv_ixor hx hb dX3_doable_90 ?_
      refine lv_iand hx hb dX3_doable_91 ?_
      refine lv_iload hx hb dX3_doable_92 (lv_at hl 6 rfl) ?_
      obtain ⟨r_3, h_4, hf⟩ := obd hf
      refine xn_S (As := [.int (x4 &&& (x5 ^^^ (-1 : Int32))), .int x8]) (rest := []) S k_X5_has hK.1 q202 ⟨Nat.le_of_ble_eq_true rfl, Nat.le_of_ble_eq_true rfl⟩ ⟨rfl, rfl⟩ (c_X5_has l (x4 &&& (x5 ^^^ (-1 : Int32))) x8 r_3 h_4) hK rfl hl.1 rfl (Nat.le_of_ble_eq_true rfl) dX3_doable_94 ⟨Nat.zero_le _, Nat.zero_le _⟩ ?_
      refine lv_if_eq (tgt := 122) hx hb dX3_doable_97 (by decide) (fun c_5 => ?_) (fun c_5 => ?_)
      · have hf := oit c_5 hf
        exact j122 x7 x8 _ (lv_sub hl [0, 1, 2, 3, 4, 5, 6] rfl) hf
      have hf := oif c_5 hf
      refine lv_iload hx hb dX3_doable_100 (lv_at hl 5 rfl) ?_
      refine lv_iload hx hb dX3_doable_102 (lv_at hl 4 rfl) ?_
      refine lv_iload_n hx hb dX3_doable_104 rfl (lv_at hl 1 rfl) ?_
      refine lv_iconst (v := (4 : Int32)) hx hb dX3_doable_105 (by decide) ?_
      refine lv_iload hx hb dX3_doable_106 (lv_at hl 6 rfl) ?_
      refine lv_imul hx hb dX3_doable_108 ?_
      refine lv_ishr hx hb dX3_doable_109 ?_
      refine lv_iand hx hb dX3_doable_110 ?_
      refine lv_bipush (v := (12 : Int32)) hx hb dX3_doable_111 (by decide) ?_
      refine lv_iconst (v := (4 : Int32)) hx hb dX3_doable_113 (by decide) ?_
      refine lv_iload hx hb dX3_doable_114 (lv_at hl 6 rfl) ?_
      refine lv_imul hx hb dX3_doable_116 ?_
      refine lv_iadd hx hb dX3_doable_117 ?_
      refine lv_ishl hx hb dX3_doable_118 ?_
      refine lv_ior hx hb dX3_doable_119 ?_
      obtain ⟨x7_6, ex7_6, hf⟩ := onm hf
      refine lv_nm ex7_6 ?_
      refine lv_istore (lv' := [(7, .int x7_6), (1, .int x1), (2, .int x2), (4, .int x4), (5, .int x5), (6, .int x6), (8, .int x8)]) hx hb dX3_doable_120 hl (by decide) rfl (fun ls hl => ?_)
      exact j122 x7_6 x8 _ (lv_sub hl [1, 2, 3, 4, 5, 0, 6] rfl) hf
  have hf := oun (f_X3_doable.eq_1 _ _ _ _) hf
  refine lv_iload_n hx hb dX3_doable_0 rfl (lv_at hl 0 rfl) ?_
  refine lv_iload_n hx hb dX3_doable_1 rfl (lv_at hl 1 rfl) ?_
  obtain ⟨r_7, h_8, hf⟩ := obd hf
  refine xs_S (As := [.int x0, .int x1]) (rest := []) S k_X3_handSet q309 q208 ⟨Nat.le_of_ble_eq_true rfl, Nat.le_of_ble_eq_true rfl⟩ ⟨rfl, rfl⟩ (c_X3_handSet l N x0 x1 r_7 h_8) hK rfl hl.1 rfl (Nat.le_of_ble_eq_true rfl) dX3_doable_2 ⟨Nat.zero_le _, Nat.zero_le _⟩ ?_
  refine lv_istore_n (lv' := [(3, .int r_7), (0, .int x0), (1, .int x1), (2, .int x2)]) hx hb dX3_doable_5 rfl hl (by decide) rfl (fun ls hl => ?_)
  refine lv_iload_n hx hb dX3_doable_6 rfl (lv_at hl 1 rfl) ?_
  refine lv_iload_n hx hb dX3_doable_7 rfl (lv_at hl 2 rfl) ?_
  obtain ⟨r_9, h_10, hf⟩ := obd hf
  refine xs_S (As := [.int x0, .int x1]) (rest := []) S k_X3_tableSet q310 q311 ⟨Nat.le_of_ble_eq_true rfl, Nat.le_of_ble_eq_true rfl⟩ ⟨rfl, rfl⟩ (c_X3_tableSet l N x0 x1 r_9 h_10) hK rfl hl.1 rfl (Nat.le_of_ble_eq_true rfl) dX3_doable_8 ⟨Nat.zero_le _, Nat.zero_le _⟩ ?_
  refine lv_istore (lv' := [(4, .int r_9), (3, .int r_7), (0, .int x0), (1, .int x1), (2, .int x2)]) hx hb dX3_doable_11 hl (by decide) rfl (fun ls hl => ?_)
  refine lv_iload_n hx hb dX3_doable_13 rfl (lv_at hl 2 rfl) ?_
  obtain ⟨r_11, h_12, hf⟩ := obd hf
  refine xs_S (As := [.int x0]) (rest := []) S k_X3_openSet q199 q200 ⟨Nat.le_of_ble_eq_true rfl, Nat.le_of_ble_eq_true rfl⟩ ⟨rfl, rfl⟩ (c_X3_openSet l x0 r_11 h_12) hK rfl hl.1 rfl (Nat.le_of_ble_eq_true rfl) dX3_doable_14 ⟨Nat.zero_le _, Nat.zero_le _⟩ ?_
  refine lv_istore (lv' := [(5, .int r_11), (4, .int r_9), (3, .int r_7), (0, .int x0), (1, .int x1), (2, .int x2)]) hx hb dX3_doable_17 hl (by decide) rfl (fun ls hl => ?_)
  refine lv_iload_n hx hb dX3_doable_19 rfl (lv_at hl 2 rfl) ?_
  refine lv_iload hx hb dX3_doable_20 (lv_at hl 0 rfl) ?_
  refine lv_iand hx hb dX3_doable_22 ?_
  refine lv_iload_n hx hb dX3_doable_23 rfl (lv_at hl 3 rfl) ?_
  refine lv_bipush (v := (15 : Int32)) hx hb dX3_doable_24 (by decide) ?_
  obtain ⟨r_13, h_14, hf⟩ := obd hf
  refine xs_S (As := [.int x0, .int (15 : Int32)]) (rest := [.int (r_7 &&& r_11)]) S k_X3_outersOf q313 q314 ⟨Nat.le_of_ble_eq_true rfl, Nat.le_of_ble_eq_true rfl⟩ ⟨rfl, rfl⟩ (c_X3_outersOf l N x0 (15 : Int32) r_13 h_14) hK rfl hl.1 rfl (Nat.le_of_ble_eq_true rfl) dX3_doable_26 ⟨Nat.zero_le _, Nat.zero_le _⟩ ?_
  refine lv_iconst (v := (-1 : Int32)) hx hb dX3_doable_29 (by decide) ?_
  refine lv_ixor hx hb dX3_doable_30 ?_
  refine lv_iand hx hb dX3_doable_31 ?_
  obtain ⟨x6_15, ex6_15, hf⟩ := onm hf
  refine lv_nm ex6_15 ?_
  refine lv_istore (lv' := [(6, .int x6_15), (5, .int r_11), (4, .int r_9), (3, .int r_7), (0, .int x0), (1, .int x1), (2, .int x2)]) hx hb dX3_doable_32 hl (by decide) rfl (fun ls hl => ?_)
  refine lv_iload_n hx hb dX3_doable_34 rfl (lv_at hl 3 rfl) ?_
  refine lv_iload hx hb dX3_doable_35 (lv_at hl 1 rfl) ?_
  refine lv_iconst (v := (-1 : Int32)) hx hb dX3_doable_37 (by decide) ?_
  refine lv_ixor hx hb dX3_doable_38 ?_
  refine lv_iand hx hb dX3_doable_39 ?_
  obtain ⟨x7_16, ex7_16, hf⟩ := onm hf
  refine lv_nm ex7_16 ?_
  refine lv_istore (lv' := [(7, .int x7_16), (6, .int x6_15), (5, .int r_11), (4, .int r_9), (3, .int r_7), (0, .int x0), (1, .int x1), (2, .int x2)]) hx hb dX3_doable_40 hl (by decide) rfl (fun ls hl => ?_)
  refine lv_iload hx hb dX3_doable_42 (lv_at hl 0 rfl) ?_
  refine lv_iload_n hx hb dX3_doable_44 rfl (lv_at hl 4 rfl) ?_
  refine lv_iload hx hb dX3_doable_45 (lv_at hl 2 rfl) ?_
  refine lv_iand hx hb dX3_doable_47 ?_
  refine lv_iload_n hx hb dX3_doable_48 rfl (lv_at hl 5 rfl) ?_
  refine lv_iload hx hb dX3_doable_49 (lv_at hl 2 rfl) ?_
  obtain ⟨r_17, h_18, hf⟩ := obd hf
  refine xs_S (As := [.int x0, .int r_11]) (rest := [.int (r_7 &&& r_11), .int x7_16]) S k_X3_outersOf q313 q314 ⟨Nat.le_of_ble_eq_true rfl, Nat.le_of_ble_eq_true rfl⟩ ⟨rfl, rfl⟩ (c_X3_outersOf l N x0 r_11 r_17 h_18) hK rfl hl.1 rfl (Nat.le_of_ble_eq_true rfl) dX3_doable_51 ⟨Nat.zero_le _, Nat.zero_le _⟩ ?_
  refine lv_iconst (v := (-1 : Int32)) hx hb dX3_doable_54 (by decide) ?_
  refine lv_ixor hx hb dX3_doable_55 ?_
  refine lv_iand hx hb dX3_doable_56 ?_
  refine lv_iconst (v := (4 : Int32)) hx hb dX3_doable_57 (by decide) ?_
  refine lv_ishl hx hb dX3_doable_58 ?_
  refine lv_ior hx hb dX3_doable_59 ?_
  obtain ⟨x7_19, ex7_19, hf⟩ := onm hf
  refine lv_nm ex7_19 ?_
  refine lv_istore (lv' := [(7, .int x7_19), (6, .int x6_15), (5, .int r_11), (4, .int r_9), (3, .int r_7), (0, .int x0), (1, .int x1), (2, .int x2)]) hx hb dX3_doable_60 hl (by decide) rfl (fun ls hl => ?_)
  refine lv_iload hx hb dX3_doable_62 (lv_at hl 0 rfl) ?_
  refine lv_iload_n hx hb dX3_doable_64 rfl (lv_at hl 4 rfl) ?_
  refine lv_iload hx hb dX3_doable_65 (lv_at hl 3 rfl) ?_
  refine lv_iconst (v := (-1 : Int32)) hx hb dX3_doable_67 (by decide) ?_
  refine lv_ixor hx hb dX3_doable_68 ?_
  refine lv_iand hx hb dX3_doable_69 ?_
  refine lv_bipush (v := (8 : Int32)) hx hb dX3_doable_70 (by decide) ?_
  refine lv_ishl hx hb dX3_doable_72 ?_
  refine lv_ior hx hb dX3_doable_73 ?_
  obtain ⟨x7_20, ex7_20, hf⟩ := onm hf
  refine lv_nm ex7_20 ?_
  refine lv_istore (lv' := [(7, .int x7_20), (6, .int x6_15), (5, .int r_11), (4, .int r_9), (3, .int r_7), (0, .int x0), (1, .int x1), (2, .int x2)]) hx hb dX3_doable_74 hl (by decide) rfl (fun ls hl => ?_)
  refine lv_iconst (v := (0 : Int32)) hx hb dX3_doable_76 (by decide) ?_
  refine lv_istore (lv' := [(8, .int (0 : Int32)), (7, .int x7_20), (6, .int x6_15), (5, .int r_11), (4, .int r_9), (3, .int r_7), (0, .int x0), (1, .int x1), (2, .int x2)]) hx hb dX3_doable_77 hl (by decide) rfl (fun ls hl => ?_)
  exact L79 x1 x2 r_9 r_11 x6_15 N x7_20 (0 : Int32) _ (lv_sub hl [7, 8, 4, 3, 2, 1, 0] rfl) hf
theorem dX5_isAct_0 : decode cX5_isAct 0 = .ok (.iload_n 0, 1) := by decide +kernel
theorem dX5_isAct_1 : decode cX5_isAct 1 = .ok (.ifCond .lt 13, 3) := by decide +kernel
theorem dX5_isAct_4 : decode cX5_isAct 4 = .ok (.iload_n 0, 1) := by decide +kernel
theorem dX5_isAct_5 : decode cX5_isAct 5 = .ok (.bipush 28, 2) := by decide +kernel
theorem dX5_isAct_7 : decode cX5_isAct 7 = .ok (.if_icmp .ge 7, 3) := by decide +kernel
theorem dX5_isAct_10 : decode cX5_isAct 10 = .ok (.iconst 1, 1) := by decide +kernel
theorem dX5_isAct_11 : decode cX5_isAct 11 = .ok (.goto 4, 3) := by decide +kernel
theorem dX5_isAct_14 : decode cX5_isAct 14 = .ok (.iconst 0, 1) := by decide +kernel
theorem dX5_isAct_15 : decode cX5_isAct 15 = .ok (.ireturn, 1) := by decide +kernel
def f_X5_isAct (x0 : Int32) : Option Int32 :=
  if x0 < 0 then (some (0 : Int32))
  else if (28 : Int32) ≤ x0 then (some (0 : Int32))
  else some (1 : Int32)
abbrev rmX5_isAct : Room := { frames := 0, cells := 0, slots := 0, locals := 0 }
set_option maxRecDepth 100000 in
set_option maxHeartbeats 4000000 in
theorem c_X5_isAct (l : Launch) (x0 : Int32) (r : Int32) (hf : f_X5_isAct x0 = some r) : MetS l yX5_isAct cX5_isAct 1 (some .boolean) rmX5_isAct [.int x0] r := by
  refine mkS (by decide) (Nat.le_of_ble_eq_true rfl) rfl ?_
  intro p e s m args below meth cd Q ls h0 hK hret hl
  obtain ⟨S, hr, hlk⟩ := h0
  obtain ⟨hx, hb, hml, hown, ht⟩ := id S
  have hl : lv_has ls 1 [(0, .int x0)] := hl
  have hf := obs hf
  have hf := oun (f_X5_isAct.eq_1 _) hf
  refine lv_iload_n hx hb dX5_isAct_0 rfl (lv_at hl 0 rfl) ?_
  refine lv_if_lt (tgt := 14) hx hb dX5_isAct_1 (by decide) (fun c_1 => ?_) (fun c_1 => ?_)
  · have hf := oit c_1 hf
    refine lv_iconst (v := (0 : Int32)) hx hb dX5_isAct_14 (by decide) ?_
    exact hret _ _ _ dX5_isAct_15 (by decide) (Option.some.inj hf)
  have hf := oif c_1 hf
  refine lv_iload_n hx hb dX5_isAct_4 rfl (lv_at hl 0 rfl) ?_
  refine lv_bipush (v := (28 : Int32)) hx hb dX5_isAct_5 (by decide) ?_
  refine lv_icmp_ge (tgt := 14) hx hb dX5_isAct_7 (by decide) (fun c_2 => ?_) (fun c_2 => ?_)
  · have hf := oit c_2 hf
    refine lv_iconst (v := (0 : Int32)) hx hb dX5_isAct_14 (by decide) ?_
    exact hret _ _ _ dX5_isAct_15 (by decide) (Option.some.inj hf)
  have hf := oif c_2 hf
  refine lv_iconst (v := (1 : Int32)) hx hb dX5_isAct_10 (by decide) ?_
  refine lv_goto (tgt := 15) hx hb dX5_isAct_11 (by decide) ?_
  exact hret _ _ _ dX5_isAct_15 (by decide) (Option.some.inj hf)
theorem dJ6_bitCount_0f7a4_0 : decode cJ6_bitCount_0f7a4 0 = .ok (.iload_n 0, 1) := by decide +kernel
theorem dJ6_bitCount_0f7a4_1 : decode cJ6_bitCount_0f7a4 1 = .ok (.iload_n 0, 1) := by decide +kernel
theorem dJ6_bitCount_0f7a4_2 : decode cJ6_bitCount_0f7a4 2 = .ok (.iconst 1, 1) := by decide +kernel
theorem dJ6_bitCount_0f7a4_3 : decode cJ6_bitCount_0f7a4 3 = .ok (.iushr, 1) := by decide +kernel
theorem dJ6_bitCount_0f7a4_4 : decode cJ6_bitCount_0f7a4 4 = .ok (.ldc_w 265, 3) := by decide +kernel
theorem dJ6_bitCount_0f7a4_7 : decode cJ6_bitCount_0f7a4 7 = .ok (.iand, 1) := by decide +kernel
theorem dJ6_bitCount_0f7a4_8 : decode cJ6_bitCount_0f7a4 8 = .ok (.isub, 1) := by decide +kernel
theorem dJ6_bitCount_0f7a4_9 : decode cJ6_bitCount_0f7a4 9 = .ok (.istore_n 0, 1) := by decide +kernel
theorem dJ6_bitCount_0f7a4_10 : decode cJ6_bitCount_0f7a4 10 = .ok (.iload_n 0, 1) := by decide +kernel
theorem dJ6_bitCount_0f7a4_11 : decode cJ6_bitCount_0f7a4 11 = .ok (.ldc_w 266, 3) := by decide +kernel
theorem dJ6_bitCount_0f7a4_14 : decode cJ6_bitCount_0f7a4 14 = .ok (.iand, 1) := by decide +kernel
theorem dJ6_bitCount_0f7a4_15 : decode cJ6_bitCount_0f7a4 15 = .ok (.iload_n 0, 1) := by decide +kernel
theorem dJ6_bitCount_0f7a4_16 : decode cJ6_bitCount_0f7a4 16 = .ok (.iconst 2, 1) := by decide +kernel
theorem dJ6_bitCount_0f7a4_17 : decode cJ6_bitCount_0f7a4 17 = .ok (.iushr, 1) := by decide +kernel
theorem dJ6_bitCount_0f7a4_18 : decode cJ6_bitCount_0f7a4 18 = .ok (.ldc_w 266, 3) := by decide +kernel
theorem dJ6_bitCount_0f7a4_21 : decode cJ6_bitCount_0f7a4 21 = .ok (.iand, 1) := by decide +kernel
theorem dJ6_bitCount_0f7a4_22 : decode cJ6_bitCount_0f7a4 22 = .ok (.iadd, 1) := by decide +kernel
theorem dJ6_bitCount_0f7a4_23 : decode cJ6_bitCount_0f7a4 23 = .ok (.istore_n 0, 1) := by decide +kernel
theorem dJ6_bitCount_0f7a4_24 : decode cJ6_bitCount_0f7a4 24 = .ok (.iload_n 0, 1) := by decide +kernel
theorem dJ6_bitCount_0f7a4_25 : decode cJ6_bitCount_0f7a4 25 = .ok (.iload_n 0, 1) := by decide +kernel
theorem dJ6_bitCount_0f7a4_26 : decode cJ6_bitCount_0f7a4 26 = .ok (.iconst 4, 1) := by decide +kernel
theorem dJ6_bitCount_0f7a4_27 : decode cJ6_bitCount_0f7a4 27 = .ok (.iushr, 1) := by decide +kernel
theorem dJ6_bitCount_0f7a4_28 : decode cJ6_bitCount_0f7a4 28 = .ok (.iadd, 1) := by decide +kernel
theorem dJ6_bitCount_0f7a4_29 : decode cJ6_bitCount_0f7a4 29 = .ok (.ldc_w 267, 3) := by decide +kernel
theorem dJ6_bitCount_0f7a4_32 : decode cJ6_bitCount_0f7a4 32 = .ok (.iand, 1) := by decide +kernel
theorem dJ6_bitCount_0f7a4_33 : decode cJ6_bitCount_0f7a4 33 = .ok (.istore_n 0, 1) := by decide +kernel
theorem dJ6_bitCount_0f7a4_34 : decode cJ6_bitCount_0f7a4 34 = .ok (.iload_n 0, 1) := by decide +kernel
theorem dJ6_bitCount_0f7a4_35 : decode cJ6_bitCount_0f7a4 35 = .ok (.iload_n 0, 1) := by decide +kernel
theorem dJ6_bitCount_0f7a4_36 : decode cJ6_bitCount_0f7a4 36 = .ok (.bipush 8, 2) := by decide +kernel
theorem dJ6_bitCount_0f7a4_38 : decode cJ6_bitCount_0f7a4 38 = .ok (.iushr, 1) := by decide +kernel
theorem dJ6_bitCount_0f7a4_39 : decode cJ6_bitCount_0f7a4 39 = .ok (.iadd, 1) := by decide +kernel
theorem dJ6_bitCount_0f7a4_40 : decode cJ6_bitCount_0f7a4 40 = .ok (.istore_n 0, 1) := by decide +kernel
theorem dJ6_bitCount_0f7a4_41 : decode cJ6_bitCount_0f7a4 41 = .ok (.iload_n 0, 1) := by decide +kernel
theorem dJ6_bitCount_0f7a4_42 : decode cJ6_bitCount_0f7a4 42 = .ok (.iload_n 0, 1) := by decide +kernel
theorem dJ6_bitCount_0f7a4_43 : decode cJ6_bitCount_0f7a4 43 = .ok (.bipush 16, 2) := by decide +kernel
theorem dJ6_bitCount_0f7a4_45 : decode cJ6_bitCount_0f7a4 45 = .ok (.iushr, 1) := by decide +kernel
theorem dJ6_bitCount_0f7a4_46 : decode cJ6_bitCount_0f7a4 46 = .ok (.iadd, 1) := by decide +kernel
theorem dJ6_bitCount_0f7a4_47 : decode cJ6_bitCount_0f7a4 47 = .ok (.istore_n 0, 1) := by decide +kernel
theorem dJ6_bitCount_0f7a4_48 : decode cJ6_bitCount_0f7a4 48 = .ok (.iload_n 0, 1) := by decide +kernel
theorem dJ6_bitCount_0f7a4_49 : decode cJ6_bitCount_0f7a4 49 = .ok (.bipush 63, 2) := by decide +kernel
theorem dJ6_bitCount_0f7a4_51 : decode cJ6_bitCount_0f7a4 51 = .ok (.iand, 1) := by decide +kernel
theorem dJ6_bitCount_0f7a4_52 : decode cJ6_bitCount_0f7a4 52 = .ok (.ireturn, 1) := by decide +kernel
def f_J6_bitCount_0f7a4 (x0 : Int32) : Option Int32 :=
  nm (x0 - ((Int32.toUInt32 x0 >>> (Int32.toUInt32 (1 : Int32) &&& Int32.toUInt32 31)).toInt32 &&& (1431655765 : Int32))) fun x0_1 =>
  nm ((x0_1 &&& (858993459 : Int32)) + ((Int32.toUInt32 x0_1 >>> (Int32.toUInt32 (2 : Int32) &&& Int32.toUInt32 31)).toInt32 &&& (858993459 : Int32))) fun x0_2 =>
  nm ((x0_2 + (Int32.toUInt32 x0_2 >>> (Int32.toUInt32 (4 : Int32) &&& Int32.toUInt32 31)).toInt32) &&& (252645135 : Int32)) fun x0_3 =>
  nm (x0_3 + (Int32.toUInt32 x0_3 >>> (Int32.toUInt32 (8 : Int32) &&& Int32.toUInt32 31)).toInt32) fun x0_4 =>
  nm (x0_4 + (Int32.toUInt32 x0_4 >>> (Int32.toUInt32 (16 : Int32) &&& Int32.toUInt32 31)).toInt32) fun x0_5 =>
  some (x0_5 &&& (63 : Int32))
abbrev rmJ6_bitCount_0f7a4 : Room := { frames := 0, cells := 0, slots := 0, locals := 0 }
set_option maxRecDepth 100000 in
set_option maxHeartbeats 4000000 in
theorem c_J6_bitCount_0f7a4 (l : Launch) (x0 : Int32) (r : Int32) (hf : f_J6_bitCount_0f7a4 x0 = some r) : MetS l yJ6_bitCount_0f7a4 cJ6_bitCount_0f7a4 1 (some .int) rmJ6_bitCount_0f7a4 [.int x0] r := by
  refine mkS (by decide) (Nat.le_of_ble_eq_true rfl) rfl ?_
  intro p e s m args below meth cd Q ls h0 hK hret hl
  obtain ⟨S, hr, hlk⟩ := h0
  obtain ⟨hx, hb, hml, hown, ht⟩ := id S
  have hl : lv_has ls 1 [(0, .int x0)] := hl
  have hf := obs hf
  have hf := oun (f_J6_bitCount_0f7a4.eq_1 _) hf
  refine lv_iload_n hx hb dJ6_bitCount_0f7a4_0 rfl (lv_at hl 0 rfl) ?_
  refine lv_iload_n hx hb dJ6_bitCount_0f7a4_1 rfl (lv_at hl 0 rfl) ?_
  refine lv_iconst (v := (1 : Int32)) hx hb dJ6_bitCount_0f7a4_2 (by decide) ?_
  refine lv_iushr (v := (Int32.toUInt32 x0 >>> (Int32.toUInt32 (1 : Int32) &&& Int32.toUInt32 31)).toInt32) hx hb dJ6_bitCount_0f7a4_3 rfl ?_
  refine lv_ldcw (v := (1431655765 : Int32)) hx hb hown (ht _ q331) dJ6_bitCount_0f7a4_4 ?_
  refine lv_iand hx hb dJ6_bitCount_0f7a4_7 ?_
  refine lv_isub hx hb dJ6_bitCount_0f7a4_8 ?_
  obtain ⟨x0_1, ex0_1, hf⟩ := onm hf
  refine lv_nm ex0_1 ?_
  refine lv_istore_n (lv' := [(0, .int x0_1)]) hx hb dJ6_bitCount_0f7a4_9 rfl hl (by decide) rfl (fun ls hl => ?_)
  refine lv_iload_n hx hb dJ6_bitCount_0f7a4_10 rfl (lv_at hl 0 rfl) ?_
  refine lv_ldcw (v := (858993459 : Int32)) hx hb hown (ht _ q332) dJ6_bitCount_0f7a4_11 ?_
  refine lv_iand hx hb dJ6_bitCount_0f7a4_14 ?_
  refine lv_iload_n hx hb dJ6_bitCount_0f7a4_15 rfl (lv_at hl 0 rfl) ?_
  refine lv_iconst (v := (2 : Int32)) hx hb dJ6_bitCount_0f7a4_16 (by decide) ?_
  refine lv_iushr (v := (Int32.toUInt32 x0_1 >>> (Int32.toUInt32 (2 : Int32) &&& Int32.toUInt32 31)).toInt32) hx hb dJ6_bitCount_0f7a4_17 rfl ?_
  refine lv_ldcw (v := (858993459 : Int32)) hx hb hown (ht _ q332) dJ6_bitCount_0f7a4_18 ?_
  refine lv_iand hx hb dJ6_bitCount_0f7a4_21 ?_
  refine lv_iadd hx hb dJ6_bitCount_0f7a4_22 ?_
  obtain ⟨x0_2, ex0_2, hf⟩ := onm hf
  refine lv_nm ex0_2 ?_
  refine lv_istore_n (lv' := [(0, .int x0_2)]) hx hb dJ6_bitCount_0f7a4_23 rfl hl (by decide) rfl (fun ls hl => ?_)
  refine lv_iload_n hx hb dJ6_bitCount_0f7a4_24 rfl (lv_at hl 0 rfl) ?_
  refine lv_iload_n hx hb dJ6_bitCount_0f7a4_25 rfl (lv_at hl 0 rfl) ?_
  refine lv_iconst (v := (4 : Int32)) hx hb dJ6_bitCount_0f7a4_26 (by decide) ?_
  refine lv_iushr (v := (Int32.toUInt32 x0_2 >>> (Int32.toUInt32 (4 : Int32) &&& Int32.toUInt32 31)).toInt32) hx hb dJ6_bitCount_0f7a4_27 rfl ?_
  refine lv_iadd hx hb dJ6_bitCount_0f7a4_28 ?_
  refine lv_ldcw (v := (252645135 : Int32)) hx hb hown (ht _ q333) dJ6_bitCount_0f7a4_29 ?_
  refine lv_iand hx hb dJ6_bitCount_0f7a4_32 ?_
  obtain ⟨x0_3, ex0_3, hf⟩ := onm hf
  refine lv_nm ex0_3 ?_
  refine lv_istore_n (lv' := [(0, .int x0_3)]) hx hb dJ6_bitCount_0f7a4_33 rfl hl (by decide) rfl (fun ls hl => ?_)
  refine lv_iload_n hx hb dJ6_bitCount_0f7a4_34 rfl (lv_at hl 0 rfl) ?_
  refine lv_iload_n hx hb dJ6_bitCount_0f7a4_35 rfl (lv_at hl 0 rfl) ?_
  refine lv_bipush (v := (8 : Int32)) hx hb dJ6_bitCount_0f7a4_36 (by decide) ?_
  refine lv_iushr (v := (Int32.toUInt32 x0_3 >>> (Int32.toUInt32 (8 : Int32) &&& Int32.toUInt32 31)).toInt32) hx hb dJ6_bitCount_0f7a4_38 rfl ?_
  refine lv_iadd hx hb dJ6_bitCount_0f7a4_39 ?_
  obtain ⟨x0_4, ex0_4, hf⟩ := onm hf
  refine lv_nm ex0_4 ?_
  refine lv_istore_n (lv' := [(0, .int x0_4)]) hx hb dJ6_bitCount_0f7a4_40 rfl hl (by decide) rfl (fun ls hl => ?_)
  refine lv_iload_n hx hb dJ6_bitCount_0f7a4_41 rfl (lv_at hl 0 rfl) ?_
  refine lv_iload_n hx hb dJ6_bitCount_0f7a4_42 rfl (lv_at hl 0 rfl) ?_
  refine lv_bipush (v := (16 : Int32)) hx hb dJ6_bitCount_0f7a4_43 (by decide) ?_
  refine lv_iushr (v := (Int32.toUInt32 x0_4 >>> (Int32.toUInt32 (16 : Int32) &&& Int32.toUInt32 31)).toInt32) hx hb dJ6_bitCount_0f7a4_45 rfl ?_
  refine lv_iadd hx hb dJ6_bitCount_0f7a4_46 ?_
  obtain ⟨x0_5, ex0_5, hf⟩ := onm hf
  refine lv_nm ex0_5 ?_
  refine lv_istore_n (lv' := [(0, .int x0_5)]) hx hb dJ6_bitCount_0f7a4_47 rfl hl (by decide) rfl (fun ls hl => ?_)
  refine lv_iload_n hx hb dJ6_bitCount_0f7a4_48 rfl (lv_at hl 0 rfl) ?_
  refine lv_bipush (v := (63 : Int32)) hx hb dJ6_bitCount_0f7a4_49 (by decide) ?_
  refine lv_iand hx hb dJ6_bitCount_0f7a4_51 ?_
  exact hret _ _ _ dJ6_bitCount_0f7a4_52 rfl (Option.some.inj hf)
theorem dX5_isAskedOfDay_0 : decode cX5_isAskedOfDay 0 = .ok (.iload_n 0, 1) := by decide +kernel
theorem dX5_isAskedOfDay_1 : decode cX5_isAskedOfDay 1 = .ok (.ifCond .lt 8, 3) := by decide +kernel
theorem dX5_isAskedOfDay_4 : decode cX5_isAskedOfDay 4 = .ok (.iload_n 0, 1) := by decide +kernel
theorem dX5_isAskedOfDay_5 : decode cX5_isAskedOfDay 5 = .ok (.iconst 4, 1) := by decide +kernel
theorem dX5_isAskedOfDay_6 : decode cX5_isAskedOfDay 6 = .ok (.if_icmp .le 15, 3) := by decide +kernel
theorem dX5_isAskedOfDay_9 : decode cX5_isAskedOfDay 9 = .ok (.iload_n 0, 1) := by decide +kernel
theorem dX5_isAskedOfDay_10 : decode cX5_isAskedOfDay 10 = .ok (.bipush 10, 2) := by decide +kernel
theorem dX5_isAskedOfDay_12 : decode cX5_isAskedOfDay 12 = .ok (.if_icmp .lt 13, 3) := by decide +kernel
theorem dX5_isAskedOfDay_15 : decode cX5_isAskedOfDay 15 = .ok (.iload_n 0, 1) := by decide +kernel
theorem dX5_isAskedOfDay_16 : decode cX5_isAskedOfDay 16 = .ok (.bipush 14, 2) := by decide +kernel
theorem dX5_isAskedOfDay_18 : decode cX5_isAskedOfDay 18 = .ok (.if_icmp .ge 7, 3) := by decide +kernel
theorem dX5_isAskedOfDay_21 : decode cX5_isAskedOfDay 21 = .ok (.iconst 1, 1) := by decide +kernel
theorem dX5_isAskedOfDay_22 : decode cX5_isAskedOfDay 22 = .ok (.goto 4, 3) := by decide +kernel
theorem dX5_isAskedOfDay_25 : decode cX5_isAskedOfDay 25 = .ok (.iconst 0, 1) := by decide +kernel
theorem dX5_isAskedOfDay_26 : decode cX5_isAskedOfDay 26 = .ok (.ireturn, 1) := by decide +kernel
def f_X5_isAskedOfDay_j21 : Option Int32 :=
  some (1 : Int32)
def f_X5_isAskedOfDay_j9 (x0 : Int32) : Option Int32 :=
  if x0 < (10 : Int32) then (some (0 : Int32))
  else if (14 : Int32) ≤ x0 then (some (0 : Int32))
  else f_X5_isAskedOfDay_j21
def f_X5_isAskedOfDay (x0 : Int32) : Option Int32 :=
  if x0 < 0 then (f_X5_isAskedOfDay_j9 x0)
  else if x0 ≤ (4 : Int32) then (f_X5_isAskedOfDay_j21)
  else f_X5_isAskedOfDay_j9 x0
abbrev rmX5_isAskedOfDay : Room := { frames := 0, cells := 0, slots := 0, locals := 0 }
set_option maxRecDepth 100000 in
set_option maxHeartbeats 4000000 in
theorem c_X5_isAskedOfDay (l : Launch) (x0 : Int32) (r : Int32) (hf : f_X5_isAskedOfDay x0 = some r) : MetS l yX5_isAskedOfDay cX5_isAskedOfDay 1 (some .boolean) rmX5_isAskedOfDay [.int x0] r := by
  refine mkS (by decide) (Nat.le_of_ble_eq_true rfl) rfl ?_
  intro p e s m args below meth cd Q ls h0 hK hret hl
  obtain ⟨S, hr, hlk⟩ := h0
  obtain ⟨hx, hb, hml, hown, ht⟩ := id S
  have hl : lv_has ls 1 [(0, .int x0)] := hl
  have hf := obs hf
  have j21 : ∀ (ls : Array Slot), lv_has ls 1 [] → Option.bind (f_X5_isAskedOfDay_j21) some = some r → W p l e rmX5_isAskedOfDay s m args below meth cd s.heap [] 0 0 Q (F0 m 21 ls []) := by
    intro ls hl hf
    have hf := oun (f_X5_isAskedOfDay_j21.eq_1) hf
    refine lv_iconst (v := (1 : Int32)) hx hb dX5_isAskedOfDay_21 (by decide) ?_
    refine lv_goto (tgt := 26) hx hb dX5_isAskedOfDay_22 (by decide) ?_
    exact hret _ _ _ dX5_isAskedOfDay_26 (by decide) (Option.some.inj hf)
  have j9 : ∀ (x0 : Int32) (ls : Array Slot), lv_has ls 1 [(0, .int x0)] → Option.bind (f_X5_isAskedOfDay_j9 x0) some = some r → W p l e rmX5_isAskedOfDay s m args below meth cd s.heap [] 0 0 Q (F0 m 9 ls []) := by
    intro x0 ls hl hf
    have hf := oun (f_X5_isAskedOfDay_j9.eq_1 _) hf
    refine lv_iload_n hx hb dX5_isAskedOfDay_9 rfl (lv_at hl 0 rfl) ?_
    refine lv_bipush (v := (10 : Int32)) hx hb dX5_isAskedOfDay_10 (by decide) ?_
    refine lv_icmp_lt (tgt := 25) hx hb dX5_isAskedOfDay_12 (by decide) (fun c_1 => ?_) (fun c_1 => ?_)
    · have hf := oit c_1 hf
      refine lv_iconst (v := (0 : Int32)) hx hb dX5_isAskedOfDay_25 (by decide) ?_
      exact hret _ _ _ dX5_isAskedOfDay_26 (by decide) (Option.some.inj hf)
    have hf := oif c_1 hf
    refine lv_iload_n hx hb dX5_isAskedOfDay_15 rfl (lv_at hl 0 rfl) ?_
    refine lv_bipush (v := (14 : Int32)) hx hb dX5_isAskedOfDay_16 (by decide) ?_
    refine lv_icmp_ge (tgt := 25) hx hb dX5_isAskedOfDay_18 (by decide) (fun c_2 => ?_) (fun c_2 => ?_)
    · have hf := oit c_2 hf
      refine lv_iconst (v := (0 : Int32)) hx hb dX5_isAskedOfDay_25 (by decide) ?_
      exact hret _ _ _ dX5_isAskedOfDay_26 (by decide) (Option.some.inj hf)
    have hf := oif c_2 hf
    exact j21 _ (lv_sub hl [] rfl) hf
  have hf := oun (f_X5_isAskedOfDay.eq_1 _) hf
  refine lv_iload_n hx hb dX5_isAskedOfDay_0 rfl (lv_at hl 0 rfl) ?_
  refine lv_if_lt (tgt := 9) hx hb dX5_isAskedOfDay_1 (by decide) (fun c_3 => ?_) (fun c_3 => ?_)
  · have hf := oit c_3 hf
    exact j9 x0 _ (lv_sub hl [0] rfl) hf
  have hf := oif c_3 hf
  refine lv_iload_n hx hb dX5_isAskedOfDay_4 rfl (lv_at hl 0 rfl) ?_
  refine lv_iconst (v := (4 : Int32)) hx hb dX5_isAskedOfDay_5 (by decide) ?_
  refine lv_icmp_le (tgt := 21) hx hb dX5_isAskedOfDay_6 (by decide) (fun c_4 => ?_) (fun c_4 => ?_)
  · have hf := oit c_4 hf
    exact j21 _ (lv_sub hl [] rfl) hf
  have hf := oif c_4 hf
  exact j9 x0 _ (lv_sub hl [0] rfl) hf
theorem dX3_mostWithin_0 : decode cX3_mostWithin 0 = .ok (.iconst 0, 1) := by decide +kernel
theorem dX3_mostWithin_1 : decode cX3_mostWithin 1 = .ok (.istore_n 2, 1) := by decide +kernel
theorem dX3_mostWithin_2 : decode cX3_mostWithin 2 = .ok (.iconst 0, 1) := by decide +kernel
theorem dX3_mostWithin_3 : decode cX3_mostWithin 3 = .ok (.istore_n 3, 1) := by decide +kernel
theorem dX3_mostWithin_4 : decode cX3_mostWithin 4 = .ok (.iload_n 3, 1) := by decide +kernel
theorem dX3_mostWithin_5 : decode cX3_mostWithin 5 = .ok (.iload_n 1, 1) := by decide +kernel
theorem dX3_mostWithin_6 : decode cX3_mostWithin 6 = .ok (.if_icmp .ge 20, 3) := by decide +kernel
theorem dX3_mostWithin_9 : decode cX3_mostWithin 9 = .ok (.iload_n 2, 1) := by decide +kernel
theorem dX3_mostWithin_10 : decode cX3_mostWithin 10 = .ok (.iload_n 0, 1) := by decide +kernel
theorem dX3_mostWithin_11 : decode cX3_mostWithin 11 = .ok (.iload_n 3, 1) := by decide +kernel
theorem dX3_mostWithin_12 : decode cX3_mostWithin 12 = .ok (.iload_n 1, 1) := by decide +kernel
theorem dX3_mostWithin_13 : decode cX3_mostWithin 13 = .ok (.invokestatic 30, 3) := by decide +kernel
theorem dX3_mostWithin_16 : decode cX3_mostWithin 16 = .ok (.invokestatic 33, 3) := by decide +kernel
theorem dX3_mostWithin_19 : decode cX3_mostWithin 19 = .ok (.istore_n 2, 1) := by decide +kernel
theorem dX3_mostWithin_20 : decode cX3_mostWithin 20 = .ok (.iinc 3 1, 3) := by decide +kernel
theorem dX3_mostWithin_23 : decode cX3_mostWithin 23 = .ok (.goto (-19), 3) := by decide +kernel
theorem dX3_mostWithin_26 : decode cX3_mostWithin 26 = .ok (.iload_n 2, 1) := by decide +kernel
theorem dX3_mostWithin_27 : decode cX3_mostWithin 27 = .ok (.ireturn, 1) := by decide +kernel
def f_X3_mostWithin_j26 (N : Nat) (x2 : Int32) : Option Int32 :=
  some x2
def f_X3_mostWithin_b4 (N : Nat) (x0 : Int32) (x1 : Int32) (x2 : Int32) (x3 : Int32) : Option ((Int32 × Int32) ⊕ ((Int32))) :=
  if x1 ≤ x3 then (some (.inr x2))
  else bd (f_X3_manyWithin N x0 x3 x1) fun r_2 =>
  nm (if x2 < r_2 then r_2 else x2) fun x2_4 =>
  nm (x3 + (1 : Int32)) fun x3_5 =>
  some (.inl (x2_4, x3_5))
def f_X3_mostWithin (N : Nat) (x0 : Int32) (x1 : Int32) : Option Int32 :=
  bd (lpF (fun s => f_X3_mostWithin_b4 N x0 x1 s.1 s.2) N ((0 : Int32), (0 : Int32))) (fun o => f_X3_mostWithin_j26 N o)
abbrev rmX3_mostWithin : Room := { frames := 3, cells := 0, slots := 0, locals := 69 }
set_option maxRecDepth 100000 in
set_option maxHeartbeats 4000000 in
theorem c_X3_mostWithin (l : Launch) (N : Nat) (x0 : Int32) (x1 : Int32) (r : Int32) (hf : f_X3_mostWithin N x0 x1 = some r) : MetS l yX3_mostWithin cX3_mostWithin 4 (some .int) rmX3_mostWithin [.int x0, .int x1] r := by
  refine mkS (by decide) (Nat.le_of_ble_eq_true rfl) rfl ?_
  intro p e s m args below meth cd Q ls h0 hK hret hl
  obtain ⟨S, hr, hlk⟩ := h0
  obtain ⟨hx, hb, hml, hown, ht⟩ := id S
  have hl : lv_has ls 4 [(0, .int x0), (1, .int x1)] := hl
  have hf := obs hf
  have j26 : ∀ (x2 : Int32) (ls : Array Slot), lv_has ls 4 [(2, .int x2)] → Option.bind (f_X3_mostWithin_j26 N x2) some = some r → W p l e rmX3_mostWithin s m args below meth cd s.heap [] 0 0 Q (F0 m 26 ls []) := by
    intro x2 ls hl hf
    have hf := oun (f_X3_mostWithin_j26.eq_1 _ _) hf
    refine lv_iload_n hx hb dX3_mostWithin_26 rfl (lv_at hl 0 rfl) ?_
    exact hret _ _ _ dX3_mostWithin_27 rfl (Option.some.inj hf)
  have L4 : ∀ (x0 : Int32) (x1 : Int32) (k : Nat) (x2 : Int32) (x3 : Int32) (ls : Array Slot), lv_has ls 4 [(0, .int x0), (1, .int x1), (2, .int x2), (3, .int x3)] → Option.bind (bd (lpF (fun s => f_X3_mostWithin_b4 N x0 x1 s.1 s.2) k (x2, x3)) (fun o => f_X3_mostWithin_j26 N o)) some = some r → W p l e rmX3_mostWithin s m args below meth cd s.heap [] 0 0 Q (F0 m 4 ls []) := by
    intro x0 x1 k
    induction k with
    | zero =>
      intro x2 x3 ls hl hf
      exact (ol0 hf).elim
    | succ k ih =>
      intro x2 x3 ls hl hf
      obtain ⟨K4, hf, hc4, hx4⟩ := ol1 hf
      have hf := oun (f_X3_mostWithin_b4.eq_1 N x0 x1 x2 x3) hf
      refine lv_iload_n hx hb dX3_mostWithin_4 rfl (lv_at hl 3 rfl) ?_
      refine lv_iload_n hx hb dX3_mostWithin_5 rfl (lv_at hl 1 rfl) ?_
      refine lv_icmp_ge (tgt := 26) hx hb dX3_mostWithin_6 (by decide) (fun c_1 => ?_) (fun c_1 => ?_)
      · have hf := oit c_1 hf
        exact j26 x2 _ (lv_sub hl [2] rfl) (okx hf (hx4 _))
      have hf := oif c_1 hf
      refine lv_iload_n hx hb dX3_mostWithin_9 rfl (lv_at hl 2 rfl) ?_
      refine lv_iload_n hx hb dX3_mostWithin_10 rfl (lv_at hl 0 rfl) ?_
      refine lv_iload_n hx hb dX3_mostWithin_11 rfl (lv_at hl 3 rfl) ?_
      refine lv_iload_n hx hb dX3_mostWithin_12 rfl (lv_at hl 1 rfl) ?_
      obtain ⟨r_2, h_3, hf⟩ := obd hf
      refine xs_S (As := [.int x0, .int x3, .int x1]) (rest := [.int x2]) S k_X3_manyWithin q398 q219 ⟨Nat.le_of_ble_eq_true rfl, Nat.le_of_ble_eq_true rfl⟩ ⟨rfl, rfl⟩ (c_X3_manyWithin l N x0 x3 x1 r_2 h_3) hK rfl hl.1 rfl (Nat.le_of_ble_eq_true rfl) dX3_mostWithin_13 ⟨Nat.zero_le _, Nat.zero_le _⟩ ?_
      refine va_mmax hx hb (hml.trans hl.1.symm) hown (ht _ q395) (ht _ q396) (ht _ q124) (ht _ q397) (by exact Nat.le_of_ble_eq_true rfl) (by exact Nat.le_of_ble_eq_true rfl) (Nat.zero_le _) (Nat.zero_le _) dX3_mostWithin_16 ?_
      obtain ⟨x2_4, ex2_4, hf⟩ := onm hf
      refine lv_nm ex2_4 ?_
      refine lv_istore_n (lv' := [(2, .int x2_4), (0, .int x0), (1, .int x1), (3, .int x3)]) hx hb dX3_mostWithin_19 rfl hl (by decide) rfl (fun ls hl => ?_)
      obtain ⟨x3_5, ex3_5, hf⟩ := onm hf
      refine lv_iinc (v := x3_5) (lv' := [(3, .int x3_5), (2, .int x2_4), (0, .int x0), (1, .int x1)]) hx hb dX3_mostWithin_20 hl (k := 3) rfl ex3_5 (by decide) rfl (fun ls hl => ?_)
      refine lv_goto (tgt := 4) hx hb dX3_mostWithin_23 (by decide) ?_
      exact ih x2_4 x3_5 _ (lv_sub hl [2, 3, 1, 0] rfl) (okx hf (hc4 _))
  have hf := oun (f_X3_mostWithin.eq_1 _ _ _) hf
  refine lv_iconst (v := (0 : Int32)) hx hb dX3_mostWithin_0 (by decide) ?_
  refine lv_istore_n (lv' := [(2, .int (0 : Int32)), (0, .int x0), (1, .int x1)]) hx hb dX3_mostWithin_1 rfl hl (by decide) rfl (fun ls hl => ?_)
  refine lv_iconst (v := (0 : Int32)) hx hb dX3_mostWithin_2 (by decide) ?_
  refine lv_istore_n (lv' := [(3, .int (0 : Int32)), (2, .int (0 : Int32)), (0, .int x0), (1, .int x1)]) hx hb dX3_mostWithin_3 rfl hl (by decide) rfl (fun ls hl => ?_)
  exact L4 x0 x1 N (0 : Int32) (0 : Int32) _ (lv_sub hl [2, 3, 1, 0] rfl) hf
theorem dX5_isFree_0 : decode cX5_isFree 0 = .ok (.iload_n 1, 1) := by decide +kernel
theorem dX5_isFree_1 : decode cX5_isFree 1 = .ok (.ifCond .eq 27, 3) := by decide +kernel
theorem dX5_isFree_4 : decode cX5_isFree 4 = .ok (.iload_n 2, 1) := by decide +kernel
theorem dX5_isFree_5 : decode cX5_isFree 5 = .ok (.iload_n 1, 1) := by decide +kernel
theorem dX5_isFree_6 : decode cX5_isFree 6 = .ok (.iconst 1, 1) := by decide +kernel
theorem dX5_isFree_7 : decode cX5_isFree 7 = .ok (.isub, 1) := by decide +kernel
theorem dX5_isFree_8 : decode cX5_isFree 8 = .ok (.invokestatic 124, 3) := by decide +kernel
theorem dX5_isFree_11 : decode cX5_isFree 11 = .ok (.ifCond .ne 21, 3) := by decide +kernel
theorem dX5_isFree_14 : decode cX5_isFree 14 = .ok (.iload_n 3, 1) := by decide +kernel
theorem dX5_isFree_15 : decode cX5_isFree 15 = .ok (.iconst 4, 1) := by decide +kernel
theorem dX5_isFree_16 : decode cX5_isFree 16 = .ok (.iload_n 0, 1) := by decide +kernel
theorem dX5_isFree_17 : decode cX5_isFree 17 = .ok (.imul, 1) := by decide +kernel
theorem dX5_isFree_18 : decode cX5_isFree 18 = .ok (.iload_n 1, 1) := by decide +kernel
theorem dX5_isFree_19 : decode cX5_isFree 19 = .ok (.iadd, 1) := by decide +kernel
theorem dX5_isFree_20 : decode cX5_isFree 20 = .ok (.iconst 1, 1) := by decide +kernel
theorem dX5_isFree_21 : decode cX5_isFree 21 = .ok (.isub, 1) := by decide +kernel
theorem dX5_isFree_22 : decode cX5_isFree 22 = .ok (.invokestatic 124, 3) := by decide +kernel
theorem dX5_isFree_25 : decode cX5_isFree 25 = .ok (.ifCond .eq 7, 3) := by decide +kernel
theorem dX5_isFree_28 : decode cX5_isFree 28 = .ok (.iconst 1, 1) := by decide +kernel
theorem dX5_isFree_29 : decode cX5_isFree 29 = .ok (.goto 4, 3) := by decide +kernel
theorem dX5_isFree_32 : decode cX5_isFree 32 = .ok (.iconst 0, 1) := by decide +kernel
theorem dX5_isFree_33 : decode cX5_isFree 33 = .ok (.ireturn, 1) := by decide +kernel
def f_X5_isFree_j28 : Option Int32 :=
  some (1 : Int32)
def f_X5_isFree (x0 : Int32) (x1 : Int32) (x2 : Int32) (x3 : Int32) : Option Int32 :=
  if x1 = 0 then (f_X5_isFree_j28)
  else bd (f_X5_has x2 (x1 - (1 : Int32))) fun r_2 =>
  if r_2 = 0 then (bd (f_X5_has x3 ((((4 : Int32) * x0) + x1) - (1 : Int32))) fun r_5 =>
    if r_5 = 0 then (some (0 : Int32))
    else f_X5_isFree_j28)
  else some (0 : Int32)
abbrev rmX5_isFree : Room := { frames := 1, cells := 0, slots := 0, locals := 21 }
set_option maxRecDepth 100000 in
set_option maxHeartbeats 4000000 in
theorem c_X5_isFree (l : Launch) (x0 : Int32) (x1 : Int32) (x2 : Int32) (x3 : Int32) (r : Int32) (hf : f_X5_isFree x0 x1 x2 x3 = some r) : MetS l yX5_isFree cX5_isFree 4 (some .boolean) rmX5_isFree [.int x0, .int x1, .int x2, .int x3] r := by
  refine mkS (by decide) (Nat.le_of_ble_eq_true rfl) rfl ?_
  intro p e s m args below meth cd Q ls h0 hK hret hl
  obtain ⟨S, hr, hlk⟩ := h0
  obtain ⟨hx, hb, hml, hown, ht⟩ := id S
  have hl : lv_has ls 4 [(0, .int x0), (1, .int x1), (2, .int x2), (3, .int x3)] := hl
  have hf := obs hf
  have j28 : ∀ (ls : Array Slot), lv_has ls 4 [] → Option.bind (f_X5_isFree_j28) some = some r → W p l e rmX5_isFree s m args below meth cd s.heap [] 0 0 Q (F0 m 28 ls []) := by
    intro ls hl hf
    have hf := oun (f_X5_isFree_j28.eq_1) hf
    refine lv_iconst (v := (1 : Int32)) hx hb dX5_isFree_28 (by decide) ?_
    refine lv_goto (tgt := 33) hx hb dX5_isFree_29 (by decide) ?_
    exact hret _ _ _ dX5_isFree_33 (by decide) (Option.some.inj hf)
  have hf := oun (f_X5_isFree.eq_1 _ _ _ _) hf
  refine lv_iload_n hx hb dX5_isFree_0 rfl (lv_at hl 1 rfl) ?_
  refine lv_if_eq (tgt := 28) hx hb dX5_isFree_1 (by decide) (fun c_1 => ?_) (fun c_1 => ?_)
  · have hf := oit c_1 hf
    exact j28 _ (lv_sub hl [] rfl) hf
  have hf := oif c_1 hf
  refine lv_iload_n hx hb dX5_isFree_4 rfl (lv_at hl 2 rfl) ?_
  refine lv_iload_n hx hb dX5_isFree_5 rfl (lv_at hl 1 rfl) ?_
  refine lv_iconst (v := (1 : Int32)) hx hb dX5_isFree_6 (by decide) ?_
  refine lv_isub hx hb dX5_isFree_7 ?_
  obtain ⟨r_2, h_3, hf⟩ := obd hf
  refine xs_S (As := [.int x2, .int (x1 - (1 : Int32))]) (rest := []) S k_X5_has q214 q202 ⟨Nat.le_of_ble_eq_true rfl, Nat.le_of_ble_eq_true rfl⟩ ⟨rfl, rfl⟩ (c_X5_has l x2 (x1 - (1 : Int32)) r_2 h_3) hK rfl hl.1 rfl (Nat.le_of_ble_eq_true rfl) dX5_isFree_8 ⟨Nat.zero_le _, Nat.zero_le _⟩ ?_
  refine lv_if_ne (tgt := 32) hx hb dX5_isFree_11 (by decide) (fun c_4 => ?_) (fun c_4 => ?_)
  · have hf := oif c_4 hf
    refine lv_iconst (v := (0 : Int32)) hx hb dX5_isFree_32 (by decide) ?_
    exact hret _ _ _ dX5_isFree_33 (by decide) (Option.some.inj hf)
  have hf := oit c_4 hf
  refine lv_iload_n hx hb dX5_isFree_14 rfl (lv_at hl 3 rfl) ?_
  refine lv_iconst (v := (4 : Int32)) hx hb dX5_isFree_15 (by decide) ?_
  refine lv_iload_n hx hb dX5_isFree_16 rfl (lv_at hl 0 rfl) ?_
  refine lv_imul hx hb dX5_isFree_17 ?_
  refine lv_iload_n hx hb dX5_isFree_18 rfl (lv_at hl 1 rfl) ?_
  refine lv_iadd hx hb dX5_isFree_19 ?_
  refine lv_iconst (v := (1 : Int32)) hx hb dX5_isFree_20 (by decide) ?_
  refine lv_isub hx hb dX5_isFree_21 ?_
  obtain ⟨r_5, h_6, hf⟩ := obd hf
  refine xs_S (As := [.int x3, .int ((((4 : Int32) * x0) + x1) - (1 : Int32))]) (rest := []) S k_X5_has q214 q202 ⟨Nat.le_of_ble_eq_true rfl, Nat.le_of_ble_eq_true rfl⟩ ⟨rfl, rfl⟩ (c_X5_has l x3 ((((4 : Int32) * x0) + x1) - (1 : Int32)) r_5 h_6) hK rfl hl.1 rfl (Nat.le_of_ble_eq_true rfl) dX5_isFree_22 ⟨Nat.zero_le _, Nat.zero_le _⟩ ?_
  refine lv_if_eq (tgt := 32) hx hb dX5_isFree_25 (by decide) (fun c_7 => ?_) (fun c_7 => ?_)
  · have hf := oit c_7 hf
    refine lv_iconst (v := (0 : Int32)) hx hb dX5_isFree_32 (by decide) ?_
    exact hret _ _ _ dX5_isFree_33 (by decide) (Option.some.inj hf)
  have hf := oif c_7 hf
  exact j28 _ (lv_sub hl [] rfl) hf
theorem dX5_leastWith_0 : decode cX5_leastWith 0 = .ok (.iload_n 1, 1) := by decide +kernel
theorem dX5_leastWith_1 : decode cX5_leastWith 1 = .ok (.ifCond .ne 16, 3) := by decide +kernel
theorem dX5_leastWith_4 : decode cX5_leastWith 4 = .ok (.iconst 1, 1) := by decide +kernel
theorem dX5_leastWith_5 : decode cX5_leastWith 5 = .ok (.iload_n 0, 1) := by decide +kernel
theorem dX5_leastWith_6 : decode cX5_leastWith 6 = .ok (.iconst 1, 1) := by decide +kernel
theorem dX5_leastWith_7 : decode cX5_leastWith 7 = .ok (.iadd, 1) := by decide +kernel
theorem dX5_leastWith_8 : decode cX5_leastWith 8 = .ok (.iload_n 2, 1) := by decide +kernel
theorem dX5_leastWith_9 : decode cX5_leastWith 9 = .ok (.iload_n 3, 1) := by decide +kernel
theorem dX5_leastWith_10 : decode cX5_leastWith 10 = .ok (.iload 4, 2) := by decide +kernel
theorem dX5_leastWith_12 : decode cX5_leastWith 12 = .ok (.invokestatic 214, 3) := by decide +kernel
theorem dX5_leastWith_15 : decode cX5_leastWith 15 = .ok (.iadd, 1) := by decide +kernel
theorem dX5_leastWith_16 : decode cX5_leastWith 16 = .ok (.ireturn, 1) := by decide +kernel
theorem dX5_leastWith_17 : decode cX5_leastWith 17 = .ok (.iload_n 0, 1) := by decide +kernel
theorem dX5_leastWith_18 : decode cX5_leastWith 18 = .ok (.iconst 1, 1) := by decide +kernel
theorem dX5_leastWith_19 : decode cX5_leastWith 19 = .ok (.iadd, 1) := by decide +kernel
theorem dX5_leastWith_20 : decode cX5_leastWith 20 = .ok (.iload_n 2, 1) := by decide +kernel
theorem dX5_leastWith_21 : decode cX5_leastWith 21 = .ok (.iconst 1, 1) := by decide +kernel
theorem dX5_leastWith_22 : decode cX5_leastWith 22 = .ok (.iload_n 1, 1) := by decide +kernel
theorem dX5_leastWith_23 : decode cX5_leastWith 23 = .ok (.iconst 1, 1) := by decide +kernel
theorem dX5_leastWith_24 : decode cX5_leastWith 24 = .ok (.isub, 1) := by decide +kernel
theorem dX5_leastWith_25 : decode cX5_leastWith 25 = .ok (.ishl, 1) := by decide +kernel
theorem dX5_leastWith_26 : decode cX5_leastWith 26 = .ok (.ior, 1) := by decide +kernel
theorem dX5_leastWith_27 : decode cX5_leastWith 27 = .ok (.iload_n 3, 1) := by decide +kernel
theorem dX5_leastWith_28 : decode cX5_leastWith 28 = .ok (.iload 4, 2) := by decide +kernel
theorem dX5_leastWith_30 : decode cX5_leastWith 30 = .ok (.invokestatic 214, 3) := by decide +kernel
theorem dX5_leastWith_33 : decode cX5_leastWith 33 = .ok (.ireturn, 1) := by decide +kernel
def f_X5_leastWith (N : Nat) (rc : Int32 → Int32 → Int32 → Int32 → Option Int32) (x0 : Int32) (x1 : Int32) (x2 : Int32) (x3 : Int32) (x4 : Int32) : Option Int32 :=
  if x1 = 0 then (bd (rc (x0 + (1 : Int32)) x2 x3 x4) fun r_4 =>
    some ((1 : Int32) + r_4))
  else bd (rc (x0 + (1 : Int32)) (x2 ||| ((1 : Int32) <<< ((x1 - (1 : Int32)) &&& 31))) x3 x4) fun r_2 =>
    some r_2
set_option maxRecDepth 100000 in
set_option maxHeartbeats 4000000 in
theorem c_X5_leastWith (l : Launch) (N : Nat) (dk : Nat) (rc : Int32 → Int32 → Int32 → Int32 → Option Int32) (hrc : ∀ (z0 : Int32) (z1 : Int32) (z2 : Int32) (z3 : Int32) (r : Int32), rc z0 z1 z2 z3 = some r → MetS l yX5_leastOnTable cX5_leastOnTable 6 (some .int) (rrF (2 * dk)) [.int z0, .int z1, .int z2, .int z3] r) (x0 : Int32) (x1 : Int32) (x2 : Int32) (x3 : Int32) (x4 : Int32) (r : Int32) (hf : f_X5_leastWith N rc x0 x1 x2 x3 x4 = some r) : MetS l yX5_leastWith cX5_leastWith 5 (some .int) (rrF (2 * dk + 1)) [.int x0, .int x1, .int x2, .int x3, .int x4] r := by
  refine mkS (by decide) (Nat.le_of_ble_eq_true rfl) rfl ?_
  intro p e s m args below meth cd Q ls h0 hK hret hl
  obtain ⟨S, hr, hlk⟩ := h0
  obtain ⟨hx, hb, hml, hown, ht⟩ := id S
  have hl : lv_has ls 5 [(0, .int x0), (1, .int x1), (2, .int x2), (3, .int x3), (4, .int x4)] := hl
  have hf := obs hf
  have hf := oun (f_X5_leastWith.eq_1 _ _ _ _ _ _ _) hf
  refine lv_iload_n hx hb dX5_leastWith_0 rfl (lv_at hl 1 rfl) ?_
  refine lv_if_ne (tgt := 17) hx hb dX5_leastWith_1 (by decide) (fun c_1 => ?_) (fun c_1 => ?_)
  · have hf := oif c_1 hf
    refine lv_iload_n hx hb dX5_leastWith_17 rfl (lv_at hl 0 rfl) ?_
    refine lv_iconst (v := (1 : Int32)) hx hb dX5_leastWith_18 (by decide) ?_
    refine lv_iadd hx hb dX5_leastWith_19 ?_
    refine lv_iload_n hx hb dX5_leastWith_20 rfl (lv_at hl 2 rfl) ?_
    refine lv_iconst (v := (1 : Int32)) hx hb dX5_leastWith_21 (by decide) ?_
    refine lv_iload_n hx hb dX5_leastWith_22 rfl (lv_at hl 1 rfl) ?_
    refine lv_iconst (v := (1 : Int32)) hx hb dX5_leastWith_23 (by decide) ?_
    refine lv_isub hx hb dX5_leastWith_24 ?_
    refine lv_ishl hx hb dX5_leastWith_25 ?_
    refine lv_ior hx hb dX5_leastWith_26 ?_
    refine lv_iload_n hx hb dX5_leastWith_27 rfl (lv_at hl 3 rfl) ?_
    refine lv_iload hx hb dX5_leastWith_28 (lv_at hl 4 rfl) ?_
    obtain ⟨r_2, h_3, hf⟩ := obd hf
    refine xs_S (As := [.int (x0 + (1 : Int32)), .int (x2 ||| ((1 : Int32) <<< ((x1 - (1 : Int32)) &&& 31))), .int x3, .int x4]) (rest := []) S k_X5_leastOnTable q507 q508 ⟨rr_a (f := 2 * dk) (by omega), rr_b (x := 8 + (6 + 11) + (60 * (2 * dk) + 60)) (by omega)⟩ ⟨rfl, rfl⟩ (hrc (x0 + (1 : Int32)) (x2 ||| ((1 : Int32) <<< ((x1 - (1 : Int32)) &&& 31))) x3 x4 r_2 h_3) hK rfl hl.1 rfl (Nat.le_of_ble_eq_true rfl) dX5_leastWith_30 ⟨Nat.zero_le _, Nat.zero_le _⟩ ?_
    exact hret _ _ _ dX5_leastWith_33 rfl (Option.some.inj hf)
  have hf := oit c_1 hf
  refine lv_iconst (v := (1 : Int32)) hx hb dX5_leastWith_4 (by decide) ?_
  refine lv_iload_n hx hb dX5_leastWith_5 rfl (lv_at hl 0 rfl) ?_
  refine lv_iconst (v := (1 : Int32)) hx hb dX5_leastWith_6 (by decide) ?_
  refine lv_iadd hx hb dX5_leastWith_7 ?_
  refine lv_iload_n hx hb dX5_leastWith_8 rfl (lv_at hl 2 rfl) ?_
  refine lv_iload_n hx hb dX5_leastWith_9 rfl (lv_at hl 3 rfl) ?_
  refine lv_iload hx hb dX5_leastWith_10 (lv_at hl 4 rfl) ?_
  obtain ⟨r_4, h_5, hf⟩ := obd hf
  refine xs_S (As := [.int (x0 + (1 : Int32)), .int x2, .int x3, .int x4]) (rest := [.int (1 : Int32)]) S k_X5_leastOnTable q507 q508 ⟨rr_a (f := 2 * dk) (by omega), rr_b (x := 8 + (6 + 11) + (60 * (2 * dk) + 60)) (by omega)⟩ ⟨rfl, rfl⟩ (hrc (x0 + (1 : Int32)) x2 x3 x4 r_4 h_5) hK rfl hl.1 rfl (Nat.le_of_ble_eq_true rfl) dX5_leastWith_12 ⟨Nat.zero_le _, Nat.zero_le _⟩ ?_
  refine lv_iadd hx hb dX5_leastWith_15 ?_
  exact hret _ _ _ dX5_leastWith_16 rfl (Option.some.inj hf)
theorem dX5_leastOnTable_0 : decode cX5_leastOnTable 0 = .ok (.iload_n 0, 1) := by decide +kernel
theorem dX5_leastOnTable_1 : decode cX5_leastOnTable 1 = .ok (.iload_n 2, 1) := by decide +kernel
theorem dX5_leastOnTable_2 : decode cX5_leastOnTable 2 = .ok (.if_icmp .lt 5, 3) := by decide +kernel
theorem dX5_leastOnTable_5 : decode cX5_leastOnTable 5 = .ok (.iconst 0, 1) := by decide +kernel
theorem dX5_leastOnTable_6 : decode cX5_leastOnTable 6 = .ok (.ireturn, 1) := by decide +kernel
theorem dX5_leastOnTable_7 : decode cX5_leastOnTable 7 = .ok (.iconst 4, 1) := by decide +kernel
theorem dX5_leastOnTable_8 : decode cX5_leastOnTable 8 = .ok (.istore 4, 2) := by decide +kernel
theorem dX5_leastOnTable_10 : decode cX5_leastOnTable 10 = .ok (.iconst 0, 1) := by decide +kernel
theorem dX5_leastOnTable_11 : decode cX5_leastOnTable 11 = .ok (.istore 5, 2) := by decide +kernel
theorem dX5_leastOnTable_13 : decode cX5_leastOnTable 13 = .ok (.iload 5, 2) := by decide +kernel
theorem dX5_leastOnTable_15 : decode cX5_leastOnTable 15 = .ok (.iload_n 2, 1) := by decide +kernel
theorem dX5_leastOnTable_16 : decode cX5_leastOnTable 16 = .ok (.if_icmp .gt 36, 3) := by decide +kernel
theorem dX5_leastOnTable_19 : decode cX5_leastOnTable 19 = .ok (.iload_n 0, 1) := by decide +kernel
theorem dX5_leastOnTable_20 : decode cX5_leastOnTable 20 = .ok (.iload 5, 2) := by decide +kernel
theorem dX5_leastOnTable_22 : decode cX5_leastOnTable 22 = .ok (.iload_n 1, 1) := by decide +kernel
theorem dX5_leastOnTable_23 : decode cX5_leastOnTable 23 = .ok (.iload_n 3, 1) := by decide +kernel
theorem dX5_leastOnTable_24 : decode cX5_leastOnTable 24 = .ok (.invokestatic 224, 3) := by decide +kernel
theorem dX5_leastOnTable_27 : decode cX5_leastOnTable 27 = .ok (.ifCond .eq 19, 3) := by decide +kernel
theorem dX5_leastOnTable_30 : decode cX5_leastOnTable 30 = .ok (.iload 4, 2) := by decide +kernel
theorem dX5_leastOnTable_32 : decode cX5_leastOnTable 32 = .ok (.iload_n 0, 1) := by decide +kernel
theorem dX5_leastOnTable_33 : decode cX5_leastOnTable 33 = .ok (.iload 5, 2) := by decide +kernel
theorem dX5_leastOnTable_35 : decode cX5_leastOnTable 35 = .ok (.iload_n 1, 1) := by decide +kernel
theorem dX5_leastOnTable_36 : decode cX5_leastOnTable 36 = .ok (.iload_n 2, 1) := by decide +kernel
theorem dX5_leastOnTable_37 : decode cX5_leastOnTable 37 = .ok (.iload_n 3, 1) := by decide +kernel
theorem dX5_leastOnTable_38 : decode cX5_leastOnTable 38 = .ok (.invokestatic 227, 3) := by decide +kernel
theorem dX5_leastOnTable_41 : decode cX5_leastOnTable 41 = .ok (.invokestatic 231, 3) := by decide +kernel
theorem dX5_leastOnTable_44 : decode cX5_leastOnTable 44 = .ok (.istore 4, 2) := by decide +kernel
theorem dX5_leastOnTable_46 : decode cX5_leastOnTable 46 = .ok (.iinc 5 1, 3) := by decide +kernel
theorem dX5_leastOnTable_49 : decode cX5_leastOnTable 49 = .ok (.goto (-36), 3) := by decide +kernel
theorem dX5_leastOnTable_52 : decode cX5_leastOnTable 52 = .ok (.iload 4, 2) := by decide +kernel
theorem dX5_leastOnTable_54 : decode cX5_leastOnTable 54 = .ok (.ireturn, 1) := by decide +kernel
def f_X5_leastOnTable_j52 (N : Nat) (rc : Int32 → Int32 → Int32 → Int32 → Option Int32) (x4 : Int32) : Option Int32 :=
  some x4
def f_X5_leastOnTable_j46 (N : Nat) (rc : Int32 → Int32 → Int32 → Int32 → Option Int32) (x0 : Int32) (x1 : Int32) (x2 : Int32) (x3 : Int32) (x4 : Int32) (x5 : Int32) : Option ((Int32 × Int32) ⊕ ((Int32))) :=
  nm (x5 + (1 : Int32)) fun x5_1 =>
  some (.inl (x4, x5_1))
def f_X5_leastOnTable_b13 (N : Nat) (rc : Int32 → Int32 → Int32 → Int32 → Option Int32) (x0 : Int32) (x1 : Int32) (x2 : Int32) (x3 : Int32) (x4 : Int32) (x5 : Int32) : Option ((Int32 × Int32) ⊕ ((Int32))) :=
  if x2 < x5 then (some (.inr x4))
  else bd (f_X5_isFree x0 x5 x1 x3) fun r_3 =>
  if r_3 = 0 then (f_X5_leastOnTable_j46 N rc x0 x1 x2 x3 x4 x5)
  else bd (f_X5_leastWith N rc x0 x5 x1 x2 x3) fun r_6 =>
  nm (if r_6 < x4 then r_6 else x4) fun x4_8 =>
  f_X5_leastOnTable_j46 N rc x0 x1 x2 x3 x4_8 x5
def f_X5_leastOnTable_g (N : Nat) (rc : Int32 → Int32 → Int32 → Int32 → Option Int32) (x0 : Int32) (x1 : Int32) (x2 : Int32) (x3 : Int32) : Option Int32 :=
  if x0 < x2 then (bd (lpF (fun s => f_X5_leastOnTable_b13 N rc x0 x1 x2 x3 s.1 s.2) N ((4 : Int32), (0 : Int32))) (fun o => f_X5_leastOnTable_j52 N rc o))
  else some (0 : Int32)
def f_X5_leastOnTable (N : Nat) : Nat → Int32 → Int32 → Int32 → Int32 → Option Int32
  | 0 => fun _ _ _ _ => none
  | k + 1 => f_X5_leastOnTable_g N (f_X5_leastOnTable N k)
set_option maxRecDepth 100000 in
set_option maxHeartbeats 4000000 in
theorem c_X5_leastOnTable (l : Launch) (N : Nat) : ∀ (dk : Nat) (x0 : Int32) (x1 : Int32) (x2 : Int32) (x3 : Int32) (r : Int32) (hf : f_X5_leastOnTable N dk x0 x1 x2 x3 = some r), MetS l yX5_leastOnTable cX5_leastOnTable 6 (some .int) (rrF (2 * dk)) [.int x0, .int x1, .int x2, .int x3] r := by
  intro dk
  induction dk with
  | zero => intro x0 x1 x2 x3 r hf; cases hf
  | succ dk hrc =>
  intro x0 x1 x2 x3 r hf
  have hf : f_X5_leastOnTable_g N (f_X5_leastOnTable N dk) x0 x1 x2 x3 = some r := hf
  generalize f_X5_leastOnTable N dk = rc at hf hrc
  refine mkS (by decide) (Nat.le_of_ble_eq_true rfl) rfl ?_
  intro p e s m args below meth cd Q ls h0 hK hret hl
  obtain ⟨S, hr, hlk⟩ := h0
  obtain ⟨hx, hb, hml, hown, ht⟩ := id S
  have hl : lv_has ls 6 [(0, .int x0), (1, .int x1), (2, .int x2), (3, .int x3)] := hl
  have hf := obs hf
  have j52 : ∀ (x4 : Int32) (ls : Array Slot), lv_has ls 6 [(4, .int x4)] → Option.bind (f_X5_leastOnTable_j52 N rc x4) some = some r → W p l e (rrF (2 * dk + 2)) s m args below meth cd s.heap [] 0 0 Q (F0 m 52 ls []) := by
    intro x4 ls hl hf
    have hf := oun (f_X5_leastOnTable_j52.eq_1 _ _ _) hf
    refine lv_iload hx hb dX5_leastOnTable_52 (lv_at hl 0 rfl) ?_
    exact hret _ _ _ dX5_leastOnTable_54 rfl (Option.some.inj hf)
  have L13 : ∀ (x0 : Int32) (x1 : Int32) (x2 : Int32) (x3 : Int32) (k : Nat) (x4 : Int32) (x5 : Int32) (ls : Array Slot), lv_has ls 6 [(0, .int x0), (1, .int x1), (2, .int x2), (3, .int x3), (4, .int x4), (5, .int x5)] → Option.bind (bd (lpF (fun s => f_X5_leastOnTable_b13 N rc x0 x1 x2 x3 s.1 s.2) k (x4, x5)) (fun o => f_X5_leastOnTable_j52 N rc o)) some = some r → W p l e (rrF (2 * dk + 2)) s m args below meth cd s.heap [] 0 0 Q (F0 m 13 ls []) := by
    intro x0 x1 x2 x3 k
    induction k with
    | zero =>
      intro x4 x5 ls hl hf
      exact (ol0 hf).elim
    | succ k ih =>
      intro x4 x5 ls hl hf
      obtain ⟨K13, hf, hc13, hx13⟩ := ol1 hf
      have j46 : ∀ (x4 : Int32) (x5 : Int32) (ls : Array Slot), lv_has ls 6 [(0, .int x0), (1, .int x1), (2, .int x2), (3, .int x3), (4, .int x4), (5, .int x5)] → Option.bind (f_X5_leastOnTable_j46 N rc x0 x1 x2 x3 x4 x5) K13 = some r → W p l e (rrF (2 * dk + 2)) s m args below meth cd s.heap [] 0 0 Q (F0 m 46 ls []) := by
        intro x4 x5 ls hl hf
        have hf := oun (f_X5_leastOnTable_j46.eq_1 _ _ _ _ _ _ _ _) hf
        obtain ⟨x5_1, ex5_1, hf⟩ := onm hf
        refine lv_iinc (v := x5_1) (lv' := [(5, .int x5_1), (0, .int x0), (1, .int x1), (2, .int x2), (3, .int x3), (4, .int x4)]) hx hb dX5_leastOnTable_46 hl (k := 5) rfl ex5_1 (by decide) rfl (fun ls hl => ?_)
        refine lv_goto (tgt := 13) hx hb dX5_leastOnTable_49 (by decide) ?_
        exact ih x4 x5_1 _ (lv_sub hl [1, 2, 3, 4, 5, 0] rfl) (okx hf (hc13 _))
      have hf := oun (f_X5_leastOnTable_b13.eq_1 N rc x0 x1 x2 x3 x4 x5) hf
      refine lv_iload hx hb dX5_leastOnTable_13 (lv_at hl 5 rfl) ?_
      refine lv_iload_n hx hb dX5_leastOnTable_15 rfl (lv_at hl 2 rfl) ?_
      refine lv_icmp_gt (tgt := 52) hx hb dX5_leastOnTable_16 (by decide) (fun c_2 => ?_) (fun c_2 => ?_)
      · have hf := oit c_2 hf
        exact j52 x4 _ (lv_sub hl [4] rfl) (okx hf (hx13 _))
      have hf := oif c_2 hf
      refine lv_iload_n hx hb dX5_leastOnTable_19 rfl (lv_at hl 0 rfl) ?_
      refine lv_iload hx hb dX5_leastOnTable_20 (lv_at hl 5 rfl) ?_
      refine lv_iload_n hx hb dX5_leastOnTable_22 rfl (lv_at hl 1 rfl) ?_
      refine lv_iload_n hx hb dX5_leastOnTable_23 rfl (lv_at hl 3 rfl) ?_
      obtain ⟨r_3, h_4, hf⟩ := obd hf
      refine xs_S (As := [.int x0, .int x5, .int x1, .int x3]) (rest := []) S k_X5_isFree q511 q512 ⟨rr_a (f := 1) (by omega), rr_b (x := 8 + (4 + 11) + (21)) (by omega)⟩ ⟨rfl, rfl⟩ (c_X5_isFree l x0 x5 x1 x3 r_3 h_4) hK rfl hl.1 rfl (Nat.le_of_ble_eq_true rfl) dX5_leastOnTable_24 ⟨Nat.zero_le _, Nat.zero_le _⟩ ?_
      refine lv_if_eq (tgt := 46) hx hb dX5_leastOnTable_27 (by decide) (fun c_5 => ?_) (fun c_5 => ?_)
      · have hf := oit c_5 hf
        exact j46 x4 x5 _ (lv_sub hl [0, 1, 2, 3, 4, 5] rfl) hf
      have hf := oif c_5 hf
      refine lv_iload hx hb dX5_leastOnTable_30 (lv_at hl 4 rfl) ?_
      refine lv_iload_n hx hb dX5_leastOnTable_32 rfl (lv_at hl 0 rfl) ?_
      refine lv_iload hx hb dX5_leastOnTable_33 (lv_at hl 5 rfl) ?_
      refine lv_iload_n hx hb dX5_leastOnTable_35 rfl (lv_at hl 1 rfl) ?_
      refine lv_iload_n hx hb dX5_leastOnTable_36 rfl (lv_at hl 2 rfl) ?_
      refine lv_iload_n hx hb dX5_leastOnTable_37 rfl (lv_at hl 3 rfl) ?_
      obtain ⟨r_6, h_7, hf⟩ := obd hf
      refine xs_S (As := [.int x0, .int x5, .int x1, .int x2, .int x3]) (rest := [.int x4]) S k_X5_leastWith q514 q515 ⟨rr_a (f := 2 * dk + 1) (by omega), rr_b (x := 8 + (5 + 11) + (60 * (2 * dk + 1) + 60)) (by omega)⟩ ⟨rfl, rfl⟩ (c_X5_leastWith l N dk rc hrc x0 x5 x1 x2 x3 r_6 h_7) hK rfl hl.1 rfl (Nat.le_of_ble_eq_true rfl) dX5_leastOnTable_38 ⟨Nat.zero_le _, Nat.zero_le _⟩ ?_
      refine va_mmin hx hb (hml.trans hl.1.symm) hown (ht _ q510) (ht _ q123) (ht _ q124) (ht _ q125) (by exact rr_a (f := 0) (by omega)) (by exact rr_b (x := 0 + 13) (by omega)) (Nat.zero_le _) (Nat.zero_le _) dX5_leastOnTable_41 ?_
      obtain ⟨x4_8, ex4_8, hf⟩ := onm hf
      refine lv_nm ex4_8 ?_
      refine lv_istore (lv' := [(4, .int x4_8), (0, .int x0), (1, .int x1), (2, .int x2), (3, .int x3), (5, .int x5)]) hx hb dX5_leastOnTable_44 hl (by decide) rfl (fun ls hl => ?_)
      exact j46 x4_8 x5 _ (lv_sub hl [1, 2, 3, 4, 0, 5] rfl) hf
  have hf := oun (f_X5_leastOnTable_g.eq_1 _ _ _ _ _ _) hf
  refine lv_iload_n hx hb dX5_leastOnTable_0 rfl (lv_at hl 0 rfl) ?_
  refine lv_iload_n hx hb dX5_leastOnTable_1 rfl (lv_at hl 2 rfl) ?_
  refine lv_icmp_lt (tgt := 7) hx hb dX5_leastOnTable_2 (by decide) (fun c_9 => ?_) (fun c_9 => ?_)
  · have hf := oit c_9 hf
    refine lv_iconst (v := (4 : Int32)) hx hb dX5_leastOnTable_7 (by decide) ?_
    refine lv_istore (lv' := [(4, .int (4 : Int32)), (0, .int x0), (1, .int x1), (2, .int x2), (3, .int x3)]) hx hb dX5_leastOnTable_8 hl (by decide) rfl (fun ls hl => ?_)
    refine lv_iconst (v := (0 : Int32)) hx hb dX5_leastOnTable_10 (by decide) ?_
    refine lv_istore (lv' := [(5, .int (0 : Int32)), (4, .int (4 : Int32)), (0, .int x0), (1, .int x1), (2, .int x2), (3, .int x3)]) hx hb dX5_leastOnTable_11 hl (by decide) rfl (fun ls hl => ?_)
    exact L13 x0 x1 x2 x3 N (4 : Int32) (0 : Int32) _ (lv_sub hl [2, 3, 4, 5, 1, 0] rfl) hf
  have hf := oif c_9 hf
  refine lv_iconst (v := (0 : Int32)) hx hb dX5_leastOnTable_5 (by decide) ?_
  exact hret _ _ _ dX5_leastOnTable_6 rfl (Option.some.inj hf)
theorem dX5_firstPlace_0 : decode cX5_firstPlace 0 = .ok (.iload_n 0, 1) := by decide +kernel
theorem dX5_firstPlace_1 : decode cX5_firstPlace 1 = .ok (.iload_n 1, 1) := by decide +kernel
theorem dX5_firstPlace_2 : decode cX5_firstPlace 2 = .ok (.iload_n 2, 1) := by decide +kernel
theorem dX5_firstPlace_3 : decode cX5_firstPlace 3 = .ok (.iload_n 3, 1) := by decide +kernel
theorem dX5_firstPlace_4 : decode cX5_firstPlace 4 = .ok (.invokestatic 214, 3) := by decide +kernel
theorem dX5_firstPlace_7 : decode cX5_firstPlace 7 = .ok (.istore 4, 2) := by decide +kernel
theorem dX5_firstPlace_9 : decode cX5_firstPlace 9 = .ok (.iconst 0, 1) := by decide +kernel
theorem dX5_firstPlace_10 : decode cX5_firstPlace 10 = .ok (.istore 5, 2) := by decide +kernel
theorem dX5_firstPlace_12 : decode cX5_firstPlace 12 = .ok (.iload 5, 2) := by decide +kernel
theorem dX5_firstPlace_14 : decode cX5_firstPlace 14 = .ok (.iload_n 2, 1) := by decide +kernel
theorem dX5_firstPlace_15 : decode cX5_firstPlace 15 = .ok (.if_icmp .gt 37, 3) := by decide +kernel
theorem dX5_firstPlace_18 : decode cX5_firstPlace 18 = .ok (.iload_n 0, 1) := by decide +kernel
theorem dX5_firstPlace_19 : decode cX5_firstPlace 19 = .ok (.iload 5, 2) := by decide +kernel
theorem dX5_firstPlace_21 : decode cX5_firstPlace 21 = .ok (.iload_n 1, 1) := by decide +kernel
theorem dX5_firstPlace_22 : decode cX5_firstPlace 22 = .ok (.iload_n 3, 1) := by decide +kernel
theorem dX5_firstPlace_23 : decode cX5_firstPlace 23 = .ok (.invokestatic 224, 3) := by decide +kernel
theorem dX5_firstPlace_26 : decode cX5_firstPlace 26 = .ok (.ifCond .eq 20, 3) := by decide +kernel
theorem dX5_firstPlace_29 : decode cX5_firstPlace 29 = .ok (.iload 4, 2) := by decide +kernel
theorem dX5_firstPlace_31 : decode cX5_firstPlace 31 = .ok (.iload_n 0, 1) := by decide +kernel
theorem dX5_firstPlace_32 : decode cX5_firstPlace 32 = .ok (.iload 5, 2) := by decide +kernel
theorem dX5_firstPlace_34 : decode cX5_firstPlace 34 = .ok (.iload_n 1, 1) := by decide +kernel
theorem dX5_firstPlace_35 : decode cX5_firstPlace 35 = .ok (.iload_n 2, 1) := by decide +kernel
theorem dX5_firstPlace_36 : decode cX5_firstPlace 36 = .ok (.iload_n 3, 1) := by decide +kernel
theorem dX5_firstPlace_37 : decode cX5_firstPlace 37 = .ok (.invokestatic 227, 3) := by decide +kernel
theorem dX5_firstPlace_40 : decode cX5_firstPlace 40 = .ok (.if_icmp .ne 6, 3) := by decide +kernel
theorem dX5_firstPlace_43 : decode cX5_firstPlace 43 = .ok (.iload 5, 2) := by decide +kernel
theorem dX5_firstPlace_45 : decode cX5_firstPlace 45 = .ok (.ireturn, 1) := by decide +kernel
theorem dX5_firstPlace_46 : decode cX5_firstPlace 46 = .ok (.iinc 5 1, 3) := by decide +kernel
theorem dX5_firstPlace_49 : decode cX5_firstPlace 49 = .ok (.goto (-37), 3) := by decide +kernel
theorem dX5_firstPlace_52 : decode cX5_firstPlace 52 = .ok (.iconst 0, 1) := by decide +kernel
theorem dX5_firstPlace_53 : decode cX5_firstPlace 53 = .ok (.ireturn, 1) := by decide +kernel
def f_X5_firstPlace_j52 (N : Nat) : Option Int32 :=
  some (0 : Int32)
def f_X5_firstPlace_j46 (N : Nat) (x0 : Int32) (x1 : Int32) (x2 : Int32) (x3 : Int32) (x4 : Int32) (x5 : Int32) : Option ((Int32) ⊕ (Int32 ⊕ (Unit))) :=
  nm (x5 + (1 : Int32)) fun x5_1 =>
  some (.inl x5_1)
def f_X5_firstPlace_b12 (N : Nat) (x0 : Int32) (x1 : Int32) (x2 : Int32) (x3 : Int32) (x4 : Int32) (x5 : Int32) : Option ((Int32) ⊕ (Int32 ⊕ (Unit))) :=
  if x2 < x5 then (some (.inr (.inr ())))
  else bd (f_X5_isFree x0 x5 x1 x3) fun r_3 =>
  if r_3 = 0 then (f_X5_firstPlace_j46 N x0 x1 x2 x3 x4 x5)
  else bd (f_X5_leastWith N (f_X5_leastOnTable N 6) x0 x5 x1 x2 x3) fun r_6 =>
  if x4 = r_6 then (some (.inr (.inl x5)))
  else f_X5_firstPlace_j46 N x0 x1 x2 x3 x4 x5
def f_X5_firstPlace (N : Nat) (x0 : Int32) (x1 : Int32) (x2 : Int32) (x3 : Int32) : Option Int32 :=
  bd (f_X5_leastOnTable N 6 x0 x1 x2 x3) fun r_9 =>
  bd (lpF (fun s => f_X5_firstPlace_b12 N x0 x1 x2 x3 r_9 s) N (0 : Int32)) (Sum.elim (fun v => some v) (fun o => f_X5_firstPlace_j52 N))
abbrev rmX5_firstPlace : Room := { frames := 15, cells := 0, slots := 0, locals := 925 }
set_option maxRecDepth 100000 in
set_option maxHeartbeats 4000000 in
theorem c_X5_firstPlace (l : Launch) (N : Nat) (x0 : Int32) (x1 : Int32) (x2 : Int32) (x3 : Int32) (r : Int32) (hf : f_X5_firstPlace N x0 x1 x2 x3 = some r) : MetS l yX5_firstPlace cX5_firstPlace 6 (some .int) rmX5_firstPlace [.int x0, .int x1, .int x2, .int x3] r := by
  refine mkS (by decide) (Nat.le_of_ble_eq_true rfl) rfl ?_
  intro p e s m args below meth cd Q ls h0 hK hret hl
  obtain ⟨S, hr, hlk⟩ := h0
  obtain ⟨hx, hb, hml, hown, ht⟩ := id S
  have hl : lv_has ls 6 [(0, .int x0), (1, .int x1), (2, .int x2), (3, .int x3)] := hl
  have hf := obs hf
  have j52 : ∀ (ls : Array Slot), lv_has ls 6 [] → Option.bind (f_X5_firstPlace_j52 N) some = some r → W p l e rmX5_firstPlace s m args below meth cd s.heap [] 0 0 Q (F0 m 52 ls []) := by
    intro ls hl hf
    have hf := oun (f_X5_firstPlace_j52.eq_1 _) hf
    refine lv_iconst (v := (0 : Int32)) hx hb dX5_firstPlace_52 (by decide) ?_
    exact hret _ _ _ dX5_firstPlace_53 rfl (Option.some.inj hf)
  have L12 : ∀ (x0 : Int32) (x1 : Int32) (x2 : Int32) (x3 : Int32) (x4 : Int32) (k : Nat) (x5 : Int32) (ls : Array Slot), lv_has ls 6 [(0, .int x0), (1, .int x1), (2, .int x2), (3, .int x3), (4, .int x4), (5, .int x5)] → Option.bind (bd (lpF (fun s => f_X5_firstPlace_b12 N x0 x1 x2 x3 x4 s) k x5) (Sum.elim (fun v => some v) (fun o => f_X5_firstPlace_j52 N))) some = some r → W p l e rmX5_firstPlace s m args below meth cd s.heap [] 0 0 Q (F0 m 12 ls []) := by
    intro x0 x1 x2 x3 x4 k
    induction k with
    | zero =>
      intro x5 ls hl hf
      exact (ol0 hf).elim
    | succ k ih =>
      intro x5 ls hl hf
      obtain ⟨K12, hf, hc12, hx12⟩ := ol1 hf
      have j46 : ∀ (x5 : Int32) (ls : Array Slot), lv_has ls 6 [(0, .int x0), (1, .int x1), (2, .int x2), (3, .int x3), (4, .int x4), (5, .int x5)] → Option.bind (f_X5_firstPlace_j46 N x0 x1 x2 x3 x4 x5) K12 = some r → W p l e rmX5_firstPlace s m args below meth cd s.heap [] 0 0 Q (F0 m 46 ls []) := by
        intro x5 ls hl hf
        have hf := oun (f_X5_firstPlace_j46.eq_1 _ _ _ _ _ _ _) hf
        obtain ⟨x5_1, ex5_1, hf⟩ := onm hf
        refine lv_iinc (v := x5_1) (lv' := [(5, .int x5_1), (0, .int x0), (1, .int x1), (2, .int x2), (3, .int x3), (4, .int x4)]) hx hb dX5_firstPlace_46 hl (k := 5) rfl ex5_1 (by decide) rfl (fun ls hl => ?_)
        refine lv_goto (tgt := 12) hx hb dX5_firstPlace_49 (by decide) ?_
        exact ih x5_1 _ (lv_sub hl [1, 2, 3, 4, 5, 0] rfl) (okx hf (hc12 _))
      have hf := oun (f_X5_firstPlace_b12.eq_1 N x0 x1 x2 x3 x4 x5) hf
      refine lv_iload hx hb dX5_firstPlace_12 (lv_at hl 5 rfl) ?_
      refine lv_iload_n hx hb dX5_firstPlace_14 rfl (lv_at hl 2 rfl) ?_
      refine lv_icmp_gt (tgt := 52) hx hb dX5_firstPlace_15 (by decide) (fun c_2 => ?_) (fun c_2 => ?_)
      · have hf := oit c_2 hf
        exact j52 _ (lv_sub hl [] rfl) (okx hf (hx12 _))
      have hf := oif c_2 hf
      refine lv_iload_n hx hb dX5_firstPlace_18 rfl (lv_at hl 0 rfl) ?_
      refine lv_iload hx hb dX5_firstPlace_19 (lv_at hl 5 rfl) ?_
      refine lv_iload_n hx hb dX5_firstPlace_21 rfl (lv_at hl 1 rfl) ?_
      refine lv_iload_n hx hb dX5_firstPlace_22 rfl (lv_at hl 3 rfl) ?_
      obtain ⟨r_3, h_4, hf⟩ := obd hf
      refine xs_S (As := [.int x0, .int x5, .int x1, .int x3]) (rest := []) S k_X5_isFree q511 q512 ⟨Nat.le_of_ble_eq_true rfl, Nat.le_of_ble_eq_true rfl⟩ ⟨rfl, rfl⟩ (c_X5_isFree l x0 x5 x1 x3 r_3 h_4) hK rfl hl.1 rfl (Nat.le_of_ble_eq_true rfl) dX5_firstPlace_23 ⟨Nat.zero_le _, Nat.zero_le _⟩ ?_
      refine lv_if_eq (tgt := 46) hx hb dX5_firstPlace_26 (by decide) (fun c_5 => ?_) (fun c_5 => ?_)
      · have hf := oit c_5 hf
        exact j46 x5 _ (lv_sub hl [0, 1, 2, 3, 4, 5] rfl) hf
      have hf := oif c_5 hf
      refine lv_iload hx hb dX5_firstPlace_29 (lv_at hl 4 rfl) ?_
      refine lv_iload_n hx hb dX5_firstPlace_31 rfl (lv_at hl 0 rfl) ?_
      refine lv_iload hx hb dX5_firstPlace_32 (lv_at hl 5 rfl) ?_
      refine lv_iload_n hx hb dX5_firstPlace_34 rfl (lv_at hl 1 rfl) ?_
      refine lv_iload_n hx hb dX5_firstPlace_35 rfl (lv_at hl 2 rfl) ?_
      refine lv_iload_n hx hb dX5_firstPlace_36 rfl (lv_at hl 3 rfl) ?_
      obtain ⟨r_6, h_7, hf⟩ := obd hf
      refine xs_S (As := [.int x0, .int x5, .int x1, .int x2, .int x3]) (rest := [.int x4]) S k_X5_leastWith q514 q515 ⟨Nat.le_of_ble_eq_true rfl, Nat.le_of_ble_eq_true rfl⟩ ⟨rfl, rfl⟩ (c_X5_leastWith l N 6 (f_X5_leastOnTable N 6) (c_X5_leastOnTable l N 6) x0 x5 x1 x2 x3 r_6 h_7) hK rfl hl.1 rfl (Nat.le_of_ble_eq_true rfl) dX5_firstPlace_37 ⟨Nat.zero_le _, Nat.zero_le _⟩ ?_
      refine lv_icmp_ne (tgt := 46) hx hb dX5_firstPlace_40 (by decide) (fun c_8 => ?_) (fun c_8 => ?_)
      · have hf := oif c_8 hf
        exact j46 x5 _ (lv_sub hl [0, 1, 2, 3, 4, 5] rfl) hf
      have hf := oit c_8 hf
      refine lv_iload hx hb dX5_firstPlace_43 (lv_at hl 5 rfl) ?_
      have hf := okx hf (hx12 _)
      exact hret _ _ _ dX5_firstPlace_45 rfl (Option.some.inj hf)
  have hf := oun (f_X5_firstPlace.eq_1 _ _ _ _ _) hf
  refine lv_iload_n hx hb dX5_firstPlace_0 rfl (lv_at hl 0 rfl) ?_
  refine lv_iload_n hx hb dX5_firstPlace_1 rfl (lv_at hl 1 rfl) ?_
  refine lv_iload_n hx hb dX5_firstPlace_2 rfl (lv_at hl 2 rfl) ?_
  refine lv_iload_n hx hb dX5_firstPlace_3 rfl (lv_at hl 3 rfl) ?_
  obtain ⟨r_9, h_10, hf⟩ := obd hf
  refine xs_S (As := [.int x0, .int x1, .int x2, .int x3]) (rest := []) S k_X5_leastOnTable q507 q508 ⟨Nat.le_of_ble_eq_true rfl, Nat.le_of_ble_eq_true rfl⟩ ⟨rfl, rfl⟩ (c_X5_leastOnTable l N 6 x0 x1 x2 x3 r_9 h_10) hK rfl hl.1 rfl (Nat.le_of_ble_eq_true rfl) dX5_firstPlace_4 ⟨Nat.zero_le _, Nat.zero_le _⟩ ?_
  refine lv_istore (lv' := [(4, .int r_9), (0, .int x0), (1, .int x1), (2, .int x2), (3, .int x3)]) hx hb dX5_firstPlace_7 hl (by decide) rfl (fun ls hl => ?_)
  refine lv_iconst (v := (0 : Int32)) hx hb dX5_firstPlace_9 (by decide) ?_
  refine lv_istore (lv' := [(5, .int (0 : Int32)), (4, .int r_9), (0, .int x0), (1, .int x1), (2, .int x2), (3, .int x3)]) hx hb dX5_firstPlace_10 hl (by decide) rfl (fun ls hl => ?_)
  exact L12 x0 x1 x2 x3 r_9 N (0 : Int32) _ (lv_sub hl [2, 3, 4, 5, 1, 0] rfl) hf
theorem dX5_longestFrom_0 : decode cX5_longestFrom 0 = .ok (.iload_n 1, 1) := by decide +kernel
theorem dX5_longestFrom_1 : decode cX5_longestFrom 1 = .ok (.istore 4, 2) := by decide +kernel
theorem dX5_longestFrom_3 : decode cX5_longestFrom 3 = .ok (.iconst 0, 1) := by decide +kernel
theorem dX5_longestFrom_4 : decode cX5_longestFrom 4 = .ok (.istore 5, 2) := by decide +kernel
theorem dX5_longestFrom_6 : decode cX5_longestFrom 6 = .ok (.iload 5, 2) := by decide +kernel
theorem dX5_longestFrom_8 : decode cX5_longestFrom 8 = .ok (.iload_n 2, 1) := by decide +kernel
theorem dX5_longestFrom_9 : decode cX5_longestFrom 9 = .ok (.if_icmp .ge 44, 3) := by decide +kernel
theorem dX5_longestFrom_12 : decode cX5_longestFrom 12 = .ok (.iload_n 1, 1) := by decide +kernel
theorem dX5_longestFrom_13 : decode cX5_longestFrom 13 = .ok (.iload_n 2, 1) := by decide +kernel
theorem dX5_longestFrom_14 : decode cX5_longestFrom 14 = .ok (.if_icmp .ge 39, 3) := by decide +kernel
theorem dX5_longestFrom_17 : decode cX5_longestFrom 17 = .ok (.iload_n 3, 1) := by decide +kernel
theorem dX5_longestFrom_18 : decode cX5_longestFrom 18 = .ok (.iconst 4, 1) := by decide +kernel
theorem dX5_longestFrom_19 : decode cX5_longestFrom 19 = .ok (.iload_n 0, 1) := by decide +kernel
theorem dX5_longestFrom_20 : decode cX5_longestFrom 20 = .ok (.imul, 1) := by decide +kernel
theorem dX5_longestFrom_21 : decode cX5_longestFrom 21 = .ok (.iload 5, 2) := by decide +kernel
theorem dX5_longestFrom_23 : decode cX5_longestFrom 23 = .ok (.iadd, 1) := by decide +kernel
theorem dX5_longestFrom_24 : decode cX5_longestFrom 24 = .ok (.invokestatic 124, 3) := by decide +kernel
theorem dX5_longestFrom_27 : decode cX5_longestFrom 27 = .ok (.ifCond .eq 20, 3) := by decide +kernel
theorem dX5_longestFrom_30 : decode cX5_longestFrom 30 = .ok (.iload 4, 2) := by decide +kernel
theorem dX5_longestFrom_32 : decode cX5_longestFrom 32 = .ok (.iload 5, 2) := by decide +kernel
theorem dX5_longestFrom_34 : decode cX5_longestFrom 34 = .ok (.iload_n 1, 1) := by decide +kernel
theorem dX5_longestFrom_35 : decode cX5_longestFrom 35 = .ok (.iconst 1, 1) := by decide +kernel
theorem dX5_longestFrom_36 : decode cX5_longestFrom 36 = .ok (.iadd, 1) := by decide +kernel
theorem dX5_longestFrom_37 : decode cX5_longestFrom 37 = .ok (.iload_n 2, 1) := by decide +kernel
theorem dX5_longestFrom_38 : decode cX5_longestFrom 38 = .ok (.iload_n 3, 1) := by decide +kernel
theorem dX5_longestFrom_39 : decode cX5_longestFrom 39 = .ok (.invokestatic 236, 3) := by decide +kernel
theorem dX5_longestFrom_42 : decode cX5_longestFrom 42 = .ok (.invokestatic 239, 3) := by decide +kernel
theorem dX5_longestFrom_45 : decode cX5_longestFrom 45 = .ok (.istore 4, 2) := by decide +kernel
theorem dX5_longestFrom_47 : decode cX5_longestFrom 47 = .ok (.iinc 5 1, 3) := by decide +kernel
theorem dX5_longestFrom_50 : decode cX5_longestFrom 50 = .ok (.goto (-44), 3) := by decide +kernel
theorem dX5_longestFrom_53 : decode cX5_longestFrom 53 = .ok (.iload 4, 2) := by decide +kernel
theorem dX5_longestFrom_55 : decode cX5_longestFrom 55 = .ok (.ireturn, 1) := by decide +kernel
def f_X5_longestFrom_j53 (N : Nat) (rc : Int32 → Int32 → Int32 → Int32 → Option Int32) (x4 : Int32) : Option Int32 :=
  some x4
def f_X5_longestFrom_j47 (N : Nat) (rc : Int32 → Int32 → Int32 → Int32 → Option Int32) (x0 : Int32) (x1 : Int32) (x2 : Int32) (x3 : Int32) (x4 : Int32) (x5 : Int32) : Option ((Int32 × Int32) ⊕ ((Int32))) :=
  nm (x5 + (1 : Int32)) fun x5_1 =>
  some (.inl (x4, x5_1))
def f_X5_longestFrom_b6 (N : Nat) (rc : Int32 → Int32 → Int32 → Int32 → Option Int32) (x0 : Int32) (x1 : Int32) (x2 : Int32) (x3 : Int32) (x4 : Int32) (x5 : Int32) : Option ((Int32 × Int32) ⊕ ((Int32))) :=
  if x2 ≤ x5 then (some (.inr x4))
  else if x2 ≤ x1 then (some (.inr x4))
  else bd (f_X5_has x3 (((4 : Int32) * x0) + x5)) fun r_4 =>
  if r_4 = 0 then (f_X5_longestFrom_j47 N rc x0 x1 x2 x3 x4 x5)
  else bd (rc x5 (x1 + (1 : Int32)) x2 x3) fun r_7 =>
  nm (if x4 < r_7 then r_7 else x4) fun x4_9 =>
  f_X5_longestFrom_j47 N rc x0 x1 x2 x3 x4_9 x5
def f_X5_longestFrom_g (N : Nat) (rc : Int32 → Int32 → Int32 → Int32 → Option Int32) (x0 : Int32) (x1 : Int32) (x2 : Int32) (x3 : Int32) : Option Int32 :=
  bd (lpF (fun s => f_X5_longestFrom_b6 N rc x0 x1 x2 x3 s.1 s.2) N (x1, (0 : Int32))) (fun o => f_X5_longestFrom_j53 N rc o)
def f_X5_longestFrom (N : Nat) : Nat → Int32 → Int32 → Int32 → Int32 → Option Int32
  | 0 => fun _ _ _ _ => none
  | k + 1 => f_X5_longestFrom_g N (f_X5_longestFrom N k)
set_option maxRecDepth 100000 in
set_option maxHeartbeats 4000000 in
theorem c_X5_longestFrom (l : Launch) (N : Nat) : ∀ (dk : Nat) (x0 : Int32) (x1 : Int32) (x2 : Int32) (x3 : Int32) (r : Int32) (hf : f_X5_longestFrom N dk x0 x1 x2 x3 = some r), MetS l yX5_longestFrom cX5_longestFrom 6 (some .int) (rrF dk) [.int x0, .int x1, .int x2, .int x3] r := by
  intro dk
  induction dk with
  | zero => intro x0 x1 x2 x3 r hf; cases hf
  | succ dk hrc =>
  intro x0 x1 x2 x3 r hf
  have hf : f_X5_longestFrom_g N (f_X5_longestFrom N dk) x0 x1 x2 x3 = some r := hf
  generalize f_X5_longestFrom N dk = rc at hf hrc
  refine mkS (by decide) (Nat.le_of_ble_eq_true rfl) rfl ?_
  intro p e s m args below meth cd Q ls h0 hK hret hl
  obtain ⟨S, hr, hlk⟩ := h0
  obtain ⟨hx, hb, hml, hown, ht⟩ := id S
  have hl : lv_has ls 6 [(0, .int x0), (1, .int x1), (2, .int x2), (3, .int x3)] := hl
  have hf := obs hf
  have j53 : ∀ (x4 : Int32) (ls : Array Slot), lv_has ls 6 [(4, .int x4)] → Option.bind (f_X5_longestFrom_j53 N rc x4) some = some r → W p l e (rrF (dk + 1)) s m args below meth cd s.heap [] 0 0 Q (F0 m 53 ls []) := by
    intro x4 ls hl hf
    have hf := oun (f_X5_longestFrom_j53.eq_1 _ _ _) hf
    refine lv_iload hx hb dX5_longestFrom_53 (lv_at hl 0 rfl) ?_
    exact hret _ _ _ dX5_longestFrom_55 rfl (Option.some.inj hf)
  have L6 : ∀ (x0 : Int32) (x1 : Int32) (x2 : Int32) (x3 : Int32) (k : Nat) (x4 : Int32) (x5 : Int32) (ls : Array Slot), lv_has ls 6 [(0, .int x0), (1, .int x1), (2, .int x2), (3, .int x3), (4, .int x4), (5, .int x5)] → Option.bind (bd (lpF (fun s => f_X5_longestFrom_b6 N rc x0 x1 x2 x3 s.1 s.2) k (x4, x5)) (fun o => f_X5_longestFrom_j53 N rc o)) some = some r → W p l e (rrF (dk + 1)) s m args below meth cd s.heap [] 0 0 Q (F0 m 6 ls []) := by
    intro x0 x1 x2 x3 k
    induction k with
    | zero =>
      intro x4 x5 ls hl hf
      exact (ol0 hf).elim
    | succ k ih =>
      intro x4 x5 ls hl hf
      obtain ⟨K6, hf, hc6, hx6⟩ := ol1 hf
      have j47 : ∀ (x4 : Int32) (x5 : Int32) (ls : Array Slot), lv_has ls 6 [(0, .int x0), (1, .int x1), (2, .int x2), (3, .int x3), (4, .int x4), (5, .int x5)] → Option.bind (f_X5_longestFrom_j47 N rc x0 x1 x2 x3 x4 x5) K6 = some r → W p l e (rrF (dk + 1)) s m args below meth cd s.heap [] 0 0 Q (F0 m 47 ls []) := by
        intro x4 x5 ls hl hf
        have hf := oun (f_X5_longestFrom_j47.eq_1 _ _ _ _ _ _ _ _) hf
        obtain ⟨x5_1, ex5_1, hf⟩ := onm hf
        refine lv_iinc (v := x5_1) (lv' := [(5, .int x5_1), (0, .int x0), (1, .int x1), (2, .int x2), (3, .int x3), (4, .int x4)]) hx hb dX5_longestFrom_47 hl (k := 5) rfl ex5_1 (by decide) rfl (fun ls hl => ?_)
        refine lv_goto (tgt := 6) hx hb dX5_longestFrom_50 (by decide) ?_
        exact ih x4 x5_1 _ (lv_sub hl [1, 2, 3, 4, 5, 0] rfl) (okx hf (hc6 _))
      have hf := oun (f_X5_longestFrom_b6.eq_1 N rc x0 x1 x2 x3 x4 x5) hf
      refine lv_iload hx hb dX5_longestFrom_6 (lv_at hl 5 rfl) ?_
      refine lv_iload_n hx hb dX5_longestFrom_8 rfl (lv_at hl 2 rfl) ?_
      refine lv_icmp_ge (tgt := 53) hx hb dX5_longestFrom_9 (by decide) (fun c_2 => ?_) (fun c_2 => ?_)
      · have hf := oit c_2 hf
        exact j53 x4 _ (lv_sub hl [4] rfl) (okx hf (hx6 _))
      have hf := oif c_2 hf
      refine lv_iload_n hx hb dX5_longestFrom_12 rfl (lv_at hl 1 rfl) ?_
      refine lv_iload_n hx hb dX5_longestFrom_13 rfl (lv_at hl 2 rfl) ?_
      refine lv_icmp_ge (tgt := 53) hx hb dX5_longestFrom_14 (by decide) (fun c_3 => ?_) (fun c_3 => ?_)
      · have hf := oit c_3 hf
        exact j53 x4 _ (lv_sub hl [4] rfl) (okx hf (hx6 _))
      have hf := oif c_3 hf
      refine lv_iload_n hx hb dX5_longestFrom_17 rfl (lv_at hl 3 rfl) ?_
      refine lv_iconst (v := (4 : Int32)) hx hb dX5_longestFrom_18 (by decide) ?_
      refine lv_iload_n hx hb dX5_longestFrom_19 rfl (lv_at hl 0 rfl) ?_
      refine lv_imul hx hb dX5_longestFrom_20 ?_
      refine lv_iload hx hb dX5_longestFrom_21 (lv_at hl 5 rfl) ?_
      refine lv_iadd hx hb dX5_longestFrom_23 ?_
      obtain ⟨r_4, h_5, hf⟩ := obd hf
      refine xs_S (As := [.int x3, .int (((4 : Int32) * x0) + x5)]) (rest := []) S k_X5_has q214 q202 ⟨rr_a (f := 0) (by omega), rr_b (x := 8 + (2 + 11) + (0)) (by omega)⟩ ⟨rfl, rfl⟩ (c_X5_has l x3 (((4 : Int32) * x0) + x5) r_4 h_5) hK rfl hl.1 rfl (Nat.le_of_ble_eq_true rfl) dX5_longestFrom_24 ⟨Nat.zero_le _, Nat.zero_le _⟩ ?_
      refine lv_if_eq (tgt := 47) hx hb dX5_longestFrom_27 (by decide) (fun c_6 => ?_) (fun c_6 => ?_)
      · have hf := oit c_6 hf
        exact j47 x4 x5 _ (lv_sub hl [0, 1, 2, 3, 4, 5] rfl) hf
      have hf := oif c_6 hf
      refine lv_iload hx hb dX5_longestFrom_30 (lv_at hl 4 rfl) ?_
      refine lv_iload hx hb dX5_longestFrom_32 (lv_at hl 5 rfl) ?_
      refine lv_iload_n hx hb dX5_longestFrom_34 rfl (lv_at hl 1 rfl) ?_
      refine lv_iconst (v := (1 : Int32)) hx hb dX5_longestFrom_35 (by decide) ?_
      refine lv_iadd hx hb dX5_longestFrom_36 ?_
      refine lv_iload_n hx hb dX5_longestFrom_37 rfl (lv_at hl 2 rfl) ?_
      refine lv_iload_n hx hb dX5_longestFrom_38 rfl (lv_at hl 3 rfl) ?_
      obtain ⟨r_7, h_8, hf⟩ := obd hf
      refine xs_S (As := [.int x5, .int (x1 + (1 : Int32)), .int x2, .int x3]) (rest := [.int x4]) S k_X5_longestFrom q537 q538 ⟨rr_a (f := dk) (by omega), rr_b (x := 8 + (6 + 11) + (60 * (dk) + 60)) (by omega)⟩ ⟨rfl, rfl⟩ (hrc x5 (x1 + (1 : Int32)) x2 x3 r_7 h_8) hK rfl hl.1 rfl (Nat.le_of_ble_eq_true rfl) dX5_longestFrom_39 ⟨Nat.zero_le _, Nat.zero_le _⟩ ?_
      refine va_mmax hx hb (hml.trans hl.1.symm) hown (ht _ q536) (ht _ q396) (ht _ q124) (ht _ q397) (by exact rr_a (f := 0) (by omega)) (by exact rr_b (x := 0 + 13) (by omega)) (Nat.zero_le _) (Nat.zero_le _) dX5_longestFrom_42 ?_
      obtain ⟨x4_9, ex4_9, hf⟩ := onm hf
      refine lv_nm ex4_9 ?_
      refine lv_istore (lv' := [(4, .int x4_9), (0, .int x0), (1, .int x1), (2, .int x2), (3, .int x3), (5, .int x5)]) hx hb dX5_longestFrom_45 hl (by decide) rfl (fun ls hl => ?_)
      exact j47 x4_9 x5 _ (lv_sub hl [1, 2, 3, 4, 0, 5] rfl) hf
  have hf := oun (f_X5_longestFrom_g.eq_1 _ _ _ _ _ _) hf
  refine lv_iload_n hx hb dX5_longestFrom_0 rfl (lv_at hl 1 rfl) ?_
  refine lv_istore (lv' := [(4, .int x1), (0, .int x0), (1, .int x1), (2, .int x2), (3, .int x3)]) hx hb dX5_longestFrom_1 hl (by decide) rfl (fun ls hl => ?_)
  refine lv_iconst (v := (0 : Int32)) hx hb dX5_longestFrom_3 (by decide) ?_
  refine lv_istore (lv' := [(5, .int (0 : Int32)), (4, .int x1), (0, .int x0), (1, .int x1), (2, .int x2), (3, .int x3)]) hx hb dX5_longestFrom_4 hl (by decide) rfl (fun ls hl => ?_)
  exact L6 x0 x1 x2 x3 N x1 (0 : Int32) _ (lv_sub hl [2, 3, 4, 5, 1, 0] rfl) hf
theorem dX5_commonDivisor_0 : decode cX5_commonDivisor 0 = .ok (.iload_n 1, 1) := by decide +kernel
theorem dX5_commonDivisor_1 : decode cX5_commonDivisor 1 = .ok (.istore_n 2, 1) := by decide +kernel
theorem dX5_commonDivisor_2 : decode cX5_commonDivisor 2 = .ok (.iload_n 2, 1) := by decide +kernel
theorem dX5_commonDivisor_3 : decode cX5_commonDivisor 3 = .ok (.iconst 1, 1) := by decide +kernel
theorem dX5_commonDivisor_4 : decode cX5_commonDivisor 4 = .ok (.if_icmp .le 23, 3) := by decide +kernel
theorem dX5_commonDivisor_7 : decode cX5_commonDivisor 7 = .ok (.iload_n 0, 1) := by decide +kernel
theorem dX5_commonDivisor_8 : decode cX5_commonDivisor 8 = .ok (.iload_n 2, 1) := by decide +kernel
theorem dX5_commonDivisor_9 : decode cX5_commonDivisor 9 = .ok (.irem, 1) := by decide +kernel
theorem dX5_commonDivisor_10 : decode cX5_commonDivisor 10 = .ok (.ifCond .ne 11, 3) := by decide +kernel
theorem dX5_commonDivisor_13 : decode cX5_commonDivisor 13 = .ok (.iload_n 1, 1) := by decide +kernel
theorem dX5_commonDivisor_14 : decode cX5_commonDivisor 14 = .ok (.iload_n 2, 1) := by decide +kernel
theorem dX5_commonDivisor_15 : decode cX5_commonDivisor 15 = .ok (.irem, 1) := by decide +kernel
theorem dX5_commonDivisor_16 : decode cX5_commonDivisor 16 = .ok (.ifCond .ne 5, 3) := by decide +kernel
theorem dX5_commonDivisor_19 : decode cX5_commonDivisor 19 = .ok (.iload_n 2, 1) := by decide +kernel
theorem dX5_commonDivisor_20 : decode cX5_commonDivisor 20 = .ok (.ireturn, 1) := by decide +kernel
theorem dX5_commonDivisor_21 : decode cX5_commonDivisor 21 = .ok (.iinc 2 (-1), 3) := by decide +kernel
theorem dX5_commonDivisor_24 : decode cX5_commonDivisor 24 = .ok (.goto (-22), 3) := by decide +kernel
theorem dX5_commonDivisor_27 : decode cX5_commonDivisor 27 = .ok (.iconst 1, 1) := by decide +kernel
theorem dX5_commonDivisor_28 : decode cX5_commonDivisor 28 = .ok (.ireturn, 1) := by decide +kernel
def f_X5_commonDivisor_j27 (N : Nat) : Option Int32 :=
  some (1 : Int32)
def f_X5_commonDivisor_j21 (N : Nat) (x0 : Int32) (x1 : Int32) (x2 : Int32) : Option ((Int32) ⊕ (Int32 ⊕ (Unit))) :=
  nm (x2 + (-1 : Int32)) fun x2_1 =>
  some (.inl x2_1)
def f_X5_commonDivisor_b2 (N : Nat) (x0 : Int32) (x1 : Int32) (x2 : Int32) : Option ((Int32) ⊕ (Int32 ⊕ (Unit))) :=
  if x2 ≤ (1 : Int32) then (some (.inr (.inr ())))
  else gd (decide (¬ x2 = 0)) <|
  if (x0 - x0 / x2 * x2) = 0 then (gd (decide (¬ x2 = 0)) <|
    if (x1 - x1 / x2 * x2) = 0 then (some (.inr (.inl x2)))
    else f_X5_commonDivisor_j21 N x0 x1 x2)
  else f_X5_commonDivisor_j21 N x0 x1 x2
def f_X5_commonDivisor (N : Nat) (x0 : Int32) (x1 : Int32) : Option Int32 :=
  bd (lpF (fun s => f_X5_commonDivisor_b2 N x0 x1 s) N x1) (Sum.elim (fun v => some v) (fun o => f_X5_commonDivisor_j27 N))
abbrev rmX5_commonDivisor : Room := { frames := 0, cells := 0, slots := 0, locals := 0 }
set_option maxRecDepth 100000 in
set_option maxHeartbeats 4000000 in
theorem c_X5_commonDivisor (l : Launch) (N : Nat) (x0 : Int32) (x1 : Int32) (r : Int32) (hf : f_X5_commonDivisor N x0 x1 = some r) : MetS l yX5_commonDivisor cX5_commonDivisor 3 (some .int) rmX5_commonDivisor [.int x0, .int x1] r := by
  refine mkS (by decide) (Nat.le_of_ble_eq_true rfl) rfl ?_
  intro p e s m args below meth cd Q ls h0 hK hret hl
  obtain ⟨S, hr, hlk⟩ := h0
  obtain ⟨hx, hb, hml, hown, ht⟩ := id S
  have hl : lv_has ls 3 [(0, .int x0), (1, .int x1)] := hl
  have hf := obs hf
  have j27 : ∀ (ls : Array Slot), lv_has ls 3 [] → Option.bind (f_X5_commonDivisor_j27 N) some = some r → W p l e rmX5_commonDivisor s m args below meth cd s.heap [] 0 0 Q (F0 m 27 ls []) := by
    intro ls hl hf
    have hf := oun (f_X5_commonDivisor_j27.eq_1 _) hf
    refine lv_iconst (v := (1 : Int32)) hx hb dX5_commonDivisor_27 (by decide) ?_
    exact hret _ _ _ dX5_commonDivisor_28 rfl (Option.some.inj hf)
  have L2 : ∀ (x0 : Int32) (x1 : Int32) (k : Nat) (x2 : Int32) (ls : Array Slot), lv_has ls 3 [(0, .int x0), (1, .int x1), (2, .int x2)] → Option.bind (bd (lpF (fun s => f_X5_commonDivisor_b2 N x0 x1 s) k x2) (Sum.elim (fun v => some v) (fun o => f_X5_commonDivisor_j27 N))) some = some r → W p l e rmX5_commonDivisor s m args below meth cd s.heap [] 0 0 Q (F0 m 2 ls []) := by
    intro x0 x1 k
    induction k with
    | zero =>
      intro x2 ls hl hf
      exact (ol0 hf).elim
    | succ k ih =>
      intro x2 ls hl hf
      obtain ⟨K2, hf, hc2, hx2⟩ := ol1 hf
      have j21 : ∀ (x2 : Int32) (ls : Array Slot), lv_has ls 3 [(0, .int x0), (1, .int x1), (2, .int x2)] → Option.bind (f_X5_commonDivisor_j21 N x0 x1 x2) K2 = some r → W p l e rmX5_commonDivisor s m args below meth cd s.heap [] 0 0 Q (F0 m 21 ls []) := by
        intro x2 ls hl hf
        have hf := oun (f_X5_commonDivisor_j21.eq_1 _ _ _ _) hf
        obtain ⟨x2_1, ex2_1, hf⟩ := onm hf
        refine lv_iinc (v := x2_1) (lv' := [(2, .int x2_1), (0, .int x0), (1, .int x1)]) hx hb dX5_commonDivisor_21 hl (k := 2) rfl ex2_1 (by decide) rfl (fun ls hl => ?_)
        refine lv_goto (tgt := 2) hx hb dX5_commonDivisor_24 (by decide) ?_
        exact ih x2_1 _ (lv_sub hl [1, 2, 0] rfl) (okx hf (hc2 _))
      have hf := oun (f_X5_commonDivisor_b2.eq_1 N x0 x1 x2) hf
      refine lv_iload_n hx hb dX5_commonDivisor_2 rfl (lv_at hl 2 rfl) ?_
      refine lv_iconst (v := (1 : Int32)) hx hb dX5_commonDivisor_3 (by decide) ?_
      refine lv_icmp_le (tgt := 27) hx hb dX5_commonDivisor_4 (by decide) (fun c_2 => ?_) (fun c_2 => ?_)
      · have hf := oit c_2 hf
        exact j27 _ (lv_sub hl [] rfl) (okx hf (hx2 _))
      have hf := oif c_2 hf
      refine lv_iload_n hx hb dX5_commonDivisor_7 rfl (lv_at hl 0 rfl) ?_
      refine lv_iload_n hx hb dX5_commonDivisor_8 rfl (lv_at hl 2 rfl) ?_
      obtain ⟨g_3, hf⟩ := ogd hf
      refine lv_irem hx hb dX5_commonDivisor_9 (of_decide_eq_true g_3) ?_
      refine lv_if_ne (tgt := 21) hx hb dX5_commonDivisor_10 (by decide) (fun c_4 => ?_) (fun c_4 => ?_)
      · have hf := oif c_4 hf
        exact j21 x2 _ (lv_sub hl [0, 1, 2] rfl) hf
      have hf := oit c_4 hf
      refine lv_iload_n hx hb dX5_commonDivisor_13 rfl (lv_at hl 1 rfl) ?_
      refine lv_iload_n hx hb dX5_commonDivisor_14 rfl (lv_at hl 2 rfl) ?_
      obtain ⟨g_5, hf⟩ := ogd hf
      refine lv_irem hx hb dX5_commonDivisor_15 (of_decide_eq_true g_5) ?_
      refine lv_if_ne (tgt := 21) hx hb dX5_commonDivisor_16 (by decide) (fun c_6 => ?_) (fun c_6 => ?_)
      · have hf := oif c_6 hf
        exact j21 x2 _ (lv_sub hl [0, 1, 2] rfl) hf
      have hf := oit c_6 hf
      refine lv_iload_n hx hb dX5_commonDivisor_19 rfl (lv_at hl 2 rfl) ?_
      have hf := okx hf (hx2 _)
      exact hret _ _ _ dX5_commonDivisor_20 rfl (Option.some.inj hf)
  have hf := oun (f_X5_commonDivisor.eq_1 _ _ _) hf
  refine lv_iload_n hx hb dX5_commonDivisor_0 rfl (lv_at hl 1 rfl) ?_
  refine lv_istore_n (lv' := [(2, .int x1), (0, .int x0), (1, .int x1)]) hx hb dX5_commonDivisor_1 rfl hl (by decide) rfl (fun ls hl => ?_)
  exact L2 x0 x1 N x1 _ (lv_sub hl [1, 2, 0] rfl) hf
theorem dX6_inLeastTerms_0 : decode cX6_inLeastTerms 0 = .ok (.lload_n 0, 1) := by decide +kernel
theorem dX6_inLeastTerms_1 : decode cX6_inLeastTerms 1 = .ok (.lstore 5, 2) := by decide +kernel
theorem dX6_inLeastTerms_3 : decode cX6_inLeastTerms 3 = .ok (.lload_n 2, 1) := by decide +kernel
theorem dX6_inLeastTerms_4 : decode cX6_inLeastTerms 4 = .ok (.lstore 7, 2) := by decide +kernel
theorem dX6_inLeastTerms_6 : decode cX6_inLeastTerms 6 = .ok (.lload 7, 2) := by decide +kernel
theorem dX6_inLeastTerms_8 : decode cX6_inLeastTerms 8 = .ok (.lconst 0, 1) := by decide +kernel
theorem dX6_inLeastTerms_9 : decode cX6_inLeastTerms 9 = .ok (.lcmp, 1) := by decide +kernel
theorem dX6_inLeastTerms_10 : decode cX6_inLeastTerms 10 = .ok (.ifCond .eq 21, 3) := by decide +kernel
theorem dX6_inLeastTerms_13 : decode cX6_inLeastTerms 13 = .ok (.lload 5, 2) := by decide +kernel
theorem dX6_inLeastTerms_15 : decode cX6_inLeastTerms 15 = .ok (.lload 7, 2) := by decide +kernel
theorem dX6_inLeastTerms_17 : decode cX6_inLeastTerms 17 = .ok (.lrem, 1) := by decide +kernel
theorem dX6_inLeastTerms_18 : decode cX6_inLeastTerms 18 = .ok (.lstore 9, 2) := by decide +kernel
theorem dX6_inLeastTerms_20 : decode cX6_inLeastTerms 20 = .ok (.lload 7, 2) := by decide +kernel
theorem dX6_inLeastTerms_22 : decode cX6_inLeastTerms 22 = .ok (.lstore 5, 2) := by decide +kernel
theorem dX6_inLeastTerms_24 : decode cX6_inLeastTerms 24 = .ok (.lload 9, 2) := by decide +kernel
theorem dX6_inLeastTerms_26 : decode cX6_inLeastTerms 26 = .ok (.lstore 7, 2) := by decide +kernel
theorem dX6_inLeastTerms_28 : decode cX6_inLeastTerms 28 = .ok (.goto (-22), 3) := by decide +kernel
theorem dX6_inLeastTerms_31 : decode cX6_inLeastTerms 31 = .ok (.iload 4, 2) := by decide +kernel
theorem dX6_inLeastTerms_33 : decode cX6_inLeastTerms 33 = .ok (.ifCond .ne 10, 3) := by decide +kernel
theorem dX6_inLeastTerms_36 : decode cX6_inLeastTerms 36 = .ok (.lload_n 0, 1) := by decide +kernel
theorem dX6_inLeastTerms_37 : decode cX6_inLeastTerms 37 = .ok (.lload 5, 2) := by decide +kernel
theorem dX6_inLeastTerms_39 : decode cX6_inLeastTerms 39 = .ok (.ldiv, 1) := by decide +kernel
theorem dX6_inLeastTerms_40 : decode cX6_inLeastTerms 40 = .ok (.goto 7, 3) := by decide +kernel
theorem dX6_inLeastTerms_43 : decode cX6_inLeastTerms 43 = .ok (.lload_n 2, 1) := by decide +kernel
theorem dX6_inLeastTerms_44 : decode cX6_inLeastTerms 44 = .ok (.lload 5, 2) := by decide +kernel
theorem dX6_inLeastTerms_46 : decode cX6_inLeastTerms 46 = .ok (.ldiv, 1) := by decide +kernel
theorem dX6_inLeastTerms_47 : decode cX6_inLeastTerms 47 = .ok (.lreturn, 1) := by decide +kernel
def f_X6_inLeastTerms_j31 (N : Nat) (x0 : Int64) (x2 : Int64) (x4 : Int32) (x5 : Int64) : Option Int64 :=
  if x4 = 0 then (gd (decide (¬ x5 = 0)) <|
    some (x0 / x5))
  else gd (decide (¬ x5 = 0)) <|
    some (x2 / x5)
def f_X6_inLeastTerms_b6 (N : Nat) (x0 : Int64) (x2 : Int64) (x4 : Int32) (x5 : Int64) (x7 : Int64) : Option ((Int64 × Int64) ⊕ ((Int64))) :=
  if (lg_cmp x7 (0 : Int64)) = 0 then (some (.inr x5))
  else gd (decide (¬ x7 = 0)) <|
  nm (x5 - x5 / x7 * x7) fun x9_6 =>
  some (.inl (x7, x9_6))
def f_X6_inLeastTerms (N : Nat) (x0 : Int64) (x2 : Int64) (x4 : Int32) : Option Int64 :=
  bd (lpF (fun s => f_X6_inLeastTerms_b6 N x0 x2 x4 s.1 s.2) N (x0, x2)) (fun o => f_X6_inLeastTerms_j31 N x0 x2 x4 o)
abbrev rmX6_inLeastTerms : Room := { frames := 0, cells := 0, slots := 0, locals := 0 }
set_option maxRecDepth 100000 in
set_option maxHeartbeats 4000000 in
theorem c_X6_inLeastTerms (l : Launch) (N : Nat) (x0 : Int64) (x2 : Int64) (x4 : Int32) (r : Int64) (hf : f_X6_inLeastTerms N x0 x2 x4 = some r) : MetSl l yX6_inLeastTerms cX6_inLeastTerms 11 (some .long) rmX6_inLeastTerms [.long x0, .long x2, .int x4] r := by
  refine mkSl (by decide) (Nat.le_of_ble_eq_true rfl) rfl ?_
  intro p e s m args below meth cd Q ls h0 hK hret hl
  obtain ⟨S, hr, hlk⟩ := h0
  obtain ⟨hx, hb, hml, hown, ht⟩ := id S
  have hl : lv_has ls 11 [(0, .long x0), (2, .long x2), (4, .int x4)] := hl
  have hf := obs hf
  have j31 : ∀ (x0 : Int64) (x2 : Int64) (x4 : Int32) (x5 : Int64) (ls : Array Slot), lv_has ls 11 [(0, .long x0), (2, .long x2), (4, .int x4), (5, .long x5)] → Option.bind (f_X6_inLeastTerms_j31 N x0 x2 x4 x5) some = some r → W p l e rmX6_inLeastTerms s m args below meth cd s.heap [] 0 0 Q (F0 m 31 ls []) := by
    intro x0 x2 x4 x5 ls hl hf
    have hf := oun (f_X6_inLeastTerms_j31.eq_1 _ _ _ _ _) hf
    refine lv_iload hx hb dX6_inLeastTerms_31 (lv_at hl 2 rfl) ?_
    refine lv_if_ne (tgt := 43) hx hb dX6_inLeastTerms_33 (by decide) (fun c_1 => ?_) (fun c_1 => ?_)
    · have hf := oif c_1 hf
      refine lv_lload_n hx hb dX6_inLeastTerms_43 rfl (lv_at hl 1 rfl) ?_
      refine lv_lload hx hb dX6_inLeastTerms_44 (lv_at hl 3 rfl) ?_
      obtain ⟨g_2, hf⟩ := ogd hf
      refine lv_ldiv hx hb dX6_inLeastTerms_46 (of_decide_eq_true g_2) ?_
      exact hret _ _ _ dX6_inLeastTerms_47 (Option.some.inj hf)
    have hf := oit c_1 hf
    refine lv_lload_n hx hb dX6_inLeastTerms_36 rfl (lv_at hl 0 rfl) ?_
    refine lv_lload hx hb dX6_inLeastTerms_37 (lv_at hl 3 rfl) ?_
    obtain ⟨g_3, hf⟩ := ogd hf
    refine lv_ldiv hx hb dX6_inLeastTerms_39 (of_decide_eq_true g_3) ?_
    refine lv_goto (tgt := 47) hx hb dX6_inLeastTerms_40 (by decide) ?_
    exact hret _ _ _ dX6_inLeastTerms_47 (Option.some.inj hf)
  have L6 : ∀ (x0 : Int64) (x2 : Int64) (x4 : Int32) (k : Nat) (x5 : Int64) (x7 : Int64) (ls : Array Slot), lv_has ls 11 [(0, .long x0), (2, .long x2), (4, .int x4), (5, .long x5), (7, .long x7)] → Option.bind (bd (lpF (fun s => f_X6_inLeastTerms_b6 N x0 x2 x4 s.1 s.2) k (x5, x7)) (fun o => f_X6_inLeastTerms_j31 N x0 x2 x4 o)) some = some r → W p l e rmX6_inLeastTerms s m args below meth cd s.heap [] 0 0 Q (F0 m 6 ls []) := by
    intro x0 x2 x4 k
    induction k with
    | zero =>
      intro x5 x7 ls hl hf
      exact (ol0 hf).elim
    | succ k ih =>
      intro x5 x7 ls hl hf
      obtain ⟨K6, hf, hc6, hx6⟩ := ol1 hf
      have hf := oun (f_X6_inLeastTerms_b6.eq_1 N x0 x2 x4 x5 x7) hf
      refine lv_lload hx hb dX6_inLeastTerms_6 (lv_at hl 4 rfl) ?_
      refine lv_lconst (v := (0 : Int64)) hx hb dX6_inLeastTerms_8 (by decide) ?_
      refine W.lcmp hx hb dX6_inLeastTerms_9 ?_
      refine lv_if_eq (tgt := 31) hx hb dX6_inLeastTerms_10 (by decide) (fun c_4 => ?_) (fun c_4 => ?_)
      · have hf := oit c_4 hf
        exact j31 x0 x2 x4 x5 _ (lv_sub hl [0, 1, 2, 3] rfl) (okx hf (hx6 _))
      have hf := oif c_4 hf
      refine lv_lload hx hb dX6_inLeastTerms_13 (lv_at hl 3 rfl) ?_
      refine lv_lload hx hb dX6_inLeastTerms_15 (lv_at hl 4 rfl) ?_
      obtain ⟨g_5, hf⟩ := ogd hf
      refine lv_lrem hx hb dX6_inLeastTerms_17 (of_decide_eq_true g_5) ?_
      obtain ⟨x9_6, ex9_6, hf⟩ := onm hf
      refine lv_nml ex9_6 ?_
      refine lv_lstore (lv' := [(9, .long x9_6), (0, .long x0), (2, .long x2), (4, .int x4), (5, .long x5), (7, .long x7)]) hx hb dX6_inLeastTerms_18 hl (by decide) rfl (fun ls hl => ?_)
      refine lv_lload hx hb dX6_inLeastTerms_20 (lv_at hl 5 rfl) ?_
      refine lv_lstore (lv' := [(5, .long x7), (9, .long x9_6), (0, .long x0), (2, .long x2), (4, .int x4), (7, .long x7)]) hx hb dX6_inLeastTerms_22 hl (by decide) rfl (fun ls hl => ?_)
      refine lv_lload hx hb dX6_inLeastTerms_24 (lv_at hl 1 rfl) ?_
      refine lv_lstore (lv' := [(7, .long x9_6), (5, .long x7), (9, .long x9_6), (0, .long x0), (2, .long x2), (4, .int x4)]) hx hb dX6_inLeastTerms_26 hl (by decide) rfl (fun ls hl => ?_)
      refine lv_goto (tgt := 6) hx hb dX6_inLeastTerms_28 (by decide) ?_
      exact ih x7 x9_6 _ (lv_sub hl [3, 4, 5, 1, 0] rfl) (okx hf (hc6 _))
  have hf := oun (f_X6_inLeastTerms.eq_1 _ _ _ _) hf
  refine lv_lload_n hx hb dX6_inLeastTerms_0 rfl (lv_at hl 0 rfl) ?_
  refine lv_lstore (lv' := [(5, .long x0), (0, .long x0), (2, .long x2), (4, .int x4)]) hx hb dX6_inLeastTerms_1 hl (by decide) rfl (fun ls hl => ?_)
  refine lv_lload_n hx hb dX6_inLeastTerms_3 rfl (lv_at hl 2 rfl) ?_
  refine lv_lstore (lv' := [(7, .long x2), (5, .long x0), (0, .long x0), (2, .long x2), (4, .int x4)]) hx hb dX6_inLeastTerms_4 hl (by decide) rfl (fun ls hl => ?_)
  exact L6 x0 x2 x4 N x0 x2 _ (lv_sub hl [2, 3, 4, 1, 0] rfl) hf
