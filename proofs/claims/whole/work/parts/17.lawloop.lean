set_option maxRecDepth 100000 in
set_option maxHeartbeats 8000000 in
theorem law_loop {p : Program} {l : Launch} {e : Env} {s : State} {m : MethodId} {below : List Frame} {meth : Method} {cd : Code} {D : va_G} {a b : Nat → Nat} {c : Nat → ClassId} {bs L : Nat} {xs : Nat → Int32} (C0 : lw_At p s m meth cd bs L xs) (hK : KK D c s) {N : Nat} {R : St → St → Prop} (hsim : Sims N R) (hL : L ≤ 3072) : ∀ (k i : Nat), L + 1 ≤ i + 6 * k + 6 → i < 4000 → ∀ (σ τ : St) (H : Heap) (locs : List Loc) (ls : Array Slot), R σ τ → lv_has ls 4 [(3, .int (nI i)), (2, .ref (b 0)), (1, .ref (a 0)), (0, .ref bs)] → va_P D vwCl (cW a c σ ++ mW b c τ) H → va_D (fun q : Nat => s.heap.size ≤ q) (cW a c σ ++ mW b c τ) → va_S (fun q : Nat => s.heap.size ≤ q) s.heap H locs → W p l e room_1 s m #[Value.ref bs] below meth cd H locs 42 49418 (lw_Z below #[Value.ref bs] s) (F0 m 18 ls []) := by
  obtain ⟨hx, hb, hr, hml, hown, hts, hX, hbl, hlocks, hgv⟩ := id C0
  have hbA : ¬ (fun q : Nat => s.heap.size ≤ q) bs := Nat.not_le.mpr hbl
  intro k
  induction k with
  | zero =>
    intro i hk hi4 σ τ H locs ls hRl hl hP hD hS
    refine lv_iload_n hx hb dL_law_18 rfl (lv_at hl 0 rfl) ?_
    refine lv_aload_n hx hb dL_law_19 rfl (lv_at hl 3 rfl) ?_
    refine va_slen hx hb hX hbl hbA hS dL_law_20 ?_
    refine lv_bipush (v := (6 : Int32)) hx hb dL_law_21 (by decide) ?_
    refine lv_isub hx hb dL_law_23 ?_
    refine lv_icmp_gt (tgt := 1086) hx hb dL_law_24 (by decide) (fun c1 => ?_) (fun c1 => ?_)
    · refine lv_iconst (v := (1 : Int32)) hx hb dL_law_1086 (by decide) ?_
      refine va_forget (fun q hq => hS.2.2 q hq) ?_
      refine W.widen (k := 600000) (n := 7302250) (Nat.le_of_ble_eq_true rfl) (Nat.le_of_ble_eq_true rfl) ?_
      exact lw_ret hx hb hr hlocks dL_law_1087
    · exact absurd (law_ge (by omega) (by omega) c1) (by omega)
  | succ k ih =>
    intro i hk hi4 σ τ H locs ls hRl hl hP hD hS
    refine lv_iload_n hx hb dL_law_18 rfl (lv_at hl 0 rfl) ?_
    refine lv_aload_n hx hb dL_law_19 rfl (lv_at hl 3 rfl) ?_
    refine va_slen hx hb hX hbl hbA hS dL_law_20 ?_
    refine lv_bipush (v := (6 : Int32)) hx hb dL_law_21 (by decide) ?_
    refine lv_isub hx hb dL_law_23 ?_
    refine lv_icmp_gt (tgt := 1086) hx hb dL_law_24 (by decide) (fun c1 => ?_) (fun c1 => ?_)
    · refine lv_iconst (v := (1 : Int32)) hx hb dL_law_1086 (by decide) ?_
      refine va_forget (fun q hq => hS.2.2 q hq) ?_
      refine W.widen (k := 600000) (n := 7302250) (Nat.le_of_ble_eq_true rfl) (Nat.le_of_ble_eq_true rfl) ?_
      exact lw_ret hx hb hr hlocks dL_law_1087
    have hi : i + 6 ≤ L := law_ge (by omega) (by omega) c1
    have cont : ∀ (σ τ : St) (H : Heap) (locs : List Loc) (ls : Array Slot), R σ τ → lv_has ls 4 [(3, .int (nI i)), (2, .ref (b 0)), (1, .ref (a 0)), (0, .ref bs)] → va_P D vwCl (cW a c σ ++ mW b c τ) H → va_D (fun q : Nat => s.heap.size ≤ q) (cW a c σ ++ mW b c τ) → va_S (fun q : Nat => s.heap.size ≤ q) s.heap H locs → W p l e room_1 s m #[Value.ref bs] below meth cd H locs 42 49418 (lw_Z below #[Value.ref bs] s) (F0 m 1080 ls []) := by
      intro σ τ H locs ls hRl hl hP hD hS
      refine lv_iinc (v := nI (i + 6)) (lv' := [(3, .int (nI (i + 6))), (2, .ref (b 0)), (1, .ref (a 0)), (0, .ref bs)]) hx hb dL_law_1080 hl (k := 0) rfl (law_6 i) (by decide) rfl (fun ls hl => ?_)
      refine lv_goto (tgt := 18) hx hb dL_law_1083 (by decide) ?_
      exact ih (i + 6) (by omega) (by omega) σ τ H locs ls hRl hl hP hD hS
    have h0 : vp_in (nI i) L := vp_in_nI (by omega) (by omega)
    refine lv_aload_n hx hb dL_law_27 rfl (lv_at hl 3 rfl) ?_
    refine lv_iload_n hx hb dL_law_28 rfl (lv_at hl 0 rfl) ?_
    refine va_sld hx hb hX hbl hbA hS h0 dL_law_29 ?_
    refine lv_bipush (v := (31 : Int32)) hx hb dL_law_30 (by decide) ?_
    refine lv_iand hx hb dL_law_32 ?_
    refine lv_topi (fun w ew => ?_)
    obtain ⟨s0, s1, s2, s3, s4, s5, s6, s7, s8, s9, s10, s11, s12, s13, s14, s15, s16, s17, s18, s19, s20, s21, s22, s23, s24, s25, s26, s27, s28, s29⟩ := id hsim
    by_cases c_0 : w = (0 : Int32)
    · refine lv_tableIn (tgt := 168) (off := 135) hx hb dL_law_33 (by rw [c_0]; decide) (by rw [c_0]; decide) (by rw [c_0]; decide) (by decide) ?_
      exact lw_case0 C0 hK s0 hi hL cont σ τ H locs ls hRl hl hP hD hS
    by_cases c_1 : w = (1 : Int32)
    · refine lv_tableIn (tgt := 221) (off := 188) hx hb dL_law_33 (by rw [c_1]; decide) (by rw [c_1]; decide) (by rw [c_1]; decide) (by decide) ?_
      exact lw_case1 C0 hK s1 hi hL cont σ τ H locs ls hRl hl hP hD hS
    by_cases c_2 : w = (2 : Int32)
    · refine lv_tableIn (tgt := 254) (off := 221) hx hb dL_law_33 (by rw [c_2]; decide) (by rw [c_2]; decide) (by rw [c_2]; decide) (by decide) ?_
      exact lw_case2 C0 hK s2 hi hL cont σ τ H locs ls hRl hl hP hD hS
    by_cases c_3 : w = (3 : Int32)
    · refine lv_tableIn (tgt := 287) (off := 254) hx hb dL_law_33 (by rw [c_3]; decide) (by rw [c_3]; decide) (by rw [c_3]; decide) (by decide) ?_
      exact lw_case3 C0 hK s3 hi hL cont σ τ H locs ls hRl hl hP hD hS
    by_cases c_4 : w = (4 : Int32)
    · refine lv_tableIn (tgt := 320) (off := 287) hx hb dL_law_33 (by rw [c_4]; decide) (by rw [c_4]; decide) (by rw [c_4]; decide) (by decide) ?_
      exact lw_case4 C0 hK s4 hi hL cont σ τ H locs ls hRl hl hP hD hS
    by_cases c_5 : w = (5 : Int32)
    · refine lv_tableIn (tgt := 353) (off := 320) hx hb dL_law_33 (by rw [c_5]; decide) (by rw [c_5]; decide) (by rw [c_5]; decide) (by decide) ?_
      exact lw_case5 C0 hK s5 hi hL cont σ τ H locs ls hRl hl hP hD hS
    by_cases c_6 : w = (6 : Int32)
    · refine lv_tableIn (tgt := 376) (off := 343) hx hb dL_law_33 (by rw [c_6]; decide) (by rw [c_6]; decide) (by rw [c_6]; decide) (by decide) ?_
      exact lw_case6 C0 hK s6 hi hL cont σ τ H locs ls hRl hl hP hD hS
    by_cases c_7 : w = (7 : Int32)
    · refine lv_tableIn (tgt := 389) (off := 356) hx hb dL_law_33 (by rw [c_7]; decide) (by rw [c_7]; decide) (by rw [c_7]; decide) (by decide) ?_
      exact lw_case7 C0 hK s7 hi hL cont σ τ H locs ls hRl hl hP hD hS
    by_cases c_8 : w = (8 : Int32)
    · refine lv_tableIn (tgt := 402) (off := 369) hx hb dL_law_33 (by rw [c_8]; decide) (by rw [c_8]; decide) (by rw [c_8]; decide) (by decide) ?_
      exact lw_case8 C0 hK s8 hi hL cont σ τ H locs ls hRl hl hP hD hS
    by_cases c_9 : w = (9 : Int32)
    · refine lv_tableIn (tgt := 465) (off := 432) hx hb dL_law_33 (by rw [c_9]; decide) (by rw [c_9]; decide) (by rw [c_9]; decide) (by decide) ?_
      exact lw_case9 C0 hK s9 hi hL cont σ τ H locs ls hRl hl hP hD hS
    by_cases c_10 : w = (10 : Int32)
    · refine lv_tableIn (tgt := 518) (off := 485) hx hb dL_law_33 (by rw [c_10]; decide) (by rw [c_10]; decide) (by rw [c_10]; decide) (by decide) ?_
      exact lw_case10 C0 hK s10 hi hL cont σ τ H locs ls hRl hl hP hD hS
    by_cases c_11 : w = (11 : Int32)
    · refine lv_tableIn (tgt := 541) (off := 508) hx hb dL_law_33 (by rw [c_11]; decide) (by rw [c_11]; decide) (by rw [c_11]; decide) (by decide) ?_
      exact lw_case11 C0 hK s11 hi hL cont σ τ H locs ls hRl hl hP hD hS
    by_cases c_12 : w = (12 : Int32)
    · refine lv_tableIn (tgt := 564) (off := 531) hx hb dL_law_33 (by rw [c_12]; decide) (by rw [c_12]; decide) (by rw [c_12]; decide) (by decide) ?_
      exact lw_case12 C0 hK s12 hi hL cont σ τ H locs ls hRl hl hP hD hS
    by_cases c_13 : w = (13 : Int32)
    · refine lv_tableIn (tgt := 577) (off := 544) hx hb dL_law_33 (by rw [c_13]; decide) (by rw [c_13]; decide) (by rw [c_13]; decide) (by decide) ?_
      exact lw_case13 C0 hK s13 hi hL cont σ τ H locs ls hRl hl hP hD hS
    by_cases c_14 : w = (14 : Int32)
    · refine lv_tableIn (tgt := 620) (off := 587) hx hb dL_law_33 (by rw [c_14]; decide) (by rw [c_14]; decide) (by rw [c_14]; decide) (by decide) ?_
      exact lw_case14 C0 hK s14 hi hL cont σ τ H locs ls hRl hl hP hD hS
    by_cases c_15 : w = (15 : Int32)
    · refine lv_tableIn (tgt := 643) (off := 610) hx hb dL_law_33 (by rw [c_15]; decide) (by rw [c_15]; decide) (by rw [c_15]; decide) (by decide) ?_
      exact lw_case15 C0 hK s15 hi hL cont σ τ H locs ls hRl hl hP hD hS
    by_cases c_16 : w = (16 : Int32)
    · refine lv_tableIn (tgt := 666) (off := 633) hx hb dL_law_33 (by rw [c_16]; decide) (by rw [c_16]; decide) (by rw [c_16]; decide) (by decide) ?_
      exact lw_case16 C0 hK s16 hi hL cont σ τ H locs ls hRl hl hP hD hS
    by_cases c_17 : w = (17 : Int32)
    · refine lv_tableIn (tgt := 689) (off := 656) hx hb dL_law_33 (by rw [c_17]; decide) (by rw [c_17]; decide) (by rw [c_17]; decide) (by decide) ?_
      exact lw_case17 C0 hK s17 hi hL cont σ τ H locs ls hRl hl hP hD hS
    by_cases c_18 : w = (18 : Int32)
    · refine lv_tableIn (tgt := 712) (off := 679) hx hb dL_law_33 (by rw [c_18]; decide) (by rw [c_18]; decide) (by rw [c_18]; decide) (by decide) ?_
      exact lw_case18 C0 hK s18 hi hL cont σ τ H locs ls hRl hl hP hD hS
    by_cases c_19 : w = (19 : Int32)
    · refine lv_tableIn (tgt := 736) (off := 703) hx hb dL_law_33 (by rw [c_19]; decide) (by rw [c_19]; decide) (by rw [c_19]; decide) (by decide) ?_
      exact lw_case19 C0 hK s19 hi hL cont σ τ H locs ls hRl hl hP hD hS
    by_cases c_20 : w = (20 : Int32)
    · refine lv_tableIn (tgt := 779) (off := 746) hx hb dL_law_33 (by rw [c_20]; decide) (by rw [c_20]; decide) (by rw [c_20]; decide) (by decide) ?_
      exact lw_case20 C0 hK s20 hi hL cont σ τ H locs ls hRl hl hP hD hS
    by_cases c_21 : w = (21 : Int32)
    · refine lv_tableIn (tgt := 802) (off := 769) hx hb dL_law_33 (by rw [c_21]; decide) (by rw [c_21]; decide) (by rw [c_21]; decide) (by decide) ?_
      exact lw_case21 C0 hK s21 hi hL cont σ τ H locs ls hRl hl hP hD hS
    by_cases c_22 : w = (22 : Int32)
    · refine lv_tableIn (tgt := 845) (off := 812) hx hb dL_law_33 (by rw [c_22]; decide) (by rw [c_22]; decide) (by rw [c_22]; decide) (by decide) ?_
      exact lw_case22 C0 hK s22 hi hL cont σ τ H locs ls hRl hl hP hD hS
    by_cases c_23 : w = (23 : Int32)
    · refine lv_tableIn (tgt := 889) (off := 856) hx hb dL_law_33 (by rw [c_23]; decide) (by rw [c_23]; decide) (by rw [c_23]; decide) (by decide) ?_
      exact lw_case23 C0 hK s23 hi hL cont σ τ H locs ls hRl hl hP hD hS
    by_cases c_24 : w = (24 : Int32)
    · refine lv_tableIn (tgt := 952) (off := 919) hx hb dL_law_33 (by rw [c_24]; decide) (by rw [c_24]; decide) (by rw [c_24]; decide) (by decide) ?_
      exact lw_case24 C0 hK s24 hi hL cont σ τ H locs ls hRl hl hP hD hS
    by_cases c_25 : w = (25 : Int32)
    · refine lv_tableIn (tgt := 975) (off := 942) hx hb dL_law_33 (by rw [c_25]; decide) (by rw [c_25]; decide) (by rw [c_25]; decide) (by decide) ?_
      exact lw_case25 C0 hK s25 hi hL cont σ τ H locs ls hRl hl hP hD hS
    by_cases c_26 : w = (26 : Int32)
    · refine lv_tableIn (tgt := 998) (off := 965) hx hb dL_law_33 (by rw [c_26]; decide) (by rw [c_26]; decide) (by rw [c_26]; decide) (by decide) ?_
      exact lw_case26 C0 hK s26 hi hL cont σ τ H locs ls hRl hl hP hD hS
    by_cases c_27 : w = (27 : Int32)
    · refine lv_tableIn (tgt := 1031) (off := 998) hx hb dL_law_33 (by rw [c_27]; decide) (by rw [c_27]; decide) (by rw [c_27]; decide) (by decide) ?_
      exact lw_case27 C0 hK s27 hi hL cont σ τ H locs ls hRl hl hP hD hS
    by_cases c_28 : w = (28 : Int32)
    · refine lv_tableIn (tgt := 1044) (off := 1011) hx hb dL_law_33 (by rw [c_28]; decide) (by rw [c_28]; decide) (by rw [c_28]; decide) (by decide) ?_
      exact lw_case28 C0 hK s28 hi hL cont σ τ H locs ls hRl hl hP hD hS
    by_cases c_29 : w = (29 : Int32)
    · refine lv_tableIn (tgt := 1057) (off := 1024) hx hb dL_law_33 (by rw [c_29]; decide) (by rw [c_29]; decide) (by rw [c_29]; decide) (by decide) ?_
      exact lw_case29 C0 hK s29 hi hL cont σ τ H locs ls hRl hl hP hD hS
    refine lv_tableOut (tgt := 1080) hx hb dL_law_33 (by have z0 := lv_neT c_0 (a := 0) rfl; have z1 := lv_neT c_1 (a := 1) rfl; have z2 := lv_neT c_2 (a := 2) rfl; have z3 := lv_neT c_3 (a := 3) rfl; have z4 := lv_neT c_4 (a := 4) rfl; have z5 := lv_neT c_5 (a := 5) rfl; have z6 := lv_neT c_6 (a := 6) rfl; have z7 := lv_neT c_7 (a := 7) rfl; have z8 := lv_neT c_8 (a := 8) rfl; have z9 := lv_neT c_9 (a := 9) rfl; have z10 := lv_neT c_10 (a := 10) rfl; have z11 := lv_neT c_11 (a := 11) rfl; have z12 := lv_neT c_12 (a := 12) rfl; have z13 := lv_neT c_13 (a := 13) rfl; have z14 := lv_neT c_14 (a := 14) rfl; have z15 := lv_neT c_15 (a := 15) rfl; have z16 := lv_neT c_16 (a := 16) rfl; have z17 := lv_neT c_17 (a := 17) rfl; have z18 := lv_neT c_18 (a := 18) rfl; have z19 := lv_neT c_19 (a := 19) rfl; have z20 := lv_neT c_20 (a := 20) rfl; have z21 := lv_neT c_21 (a := 21) rfl; have z22 := lv_neT c_22 (a := 22) rfl; have z23 := lv_neT c_23 (a := 23) rfl; have z24 := lv_neT c_24 (a := 24) rfl; have z25 := lv_neT c_25 (a := 25) rfl; have z26 := lv_neT c_26 (a := 26) rfl; have z27 := lv_neT c_27 (a := 27) rfl; have z28 := lv_neT c_28 (a := 28) rfl; have z29 := lv_neT c_29 (a := 29) rfl; omega) (by decide) ?_
    exact cont σ τ H locs ls hRl hl hP hD hS
