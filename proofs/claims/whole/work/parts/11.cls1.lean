theorem dX5_come_0 : decode cX5_come 0 = .ok (.aload_n 0, 1) := by decide +kernel
theorem dX5_come_1 : decode cX5_come 1 = .ok (.iload_n 1, 1) := by decide +kernel
theorem dX5_come_2 : decode cX5_come 2 = .ok (.putfield 43, 3) := by decide +kernel
theorem dX5_come_5 : decode cX5_come 5 = .ok (.bipush (-10), 2) := by decide +kernel
theorem dX5_come_7 : decode cX5_come 7 = .ok (.iload_n 1, 1) := by decide +kernel
theorem dX5_come_8 : decode cX5_come 8 = .ok (.isub, 1) := by decide +kernel
theorem dX5_come_9 : decode cX5_come 9 = .ok (.ireturn, 1) := by decide +kernel
def f_X5_come (x1 : Int32) (σ : St) : Option (Int32 × St) :=
  nm (wS σ 0 5 x1) fun σ_1 =>
  some (((-10 : Int32) - x1), σ_1)
abbrev rmX5_come : Room := { frames := 0, cells := 0, slots := 0, locals := 0 }
set_option maxRecDepth 100000 in
set_option maxHeartbeats 4000000 in
theorem c_X5_come (l : Launch) (D : va_G) (a : Nat → Nat) (c : Nat → ClassId) (A : Nat → Prop) (hD : ∀ σ, va_D A (cW a c σ)) (x1 : Int32) (σ : St) (r : Int32) (u : St) (hf : f_X5_come x1 σ = some (r, u)) : MetI l yX5_come cX5_come 2 (some .int) rmX5_come (cW a c) D c A [.ref (a 0), .int x1] σ r u := by
  refine mkI (by decide) (Nat.le_of_ble_eq_true rfl) rfl ?_
  intro p e s m args below meth cd Q ls h0 hK hP hret hl
  obtain ⟨S, hr, hlk⟩ := h0
  obtain ⟨hx, hb, hml, hown, ht⟩ := id S
  have hS : va_S A s.heap s.heap [] := va_S.rf
  have hl : lv_has ls 2 [(0, .ref (a 0)), (1, .int x1)] := hl
  have hf := obs hf
  have hf := oun (f_X5_come.eq_1 _ _) hf
  refine lv_aload_n hx hb dX5_come_0 rfl (lv_at hl 0 rfl) ?_
  refine lv_iload_n hx hb dX5_come_1 rfl (lv_at hl 1 rfl) ?_
  refine va_put (D := D) (ci := 3) (v := .int x1) (ty := .int) (C := RX5) (T := TX5) (N := 12) hx hb ht gX5 tyX5 tyX5_ok nmX5 hown hK.1 hP (hD σ) hS 0 (cw0 a c σ) rfl 11 (by decide) (ht _ q73) (fun _ h9 => h9) rfl (by decide +kernel) rfl rfl (Nat.le_of_ble_eq_true rfl) dX5_come_2 (fun H locs hP _ hS => ?_)
  have hP := vP_eq (cpX5_latestFault a c σ x1) hP
  obtain ⟨σ_1, eσ_1, hf⟩ := onm hf
  rw [eσ_1] at hP
  refine lv_bipush (v := (-10 : Int32)) hx hb dX5_come_5 (by decide) ?_
  refine lv_iload_n hx hb dX5_come_7 rfl (lv_at hl 1 rfl) ?_
  refine lv_isub hx hb dX5_come_8 ?_
  exact hret _ _ _ _ _ _ dX5_come_9 rfl hP hS (oret hf)
theorem dX5_take_0 : decode cX5_take 0 = .ok (.aload_n 0, 1) := by decide +kernel
theorem dX5_take_1 : decode cX5_take 1 = .ok (.iload_n 3, 1) := by decide +kernel
theorem dX5_take_2 : decode cX5_take 2 = .ok (.invokestatic 75, 3) := by decide +kernel
theorem dX5_take_5 : decode cX5_take 5 = .ok (.putfield 72, 3) := by decide +kernel
theorem dX5_take_8 : decode cX5_take 8 = .ok (.iconst 0, 1) := by decide +kernel
theorem dX5_take_9 : decode cX5_take 9 = .ok (.istore 4, 2) := by decide +kernel
theorem dX5_take_11 : decode cX5_take 11 = .ok (.iload 4, 2) := by decide +kernel
theorem dX5_take_13 : decode cX5_take 13 = .ok (.aload_n 0, 1) := by decide +kernel
theorem dX5_take_14 : decode cX5_take 14 = .ok (.getfield 72, 3) := by decide +kernel
theorem dX5_take_17 : decode cX5_take 17 = .ok (.if_icmp .ge 23, 3) := by decide +kernel
theorem dX5_take_20 : decode cX5_take 20 = .ok (.aload_n 1, 1) := by decide +kernel
theorem dX5_take_21 : decode cX5_take 21 = .ok (.iload_n 2, 1) := by decide +kernel
theorem dX5_take_22 : decode cX5_take 22 = .ok (.iload 4, 2) := by decide +kernel
theorem dX5_take_24 : decode cX5_take 24 = .ok (.aload_n 0, 1) := by decide +kernel
theorem dX5_take_25 : decode cX5_take 25 = .ok (.getfield 13, 3) := by decide +kernel
theorem dX5_take_28 : decode cX5_take 28 = .ok (.iload 4, 2) := by decide +kernel
theorem dX5_take_30 : decode cX5_take 30 = .ok (.aaload, 1) := by decide +kernel
theorem dX5_take_31 : decode cX5_take 31 = .ok (.invokestatic 78, 3) := by decide +kernel
theorem dX5_take_34 : decode cX5_take 34 = .ok (.iinc 4 1, 3) := by decide +kernel
theorem dX5_take_37 : decode cX5_take 37 = .ok (.goto (-26), 3) := by decide +kernel
theorem dX5_take_40 : decode cX5_take 40 = .ok (.aload_n 0, 1) := by decide +kernel
theorem dX5_take_41 : decode cX5_take 41 = .ok (.iconst 0, 1) := by decide +kernel
theorem dX5_take_42 : decode cX5_take 42 = .ok (.putfield 84, 3) := by decide +kernel
theorem dX5_take_45 : decode cX5_take 45 = .ok (.aload_n 0, 1) := by decide +kernel
theorem dX5_take_46 : decode cX5_take 46 = .ok (.iconst 0, 1) := by decide +kernel
theorem dX5_take_47 : decode cX5_take 47 = .ok (.putfield 87, 3) := by decide +kernel
theorem dX5_take_50 : decode cX5_take 50 = .ok (.aload_n 0, 1) := by decide +kernel
theorem dX5_take_51 : decode cX5_take 51 = .ok (.iconst 0, 1) := by decide +kernel
theorem dX5_take_52 : decode cX5_take 52 = .ok (.putfield 90, 3) := by decide +kernel
theorem dX5_take_55 : decode cX5_take 55 = .ok (.return_, 1) := by decide +kernel
def f_X5_take_j40 (N : Nat) (σ : St) : Option St :=
  nm (wS σ 0 1 (0 : Int32)) fun σ_1 =>
  nm (wS σ_1 0 2 (0 : Int32)) fun σ_2 =>
  nm (wS σ_2 0 3 (0 : Int32)) fun σ_3 =>
  some σ_3
def f_X5_take_b11 (N : Nat) (x1 : Nat) (x2 : Int32) (x4 : Int32) (σ : St) : Option ((Int32 × St) ⊕ ((St))) :=
  if (σ.1 0 0) ≤ x4 then (some (.inr σ))
  else gd (ck x4 4) <|
  bd (f_X4_tellDoll x1 x2 x4 (Int32.toNatClampNeg x4) σ) fun σ_6 =>
  nm (x4 + (1 : Int32)) fun x4_8 =>
  some (.inl (x4_8, σ_6))
def f_X5_take (N : Nat) (x1 : Nat) (x2 : Int32) (x3 : Int32) (σ : St) : Option St :=
  bd (f_X4_dollsIn x3) fun r_9 =>
  nm (wS σ 0 0 r_9) fun σ_11 =>
  bd (lpF (fun s => f_X5_take_b11 N x1 x2 s.1 s.2) N ((0 : Int32), σ_11)) (fun o => f_X5_take_j40 N o)
abbrev rmX5_take : Room := { frames := 2, cells := 0, slots := 0, locals := 45 }
set_option maxRecDepth 100000 in
set_option maxHeartbeats 4000000 in
theorem c_X5_take (l : Launch) (D : va_G) (a : Nat → Nat) (c : Nat → ClassId) (A : Nat → Prop) (hD : ∀ σ, va_D A (cW a c σ)) (N : Nat) (x1 : Nat) (x2 : Int32) (x3 : Int32) (σ : St) (hx1 : x1 < 4) (u : St) (hf : f_X5_take N x1 x2 x3 σ = some u) : MetV l yX5_take cX5_take 5 (none) rmX5_take (cW a c) D c A [.ref (a 0), .ref (a (15 + x1)), .int x2, .int x3] σ u := by
  refine mkV (by decide) (Nat.le_of_ble_eq_true rfl) rfl ?_
  intro p e s m args below meth cd Q ls h0 hK hP hret hl
  obtain ⟨S, hr, hlk⟩ := h0
  obtain ⟨hx, hb, hml, hown, ht⟩ := id S
  have hS : va_S A s.heap s.heap [] := va_S.rf
  have hl : lv_has ls 5 [(0, .ref (a 0)), (1, .ref (a (15 + x1))), (2, .int x2), (3, .int x3)] := hl
  have hf := obs hf
  have j40 : ∀ (σ : St) (H : Heap) (locs : List Loc) (ls : Array Slot), lv_has ls 5 [(0, .ref (a 0))] → va_P D vwCl (cW a c σ) H → va_S A s.heap H locs → Option.bind (f_X5_take_j40 N σ) some = some u → W p l e rmX5_take s m args below meth cd H locs 0 0 Q (F0 m 40 ls []) := by
    intro σ H locs ls hl hP hS hf
    have hf := oun (f_X5_take_j40.eq_1 _ _) hf
    refine lv_aload_n hx hb dX5_take_40 rfl (lv_at hl 0 rfl) ?_
    refine lv_iconst (v := (0 : Int32)) hx hb dX5_take_41 (by decide) ?_
    refine va_put (D := D) (ci := 3) (v := .int (0 : Int32)) (ty := .int) (C := RX5) (T := TX5) (N := 12) hx hb ht gX5 tyX5 tyX5_ok nmX5 hown hK.1 hP (hD σ) hS 0 (cw0 a c σ) rfl 7 (by decide) (ht _ q116) (fun _ h9 => h9) rfl (by decide +kernel) rfl rfl (Nat.le_of_ble_eq_true rfl) dX5_take_42 (fun H locs hP _ hS => ?_)
    have hP := vP_eq (cpX5_stand a c σ (0 : Int32)) hP
    obtain ⟨σ_1, eσ_1, hf⟩ := onm hf
    rw [eσ_1] at hP
    refine lv_aload_n hx hb dX5_take_45 rfl (lv_at hl 0 rfl) ?_
    refine lv_iconst (v := (0 : Int32)) hx hb dX5_take_46 (by decide) ?_
    refine va_put (D := D) (ci := 3) (v := .int (0 : Int32)) (ty := .int) (C := RX5) (T := TX5) (N := 12) hx hb ht gX5 tyX5 tyX5_ok nmX5 hown hK.1 hP (hD σ_1) hS 0 (cw0 a c σ_1) rfl 8 (by decide) (ht _ q117) (fun _ h9 => h9) rfl (by decide +kernel) rfl rfl (Nat.le_of_ble_eq_true rfl) dX5_take_47 (fun H locs hP _ hS => ?_)
    have hP := vP_eq (cpX5_acts a c σ_1 (0 : Int32)) hP
    obtain ⟨σ_2, eσ_2, hf⟩ := onm hf
    rw [eσ_2] at hP
    refine lv_aload_n hx hb dX5_take_50 rfl (lv_at hl 0 rfl) ?_
    refine lv_iconst (v := (0 : Int32)) hx hb dX5_take_51 (by decide) ?_
    refine va_put (D := D) (ci := 3) (v := .int (0 : Int32)) (ty := .int) (C := RX5) (T := TX5) (N := 12) hx hb ht gX5 tyX5 tyX5_ok nmX5 hown hK.1 hP (hD σ_2) hS 0 (cw0 a c σ_2) rfl 9 (by decide) (ht _ q118) (fun _ h9 => h9) rfl (by decide +kernel) rfl rfl (Nat.le_of_ble_eq_true rfl) dX5_take_52 (fun H locs hP _ hS => ?_)
    have hP := vP_eq (cpX5_readings a c σ_2 (0 : Int32)) hP
    obtain ⟨σ_3, eσ_3, hf⟩ := onm hf
    rw [eσ_3] at hP
    exact hret _ _ _ _ _ dX5_take_55 hP hS (Option.some.inj hf)
  have L11 : ∀ (x1 : Nat) (x2 : Int32) (hx1 : x1 < 4) (k : Nat) (x4 : Int32) (σ : St) (H : Heap) (locs : List Loc) (ls : Array Slot), lv_has ls 5 [(0, .ref (a 0)), (1, .ref (a (15 + x1))), (2, .int x2), (4, .int x4)] → va_P D vwCl (cW a c σ) H → va_S A s.heap H locs → Option.bind (bd (lpF (fun s => f_X5_take_b11 N x1 x2 s.1 s.2) k (x4, σ)) (fun o => f_X5_take_j40 N o)) some = some u → W p l e rmX5_take s m args below meth cd H locs 0 0 Q (F0 m 11 ls []) := by
    intro x1 x2 hx1 k
    induction k with
    | zero =>
      intro x4 σ H locs ls hl hP hS hf
      exact (ol0 hf).elim
    | succ k ih =>
      intro x4 σ H locs ls hl hP hS hf
      obtain ⟨K11, hf, hc11, hx11⟩ := ol1 hf
      have hf := oun (f_X5_take_b11.eq_1 N x1 x2 x4 σ) hf
      refine lv_iload hx hb dX5_take_11 (lv_at hl 3 rfl) ?_
      refine lv_aload_n hx hb dX5_take_13 rfl (lv_at hl 0 rfl) ?_
      refine va_get (D := D) (ci := 3) (v := .int (σ.1 0 0)) (C := RX5) (T := TX5) (N := 12) hx hb ht gX5 hown hK.1 hP 0 (cw0 a c σ) rfl 6 (by decide) (ht _ q74) (fun _ h9 => h9) rfl dX5_take_14 ?_
      refine lv_icmp_ge (tgt := 40) hx hb dX5_take_17 (by decide) (fun c_4 => ?_) (fun c_4 => ?_)
      · have hf := oit c_4 hf
        exact j40 σ _ _ _ (lv_sub hl [0] rfl) hP hS (okx hf (hx11 _))
      have hf := oif c_4 hf
      refine lv_aload_n hx hb dX5_take_20 rfl (lv_at hl 1 rfl) ?_
      refine lv_iload_n hx hb dX5_take_21 rfl (lv_at hl 2 rfl) ?_
      refine lv_iload hx hb dX5_take_22 (lv_at hl 3 rfl) ?_
      refine lv_aload_n hx hb dX5_take_24 rfl (lv_at hl 0 rfl) ?_
      refine va_get (D := D) (ci := 3) (v := .ref (a 1)) (C := RX5) (T := TX5) (N := 12) hx hb ht gX5 hown hK.1 hP 0 (cw0 a c σ) rfl 0 (by decide) (ht _ q13) (fun _ h9 => h9) rfl dX5_take_25 ?_
      refine lv_iload hx hb dX5_take_28 (lv_at hl 3 rfl) ?_
      obtain ⟨g_5, hf⟩ := ogd hf
      refine va_aldq hx hb hK.1 hP 1 3 (cw1 a c σ) rfl (ck_in g_5) dX5_take_30 ?_
      refine W.eq (g2 := F0 m 31 ls [.ref (a (11 + (Int32.toNatClampNeg x4))), .int x4, .int x2, .ref (a (15 + x1))]) rfl ?_
      obtain ⟨σ_6, h_7, hf⟩ := obd hf
      refine xs_V (As := [.ref (a (15 + x1)), .int x2, .int x4, .ref (a (11 + (Int32.toNatClampNeg x4)))]) (rest := []) S k_X4_tellDoll q126 q127 ⟨Nat.le_of_ble_eq_true rfl, Nat.le_of_ble_eq_true rfl⟩ ⟨rfl, rfl⟩ (c_X4_tellDoll l D a c A hD x1 x2 x4 (Int32.toNatClampNeg x4) σ hx1 (ck_lt g_5) σ_6 h_7) hK hP hS rfl hl.1 rfl (Nat.le_of_ble_eq_true rfl) dX5_take_31 ⟨Nat.zero_le _, Nat.zero_le _⟩ (fun H locs hP hS => ?_)
      obtain ⟨x4_8, ex4_8, hf⟩ := onm hf
      refine lv_iinc (v := x4_8) (lv' := [(4, .int x4_8), (0, .ref (a 0)), (1, .ref (a (15 + x1))), (2, .int x2)]) hx hb dX5_take_34 hl (k := 3) rfl ex4_8 (by decide) rfl (fun ls hl => ?_)
      refine lv_goto (tgt := 11) hx hb dX5_take_37 (by decide) ?_
      exact ih x4_8 σ_6 _ _ _ (lv_sub hl [1, 2, 3, 0] rfl) hP hS (okx hf (hc11 _))
  have hf := oun (f_X5_take.eq_1 _ _ _ _ _) hf
  refine lv_aload_n hx hb dX5_take_0 rfl (lv_at hl 0 rfl) ?_
  refine lv_iload_n hx hb dX5_take_1 rfl (lv_at hl 3 rfl) ?_
  obtain ⟨r_9, h_10, hf⟩ := obd hf
  refine xs_S (As := [.int x3]) (rest := [.ref (a 0)]) S k_X4_dollsIn q119 q120 ⟨Nat.le_of_ble_eq_true rfl, Nat.le_of_ble_eq_true rfl⟩ ⟨rfl, rfl⟩ (c_X4_dollsIn l x3 r_9 h_10) hK.2 rfl hl.1 rfl (Nat.le_of_ble_eq_true rfl) dX5_take_2 ⟨Nat.zero_le _, Nat.zero_le _⟩ ?_
  refine va_put (D := D) (ci := 3) (v := .int r_9) (ty := .int) (C := RX5) (T := TX5) (N := 12) hx hb ht gX5 tyX5 tyX5_ok nmX5 hown hK.1 hP (hD σ) hS 0 (cw0 a c σ) rfl 6 (by decide) (ht _ q74) (fun _ h9 => h9) rfl (by decide +kernel) rfl rfl (Nat.le_of_ble_eq_true rfl) dX5_take_5 (fun H locs hP _ hS => ?_)
  have hP := vP_eq (cpX5_count a c σ r_9) hP
  obtain ⟨σ_11, eσ_11, hf⟩ := onm hf
  rw [eσ_11] at hP
  refine lv_iconst (v := (0 : Int32)) hx hb dX5_take_8 (by decide) ?_
  refine lv_istore (lv' := [(4, .int (0 : Int32)), (0, .ref (a 0)), (1, .ref (a (15 + x1))), (2, .int x2), (3, .int x3)]) hx hb dX5_take_9 hl (by decide) rfl (fun ls hl => ?_)
  exact L11 x1 x2 hx1 N (0 : Int32) σ_11 _ _ _ (lv_sub hl [1, 2, 3, 0] rfl) hP hS hf
theorem dX5_dolls_0 : decode cX5_dolls 0 = .ok (.aload_n 0, 1) := by decide +kernel
theorem dX5_dolls_1 : decode cX5_dolls 1 = .ok (.iconst 0, 1) := by decide +kernel
theorem dX5_dolls_2 : decode cX5_dolls 2 = .ok (.putfield 43, 3) := by decide +kernel
theorem dX5_dolls_5 : decode cX5_dolls 5 = .ok (.iload_n 1, 1) := by decide +kernel
theorem dX5_dolls_6 : decode cX5_dolls 6 = .ok (.invokestatic 47, 3) := by decide +kernel
theorem dX5_dolls_9 : decode cX5_dolls 9 = .ok (.ifCond .ne 5, 3) := by decide +kernel
theorem dX5_dolls_12 : decode cX5_dolls 12 = .ok (.iconst (-1), 1) := by decide +kernel
theorem dX5_dolls_13 : decode cX5_dolls 13 = .ok (.ireturn, 1) := by decide +kernel
theorem dX5_dolls_14 : decode cX5_dolls 14 = .ok (.iload_n 2, 1) := by decide +kernel
theorem dX5_dolls_15 : decode cX5_dolls 15 = .ok (.invokestatic 51, 3) := by decide +kernel
theorem dX5_dolls_18 : decode cX5_dolls 18 = .ok (.ifCond .ne 6, 3) := by decide +kernel
theorem dX5_dolls_21 : decode cX5_dolls 21 = .ok (.bipush (-2), 2) := by decide +kernel
theorem dX5_dolls_23 : decode cX5_dolls 23 = .ok (.ireturn, 1) := by decide +kernel
theorem dX5_dolls_24 : decode cX5_dolls 24 = .ok (.aload_n 0, 1) := by decide +kernel
theorem dX5_dolls_25 : decode cX5_dolls 25 = .ok (.getfield 19, 3) := by decide +kernel
theorem dX5_dolls_28 : decode cX5_dolls 28 = .ok (.iload_n 1, 1) := by decide +kernel
theorem dX5_dolls_29 : decode cX5_dolls 29 = .ok (.aaload, 1) := by decide +kernel
theorem dX5_dolls_30 : decode cX5_dolls 30 = .ok (.iload_n 2, 1) := by decide +kernel
theorem dX5_dolls_31 : decode cX5_dolls 31 = .ok (.iload_n 3, 1) := by decide +kernel
theorem dX5_dolls_32 : decode cX5_dolls 32 = .ok (.iload 4, 2) := by decide +kernel
theorem dX5_dolls_34 : decode cX5_dolls 34 = .ok (.invokevirtual 54, 3) := by decide +kernel
theorem dX5_dolls_37 : decode cX5_dolls 37 = .ok (.istore 5, 2) := by decide +kernel
theorem dX5_dolls_39 : decode cX5_dolls 39 = .ok (.iload 5, 2) := by decide +kernel
theorem dX5_dolls_41 : decode cX5_dolls 41 = .ok (.ifCond .eq 10, 3) := by decide +kernel
theorem dX5_dolls_44 : decode cX5_dolls 44 = .ok (.aload_n 0, 1) := by decide +kernel
theorem dX5_dolls_45 : decode cX5_dolls 45 = .ok (.iload 5, 2) := by decide +kernel
theorem dX5_dolls_47 : decode cX5_dolls 47 = .ok (.invokevirtual 58, 3) := by decide +kernel
theorem dX5_dolls_50 : decode cX5_dolls 50 = .ok (.ireturn, 1) := by decide +kernel
theorem dX5_dolls_51 : decode cX5_dolls 51 = .ok (.aload_n 0, 1) := by decide +kernel
theorem dX5_dolls_52 : decode cX5_dolls 52 = .ok (.getfield 19, 3) := by decide +kernel
theorem dX5_dolls_55 : decode cX5_dolls 55 = .ok (.iload_n 1, 1) := by decide +kernel
theorem dX5_dolls_56 : decode cX5_dolls 56 = .ok (.aaload, 1) := by decide +kernel
theorem dX5_dolls_57 : decode cX5_dolls 57 = .ok (.iload_n 3, 1) := by decide +kernel
theorem dX5_dolls_58 : decode cX5_dolls 58 = .ok (.iload 4, 2) := by decide +kernel
theorem dX5_dolls_60 : decode cX5_dolls 60 = .ok (.invokestatic 62, 3) := by decide +kernel
theorem dX5_dolls_63 : decode cX5_dolls 63 = .ok (.istore 6, 2) := by decide +kernel
theorem dX5_dolls_65 : decode cX5_dolls 65 = .ok (.iload 6, 2) := by decide +kernel
theorem dX5_dolls_67 : decode cX5_dolls 67 = .ok (.bipush (-9), 2) := by decide +kernel
theorem dX5_dolls_69 : decode cX5_dolls 69 = .ok (.if_icmp .eq 9, 3) := by decide +kernel
theorem dX5_dolls_72 : decode cX5_dolls 72 = .ok (.bipush (-100), 2) := by decide +kernel
theorem dX5_dolls_74 : decode cX5_dolls 74 = .ok (.iload 6, 2) := by decide +kernel
theorem dX5_dolls_76 : decode cX5_dolls 76 = .ok (.isub, 1) := by decide +kernel
theorem dX5_dolls_77 : decode cX5_dolls 77 = .ok (.ireturn, 1) := by decide +kernel
theorem dX5_dolls_78 : decode cX5_dolls 78 = .ok (.aload_n 0, 1) := by decide +kernel
theorem dX5_dolls_79 : decode cX5_dolls 79 = .ok (.aload_n 0, 1) := by decide +kernel
theorem dX5_dolls_80 : decode cX5_dolls 80 = .ok (.getfield 19, 3) := by decide +kernel
theorem dX5_dolls_83 : decode cX5_dolls 83 = .ok (.iload_n 1, 1) := by decide +kernel
theorem dX5_dolls_84 : decode cX5_dolls 84 = .ok (.aaload, 1) := by decide +kernel
theorem dX5_dolls_85 : decode cX5_dolls 85 = .ok (.iload_n 3, 1) := by decide +kernel
theorem dX5_dolls_86 : decode cX5_dolls 86 = .ok (.iload 4, 2) := by decide +kernel
theorem dX5_dolls_88 : decode cX5_dolls 88 = .ok (.invokevirtual 68, 3) := by decide +kernel
theorem dX5_dolls_91 : decode cX5_dolls 91 = .ok (.aload_n 0, 1) := by decide +kernel
theorem dX5_dolls_92 : decode cX5_dolls 92 = .ok (.getfield 72, 3) := by decide +kernel
theorem dX5_dolls_95 : decode cX5_dolls 95 = .ok (.ireturn, 1) := by decide +kernel
def f_X5_dolls (N : Nat) (x1 : Int32) (x2 : Int32) (x3 : Int32) (x4 : Int32) (σ : St) : Option (Int32 × St) :=
  nm (wS σ 0 5 (0 : Int32)) fun σ_1 =>
  bd (f_X5_isSheet x1) fun r_2 =>
  if r_2 = 0 then (some ((-1 : Int32), σ_1))
  else bd (f_X5_isLane x2) fun r_5 =>
    if r_5 = 0 then (some ((-2 : Int32), σ_1))
    else gd (ck x1 4) <|
      bd (f_X2_faultOf (Int32.toNatClampNeg x1) x2 x3 x4 σ_1) fun r_9 =>
      if r_9 = 0 then (gd (ck x1 4) <|
        bd (f_X4_firstFault N (Int32.toNatClampNeg x1) x3 x4 σ_1) fun r_13 =>
        if r_13 = (-9 : Int32) then (gd (ck x1 4) <|
          bd (f_X5_take N (Int32.toNatClampNeg x1) x3 x4 σ_1) fun σ_17 =>
          some ((σ_17.1 0 0), σ_17))
        else some (((-100 : Int32) - r_13), σ_1))
      else bd2 (f_X5_come r_9 σ_1) fun r_19 σ_20 =>
      some (r_19, σ_20)
abbrev rmX5_dolls : Room := { frames := 3, cells := 0, slots := 0, locals := 69 }
set_option maxRecDepth 100000 in
set_option maxHeartbeats 4000000 in
theorem c_X5_dolls (l : Launch) (D : va_G) (a : Nat → Nat) (c : Nat → ClassId) (A : Nat → Prop) (hD : ∀ σ, va_D A (cW a c σ)) (N : Nat) (x1 : Int32) (x2 : Int32) (x3 : Int32) (x4 : Int32) (σ : St) (r : Int32) (u : St) (hf : f_X5_dolls N x1 x2 x3 x4 σ = some (r, u)) : MetI l yX5_dolls cX5_dolls 7 (some .int) rmX5_dolls (cW a c) D c A [.ref (a 0), .int x1, .int x2, .int x3, .int x4] σ r u := by
  refine mkI (by decide) (Nat.le_of_ble_eq_true rfl) rfl ?_
  intro p e s m args below meth cd Q ls h0 hK hP hret hl
  obtain ⟨S, hr, hlk⟩ := h0
  obtain ⟨hx, hb, hml, hown, ht⟩ := id S
  have hS : va_S A s.heap s.heap [] := va_S.rf
  have hl : lv_has ls 7 [(0, .ref (a 0)), (1, .int x1), (2, .int x2), (3, .int x3), (4, .int x4)] := hl
  have hf := obs hf
  have hf := oun (f_X5_dolls.eq_1 _ _ _ _ _ _) hf
  refine lv_aload_n hx hb dX5_dolls_0 rfl (lv_at hl 0 rfl) ?_
  refine lv_iconst (v := (0 : Int32)) hx hb dX5_dolls_1 (by decide) ?_
  refine va_put (D := D) (ci := 3) (v := .int (0 : Int32)) (ty := .int) (C := RX5) (T := TX5) (N := 12) hx hb ht gX5 tyX5 tyX5_ok nmX5 hown hK.1 hP (hD σ) hS 0 (cw0 a c σ) rfl 11 (by decide) (ht _ q73) (fun _ h9 => h9) rfl (by decide +kernel) rfl rfl (Nat.le_of_ble_eq_true rfl) dX5_dolls_2 (fun H locs hP _ hS => ?_)
  have hP := vP_eq (cpX5_latestFault a c σ (0 : Int32)) hP
  obtain ⟨σ_1, eσ_1, hf⟩ := onm hf
  rw [eσ_1] at hP
  refine lv_iload_n hx hb dX5_dolls_5 rfl (lv_at hl 1 rfl) ?_
  obtain ⟨r_2, h_3, hf⟩ := obd hf
  refine xs_S (As := [.int x1]) (rest := []) S k_X5_isSheet q75 q76 ⟨Nat.le_of_ble_eq_true rfl, Nat.le_of_ble_eq_true rfl⟩ ⟨rfl, rfl⟩ (c_X5_isSheet l x1 r_2 h_3) hK.2 rfl hl.1 rfl (Nat.le_of_ble_eq_true rfl) dX5_dolls_6 ⟨Nat.zero_le _, Nat.zero_le _⟩ ?_
  refine lv_if_ne (tgt := 14) hx hb dX5_dolls_9 (by decide) (fun c_4 => ?_) (fun c_4 => ?_)
  · have hf := oif c_4 hf
    refine lv_iload_n hx hb dX5_dolls_14 rfl (lv_at hl 2 rfl) ?_
    obtain ⟨r_5, h_6, hf⟩ := obd hf
    refine xs_S (As := [.int x2]) (rest := []) S k_X5_isLane q78 q79 ⟨Nat.le_of_ble_eq_true rfl, Nat.le_of_ble_eq_true rfl⟩ ⟨rfl, rfl⟩ (c_X5_isLane l x2 r_5 h_6) hK.2 rfl hl.1 rfl (Nat.le_of_ble_eq_true rfl) dX5_dolls_15 ⟨Nat.zero_le _, Nat.zero_le _⟩ ?_
    refine lv_if_ne (tgt := 24) hx hb dX5_dolls_18 (by decide) (fun c_7 => ?_) (fun c_7 => ?_)
    · have hf := oif c_7 hf
      refine lv_aload_n hx hb dX5_dolls_24 rfl (lv_at hl 0 rfl) ?_
      refine va_get (D := D) (ci := 3) (v := .ref (a 2)) (C := RX5) (T := TX5) (N := 12) hx hb ht gX5 hown hK.1 hP 0 (cw0 a c σ_1) rfl 1 (by decide) (ht _ q15) (fun _ h9 => h9) rfl dX5_dolls_25 ?_
      refine lv_iload_n hx hb dX5_dolls_28 rfl (lv_at hl 1 rfl) ?_
      obtain ⟨g_8, hf⟩ := ogd hf
      refine va_aldq hx hb hK.1 hP 2 4 (cw2 a c σ_1) rfl (ck_in g_8) dX5_dolls_29 ?_
      refine W.eq (g2 := F0 m 30 ls [.ref (a (15 + (Int32.toNatClampNeg x1)))]) rfl ?_
      refine lv_iload_n hx hb dX5_dolls_30 rfl (lv_at hl 2 rfl) ?_
      refine lv_iload_n hx hb dX5_dolls_31 rfl (lv_at hl 3 rfl) ?_
      refine lv_iload hx hb dX5_dolls_32 (lv_at hl 4 rfl) ?_
      obtain ⟨r_9, h_10, hf⟩ := obd hf
      refine xv_I (As := [.int x2, .int x3, .int x4]) (rest := []) S k_X2_faultOf q81 q82 q83 ⟨Nat.le_of_ble_eq_true rfl, Nat.le_of_ble_eq_true rfl⟩ ⟨rfl, rfl⟩ (c_X2_faultOf l D a c A hD (Int32.toNatClampNeg x1) x2 x3 x4 σ_1 (ck_lt g_8) r_9 h_10) hK hP hS (va_recv hK.1 hP (rfl : vwCl[2]? = some (RX2, TX2, 3)) (cwX2 a c σ_1 (Int32.toNatClampNeg x1) (ck_lt g_8))) rfl hl.1 rfl (Nat.le_of_ble_eq_true rfl) dX5_dolls_34 ⟨Nat.zero_le _, Nat.zero_le _⟩ (fun H locs hP hS => ?_)
      refine lv_istore (lv' := [(5, .int r_9), (0, .ref (a 0)), (1, .int x1), (2, .int x2), (3, .int x3), (4, .int x4)]) hx hb dX5_dolls_37 hl (by decide) rfl (fun ls hl => ?_)
      refine lv_iload hx hb dX5_dolls_39 (lv_at hl 0 rfl) ?_
      refine lv_if_eq (tgt := 51) hx hb dX5_dolls_41 (by decide) (fun c_11 => ?_) (fun c_11 => ?_)
      · have hf := oit c_11 hf
        refine lv_aload_n hx hb dX5_dolls_51 rfl (lv_at hl 1 rfl) ?_
        refine va_get (D := D) (ci := 3) (v := .ref (a 2)) (C := RX5) (T := TX5) (N := 12) hx hb ht gX5 hown hK.1 hP 0 (cw0 a c σ_1) rfl 1 (by decide) (ht _ q15) (fun _ h9 => h9) rfl dX5_dolls_52 ?_
        refine lv_iload_n hx hb dX5_dolls_55 rfl (lv_at hl 2 rfl) ?_
        obtain ⟨g_12, hf⟩ := ogd hf
        refine va_aldq hx hb hK.1 hP 2 4 (cw2 a c σ_1) rfl (ck_in g_12) dX5_dolls_56 ?_
        refine W.eq (g2 := F0 m 57 ls [.ref (a (15 + (Int32.toNatClampNeg x1)))]) rfl ?_
        refine lv_iload_n hx hb dX5_dolls_57 rfl (lv_at hl 4 rfl) ?_
        refine lv_iload hx hb dX5_dolls_58 (lv_at hl 5 rfl) ?_
        obtain ⟨r_13, h_14, hf⟩ := obd hf
        refine xs_I (As := [.ref (a (15 + (Int32.toNatClampNeg x1))), .int x3, .int x4]) (rest := []) S k_X4_firstFault q98 q99 ⟨Nat.le_of_ble_eq_true rfl, Nat.le_of_ble_eq_true rfl⟩ ⟨rfl, rfl⟩ (c_X4_firstFault l D a c A hD N (Int32.toNatClampNeg x1) x3 x4 σ_1 (ck_lt g_12) r_13 h_14) hK hP hS rfl hl.1 rfl (Nat.le_of_ble_eq_true rfl) dX5_dolls_60 ⟨Nat.zero_le _, Nat.zero_le _⟩ (fun H locs hP hS => ?_)
        refine lv_istore (lv' := [(6, .int r_13), (5, .int r_9), (0, .ref (a 0)), (1, .int x1), (2, .int x2), (3, .int x3), (4, .int x4)]) hx hb dX5_dolls_63 hl (by decide) rfl (fun ls hl => ?_)
        refine lv_iload hx hb dX5_dolls_65 (lv_at hl 0 rfl) ?_
        refine lv_bipush (v := (-9 : Int32)) hx hb dX5_dolls_67 (by decide) ?_
        refine lv_icmp_eq (tgt := 78) hx hb dX5_dolls_69 (by decide) (fun c_15 => ?_) (fun c_15 => ?_)
        · have hf := oit c_15 hf
          refine lv_aload_n hx hb dX5_dolls_78 rfl (lv_at hl 2 rfl) ?_
          refine lv_aload_n hx hb dX5_dolls_79 rfl (lv_at hl 2 rfl) ?_
          refine va_get (D := D) (ci := 3) (v := .ref (a 2)) (C := RX5) (T := TX5) (N := 12) hx hb ht gX5 hown hK.1 hP 0 (cw0 a c σ_1) rfl 1 (by decide) (ht _ q15) (fun _ h9 => h9) rfl dX5_dolls_80 ?_
          refine lv_iload_n hx hb dX5_dolls_83 rfl (lv_at hl 3 rfl) ?_
          obtain ⟨g_16, hf⟩ := ogd hf
          refine va_aldq hx hb hK.1 hP 2 4 (cw2 a c σ_1) rfl (ck_in g_16) dX5_dolls_84 ?_
          refine W.eq (g2 := F0 m 85 ls [.ref (a (15 + (Int32.toNatClampNeg x1))), .ref (a 0)]) rfl ?_
          refine lv_iload_n hx hb dX5_dolls_85 rfl (lv_at hl 5 rfl) ?_
          refine lv_iload hx hb dX5_dolls_86 (lv_at hl 6 rfl) ?_
          obtain ⟨σ_17, h_18, hf⟩ := obd hf
          refine xv_V (As := [.ref (a (15 + (Int32.toNatClampNeg x1))), .int x3, .int x4]) (rest := []) S k_X5_take q112 q113 q114 ⟨Nat.le_of_ble_eq_true rfl, Nat.le_of_ble_eq_true rfl⟩ ⟨rfl, rfl⟩ (c_X5_take l D a c A hD N (Int32.toNatClampNeg x1) x3 x4 σ_1 (ck_lt g_16) σ_17 h_18) hK hP hS (va_recv hK.1 hP (rfl : vwCl[3]? = some (RX5, TX5, 12)) (cw0 a c σ_1)) rfl hl.1 rfl (Nat.le_of_ble_eq_true rfl) dX5_dolls_88 ⟨Nat.zero_le _, Nat.zero_le _⟩ (fun H locs hP hS => ?_)
          refine lv_aload_n hx hb dX5_dolls_91 rfl (lv_at hl 2 rfl) ?_
          refine va_get (D := D) (ci := 3) (v := .int (σ_17.1 0 0)) (C := RX5) (T := TX5) (N := 12) hx hb ht gX5 hown hK.1 hP 0 (cw0 a c σ_17) rfl 6 (by decide) (ht _ q74) (fun _ h9 => h9) rfl dX5_dolls_92 ?_
          exact hret _ _ _ _ _ _ dX5_dolls_95 rfl hP hS (oret hf)
        have hf := oif c_15 hf
        refine lv_bipush (v := (-100 : Int32)) hx hb dX5_dolls_72 (by decide) ?_
        refine lv_iload hx hb dX5_dolls_74 (lv_at hl 0 rfl) ?_
        refine lv_isub hx hb dX5_dolls_76 ?_
        exact hret _ _ _ _ _ _ dX5_dolls_77 rfl hP hS (oret hf)
      have hf := oif c_11 hf
      refine lv_aload_n hx hb dX5_dolls_44 rfl (lv_at hl 1 rfl) ?_
      refine lv_iload hx hb dX5_dolls_45 (lv_at hl 0 rfl) ?_
      obtain ⟨r_19, σ_20, h_21, hf⟩ := obd2 hf
      refine xv_I (As := [.int r_9]) (rest := []) S k_X5_come q94 q95 q96 ⟨Nat.le_of_ble_eq_true rfl, Nat.le_of_ble_eq_true rfl⟩ ⟨rfl, rfl⟩ (c_X5_come l D a c A hD r_9 σ_1 r_19 σ_20 h_21) hK hP hS (va_recv hK.1 hP (rfl : vwCl[3]? = some (RX5, TX5, 12)) (cw0 a c σ_1)) rfl hl.1 rfl (Nat.le_of_ble_eq_true rfl) dX5_dolls_47 ⟨Nat.zero_le _, Nat.zero_le _⟩ (fun H locs hP hS => ?_)
      exact hret _ _ _ _ _ _ dX5_dolls_50 rfl hP hS (oret hf)
    have hf := oit c_7 hf
    refine lv_bipush (v := (-2 : Int32)) hx hb dX5_dolls_21 (by decide) ?_
    exact hret _ _ _ _ _ _ dX5_dolls_23 rfl hP hS (oret hf)
  have hf := oit c_4 hf
  refine lv_iconst (v := (-1 : Int32)) hx hb dX5_dolls_12 (by decide) ?_
  exact hret _ _ _ _ _ _ dX5_dolls_13 rfl hP hS (oret hf)
theorem dX5_isDoll_0 : decode cX5_isDoll 0 = .ok (.iload_n 1, 1) := by decide +kernel
theorem dX5_isDoll_1 : decode cX5_isDoll 1 = .ok (.ifCond .lt 15, 3) := by decide +kernel
theorem dX5_isDoll_4 : decode cX5_isDoll 4 = .ok (.iload_n 1, 1) := by decide +kernel
theorem dX5_isDoll_5 : decode cX5_isDoll 5 = .ok (.aload_n 0, 1) := by decide +kernel
theorem dX5_isDoll_6 : decode cX5_isDoll 6 = .ok (.getfield 72, 3) := by decide +kernel
theorem dX5_isDoll_9 : decode cX5_isDoll 9 = .ok (.if_icmp .ge 7, 3) := by decide +kernel
theorem dX5_isDoll_12 : decode cX5_isDoll 12 = .ok (.iconst 1, 1) := by decide +kernel
theorem dX5_isDoll_13 : decode cX5_isDoll 13 = .ok (.goto 4, 3) := by decide +kernel
theorem dX5_isDoll_16 : decode cX5_isDoll 16 = .ok (.iconst 0, 1) := by decide +kernel
theorem dX5_isDoll_17 : decode cX5_isDoll 17 = .ok (.ireturn, 1) := by decide +kernel
def f_X5_isDoll (x1 : Int32) (σ : St) : Option Int32 :=
  if x1 < 0 then (some (0 : Int32))
  else if (σ.1 0 0) ≤ x1 then (some (0 : Int32))
  else some (1 : Int32)
abbrev rmX5_isDoll : Room := { frames := 0, cells := 0, slots := 0, locals := 0 }
set_option maxRecDepth 100000 in
set_option maxHeartbeats 4000000 in
theorem c_X5_isDoll (l : Launch) (D : va_G) (a : Nat → Nat) (c : Nat → ClassId) (A : Nat → Prop) (hD : ∀ σ, va_D A (cW a c σ)) (x1 : Int32) (σ : St) (r : Int32) (hf : f_X5_isDoll x1 σ = some r) : MetI l yX5_isDoll cX5_isDoll 2 (some .boolean) rmX5_isDoll (cW a c) D c A [.ref (a 0), .int x1] σ r σ := by
  refine mkI (by decide) (Nat.le_of_ble_eq_true rfl) rfl ?_
  intro p e s m args below meth cd Q ls h0 hK hP hret hl
  obtain ⟨S, hr, hlk⟩ := h0
  obtain ⟨hx, hb, hml, hown, ht⟩ := id S
  have hS : va_S A s.heap s.heap [] := va_S.rf
  have hl : lv_has ls 2 [(0, .ref (a 0)), (1, .int x1)] := hl
  have hf := obs hf
  have hf := oun (f_X5_isDoll.eq_1 _ _) hf
  refine lv_iload_n hx hb dX5_isDoll_0 rfl (lv_at hl 1 rfl) ?_
  refine lv_if_lt (tgt := 16) hx hb dX5_isDoll_1 (by decide) (fun c_1 => ?_) (fun c_1 => ?_)
  · have hf := oit c_1 hf
    refine lv_iconst (v := (0 : Int32)) hx hb dX5_isDoll_16 (by decide) ?_
    exact hret _ _ _ _ _ _ dX5_isDoll_17 (by decide) hP hS ⟨Option.some.inj hf, rfl⟩
  have hf := oif c_1 hf
  refine lv_iload_n hx hb dX5_isDoll_4 rfl (lv_at hl 1 rfl) ?_
  refine lv_aload_n hx hb dX5_isDoll_5 rfl (lv_at hl 0 rfl) ?_
  refine va_get (D := D) (ci := 3) (v := .int (σ.1 0 0)) (C := RX5) (T := TX5) (N := 12) hx hb ht gX5 hown hK.1 hP 0 (cw0 a c σ) rfl 6 (by decide) (ht _ q74) (fun _ h9 => h9) rfl dX5_isDoll_6 ?_
  refine lv_icmp_ge (tgt := 16) hx hb dX5_isDoll_9 (by decide) (fun c_2 => ?_) (fun c_2 => ?_)
  · have hf := oit c_2 hf
    refine lv_iconst (v := (0 : Int32)) hx hb dX5_isDoll_16 (by decide) ?_
    exact hret _ _ _ _ _ _ dX5_isDoll_17 (by decide) hP hS ⟨Option.some.inj hf, rfl⟩
  have hf := oif c_2 hf
  refine lv_iconst (v := (1 : Int32)) hx hb dX5_isDoll_12 (by decide) ?_
  refine lv_goto (tgt := 17) hx hb dX5_isDoll_13 (by decide) ?_
  exact hret _ _ _ _ _ _ dX5_isDoll_17 (by decide) hP hS ⟨Option.some.inj hf, rfl⟩
theorem dX5_ofDoll_0 : decode cX5_ofDoll 0 = .ok (.aload_n 0, 1) := by decide +kernel
theorem dX5_ofDoll_1 : decode cX5_ofDoll 1 = .ok (.iload_n 1, 1) := by decide +kernel
theorem dX5_ofDoll_2 : decode cX5_ofDoll 2 = .ok (.invokevirtual 93, 3) := by decide +kernel
theorem dX5_ofDoll_5 : decode cX5_ofDoll 5 = .ok (.ifCond .ne 5, 3) := by decide +kernel
theorem dX5_ofDoll_8 : decode cX5_ofDoll 8 = .ok (.iconst (-1), 1) := by decide +kernel
theorem dX5_ofDoll_9 : decode cX5_ofDoll 9 = .ok (.ireturn, 1) := by decide +kernel
theorem dX5_ofDoll_10 : decode cX5_ofDoll 10 = .ok (.iload_n 2, 1) := by decide +kernel
theorem dX5_ofDoll_11 : decode cX5_ofDoll 11 = .ok (.tableswitch 155 0 8 #[49, 59, 69, 79, 89, 98, 110, 129, 142], 49) := by decide +kernel
theorem dX5_ofDoll_60 : decode cX5_ofDoll 60 = .ok (.aload_n 0, 1) := by decide +kernel
theorem dX5_ofDoll_61 : decode cX5_ofDoll 61 = .ok (.getfield 13, 3) := by decide +kernel
theorem dX5_ofDoll_64 : decode cX5_ofDoll 64 = .ok (.iload_n 1, 1) := by decide +kernel
theorem dX5_ofDoll_65 : decode cX5_ofDoll 65 = .ok (.aaload, 1) := by decide +kernel
theorem dX5_ofDoll_66 : decode cX5_ofDoll 66 = .ok (.getfield 96, 3) := by decide +kernel
theorem dX5_ofDoll_69 : decode cX5_ofDoll 69 = .ok (.ireturn, 1) := by decide +kernel
theorem dX5_ofDoll_70 : decode cX5_ofDoll 70 = .ok (.aload_n 0, 1) := by decide +kernel
theorem dX5_ofDoll_71 : decode cX5_ofDoll 71 = .ok (.getfield 13, 3) := by decide +kernel
theorem dX5_ofDoll_74 : decode cX5_ofDoll 74 = .ok (.iload_n 1, 1) := by decide +kernel
theorem dX5_ofDoll_75 : decode cX5_ofDoll 75 = .ok (.aaload, 1) := by decide +kernel
theorem dX5_ofDoll_76 : decode cX5_ofDoll 76 = .ok (.getfield 99, 3) := by decide +kernel
theorem dX5_ofDoll_79 : decode cX5_ofDoll 79 = .ok (.ireturn, 1) := by decide +kernel
theorem dX5_ofDoll_80 : decode cX5_ofDoll 80 = .ok (.aload_n 0, 1) := by decide +kernel
theorem dX5_ofDoll_81 : decode cX5_ofDoll 81 = .ok (.getfield 13, 3) := by decide +kernel
theorem dX5_ofDoll_84 : decode cX5_ofDoll 84 = .ok (.iload_n 1, 1) := by decide +kernel
theorem dX5_ofDoll_85 : decode cX5_ofDoll 85 = .ok (.aaload, 1) := by decide +kernel
theorem dX5_ofDoll_86 : decode cX5_ofDoll 86 = .ok (.getfield 102, 3) := by decide +kernel
theorem dX5_ofDoll_89 : decode cX5_ofDoll 89 = .ok (.ireturn, 1) := by decide +kernel
theorem dX5_ofDoll_90 : decode cX5_ofDoll 90 = .ok (.aload_n 0, 1) := by decide +kernel
theorem dX5_ofDoll_91 : decode cX5_ofDoll 91 = .ok (.getfield 13, 3) := by decide +kernel
theorem dX5_ofDoll_94 : decode cX5_ofDoll 94 = .ok (.iload_n 1, 1) := by decide +kernel
theorem dX5_ofDoll_95 : decode cX5_ofDoll 95 = .ok (.aaload, 1) := by decide +kernel
theorem dX5_ofDoll_96 : decode cX5_ofDoll 96 = .ok (.invokevirtual 105, 3) := by decide +kernel
theorem dX5_ofDoll_99 : decode cX5_ofDoll 99 = .ok (.ireturn, 1) := by decide +kernel
theorem dX5_ofDoll_100 : decode cX5_ofDoll 100 = .ok (.aload_n 0, 1) := by decide +kernel
theorem dX5_ofDoll_101 : decode cX5_ofDoll 101 = .ok (.getfield 84, 3) := by decide +kernel
theorem dX5_ofDoll_104 : decode cX5_ofDoll 104 = .ok (.iload_n 1, 1) := by decide +kernel
theorem dX5_ofDoll_105 : decode cX5_ofDoll 105 = .ok (.invokestatic 109, 3) := by decide +kernel
theorem dX5_ofDoll_108 : decode cX5_ofDoll 108 = .ok (.ireturn, 1) := by decide +kernel
theorem dX5_ofDoll_109 : decode cX5_ofDoll 109 = .ok (.aload_n 0, 1) := by decide +kernel
theorem dX5_ofDoll_110 : decode cX5_ofDoll 110 = .ok (.getfield 84, 3) := by decide +kernel
theorem dX5_ofDoll_113 : decode cX5_ofDoll 113 = .ok (.iload_n 1, 1) := by decide +kernel
theorem dX5_ofDoll_114 : decode cX5_ofDoll 114 = .ok (.invokestatic 113, 3) := by decide +kernel
theorem dX5_ofDoll_117 : decode cX5_ofDoll 117 = .ok (.invokestatic 117, 3) := by decide +kernel
theorem dX5_ofDoll_120 : decode cX5_ofDoll 120 = .ok (.ireturn, 1) := by decide +kernel
theorem dX5_ofDoll_121 : decode cX5_ofDoll 121 = .ok (.aload_n 0, 1) := by decide +kernel
theorem dX5_ofDoll_122 : decode cX5_ofDoll 122 = .ok (.getfield 84, 3) := by decide +kernel
theorem dX5_ofDoll_125 : decode cX5_ofDoll 125 = .ok (.aload_n 0, 1) := by decide +kernel
theorem dX5_ofDoll_126 : decode cX5_ofDoll 126 = .ok (.getfield 72, 3) := by decide +kernel
theorem dX5_ofDoll_129 : decode cX5_ofDoll 129 = .ok (.invokestatic 121, 3) := by decide +kernel
theorem dX5_ofDoll_132 : decode cX5_ofDoll 132 = .ok (.iload_n 1, 1) := by decide +kernel
theorem dX5_ofDoll_133 : decode cX5_ofDoll 133 = .ok (.invokestatic 124, 3) := by decide +kernel
theorem dX5_ofDoll_136 : decode cX5_ofDoll 136 = .ok (.invokestatic 117, 3) := by decide +kernel
theorem dX5_ofDoll_139 : decode cX5_ofDoll 139 = .ok (.ireturn, 1) := by decide +kernel
theorem dX5_ofDoll_140 : decode cX5_ofDoll 140 = .ok (.aload_n 0, 1) := by decide +kernel
theorem dX5_ofDoll_141 : decode cX5_ofDoll 141 = .ok (.getfield 84, 3) := by decide +kernel
theorem dX5_ofDoll_144 : decode cX5_ofDoll 144 = .ok (.iload_n 1, 1) := by decide +kernel
theorem dX5_ofDoll_145 : decode cX5_ofDoll 145 = .ok (.aload_n 0, 1) := by decide +kernel
theorem dX5_ofDoll_146 : decode cX5_ofDoll 146 = .ok (.getfield 72, 3) := by decide +kernel
theorem dX5_ofDoll_149 : decode cX5_ofDoll 149 = .ok (.invokestatic 127, 3) := by decide +kernel
theorem dX5_ofDoll_152 : decode cX5_ofDoll 152 = .ok (.ireturn, 1) := by decide +kernel
theorem dX5_ofDoll_153 : decode cX5_ofDoll 153 = .ok (.aload_n 0, 1) := by decide +kernel
theorem dX5_ofDoll_154 : decode cX5_ofDoll 154 = .ok (.getfield 84, 3) := by decide +kernel
theorem dX5_ofDoll_157 : decode cX5_ofDoll 157 = .ok (.iload_n 1, 1) := by decide +kernel
theorem dX5_ofDoll_158 : decode cX5_ofDoll 158 = .ok (.aload_n 0, 1) := by decide +kernel
theorem dX5_ofDoll_159 : decode cX5_ofDoll 159 = .ok (.getfield 72, 3) := by decide +kernel
theorem dX5_ofDoll_162 : decode cX5_ofDoll 162 = .ok (.invokestatic 130, 3) := by decide +kernel
theorem dX5_ofDoll_165 : decode cX5_ofDoll 165 = .ok (.ireturn, 1) := by decide +kernel
theorem dX5_ofDoll_166 : decode cX5_ofDoll 166 = .ok (.bipush (-2), 2) := by decide +kernel
theorem dX5_ofDoll_168 : decode cX5_ofDoll 168 = .ok (.ireturn, 1) := by decide +kernel
def f_X5_ofDoll (N : Nat) (x1 : Int32) (x2 : Int32) (σ : St) : Option Int32 :=
  bd (f_X5_isDoll x1 σ) fun r_1 =>
  if r_1 = 0 then (some (-1 : Int32))
  else if x2 = (0 : Int32) then (gd (ck x1 4) <|
      some (σ.1 1 (Int32.toNatClampNeg x1)))
    else if x2 = (1 : Int32) then (gd (ck x1 4) <|
      some (σ.1 2 (Int32.toNatClampNeg x1)))
    else if x2 = (2 : Int32) then (gd (ck x1 4) <|
      some (σ.1 3 (Int32.toNatClampNeg x1)))
    else if x2 = (3 : Int32) then (gd (ck x1 4) <|
      bd (f_X0_wide (Int32.toNatClampNeg x1) σ) fun r_12 =>
      some r_12)
    else if x2 = (4 : Int32) then (bd (f_X3_placeOf (σ.1 0 1) x1) fun r_15 =>
      some r_15)
    else if x2 = (5 : Int32) then (bd (f_X3_isOpen (σ.1 0 1) x1) fun r_18 =>
      bd (f_X5_oneIf r_18) fun r_20 =>
      some r_20)
    else if x2 = (6 : Int32) then (bd (f_X3_handSet N (σ.1 0 1) (σ.1 0 0)) fun r_23 =>
      bd (f_X5_has r_23 x1) fun r_25 =>
      bd (f_X5_oneIf r_25) fun r_27 =>
      some r_27)
    else if x2 = (7 : Int32) then (bd (f_X3_innerOf N (σ.1 0 1) x1 (σ.1 0 0)) fun r_30 =>
      some r_30)
    else if x2 = (8 : Int32) then (bd (f_X3_manyWithin N (σ.1 0 1) x1 (σ.1 0 0)) fun r_33 =>
      some r_33)
    else some (-2 : Int32)
abbrev rmX5_ofDoll : Room := { frames := 3, cells := 0, slots := 0, locals := 69 }
set_option maxRecDepth 100000 in
set_option maxHeartbeats 4000000 in
theorem c_X5_ofDoll (l : Launch) (D : va_G) (a : Nat → Nat) (c : Nat → ClassId) (A : Nat → Prop) (hD : ∀ σ, va_D A (cW a c σ)) (N : Nat) (x1 : Int32) (x2 : Int32) (σ : St) (r : Int32) (hf : f_X5_ofDoll N x1 x2 σ = some r) : MetI l yX5_ofDoll cX5_ofDoll 3 (some .int) rmX5_ofDoll (cW a c) D c A [.ref (a 0), .int x1, .int x2] σ r σ := by
  refine mkI (by decide) (Nat.le_of_ble_eq_true rfl) rfl ?_
  intro p e s m args below meth cd Q ls h0 hK hP hret hl
  obtain ⟨S, hr, hlk⟩ := h0
  obtain ⟨hx, hb, hml, hown, ht⟩ := id S
  have hS : va_S A s.heap s.heap [] := va_S.rf
  have hl : lv_has ls 3 [(0, .ref (a 0)), (1, .int x1), (2, .int x2)] := hl
  have hf := obs hf
  have hf := oun (f_X5_ofDoll.eq_1 _ _ _ _) hf
  refine lv_aload_n hx hb dX5_ofDoll_0 rfl (lv_at hl 0 rfl) ?_
  refine lv_iload_n hx hb dX5_ofDoll_1 rfl (lv_at hl 1 rfl) ?_
  obtain ⟨r_1, h_2, hf⟩ := obd hf
  refine xv_I (As := [.int x1]) (rest := []) S k_X5_isDoll q183 q184 q185 ⟨Nat.le_of_ble_eq_true rfl, Nat.le_of_ble_eq_true rfl⟩ ⟨rfl, rfl⟩ (c_X5_isDoll l D a c A hD x1 σ r_1 h_2) hK hP hS (va_recv hK.1 hP (rfl : vwCl[3]? = some (RX5, TX5, 12)) (cw0 a c σ)) rfl hl.1 rfl (Nat.le_of_ble_eq_true rfl) dX5_ofDoll_2 ⟨Nat.zero_le _, Nat.zero_le _⟩ (fun H locs hP hS => ?_)
  refine lv_if_ne (tgt := 10) hx hb dX5_ofDoll_5 (by decide) (fun c_3 => ?_) (fun c_3 => ?_)
  · have hf := oif c_3 hf
    refine lv_iload_n hx hb dX5_ofDoll_10 rfl (lv_at hl 2 rfl) ?_
    by_cases c_4 : x2 = (0 : Int32)
    · have hf := oit c_4 hf
      refine lv_tableIn (tgt := 60) (off := 49) hx hb dX5_ofDoll_11 (by rw [c_4]; decide) (by rw [c_4]; decide) (by rw [c_4]; decide) (by decide) ?_
      refine lv_aload_n hx hb dX5_ofDoll_60 rfl (lv_at hl 0 rfl) ?_
      refine va_get (D := D) (ci := 3) (v := .ref (a 1)) (C := RX5) (T := TX5) (N := 12) hx hb ht gX5 hown hK.1 hP 0 (cw0 a c σ) rfl 0 (by decide) (ht _ q13) (fun _ h9 => h9) rfl dX5_ofDoll_61 ?_
      refine lv_iload_n hx hb dX5_ofDoll_64 rfl (lv_at hl 1 rfl) ?_
      obtain ⟨g_5, hf⟩ := ogd hf
      refine va_aldq hx hb hK.1 hP 1 3 (cw1 a c σ) rfl (ck_in g_5) dX5_ofDoll_65 ?_
      refine W.eq (g2 := F0 m 66 ls [.ref (a (11 + (Int32.toNatClampNeg x1)))]) rfl ?_
      refine va_get (D := D) (ci := 0) (v := .int (σ.1 1 (Int32.toNatClampNeg x1))) (C := RX0) (T := TX0) (N := 3) hx hb ht gX0 hown hK.1 hP (11 + (Int32.toNatClampNeg x1)) (cwX0 a c σ (Int32.toNatClampNeg x1) (ck_lt g_5)) rfl 0 (by decide) (ht _ q180) (fun _ h9 => h9) rfl dX5_ofDoll_66 ?_
      exact hret _ _ _ _ _ _ dX5_ofDoll_69 rfl hP hS ⟨Option.some.inj hf, rfl⟩
    have hf := oif c_4 hf
    by_cases c_6 : x2 = (1 : Int32)
    · have hf := oit c_6 hf
      refine lv_tableIn (tgt := 70) (off := 59) hx hb dX5_ofDoll_11 (by rw [c_6]; decide) (by rw [c_6]; decide) (by rw [c_6]; decide) (by decide) ?_
      refine lv_aload_n hx hb dX5_ofDoll_70 rfl (lv_at hl 0 rfl) ?_
      refine va_get (D := D) (ci := 3) (v := .ref (a 1)) (C := RX5) (T := TX5) (N := 12) hx hb ht gX5 hown hK.1 hP 0 (cw0 a c σ) rfl 0 (by decide) (ht _ q13) (fun _ h9 => h9) rfl dX5_ofDoll_71 ?_
      refine lv_iload_n hx hb dX5_ofDoll_74 rfl (lv_at hl 1 rfl) ?_
      obtain ⟨g_7, hf⟩ := ogd hf
      refine va_aldq hx hb hK.1 hP 1 3 (cw1 a c σ) rfl (ck_in g_7) dX5_ofDoll_75 ?_
      refine W.eq (g2 := F0 m 76 ls [.ref (a (11 + (Int32.toNatClampNeg x1)))]) rfl ?_
      refine va_get (D := D) (ci := 0) (v := .int (σ.1 2 (Int32.toNatClampNeg x1))) (C := RX0) (T := TX0) (N := 3) hx hb ht gX0 hown hK.1 hP (11 + (Int32.toNatClampNeg x1)) (cwX0 a c σ (Int32.toNatClampNeg x1) (ck_lt g_7)) rfl 1 (by decide) (ht _ q181) (fun _ h9 => h9) rfl dX5_ofDoll_76 ?_
      exact hret _ _ _ _ _ _ dX5_ofDoll_79 rfl hP hS ⟨Option.some.inj hf, rfl⟩
    have hf := oif c_6 hf
    by_cases c_8 : x2 = (2 : Int32)
    · have hf := oit c_8 hf
      refine lv_tableIn (tgt := 80) (off := 69) hx hb dX5_ofDoll_11 (by rw [c_8]; decide) (by rw [c_8]; decide) (by rw [c_8]; decide) (by decide) ?_
      refine lv_aload_n hx hb dX5_ofDoll_80 rfl (lv_at hl 0 rfl) ?_
      refine va_get (D := D) (ci := 3) (v := .ref (a 1)) (C := RX5) (T := TX5) (N := 12) hx hb ht gX5 hown hK.1 hP 0 (cw0 a c σ) rfl 0 (by decide) (ht _ q13) (fun _ h9 => h9) rfl dX5_ofDoll_81 ?_
      refine lv_iload_n hx hb dX5_ofDoll_84 rfl (lv_at hl 1 rfl) ?_
      obtain ⟨g_9, hf⟩ := ogd hf
      refine va_aldq hx hb hK.1 hP 1 3 (cw1 a c σ) rfl (ck_in g_9) dX5_ofDoll_85 ?_
      refine W.eq (g2 := F0 m 86 ls [.ref (a (11 + (Int32.toNatClampNeg x1)))]) rfl ?_
      refine va_get (D := D) (ci := 0) (v := .int (σ.1 3 (Int32.toNatClampNeg x1))) (C := RX0) (T := TX0) (N := 3) hx hb ht gX0 hown hK.1 hP (11 + (Int32.toNatClampNeg x1)) (cwX0 a c σ (Int32.toNatClampNeg x1) (ck_lt g_9)) rfl 2 (by decide) (ht _ q182) (fun _ h9 => h9) rfl dX5_ofDoll_86 ?_
      exact hret _ _ _ _ _ _ dX5_ofDoll_89 rfl hP hS ⟨Option.some.inj hf, rfl⟩
    have hf := oif c_8 hf
    by_cases c_10 : x2 = (3 : Int32)
    · have hf := oit c_10 hf
      refine lv_tableIn (tgt := 90) (off := 79) hx hb dX5_ofDoll_11 (by rw [c_10]; decide) (by rw [c_10]; decide) (by rw [c_10]; decide) (by decide) ?_
      refine lv_aload_n hx hb dX5_ofDoll_90 rfl (lv_at hl 0 rfl) ?_
      refine va_get (D := D) (ci := 3) (v := .ref (a 1)) (C := RX5) (T := TX5) (N := 12) hx hb ht gX5 hown hK.1 hP 0 (cw0 a c σ) rfl 0 (by decide) (ht _ q13) (fun _ h9 => h9) rfl dX5_ofDoll_91 ?_
      refine lv_iload_n hx hb dX5_ofDoll_94 rfl (lv_at hl 1 rfl) ?_
      obtain ⟨g_11, hf⟩ := ogd hf
      refine va_aldq hx hb hK.1 hP 1 3 (cw1 a c σ) rfl (ck_in g_11) dX5_ofDoll_95 ?_
      refine W.eq (g2 := F0 m 96 ls [.ref (a (11 + (Int32.toNatClampNeg x1)))]) rfl ?_
      obtain ⟨r_12, h_13, hf⟩ := obd hf
      refine xv_I (As := []) (rest := []) S k_X0_wide q187 q188 q189 ⟨Nat.le_of_ble_eq_true rfl, Nat.le_of_ble_eq_true rfl⟩ ⟨rfl, rfl⟩ (c_X0_wide l D a c A hD (Int32.toNatClampNeg x1) σ (ck_lt g_11) r_12 h_13) hK hP hS (va_recv hK.1 hP (rfl : vwCl[0]? = some (RX0, TX0, 3)) (cwX0 a c σ (Int32.toNatClampNeg x1) (ck_lt g_11))) rfl hl.1 rfl (Nat.le_of_ble_eq_true rfl) dX5_ofDoll_96 ⟨Nat.zero_le _, Nat.zero_le _⟩ (fun H locs hP hS => ?_)
      exact hret _ _ _ _ _ _ dX5_ofDoll_99 rfl hP hS ⟨Option.some.inj hf, rfl⟩
    have hf := oif c_10 hf
    by_cases c_14 : x2 = (4 : Int32)
    · have hf := oit c_14 hf
      refine lv_tableIn (tgt := 100) (off := 89) hx hb dX5_ofDoll_11 (by rw [c_14]; decide) (by rw [c_14]; decide) (by rw [c_14]; decide) (by decide) ?_
      refine lv_aload_n hx hb dX5_ofDoll_100 rfl (lv_at hl 0 rfl) ?_
      refine va_get (D := D) (ci := 3) (v := .int (σ.1 0 1)) (C := RX5) (T := TX5) (N := 12) hx hb ht gX5 hown hK.1 hP 0 (cw0 a c σ) rfl 7 (by decide) (ht _ q116) (fun _ h9 => h9) rfl dX5_ofDoll_101 ?_
      refine lv_iload_n hx hb dX5_ofDoll_104 rfl (lv_at hl 1 rfl) ?_
      obtain ⟨r_15, h_16, hf⟩ := obd hf
      refine xs_S (As := [.int (σ.1 0 1), .int x1]) (rest := []) S k_X3_placeOf q192 q193 ⟨Nat.le_of_ble_eq_true rfl, Nat.le_of_ble_eq_true rfl⟩ ⟨rfl, rfl⟩ (c_X3_placeOf l (σ.1 0 1) x1 r_15 h_16) hK.2 rfl hl.1 rfl (Nat.le_of_ble_eq_true rfl) dX5_ofDoll_105 ⟨Nat.zero_le _, Nat.zero_le _⟩ ?_
      exact hret _ _ _ _ _ _ dX5_ofDoll_108 rfl hP hS ⟨Option.some.inj hf, rfl⟩
    have hf := oif c_14 hf
    by_cases c_17 : x2 = (5 : Int32)
    · have hf := oit c_17 hf
      refine lv_tableIn (tgt := 109) (off := 98) hx hb dX5_ofDoll_11 (by rw [c_17]; decide) (by rw [c_17]; decide) (by rw [c_17]; decide) (by decide) ?_
      refine lv_aload_n hx hb dX5_ofDoll_109 rfl (lv_at hl 0 rfl) ?_
      refine va_get (D := D) (ci := 3) (v := .int (σ.1 0 1)) (C := RX5) (T := TX5) (N := 12) hx hb ht gX5 hown hK.1 hP 0 (cw0 a c σ) rfl 7 (by decide) (ht _ q116) (fun _ h9 => h9) rfl dX5_ofDoll_110 ?_
      refine lv_iload_n hx hb dX5_ofDoll_113 rfl (lv_at hl 1 rfl) ?_
      obtain ⟨r_18, h_19, hf⟩ := obd hf
      refine xs_S (As := [.int (σ.1 0 1), .int x1]) (rest := []) S k_X3_isOpen q196 q197 ⟨Nat.le_of_ble_eq_true rfl, Nat.le_of_ble_eq_true rfl⟩ ⟨rfl, rfl⟩ (c_X3_isOpen l (σ.1 0 1) x1 r_18 h_19) hK.2 rfl hl.1 rfl (Nat.le_of_ble_eq_true rfl) dX5_ofDoll_114 ⟨Nat.zero_le _, Nat.zero_le _⟩ ?_
      obtain ⟨r_20, h_21, hf⟩ := obd hf
      refine xs_S (As := [.int r_18]) (rest := []) S k_X5_oneIf q204 q205 ⟨Nat.le_of_ble_eq_true rfl, Nat.le_of_ble_eq_true rfl⟩ ⟨rfl, rfl⟩ (c_X5_oneIf l r_18 r_20 h_21) hK.2 rfl hl.1 rfl (Nat.le_of_ble_eq_true rfl) dX5_ofDoll_117 ⟨Nat.zero_le _, Nat.zero_le _⟩ ?_
      exact hret _ _ _ _ _ _ dX5_ofDoll_120 rfl hP hS ⟨Option.some.inj hf, rfl⟩
    have hf := oif c_17 hf
    by_cases c_22 : x2 = (6 : Int32)
    · have hf := oit c_22 hf
      refine lv_tableIn (tgt := 121) (off := 110) hx hb dX5_ofDoll_11 (by rw [c_22]; decide) (by rw [c_22]; decide) (by rw [c_22]; decide) (by decide) ?_
      refine lv_aload_n hx hb dX5_ofDoll_121 rfl (lv_at hl 0 rfl) ?_
      refine va_get (D := D) (ci := 3) (v := .int (σ.1 0 1)) (C := RX5) (T := TX5) (N := 12) hx hb ht gX5 hown hK.1 hP 0 (cw0 a c σ) rfl 7 (by decide) (ht _ q116) (fun _ h9 => h9) rfl dX5_ofDoll_122 ?_
      refine lv_aload_n hx hb dX5_ofDoll_125 rfl (lv_at hl 0 rfl) ?_
      refine va_get (D := D) (ci := 3) (v := .int (σ.1 0 0)) (C := RX5) (T := TX5) (N := 12) hx hb ht gX5 hown hK.1 hP 0 (cw0 a c σ) rfl 6 (by decide) (ht _ q74) (fun _ h9 => h9) rfl dX5_ofDoll_126 ?_
      obtain ⟨r_23, h_24, hf⟩ := obd hf
      refine xs_S (As := [.int (σ.1 0 1), .int (σ.1 0 0)]) (rest := []) S k_X3_handSet q207 q208 ⟨Nat.le_of_ble_eq_true rfl, Nat.le_of_ble_eq_true rfl⟩ ⟨rfl, rfl⟩ (c_X3_handSet l N (σ.1 0 1) (σ.1 0 0) r_23 h_24) hK.2 rfl hl.1 rfl (Nat.le_of_ble_eq_true rfl) dX5_ofDoll_129 ⟨Nat.zero_le _, Nat.zero_le _⟩ ?_
      refine lv_iload_n hx hb dX5_ofDoll_132 rfl (lv_at hl 1 rfl) ?_
      obtain ⟨r_25, h_26, hf⟩ := obd hf
      refine xs_S (As := [.int r_23, .int x1]) (rest := []) S k_X5_has q214 q202 ⟨Nat.le_of_ble_eq_true rfl, Nat.le_of_ble_eq_true rfl⟩ ⟨rfl, rfl⟩ (c_X5_has l r_23 x1 r_25 h_26) hK.2 rfl hl.1 rfl (Nat.le_of_ble_eq_true rfl) dX5_ofDoll_133 ⟨Nat.zero_le _, Nat.zero_le _⟩ ?_
      obtain ⟨r_27, h_28, hf⟩ := obd hf
      refine xs_S (As := [.int r_25]) (rest := []) S k_X5_oneIf q204 q205 ⟨Nat.le_of_ble_eq_true rfl, Nat.le_of_ble_eq_true rfl⟩ ⟨rfl, rfl⟩ (c_X5_oneIf l r_25 r_27 h_28) hK.2 rfl hl.1 rfl (Nat.le_of_ble_eq_true rfl) dX5_ofDoll_136 ⟨Nat.zero_le _, Nat.zero_le _⟩ ?_
      exact hret _ _ _ _ _ _ dX5_ofDoll_139 rfl hP hS ⟨Option.some.inj hf, rfl⟩
    have hf := oif c_22 hf
    by_cases c_29 : x2 = (7 : Int32)
    · have hf := oit c_29 hf
      refine lv_tableIn (tgt := 140) (off := 129) hx hb dX5_ofDoll_11 (by rw [c_29]; decide) (by rw [c_29]; decide) (by rw [c_29]; decide) (by decide) ?_
      refine lv_aload_n hx hb dX5_ofDoll_140 rfl (lv_at hl 0 rfl) ?_
      refine va_get (D := D) (ci := 3) (v := .int (σ.1 0 1)) (C := RX5) (T := TX5) (N := 12) hx hb ht gX5 hown hK.1 hP 0 (cw0 a c σ) rfl 7 (by decide) (ht _ q116) (fun _ h9 => h9) rfl dX5_ofDoll_141 ?_
      refine lv_iload_n hx hb dX5_ofDoll_144 rfl (lv_at hl 1 rfl) ?_
      refine lv_aload_n hx hb dX5_ofDoll_145 rfl (lv_at hl 0 rfl) ?_
      refine va_get (D := D) (ci := 3) (v := .int (σ.1 0 0)) (C := RX5) (T := TX5) (N := 12) hx hb ht gX5 hown hK.1 hP 0 (cw0 a c σ) rfl 6 (by decide) (ht _ q74) (fun _ h9 => h9) rfl dX5_ofDoll_146 ?_
      obtain ⟨r_30, h_31, hf⟩ := obd hf
      refine xs_S (As := [.int (σ.1 0 1), .int x1, .int (σ.1 0 0)]) (rest := []) S k_X3_innerOf q215 q216 ⟨Nat.le_of_ble_eq_true rfl, Nat.le_of_ble_eq_true rfl⟩ ⟨rfl, rfl⟩ (c_X3_innerOf l N (σ.1 0 1) x1 (σ.1 0 0) r_30 h_31) hK.2 rfl hl.1 rfl (Nat.le_of_ble_eq_true rfl) dX5_ofDoll_149 ⟨Nat.zero_le _, Nat.zero_le _⟩ ?_
      exact hret _ _ _ _ _ _ dX5_ofDoll_152 rfl hP hS ⟨Option.some.inj hf, rfl⟩
    have hf := oif c_29 hf
    by_cases c_32 : x2 = (8 : Int32)
    · have hf := oit c_32 hf
      refine lv_tableIn (tgt := 153) (off := 142) hx hb dX5_ofDoll_11 (by rw [c_32]; decide) (by rw [c_32]; decide) (by rw [c_32]; decide) (by decide) ?_
      refine lv_aload_n hx hb dX5_ofDoll_153 rfl (lv_at hl 0 rfl) ?_
      refine va_get (D := D) (ci := 3) (v := .int (σ.1 0 1)) (C := RX5) (T := TX5) (N := 12) hx hb ht gX5 hown hK.1 hP 0 (cw0 a c σ) rfl 7 (by decide) (ht _ q116) (fun _ h9 => h9) rfl dX5_ofDoll_154 ?_
      refine lv_iload_n hx hb dX5_ofDoll_157 rfl (lv_at hl 1 rfl) ?_
      refine lv_aload_n hx hb dX5_ofDoll_158 rfl (lv_at hl 0 rfl) ?_
      refine va_get (D := D) (ci := 3) (v := .int (σ.1 0 0)) (C := RX5) (T := TX5) (N := 12) hx hb ht gX5 hown hK.1 hP 0 (cw0 a c σ) rfl 6 (by decide) (ht _ q74) (fun _ h9 => h9) rfl dX5_ofDoll_159 ?_
      obtain ⟨r_33, h_34, hf⟩ := obd hf
      refine xs_S (As := [.int (σ.1 0 1), .int x1, .int (σ.1 0 0)]) (rest := []) S k_X3_manyWithin q218 q219 ⟨Nat.le_of_ble_eq_true rfl, Nat.le_of_ble_eq_true rfl⟩ ⟨rfl, rfl⟩ (c_X3_manyWithin l N (σ.1 0 1) x1 (σ.1 0 0) r_33 h_34) hK.2 rfl hl.1 rfl (Nat.le_of_ble_eq_true rfl) dX5_ofDoll_162 ⟨Nat.zero_le _, Nat.zero_le _⟩ ?_
      exact hret _ _ _ _ _ _ dX5_ofDoll_165 rfl hP hS ⟨Option.some.inj hf, rfl⟩
    have hf := oif c_32 hf
    refine lv_tableOut (tgt := 166) hx hb dX5_ofDoll_11 (by have z0 := lv_neT c_4 (a := 0) rfl; have z1 := lv_neT c_6 (a := 1) rfl; have z2 := lv_neT c_8 (a := 2) rfl; have z3 := lv_neT c_10 (a := 3) rfl; have z4 := lv_neT c_14 (a := 4) rfl; have z5 := lv_neT c_17 (a := 5) rfl; have z6 := lv_neT c_22 (a := 6) rfl; have z7 := lv_neT c_29 (a := 7) rfl; have z8 := lv_neT c_32 (a := 8) rfl; omega) (by decide) ?_
    refine lv_bipush (v := (-2 : Int32)) hx hb dX5_ofDoll_166 (by decide) ?_
    exact hret _ _ _ _ _ _ dX5_ofDoll_168 rfl hP hS ⟨Option.some.inj hf, rfl⟩
  have hf := oit c_3 hf
  refine lv_iconst (v := (-1 : Int32)) hx hb dX5_ofDoll_8 (by decide) ?_
  exact hret _ _ _ _ _ _ dX5_ofDoll_9 rfl hP hS ⟨Option.some.inj hf, rfl⟩
theorem dX5_girth_0 : decode cX5_girth 0 = .ok (.aload_n 0, 1) := by decide +kernel
theorem dX5_girth_1 : decode cX5_girth 1 = .ok (.iload_n 1, 1) := by decide +kernel
theorem dX5_girth_2 : decode cX5_girth 2 = .ok (.invokevirtual 93, 3) := by decide +kernel
theorem dX5_girth_5 : decode cX5_girth 5 = .ok (.ifCond .ne 5, 3) := by decide +kernel
theorem dX5_girth_8 : decode cX5_girth 8 = .ok (.iconst (-1), 1) := by decide +kernel
theorem dX5_girth_9 : decode cX5_girth 9 = .ok (.ireturn, 1) := by decide +kernel
theorem dX5_girth_10 : decode cX5_girth 10 = .ok (.iload_n 2, 1) := by decide +kernel
theorem dX5_girth_11 : decode cX5_girth 11 = .ok (.iconst 1, 1) := by decide +kernel
theorem dX5_girth_12 : decode cX5_girth 12 = .ok (.if_icmp .lt 22, 3) := by decide +kernel
theorem dX5_girth_15 : decode cX5_girth 15 = .ok (.iload_n 2, 1) := by decide +kernel
theorem dX5_girth_16 : decode cX5_girth 16 = .ok (.bipush 9, 2) := by decide +kernel
theorem dX5_girth_18 : decode cX5_girth 18 = .ok (.if_icmp .gt 16, 3) := by decide +kernel
theorem dX5_girth_21 : decode cX5_girth 21 = .ok (.iload_n 2, 1) := by decide +kernel
theorem dX5_girth_22 : decode cX5_girth 22 = .ok (.aload_n 0, 1) := by decide +kernel
theorem dX5_girth_23 : decode cX5_girth 23 = .ok (.getfield 13, 3) := by decide +kernel
theorem dX5_girth_26 : decode cX5_girth 26 = .ok (.iload_n 1, 1) := by decide +kernel
theorem dX5_girth_27 : decode cX5_girth 27 = .ok (.aaload, 1) := by decide +kernel
theorem dX5_girth_28 : decode cX5_girth 28 = .ok (.getfield 102, 3) := by decide +kernel
theorem dX5_girth_31 : decode cX5_girth 31 = .ok (.if_icmp .gt 6, 3) := by decide +kernel
theorem dX5_girth_34 : decode cX5_girth 34 = .ok (.bipush (-2), 2) := by decide +kernel
theorem dX5_girth_36 : decode cX5_girth 36 = .ok (.ireturn, 1) := by decide +kernel
theorem dX5_girth_37 : decode cX5_girth 37 = .ok (.aload_n 0, 1) := by decide +kernel
theorem dX5_girth_38 : decode cX5_girth 38 = .ok (.getfield 13, 3) := by decide +kernel
theorem dX5_girth_41 : decode cX5_girth 41 = .ok (.iload_n 1, 1) := by decide +kernel
theorem dX5_girth_42 : decode cX5_girth 42 = .ok (.aaload, 1) := by decide +kernel
theorem dX5_girth_43 : decode cX5_girth 43 = .ok (.getfield 99, 3) := by decide +kernel
theorem dX5_girth_46 : decode cX5_girth 46 = .ok (.istore_n 3, 1) := by decide +kernel
theorem dX5_girth_47 : decode cX5_girth 47 = .ok (.aload_n 0, 1) := by decide +kernel
theorem dX5_girth_48 : decode cX5_girth 48 = .ok (.getfield 13, 3) := by decide +kernel
theorem dX5_girth_51 : decode cX5_girth 51 = .ok (.iload_n 1, 1) := by decide +kernel
theorem dX5_girth_52 : decode cX5_girth 52 = .ok (.aaload, 1) := by decide +kernel
theorem dX5_girth_53 : decode cX5_girth 53 = .ok (.iload_n 2, 1) := by decide +kernel
theorem dX5_girth_54 : decode cX5_girth 54 = .ok (.putfield 99, 3) := by decide +kernel
theorem dX5_girth_57 : decode cX5_girth 57 = .ok (.iload_n 3, 1) := by decide +kernel
theorem dX5_girth_58 : decode cX5_girth 58 = .ok (.ireturn, 1) := by decide +kernel
def f_X5_girth (x1 : Int32) (x2 : Int32) (σ : St) : Option (Int32 × St) :=
  bd (f_X5_isDoll x1 σ) fun r_1 =>
  if r_1 = 0 then (some ((-1 : Int32), σ))
  else if x2 < (1 : Int32) then (some ((-2 : Int32), σ))
    else if (9 : Int32) < x2 then (some ((-2 : Int32), σ))
    else gd (ck x1 4) <|
    if (σ.1 3 (Int32.toNatClampNeg x1)) < x2 then (gd (ck x1 4) <|
      nm (σ.1 2 (Int32.toNatClampNeg x1)) fun x3_9 =>
      gd (ck x1 4) <|
      nm (wS σ 2 (Int32.toNatClampNeg x1) x2) fun σ_11 =>
      some (x3_9, σ_11))
    else some ((-2 : Int32), σ)
abbrev rmX5_girth : Room := { frames := 1, cells := 0, slots := 0, locals := 21 }
set_option maxRecDepth 100000 in
set_option maxHeartbeats 4000000 in
theorem c_X5_girth (l : Launch) (D : va_G) (a : Nat → Nat) (c : Nat → ClassId) (A : Nat → Prop) (hD : ∀ σ, va_D A (cW a c σ)) (x1 : Int32) (x2 : Int32) (σ : St) (r : Int32) (u : St) (hf : f_X5_girth x1 x2 σ = some (r, u)) : MetI l yX5_girth cX5_girth 4 (some .int) rmX5_girth (cW a c) D c A [.ref (a 0), .int x1, .int x2] σ r u := by
  refine mkI (by decide) (Nat.le_of_ble_eq_true rfl) rfl ?_
  intro p e s m args below meth cd Q ls h0 hK hP hret hl
  obtain ⟨S, hr, hlk⟩ := h0
  obtain ⟨hx, hb, hml, hown, ht⟩ := id S
  have hS : va_S A s.heap s.heap [] := va_S.rf
  have hl : lv_has ls 4 [(0, .ref (a 0)), (1, .int x1), (2, .int x2)] := hl
  have hf := obs hf
  have hf := oun (f_X5_girth.eq_1 _ _ _) hf
  refine lv_aload_n hx hb dX5_girth_0 rfl (lv_at hl 0 rfl) ?_
  refine lv_iload_n hx hb dX5_girth_1 rfl (lv_at hl 1 rfl) ?_
  obtain ⟨r_1, h_2, hf⟩ := obd hf
  refine xv_I (As := [.int x1]) (rest := []) S k_X5_isDoll q183 q184 q185 ⟨Nat.le_of_ble_eq_true rfl, Nat.le_of_ble_eq_true rfl⟩ ⟨rfl, rfl⟩ (c_X5_isDoll l D a c A hD x1 σ r_1 h_2) hK hP hS (va_recv hK.1 hP (rfl : vwCl[3]? = some (RX5, TX5, 12)) (cw0 a c σ)) rfl hl.1 rfl (Nat.le_of_ble_eq_true rfl) dX5_girth_2 ⟨Nat.zero_le _, Nat.zero_le _⟩ (fun H locs hP hS => ?_)
  refine lv_if_ne (tgt := 10) hx hb dX5_girth_5 (by decide) (fun c_3 => ?_) (fun c_3 => ?_)
  · have hf := oif c_3 hf
    refine lv_iload_n hx hb dX5_girth_10 rfl (lv_at hl 2 rfl) ?_
    refine lv_iconst (v := (1 : Int32)) hx hb dX5_girth_11 (by decide) ?_
    refine lv_icmp_lt (tgt := 34) hx hb dX5_girth_12 (by decide) (fun c_4 => ?_) (fun c_4 => ?_)
    · have hf := oit c_4 hf
      refine lv_bipush (v := (-2 : Int32)) hx hb dX5_girth_34 (by decide) ?_
      exact hret _ _ _ _ _ _ dX5_girth_36 rfl hP hS (oret hf)
    have hf := oif c_4 hf
    refine lv_iload_n hx hb dX5_girth_15 rfl (lv_at hl 2 rfl) ?_
    refine lv_bipush (v := (9 : Int32)) hx hb dX5_girth_16 (by decide) ?_
    refine lv_icmp_gt (tgt := 34) hx hb dX5_girth_18 (by decide) (fun c_5 => ?_) (fun c_5 => ?_)
    · have hf := oit c_5 hf
      refine lv_bipush (v := (-2 : Int32)) hx hb dX5_girth_34 (by decide) ?_
      exact hret _ _ _ _ _ _ dX5_girth_36 rfl hP hS (oret hf)
    have hf := oif c_5 hf
    refine lv_iload_n hx hb dX5_girth_21 rfl (lv_at hl 2 rfl) ?_
    refine lv_aload_n hx hb dX5_girth_22 rfl (lv_at hl 0 rfl) ?_
    refine va_get (D := D) (ci := 3) (v := .ref (a 1)) (C := RX5) (T := TX5) (N := 12) hx hb ht gX5 hown hK.1 hP 0 (cw0 a c σ) rfl 0 (by decide) (ht _ q13) (fun _ h9 => h9) rfl dX5_girth_23 ?_
    refine lv_iload_n hx hb dX5_girth_26 rfl (lv_at hl 1 rfl) ?_
    obtain ⟨g_6, hf⟩ := ogd hf
    refine va_aldq hx hb hK.1 hP 1 3 (cw1 a c σ) rfl (ck_in g_6) dX5_girth_27 ?_
    refine W.eq (g2 := F0 m 28 ls [.ref (a (11 + (Int32.toNatClampNeg x1))), .int x2]) rfl ?_
    refine va_get (D := D) (ci := 0) (v := .int (σ.1 3 (Int32.toNatClampNeg x1))) (C := RX0) (T := TX0) (N := 3) hx hb ht gX0 hown hK.1 hP (11 + (Int32.toNatClampNeg x1)) (cwX0 a c σ (Int32.toNatClampNeg x1) (ck_lt g_6)) rfl 2 (by decide) (ht _ q182) (fun _ h9 => h9) rfl dX5_girth_28 ?_
    refine lv_icmp_gt (tgt := 37) hx hb dX5_girth_31 (by decide) (fun c_7 => ?_) (fun c_7 => ?_)
    · have hf := oit c_7 hf
      refine lv_aload_n hx hb dX5_girth_37 rfl (lv_at hl 0 rfl) ?_
      refine va_get (D := D) (ci := 3) (v := .ref (a 1)) (C := RX5) (T := TX5) (N := 12) hx hb ht gX5 hown hK.1 hP 0 (cw0 a c σ) rfl 0 (by decide) (ht _ q13) (fun _ h9 => h9) rfl dX5_girth_38 ?_
      refine lv_iload_n hx hb dX5_girth_41 rfl (lv_at hl 1 rfl) ?_
      obtain ⟨g_8, hf⟩ := ogd hf
      refine va_aldq hx hb hK.1 hP 1 3 (cw1 a c σ) rfl (ck_in g_8) dX5_girth_42 ?_
      refine W.eq (g2 := F0 m 43 ls [.ref (a (11 + (Int32.toNatClampNeg x1)))]) rfl ?_
      refine va_get (D := D) (ci := 0) (v := .int (σ.1 2 (Int32.toNatClampNeg x1))) (C := RX0) (T := TX0) (N := 3) hx hb ht gX0 hown hK.1 hP (11 + (Int32.toNatClampNeg x1)) (cwX0 a c σ (Int32.toNatClampNeg x1) (ck_lt g_8)) rfl 1 (by decide) (ht _ q181) (fun _ h9 => h9) rfl dX5_girth_43 ?_
      obtain ⟨x3_9, ex3_9, hf⟩ := onm hf
      refine lv_nm ex3_9 ?_
      refine lv_istore_n (lv' := [(3, .int x3_9), (0, .ref (a 0)), (1, .int x1), (2, .int x2)]) hx hb dX5_girth_46 rfl hl (by decide) rfl (fun ls hl => ?_)
      refine lv_aload_n hx hb dX5_girth_47 rfl (lv_at hl 1 rfl) ?_
      refine va_get (D := D) (ci := 3) (v := .ref (a 1)) (C := RX5) (T := TX5) (N := 12) hx hb ht gX5 hown hK.1 hP 0 (cw0 a c σ) rfl 0 (by decide) (ht _ q13) (fun _ h9 => h9) rfl dX5_girth_48 ?_
      refine lv_iload_n hx hb dX5_girth_51 rfl (lv_at hl 2 rfl) ?_
      obtain ⟨g_10, hf⟩ := ogd hf
      refine va_aldq hx hb hK.1 hP 1 3 (cw1 a c σ) rfl (ck_in g_10) dX5_girth_52 ?_
      refine W.eq (g2 := F0 m 53 ls [.ref (a (11 + (Int32.toNatClampNeg x1)))]) rfl ?_
      refine lv_iload_n hx hb dX5_girth_53 rfl (lv_at hl 3 rfl) ?_
      refine va_put (D := D) (ci := 0) (v := .int x2) (ty := .int) (C := RX0) (T := TX0) (N := 3) hx hb ht gX0 tyX0 tyX0_ok nmX0 hown hK.1 hP (hD σ) hS (11 + (Int32.toNatClampNeg x1)) (cwX0 a c σ (Int32.toNatClampNeg x1) (ck_lt g_10)) rfl 1 (by decide) (ht _ q181) (fun _ h9 => h9) rfl (by decide +kernel) rfl rfl (Nat.le_of_ble_eq_true rfl) dX5_girth_54 (fun H locs hP _ hS => ?_)
      have hP := vP_eq (cpX0_girth a c σ (Int32.toNatClampNeg x1) (ck_lt g_10) x2) hP
      obtain ⟨σ_11, eσ_11, hf⟩ := onm hf
      rw [eσ_11] at hP
      refine lv_iload_n hx hb dX5_girth_57 rfl (lv_at hl 0 rfl) ?_
      exact hret _ _ _ _ _ _ dX5_girth_58 rfl hP hS (oret hf)
    have hf := oif c_7 hf
    refine lv_bipush (v := (-2 : Int32)) hx hb dX5_girth_34 (by decide) ?_
    exact hret _ _ _ _ _ _ dX5_girth_36 rfl hP hS (oret hf)
  have hf := oit c_3 hf
  refine lv_iconst (v := (-1 : Int32)) hx hb dX5_girth_8 (by decide) ?_
  exact hret _ _ _ _ _ _ dX5_girth_9 rfl hP hS (oret hf)
theorem dX5_room_0 : decode cX5_room 0 = .ok (.aload_n 0, 1) := by decide +kernel
theorem dX5_room_1 : decode cX5_room 1 = .ok (.iload_n 1, 1) := by decide +kernel
theorem dX5_room_2 : decode cX5_room 2 = .ok (.invokevirtual 93, 3) := by decide +kernel
theorem dX5_room_5 : decode cX5_room 5 = .ok (.ifCond .ne 5, 3) := by decide +kernel
theorem dX5_room_8 : decode cX5_room 8 = .ok (.iconst (-1), 1) := by decide +kernel
theorem dX5_room_9 : decode cX5_room 9 = .ok (.ireturn, 1) := by decide +kernel
theorem dX5_room_10 : decode cX5_room 10 = .ok (.iload_n 2, 1) := by decide +kernel
theorem dX5_room_11 : decode cX5_room 11 = .ok (.ifCond .lt 22, 3) := by decide +kernel
theorem dX5_room_14 : decode cX5_room 14 = .ok (.iload_n 2, 1) := by decide +kernel
theorem dX5_room_15 : decode cX5_room 15 = .ok (.bipush 9, 2) := by decide +kernel
theorem dX5_room_17 : decode cX5_room 17 = .ok (.if_icmp .gt 16, 3) := by decide +kernel
theorem dX5_room_20 : decode cX5_room 20 = .ok (.iload_n 2, 1) := by decide +kernel
theorem dX5_room_21 : decode cX5_room 21 = .ok (.aload_n 0, 1) := by decide +kernel
theorem dX5_room_22 : decode cX5_room 22 = .ok (.getfield 13, 3) := by decide +kernel
theorem dX5_room_25 : decode cX5_room 25 = .ok (.iload_n 1, 1) := by decide +kernel
theorem dX5_room_26 : decode cX5_room 26 = .ok (.aaload, 1) := by decide +kernel
theorem dX5_room_27 : decode cX5_room 27 = .ok (.getfield 99, 3) := by decide +kernel
theorem dX5_room_30 : decode cX5_room 30 = .ok (.if_icmp .lt 6, 3) := by decide +kernel
theorem dX5_room_33 : decode cX5_room 33 = .ok (.bipush (-2), 2) := by decide +kernel
theorem dX5_room_35 : decode cX5_room 35 = .ok (.ireturn, 1) := by decide +kernel
theorem dX5_room_36 : decode cX5_room 36 = .ok (.aload_n 0, 1) := by decide +kernel
theorem dX5_room_37 : decode cX5_room 37 = .ok (.getfield 13, 3) := by decide +kernel
theorem dX5_room_40 : decode cX5_room 40 = .ok (.iload_n 1, 1) := by decide +kernel
theorem dX5_room_41 : decode cX5_room 41 = .ok (.aaload, 1) := by decide +kernel
theorem dX5_room_42 : decode cX5_room 42 = .ok (.getfield 102, 3) := by decide +kernel
theorem dX5_room_45 : decode cX5_room 45 = .ok (.istore_n 3, 1) := by decide +kernel
theorem dX5_room_46 : decode cX5_room 46 = .ok (.aload_n 0, 1) := by decide +kernel
theorem dX5_room_47 : decode cX5_room 47 = .ok (.getfield 13, 3) := by decide +kernel
theorem dX5_room_50 : decode cX5_room 50 = .ok (.iload_n 1, 1) := by decide +kernel
theorem dX5_room_51 : decode cX5_room 51 = .ok (.aaload, 1) := by decide +kernel
theorem dX5_room_52 : decode cX5_room 52 = .ok (.iload_n 2, 1) := by decide +kernel
theorem dX5_room_53 : decode cX5_room 53 = .ok (.putfield 102, 3) := by decide +kernel
theorem dX5_room_56 : decode cX5_room 56 = .ok (.iload_n 3, 1) := by decide +kernel
theorem dX5_room_57 : decode cX5_room 57 = .ok (.ireturn, 1) := by decide +kernel
def f_X5_room (x1 : Int32) (x2 : Int32) (σ : St) : Option (Int32 × St) :=
  bd (f_X5_isDoll x1 σ) fun r_1 =>
  if r_1 = 0 then (some ((-1 : Int32), σ))
  else if x2 < 0 then (some ((-2 : Int32), σ))
    else if (9 : Int32) < x2 then (some ((-2 : Int32), σ))
    else gd (ck x1 4) <|
    if x2 < (σ.1 2 (Int32.toNatClampNeg x1)) then (gd (ck x1 4) <|
      nm (σ.1 3 (Int32.toNatClampNeg x1)) fun x3_9 =>
      gd (ck x1 4) <|
      nm (wS σ 3 (Int32.toNatClampNeg x1) x2) fun σ_11 =>
      some (x3_9, σ_11))
    else some ((-2 : Int32), σ)
abbrev rmX5_room : Room := { frames := 1, cells := 0, slots := 0, locals := 21 }
set_option maxRecDepth 100000 in
set_option maxHeartbeats 4000000 in
theorem c_X5_room (l : Launch) (D : va_G) (a : Nat → Nat) (c : Nat → ClassId) (A : Nat → Prop) (hD : ∀ σ, va_D A (cW a c σ)) (x1 : Int32) (x2 : Int32) (σ : St) (r : Int32) (u : St) (hf : f_X5_room x1 x2 σ = some (r, u)) : MetI l yX5_room cX5_room 4 (some .int) rmX5_room (cW a c) D c A [.ref (a 0), .int x1, .int x2] σ r u := by
  refine mkI (by decide) (Nat.le_of_ble_eq_true rfl) rfl ?_
  intro p e s m args below meth cd Q ls h0 hK hP hret hl
  obtain ⟨S, hr, hlk⟩ := h0
  obtain ⟨hx, hb, hml, hown, ht⟩ := id S
  have hS : va_S A s.heap s.heap [] := va_S.rf
  have hl : lv_has ls 4 [(0, .ref (a 0)), (1, .int x1), (2, .int x2)] := hl
  have hf := obs hf
  have hf := oun (f_X5_room.eq_1 _ _ _) hf
  refine lv_aload_n hx hb dX5_room_0 rfl (lv_at hl 0 rfl) ?_
  refine lv_iload_n hx hb dX5_room_1 rfl (lv_at hl 1 rfl) ?_
  obtain ⟨r_1, h_2, hf⟩ := obd hf
  refine xv_I (As := [.int x1]) (rest := []) S k_X5_isDoll q183 q184 q185 ⟨Nat.le_of_ble_eq_true rfl, Nat.le_of_ble_eq_true rfl⟩ ⟨rfl, rfl⟩ (c_X5_isDoll l D a c A hD x1 σ r_1 h_2) hK hP hS (va_recv hK.1 hP (rfl : vwCl[3]? = some (RX5, TX5, 12)) (cw0 a c σ)) rfl hl.1 rfl (Nat.le_of_ble_eq_true rfl) dX5_room_2 ⟨Nat.zero_le _, Nat.zero_le _⟩ (fun H locs hP hS => ?_)
  refine lv_if_ne (tgt := 10) hx hb dX5_room_5 (by decide) (fun c_3 => ?_) (fun c_3 => ?_)
  · have hf := oif c_3 hf
    refine lv_iload_n hx hb dX5_room_10 rfl (lv_at hl 2 rfl) ?_
    refine lv_if_lt (tgt := 33) hx hb dX5_room_11 (by decide) (fun c_4 => ?_) (fun c_4 => ?_)
    · have hf := oit c_4 hf
      refine lv_bipush (v := (-2 : Int32)) hx hb dX5_room_33 (by decide) ?_
      exact hret _ _ _ _ _ _ dX5_room_35 rfl hP hS (oret hf)
    have hf := oif c_4 hf
    refine lv_iload_n hx hb dX5_room_14 rfl (lv_at hl 2 rfl) ?_
    refine lv_bipush (v := (9 : Int32)) hx hb dX5_room_15 (by decide) ?_
    refine lv_icmp_gt (tgt := 33) hx hb dX5_room_17 (by decide) (fun c_5 => ?_) (fun c_5 => ?_)
    · have hf := oit c_5 hf
      refine lv_bipush (v := (-2 : Int32)) hx hb dX5_room_33 (by decide) ?_
      exact hret _ _ _ _ _ _ dX5_room_35 rfl hP hS (oret hf)
    have hf := oif c_5 hf
    refine lv_iload_n hx hb dX5_room_20 rfl (lv_at hl 2 rfl) ?_
    refine lv_aload_n hx hb dX5_room_21 rfl (lv_at hl 0 rfl) ?_
    refine va_get (D := D) (ci := 3) (v := .ref (a 1)) (C := RX5) (T := TX5) (N := 12) hx hb ht gX5 hown hK.1 hP 0 (cw0 a c σ) rfl 0 (by decide) (ht _ q13) (fun _ h9 => h9) rfl dX5_room_22 ?_
    refine lv_iload_n hx hb dX5_room_25 rfl (lv_at hl 1 rfl) ?_
    obtain ⟨g_6, hf⟩ := ogd hf
    refine va_aldq hx hb hK.1 hP 1 3 (cw1 a c σ) rfl (ck_in g_6) dX5_room_26 ?_
    refine W.eq (g2 := F0 m 27 ls [.ref (a (11 + (Int32.toNatClampNeg x1))), .int x2]) rfl ?_
    refine va_get (D := D) (ci := 0) (v := .int (σ.1 2 (Int32.toNatClampNeg x1))) (C := RX0) (T := TX0) (N := 3) hx hb ht gX0 hown hK.1 hP (11 + (Int32.toNatClampNeg x1)) (cwX0 a c σ (Int32.toNatClampNeg x1) (ck_lt g_6)) rfl 1 (by decide) (ht _ q181) (fun _ h9 => h9) rfl dX5_room_27 ?_
    refine lv_icmp_lt (tgt := 36) hx hb dX5_room_30 (by decide) (fun c_7 => ?_) (fun c_7 => ?_)
    · have hf := oit c_7 hf
      refine lv_aload_n hx hb dX5_room_36 rfl (lv_at hl 0 rfl) ?_
      refine va_get (D := D) (ci := 3) (v := .ref (a 1)) (C := RX5) (T := TX5) (N := 12) hx hb ht gX5 hown hK.1 hP 0 (cw0 a c σ) rfl 0 (by decide) (ht _ q13) (fun _ h9 => h9) rfl dX5_room_37 ?_
      refine lv_iload_n hx hb dX5_room_40 rfl (lv_at hl 1 rfl) ?_
      obtain ⟨g_8, hf⟩ := ogd hf
      refine va_aldq hx hb hK.1 hP 1 3 (cw1 a c σ) rfl (ck_in g_8) dX5_room_41 ?_
      refine W.eq (g2 := F0 m 42 ls [.ref (a (11 + (Int32.toNatClampNeg x1)))]) rfl ?_
      refine va_get (D := D) (ci := 0) (v := .int (σ.1 3 (Int32.toNatClampNeg x1))) (C := RX0) (T := TX0) (N := 3) hx hb ht gX0 hown hK.1 hP (11 + (Int32.toNatClampNeg x1)) (cwX0 a c σ (Int32.toNatClampNeg x1) (ck_lt g_8)) rfl 2 (by decide) (ht _ q182) (fun _ h9 => h9) rfl dX5_room_42 ?_
      obtain ⟨x3_9, ex3_9, hf⟩ := onm hf
      refine lv_nm ex3_9 ?_
      refine lv_istore_n (lv' := [(3, .int x3_9), (0, .ref (a 0)), (1, .int x1), (2, .int x2)]) hx hb dX5_room_45 rfl hl (by decide) rfl (fun ls hl => ?_)
      refine lv_aload_n hx hb dX5_room_46 rfl (lv_at hl 1 rfl) ?_
      refine va_get (D := D) (ci := 3) (v := .ref (a 1)) (C := RX5) (T := TX5) (N := 12) hx hb ht gX5 hown hK.1 hP 0 (cw0 a c σ) rfl 0 (by decide) (ht _ q13) (fun _ h9 => h9) rfl dX5_room_47 ?_
      refine lv_iload_n hx hb dX5_room_50 rfl (lv_at hl 2 rfl) ?_
      obtain ⟨g_10, hf⟩ := ogd hf
      refine va_aldq hx hb hK.1 hP 1 3 (cw1 a c σ) rfl (ck_in g_10) dX5_room_51 ?_
      refine W.eq (g2 := F0 m 52 ls [.ref (a (11 + (Int32.toNatClampNeg x1)))]) rfl ?_
      refine lv_iload_n hx hb dX5_room_52 rfl (lv_at hl 3 rfl) ?_
      refine va_put (D := D) (ci := 0) (v := .int x2) (ty := .int) (C := RX0) (T := TX0) (N := 3) hx hb ht gX0 tyX0 tyX0_ok nmX0 hown hK.1 hP (hD σ) hS (11 + (Int32.toNatClampNeg x1)) (cwX0 a c σ (Int32.toNatClampNeg x1) (ck_lt g_10)) rfl 2 (by decide) (ht _ q182) (fun _ h9 => h9) rfl (by decide +kernel) rfl rfl (Nat.le_of_ble_eq_true rfl) dX5_room_53 (fun H locs hP _ hS => ?_)
      have hP := vP_eq (cpX0_room a c σ (Int32.toNatClampNeg x1) (ck_lt g_10) x2) hP
      obtain ⟨σ_11, eσ_11, hf⟩ := onm hf
      rw [eσ_11] at hP
      refine lv_iload_n hx hb dX5_room_56 rfl (lv_at hl 0 rfl) ?_
      exact hret _ _ _ _ _ _ dX5_room_57 rfl hP hS (oret hf)
    have hf := oif c_7 hf
    refine lv_bipush (v := (-2 : Int32)) hx hb dX5_room_33 (by decide) ?_
    exact hret _ _ _ _ _ _ dX5_room_35 rfl hP hS (oret hf)
  have hf := oit c_3 hf
  refine lv_iconst (v := (-1 : Int32)) hx hb dX5_room_8 (by decide) ?_
  exact hret _ _ _ _ _ _ dX5_room_9 rfl hP hS (oret hf)
theorem dX5_areTwo_0 : decode cX5_areTwo 0 = .ok (.aload_n 0, 1) := by decide +kernel
theorem dX5_areTwo_1 : decode cX5_areTwo 1 = .ok (.iload_n 1, 1) := by decide +kernel
theorem dX5_areTwo_2 : decode cX5_areTwo 2 = .ok (.invokevirtual 93, 3) := by decide +kernel
theorem dX5_areTwo_5 : decode cX5_areTwo 5 = .ok (.ifCond .eq 20, 3) := by decide +kernel
theorem dX5_areTwo_8 : decode cX5_areTwo 8 = .ok (.aload_n 0, 1) := by decide +kernel
theorem dX5_areTwo_9 : decode cX5_areTwo 9 = .ok (.iload_n 2, 1) := by decide +kernel
theorem dX5_areTwo_10 : decode cX5_areTwo 10 = .ok (.invokevirtual 93, 3) := by decide +kernel
theorem dX5_areTwo_13 : decode cX5_areTwo 13 = .ok (.ifCond .eq 12, 3) := by decide +kernel
theorem dX5_areTwo_16 : decode cX5_areTwo 16 = .ok (.iload_n 1, 1) := by decide +kernel
theorem dX5_areTwo_17 : decode cX5_areTwo 17 = .ok (.iload_n 2, 1) := by decide +kernel
theorem dX5_areTwo_18 : decode cX5_areTwo 18 = .ok (.if_icmp .eq 7, 3) := by decide +kernel
theorem dX5_areTwo_21 : decode cX5_areTwo 21 = .ok (.iconst 1, 1) := by decide +kernel
theorem dX5_areTwo_22 : decode cX5_areTwo 22 = .ok (.goto 4, 3) := by decide +kernel
theorem dX5_areTwo_25 : decode cX5_areTwo 25 = .ok (.iconst 0, 1) := by decide +kernel
theorem dX5_areTwo_26 : decode cX5_areTwo 26 = .ok (.ireturn, 1) := by decide +kernel
def f_X5_areTwo (x1 : Int32) (x2 : Int32) (σ : St) : Option Int32 :=
  bd (f_X5_isDoll x1 σ) fun r_1 =>
  if r_1 = 0 then (some (0 : Int32))
  else bd (f_X5_isDoll x2 σ) fun r_4 =>
  if r_4 = 0 then (some (0 : Int32))
  else if x1 = x2 then (some (0 : Int32))
  else some (1 : Int32)
abbrev rmX5_areTwo : Room := { frames := 1, cells := 0, slots := 0, locals := 21 }
set_option maxRecDepth 100000 in
set_option maxHeartbeats 4000000 in
theorem c_X5_areTwo (l : Launch) (D : va_G) (a : Nat → Nat) (c : Nat → ClassId) (A : Nat → Prop) (hD : ∀ σ, va_D A (cW a c σ)) (x1 : Int32) (x2 : Int32) (σ : St) (r : Int32) (hf : f_X5_areTwo x1 x2 σ = some r) : MetI l yX5_areTwo cX5_areTwo 3 (some .boolean) rmX5_areTwo (cW a c) D c A [.ref (a 0), .int x1, .int x2] σ r σ := by
  refine mkI (by decide) (Nat.le_of_ble_eq_true rfl) rfl ?_
  intro p e s m args below meth cd Q ls h0 hK hP hret hl
  obtain ⟨S, hr, hlk⟩ := h0
  obtain ⟨hx, hb, hml, hown, ht⟩ := id S
  have hS : va_S A s.heap s.heap [] := va_S.rf
  have hl : lv_has ls 3 [(0, .ref (a 0)), (1, .int x1), (2, .int x2)] := hl
  have hf := obs hf
  have hf := oun (f_X5_areTwo.eq_1 _ _ _) hf
  refine lv_aload_n hx hb dX5_areTwo_0 rfl (lv_at hl 0 rfl) ?_
  refine lv_iload_n hx hb dX5_areTwo_1 rfl (lv_at hl 1 rfl) ?_
  obtain ⟨r_1, h_2, hf⟩ := obd hf
  refine xv_I (As := [.int x1]) (rest := []) S k_X5_isDoll q183 q184 q185 ⟨Nat.le_of_ble_eq_true rfl, Nat.le_of_ble_eq_true rfl⟩ ⟨rfl, rfl⟩ (c_X5_isDoll l D a c A hD x1 σ r_1 h_2) hK hP hS (va_recv hK.1 hP (rfl : vwCl[3]? = some (RX5, TX5, 12)) (cw0 a c σ)) rfl hl.1 rfl (Nat.le_of_ble_eq_true rfl) dX5_areTwo_2 ⟨Nat.zero_le _, Nat.zero_le _⟩ (fun H locs hP hS => ?_)
  refine lv_if_eq (tgt := 25) hx hb dX5_areTwo_5 (by decide) (fun c_3 => ?_) (fun c_3 => ?_)
  · have hf := oit c_3 hf
    refine lv_iconst (v := (0 : Int32)) hx hb dX5_areTwo_25 (by decide) ?_
    exact hret _ _ _ _ _ _ dX5_areTwo_26 (by decide) hP hS ⟨Option.some.inj hf, rfl⟩
  have hf := oif c_3 hf
  refine lv_aload_n hx hb dX5_areTwo_8 rfl (lv_at hl 0 rfl) ?_
  refine lv_iload_n hx hb dX5_areTwo_9 rfl (lv_at hl 2 rfl) ?_
  obtain ⟨r_4, h_5, hf⟩ := obd hf
  refine xv_I (As := [.int x2]) (rest := []) S k_X5_isDoll q183 q184 q185 ⟨Nat.le_of_ble_eq_true rfl, Nat.le_of_ble_eq_true rfl⟩ ⟨rfl, rfl⟩ (c_X5_isDoll l D a c A hD x2 σ r_4 h_5) hK hP hS (va_recv hK.1 hP (rfl : vwCl[3]? = some (RX5, TX5, 12)) (cw0 a c σ)) rfl hl.1 rfl (Nat.le_of_ble_eq_true rfl) dX5_areTwo_10 ⟨Nat.zero_le _, Nat.zero_le _⟩ (fun H locs hP hS => ?_)
  refine lv_if_eq (tgt := 25) hx hb dX5_areTwo_13 (by decide) (fun c_6 => ?_) (fun c_6 => ?_)
  · have hf := oit c_6 hf
    refine lv_iconst (v := (0 : Int32)) hx hb dX5_areTwo_25 (by decide) ?_
    exact hret _ _ _ _ _ _ dX5_areTwo_26 (by decide) hP hS ⟨Option.some.inj hf, rfl⟩
  have hf := oif c_6 hf
  refine lv_iload_n hx hb dX5_areTwo_16 rfl (lv_at hl 1 rfl) ?_
  refine lv_iload_n hx hb dX5_areTwo_17 rfl (lv_at hl 2 rfl) ?_
  refine lv_icmp_eq (tgt := 25) hx hb dX5_areTwo_18 (by decide) (fun c_7 => ?_) (fun c_7 => ?_)
  · have hf := oit c_7 hf
    refine lv_iconst (v := (0 : Int32)) hx hb dX5_areTwo_25 (by decide) ?_
    exact hret _ _ _ _ _ _ dX5_areTwo_26 (by decide) hP hS ⟨Option.some.inj hf, rfl⟩
  have hf := oif c_7 hf
  refine lv_iconst (v := (1 : Int32)) hx hb dX5_areTwo_21 (by decide) ?_
  refine lv_goto (tgt := 26) hx hb dX5_areTwo_22 (by decide) ?_
  exact hret _ _ _ _ _ _ dX5_areTwo_26 (by decide) hP hS ⟨Option.some.inj hf, rfl⟩
theorem dX5_fits_0 : decode cX5_fits 0 = .ok (.aload_n 0, 1) := by decide +kernel
theorem dX5_fits_1 : decode cX5_fits 1 = .ok (.iload_n 1, 1) := by decide +kernel
theorem dX5_fits_2 : decode cX5_fits 2 = .ok (.iload_n 2, 1) := by decide +kernel
theorem dX5_fits_3 : decode cX5_fits 3 = .ok (.invokevirtual 133, 3) := by decide +kernel
theorem dX5_fits_6 : decode cX5_fits 6 = .ok (.ifCond .ne 5, 3) := by decide +kernel
theorem dX5_fits_9 : decode cX5_fits 9 = .ok (.iconst (-1), 1) := by decide +kernel
theorem dX5_fits_10 : decode cX5_fits 10 = .ok (.ireturn, 1) := by decide +kernel
theorem dX5_fits_11 : decode cX5_fits 11 = .ok (.aload_n 0, 1) := by decide +kernel
theorem dX5_fits_12 : decode cX5_fits 12 = .ok (.getfield 13, 3) := by decide +kernel
theorem dX5_fits_15 : decode cX5_fits 15 = .ok (.iload_n 1, 1) := by decide +kernel
theorem dX5_fits_16 : decode cX5_fits 16 = .ok (.aaload, 1) := by decide +kernel
theorem dX5_fits_17 : decode cX5_fits 17 = .ok (.aload_n 0, 1) := by decide +kernel
theorem dX5_fits_18 : decode cX5_fits 18 = .ok (.getfield 13, 3) := by decide +kernel
theorem dX5_fits_21 : decode cX5_fits 21 = .ok (.iload_n 2, 1) := by decide +kernel
theorem dX5_fits_22 : decode cX5_fits 22 = .ok (.aaload, 1) := by decide +kernel
theorem dX5_fits_23 : decode cX5_fits 23 = .ok (.invokevirtual 136, 3) := by decide +kernel
theorem dX5_fits_26 : decode cX5_fits 26 = .ok (.invokestatic 117, 3) := by decide +kernel
theorem dX5_fits_29 : decode cX5_fits 29 = .ok (.ireturn, 1) := by decide +kernel
def f_X5_fits (x1 : Int32) (x2 : Int32) (σ : St) : Option Int32 :=
  bd (f_X5_areTwo x1 x2 σ) fun r_1 =>
  if r_1 = 0 then (some (-1 : Int32))
  else gd (ck x1 4) <|
    gd (ck x2 4) <|
    bd (f_X0_goesInto (Int32.toNatClampNeg x1) (Int32.toNatClampNeg x2) σ) fun r_6 =>
    bd (f_X5_oneIf r_6) fun r_8 =>
    some r_8
abbrev rmX5_fits : Room := { frames := 2, cells := 0, slots := 0, locals := 43 }
set_option maxRecDepth 100000 in
set_option maxHeartbeats 4000000 in
theorem c_X5_fits (l : Launch) (D : va_G) (a : Nat → Nat) (c : Nat → ClassId) (A : Nat → Prop) (hD : ∀ σ, va_D A (cW a c σ)) (x1 : Int32) (x2 : Int32) (σ : St) (r : Int32) (hf : f_X5_fits x1 x2 σ = some r) : MetI l yX5_fits cX5_fits 3 (some .int) rmX5_fits (cW a c) D c A [.ref (a 0), .int x1, .int x2] σ r σ := by
  refine mkI (by decide) (Nat.le_of_ble_eq_true rfl) rfl ?_
  intro p e s m args below meth cd Q ls h0 hK hP hret hl
  obtain ⟨S, hr, hlk⟩ := h0
  obtain ⟨hx, hb, hml, hown, ht⟩ := id S
  have hS : va_S A s.heap s.heap [] := va_S.rf
  have hl : lv_has ls 3 [(0, .ref (a 0)), (1, .int x1), (2, .int x2)] := hl
  have hf := obs hf
  have hf := oun (f_X5_fits.eq_1 _ _ _) hf
  refine lv_aload_n hx hb dX5_fits_0 rfl (lv_at hl 0 rfl) ?_
  refine lv_iload_n hx hb dX5_fits_1 rfl (lv_at hl 1 rfl) ?_
  refine lv_iload_n hx hb dX5_fits_2 rfl (lv_at hl 2 rfl) ?_
  obtain ⟨r_1, h_2, hf⟩ := obd hf
  refine xv_I (As := [.int x1, .int x2]) (rest := []) S k_X5_areTwo q269 q270 q271 ⟨Nat.le_of_ble_eq_true rfl, Nat.le_of_ble_eq_true rfl⟩ ⟨rfl, rfl⟩ (c_X5_areTwo l D a c A hD x1 x2 σ r_1 h_2) hK hP hS (va_recv hK.1 hP (rfl : vwCl[3]? = some (RX5, TX5, 12)) (cw0 a c σ)) rfl hl.1 rfl (Nat.le_of_ble_eq_true rfl) dX5_fits_3 ⟨Nat.zero_le _, Nat.zero_le _⟩ (fun H locs hP hS => ?_)
  refine lv_if_ne (tgt := 11) hx hb dX5_fits_6 (by decide) (fun c_3 => ?_) (fun c_3 => ?_)
  · have hf := oif c_3 hf
    refine lv_aload_n hx hb dX5_fits_11 rfl (lv_at hl 0 rfl) ?_
    refine va_get (D := D) (ci := 3) (v := .ref (a 1)) (C := RX5) (T := TX5) (N := 12) hx hb ht gX5 hown hK.1 hP 0 (cw0 a c σ) rfl 0 (by decide) (ht _ q13) (fun _ h9 => h9) rfl dX5_fits_12 ?_
    refine lv_iload_n hx hb dX5_fits_15 rfl (lv_at hl 1 rfl) ?_
    obtain ⟨g_4, hf⟩ := ogd hf
    refine va_aldq hx hb hK.1 hP 1 3 (cw1 a c σ) rfl (ck_in g_4) dX5_fits_16 ?_
    refine W.eq (g2 := F0 m 17 ls [.ref (a (11 + (Int32.toNatClampNeg x1)))]) rfl ?_
    refine lv_aload_n hx hb dX5_fits_17 rfl (lv_at hl 0 rfl) ?_
    refine va_get (D := D) (ci := 3) (v := .ref (a 1)) (C := RX5) (T := TX5) (N := 12) hx hb ht gX5 hown hK.1 hP 0 (cw0 a c σ) rfl 0 (by decide) (ht _ q13) (fun _ h9 => h9) rfl dX5_fits_18 ?_
    refine lv_iload_n hx hb dX5_fits_21 rfl (lv_at hl 2 rfl) ?_
    obtain ⟨g_5, hf⟩ := ogd hf
    refine va_aldq hx hb hK.1 hP 1 3 (cw1 a c σ) rfl (ck_in g_5) dX5_fits_22 ?_
    refine W.eq (g2 := F0 m 23 ls [.ref (a (11 + (Int32.toNatClampNeg x2))), .ref (a (11 + (Int32.toNatClampNeg x1)))]) rfl ?_
    obtain ⟨r_6, h_7, hf⟩ := obd hf
    refine xv_I (As := [.ref (a (11 + (Int32.toNatClampNeg x2)))]) (rest := []) S k_X0_goesInto q273 q274 q275 ⟨Nat.le_of_ble_eq_true rfl, Nat.le_of_ble_eq_true rfl⟩ ⟨rfl, rfl⟩ (c_X0_goesInto l D a c A hD (Int32.toNatClampNeg x1) (Int32.toNatClampNeg x2) σ (ck_lt g_4) (ck_lt g_5) r_6 h_7) hK hP hS (va_recv hK.1 hP (rfl : vwCl[0]? = some (RX0, TX0, 3)) (cwX0 a c σ (Int32.toNatClampNeg x1) (ck_lt g_4))) rfl hl.1 rfl (Nat.le_of_ble_eq_true rfl) dX5_fits_23 ⟨Nat.zero_le _, Nat.zero_le _⟩ (fun H locs hP hS => ?_)
    obtain ⟨r_8, h_9, hf⟩ := obd hf
    refine xs_S (As := [.int r_6]) (rest := []) S k_X5_oneIf q204 q205 ⟨Nat.le_of_ble_eq_true rfl, Nat.le_of_ble_eq_true rfl⟩ ⟨rfl, rfl⟩ (c_X5_oneIf l r_6 r_8 h_9) hK.2 rfl hl.1 rfl (Nat.le_of_ble_eq_true rfl) dX5_fits_26 ⟨Nat.zero_le _, Nat.zero_le _⟩ ?_
    exact hret _ _ _ _ _ _ dX5_fits_29 rfl hP hS ⟨Option.some.inj hf, rfl⟩
  have hf := oit c_3 hf
  refine lv_iconst (v := (-1 : Int32)) hx hb dX5_fits_9 (by decide) ?_
  exact hret _ _ _ _ _ _ dX5_fits_10 rfl hP hS ⟨Option.some.inj hf, rfl⟩
theorem dX5_fitting_0 : decode cX5_fitting 0 = .ok (.iconst 0, 1) := by decide +kernel
theorem dX5_fitting_1 : decode cX5_fitting 1 = .ok (.istore_n 1, 1) := by decide +kernel
theorem dX5_fitting_2 : decode cX5_fitting 2 = .ok (.iconst 0, 1) := by decide +kernel
theorem dX5_fitting_3 : decode cX5_fitting 3 = .ok (.istore_n 2, 1) := by decide +kernel
theorem dX5_fitting_4 : decode cX5_fitting 4 = .ok (.iload_n 2, 1) := by decide +kernel
theorem dX5_fitting_5 : decode cX5_fitting 5 = .ok (.aload_n 0, 1) := by decide +kernel
theorem dX5_fitting_6 : decode cX5_fitting 6 = .ok (.getfield 72, 3) := by decide +kernel
theorem dX5_fitting_9 : decode cX5_fitting 9 = .ok (.if_icmp .ge 58, 3) := by decide +kernel
theorem dX5_fitting_12 : decode cX5_fitting 12 = .ok (.iconst 0, 1) := by decide +kernel
theorem dX5_fitting_13 : decode cX5_fitting 13 = .ok (.istore_n 3, 1) := by decide +kernel
theorem dX5_fitting_14 : decode cX5_fitting 14 = .ok (.iload_n 3, 1) := by decide +kernel
theorem dX5_fitting_15 : decode cX5_fitting 15 = .ok (.aload_n 0, 1) := by decide +kernel
theorem dX5_fitting_16 : decode cX5_fitting 16 = .ok (.getfield 72, 3) := by decide +kernel
theorem dX5_fitting_19 : decode cX5_fitting 19 = .ok (.if_icmp .ge 42, 3) := by decide +kernel
theorem dX5_fitting_22 : decode cX5_fitting 22 = .ok (.iload_n 2, 1) := by decide +kernel
theorem dX5_fitting_23 : decode cX5_fitting 23 = .ok (.iload_n 3, 1) := by decide +kernel
theorem dX5_fitting_24 : decode cX5_fitting 24 = .ok (.if_icmp .eq 31, 3) := by decide +kernel
theorem dX5_fitting_27 : decode cX5_fitting 27 = .ok (.aload_n 0, 1) := by decide +kernel
theorem dX5_fitting_28 : decode cX5_fitting 28 = .ok (.getfield 13, 3) := by decide +kernel
theorem dX5_fitting_31 : decode cX5_fitting 31 = .ok (.iload_n 2, 1) := by decide +kernel
theorem dX5_fitting_32 : decode cX5_fitting 32 = .ok (.aaload, 1) := by decide +kernel
theorem dX5_fitting_33 : decode cX5_fitting 33 = .ok (.aload_n 0, 1) := by decide +kernel
theorem dX5_fitting_34 : decode cX5_fitting 34 = .ok (.getfield 13, 3) := by decide +kernel
theorem dX5_fitting_37 : decode cX5_fitting 37 = .ok (.iload_n 3, 1) := by decide +kernel
theorem dX5_fitting_38 : decode cX5_fitting 38 = .ok (.aaload, 1) := by decide +kernel
theorem dX5_fitting_39 : decode cX5_fitting 39 = .ok (.invokevirtual 136, 3) := by decide +kernel
theorem dX5_fitting_42 : decode cX5_fitting 42 = .ok (.ifCond .eq 13, 3) := by decide +kernel
theorem dX5_fitting_45 : decode cX5_fitting 45 = .ok (.iload_n 1, 1) := by decide +kernel
theorem dX5_fitting_46 : decode cX5_fitting 46 = .ok (.iconst 1, 1) := by decide +kernel
theorem dX5_fitting_47 : decode cX5_fitting 47 = .ok (.iconst 4, 1) := by decide +kernel
theorem dX5_fitting_48 : decode cX5_fitting 48 = .ok (.iload_n 2, 1) := by decide +kernel
theorem dX5_fitting_49 : decode cX5_fitting 49 = .ok (.imul, 1) := by decide +kernel
theorem dX5_fitting_50 : decode cX5_fitting 50 = .ok (.iload_n 3, 1) := by decide +kernel
theorem dX5_fitting_51 : decode cX5_fitting 51 = .ok (.iadd, 1) := by decide +kernel
theorem dX5_fitting_52 : decode cX5_fitting 52 = .ok (.ishl, 1) := by decide +kernel
theorem dX5_fitting_53 : decode cX5_fitting 53 = .ok (.ior, 1) := by decide +kernel
theorem dX5_fitting_54 : decode cX5_fitting 54 = .ok (.istore_n 1, 1) := by decide +kernel
theorem dX5_fitting_55 : decode cX5_fitting 55 = .ok (.iinc 3 1, 3) := by decide +kernel
theorem dX5_fitting_58 : decode cX5_fitting 58 = .ok (.goto (-44), 3) := by decide +kernel
theorem dX5_fitting_61 : decode cX5_fitting 61 = .ok (.iinc 2 1, 3) := by decide +kernel
theorem dX5_fitting_64 : decode cX5_fitting 64 = .ok (.goto (-60), 3) := by decide +kernel
theorem dX5_fitting_67 : decode cX5_fitting 67 = .ok (.iload_n 1, 1) := by decide +kernel
theorem dX5_fitting_68 : decode cX5_fitting 68 = .ok (.ireturn, 1) := by decide +kernel
def f_X5_fitting_j67 (N : Nat) (x1 : Int32) (σ : St) : Option Int32 :=
  some x1
def f_X5_fitting_j61 (N : Nat) (x1 : Int32) (x2 : Int32) (σ : St) : Option ((Int32 × Int32) ⊕ ((Int32))) :=
  nm (x2 + (1 : Int32)) fun x2_1 =>
  some (.inl (x1, x2_1))
def f_X5_fitting_j55 (N : Nat) (x1 : Int32) (x2 : Int32) (x3 : Int32) (σ : St) : Option ((Int32 × Int32) ⊕ ((Int32))) :=
  nm (x3 + (1 : Int32)) fun x3_2 =>
  some (.inl (x1, x3_2))
def f_X5_fitting_b14 (N : Nat) (x1 : Int32) (x2 : Int32) (x3 : Int32) (σ : St) : Option ((Int32 × Int32) ⊕ ((Int32))) :=
  if (σ.1 0 0) ≤ x3 then (some (.inr x1))
  else if x2 = x3 then (f_X5_fitting_j55 N x1 x2 x3 σ)
  else gd (ck x2 4) <|
  gd (ck x3 4) <|
  bd (f_X0_goesInto (Int32.toNatClampNeg x2) (Int32.toNatClampNeg x3) σ) fun r_7 =>
  if r_7 = 0 then (f_X5_fitting_j55 N x1 x2 x3 σ)
  else nm (x1 ||| ((1 : Int32) <<< ((((4 : Int32) * x2) + x3) &&& 31))) fun x1_10 =>
  f_X5_fitting_j55 N x1_10 x2 x3 σ
def f_X5_fitting_b4 (N : Nat) (x1 : Int32) (x2 : Int32) (σ : St) : Option ((Int32 × Int32) ⊕ ((Int32))) :=
  if (σ.1 0 0) ≤ x2 then (some (.inr x1))
  else bd (lpF (fun s => f_X5_fitting_b14 N s.1 x2 s.2 σ) N (x1, (0 : Int32))) (fun o => f_X5_fitting_j61 N o x2 σ)
def f_X5_fitting (N : Nat) (σ : St) : Option Int32 :=
  bd (lpF (fun s => f_X5_fitting_b4 N s.1 s.2 σ) N ((0 : Int32), (0 : Int32))) (fun o => f_X5_fitting_j67 N o σ)
abbrev rmX5_fitting : Room := { frames := 2, cells := 0, slots := 0, locals := 41 }
set_option maxRecDepth 100000 in
set_option maxHeartbeats 4000000 in
theorem c_X5_fitting (l : Launch) (D : va_G) (a : Nat → Nat) (c : Nat → ClassId) (A : Nat → Prop) (hD : ∀ σ, va_D A (cW a c σ)) (N : Nat) (σ : St) (r : Int32) (hf : f_X5_fitting N σ = some r) : MetI l yX5_fitting cX5_fitting 4 (some .int) rmX5_fitting (cW a c) D c A [.ref (a 0)] σ r σ := by
  refine mkI (by decide) (Nat.le_of_ble_eq_true rfl) rfl ?_
  intro p e s m args below meth cd Q ls h0 hK hP hret hl
  obtain ⟨S, hr, hlk⟩ := h0
  obtain ⟨hx, hb, hml, hown, ht⟩ := id S
  have hS : va_S A s.heap s.heap [] := va_S.rf
  have hl : lv_has ls 4 [(0, .ref (a 0))] := hl
  have hf := obs hf
  have j67 : ∀ (x1 : Int32) (H : Heap) (locs : List Loc) (ls : Array Slot), lv_has ls 4 [(1, .int x1)] → va_P D vwCl (cW a c σ) H → va_S A s.heap H locs → Option.bind (f_X5_fitting_j67 N x1 σ) some = some r → W p l e rmX5_fitting s m args below meth cd H locs 0 0 Q (F0 m 67 ls []) := by
    intro x1 H locs ls hl hP hS hf
    have hf := oun (f_X5_fitting_j67.eq_1 _ _ _) hf
    refine lv_iload_n hx hb dX5_fitting_67 rfl (lv_at hl 0 rfl) ?_
    exact hret _ _ _ _ _ _ dX5_fitting_68 rfl hP hS ⟨Option.some.inj hf, rfl⟩
  have L4 : ∀ (k : Nat) (x1 : Int32) (x2 : Int32) (H : Heap) (locs : List Loc) (ls : Array Slot), lv_has ls 4 [(0, .ref (a 0)), (1, .int x1), (2, .int x2)] → va_P D vwCl (cW a c σ) H → va_S A s.heap H locs → Option.bind (bd (lpF (fun s => f_X5_fitting_b4 N s.1 s.2 σ) k (x1, x2)) (fun o => f_X5_fitting_j67 N o σ)) some = some r → W p l e rmX5_fitting s m args below meth cd H locs 0 0 Q (F0 m 4 ls []) := by
    intro k
    induction k with
    | zero =>
      intro x1 x2 H locs ls hl hP hS hf
      exact (ol0 hf).elim
    | succ k ih =>
      intro x1 x2 H locs ls hl hP hS hf
      obtain ⟨K4, hf, hc4, hx4⟩ := ol1 hf
      have j61 : ∀ (x1 : Int32) (x2 : Int32) (H : Heap) (locs : List Loc) (ls : Array Slot), lv_has ls 4 [(0, .ref (a 0)), (1, .int x1), (2, .int x2)] → va_P D vwCl (cW a c σ) H → va_S A s.heap H locs → Option.bind (f_X5_fitting_j61 N x1 x2 σ) K4 = some r → W p l e rmX5_fitting s m args below meth cd H locs 0 0 Q (F0 m 61 ls []) := by
        intro x1 x2 H locs ls hl hP hS hf
        have hf := oun (f_X5_fitting_j61.eq_1 _ _ _ _) hf
        obtain ⟨x2_1, ex2_1, hf⟩ := onm hf
        refine lv_iinc (v := x2_1) (lv' := [(2, .int x2_1), (0, .ref (a 0)), (1, .int x1)]) hx hb dX5_fitting_61 hl (k := 2) rfl ex2_1 (by decide) rfl (fun ls hl => ?_)
        refine lv_goto (tgt := 4) hx hb dX5_fitting_64 (by decide) ?_
        exact ih x1 x2_1 _ _ _ (lv_sub hl [1, 2, 0] rfl) hP hS (okx hf (hc4 _))
      have L14 : ∀ (x2 : Int32) (k : Nat) (x1 : Int32) (x3 : Int32) (H : Heap) (locs : List Loc) (ls : Array Slot), lv_has ls 4 [(0, .ref (a 0)), (1, .int x1), (2, .int x2), (3, .int x3)] → va_P D vwCl (cW a c σ) H → va_S A s.heap H locs → Option.bind (bd (lpF (fun s => f_X5_fitting_b14 N s.1 x2 s.2 σ) k (x1, x3)) (fun o => f_X5_fitting_j61 N o x2 σ)) K4 = some r → W p l e rmX5_fitting s m args below meth cd H locs 0 0 Q (F0 m 14 ls []) := by
        intro x2 k
        induction k with
        | zero =>
          intro x1 x3 H locs ls hl hP hS hf
          exact (ol0 hf).elim
        | succ k ih =>
          intro x1 x3 H locs ls hl hP hS hf
          obtain ⟨K14, hf, hc14, hx14⟩ := ol1 hf
          have j55 : ∀ (x1 : Int32) (x3 : Int32) (H : Heap) (locs : List Loc) (ls : Array Slot), lv_has ls 4 [(0, .ref (a 0)), (1, .int x1), (2, .int x2), (3, .int x3)] → va_P D vwCl (cW a c σ) H → va_S A s.heap H locs → Option.bind (f_X5_fitting_j55 N x1 x2 x3 σ) K14 = some r → W p l e rmX5_fitting s m args below meth cd H locs 0 0 Q (F0 m 55 ls []) := by
            intro x1 x3 H locs ls hl hP hS hf
            have hf := oun (f_X5_fitting_j55.eq_1 _ _ _ _ _) hf
            obtain ⟨x3_2, ex3_2, hf⟩ := onm hf
            refine lv_iinc (v := x3_2) (lv' := [(3, .int x3_2), (0, .ref (a 0)), (1, .int x1), (2, .int x2)]) hx hb dX5_fitting_55 hl (k := 3) rfl ex3_2 (by decide) rfl (fun ls hl => ?_)
            refine lv_goto (tgt := 14) hx hb dX5_fitting_58 (by decide) ?_
            exact ih x1 x3_2 _ _ _ (lv_sub hl [1, 2, 3, 0] rfl) hP hS (okx hf (hc14 _))
          have hf := oun (f_X5_fitting_b14.eq_1 N x1 x2 x3 σ) hf
          refine lv_iload_n hx hb dX5_fitting_14 rfl (lv_at hl 3 rfl) ?_
          refine lv_aload_n hx hb dX5_fitting_15 rfl (lv_at hl 0 rfl) ?_
          refine va_get (D := D) (ci := 3) (v := .int (σ.1 0 0)) (C := RX5) (T := TX5) (N := 12) hx hb ht gX5 hown hK.1 hP 0 (cw0 a c σ) rfl 6 (by decide) (ht _ q74) (fun _ h9 => h9) rfl dX5_fitting_16 ?_
          refine lv_icmp_ge (tgt := 61) hx hb dX5_fitting_19 (by decide) (fun c_3 => ?_) (fun c_3 => ?_)
          · have hf := oit c_3 hf
            exact j61 x1 x2 _ _ _ (lv_sub hl [0, 1, 2] rfl) hP hS (okx hf (hx14 _))
          have hf := oif c_3 hf
          refine lv_iload_n hx hb dX5_fitting_22 rfl (lv_at hl 2 rfl) ?_
          refine lv_iload_n hx hb dX5_fitting_23 rfl (lv_at hl 3 rfl) ?_
          refine lv_icmp_eq (tgt := 55) hx hb dX5_fitting_24 (by decide) (fun c_4 => ?_) (fun c_4 => ?_)
          · have hf := oit c_4 hf
            exact j55 x1 x3 _ _ _ (lv_sub hl [0, 1, 2, 3] rfl) hP hS hf
          have hf := oif c_4 hf
          refine lv_aload_n hx hb dX5_fitting_27 rfl (lv_at hl 0 rfl) ?_
          refine va_get (D := D) (ci := 3) (v := .ref (a 1)) (C := RX5) (T := TX5) (N := 12) hx hb ht gX5 hown hK.1 hP 0 (cw0 a c σ) rfl 0 (by decide) (ht _ q13) (fun _ h9 => h9) rfl dX5_fitting_28 ?_
          refine lv_iload_n hx hb dX5_fitting_31 rfl (lv_at hl 2 rfl) ?_
          obtain ⟨g_5, hf⟩ := ogd hf
          refine va_aldq hx hb hK.1 hP 1 3 (cw1 a c σ) rfl (ck_in g_5) dX5_fitting_32 ?_
          refine W.eq (g2 := F0 m 33 ls [.ref (a (11 + (Int32.toNatClampNeg x2)))]) rfl ?_
          refine lv_aload_n hx hb dX5_fitting_33 rfl (lv_at hl 0 rfl) ?_
          refine va_get (D := D) (ci := 3) (v := .ref (a 1)) (C := RX5) (T := TX5) (N := 12) hx hb ht gX5 hown hK.1 hP 0 (cw0 a c σ) rfl 0 (by decide) (ht _ q13) (fun _ h9 => h9) rfl dX5_fitting_34 ?_
          refine lv_iload_n hx hb dX5_fitting_37 rfl (lv_at hl 3 rfl) ?_
          obtain ⟨g_6, hf⟩ := ogd hf
          refine va_aldq hx hb hK.1 hP 1 3 (cw1 a c σ) rfl (ck_in g_6) dX5_fitting_38 ?_
          refine W.eq (g2 := F0 m 39 ls [.ref (a (11 + (Int32.toNatClampNeg x3))), .ref (a (11 + (Int32.toNatClampNeg x2)))]) rfl ?_
          obtain ⟨r_7, h_8, hf⟩ := obd hf
          refine xv_I (As := [.ref (a (11 + (Int32.toNatClampNeg x3)))]) (rest := []) S k_X0_goesInto q273 q274 q275 ⟨Nat.le_of_ble_eq_true rfl, Nat.le_of_ble_eq_true rfl⟩ ⟨rfl, rfl⟩ (c_X0_goesInto l D a c A hD (Int32.toNatClampNeg x2) (Int32.toNatClampNeg x3) σ (ck_lt g_5) (ck_lt g_6) r_7 h_8) hK hP hS (va_recv hK.1 hP (rfl : vwCl[0]? = some (RX0, TX0, 3)) (cwX0 a c σ (Int32.toNatClampNeg x2) (ck_lt g_5))) rfl hl.1 rfl (Nat.le_of_ble_eq_true rfl) dX5_fitting_39 ⟨Nat.zero_le _, Nat.zero_le _⟩ (fun H locs hP hS => ?_)
          refine lv_if_eq (tgt := 55) hx hb dX5_fitting_42 (by decide) (fun c_9 => ?_) (fun c_9 => ?_)
          · have hf := oit c_9 hf
            exact j55 x1 x3 _ _ _ (lv_sub hl [0, 1, 2, 3] rfl) hP hS hf
          have hf := oif c_9 hf
          refine lv_iload_n hx hb dX5_fitting_45 rfl (lv_at hl 1 rfl) ?_
          refine lv_iconst (v := (1 : Int32)) hx hb dX5_fitting_46 (by decide) ?_
          refine lv_iconst (v := (4 : Int32)) hx hb dX5_fitting_47 (by decide) ?_
          refine lv_iload_n hx hb dX5_fitting_48 rfl (lv_at hl 2 rfl) ?_
          refine lv_imul hx hb dX5_fitting_49 ?_
          refine lv_iload_n hx hb dX5_fitting_50 rfl (lv_at hl 3 rfl) ?_
          refine lv_iadd hx hb dX5_fitting_51 ?_
          refine lv_ishl hx hb dX5_fitting_52 ?_
          refine lv_ior hx hb dX5_fitting_53 ?_
          obtain ⟨x1_10, ex1_10, hf⟩ := onm hf
          refine lv_nm ex1_10 ?_
          refine lv_istore_n (lv' := [(1, .int x1_10), (0, .ref (a 0)), (2, .int x2), (3, .int x3)]) hx hb dX5_fitting_54 rfl hl (by decide) rfl (fun ls hl => ?_)
          exact j55 x1_10 x3 _ _ _ (lv_sub hl [1, 0, 2, 3] rfl) hP hS hf
      have hf := oun (f_X5_fitting_b4.eq_1 N x1 x2 σ) hf
      refine lv_iload_n hx hb dX5_fitting_4 rfl (lv_at hl 2 rfl) ?_
      refine lv_aload_n hx hb dX5_fitting_5 rfl (lv_at hl 0 rfl) ?_
      refine va_get (D := D) (ci := 3) (v := .int (σ.1 0 0)) (C := RX5) (T := TX5) (N := 12) hx hb ht gX5 hown hK.1 hP 0 (cw0 a c σ) rfl 6 (by decide) (ht _ q74) (fun _ h9 => h9) rfl dX5_fitting_6 ?_
      refine lv_icmp_ge (tgt := 67) hx hb dX5_fitting_9 (by decide) (fun c_11 => ?_) (fun c_11 => ?_)
      · have hf := oit c_11 hf
        exact j67 x1 _ _ _ (lv_sub hl [1] rfl) hP hS (okx hf (hx4 _))
      have hf := oif c_11 hf
      refine lv_iconst (v := (0 : Int32)) hx hb dX5_fitting_12 (by decide) ?_
      refine lv_istore_n (lv' := [(3, .int (0 : Int32)), (0, .ref (a 0)), (1, .int x1), (2, .int x2)]) hx hb dX5_fitting_13 rfl hl (by decide) rfl (fun ls hl => ?_)
      exact L14 x2 N x1 (0 : Int32) _ _ _ (lv_sub hl [1, 2, 3, 0] rfl) hP hS hf
  have hf := oun (f_X5_fitting.eq_1 _ _) hf
  refine lv_iconst (v := (0 : Int32)) hx hb dX5_fitting_0 (by decide) ?_
  refine lv_istore_n (lv' := [(1, .int (0 : Int32)), (0, .ref (a 0))]) hx hb dX5_fitting_1 rfl hl (by decide) rfl (fun ls hl => ?_)
  refine lv_iconst (v := (0 : Int32)) hx hb dX5_fitting_2 (by decide) ?_
  refine lv_istore_n (lv' := [(2, .int (0 : Int32)), (1, .int (0 : Int32)), (0, .ref (a 0))]) hx hb dX5_fitting_3 rfl hl (by decide) rfl (fun ls hl => ?_)
  exact L4 N (0 : Int32) (0 : Int32) _ _ _ (lv_sub hl [2, 1, 0] rfl) hP hS hf
theorem dX5_doableAt_0 : decode cX5_doableAt 0 = .ok (.iload_n 1, 1) := by decide +kernel
theorem dX5_doableAt_1 : decode cX5_doableAt 1 = .ok (.aload_n 0, 1) := by decide +kernel
theorem dX5_doableAt_2 : decode cX5_doableAt 2 = .ok (.getfield 72, 3) := by decide +kernel
theorem dX5_doableAt_5 : decode cX5_doableAt 5 = .ok (.aload_n 0, 1) := by decide +kernel
theorem dX5_doableAt_6 : decode cX5_doableAt 6 = .ok (.invokevirtual 177, 3) := by decide +kernel
theorem dX5_doableAt_9 : decode cX5_doableAt 9 = .ok (.invokestatic 180, 3) := by decide +kernel
theorem dX5_doableAt_12 : decode cX5_doableAt 12 = .ok (.ireturn, 1) := by decide +kernel
def f_X5_doableAt (N : Nat) (x1 : Int32) (σ : St) : Option Int32 :=
  bd (f_X5_fitting N σ) fun r_1 =>
  bd (f_X3_doable N x1 (σ.1 0 0) r_1) fun r_3 =>
  some r_3
abbrev rmX5_doableAt : Room := { frames := 4, cells := 0, slots := 0, locals := 96 }
set_option maxRecDepth 100000 in
set_option maxHeartbeats 4000000 in
theorem c_X5_doableAt (l : Launch) (D : va_G) (a : Nat → Nat) (c : Nat → ClassId) (A : Nat → Prop) (hD : ∀ σ, va_D A (cW a c σ)) (N : Nat) (x1 : Int32) (σ : St) (r : Int32) (hf : f_X5_doableAt N x1 σ = some r) : MetI l yX5_doableAt cX5_doableAt 2 (some .int) rmX5_doableAt (cW a c) D c A [.ref (a 0), .int x1] σ r σ := by
  refine mkI (by decide) (Nat.le_of_ble_eq_true rfl) rfl ?_
  intro p e s m args below meth cd Q ls h0 hK hP hret hl
  obtain ⟨S, hr, hlk⟩ := h0
  obtain ⟨hx, hb, hml, hown, ht⟩ := id S
  have hS : va_S A s.heap s.heap [] := va_S.rf
  have hl : lv_has ls 2 [(0, .ref (a 0)), (1, .int x1)] := hl
  have hf := obs hf
  have hf := oun (f_X5_doableAt.eq_1 _ _ _) hf
  refine lv_iload_n hx hb dX5_doableAt_0 rfl (lv_at hl 1 rfl) ?_
  refine lv_aload_n hx hb dX5_doableAt_1 rfl (lv_at hl 0 rfl) ?_
  refine va_get (D := D) (ci := 3) (v := .int (σ.1 0 0)) (C := RX5) (T := TX5) (N := 12) hx hb ht gX5 hown hK.1 hP 0 (cw0 a c σ) rfl 6 (by decide) (ht _ q74) (fun _ h9 => h9) rfl dX5_doableAt_2 ?_
  refine lv_aload_n hx hb dX5_doableAt_5 rfl (lv_at hl 0 rfl) ?_
  obtain ⟨r_1, h_2, hf⟩ := obd hf
  refine xv_I (As := []) (rest := [.int (σ.1 0 0), .int x1]) S k_X5_fitting q302 q303 q304 ⟨Nat.le_of_ble_eq_true rfl, Nat.le_of_ble_eq_true rfl⟩ ⟨rfl, rfl⟩ (c_X5_fitting l D a c A hD N σ r_1 h_2) hK hP hS (va_recv hK.1 hP (rfl : vwCl[3]? = some (RX5, TX5, 12)) (cw0 a c σ)) rfl hl.1 rfl (Nat.le_of_ble_eq_true rfl) dX5_doableAt_6 ⟨Nat.zero_le _, Nat.zero_le _⟩ (fun H locs hP hS => ?_)
  obtain ⟨r_3, h_4, hf⟩ := obd hf
  refine xs_S (As := [.int x1, .int (σ.1 0 0), .int r_1]) (rest := []) S k_X3_doable q306 q307 ⟨Nat.le_of_ble_eq_true rfl, Nat.le_of_ble_eq_true rfl⟩ ⟨rfl, rfl⟩ (c_X3_doable l N x1 (σ.1 0 0) r_1 r_3 h_4) hK.2 rfl hl.1 rfl (Nat.le_of_ble_eq_true rfl) dX5_doableAt_9 ⟨Nat.zero_le _, Nat.zero_le _⟩ ?_
  exact hret _ _ _ _ _ _ dX5_doableAt_12 rfl hP hS ⟨Option.some.inj hf, rfl⟩
theorem dX5_manyOnTable_0 : decode cX5_manyOnTable 0 = .ok (.iload_n 1, 1) := by decide +kernel
theorem dX5_manyOnTable_1 : decode cX5_manyOnTable 1 = .ok (.aload_n 0, 1) := by decide +kernel
theorem dX5_manyOnTable_2 : decode cX5_manyOnTable 2 = .ok (.getfield 72, 3) := by decide +kernel
theorem dX5_manyOnTable_5 : decode cX5_manyOnTable 5 = .ok (.invokestatic 183, 3) := by decide +kernel
theorem dX5_manyOnTable_8 : decode cX5_manyOnTable 8 = .ok (.invokestatic 186, 3) := by decide +kernel
theorem dX5_manyOnTable_11 : decode cX5_manyOnTable 11 = .ok (.ireturn, 1) := by decide +kernel
def f_X5_manyOnTable (N : Nat) (x1 : Int32) (σ : St) : Option Int32 :=
  bd (f_X3_tableSet N x1 (σ.1 0 0)) fun r_1 =>
  bd (f_J6_bitCount_0f7a4 r_1) fun r_3 =>
  some r_3
abbrev rmX5_manyOnTable : Room := { frames := 2, cells := 0, slots := 0, locals := 44 }
set_option maxRecDepth 100000 in
set_option maxHeartbeats 4000000 in
theorem c_X5_manyOnTable (l : Launch) (D : va_G) (a : Nat → Nat) (c : Nat → ClassId) (A : Nat → Prop) (hD : ∀ σ, va_D A (cW a c σ)) (N : Nat) (x1 : Int32) (σ : St) (r : Int32) (hf : f_X5_manyOnTable N x1 σ = some r) : MetI l yX5_manyOnTable cX5_manyOnTable 2 (some .int) rmX5_manyOnTable (cW a c) D c A [.ref (a 0), .int x1] σ r σ := by
  refine mkI (by decide) (Nat.le_of_ble_eq_true rfl) rfl ?_
  intro p e s m args below meth cd Q ls h0 hK hP hret hl
  obtain ⟨S, hr, hlk⟩ := h0
  obtain ⟨hx, hb, hml, hown, ht⟩ := id S
  have hS : va_S A s.heap s.heap [] := va_S.rf
  have hl : lv_has ls 2 [(0, .ref (a 0)), (1, .int x1)] := hl
  have hf := obs hf
  have hf := oun (f_X5_manyOnTable.eq_1 _ _ _) hf
  refine lv_iload_n hx hb dX5_manyOnTable_0 rfl (lv_at hl 1 rfl) ?_
  refine lv_aload_n hx hb dX5_manyOnTable_1 rfl (lv_at hl 0 rfl) ?_
  refine va_get (D := D) (ci := 3) (v := .int (σ.1 0 0)) (C := RX5) (T := TX5) (N := 12) hx hb ht gX5 hown hK.1 hP 0 (cw0 a c σ) rfl 6 (by decide) (ht _ q74) (fun _ h9 => h9) rfl dX5_manyOnTable_2 ?_
  obtain ⟨r_1, h_2, hf⟩ := obd hf
  refine xs_S (As := [.int x1, .int (σ.1 0 0)]) (rest := []) S k_X3_tableSet q326 q311 ⟨Nat.le_of_ble_eq_true rfl, Nat.le_of_ble_eq_true rfl⟩ ⟨rfl, rfl⟩ (c_X3_tableSet l N x1 (σ.1 0 0) r_1 h_2) hK.2 rfl hl.1 rfl (Nat.le_of_ble_eq_true rfl) dX5_manyOnTable_5 ⟨Nat.zero_le _, Nat.zero_le _⟩ ?_
  obtain ⟨r_3, h_4, hf⟩ := obd hf
  refine xs_S (As := [.int r_1]) (rest := []) S k_J6_bitCount_0f7a4 q327 q328 ⟨Nat.le_of_ble_eq_true rfl, Nat.le_of_ble_eq_true rfl⟩ ⟨rfl, rfl⟩ (c_J6_bitCount_0f7a4 l r_1 r_3 h_4) hK.2 rfl hl.1 rfl (Nat.le_of_ble_eq_true rfl) dX5_manyOnTable_8 ⟨Nat.zero_le _, Nat.zero_le _⟩ ?_
  exact hret _ _ _ _ _ _ dX5_manyOnTable_11 rfl hP hS ⟨Option.some.inj hf, rfl⟩
theorem dX5_act_0 : decode cX5_act 0 = .ok (.iload_n 1, 1) := by decide +kernel
theorem dX5_act_1 : decode cX5_act 1 = .ok (.invokestatic 140, 3) := by decide +kernel
theorem dX5_act_4 : decode cX5_act 4 = .ok (.ifCond .ne 6, 3) := by decide +kernel
theorem dX5_act_7 : decode cX5_act 7 = .ok (.bipush (-2), 2) := by decide +kernel
theorem dX5_act_9 : decode cX5_act 9 = .ok (.ireturn, 1) := by decide +kernel
theorem dX5_act_10 : decode cX5_act 10 = .ok (.aload_n 0, 1) := by decide +kernel
theorem dX5_act_11 : decode cX5_act 11 = .ok (.getfield 72, 3) := by decide +kernel
theorem dX5_act_14 : decode cX5_act 14 = .ok (.ifCond .eq 18, 3) := by decide +kernel
theorem dX5_act_17 : decode cX5_act 17 = .ok (.aload_n 0, 1) := by decide +kernel
theorem dX5_act_18 : decode cX5_act 18 = .ok (.aload_n 0, 1) := by decide +kernel
theorem dX5_act_19 : decode cX5_act 19 = .ok (.getfield 84, 3) := by decide +kernel
theorem dX5_act_22 : decode cX5_act 22 = .ok (.invokevirtual 143, 3) := by decide +kernel
theorem dX5_act_25 : decode cX5_act 25 = .ok (.iload_n 1, 1) := by decide +kernel
theorem dX5_act_26 : decode cX5_act 26 = .ok (.invokestatic 124, 3) := by decide +kernel
theorem dX5_act_29 : decode cX5_act 29 = .ok (.ifCond .ne 6, 3) := by decide +kernel
theorem dX5_act_32 : decode cX5_act 32 = .ok (.bipush (-3), 2) := by decide +kernel
theorem dX5_act_34 : decode cX5_act 34 = .ok (.ireturn, 1) := by decide +kernel
theorem dX5_act_35 : decode cX5_act 35 = .ok (.aload_n 0, 1) := by decide +kernel
theorem dX5_act_36 : decode cX5_act 36 = .ok (.aload_n 0, 1) := by decide +kernel
theorem dX5_act_37 : decode cX5_act 37 = .ok (.getfield 84, 3) := by decide +kernel
theorem dX5_act_40 : decode cX5_act 40 = .ok (.iload_n 1, 1) := by decide +kernel
theorem dX5_act_41 : decode cX5_act 41 = .ok (.invokestatic 146, 3) := by decide +kernel
theorem dX5_act_44 : decode cX5_act 44 = .ok (.putfield 84, 3) := by decide +kernel
theorem dX5_act_47 : decode cX5_act 47 = .ok (.aload_n 0, 1) := by decide +kernel
theorem dX5_act_48 : decode cX5_act 48 = .ok (.dup, 1) := by decide +kernel
theorem dX5_act_49 : decode cX5_act 49 = .ok (.getfield 87, 3) := by decide +kernel
theorem dX5_act_52 : decode cX5_act 52 = .ok (.iconst 1, 1) := by decide +kernel
theorem dX5_act_53 : decode cX5_act 53 = .ok (.iadd, 1) := by decide +kernel
theorem dX5_act_54 : decode cX5_act 54 = .ok (.putfield 87, 3) := by decide +kernel
theorem dX5_act_57 : decode cX5_act 57 = .ok (.aload_n 0, 1) := by decide +kernel
theorem dX5_act_58 : decode cX5_act 58 = .ok (.aload_n 0, 1) := by decide +kernel
theorem dX5_act_59 : decode cX5_act 59 = .ok (.getfield 84, 3) := by decide +kernel
theorem dX5_act_62 : decode cX5_act 62 = .ok (.invokevirtual 149, 3) := by decide +kernel
theorem dX5_act_65 : decode cX5_act 65 = .ok (.ireturn, 1) := by decide +kernel
def f_X5_act (N : Nat) (x1 : Int32) (σ : St) : Option (Int32 × St) :=
  bd (f_X5_isAct x1) fun r_1 =>
  if r_1 = 0 then (some ((-2 : Int32), σ))
  else if (σ.1 0 0) = 0 then (some ((-3 : Int32), σ))
    else bd (f_X5_doableAt N (σ.1 0 1) σ) fun r_5 =>
    bd (f_X5_has r_5 x1) fun r_7 =>
    if r_7 = 0 then (some ((-3 : Int32), σ))
    else bd (f_X3_after (σ.1 0 1) x1) fun r_10 =>
      nm (wS σ 0 1 r_10) fun σ_12 =>
      nm (wS σ_12 0 2 ((σ_12.1 0 2) + (1 : Int32))) fun σ_13 =>
      bd (f_X5_manyOnTable N (σ_13.1 0 1) σ_13) fun r_14 =>
      some (r_14, σ_13)
abbrev rmX5_act : Room := { frames := 5, cells := 0, slots := 0, locals := 117 }
set_option maxRecDepth 100000 in
set_option maxHeartbeats 4000000 in
theorem c_X5_act (l : Launch) (D : va_G) (a : Nat → Nat) (c : Nat → ClassId) (A : Nat → Prop) (hD : ∀ σ, va_D A (cW a c σ)) (N : Nat) (x1 : Int32) (σ : St) (r : Int32) (u : St) (hf : f_X5_act N x1 σ = some (r, u)) : MetI l yX5_act cX5_act 2 (some .int) rmX5_act (cW a c) D c A [.ref (a 0), .int x1] σ r u := by
  refine mkI (by decide) (Nat.le_of_ble_eq_true rfl) rfl ?_
  intro p e s m args below meth cd Q ls h0 hK hP hret hl
  obtain ⟨S, hr, hlk⟩ := h0
  obtain ⟨hx, hb, hml, hown, ht⟩ := id S
  have hS : va_S A s.heap s.heap [] := va_S.rf
  have hl : lv_has ls 2 [(0, .ref (a 0)), (1, .int x1)] := hl
  have hf := obs hf
  have hf := oun (f_X5_act.eq_1 _ _ _) hf
  refine lv_iload_n hx hb dX5_act_0 rfl (lv_at hl 1 rfl) ?_
  obtain ⟨r_1, h_2, hf⟩ := obd hf
  refine xs_S (As := [.int x1]) (rest := []) S k_X5_isAct q295 q296 ⟨Nat.le_of_ble_eq_true rfl, Nat.le_of_ble_eq_true rfl⟩ ⟨rfl, rfl⟩ (c_X5_isAct l x1 r_1 h_2) hK.2 rfl hl.1 rfl (Nat.le_of_ble_eq_true rfl) dX5_act_1 ⟨Nat.zero_le _, Nat.zero_le _⟩ ?_
  refine lv_if_ne (tgt := 10) hx hb dX5_act_4 (by decide) (fun c_3 => ?_) (fun c_3 => ?_)
  · have hf := oif c_3 hf
    refine lv_aload_n hx hb dX5_act_10 rfl (lv_at hl 0 rfl) ?_
    refine va_get (D := D) (ci := 3) (v := .int (σ.1 0 0)) (C := RX5) (T := TX5) (N := 12) hx hb ht gX5 hown hK.1 hP 0 (cw0 a c σ) rfl 6 (by decide) (ht _ q74) (fun _ h9 => h9) rfl dX5_act_11 ?_
    refine lv_if_eq (tgt := 32) hx hb dX5_act_14 (by decide) (fun c_4 => ?_) (fun c_4 => ?_)
    · have hf := oit c_4 hf
      refine lv_bipush (v := (-3 : Int32)) hx hb dX5_act_32 (by decide) ?_
      exact hret _ _ _ _ _ _ dX5_act_34 rfl hP hS (oret hf)
    have hf := oif c_4 hf
    refine lv_aload_n hx hb dX5_act_17 rfl (lv_at hl 0 rfl) ?_
    refine lv_aload_n hx hb dX5_act_18 rfl (lv_at hl 0 rfl) ?_
    refine va_get (D := D) (ci := 3) (v := .int (σ.1 0 1)) (C := RX5) (T := TX5) (N := 12) hx hb ht gX5 hown hK.1 hP 0 (cw0 a c σ) rfl 7 (by decide) (ht _ q116) (fun _ h9 => h9) rfl dX5_act_19 ?_
    obtain ⟨r_5, h_6, hf⟩ := obd hf
    refine xv_I (As := [.int (σ.1 0 1)]) (rest := []) S k_X5_doableAt q298 q299 q300 ⟨Nat.le_of_ble_eq_true rfl, Nat.le_of_ble_eq_true rfl⟩ ⟨rfl, rfl⟩ (c_X5_doableAt l D a c A hD N (σ.1 0 1) σ r_5 h_6) hK hP hS (va_recv hK.1 hP (rfl : vwCl[3]? = some (RX5, TX5, 12)) (cw0 a c σ)) rfl hl.1 rfl (Nat.le_of_ble_eq_true rfl) dX5_act_22 ⟨Nat.zero_le _, Nat.zero_le _⟩ (fun H locs hP hS => ?_)
    refine lv_iload_n hx hb dX5_act_25 rfl (lv_at hl 1 rfl) ?_
    obtain ⟨r_7, h_8, hf⟩ := obd hf
    refine xs_S (As := [.int r_5, .int x1]) (rest := []) S k_X5_has q214 q202 ⟨Nat.le_of_ble_eq_true rfl, Nat.le_of_ble_eq_true rfl⟩ ⟨rfl, rfl⟩ (c_X5_has l r_5 x1 r_7 h_8) hK.2 rfl hl.1 rfl (Nat.le_of_ble_eq_true rfl) dX5_act_26 ⟨Nat.zero_le _, Nat.zero_le _⟩ ?_
    refine lv_if_ne (tgt := 35) hx hb dX5_act_29 (by decide) (fun c_9 => ?_) (fun c_9 => ?_)
    · have hf := oif c_9 hf
      refine lv_aload_n hx hb dX5_act_35 rfl (lv_at hl 0 rfl) ?_
      refine lv_aload_n hx hb dX5_act_36 rfl (lv_at hl 0 rfl) ?_
      refine va_get (D := D) (ci := 3) (v := .int (σ.1 0 1)) (C := RX5) (T := TX5) (N := 12) hx hb ht gX5 hown hK.1 hP 0 (cw0 a c σ) rfl 7 (by decide) (ht _ q116) (fun _ h9 => h9) rfl dX5_act_37 ?_
      refine lv_iload_n hx hb dX5_act_40 rfl (lv_at hl 1 rfl) ?_
      obtain ⟨r_10, h_11, hf⟩ := obd hf
      refine xs_S (As := [.int (σ.1 0 1), .int x1]) (rest := [.ref (a 0)]) S k_X3_after q316 q317 ⟨Nat.le_of_ble_eq_true rfl, Nat.le_of_ble_eq_true rfl⟩ ⟨rfl, rfl⟩ (c_X3_after l (σ.1 0 1) x1 r_10 h_11) hK.2 rfl hl.1 rfl (Nat.le_of_ble_eq_true rfl) dX5_act_41 ⟨Nat.zero_le _, Nat.zero_le _⟩ ?_
      refine va_put (D := D) (ci := 3) (v := .int r_10) (ty := .int) (C := RX5) (T := TX5) (N := 12) hx hb ht gX5 tyX5 tyX5_ok nmX5 hown hK.1 hP (hD σ) hS 0 (cw0 a c σ) rfl 7 (by decide) (ht _ q116) (fun _ h9 => h9) rfl (by decide +kernel) rfl rfl (Nat.le_of_ble_eq_true rfl) dX5_act_44 (fun H locs hP _ hS => ?_)
      have hP := vP_eq (cpX5_stand a c σ r_10) hP
      obtain ⟨σ_12, eσ_12, hf⟩ := onm hf
      rw [eσ_12] at hP
      refine lv_aload_n hx hb dX5_act_47 rfl (lv_at hl 0 rfl) ?_
      refine lv_dup hx hb dX5_act_48 rfl ?_
      refine va_get (D := D) (ci := 3) (v := .int (σ_12.1 0 2)) (C := RX5) (T := TX5) (N := 12) hx hb ht gX5 hown hK.1 hP 0 (cw0 a c σ_12) rfl 8 (by decide) (ht _ q117) (fun _ h9 => h9) rfl dX5_act_49 ?_
      refine lv_iconst (v := (1 : Int32)) hx hb dX5_act_52 (by decide) ?_
      refine lv_iadd hx hb dX5_act_53 ?_
      refine va_put (D := D) (ci := 3) (v := .int ((σ_12.1 0 2) + (1 : Int32))) (ty := .int) (C := RX5) (T := TX5) (N := 12) hx hb ht gX5 tyX5 tyX5_ok nmX5 hown hK.1 hP (hD σ_12) hS 0 (cw0 a c σ_12) rfl 8 (by decide) (ht _ q117) (fun _ h9 => h9) rfl (by decide +kernel) rfl rfl (Nat.le_of_ble_eq_true rfl) dX5_act_54 (fun H locs hP _ hS => ?_)
      have hP := vP_eq (cpX5_acts a c σ_12 ((σ_12.1 0 2) + (1 : Int32))) hP
      obtain ⟨σ_13, eσ_13, hf⟩ := onm hf
      rw [eσ_13] at hP
      refine lv_aload_n hx hb dX5_act_57 rfl (lv_at hl 0 rfl) ?_
      refine lv_aload_n hx hb dX5_act_58 rfl (lv_at hl 0 rfl) ?_
      refine va_get (D := D) (ci := 3) (v := .int (σ_13.1 0 1)) (C := RX5) (T := TX5) (N := 12) hx hb ht gX5 hown hK.1 hP 0 (cw0 a c σ_13) rfl 7 (by decide) (ht _ q116) (fun _ h9 => h9) rfl dX5_act_59 ?_
      obtain ⟨r_14, h_15, hf⟩ := obd hf
      refine xv_I (As := [.int (σ_13.1 0 1)]) (rest := []) S k_X5_manyOnTable q322 q323 q324 ⟨Nat.le_of_ble_eq_true rfl, Nat.le_of_ble_eq_true rfl⟩ ⟨rfl, rfl⟩ (c_X5_manyOnTable l D a c A hD N (σ_13.1 0 1) σ_13 r_14 h_15) hK hP hS (va_recv hK.1 hP (rfl : vwCl[3]? = some (RX5, TX5, 12)) (cw0 a c σ_13)) rfl hl.1 rfl (Nat.le_of_ble_eq_true rfl) dX5_act_62 ⟨Nat.zero_le _, Nat.zero_le _⟩ (fun H locs hP hS => ?_)
      exact hret _ _ _ _ _ _ dX5_act_65 rfl hP hS (oret hf)
    have hf := oit c_9 hf
    refine lv_bipush (v := (-3 : Int32)) hx hb dX5_act_32 (by decide) ?_
    exact hret _ _ _ _ _ _ dX5_act_34 rfl hP hS (oret hf)
  have hf := oit c_3 hf
  refine lv_bipush (v := (-2 : Int32)) hx hb dX5_act_7 (by decide) ?_
  exact hret _ _ _ _ _ _ dX5_act_9 rfl hP hS (oret hf)
theorem dX5_anew_0 : decode cX5_anew 0 = .ok (.aload_n 0, 1) := by decide +kernel
theorem dX5_anew_1 : decode cX5_anew 1 = .ok (.getfield 72, 3) := by decide +kernel
theorem dX5_anew_4 : decode cX5_anew 4 = .ok (.ifCond .ne 6, 3) := by decide +kernel
theorem dX5_anew_7 : decode cX5_anew 7 = .ok (.bipush (-3), 2) := by decide +kernel
theorem dX5_anew_9 : decode cX5_anew 9 = .ok (.ireturn, 1) := by decide +kernel
theorem dX5_anew_10 : decode cX5_anew 10 = .ok (.aload_n 0, 1) := by decide +kernel
theorem dX5_anew_11 : decode cX5_anew 11 = .ok (.getfield 72, 3) := by decide +kernel
theorem dX5_anew_14 : decode cX5_anew 14 = .ok (.aload_n 0, 1) := by decide +kernel
theorem dX5_anew_15 : decode cX5_anew 15 = .ok (.aload_n 0, 1) := by decide +kernel
theorem dX5_anew_16 : decode cX5_anew 16 = .ok (.getfield 84, 3) := by decide +kernel
theorem dX5_anew_19 : decode cX5_anew 19 = .ok (.invokevirtual 149, 3) := by decide +kernel
theorem dX5_anew_22 : decode cX5_anew 22 = .ok (.isub, 1) := by decide +kernel
theorem dX5_anew_23 : decode cX5_anew 23 = .ok (.istore_n 1, 1) := by decide +kernel
theorem dX5_anew_24 : decode cX5_anew 24 = .ok (.aload_n 0, 1) := by decide +kernel
theorem dX5_anew_25 : decode cX5_anew 25 = .ok (.iconst 0, 1) := by decide +kernel
theorem dX5_anew_26 : decode cX5_anew 26 = .ok (.putfield 84, 3) := by decide +kernel
theorem dX5_anew_29 : decode cX5_anew 29 = .ok (.iload_n 1, 1) := by decide +kernel
theorem dX5_anew_30 : decode cX5_anew 30 = .ok (.ireturn, 1) := by decide +kernel
def f_X5_anew (N : Nat) (σ : St) : Option (Int32 × St) :=
  if (σ.1 0 0) = 0 then (some ((-3 : Int32), σ))
  else bd (f_X5_manyOnTable N (σ.1 0 1) σ) fun r_2 =>
    nm ((σ.1 0 0) - r_2) fun x1_4 =>
    nm (wS σ 0 1 (0 : Int32)) fun σ_5 =>
    some (x1_4, σ_5)
abbrev rmX5_anew : Room := { frames := 3, cells := 0, slots := 0, locals := 65 }
set_option maxRecDepth 100000 in
set_option maxHeartbeats 4000000 in
theorem c_X5_anew (l : Launch) (D : va_G) (a : Nat → Nat) (c : Nat → ClassId) (A : Nat → Prop) (hD : ∀ σ, va_D A (cW a c σ)) (N : Nat) (σ : St) (r : Int32) (u : St) (hf : f_X5_anew N σ = some (r, u)) : MetI l yX5_anew cX5_anew 2 (some .int) rmX5_anew (cW a c) D c A [.ref (a 0)] σ r u := by
  refine mkI (by decide) (Nat.le_of_ble_eq_true rfl) rfl ?_
  intro p e s m args below meth cd Q ls h0 hK hP hret hl
  obtain ⟨S, hr, hlk⟩ := h0
  obtain ⟨hx, hb, hml, hown, ht⟩ := id S
  have hS : va_S A s.heap s.heap [] := va_S.rf
  have hl : lv_has ls 2 [(0, .ref (a 0))] := hl
  have hf := obs hf
  have hf := oun (f_X5_anew.eq_1 _ _) hf
  refine lv_aload_n hx hb dX5_anew_0 rfl (lv_at hl 0 rfl) ?_
  refine va_get (D := D) (ci := 3) (v := .int (σ.1 0 0)) (C := RX5) (T := TX5) (N := 12) hx hb ht gX5 hown hK.1 hP 0 (cw0 a c σ) rfl 6 (by decide) (ht _ q74) (fun _ h9 => h9) rfl dX5_anew_1 ?_
  refine lv_if_ne (tgt := 10) hx hb dX5_anew_4 (by decide) (fun c_1 => ?_) (fun c_1 => ?_)
  · have hf := oif c_1 hf
    refine lv_aload_n hx hb dX5_anew_10 rfl (lv_at hl 0 rfl) ?_
    refine va_get (D := D) (ci := 3) (v := .int (σ.1 0 0)) (C := RX5) (T := TX5) (N := 12) hx hb ht gX5 hown hK.1 hP 0 (cw0 a c σ) rfl 6 (by decide) (ht _ q74) (fun _ h9 => h9) rfl dX5_anew_11 ?_
    refine lv_aload_n hx hb dX5_anew_14 rfl (lv_at hl 0 rfl) ?_
    refine lv_aload_n hx hb dX5_anew_15 rfl (lv_at hl 0 rfl) ?_
    refine va_get (D := D) (ci := 3) (v := .int (σ.1 0 1)) (C := RX5) (T := TX5) (N := 12) hx hb ht gX5 hown hK.1 hP 0 (cw0 a c σ) rfl 7 (by decide) (ht _ q116) (fun _ h9 => h9) rfl dX5_anew_16 ?_
    obtain ⟨r_2, h_3, hf⟩ := obd hf
    refine xv_I (As := [.int (σ.1 0 1)]) (rest := [.int (σ.1 0 0)]) S k_X5_manyOnTable q322 q323 q324 ⟨Nat.le_of_ble_eq_true rfl, Nat.le_of_ble_eq_true rfl⟩ ⟨rfl, rfl⟩ (c_X5_manyOnTable l D a c A hD N (σ.1 0 1) σ r_2 h_3) hK hP hS (va_recv hK.1 hP (rfl : vwCl[3]? = some (RX5, TX5, 12)) (cw0 a c σ)) rfl hl.1 rfl (Nat.le_of_ble_eq_true rfl) dX5_anew_19 ⟨Nat.zero_le _, Nat.zero_le _⟩ (fun H locs hP hS => ?_)
    refine lv_isub hx hb dX5_anew_22 ?_
    obtain ⟨x1_4, ex1_4, hf⟩ := onm hf
    refine lv_nm ex1_4 ?_
    refine lv_istore_n (lv' := [(1, .int x1_4), (0, .ref (a 0))]) hx hb dX5_anew_23 rfl hl (by decide) rfl (fun ls hl => ?_)
    refine lv_aload_n hx hb dX5_anew_24 rfl (lv_at hl 1 rfl) ?_
    refine lv_iconst (v := (0 : Int32)) hx hb dX5_anew_25 (by decide) ?_
    refine va_put (D := D) (ci := 3) (v := .int (0 : Int32)) (ty := .int) (C := RX5) (T := TX5) (N := 12) hx hb ht gX5 tyX5 tyX5_ok nmX5 hown hK.1 hP (hD σ) hS 0 (cw0 a c σ) rfl 7 (by decide) (ht _ q116) (fun _ h9 => h9) rfl (by decide +kernel) rfl rfl (Nat.le_of_ble_eq_true rfl) dX5_anew_26 (fun H locs hP _ hS => ?_)
    have hP := vP_eq (cpX5_stand a c σ (0 : Int32)) hP
    obtain ⟨σ_5, eσ_5, hf⟩ := onm hf
    rw [eσ_5] at hP
    refine lv_iload_n hx hb dX5_anew_29 rfl (lv_at hl 0 rfl) ?_
    exact hret _ _ _ _ _ _ dX5_anew_30 rfl hP hS (oret hf)
  have hf := oit c_1 hf
  refine lv_bipush (v := (-3 : Int32)) hx hb dX5_anew_7 (by decide) ?_
  exact hret _ _ _ _ _ _ dX5_anew_9 rfl hP hS (oret hf)
theorem dX5_can_0 : decode cX5_can 0 = .ok (.aload_n 0, 1) := by decide +kernel
theorem dX5_can_1 : decode cX5_can 1 = .ok (.getfield 72, 3) := by decide +kernel
theorem dX5_can_4 : decode cX5_can 4 = .ok (.ifCond .ne 8, 3) := by decide +kernel
theorem dX5_can_7 : decode cX5_can 7 = .ok (.bipush (-3), 2) := by decide +kernel
theorem dX5_can_9 : decode cX5_can 9 = .ok (.goto 11, 3) := by decide +kernel
theorem dX5_can_12 : decode cX5_can 12 = .ok (.aload_n 0, 1) := by decide +kernel
theorem dX5_can_13 : decode cX5_can 13 = .ok (.aload_n 0, 1) := by decide +kernel
theorem dX5_can_14 : decode cX5_can 14 = .ok (.getfield 84, 3) := by decide +kernel
theorem dX5_can_17 : decode cX5_can 17 = .ok (.invokevirtual 143, 3) := by decide +kernel
theorem dX5_can_20 : decode cX5_can 20 = .ok (.ireturn, 1) := by decide +kernel
def f_X5_can (N : Nat) (σ : St) : Option Int32 :=
  if (σ.1 0 0) = 0 then (some (-3 : Int32))
  else bd (f_X5_doableAt N (σ.1 0 1) σ) fun r_2 =>
    some r_2
abbrev rmX5_can : Room := { frames := 5, cells := 0, slots := 0, locals := 117 }
set_option maxRecDepth 100000 in
set_option maxHeartbeats 4000000 in
theorem c_X5_can (l : Launch) (D : va_G) (a : Nat → Nat) (c : Nat → ClassId) (A : Nat → Prop) (hD : ∀ σ, va_D A (cW a c σ)) (N : Nat) (σ : St) (r : Int32) (hf : f_X5_can N σ = some r) : MetI l yX5_can cX5_can 1 (some .int) rmX5_can (cW a c) D c A [.ref (a 0)] σ r σ := by
  refine mkI (by decide) (Nat.le_of_ble_eq_true rfl) rfl ?_
  intro p e s m args below meth cd Q ls h0 hK hP hret hl
  obtain ⟨S, hr, hlk⟩ := h0
  obtain ⟨hx, hb, hml, hown, ht⟩ := id S
  have hS : va_S A s.heap s.heap [] := va_S.rf
  have hl : lv_has ls 1 [(0, .ref (a 0))] := hl
  have hf := obs hf
  have hf := oun (f_X5_can.eq_1 _ _) hf
  refine lv_aload_n hx hb dX5_can_0 rfl (lv_at hl 0 rfl) ?_
  refine va_get (D := D) (ci := 3) (v := .int (σ.1 0 0)) (C := RX5) (T := TX5) (N := 12) hx hb ht gX5 hown hK.1 hP 0 (cw0 a c σ) rfl 6 (by decide) (ht _ q74) (fun _ h9 => h9) rfl dX5_can_1 ?_
  refine lv_if_ne (tgt := 12) hx hb dX5_can_4 (by decide) (fun c_1 => ?_) (fun c_1 => ?_)
  · have hf := oif c_1 hf
    refine lv_aload_n hx hb dX5_can_12 rfl (lv_at hl 0 rfl) ?_
    refine lv_aload_n hx hb dX5_can_13 rfl (lv_at hl 0 rfl) ?_
    refine va_get (D := D) (ci := 3) (v := .int (σ.1 0 1)) (C := RX5) (T := TX5) (N := 12) hx hb ht gX5 hown hK.1 hP 0 (cw0 a c σ) rfl 7 (by decide) (ht _ q116) (fun _ h9 => h9) rfl dX5_can_14 ?_
    obtain ⟨r_2, h_3, hf⟩ := obd hf
    refine xv_I (As := [.int (σ.1 0 1)]) (rest := []) S k_X5_doableAt q298 q299 q300 ⟨Nat.le_of_ble_eq_true rfl, Nat.le_of_ble_eq_true rfl⟩ ⟨rfl, rfl⟩ (c_X5_doableAt l D a c A hD N (σ.1 0 1) σ r_2 h_3) hK hP hS (va_recv hK.1 hP (rfl : vwCl[3]? = some (RX5, TX5, 12)) (cw0 a c σ)) rfl hl.1 rfl (Nat.le_of_ble_eq_true rfl) dX5_can_17 ⟨Nat.zero_le _, Nat.zero_le _⟩ (fun H locs hP hS => ?_)
    exact hret _ _ _ _ _ _ dX5_can_20 rfl hP hS ⟨Option.some.inj hf, rfl⟩
  have hf := oit c_1 hf
  refine lv_bipush (v := (-3 : Int32)) hx hb dX5_can_7 (by decide) ?_
  refine lv_goto (tgt := 20) hx hb dX5_can_9 (by decide) ?_
  exact hret _ _ _ _ _ _ dX5_can_20 rfl hP hS ⟨Option.some.inj hf, rfl⟩
theorem dX5_firstWrong_0 : decode cX5_firstWrong 0 = .ok (.aload_n 0, 1) := by decide +kernel
theorem dX5_firstWrong_1 : decode cX5_firstWrong 1 = .ok (.getfield 84, 3) := by decide +kernel
theorem dX5_firstWrong_4 : decode cX5_firstWrong 4 = .ok (.istore 4, 2) := by decide +kernel
theorem dX5_firstWrong_6 : decode cX5_firstWrong 6 = .ok (.iconst 0, 1) := by decide +kernel
theorem dX5_firstWrong_7 : decode cX5_firstWrong 7 = .ok (.istore 5, 2) := by decide +kernel
theorem dX5_firstWrong_9 : decode cX5_firstWrong 9 = .ok (.iload 5, 2) := by decide +kernel
theorem dX5_firstWrong_11 : decode cX5_firstWrong 11 = .ok (.iload_n 3, 1) := by decide +kernel
theorem dX5_firstWrong_12 : decode cX5_firstWrong 12 = .ok (.if_icmp .ge 53, 3) := by decide +kernel
theorem dX5_firstWrong_15 : decode cX5_firstWrong 15 = .ok (.aload_n 1, 1) := by decide +kernel
theorem dX5_firstWrong_16 : decode cX5_firstWrong 16 = .ok (.iload_n 2, 1) := by decide +kernel
theorem dX5_firstWrong_17 : decode cX5_firstWrong 17 = .ok (.iload 5, 2) := by decide +kernel
theorem dX5_firstWrong_19 : decode cX5_firstWrong 19 = .ok (.iadd, 1) := by decide +kernel
theorem dX5_firstWrong_20 : decode cX5_firstWrong 20 = .ok (.invokevirtual 168, 3) := by decide +kernel
theorem dX5_firstWrong_23 : decode cX5_firstWrong 23 = .ok (.istore 6, 2) := by decide +kernel
theorem dX5_firstWrong_25 : decode cX5_firstWrong 25 = .ok (.iload 6, 2) := by decide +kernel
theorem dX5_firstWrong_27 : decode cX5_firstWrong 27 = .ok (.invokestatic 140, 3) := by decide +kernel
theorem dX5_firstWrong_30 : decode cX5_firstWrong 30 = .ok (.ifCond .eq 17, 3) := by decide +kernel
theorem dX5_firstWrong_33 : decode cX5_firstWrong 33 = .ok (.aload_n 0, 1) := by decide +kernel
theorem dX5_firstWrong_34 : decode cX5_firstWrong 34 = .ok (.iload 4, 2) := by decide +kernel
theorem dX5_firstWrong_36 : decode cX5_firstWrong 36 = .ok (.invokevirtual 143, 3) := by decide +kernel
theorem dX5_firstWrong_39 : decode cX5_firstWrong 39 = .ok (.iload 6, 2) := by decide +kernel
theorem dX5_firstWrong_41 : decode cX5_firstWrong 41 = .ok (.invokestatic 124, 3) := by decide +kernel
theorem dX5_firstWrong_44 : decode cX5_firstWrong 44 = .ok (.ifCond .ne 6, 3) := by decide +kernel
theorem dX5_firstWrong_47 : decode cX5_firstWrong 47 = .ok (.iload 5, 2) := by decide +kernel
theorem dX5_firstWrong_49 : decode cX5_firstWrong 49 = .ok (.ireturn, 1) := by decide +kernel
theorem dX5_firstWrong_50 : decode cX5_firstWrong 50 = .ok (.iload 4, 2) := by decide +kernel
theorem dX5_firstWrong_52 : decode cX5_firstWrong 52 = .ok (.iload 6, 2) := by decide +kernel
theorem dX5_firstWrong_54 : decode cX5_firstWrong 54 = .ok (.invokestatic 146, 3) := by decide +kernel
theorem dX5_firstWrong_57 : decode cX5_firstWrong 57 = .ok (.istore 4, 2) := by decide +kernel
theorem dX5_firstWrong_59 : decode cX5_firstWrong 59 = .ok (.iinc 5 1, 3) := by decide +kernel
theorem dX5_firstWrong_62 : decode cX5_firstWrong 62 = .ok (.goto (-53), 3) := by decide +kernel
theorem dX5_firstWrong_65 : decode cX5_firstWrong 65 = .ok (.bipush (-9), 2) := by decide +kernel
theorem dX5_firstWrong_67 : decode cX5_firstWrong 67 = .ok (.ireturn, 1) := by decide +kernel
def f_X5_firstWrong_j65 (N : Nat) (σ : St) : Option Int32 :=
  some (-9 : Int32)
def f_X5_firstWrong_j47 (N : Nat) (x5 : Int32) (σ : St) : Option ((Int32 × Int32) ⊕ (Int32 ⊕ (Unit))) :=
  some (.inr (.inl x5))
def f_X5_firstWrong_b9 (N : Nat) (x1 : Nat) (x2 : Int32) (x3 : Int32) (x4 : Int32) (x5 : Int32) (σ : St) : Option ((Int32 × Int32) ⊕ (Int32 ⊕ (Unit))) :=
  if x3 ≤ x5 then (some (.inr (.inr ())))
  else bd (f_X2_at x1 (x2 + x5) σ) fun r_2 =>
  bd (f_X5_isAct r_2) fun r_4 =>
  if r_4 = 0 then (f_X5_firstWrong_j47 N x5 σ)
  else bd (f_X5_doableAt N x4 σ) fun r_7 =>
  bd (f_X5_has r_7 r_2) fun r_9 =>
  if r_9 = 0 then (f_X5_firstWrong_j47 N x5 σ)
  else bd (f_X3_after x4 r_2) fun r_12 =>
    nm (x5 + (1 : Int32)) fun x5_14 =>
    some (.inl (r_12, x5_14))
def f_X5_firstWrong (N : Nat) (x1 : Nat) (x2 : Int32) (x3 : Int32) (σ : St) : Option Int32 :=
  nm (σ.1 0 1) fun x4_15 =>
  bd (lpF (fun s => f_X5_firstWrong_b9 N x1 x2 x3 s.1 s.2 σ) N (x4_15, (0 : Int32))) (Sum.elim (fun v => some v) (fun o => f_X5_firstWrong_j65 N σ))
abbrev rmX5_firstWrong : Room := { frames := 5, cells := 0, slots := 0, locals := 117 }
set_option maxRecDepth 100000 in
set_option maxHeartbeats 4000000 in
theorem c_X5_firstWrong (l : Launch) (D : va_G) (a : Nat → Nat) (c : Nat → ClassId) (A : Nat → Prop) (hD : ∀ σ, va_D A (cW a c σ)) (N : Nat) (x1 : Nat) (x2 : Int32) (x3 : Int32) (σ : St) (hx1 : x1 < 4) (r : Int32) (hf : f_X5_firstWrong N x1 x2 x3 σ = some r) : MetI l yX5_firstWrong cX5_firstWrong 7 (some .int) rmX5_firstWrong (cW a c) D c A [.ref (a 0), .ref (a (15 + x1)), .int x2, .int x3] σ r σ := by
  refine mkI (by decide) (Nat.le_of_ble_eq_true rfl) rfl ?_
  intro p e s m args below meth cd Q ls h0 hK hP hret hl
  obtain ⟨S, hr, hlk⟩ := h0
  obtain ⟨hx, hb, hml, hown, ht⟩ := id S
  have hS : va_S A s.heap s.heap [] := va_S.rf
  have hl : lv_has ls 7 [(0, .ref (a 0)), (1, .ref (a (15 + x1))), (2, .int x2), (3, .int x3)] := hl
  have hf := obs hf
  have j65 : ∀ (H : Heap) (locs : List Loc) (ls : Array Slot), lv_has ls 7 [] → va_P D vwCl (cW a c σ) H → va_S A s.heap H locs → Option.bind (f_X5_firstWrong_j65 N σ) some = some r → W p l e rmX5_firstWrong s m args below meth cd H locs 0 0 Q (F0 m 65 ls []) := by
    intro H locs ls hl hP hS hf
    have hf := oun (f_X5_firstWrong_j65.eq_1 _ _) hf
    refine lv_bipush (v := (-9 : Int32)) hx hb dX5_firstWrong_65 (by decide) ?_
    exact hret _ _ _ _ _ _ dX5_firstWrong_67 rfl hP hS ⟨Option.some.inj hf, rfl⟩
  have L9 : ∀ (x1 : Nat) (x2 : Int32) (x3 : Int32) (hx1 : x1 < 4) (k : Nat) (x4 : Int32) (x5 : Int32) (H : Heap) (locs : List Loc) (ls : Array Slot), lv_has ls 7 [(0, .ref (a 0)), (1, .ref (a (15 + x1))), (2, .int x2), (3, .int x3), (4, .int x4), (5, .int x5)] → va_P D vwCl (cW a c σ) H → va_S A s.heap H locs → Option.bind (bd (lpF (fun s => f_X5_firstWrong_b9 N x1 x2 x3 s.1 s.2 σ) k (x4, x5)) (Sum.elim (fun v => some v) (fun o => f_X5_firstWrong_j65 N σ))) some = some r → W p l e rmX5_firstWrong s m args below meth cd H locs 0 0 Q (F0 m 9 ls []) := by
    intro x1 x2 x3 hx1 k
    induction k with
    | zero =>
      intro x4 x5 H locs ls hl hP hS hf
      exact (ol0 hf).elim
    | succ k ih =>
      intro x4 x5 H locs ls hl hP hS hf
      obtain ⟨K9, hf, hc9, hx9⟩ := ol1 hf
      have j47 : ∀ (x5 : Int32) (H : Heap) (locs : List Loc) (ls : Array Slot), lv_has ls 7 [(5, .int x5)] → va_P D vwCl (cW a c σ) H → va_S A s.heap H locs → Option.bind (f_X5_firstWrong_j47 N x5 σ) K9 = some r → W p l e rmX5_firstWrong s m args below meth cd H locs 0 0 Q (F0 m 47 ls []) := by
        intro x5 H locs ls hl hP hS hf
        have hf := oun (f_X5_firstWrong_j47.eq_1 _ _ _) hf
        refine lv_iload hx hb dX5_firstWrong_47 (lv_at hl 0 rfl) ?_
        have hf := okx hf (hx9 _)
        exact hret _ _ _ _ _ _ dX5_firstWrong_49 rfl hP hS ⟨Option.some.inj hf, rfl⟩
      have hf := oun (f_X5_firstWrong_b9.eq_1 N x1 x2 x3 x4 x5 σ) hf
      refine lv_iload hx hb dX5_firstWrong_9 (lv_at hl 5 rfl) ?_
      refine lv_iload_n hx hb dX5_firstWrong_11 rfl (lv_at hl 3 rfl) ?_
      refine lv_icmp_ge (tgt := 65) hx hb dX5_firstWrong_12 (by decide) (fun c_1 => ?_) (fun c_1 => ?_)
      · have hf := oit c_1 hf
        exact j65 _ _ _ (lv_sub hl [] rfl) hP hS (okx hf (hx9 _))
      have hf := oif c_1 hf
      refine lv_aload_n hx hb dX5_firstWrong_15 rfl (lv_at hl 1 rfl) ?_
      refine lv_iload_n hx hb dX5_firstWrong_16 rfl (lv_at hl 2 rfl) ?_
      refine lv_iload hx hb dX5_firstWrong_17 (lv_at hl 5 rfl) ?_
      refine lv_iadd hx hb dX5_firstWrong_19 ?_
      obtain ⟨r_2, h_3, hf⟩ := obd hf
      refine xv_I (As := [.int (x2 + x5)]) (rest := []) S k_X2_at q382 q103 q104 ⟨Nat.le_of_ble_eq_true rfl, Nat.le_of_ble_eq_true rfl⟩ ⟨rfl, rfl⟩ (c_X2_at l D a c A hD x1 (x2 + x5) σ hx1 r_2 h_3) hK hP hS (va_recv hK.1 hP (rfl : vwCl[2]? = some (RX2, TX2, 3)) (cwX2 a c σ x1 hx1)) rfl hl.1 rfl (Nat.le_of_ble_eq_true rfl) dX5_firstWrong_20 ⟨Nat.zero_le _, Nat.zero_le _⟩ (fun H locs hP hS => ?_)
      refine lv_istore (lv' := [(6, .int r_2), (0, .ref (a 0)), (1, .ref (a (15 + x1))), (2, .int x2), (3, .int x3), (4, .int x4), (5, .int x5)]) hx hb dX5_firstWrong_23 hl (by decide) rfl (fun ls hl => ?_)
      refine lv_iload hx hb dX5_firstWrong_25 (lv_at hl 0 rfl) ?_
      obtain ⟨r_4, h_5, hf⟩ := obd hf
      refine xs_S (As := [.int r_2]) (rest := []) S k_X5_isAct q295 q296 ⟨Nat.le_of_ble_eq_true rfl, Nat.le_of_ble_eq_true rfl⟩ ⟨rfl, rfl⟩ (c_X5_isAct l r_2 r_4 h_5) hK.2 rfl hl.1 rfl (Nat.le_of_ble_eq_true rfl) dX5_firstWrong_27 ⟨Nat.zero_le _, Nat.zero_le _⟩ ?_
      refine lv_if_eq (tgt := 47) hx hb dX5_firstWrong_30 (by decide) (fun c_6 => ?_) (fun c_6 => ?_)
      · have hf := oit c_6 hf
        exact j47 x5 _ _ _ (lv_sub hl [6] rfl) hP hS hf
      have hf := oif c_6 hf
      refine lv_aload_n hx hb dX5_firstWrong_33 rfl (lv_at hl 1 rfl) ?_
      refine lv_iload hx hb dX5_firstWrong_34 (lv_at hl 5 rfl) ?_
      obtain ⟨r_7, h_8, hf⟩ := obd hf
      refine xv_I (As := [.int x4]) (rest := []) S k_X5_doableAt q298 q299 q300 ⟨Nat.le_of_ble_eq_true rfl, Nat.le_of_ble_eq_true rfl⟩ ⟨rfl, rfl⟩ (c_X5_doableAt l D a c A hD N x4 σ r_7 h_8) hK hP hS (va_recv hK.1 hP (rfl : vwCl[3]? = some (RX5, TX5, 12)) (cw0 a c σ)) rfl hl.1 rfl (Nat.le_of_ble_eq_true rfl) dX5_firstWrong_36 ⟨Nat.zero_le _, Nat.zero_le _⟩ (fun H locs hP hS => ?_)
      refine lv_iload hx hb dX5_firstWrong_39 (lv_at hl 0 rfl) ?_
      obtain ⟨r_9, h_10, hf⟩ := obd hf
      refine xs_S (As := [.int r_7, .int r_2]) (rest := []) S k_X5_has q214 q202 ⟨Nat.le_of_ble_eq_true rfl, Nat.le_of_ble_eq_true rfl⟩ ⟨rfl, rfl⟩ (c_X5_has l r_7 r_2 r_9 h_10) hK.2 rfl hl.1 rfl (Nat.le_of_ble_eq_true rfl) dX5_firstWrong_41 ⟨Nat.zero_le _, Nat.zero_le _⟩ ?_
      refine lv_if_ne (tgt := 50) hx hb dX5_firstWrong_44 (by decide) (fun c_11 => ?_) (fun c_11 => ?_)
      · have hf := oif c_11 hf
        refine lv_iload hx hb dX5_firstWrong_50 (lv_at hl 5 rfl) ?_
        refine lv_iload hx hb dX5_firstWrong_52 (lv_at hl 0 rfl) ?_
        obtain ⟨r_12, h_13, hf⟩ := obd hf
        refine xs_S (As := [.int x4, .int r_2]) (rest := []) S k_X3_after q316 q317 ⟨Nat.le_of_ble_eq_true rfl, Nat.le_of_ble_eq_true rfl⟩ ⟨rfl, rfl⟩ (c_X3_after l x4 r_2 r_12 h_13) hK.2 rfl hl.1 rfl (Nat.le_of_ble_eq_true rfl) dX5_firstWrong_54 ⟨Nat.zero_le _, Nat.zero_le _⟩ ?_
        refine lv_istore (lv' := [(4, .int r_12), (6, .int r_2), (0, .ref (a 0)), (1, .ref (a (15 + x1))), (2, .int x2), (3, .int x3), (5, .int x5)]) hx hb dX5_firstWrong_57 hl (by decide) rfl (fun ls hl => ?_)
        obtain ⟨x5_14, ex5_14, hf⟩ := onm hf
        refine lv_iinc (v := x5_14) (lv' := [(5, .int x5_14), (4, .int r_12), (6, .int r_2), (0, .ref (a 0)), (1, .ref (a (15 + x1))), (2, .int x2), (3, .int x3)]) hx hb dX5_firstWrong_59 hl (k := 6) rfl ex5_14 (by decide) rfl (fun ls hl => ?_)
        refine lv_goto (tgt := 9) hx hb dX5_firstWrong_62 (by decide) ?_
        exact ih r_12 x5_14 _ _ _ (lv_sub hl [3, 4, 5, 6, 1, 0] rfl) hP hS (okx hf (hc9 _))
      have hf := oit c_11 hf
      exact j47 x5 _ _ _ (lv_sub hl [6] rfl) hP hS hf
  have hf := oun (f_X5_firstWrong.eq_1 _ _ _ _ _) hf
  refine lv_aload_n hx hb dX5_firstWrong_0 rfl (lv_at hl 0 rfl) ?_
  refine va_get (D := D) (ci := 3) (v := .int (σ.1 0 1)) (C := RX5) (T := TX5) (N := 12) hx hb ht gX5 hown hK.1 hP 0 (cw0 a c σ) rfl 7 (by decide) (ht _ q116) (fun _ h9 => h9) rfl dX5_firstWrong_1 ?_
  obtain ⟨x4_15, ex4_15, hf⟩ := onm hf
  refine lv_nm ex4_15 ?_
  refine lv_istore (lv' := [(4, .int x4_15), (0, .ref (a 0)), (1, .ref (a (15 + x1))), (2, .int x2), (3, .int x3)]) hx hb dX5_firstWrong_4 hl (by decide) rfl (fun ls hl => ?_)
  refine lv_iconst (v := (0 : Int32)) hx hb dX5_firstWrong_6 (by decide) ?_
  refine lv_istore (lv' := [(5, .int (0 : Int32)), (4, .int x4_15), (0, .ref (a 0)), (1, .ref (a (15 + x1))), (2, .int x2), (3, .int x3)]) hx hb dX5_firstWrong_7 hl (by decide) rfl (fun ls hl => ?_)
  exact L9 x1 x2 x3 hx1 N x4_15 (0 : Int32) _ _ _ (lv_sub hl [2, 3, 4, 5, 1, 0] rfl) hP hS hf
