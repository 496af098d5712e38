theorem dX6_rooms_0 : decode cX6_rooms 0 = .ok (.aload_n 0, 1) := by decide +kernel
theorem dX6_rooms_1 : decode cX6_rooms 1 = .ok (.iload_n 1, 1) := by decide +kernel
theorem dX6_rooms_2 : decode cX6_rooms 2 = .ok (.invokevirtual 78, 3) := by decide +kernel
theorem dX6_rooms_5 : decode cX6_rooms 5 = .ok (.ifCond .ne 5, 3) := by decide +kernel
theorem dX6_rooms_8 : decode cX6_rooms 8 = .ok (.iconst (-1), 1) := by decide +kernel
theorem dX6_rooms_9 : decode cX6_rooms 9 = .ok (.ireturn, 1) := by decide +kernel
theorem dX6_rooms_10 : decode cX6_rooms 10 = .ok (.aload_n 0, 1) := by decide +kernel
theorem dX6_rooms_11 : decode cX6_rooms 11 = .ok (.getfield 25, 3) := by decide +kernel
theorem dX6_rooms_14 : decode cX6_rooms 14 = .ok (.iload_n 1, 1) := by decide +kernel
theorem dX6_rooms_15 : decode cX6_rooms 15 = .ok (.iaload, 1) := by decide +kernel
theorem dX6_rooms_16 : decode cX6_rooms 16 = .ok (.istore_n 2, 1) := by decide +kernel
theorem dX6_rooms_17 : decode cX6_rooms 17 = .ok (.iconst 0, 1) := by decide +kernel
theorem dX6_rooms_18 : decode cX6_rooms 18 = .ok (.istore_n 3, 1) := by decide +kernel
theorem dX6_rooms_19 : decode cX6_rooms 19 = .ok (.iconst 0, 1) := by decide +kernel
theorem dX6_rooms_20 : decode cX6_rooms 20 = .ok (.istore 4, 2) := by decide +kernel
theorem dX6_rooms_22 : decode cX6_rooms 22 = .ok (.iload 4, 2) := by decide +kernel
theorem dX6_rooms_24 : decode cX6_rooms 24 = .ok (.bipush 9, 2) := by decide +kernel
theorem dX6_rooms_26 : decode cX6_rooms 26 = .ok (.if_icmp .gt 35, 3) := by decide +kernel
theorem dX6_rooms_29 : decode cX6_rooms 29 = .ok (.aload_n 0, 1) := by decide +kernel
theorem dX6_rooms_30 : decode cX6_rooms 30 = .ok (.getfield 25, 3) := by decide +kernel
theorem dX6_rooms_33 : decode cX6_rooms 33 = .ok (.iload_n 1, 1) := by decide +kernel
theorem dX6_rooms_34 : decode cX6_rooms 34 = .ok (.iload 4, 2) := by decide +kernel
theorem dX6_rooms_36 : decode cX6_rooms 36 = .ok (.iastore, 1) := by decide +kernel
theorem dX6_rooms_37 : decode cX6_rooms 37 = .ok (.iload_n 3, 1) := by decide +kernel
theorem dX6_rooms_38 : decode cX6_rooms 38 = .ok (.aload_n 0, 1) := by decide +kernel
theorem dX6_rooms_39 : decode cX6_rooms 39 = .ok (.invokevirtual 188, 3) := by decide +kernel
theorem dX6_rooms_42 : decode cX6_rooms 42 = .ok (.ifCond .eq 10, 3) := by decide +kernel
theorem dX6_rooms_45 : decode cX6_rooms 45 = .ok (.iconst 1, 1) := by decide +kernel
theorem dX6_rooms_46 : decode cX6_rooms 46 = .ok (.iload 4, 2) := by decide +kernel
theorem dX6_rooms_48 : decode cX6_rooms 48 = .ok (.ishl, 1) := by decide +kernel
theorem dX6_rooms_49 : decode cX6_rooms 49 = .ok (.goto 4, 3) := by decide +kernel
theorem dX6_rooms_52 : decode cX6_rooms 52 = .ok (.iconst 0, 1) := by decide +kernel
theorem dX6_rooms_53 : decode cX6_rooms 53 = .ok (.ior, 1) := by decide +kernel
theorem dX6_rooms_54 : decode cX6_rooms 54 = .ok (.istore_n 3, 1) := by decide +kernel
theorem dX6_rooms_55 : decode cX6_rooms 55 = .ok (.iinc 4 1, 3) := by decide +kernel
theorem dX6_rooms_58 : decode cX6_rooms 58 = .ok (.goto (-36), 3) := by decide +kernel
theorem dX6_rooms_61 : decode cX6_rooms 61 = .ok (.aload_n 0, 1) := by decide +kernel
theorem dX6_rooms_62 : decode cX6_rooms 62 = .ok (.getfield 25, 3) := by decide +kernel
theorem dX6_rooms_65 : decode cX6_rooms 65 = .ok (.iload_n 1, 1) := by decide +kernel
theorem dX6_rooms_66 : decode cX6_rooms 66 = .ok (.iload_n 2, 1) := by decide +kernel
theorem dX6_rooms_67 : decode cX6_rooms 67 = .ok (.iastore, 1) := by decide +kernel
theorem dX6_rooms_68 : decode cX6_rooms 68 = .ok (.iload_n 3, 1) := by decide +kernel
theorem dX6_rooms_69 : decode cX6_rooms 69 = .ok (.ireturn, 1) := by decide +kernel
def f_X6_rooms_j61 (N : Nat) (x1 : Int32) (x2 : Int32) (x3 : Int32) (σ : St) : Option (Int32 × St) :=
  gd (ck x1 4) <|
  nm (wS σ 6 (Int32.toNatClampNeg x1) x2) fun σ_2 =>
  some (x3, σ_2)
def f_X6_rooms_j53 (N : Nat) (x1 : Int32) (x2 : Int32) (x4 : Int32) (y0 : Int32) (y1 : Int32) (σ : St) : Option ((Int32 × Int32 × St) ⊕ ((Int32 × St))) :=
  nm (y0 ||| y1) fun x3_3 =>
  nm (x4 + (1 : Int32)) fun x4_4 =>
  some (.inl (x3_3, x4_4, σ))
def f_X6_rooms_b22 (N : Nat) (x1 : Int32) (x2 : Int32) (x3 : Int32) (x4 : Int32) (σ : St) : Option ((Int32 × Int32 × St) ⊕ ((Int32 × St))) :=
  if (9 : Int32) < x4 then (some (.inr (x3, σ)))
  else gd (ck x1 4) <|
  nm (wS σ 6 (Int32.toNatClampNeg x1) x4) fun σ_7 =>
  bd (f_X6_areSo N σ_7) fun r_8 =>
  if r_8 = 0 then (f_X6_rooms_j53 N x1 x2 x4 x3 (0 : Int32) σ_7)
  else f_X6_rooms_j53 N x1 x2 x4 x3 ((1 : Int32) <<< (x4 &&& 31)) σ_7
def f_X6_rooms (N : Nat) (x1 : Int32) (σ : St) : Option (Int32 × St) :=
  bd (f_X6_isDoll x1 σ) fun r_11 =>
  if r_11 = 0 then (some ((-1 : Int32), σ))
  else gd (ck x1 4) <|
    nm (σ.1 6 x1.toNatClampNeg) fun x2_15 =>
    bd (lpF (fun s => f_X6_rooms_b22 N x1 x2_15 s.1 s.2.1 s.2.2) N ((0 : Int32), (0 : Int32), σ)) (fun o => f_X6_rooms_j61 N x1 x2_15 o.1 o.2)
abbrev rmX6_rooms : Room := { frames := 3, cells := 0, slots := 0, locals := 64 }
set_option maxRecDepth 100000 in
set_option maxHeartbeats 4000000 in
theorem c_X6_rooms (l : Launch) (D : va_G) (a : Nat → Nat) (c : Nat → ClassId) (A : Nat → Prop) (hD : ∀ σ, va_D A (mW a c σ)) (N : Nat) (x1 : Int32) (σ : St) (r : Int32) (u : St) (hf : f_X6_rooms N x1 σ = some (r, u)) : MetI l yX6_rooms cX6_rooms 5 (some .int) rmX6_rooms (mW a c) D c A [.ref (a 0), .int x1] σ r u := by
  refine mkI (by decide) (Nat.le_of_ble_eq_true rfl) rfl ?_
  intro p e s m args below meth cd Q ls h0 hK hP hret hl
  obtain ⟨S, hr, hlk⟩ := h0
  obtain ⟨hx, hb, hml, hown, ht⟩ := id S
  have hS : va_S A s.heap s.heap [] := va_S.rf
  have hl : lv_has ls 5 [(0, .ref (a 0)), (1, .int x1)] := hl
  have hf := obs hf
  have j61 : ∀ (x1 : Int32) (x2 : Int32) (x3 : Int32) (σ : St) (H : Heap) (locs : List Loc) (ls : Array Slot), lv_has ls 5 [(0, .ref (a 0)), (1, .int x1), (2, .int x2), (3, .int x3)] → va_P D vwCl (mW a c σ) H → va_S A s.heap H locs → Option.bind (f_X6_rooms_j61 N x1 x2 x3 σ) some = some (r, u) → W p l e rmX6_rooms s m args below meth cd H locs 0 0 Q (F0 m 61 ls []) := by
    intro x1 x2 x3 σ H locs ls hl hP hS hf
    have hf := oun (f_X6_rooms_j61.eq_1 _ _ _ _ _) hf
    refine lv_aload_n hx hb dX6_rooms_61 rfl (lv_at hl 0 rfl) ?_
    refine va_get (D := D) (ci := 4) (v := .ref (a 6)) (C := RX6) (T := TX6) (N := 27) hx hb ht gX6 hown hK.1 hP 0 (mw0 a c σ) rfl 9 (by decide) (ht _ q55) (fun _ h9 => h9) rfl dX6_rooms_62 ?_
    refine lv_iload_n hx hb dX6_rooms_65 rfl (lv_at hl 1 rfl) ?_
    refine lv_iload_n hx hb dX6_rooms_66 rfl (lv_at hl 2 rfl) ?_
    obtain ⟨g_1, hf⟩ := ogd hf
    refine va_iast hx hb hK.1 hP (hD σ) hS 6 0 (mw6 a c σ) rfl (ck_in g_1) dX6_rooms_67 (fun H locs hP _ hS => ?_)
    have hP := vP_eq (mpA_m6 a c σ (Int32.toNatClampNeg x1) x2) hP
    obtain ⟨σ_2, eσ_2, hf⟩ := onm hf
    rw [eσ_2] at hP
    refine lv_iload_n hx hb dX6_rooms_68 rfl (lv_at hl 3 rfl) ?_
    exact hret _ _ _ _ _ _ dX6_rooms_69 rfl hP hS (oret hf)
  have L22 : ∀ (x1 : Int32) (x2 : Int32) (k : Nat) (x3 : Int32) (x4 : Int32) (σ : St) (H : Heap) (locs : List Loc) (ls : Array Slot), lv_has ls 5 [(0, .ref (a 0)), (1, .int x1), (2, .int x2), (3, .int x3), (4, .int x4)] → va_P D vwCl (mW a c σ) H → va_S A s.heap H locs → Option.bind (bd (lpF (fun s => f_X6_rooms_b22 N x1 x2 s.1 s.2.1 s.2.2) k (x3, x4, σ)) (fun o => f_X6_rooms_j61 N x1 x2 o.1 o.2)) some = some (r, u) → W p l e rmX6_rooms s m args below meth cd H locs 0 0 Q (F0 m 22 ls []) := by
    intro x1 x2 k
    induction k with
    | zero =>
      intro x3 x4 σ H locs ls hl hP hS hf
      exact (ol0 hf).elim
    | succ k ih =>
      intro x3 x4 σ H locs ls hl hP hS hf
      obtain ⟨K22, hf, hc22, hx22⟩ := ol1 hf
      have j53 : ∀ (x4 : Int32) (y0 : Int32) (y1 : Int32) (σ : St) (H : Heap) (locs : List Loc) (ls : Array Slot), lv_has ls 5 [(0, .ref (a 0)), (1, .int x1), (2, .int x2), (4, .int x4)] → va_P D vwCl (mW a c σ) H → va_S A s.heap H locs → Option.bind (f_X6_rooms_j53 N x1 x2 x4 y0 y1 σ) K22 = some (r, u) → W p l e rmX6_rooms s m args below meth cd H locs 0 0 Q (F0 m 53 ls [.int y1, .int y0]) := by
        intro x4 y0 y1 σ H locs ls hl hP hS hf
        have hf := oun (f_X6_rooms_j53.eq_1 _ _ _ _ _ _ _) hf
        refine lv_ior hx hb dX6_rooms_53 ?_
        obtain ⟨x3_3, ex3_3, hf⟩ := onm hf
        refine lv_nm ex3_3 ?_
        refine lv_istore_n (lv' := [(3, .int x3_3), (0, .ref (a 0)), (1, .int x1), (2, .int x2), (4, .int x4)]) hx hb dX6_rooms_54 rfl hl (by decide) rfl (fun ls hl => ?_)
        obtain ⟨x4_4, ex4_4, hf⟩ := onm hf
        refine lv_iinc (v := x4_4) (lv' := [(4, .int x4_4), (3, .int x3_3), (0, .ref (a 0)), (1, .int x1), (2, .int x2)]) hx hb dX6_rooms_55 hl (k := 4) rfl ex4_4 (by decide) rfl (fun ls hl => ?_)
        refine lv_goto (tgt := 22) hx hb dX6_rooms_58 (by decide) ?_
        exact ih x3_3 x4_4 σ _ _ _ (lv_sub hl [2, 3, 4, 1, 0] rfl) hP hS (okx hf (hc22 _))
      have hf := oun (f_X6_rooms_b22.eq_1 N x1 x2 x3 x4 σ) hf
      refine lv_iload hx hb dX6_rooms_22 (lv_at hl 4 rfl) ?_
      refine lv_bipush (v := (9 : Int32)) hx hb dX6_rooms_24 (by decide) ?_
      refine lv_icmp_gt (tgt := 61) hx hb dX6_rooms_26 (by decide) (fun c_5 => ?_) (fun c_5 => ?_)
      · have hf := oit c_5 hf
        exact j61 x1 x2 x3 σ _ _ _ (lv_sub hl [0, 1, 2, 3] rfl) hP hS (okx hf (hx22 _))
      have hf := oif c_5 hf
      refine lv_aload_n hx hb dX6_rooms_29 rfl (lv_at hl 0 rfl) ?_
      refine va_get (D := D) (ci := 4) (v := .ref (a 6)) (C := RX6) (T := TX6) (N := 27) hx hb ht gX6 hown hK.1 hP 0 (mw0 a c σ) rfl 9 (by decide) (ht _ q55) (fun _ h9 => h9) rfl dX6_rooms_30 ?_
      refine lv_iload_n hx hb dX6_rooms_33 rfl (lv_at hl 1 rfl) ?_
      refine lv_iload hx hb dX6_rooms_34 (lv_at hl 4 rfl) ?_
      obtain ⟨g_6, hf⟩ := ogd hf
      refine va_iast hx hb hK.1 hP (hD σ) hS 6 0 (mw6 a c σ) rfl (ck_in g_6) dX6_rooms_36 (fun H locs hP _ hS => ?_)
      have hP := vP_eq (mpA_m6 a c σ (Int32.toNatClampNeg x1) x4) hP
      obtain ⟨σ_7, eσ_7, hf⟩ := onm hf
      rw [eσ_7] at hP
      refine lv_iload_n hx hb dX6_rooms_37 rfl (lv_at hl 3 rfl) ?_
      refine lv_aload_n hx hb dX6_rooms_38 rfl (lv_at hl 0 rfl) ?_
      obtain ⟨r_8, h_9, hf⟩ := obd hf
      refine xv_I (As := []) (rest := [.int x3]) S k_X6_areSo q572 q573 q574 ⟨Nat.le_of_ble_eq_true rfl, Nat.le_of_ble_eq_true rfl⟩ ⟨rfl, rfl⟩ (c_X6_areSo l D a c A hD N σ_7 r_8 h_9) hK hP hS (va_recv hK.1 hP (rfl : vwCl[4]? = some (RX6, TX6, 27)) (mw0 a c σ_7)) rfl hl.1 rfl (Nat.le_of_ble_eq_true rfl) dX6_rooms_39 ⟨Nat.zero_le _, Nat.zero_le _⟩ (fun H locs hP hS => ?_)
      refine lv_if_eq (tgt := 52) hx hb dX6_rooms_42 (by decide) (fun c_10 => ?_) (fun c_10 => ?_)
      · have hf := oit c_10 hf
        refine lv_iconst (v := (0 : Int32)) hx hb dX6_rooms_52 (by decide) ?_
        exact j53 x4 x3 (0 : Int32) σ_7 _ _ _ (lv_sub hl [0, 1, 2, 4] rfl) hP hS hf
      have hf := oif c_10 hf
      refine lv_iconst (v := (1 : Int32)) hx hb dX6_rooms_45 (by decide) ?_
      refine lv_iload hx hb dX6_rooms_46 (lv_at hl 4 rfl) ?_
      refine lv_ishl hx hb dX6_rooms_48 ?_
      refine lv_goto (tgt := 53) hx hb dX6_rooms_49 (by decide) ?_
      exact j53 x4 x3 ((1 : Int32) <<< (x4 &&& 31)) σ_7 _ _ _ (lv_sub hl [0, 1, 2, 4] rfl) hP hS hf
  have hf := oun (f_X6_rooms.eq_1 _ _ _) hf
  refine lv_aload_n hx hb dX6_rooms_0 rfl (lv_at hl 0 rfl) ?_
  refine lv_iload_n hx hb dX6_rooms_1 rfl (lv_at hl 1 rfl) ?_
  obtain ⟨r_11, h_12, hf⟩ := obd hf
  refine xv_I (As := [.int x1]) (rest := []) S k_X6_isDoll q226 q227 q228 ⟨Nat.le_of_ble_eq_true rfl, Nat.le_of_ble_eq_true rfl⟩ ⟨rfl, rfl⟩ (c_X6_isDoll l D a c A hD x1 σ r_11 h_12) hK hP hS (va_recv hK.1 hP (rfl : vwCl[4]? = some (RX6, TX6, 27)) (mw0 a c σ)) rfl hl.1 rfl (Nat.le_of_ble_eq_true rfl) dX6_rooms_2 ⟨Nat.zero_le _, Nat.zero_le _⟩ (fun H locs hP hS => ?_)
  refine lv_if_ne (tgt := 10) hx hb dX6_rooms_5 (by decide) (fun c_13 => ?_) (fun c_13 => ?_)
  · have hf := oif c_13 hf
    refine lv_aload_n hx hb dX6_rooms_10 rfl (lv_at hl 0 rfl) ?_
    refine va_get (D := D) (ci := 4) (v := .ref (a 6)) (C := RX6) (T := TX6) (N := 27) hx hb ht gX6 hown hK.1 hP 0 (mw0 a c σ) rfl 9 (by decide) (ht _ q55) (fun _ h9 => h9) rfl dX6_rooms_11 ?_
    refine lv_iload_n hx hb dX6_rooms_14 rfl (lv_at hl 1 rfl) ?_
    obtain ⟨g_14, hf⟩ := ogd hf
    refine va_iald hx hb hK.1 hP 6 0 (mw6 a c σ) rfl (ck_in g_14) dX6_rooms_15 ?_
    obtain ⟨x2_15, ex2_15, hf⟩ := onm hf
    refine lv_nm ex2_15 ?_
    refine lv_istore_n (lv' := [(2, .int x2_15), (0, .ref (a 0)), (1, .int x1)]) hx hb dX6_rooms_16 rfl hl (by decide) rfl (fun ls hl => ?_)
    refine lv_iconst (v := (0 : Int32)) hx hb dX6_rooms_17 (by decide) ?_
    refine lv_istore_n (lv' := [(3, .int (0 : Int32)), (2, .int x2_15), (0, .ref (a 0)), (1, .int x1)]) hx hb dX6_rooms_18 rfl hl (by decide) rfl (fun ls hl => ?_)
    refine lv_iconst (v := (0 : Int32)) hx hb dX6_rooms_19 (by decide) ?_
    refine lv_istore (lv' := [(4, .int (0 : Int32)), (3, .int (0 : Int32)), (2, .int x2_15), (0, .ref (a 0)), (1, .int x1)]) hx hb dX6_rooms_20 hl (by decide) rfl (fun ls hl => ?_)
    exact L22 x1 x2_15 N (0 : Int32) (0 : Int32) σ _ _ _ (lv_sub hl [3, 4, 2, 1, 0] rfl) hP hS hf
  have hf := oit c_13 hf
  refine lv_iconst (v := (-1 : Int32)) hx hb dX6_rooms_8 (by decide) ?_
  exact hret _ _ _ _ _ _ dX6_rooms_9 rfl hP hS (oret hf)
theorem dX6_kinds_0 : decode cX6_kinds 0 = .ok (.aload_n 0, 1) := by decide +kernel
theorem dX6_kinds_1 : decode cX6_kinds 1 = .ok (.iload_n 1, 1) := by decide +kernel
theorem dX6_kinds_2 : decode cX6_kinds 2 = .ok (.invokevirtual 78, 3) := by decide +kernel
theorem dX6_kinds_5 : decode cX6_kinds 5 = .ok (.ifCond .ne 5, 3) := by decide +kernel
theorem dX6_kinds_8 : decode cX6_kinds 8 = .ok (.iconst (-1), 1) := by decide +kernel
theorem dX6_kinds_9 : decode cX6_kinds 9 = .ok (.ireturn, 1) := by decide +kernel
theorem dX6_kinds_10 : decode cX6_kinds 10 = .ok (.aload_n 0, 1) := by decide +kernel
theorem dX6_kinds_11 : decode cX6_kinds 11 = .ok (.getfield 19, 3) := by decide +kernel
theorem dX6_kinds_14 : decode cX6_kinds 14 = .ok (.iload_n 1, 1) := by decide +kernel
theorem dX6_kinds_15 : decode cX6_kinds 15 = .ok (.iaload, 1) := by decide +kernel
theorem dX6_kinds_16 : decode cX6_kinds 16 = .ok (.istore_n 2, 1) := by decide +kernel
theorem dX6_kinds_17 : decode cX6_kinds 17 = .ok (.iconst 0, 1) := by decide +kernel
theorem dX6_kinds_18 : decode cX6_kinds 18 = .ok (.istore_n 3, 1) := by decide +kernel
theorem dX6_kinds_19 : decode cX6_kinds 19 = .ok (.iconst 0, 1) := by decide +kernel
theorem dX6_kinds_20 : decode cX6_kinds 20 = .ok (.istore 4, 2) := by decide +kernel
theorem dX6_kinds_22 : decode cX6_kinds 22 = .ok (.iload 4, 2) := by decide +kernel
theorem dX6_kinds_24 : decode cX6_kinds 24 = .ok (.iconst 3, 1) := by decide +kernel
theorem dX6_kinds_25 : decode cX6_kinds 25 = .ok (.if_icmp .ge 35, 3) := by decide +kernel
theorem dX6_kinds_28 : decode cX6_kinds 28 = .ok (.aload_n 0, 1) := by decide +kernel
theorem dX6_kinds_29 : decode cX6_kinds 29 = .ok (.getfield 19, 3) := by decide +kernel
theorem dX6_kinds_32 : decode cX6_kinds 32 = .ok (.iload_n 1, 1) := by decide +kernel
theorem dX6_kinds_33 : decode cX6_kinds 33 = .ok (.iload 4, 2) := by decide +kernel
theorem dX6_kinds_35 : decode cX6_kinds 35 = .ok (.iastore, 1) := by decide +kernel
theorem dX6_kinds_36 : decode cX6_kinds 36 = .ok (.iload_n 3, 1) := by decide +kernel
theorem dX6_kinds_37 : decode cX6_kinds 37 = .ok (.aload_n 0, 1) := by decide +kernel
theorem dX6_kinds_38 : decode cX6_kinds 38 = .ok (.invokevirtual 188, 3) := by decide +kernel
theorem dX6_kinds_41 : decode cX6_kinds 41 = .ok (.ifCond .eq 10, 3) := by decide +kernel
theorem dX6_kinds_44 : decode cX6_kinds 44 = .ok (.iconst 1, 1) := by decide +kernel
theorem dX6_kinds_45 : decode cX6_kinds 45 = .ok (.iload 4, 2) := by decide +kernel
theorem dX6_kinds_47 : decode cX6_kinds 47 = .ok (.ishl, 1) := by decide +kernel
theorem dX6_kinds_48 : decode cX6_kinds 48 = .ok (.goto 4, 3) := by decide +kernel
theorem dX6_kinds_51 : decode cX6_kinds 51 = .ok (.iconst 0, 1) := by decide +kernel
theorem dX6_kinds_52 : decode cX6_kinds 52 = .ok (.ior, 1) := by decide +kernel
theorem dX6_kinds_53 : decode cX6_kinds 53 = .ok (.istore_n 3, 1) := by decide +kernel
theorem dX6_kinds_54 : decode cX6_kinds 54 = .ok (.iinc 4 1, 3) := by decide +kernel
theorem dX6_kinds_57 : decode cX6_kinds 57 = .ok (.goto (-35), 3) := by decide +kernel
theorem dX6_kinds_60 : decode cX6_kinds 60 = .ok (.aload_n 0, 1) := by decide +kernel
theorem dX6_kinds_61 : decode cX6_kinds 61 = .ok (.getfield 19, 3) := by decide +kernel
theorem dX6_kinds_64 : decode cX6_kinds 64 = .ok (.iload_n 1, 1) := by decide +kernel
theorem dX6_kinds_65 : decode cX6_kinds 65 = .ok (.iload_n 2, 1) := by decide +kernel
theorem dX6_kinds_66 : decode cX6_kinds 66 = .ok (.iastore, 1) := by decide +kernel
theorem dX6_kinds_67 : decode cX6_kinds 67 = .ok (.iload_n 3, 1) := by decide +kernel
theorem dX6_kinds_68 : decode cX6_kinds 68 = .ok (.ireturn, 1) := by decide +kernel
def f_X6_kinds_j60 (N : Nat) (x1 : Int32) (x2 : Int32) (x3 : Int32) (σ : St) : Option (Int32 × St) :=
  gd (ck x1 4) <|
  nm (wS σ 4 (Int32.toNatClampNeg x1) x2) fun σ_2 =>
  some (x3, σ_2)
def f_X6_kinds_j52 (N : Nat) (x1 : Int32) (x2 : Int32) (x4 : Int32) (y0 : Int32) (y1 : Int32) (σ : St) : Option ((Int32 × Int32 × St) ⊕ ((Int32 × St))) :=
  nm (y0 ||| y1) fun x3_3 =>
  nm (x4 + (1 : Int32)) fun x4_4 =>
  some (.inl (x3_3, x4_4, σ))
def f_X6_kinds_b22 (N : Nat) (x1 : Int32) (x2 : Int32) (x3 : Int32) (x4 : Int32) (σ : St) : Option ((Int32 × Int32 × St) ⊕ ((Int32 × St))) :=
  if (3 : Int32) ≤ x4 then (some (.inr (x3, σ)))
  else gd (ck x1 4) <|
  nm (wS σ 4 (Int32.toNatClampNeg x1) x4) fun σ_7 =>
  bd (f_X6_areSo N σ_7) fun r_8 =>
  if r_8 = 0 then (f_X6_kinds_j52 N x1 x2 x4 x3 (0 : Int32) σ_7)
  else f_X6_kinds_j52 N x1 x2 x4 x3 ((1 : Int32) <<< (x4 &&& 31)) σ_7
def f_X6_kinds (N : Nat) (x1 : Int32) (σ : St) : Option (Int32 × St) :=
  bd (f_X6_isDoll x1 σ) fun r_11 =>
  if r_11 = 0 then (some ((-1 : Int32), σ))
  else gd (ck x1 4) <|
    nm (σ.1 4 x1.toNatClampNeg) fun x2_15 =>
    bd (lpF (fun s => f_X6_kinds_b22 N x1 x2_15 s.1 s.2.1 s.2.2) N ((0 : Int32), (0 : Int32), σ)) (fun o => f_X6_kinds_j60 N x1 x2_15 o.1 o.2)
abbrev rmX6_kinds : Room := { frames := 3, cells := 0, slots := 0, locals := 64 }
set_option maxRecDepth 100000 in
set_option maxHeartbeats 4000000 in
theorem c_X6_kinds (l : Launch) (D : va_G) (a : Nat → Nat) (c : Nat → ClassId) (A : Nat → Prop) (hD : ∀ σ, va_D A (mW a c σ)) (N : Nat) (x1 : Int32) (σ : St) (r : Int32) (u : St) (hf : f_X6_kinds N x1 σ = some (r, u)) : MetI l yX6_kinds cX6_kinds 5 (some .int) rmX6_kinds (mW a c) D c A [.ref (a 0), .int x1] σ r u := by
  refine mkI (by decide) (Nat.le_of_ble_eq_true rfl) rfl ?_
  intro p e s m args below meth cd Q ls h0 hK hP hret hl
  obtain ⟨S, hr, hlk⟩ := h0
  obtain ⟨hx, hb, hml, hown, ht⟩ := id S
  have hS : va_S A s.heap s.heap [] := va_S.rf
  have hl : lv_has ls 5 [(0, .ref (a 0)), (1, .int x1)] := hl
  have hf := obs hf
  have j60 : ∀ (x1 : Int32) (x2 : Int32) (x3 : Int32) (σ : St) (H : Heap) (locs : List Loc) (ls : Array Slot), lv_has ls 5 [(0, .ref (a 0)), (1, .int x1), (2, .int x2), (3, .int x3)] → va_P D vwCl (mW a c σ) H → va_S A s.heap H locs → Option.bind (f_X6_kinds_j60 N x1 x2 x3 σ) some = some (r, u) → W p l e rmX6_kinds s m args below meth cd H locs 0 0 Q (F0 m 60 ls []) := by
    intro x1 x2 x3 σ H locs ls hl hP hS hf
    have hf := oun (f_X6_kinds_j60.eq_1 _ _ _ _ _) hf
    refine lv_aload_n hx hb dX6_kinds_60 rfl (lv_at hl 0 rfl) ?_
    refine va_get (D := D) (ci := 4) (v := .ref (a 4)) (C := RX6) (T := TX6) (N := 27) hx hb ht gX6 hown hK.1 hP 0 (mw0 a c σ) rfl 7 (by decide) (ht _ q53) (fun _ h9 => h9) rfl dX6_kinds_61 ?_
    refine lv_iload_n hx hb dX6_kinds_64 rfl (lv_at hl 1 rfl) ?_
    refine lv_iload_n hx hb dX6_kinds_65 rfl (lv_at hl 2 rfl) ?_
    obtain ⟨g_1, hf⟩ := ogd hf
    refine va_iast hx hb hK.1 hP (hD σ) hS 4 0 (mw4 a c σ) rfl (ck_in g_1) dX6_kinds_66 (fun H locs hP _ hS => ?_)
    have hP := vP_eq (mpA_m4 a c σ (Int32.toNatClampNeg x1) x2) hP
    obtain ⟨σ_2, eσ_2, hf⟩ := onm hf
    rw [eσ_2] at hP
    refine lv_iload_n hx hb dX6_kinds_67 rfl (lv_at hl 3 rfl) ?_
    exact hret _ _ _ _ _ _ dX6_kinds_68 rfl hP hS (oret hf)
  have L22 : ∀ (x1 : Int32) (x2 : Int32) (k : Nat) (x3 : Int32) (x4 : Int32) (σ : St) (H : Heap) (locs : List Loc) (ls : Array Slot), lv_has ls 5 [(0, .ref (a 0)), (1, .int x1), (2, .int x2), (3, .int x3), (4, .int x4)] → va_P D vwCl (mW a c σ) H → va_S A s.heap H locs → Option.bind (bd (lpF (fun s => f_X6_kinds_b22 N x1 x2 s.1 s.2.1 s.2.2) k (x3, x4, σ)) (fun o => f_X6_kinds_j60 N x1 x2 o.1 o.2)) some = some (r, u) → W p l e rmX6_kinds s m args below meth cd H locs 0 0 Q (F0 m 22 ls []) := by
    intro x1 x2 k
    induction k with
    | zero =>
      intro x3 x4 σ H locs ls hl hP hS hf
      exact (ol0 hf).elim
    | succ k ih =>
      intro x3 x4 σ H locs ls hl hP hS hf
      obtain ⟨K22, hf, hc22, hx22⟩ := ol1 hf
      have j52 : ∀ (x4 : Int32) (y0 : Int32) (y1 : Int32) (σ : St) (H : Heap) (locs : List Loc) (ls : Array Slot), lv_has ls 5 [(0, .ref (a 0)), (1, .int x1), (2, .int x2), (4, .int x4)] → va_P D vwCl (mW a c σ) H → va_S A s.heap H locs → Option.bind (f_X6_kinds_j52 N x1 x2 x4 y0 y1 σ) K22 = some (r, u) → W p l e rmX6_kinds s m args below meth cd H locs 0 0 Q (F0 m 52 ls [.int y1, .int y0]) := by
        intro x4 y0 y1 σ H locs ls hl hP hS hf
        have hf := oun (f_X6_kinds_j52.eq_1 _ _ _ _ _ _ _) hf
        refine lv_ior hx hb dX6_kinds_52 ?_
        obtain ⟨x3_3, ex3_3, hf⟩ := onm hf
        refine lv_nm ex3_3 ?_
        refine lv_istore_n (lv' := [(3, .int x3_3), (0, .ref (a 0)), (1, .int x1), (2, .int x2), (4, .int x4)]) hx hb dX6_kinds_53 rfl hl (by decide) rfl (fun ls hl => ?_)
        obtain ⟨x4_4, ex4_4, hf⟩ := onm hf
        refine lv_iinc (v := x4_4) (lv' := [(4, .int x4_4), (3, .int x3_3), (0, .ref (a 0)), (1, .int x1), (2, .int x2)]) hx hb dX6_kinds_54 hl (k := 4) rfl ex4_4 (by decide) rfl (fun ls hl => ?_)
        refine lv_goto (tgt := 22) hx hb dX6_kinds_57 (by decide) ?_
        exact ih x3_3 x4_4 σ _ _ _ (lv_sub hl [2, 3, 4, 1, 0] rfl) hP hS (okx hf (hc22 _))
      have hf := oun (f_X6_kinds_b22.eq_1 N x1 x2 x3 x4 σ) hf
      refine lv_iload hx hb dX6_kinds_22 (lv_at hl 4 rfl) ?_
      refine lv_iconst (v := (3 : Int32)) hx hb dX6_kinds_24 (by decide) ?_
      refine lv_icmp_ge (tgt := 60) hx hb dX6_kinds_25 (by decide) (fun c_5 => ?_) (fun c_5 => ?_)
      · have hf := oit c_5 hf
        exact j60 x1 x2 x3 σ _ _ _ (lv_sub hl [0, 1, 2, 3] rfl) hP hS (okx hf (hx22 _))
      have hf := oif c_5 hf
      refine lv_aload_n hx hb dX6_kinds_28 rfl (lv_at hl 0 rfl) ?_
      refine va_get (D := D) (ci := 4) (v := .ref (a 4)) (C := RX6) (T := TX6) (N := 27) hx hb ht gX6 hown hK.1 hP 0 (mw0 a c σ) rfl 7 (by decide) (ht _ q53) (fun _ h9 => h9) rfl dX6_kinds_29 ?_
      refine lv_iload_n hx hb dX6_kinds_32 rfl (lv_at hl 1 rfl) ?_
      refine lv_iload hx hb dX6_kinds_33 (lv_at hl 4 rfl) ?_
      obtain ⟨g_6, hf⟩ := ogd hf
      refine va_iast hx hb hK.1 hP (hD σ) hS 4 0 (mw4 a c σ) rfl (ck_in g_6) dX6_kinds_35 (fun H locs hP _ hS => ?_)
      have hP := vP_eq (mpA_m4 a c σ (Int32.toNatClampNeg x1) x4) hP
      obtain ⟨σ_7, eσ_7, hf⟩ := onm hf
      rw [eσ_7] at hP
      refine lv_iload_n hx hb dX6_kinds_36 rfl (lv_at hl 3 rfl) ?_
      refine lv_aload_n hx hb dX6_kinds_37 rfl (lv_at hl 0 rfl) ?_
      obtain ⟨r_8, h_9, hf⟩ := obd hf
      refine xv_I (As := []) (rest := [.int x3]) S k_X6_areSo q572 q573 q574 ⟨Nat.le_of_ble_eq_true rfl, Nat.le_of_ble_eq_true rfl⟩ ⟨rfl, rfl⟩ (c_X6_areSo l D a c A hD N σ_7 r_8 h_9) hK hP hS (va_recv hK.1 hP (rfl : vwCl[4]? = some (RX6, TX6, 27)) (mw0 a c σ_7)) rfl hl.1 rfl (Nat.le_of_ble_eq_true rfl) dX6_kinds_38 ⟨Nat.zero_le _, Nat.zero_le _⟩ (fun H locs hP hS => ?_)
      refine lv_if_eq (tgt := 51) hx hb dX6_kinds_41 (by decide) (fun c_10 => ?_) (fun c_10 => ?_)
      · have hf := oit c_10 hf
        refine lv_iconst (v := (0 : Int32)) hx hb dX6_kinds_51 (by decide) ?_
        exact j52 x4 x3 (0 : Int32) σ_7 _ _ _ (lv_sub hl [0, 1, 2, 4] rfl) hP hS hf
      have hf := oif c_10 hf
      refine lv_iconst (v := (1 : Int32)) hx hb dX6_kinds_44 (by decide) ?_
      refine lv_iload hx hb dX6_kinds_45 (lv_at hl 4 rfl) ?_
      refine lv_ishl hx hb dX6_kinds_47 ?_
      refine lv_goto (tgt := 52) hx hb dX6_kinds_48 (by decide) ?_
      exact j52 x4 x3 ((1 : Int32) <<< (x4 &&& 31)) σ_7 _ _ _ (lv_sub hl [0, 1, 2, 4] rfl) hP hS hf
  have hf := oun (f_X6_kinds.eq_1 _ _ _) hf
  refine lv_aload_n hx hb dX6_kinds_0 rfl (lv_at hl 0 rfl) ?_
  refine lv_iload_n hx hb dX6_kinds_1 rfl (lv_at hl 1 rfl) ?_
  obtain ⟨r_11, h_12, hf⟩ := obd hf
  refine xv_I (As := [.int x1]) (rest := []) S k_X6_isDoll q226 q227 q228 ⟨Nat.le_of_ble_eq_true rfl, Nat.le_of_ble_eq_true rfl⟩ ⟨rfl, rfl⟩ (c_X6_isDoll l D a c A hD x1 σ r_11 h_12) hK hP hS (va_recv hK.1 hP (rfl : vwCl[4]? = some (RX6, TX6, 27)) (mw0 a c σ)) rfl hl.1 rfl (Nat.le_of_ble_eq_true rfl) dX6_kinds_2 ⟨Nat.zero_le _, Nat.zero_le _⟩ (fun H locs hP hS => ?_)
  refine lv_if_ne (tgt := 10) hx hb dX6_kinds_5 (by decide) (fun c_13 => ?_) (fun c_13 => ?_)
  · have hf := oif c_13 hf
    refine lv_aload_n hx hb dX6_kinds_10 rfl (lv_at hl 0 rfl) ?_
    refine va_get (D := D) (ci := 4) (v := .ref (a 4)) (C := RX6) (T := TX6) (N := 27) hx hb ht gX6 hown hK.1 hP 0 (mw0 a c σ) rfl 7 (by decide) (ht _ q53) (fun _ h9 => h9) rfl dX6_kinds_11 ?_
    refine lv_iload_n hx hb dX6_kinds_14 rfl (lv_at hl 1 rfl) ?_
    obtain ⟨g_14, hf⟩ := ogd hf
    refine va_iald hx hb hK.1 hP 4 0 (mw4 a c σ) rfl (ck_in g_14) dX6_kinds_15 ?_
    obtain ⟨x2_15, ex2_15, hf⟩ := onm hf
    refine lv_nm ex2_15 ?_
    refine lv_istore_n (lv' := [(2, .int x2_15), (0, .ref (a 0)), (1, .int x1)]) hx hb dX6_kinds_16 rfl hl (by decide) rfl (fun ls hl => ?_)
    refine lv_iconst (v := (0 : Int32)) hx hb dX6_kinds_17 (by decide) ?_
    refine lv_istore_n (lv' := [(3, .int (0 : Int32)), (2, .int x2_15), (0, .ref (a 0)), (1, .int x1)]) hx hb dX6_kinds_18 rfl hl (by decide) rfl (fun ls hl => ?_)
    refine lv_iconst (v := (0 : Int32)) hx hb dX6_kinds_19 (by decide) ?_
    refine lv_istore (lv' := [(4, .int (0 : Int32)), (3, .int (0 : Int32)), (2, .int x2_15), (0, .ref (a 0)), (1, .int x1)]) hx hb dX6_kinds_20 hl (by decide) rfl (fun ls hl => ?_)
    exact L22 x1 x2_15 N (0 : Int32) (0 : Int32) σ _ _ _ (lv_sub hl [3, 4, 2, 1, 0] rfl) hP hS hf
  have hf := oit c_13 hf
  refine lv_iconst (v := (-1 : Int32)) hx hb dX6_kinds_8 (by decide) ?_
  exact hret _ _ _ _ _ _ dX6_kinds_9 rfl hP hS (oret hf)
theorem dX6_odds_0 : decode cX6_odds 0 = .ok (.iload_n 1, 1) := by decide +kernel
theorem dX6_odds_1 : decode cX6_odds 1 = .ok (.iconst 0, 1) := by decide +kernel
theorem dX6_odds_2 : decode cX6_odds 2 = .ok (.iconst 1, 1) := by decide +kernel
theorem dX6_odds_3 : decode cX6_odds 3 = .ok (.invokestatic 71, 3) := by decide +kernel
theorem dX6_odds_6 : decode cX6_odds 6 = .ok (.ifCond .eq 11, 3) := by decide +kernel
theorem dX6_odds_9 : decode cX6_odds 9 = .ok (.aload_n 0, 1) := by decide +kernel
theorem dX6_odds_10 : decode cX6_odds 10 = .ok (.getfield 75, 3) := by decide +kernel
theorem dX6_odds_13 : decode cX6_odds 13 = .ok (.iconst 2, 1) := by decide +kernel
theorem dX6_odds_14 : decode cX6_odds 14 = .ok (.if_icmp .ge 7, 3) := by decide +kernel
theorem dX6_odds_17 : decode cX6_odds 17 = .ok (.ldc2_w 69, 3) := by decide +kernel
theorem dX6_odds_20 : decode cX6_odds 20 = .ok (.lreturn, 1) := by decide +kernel
theorem dX6_odds_21 : decode cX6_odds 21 = .ok (.iconst 0, 1) := by decide +kernel
theorem dX6_odds_22 : decode cX6_odds 22 = .ok (.istore_n 2, 1) := by decide +kernel
theorem dX6_odds_23 : decode cX6_odds 23 = .ok (.iconst 0, 1) := by decide +kernel
theorem dX6_odds_24 : decode cX6_odds 24 = .ok (.istore_n 3, 1) := by decide +kernel
theorem dX6_odds_25 : decode cX6_odds 25 = .ok (.iload_n 3, 1) := by decide +kernel
theorem dX6_odds_26 : decode cX6_odds 26 = .ok (.aload_n 0, 1) := by decide +kernel
theorem dX6_odds_27 : decode cX6_odds 27 = .ok (.getfield 75, 3) := by decide +kernel
theorem dX6_odds_30 : decode cX6_odds 30 = .ok (.if_icmp .ge 51, 3) := by decide +kernel
theorem dX6_odds_33 : decode cX6_odds 33 = .ok (.iconst 0, 1) := by decide +kernel
theorem dX6_odds_34 : decode cX6_odds 34 = .ok (.istore 4, 2) := by decide +kernel
theorem dX6_odds_36 : decode cX6_odds 36 = .ok (.iload 4, 2) := by decide +kernel
theorem dX6_odds_38 : decode cX6_odds 38 = .ok (.aload_n 0, 1) := by decide +kernel
theorem dX6_odds_39 : decode cX6_odds 39 = .ok (.getfield 75, 3) := by decide +kernel
theorem dX6_odds_42 : decode cX6_odds 42 = .ok (.if_icmp .ge 33, 3) := by decide +kernel
theorem dX6_odds_45 : decode cX6_odds 45 = .ok (.iload_n 2, 1) := by decide +kernel
theorem dX6_odds_46 : decode cX6_odds 46 = .ok (.iload_n 3, 1) := by decide +kernel
theorem dX6_odds_47 : decode cX6_odds 47 = .ok (.iload 4, 2) := by decide +kernel
theorem dX6_odds_49 : decode cX6_odds 49 = .ok (.if_icmp .eq 17, 3) := by decide +kernel
theorem dX6_odds_52 : decode cX6_odds 52 = .ok (.aload_n 0, 1) := by decide +kernel
theorem dX6_odds_53 : decode cX6_odds 53 = .ok (.iload_n 3, 1) := by decide +kernel
theorem dX6_odds_54 : decode cX6_odds 54 = .ok (.iload 4, 2) := by decide +kernel
theorem dX6_odds_56 : decode cX6_odds 56 = .ok (.invokevirtual 143, 3) := by decide +kernel
theorem dX6_odds_59 : decode cX6_odds 59 = .ok (.ifCond .eq 7, 3) := by decide +kernel
theorem dX6_odds_62 : decode cX6_odds 62 = .ok (.iconst 1, 1) := by decide +kernel
theorem dX6_odds_63 : decode cX6_odds 63 = .ok (.goto 4, 3) := by decide +kernel
theorem dX6_odds_66 : decode cX6_odds 66 = .ok (.iconst 0, 1) := by decide +kernel
theorem dX6_odds_67 : decode cX6_odds 67 = .ok (.iadd, 1) := by decide +kernel
theorem dX6_odds_68 : decode cX6_odds 68 = .ok (.istore_n 2, 1) := by decide +kernel
theorem dX6_odds_69 : decode cX6_odds 69 = .ok (.iinc 4 1, 3) := by decide +kernel
theorem dX6_odds_72 : decode cX6_odds 72 = .ok (.goto (-36), 3) := by decide +kernel
theorem dX6_odds_75 : decode cX6_odds 75 = .ok (.iinc 3 1, 3) := by decide +kernel
theorem dX6_odds_78 : decode cX6_odds 78 = .ok (.goto (-53), 3) := by decide +kernel
theorem dX6_odds_81 : decode cX6_odds 81 = .ok (.iload_n 2, 1) := by decide +kernel
theorem dX6_odds_82 : decode cX6_odds 82 = .ok (.i2l, 1) := by decide +kernel
theorem dX6_odds_83 : decode cX6_odds 83 = .ok (.aload_n 0, 1) := by decide +kernel
theorem dX6_odds_84 : decode cX6_odds 84 = .ok (.getfield 75, 3) := by decide +kernel
theorem dX6_odds_87 : decode cX6_odds 87 = .ok (.aload_n 0, 1) := by decide +kernel
theorem dX6_odds_88 : decode cX6_odds 88 = .ok (.getfield 75, 3) := by decide +kernel
theorem dX6_odds_91 : decode cX6_odds 91 = .ok (.iconst 1, 1) := by decide +kernel
theorem dX6_odds_92 : decode cX6_odds 92 = .ok (.isub, 1) := by decide +kernel
theorem dX6_odds_93 : decode cX6_odds 93 = .ok (.imul, 1) := by decide +kernel
theorem dX6_odds_94 : decode cX6_odds 94 = .ok (.i2l, 1) := by decide +kernel
theorem dX6_odds_95 : decode cX6_odds 95 = .ok (.iload_n 1, 1) := by decide +kernel
theorem dX6_odds_96 : decode cX6_odds 96 = .ok (.invokestatic 192, 3) := by decide +kernel
theorem dX6_odds_99 : decode cX6_odds 99 = .ok (.lreturn, 1) := by decide +kernel
def f_X6_odds_j81 (N : Nat) (x1 : Int32) (x2 : Int32) (σ : St) : Option Int64 :=
  bd (f_X6_inLeastTerms N (Int32.toInt64 x2) (Int32.toInt64 ((σ.1 0 2) * ((σ.1 0 2) - (1 : Int32)))) x1) fun r_1 =>
  some r_1
def f_X6_odds_j75 (N : Nat) (x1 : Int32) (x2 : Int32) (x3 : Int32) (σ : St) : Option ((Int32 × Int32) ⊕ ((Int32))) :=
  nm (x3 + (1 : Int32)) fun x3_3 =>
  some (.inl (x2, x3_3))
def f_X6_odds_j67 (N : Nat) (x1 : Int32) (x3 : Int32) (x4 : Int32) (y0 : Int32) (y1 : Int32) (σ : St) : Option ((Int32 × Int32) ⊕ ((Int32))) :=
  nm (y0 + y1) fun x2_4 =>
  nm (x4 + (1 : Int32)) fun x4_5 =>
  some (.inl (x2_4, x4_5))
def f_X6_odds_j66 (N : Nat) (x1 : Int32) (x3 : Int32) (x4 : Int32) (y0 : Int32) (σ : St) : Option ((Int32 × Int32) ⊕ ((Int32))) :=
  f_X6_odds_j67 N x1 x3 x4 y0 (0 : Int32) σ
def f_X6_odds_b36 (N : Nat) (x1 : Int32) (x2 : Int32) (x3 : Int32) (x4 : Int32) (σ : St) : Option ((Int32 × Int32) ⊕ ((Int32))) :=
  if (σ.1 0 2) ≤ x4 then (some (.inr x2))
  else if x3 = x4 then (f_X6_odds_j66 N x1 x3 x4 x2 σ)
  else bd (f_X6_fitsInto x3 x4 σ) fun r_8 =>
  if r_8 = 0 then (f_X6_odds_j66 N x1 x3 x4 x2 σ)
  else f_X6_odds_j67 N x1 x3 x4 x2 (1 : Int32) σ
def f_X6_odds_b25 (N : Nat) (x1 : Int32) (x2 : Int32) (x3 : Int32) (σ : St) : Option ((Int32 × Int32) ⊕ ((Int32))) :=
  if (σ.1 0 2) ≤ x3 then (some (.inr x2))
  else bd (lpF (fun s => f_X6_odds_b36 N x1 s.1 x3 s.2 σ) N (x2, (0 : Int32))) (fun o => f_X6_odds_j75 N x1 o x3 σ)
def f_X6_odds (N : Nat) (x1 : Int32) (σ : St) : Option Int64 :=
  bd (f_X6_within x1 (0 : Int32) (1 : Int32)) fun r_12 =>
  if r_12 = 0 then (some (-9223372036854775808 : Int64))
  else if (2 : Int32) ≤ (σ.1 0 2) then (bd (lpF (fun s => f_X6_odds_b25 N x1 s.1 s.2 σ) N ((0 : Int32), (0 : Int32))) (fun o => f_X6_odds_j81 N x1 o σ))
  else some (-9223372036854775808 : Int64)
abbrev rmX6_odds : Room := { frames := 2, cells := 0, slots := 0, locals := 43 }
set_option maxRecDepth 100000 in
set_option maxHeartbeats 4000000 in
theorem c_X6_odds (l : Launch) (D : va_G) (a : Nat → Nat) (c : Nat → ClassId) (A : Nat → Prop) (hD : ∀ σ, va_D A (mW a c σ)) (N : Nat) (x1 : Int32) (σ : St) (r : Int64) (hf : f_X6_odds N x1 σ = some r) : MetL l yX6_odds cX6_odds 5 (some .long) rmX6_odds (mW a c) D c A [.ref (a 0), .int x1] σ r σ := by
  refine mkL (by decide) (Nat.le_of_ble_eq_true rfl) rfl ?_
  intro p e s m args below meth cd Q ls h0 hK hP hret hl
  obtain ⟨S, hr, hlk⟩ := h0
  obtain ⟨hx, hb, hml, hown, ht⟩ := id S
  have hS : va_S A s.heap s.heap [] := va_S.rf
  have hl : lv_has ls 5 [(0, .ref (a 0)), (1, .int x1)] := hl
  have hf := obs hf
  have j81 : ∀ (x1 : Int32) (x2 : Int32) (H : Heap) (locs : List Loc) (ls : Array Slot), lv_has ls 5 [(0, .ref (a 0)), (1, .int x1), (2, .int x2)] → va_P D vwCl (mW a c σ) H → va_S A s.heap H locs → Option.bind (f_X6_odds_j81 N x1 x2 σ) some = some r → W p l e rmX6_odds s m args below meth cd H locs 0 0 Q (F0 m 81 ls []) := by
    intro x1 x2 H locs ls hl hP hS hf
    have hf := oun (f_X6_odds_j81.eq_1 _ _ _ _) hf
    refine lv_iload_n hx hb dX6_odds_81 rfl (lv_at hl 2 rfl) ?_
    refine lv_i2l (v := (Int32.toInt64 x2)) hx hb dX6_odds_82 rfl ?_
    refine lv_aload_n hx hb dX6_odds_83 rfl (lv_at hl 0 rfl) ?_
    refine va_get (D := D) (ci := 4) (v := .int (σ.1 0 2)) (C := RX6) (T := TX6) (N := 27) hx hb ht gX6 hown hK.1 hP 0 (mw0 a c σ) rfl 5 (by decide) (ht _ q139) (fun _ h9 => h9) rfl dX6_odds_84 ?_
    refine lv_aload_n hx hb dX6_odds_87 rfl (lv_at hl 0 rfl) ?_
    refine va_get (D := D) (ci := 4) (v := .int (σ.1 0 2)) (C := RX6) (T := TX6) (N := 27) hx hb ht gX6 hown hK.1 hP 0 (mw0 a c σ) rfl 5 (by decide) (ht _ q139) (fun _ h9 => h9) rfl dX6_odds_88 ?_
    refine lv_iconst (v := (1 : Int32)) hx hb dX6_odds_91 (by decide) ?_
    refine lv_isub hx hb dX6_odds_92 ?_
    refine lv_imul hx hb dX6_odds_93 ?_
    refine lv_i2l (v := (Int32.toInt64 ((σ.1 0 2) * ((σ.1 0 2) - (1 : Int32))))) hx hb dX6_odds_94 rfl ?_
    refine lv_iload_n hx hb dX6_odds_95 rfl (lv_at hl 1 rfl) ?_
    obtain ⟨r_1, h_2, hf⟩ := obd hf
    refine xs_Sl (As := [.long (Int32.toInt64 x2), .long (Int32.toInt64 ((σ.1 0 2) * ((σ.1 0 2) - (1 : Int32)))), .int x1]) (rest := []) S k_X6_inLeastTerms q605 q606 ⟨Nat.le_of_ble_eq_true rfl, Nat.le_of_ble_eq_true rfl⟩ ⟨rfl, rfl⟩ (c_X6_inLeastTerms l N (Int32.toInt64 x2) (Int32.toInt64 ((σ.1 0 2) * ((σ.1 0 2) - (1 : Int32)))) x1 r_1 h_2) hK.2 rfl hl.1 rfl (Nat.le_of_ble_eq_true rfl) dX6_odds_96 ⟨Nat.zero_le _, Nat.zero_le _⟩ ?_
    exact hret _ _ _ _ _ _ dX6_odds_99 hP hS ⟨Option.some.inj hf, rfl⟩
  have L25 : ∀ (x1 : Int32) (k : Nat) (x2 : Int32) (x3 : Int32) (H : Heap) (locs : List Loc) (ls : Array Slot), lv_has ls 5 [(0, .ref (a 0)), (1, .int x1), (2, .int x2), (3, .int x3)] → va_P D vwCl (mW a c σ) H → va_S A s.heap H locs → Option.bind (bd (lpF (fun s => f_X6_odds_b25 N x1 s.1 s.2 σ) k (x2, x3)) (fun o => f_X6_odds_j81 N x1 o σ)) some = some r → W p l e rmX6_odds s m args below meth cd H locs 0 0 Q (F0 m 25 ls []) := by
    intro x1 k
    induction k with
    | zero =>
      intro x2 x3 H locs ls hl hP hS hf
      exact (ol0 hf).elim
    | succ k ih =>
      intro x2 x3 H locs ls hl hP hS hf
      obtain ⟨K25, hf, hc25, hx25⟩ := ol1 hf
      have j75 : ∀ (x2 : Int32) (x3 : Int32) (H : Heap) (locs : List Loc) (ls : Array Slot), lv_has ls 5 [(0, .ref (a 0)), (1, .int x1), (2, .int x2), (3, .int x3)] → va_P D vwCl (mW a c σ) H → va_S A s.heap H locs → Option.bind (f_X6_odds_j75 N x1 x2 x3 σ) K25 = some r → W p l e rmX6_odds s m args below meth cd H locs 0 0 Q (F0 m 75 ls []) := by
        intro x2 x3 H locs ls hl hP hS hf
        have hf := oun (f_X6_odds_j75.eq_1 _ _ _ _ _) hf
        obtain ⟨x3_3, ex3_3, hf⟩ := onm hf
        refine lv_iinc (v := x3_3) (lv' := [(3, .int x3_3), (0, .ref (a 0)), (1, .int x1), (2, .int x2)]) hx hb dX6_odds_75 hl (k := 3) rfl ex3_3 (by decide) rfl (fun ls hl => ?_)
        refine lv_goto (tgt := 25) hx hb dX6_odds_78 (by decide) ?_
        exact ih x2 x3_3 _ _ _ (lv_sub hl [1, 2, 3, 0] rfl) hP hS (okx hf (hc25 _))
      have L36 : ∀ (x3 : Int32) (k : Nat) (x2 : Int32) (x4 : Int32) (H : Heap) (locs : List Loc) (ls : Array Slot), lv_has ls 5 [(0, .ref (a 0)), (1, .int x1), (2, .int x2), (3, .int x3), (4, .int x4)] → va_P D vwCl (mW a c σ) H → va_S A s.heap H locs → Option.bind (bd (lpF (fun s => f_X6_odds_b36 N x1 s.1 x3 s.2 σ) k (x2, x4)) (fun o => f_X6_odds_j75 N x1 o x3 σ)) K25 = some r → W p l e rmX6_odds s m args below meth cd H locs 0 0 Q (F0 m 36 ls []) := by
        intro x3 k
        induction k with
        | zero =>
          intro x2 x4 H locs ls hl hP hS hf
          exact (ol0 hf).elim
        | succ k ih =>
          intro x2 x4 H locs ls hl hP hS hf
          obtain ⟨K36, hf, hc36, hx36⟩ := ol1 hf
          have j67 : ∀ (x4 : Int32) (y0 : Int32) (y1 : Int32) (H : Heap) (locs : List Loc) (ls : Array Slot), lv_has ls 5 [(0, .ref (a 0)), (1, .int x1), (3, .int x3), (4, .int x4)] → va_P D vwCl (mW a c σ) H → va_S A s.heap H locs → Option.bind (f_X6_odds_j67 N x1 x3 x4 y0 y1 σ) K36 = some r → W p l e rmX6_odds s m args below meth cd H locs 0 0 Q (F0 m 67 ls [.int y1, .int y0]) := by
            intro x4 y0 y1 H locs ls hl hP hS hf
            have hf := oun (f_X6_odds_j67.eq_1 _ _ _ _ _ _ _) hf
            refine lv_iadd hx hb dX6_odds_67 ?_
            obtain ⟨x2_4, ex2_4, hf⟩ := onm hf
            refine lv_nm ex2_4 ?_
            refine lv_istore_n (lv' := [(2, .int x2_4), (0, .ref (a 0)), (1, .int x1), (3, .int x3), (4, .int x4)]) hx hb dX6_odds_68 rfl hl (by decide) rfl (fun ls hl => ?_)
            obtain ⟨x4_5, ex4_5, hf⟩ := onm hf
            refine lv_iinc (v := x4_5) (lv' := [(4, .int x4_5), (2, .int x2_4), (0, .ref (a 0)), (1, .int x1), (3, .int x3)]) hx hb dX6_odds_69 hl (k := 4) rfl ex4_5 (by decide) rfl (fun ls hl => ?_)
            refine lv_goto (tgt := 36) hx hb dX6_odds_72 (by decide) ?_
            exact ih x2_4 x4_5 _ _ _ (lv_sub hl [2, 3, 1, 4, 0] rfl) hP hS (okx hf (hc36 _))
          have j66 : ∀ (x4 : Int32) (y0 : Int32) (H : Heap) (locs : List Loc) (ls : Array Slot), lv_has ls 5 [(0, .ref (a 0)), (1, .int x1), (3, .int x3), (4, .int x4)] → va_P D vwCl (mW a c σ) H → va_S A s.heap H locs → Option.bind (f_X6_odds_j66 N x1 x3 x4 y0 σ) K36 = some r → W p l e rmX6_odds s m args below meth cd H locs 0 0 Q (F0 m 66 ls [.int y0]) := by
            intro x4 y0 H locs ls hl hP hS hf
            have hf := oun (f_X6_odds_j66.eq_1 _ _ _ _ _ _) hf
            refine lv_iconst (v := (0 : Int32)) hx hb dX6_odds_66 (by decide) ?_
            exact j67 x4 y0 (0 : Int32) _ _ _ (lv_sub hl [0, 1, 2, 3] rfl) hP hS hf
          have hf := oun (f_X6_odds_b36.eq_1 N x1 x2 x3 x4 σ) hf
          refine lv_iload hx hb dX6_odds_36 (lv_at hl 4 rfl) ?_
          refine lv_aload_n hx hb dX6_odds_38 rfl (lv_at hl 0 rfl) ?_
          refine va_get (D := D) (ci := 4) (v := .int (σ.1 0 2)) (C := RX6) (T := TX6) (N := 27) hx hb ht gX6 hown hK.1 hP 0 (mw0 a c σ) rfl 5 (by decide) (ht _ q139) (fun _ h9 => h9) rfl dX6_odds_39 ?_
          refine lv_icmp_ge (tgt := 75) hx hb dX6_odds_42 (by decide) (fun c_6 => ?_) (fun c_6 => ?_)
          · have hf := oit c_6 hf
            exact j75 x2 x3 _ _ _ (lv_sub hl [0, 1, 2, 3] rfl) hP hS (okx hf (hx36 _))
          have hf := oif c_6 hf
          refine lv_iload_n hx hb dX6_odds_45 rfl (lv_at hl 2 rfl) ?_
          refine lv_iload_n hx hb dX6_odds_46 rfl (lv_at hl 3 rfl) ?_
          refine lv_iload hx hb dX6_odds_47 (lv_at hl 4 rfl) ?_
          refine lv_icmp_eq (tgt := 66) hx hb dX6_odds_49 (by decide) (fun c_7 => ?_) (fun c_7 => ?_)
          · have hf := oit c_7 hf
            exact j66 x4 x2 _ _ _ (lv_sub hl [0, 1, 3, 4] rfl) hP hS hf
          have hf := oif c_7 hf
          refine lv_aload_n hx hb dX6_odds_52 rfl (lv_at hl 0 rfl) ?_
          refine lv_iload_n hx hb dX6_odds_53 rfl (lv_at hl 3 rfl) ?_
          refine lv_iload hx hb dX6_odds_54 (lv_at hl 4 rfl) ?_
          obtain ⟨r_8, h_9, hf⟩ := obd hf
          refine xv_I (As := [.int x3, .int x4]) (rest := [.int x2]) S k_X6_fitsInto q287 q288 q289 ⟨Nat.le_of_ble_eq_true rfl, Nat.le_of_ble_eq_true rfl⟩ ⟨rfl, rfl⟩ (c_X6_fitsInto l D a c A hD x3 x4 σ r_8 h_9) hK hP hS (va_recv hK.1 hP (rfl : vwCl[4]? = some (RX6, TX6, 27)) (mw0 a c σ)) rfl hl.1 rfl (Nat.le_of_ble_eq_true rfl) dX6_odds_56 ⟨Nat.zero_le _, Nat.zero_le _⟩ (fun H locs hP hS => ?_)
          refine lv_if_eq (tgt := 66) hx hb dX6_odds_59 (by decide) (fun c_10 => ?_) (fun c_10 => ?_)
          · have hf := oit c_10 hf
            exact j66 x4 x2 _ _ _ (lv_sub hl [0, 1, 3, 4] rfl) hP hS hf
          have hf := oif c_10 hf
          refine lv_iconst (v := (1 : Int32)) hx hb dX6_odds_62 (by decide) ?_
          refine lv_goto (tgt := 67) hx hb dX6_odds_63 (by decide) ?_
          exact j67 x4 x2 (1 : Int32) _ _ _ (lv_sub hl [0, 1, 3, 4] rfl) hP hS hf
      have hf := oun (f_X6_odds_b25.eq_1 N x1 x2 x3 σ) hf
      refine lv_iload_n hx hb dX6_odds_25 rfl (lv_at hl 3 rfl) ?_
      refine lv_aload_n hx hb dX6_odds_26 rfl (lv_at hl 0 rfl) ?_
      refine va_get (D := D) (ci := 4) (v := .int (σ.1 0 2)) (C := RX6) (T := TX6) (N := 27) hx hb ht gX6 hown hK.1 hP 0 (mw0 a c σ) rfl 5 (by decide) (ht _ q139) (fun _ h9 => h9) rfl dX6_odds_27 ?_
      refine lv_icmp_ge (tgt := 81) hx hb dX6_odds_30 (by decide) (fun c_11 => ?_) (fun c_11 => ?_)
      · have hf := oit c_11 hf
        exact j81 x1 x2 _ _ _ (lv_sub hl [0, 1, 2] rfl) hP hS (okx hf (hx25 _))
      have hf := oif c_11 hf
      refine lv_iconst (v := (0 : Int32)) hx hb dX6_odds_33 (by decide) ?_
      refine lv_istore (lv' := [(4, .int (0 : Int32)), (0, .ref (a 0)), (1, .int x1), (2, .int x2), (3, .int x3)]) hx hb dX6_odds_34 hl (by decide) rfl (fun ls hl => ?_)
      exact L36 x3 N x2 (0 : Int32) _ _ _ (lv_sub hl [1, 2, 3, 4, 0] rfl) hP hS hf
  have hf := oun (f_X6_odds.eq_1 _ _ _) hf
  refine lv_iload_n hx hb dX6_odds_0 rfl (lv_at hl 1 rfl) ?_
  refine lv_iconst (v := (0 : Int32)) hx hb dX6_odds_1 (by decide) ?_
  refine lv_iconst (v := (1 : Int32)) hx hb dX6_odds_2 (by decide) ?_
  obtain ⟨r_12, h_13, hf⟩ := obd hf
  refine xs_S (As := [.int x1, .int (0 : Int32), .int (1 : Int32)]) (rest := []) S k_X6_within q146 q147 ⟨Nat.le_of_ble_eq_true rfl, Nat.le_of_ble_eq_true rfl⟩ ⟨rfl, rfl⟩ (c_X6_within l x1 (0 : Int32) (1 : Int32) r_12 h_13) hK.2 rfl hl.1 rfl (Nat.le_of_ble_eq_true rfl) dX6_odds_3 ⟨Nat.zero_le _, Nat.zero_le _⟩ ?_
  refine lv_if_eq (tgt := 17) hx hb dX6_odds_6 (by decide) (fun c_14 => ?_) (fun c_14 => ?_)
  · have hf := oit c_14 hf
    refine lv_ldc2 (v := (-9223372036854775808 : Int64)) hx hb hown (ht _ q604) dX6_odds_17 ?_
    exact hret _ _ _ _ _ _ dX6_odds_20 hP hS ⟨Option.some.inj hf, rfl⟩
  have hf := oif c_14 hf
  refine lv_aload_n hx hb dX6_odds_9 rfl (lv_at hl 0 rfl) ?_
  refine va_get (D := D) (ci := 4) (v := .int (σ.1 0 2)) (C := RX6) (T := TX6) (N := 27) hx hb ht gX6 hown hK.1 hP 0 (mw0 a c σ) rfl 5 (by decide) (ht _ q139) (fun _ h9 => h9) rfl dX6_odds_10 ?_
  refine lv_iconst (v := (2 : Int32)) hx hb dX6_odds_13 (by decide) ?_
  refine lv_icmp_ge (tgt := 21) hx hb dX6_odds_14 (by decide) (fun c_15 => ?_) (fun c_15 => ?_)
  · have hf := oit c_15 hf
    refine lv_iconst (v := (0 : Int32)) hx hb dX6_odds_21 (by decide) ?_
    refine lv_istore_n (lv' := [(2, .int (0 : Int32)), (0, .ref (a 0)), (1, .int x1)]) hx hb dX6_odds_22 rfl hl (by decide) rfl (fun ls hl => ?_)
    refine lv_iconst (v := (0 : Int32)) hx hb dX6_odds_23 (by decide) ?_
    refine lv_istore_n (lv' := [(3, .int (0 : Int32)), (2, .int (0 : Int32)), (0, .ref (a 0)), (1, .int x1)]) hx hb dX6_odds_24 rfl hl (by decide) rfl (fun ls hl => ?_)
    exact L25 x1 N (0 : Int32) (0 : Int32) _ _ _ (lv_sub hl [2, 3, 1, 0] rfl) hP hS hf
  have hf := oif c_15 hf
  refine lv_ldc2 (v := (-9223372036854775808 : Int64)) hx hb hown (ht _ q604) dX6_odds_17 ?_
  exact hret _ _ _ _ _ _ dX6_odds_20 hP hS ⟨Option.some.inj hf, rfl⟩
theorem dX6_sheet_0 : decode cX6_sheet 0 = .ok (.aload_n 0, 1) := by decide +kernel
theorem dX6_sheet_1 : decode cX6_sheet 1 = .ok (.iconst 0, 1) := by decide +kernel
theorem dX6_sheet_2 : decode cX6_sheet 2 = .ok (.putfield 65, 3) := by decide +kernel
theorem dX6_sheet_5 : decode cX6_sheet 5 = .ok (.iload_n 1, 1) := by decide +kernel
theorem dX6_sheet_6 : decode cX6_sheet 6 = .ok (.invokestatic 85, 3) := by decide +kernel
theorem dX6_sheet_9 : decode cX6_sheet 9 = .ok (.ifCond .ne 5, 3) := by decide +kernel
theorem dX6_sheet_12 : decode cX6_sheet 12 = .ok (.iconst (-1), 1) := by decide +kernel
theorem dX6_sheet_13 : decode cX6_sheet 13 = .ok (.ireturn, 1) := by decide +kernel
theorem dX6_sheet_14 : decode cX6_sheet 14 = .ok (.iload_n 2, 1) := by decide +kernel
theorem dX6_sheet_15 : decode cX6_sheet 15 = .ok (.invokestatic 88, 3) := by decide +kernel
theorem dX6_sheet_18 : decode cX6_sheet 18 = .ok (.ifCond .eq 9, 3) := by decide +kernel
theorem dX6_sheet_21 : decode cX6_sheet 21 = .ok (.iload_n 3, 1) := by decide +kernel
theorem dX6_sheet_22 : decode cX6_sheet 22 = .ok (.bipush 60, 2) := by decide +kernel
theorem dX6_sheet_24 : decode cX6_sheet 24 = .ok (.if_icmp .le 6, 3) := by decide +kernel
theorem dX6_sheet_27 : decode cX6_sheet 27 = .ok (.bipush (-2), 2) := by decide +kernel
theorem dX6_sheet_29 : decode cX6_sheet 29 = .ok (.ireturn, 1) := by decide +kernel
theorem dX6_sheet_30 : decode cX6_sheet 30 = .ok (.iload_n 3, 1) := by decide +kernel
theorem dX6_sheet_31 : decode cX6_sheet 31 = .ok (.ifCond .ge 9, 3) := by decide +kernel
theorem dX6_sheet_34 : decode cX6_sheet 34 = .ok (.aload_n 0, 1) := by decide +kernel
theorem dX6_sheet_35 : decode cX6_sheet 35 = .ok (.iconst 4, 1) := by decide +kernel
theorem dX6_sheet_36 : decode cX6_sheet 36 = .ok (.invokevirtual 95, 3) := by decide +kernel
theorem dX6_sheet_39 : decode cX6_sheet 39 = .ok (.ireturn, 1) := by decide +kernel
theorem dX6_sheet_40 : decode cX6_sheet 40 = .ok (.aload_n 0, 1) := by decide +kernel
theorem dX6_sheet_41 : decode cX6_sheet 41 = .ok (.getfield 9, 3) := by decide +kernel
theorem dX6_sheet_44 : decode cX6_sheet 44 = .ok (.iload_n 1, 1) := by decide +kernel
theorem dX6_sheet_45 : decode cX6_sheet 45 = .ok (.iload_n 2, 1) := by decide +kernel
theorem dX6_sheet_46 : decode cX6_sheet 46 = .ok (.iastore, 1) := by decide +kernel
theorem dX6_sheet_47 : decode cX6_sheet 47 = .ok (.aload_n 0, 1) := by decide +kernel
theorem dX6_sheet_48 : decode cX6_sheet 48 = .ok (.getfield 13, 3) := by decide +kernel
theorem dX6_sheet_51 : decode cX6_sheet 51 = .ok (.iload_n 1, 1) := by decide +kernel
theorem dX6_sheet_52 : decode cX6_sheet 52 = .ok (.iload_n 3, 1) := by decide +kernel
theorem dX6_sheet_53 : decode cX6_sheet 53 = .ok (.iastore, 1) := by decide +kernel
theorem dX6_sheet_54 : decode cX6_sheet 54 = .ok (.iconst 0, 1) := by decide +kernel
theorem dX6_sheet_55 : decode cX6_sheet 55 = .ok (.istore 4, 2) := by decide +kernel
theorem dX6_sheet_57 : decode cX6_sheet 57 = .ok (.iload 4, 2) := by decide +kernel
theorem dX6_sheet_59 : decode cX6_sheet 59 = .ok (.bipush 60, 2) := by decide +kernel
theorem dX6_sheet_61 : decode cX6_sheet 61 = .ok (.if_icmp .ge 22, 3) := by decide +kernel
theorem dX6_sheet_64 : decode cX6_sheet 64 = .ok (.aload_n 0, 1) := by decide +kernel
theorem dX6_sheet_65 : decode cX6_sheet 65 = .ok (.getfield 16, 3) := by decide +kernel
theorem dX6_sheet_68 : decode cX6_sheet 68 = .ok (.bipush 60, 2) := by decide +kernel
theorem dX6_sheet_70 : decode cX6_sheet 70 = .ok (.iload_n 1, 1) := by decide +kernel
theorem dX6_sheet_71 : decode cX6_sheet 71 = .ok (.imul, 1) := by decide +kernel
theorem dX6_sheet_72 : decode cX6_sheet 72 = .ok (.iload 4, 2) := by decide +kernel
theorem dX6_sheet_74 : decode cX6_sheet 74 = .ok (.iadd, 1) := by decide +kernel
theorem dX6_sheet_75 : decode cX6_sheet 75 = .ok (.iconst 0, 1) := by decide +kernel
theorem dX6_sheet_76 : decode cX6_sheet 76 = .ok (.iastore, 1) := by decide +kernel
theorem dX6_sheet_77 : decode cX6_sheet 77 = .ok (.iinc 4 1, 3) := by decide +kernel
theorem dX6_sheet_80 : decode cX6_sheet 80 = .ok (.goto (-23), 3) := by decide +kernel
theorem dX6_sheet_83 : decode cX6_sheet 83 = .ok (.iconst 1, 1) := by decide +kernel
theorem dX6_sheet_84 : decode cX6_sheet 84 = .ok (.ireturn, 1) := by decide +kernel
def f_X6_sheet_j83 (N : Nat) (σ : St) : Option (Int32 × St) :=
  some ((1 : Int32), σ)
def f_X6_sheet_b57 (N : Nat) (x1 : Int32) (x4 : Int32) (σ : St) : Option ((Int32 × St) ⊕ ((St))) :=
  if (60 : Int32) ≤ x4 then (some (.inr σ))
  else gd (ck (((60 : Int32) * x1) + x4) 240) <|
  nm (wS σ 3 (Int32.toNatClampNeg (((60 : Int32) * x1) + x4)) (0 : Int32)) fun σ_3 =>
  nm (x4 + (1 : Int32)) fun x4_4 =>
  some (.inl (x4_4, σ_3))
def f_X6_sheet (N : Nat) (x1 : Int32) (x2 : Int32) (x3 : Int32) (σ : St) : Option (Int32 × St) :=
  nm (wS σ 0 0 (0 : Int32)) fun σ_5 =>
  bd (f_X6_isSheet x1) fun r_6 =>
  if r_6 = 0 then (some ((-1 : Int32), σ_5))
  else bd (f_X6_isSort x2) fun r_9 =>
    if r_9 = 0 then (some ((-2 : Int32), σ_5))
    else if x3 ≤ (60 : Int32) then (if 0 ≤ x3 then (gd (ck x1 4) <|
        nm (wS σ_5 1 (Int32.toNatClampNeg x1) x2) fun σ_15 =>
        gd (ck x1 4) <|
        nm (wS σ_15 2 (Int32.toNatClampNeg x1) x3) fun σ_17 =>
        bd (lpF (fun s => f_X6_sheet_b57 N x1 s.1 s.2) N ((0 : Int32), σ_17)) (fun o => f_X6_sheet_j83 N o))
      else bd2 (f_X6_fails (4 : Int32) σ_5) fun r_18 σ_19 =>
      some (r_18, σ_19))
    else some ((-2 : Int32), σ_5)
abbrev rmX6_sheet : Room := { frames := 2, cells := 0, slots := 0, locals := 42 }
set_option maxRecDepth 100000 in
set_option maxHeartbeats 4000000 in
theorem c_X6_sheet (l : Launch) (D : va_G) (a : Nat → Nat) (c : Nat → ClassId) (A : Nat → Prop) (hD : ∀ σ, va_D A (mW a c σ)) (N : Nat) (x1 : Int32) (x2 : Int32) (x3 : Int32) (σ : St) (r : Int32) (u : St) (hf : f_X6_sheet N x1 x2 x3 σ = some (r, u)) : MetI l yX6_sheet cX6_sheet 5 (some .int) rmX6_sheet (mW a c) D c A [.ref (a 0), .int x1, .int x2, .int x3] σ r u := by
  refine mkI (by decide) (Nat.le_of_ble_eq_true rfl) rfl ?_
  intro p e s m args below meth cd Q ls h0 hK hP hret hl
  obtain ⟨S, hr, hlk⟩ := h0
  obtain ⟨hx, hb, hml, hown, ht⟩ := id S
  have hS : va_S A s.heap s.heap [] := va_S.rf
  have hl : lv_has ls 5 [(0, .ref (a 0)), (1, .int x1), (2, .int x2), (3, .int x3)] := hl
  have hf := obs hf
  have j83 : ∀ (σ : St) (H : Heap) (locs : List Loc) (ls : Array Slot), lv_has ls 5 [] → va_P D vwCl (mW a c σ) H → va_S A s.heap H locs → Option.bind (f_X6_sheet_j83 N σ) some = some (r, u) → W p l e rmX6_sheet s m args below meth cd H locs 0 0 Q (F0 m 83 ls []) := by
    intro σ H locs ls hl hP hS hf
    have hf := oun (f_X6_sheet_j83.eq_1 _ _) hf
    refine lv_iconst (v := (1 : Int32)) hx hb dX6_sheet_83 (by decide) ?_
    exact hret _ _ _ _ _ _ dX6_sheet_84 rfl hP hS (oret hf)
  have L57 : ∀ (x1 : Int32) (k : Nat) (x4 : Int32) (σ : St) (H : Heap) (locs : List Loc) (ls : Array Slot), lv_has ls 5 [(0, .ref (a 0)), (1, .int x1), (4, .int x4)] → va_P D vwCl (mW a c σ) H → va_S A s.heap H locs → Option.bind (bd (lpF (fun s => f_X6_sheet_b57 N x1 s.1 s.2) k (x4, σ)) (fun o => f_X6_sheet_j83 N o)) some = some (r, u) → W p l e rmX6_sheet s m args below meth cd H locs 0 0 Q (F0 m 57 ls []) := by
    intro x1 k
    induction k with
    | zero =>
      intro x4 σ H locs ls hl hP hS hf
      exact (ol0 hf).elim
    | succ k ih =>
      intro x4 σ H locs ls hl hP hS hf
      obtain ⟨K57, hf, hc57, hx57⟩ := ol1 hf
      have hf := oun (f_X6_sheet_b57.eq_1 N x1 x4 σ) hf
      refine lv_iload hx hb dX6_sheet_57 (lv_at hl 2 rfl) ?_
      refine lv_bipush (v := (60 : Int32)) hx hb dX6_sheet_59 (by decide) ?_
      refine lv_icmp_ge (tgt := 83) hx hb dX6_sheet_61 (by decide) (fun c_1 => ?_) (fun c_1 => ?_)
      · have hf := oit c_1 hf
        exact j83 σ _ _ _ (lv_sub hl [] rfl) hP hS (okx hf (hx57 _))
      have hf := oif c_1 hf
      refine lv_aload_n hx hb dX6_sheet_64 rfl (lv_at hl 0 rfl) ?_
      refine va_get (D := D) (ci := 4) (v := .ref (a 3)) (C := RX6) (T := TX6) (N := 27) hx hb ht gX6 hown hK.1 hP 0 (mw0 a c σ) rfl 4 (by decide) (ht _ q52) (fun _ h9 => h9) rfl dX6_sheet_65 ?_
      refine lv_bipush (v := (60 : Int32)) hx hb dX6_sheet_68 (by decide) ?_
      refine lv_iload_n hx hb dX6_sheet_70 rfl (lv_at hl 1 rfl) ?_
      refine lv_imul hx hb dX6_sheet_71 ?_
      refine lv_iload hx hb dX6_sheet_72 (lv_at hl 2 rfl) ?_
      refine lv_iadd hx hb dX6_sheet_74 ?_
      refine lv_iconst (v := (0 : Int32)) hx hb dX6_sheet_75 (by decide) ?_
      obtain ⟨g_2, hf⟩ := ogd hf
      refine va_iast hx hb hK.1 hP (hD σ) hS 3 0 (mw3 a c σ) rfl (ck_in g_2) dX6_sheet_76 (fun H locs hP _ hS => ?_)
      have hP := vP_eq (mpA_m3 a c σ (Int32.toNatClampNeg (((60 : Int32) * x1) + x4)) (0 : Int32)) hP
      obtain ⟨σ_3, eσ_3, hf⟩ := onm hf
      rw [eσ_3] at hP
      obtain ⟨x4_4, ex4_4, hf⟩ := onm hf
      refine lv_iinc (v := x4_4) (lv' := [(4, .int x4_4), (0, .ref (a 0)), (1, .int x1)]) hx hb dX6_sheet_77 hl (k := 2) rfl ex4_4 (by decide) rfl (fun ls hl => ?_)
      refine lv_goto (tgt := 57) hx hb dX6_sheet_80 (by decide) ?_
      exact ih x4_4 σ_3 _ _ _ (lv_sub hl [1, 2, 0] rfl) hP hS (okx hf (hc57 _))
  have hf := oun (f_X6_sheet.eq_1 _ _ _ _ _) hf
  refine lv_aload_n hx hb dX6_sheet_0 rfl (lv_at hl 0 rfl) ?_
  refine lv_iconst (v := (0 : Int32)) hx hb dX6_sheet_1 (by decide) ?_
  refine va_put (D := D) (ci := 4) (v := .int (0 : Int32)) (ty := .int) (C := RX6) (T := TX6) (N := 27) hx hb ht gX6 tyX6 tyX6_ok nmX6 hown hK.1 hP (hD σ) hS 0 (mw0 a c σ) rfl 0 (by decide) (ht _ q136) (fun _ h9 => h9) rfl (by decide +kernel) rfl rfl (Nat.le_of_ble_eq_true rfl) dX6_sheet_2 (fun H locs hP _ hS => ?_)
  have hP := vP_eq (mpX6_fault a c σ (0 : Int32)) hP
  obtain ⟨σ_5, eσ_5, hf⟩ := onm hf
  rw [eσ_5] at hP
  refine lv_iload_n hx hb dX6_sheet_5 rfl (lv_at hl 1 rfl) ?_
  obtain ⟨r_6, h_7, hf⟩ := obd hf
  refine xs_S (As := [.int x1]) (rest := []) S k_X6_isSheet q143 q144 ⟨Nat.le_of_ble_eq_true rfl, Nat.le_of_ble_eq_true rfl⟩ ⟨rfl, rfl⟩ (c_X6_isSheet l x1 r_6 h_7) hK.2 rfl hl.1 rfl (Nat.le_of_ble_eq_true rfl) dX6_sheet_6 ⟨Nat.zero_le _, Nat.zero_le _⟩ ?_
  refine lv_if_ne (tgt := 14) hx hb dX6_sheet_9 (by decide) (fun c_8 => ?_) (fun c_8 => ?_)
  · have hf := oif c_8 hf
    refine lv_iload_n hx hb dX6_sheet_14 rfl (lv_at hl 2 rfl) ?_
    obtain ⟨r_9, h_10, hf⟩ := obd hf
    refine xs_S (As := [.int x2]) (rest := []) S k_X6_isSort q149 q150 ⟨Nat.le_of_ble_eq_true rfl, Nat.le_of_ble_eq_true rfl⟩ ⟨rfl, rfl⟩ (c_X6_isSort l x2 r_9 h_10) hK.2 rfl hl.1 rfl (Nat.le_of_ble_eq_true rfl) dX6_sheet_15 ⟨Nat.zero_le _, Nat.zero_le _⟩ ?_
    refine lv_if_eq (tgt := 27) hx hb dX6_sheet_18 (by decide) (fun c_11 => ?_) (fun c_11 => ?_)
    · have hf := oit c_11 hf
      refine lv_bipush (v := (-2 : Int32)) hx hb dX6_sheet_27 (by decide) ?_
      exact hret _ _ _ _ _ _ dX6_sheet_29 rfl hP hS (oret hf)
    have hf := oif c_11 hf
    refine lv_iload_n hx hb dX6_sheet_21 rfl (lv_at hl 3 rfl) ?_
    refine lv_bipush (v := (60 : Int32)) hx hb dX6_sheet_22 (by decide) ?_
    refine lv_icmp_le (tgt := 30) hx hb dX6_sheet_24 (by decide) (fun c_12 => ?_) (fun c_12 => ?_)
    · have hf := oit c_12 hf
      refine lv_iload_n hx hb dX6_sheet_30 rfl (lv_at hl 3 rfl) ?_
      refine lv_if_ge (tgt := 40) hx hb dX6_sheet_31 (by decide) (fun c_13 => ?_) (fun c_13 => ?_)
      · have hf := oit c_13 hf
        refine lv_aload_n hx hb dX6_sheet_40 rfl (lv_at hl 0 rfl) ?_
        refine va_get (D := D) (ci := 4) (v := .ref (a 1)) (C := RX6) (T := TX6) (N := 27) hx hb ht gX6 hown hK.1 hP 0 (mw0 a c σ_5) rfl 2 (by decide) (ht _ q50) (fun _ h9 => h9) rfl dX6_sheet_41 ?_
        refine lv_iload_n hx hb dX6_sheet_44 rfl (lv_at hl 1 rfl) ?_
        refine lv_iload_n hx hb dX6_sheet_45 rfl (lv_at hl 2 rfl) ?_
        obtain ⟨g_14, hf⟩ := ogd hf
        refine va_iast hx hb hK.1 hP (hD σ_5) hS 1 0 (mw1 a c σ_5) rfl (ck_in g_14) dX6_sheet_46 (fun H locs hP _ hS => ?_)
        have hP := vP_eq (mpA_m1 a c σ_5 (Int32.toNatClampNeg x1) x2) hP
        obtain ⟨σ_15, eσ_15, hf⟩ := onm hf
        rw [eσ_15] at hP
        refine lv_aload_n hx hb dX6_sheet_47 rfl (lv_at hl 0 rfl) ?_
        refine va_get (D := D) (ci := 4) (v := .ref (a 2)) (C := RX6) (T := TX6) (N := 27) hx hb ht gX6 hown hK.1 hP 0 (mw0 a c σ_15) rfl 3 (by decide) (ht _ q51) (fun _ h9 => h9) rfl dX6_sheet_48 ?_
        refine lv_iload_n hx hb dX6_sheet_51 rfl (lv_at hl 1 rfl) ?_
        refine lv_iload_n hx hb dX6_sheet_52 rfl (lv_at hl 3 rfl) ?_
        obtain ⟨g_16, hf⟩ := ogd hf
        refine va_iast hx hb hK.1 hP (hD σ_15) hS 2 0 (mw2 a c σ_15) rfl (ck_in g_16) dX6_sheet_53 (fun H locs hP _ hS => ?_)
        have hP := vP_eq (mpA_m2 a c σ_15 (Int32.toNatClampNeg x1) x3) hP
        obtain ⟨σ_17, eσ_17, hf⟩ := onm hf
        rw [eσ_17] at hP
        refine lv_iconst (v := (0 : Int32)) hx hb dX6_sheet_54 (by decide) ?_
        refine lv_istore (lv' := [(4, .int (0 : Int32)), (0, .ref (a 0)), (1, .int x1), (2, .int x2), (3, .int x3)]) hx hb dX6_sheet_55 hl (by decide) rfl (fun ls hl => ?_)
        exact L57 x1 N (0 : Int32) σ_17 _ _ _ (lv_sub hl [1, 2, 0] rfl) hP hS hf
      have hf := oif c_13 hf
      refine lv_aload_n hx hb dX6_sheet_34 rfl (lv_at hl 0 rfl) ?_
      refine lv_iconst (v := (4 : Int32)) hx hb dX6_sheet_35 (by decide) ?_
      obtain ⟨r_18, σ_19, h_20, hf⟩ := obd2 hf
      refine xv_I (As := [.int (4 : Int32)]) (rest := []) S k_X6_fails q156 q157 q158 ⟨Nat.le_of_ble_eq_true rfl, Nat.le_of_ble_eq_true rfl⟩ ⟨rfl, rfl⟩ (c_X6_fails l D a c A hD (4 : Int32) σ_5 r_18 σ_19 h_20) hK hP hS (va_recv hK.1 hP (rfl : vwCl[4]? = some (RX6, TX6, 27)) (mw0 a c σ_5)) rfl hl.1 rfl (Nat.le_of_ble_eq_true rfl) dX6_sheet_36 ⟨Nat.zero_le _, Nat.zero_le _⟩ (fun H locs hP hS => ?_)
      exact hret _ _ _ _ _ _ dX6_sheet_39 rfl hP hS (oret hf)
    have hf := oif c_12 hf
    refine lv_bipush (v := (-2 : Int32)) hx hb dX6_sheet_27 (by decide) ?_
    exact hret _ _ _ _ _ _ dX6_sheet_29 rfl hP hS (oret hf)
  have hf := oit c_8 hf
  refine lv_iconst (v := (-1 : Int32)) hx hb dX6_sheet_12 (by decide) ?_
  exact hret _ _ _ _ _ _ dX6_sheet_13 rfl hP hS (oret hf)
theorem dX6_lose_0 : decode cX6_lose 0 = .ok (.iload_n 1, 1) := by decide +kernel
theorem dX6_lose_1 : decode cX6_lose 1 = .ok (.invokestatic 85, 3) := by decide +kernel
theorem dX6_lose_4 : decode cX6_lose 4 = .ok (.ifCond .ne 5, 3) := by decide +kernel
theorem dX6_lose_7 : decode cX6_lose 7 = .ok (.iconst (-1), 1) := by decide +kernel
theorem dX6_lose_8 : decode cX6_lose 8 = .ok (.ireturn, 1) := by decide +kernel
theorem dX6_lose_9 : decode cX6_lose 9 = .ok (.aload_n 0, 1) := by decide +kernel
theorem dX6_lose_10 : decode cX6_lose 10 = .ok (.getfield 9, 3) := by decide +kernel
theorem dX6_lose_13 : decode cX6_lose 13 = .ok (.iload_n 1, 1) := by decide +kernel
theorem dX6_lose_14 : decode cX6_lose 14 = .ok (.iaload, 1) := by decide +kernel
theorem dX6_lose_15 : decode cX6_lose 15 = .ok (.bipush (-9), 2) := by decide +kernel
theorem dX6_lose_17 : decode cX6_lose 17 = .ok (.if_icmp .ne 7, 3) := by decide +kernel
theorem dX6_lose_20 : decode cX6_lose 20 = .ok (.iconst 0, 1) := by decide +kernel
theorem dX6_lose_21 : decode cX6_lose 21 = .ok (.goto 4, 3) := by decide +kernel
theorem dX6_lose_24 : decode cX6_lose 24 = .ok (.iconst 1, 1) := by decide +kernel
theorem dX6_lose_25 : decode cX6_lose 25 = .ok (.istore_n 2, 1) := by decide +kernel
theorem dX6_lose_26 : decode cX6_lose 26 = .ok (.aload_n 0, 1) := by decide +kernel
theorem dX6_lose_27 : decode cX6_lose 27 = .ok (.getfield 9, 3) := by decide +kernel
theorem dX6_lose_30 : decode cX6_lose 30 = .ok (.iload_n 1, 1) := by decide +kernel
theorem dX6_lose_31 : decode cX6_lose 31 = .ok (.bipush (-9), 2) := by decide +kernel
theorem dX6_lose_33 : decode cX6_lose 33 = .ok (.iastore, 1) := by decide +kernel
theorem dX6_lose_34 : decode cX6_lose 34 = .ok (.iload_n 2, 1) := by decide +kernel
theorem dX6_lose_35 : decode cX6_lose 35 = .ok (.ireturn, 1) := by decide +kernel
def f_X6_lose_j25 (x1 : Int32) (y0 : Int32) (σ : St) : Option (Int32 × St) :=
  gd (ck x1 4) <|
  nm (wS σ 1 (Int32.toNatClampNeg x1) (-9 : Int32)) fun σ_2 =>
  some (y0, σ_2)
def f_X6_lose (x1 : Int32) (σ : St) : Option (Int32 × St) :=
  bd (f_X6_isSheet x1) fun r_3 =>
  if r_3 = 0 then (some ((-1 : Int32), σ))
  else gd (ck x1 4) <|
    if (σ.1 1 x1.toNatClampNeg) = (-9 : Int32) then (f_X6_lose_j25 x1 (0 : Int32) σ)
    else f_X6_lose_j25 x1 (1 : Int32) σ
abbrev rmX6_lose : Room := { frames := 2, cells := 0, slots := 0, locals := 42 }
set_option maxRecDepth 100000 in
set_option maxHeartbeats 4000000 in
theorem c_X6_lose (l : Launch) (D : va_G) (a : Nat → Nat) (c : Nat → ClassId) (A : Nat → Prop) (hD : ∀ σ, va_D A (mW a c σ)) (x1 : Int32) (σ : St) (r : Int32) (u : St) (hf : f_X6_lose x1 σ = some (r, u)) : MetI l yX6_lose cX6_lose 3 (some .int) rmX6_lose (mW a c) D c A [.ref (a 0), .int x1] σ r u := by
  refine mkI (by decide) (Nat.le_of_ble_eq_true rfl) rfl ?_
  intro p e s m args below meth cd Q ls h0 hK hP hret hl
  obtain ⟨S, hr, hlk⟩ := h0
  obtain ⟨hx, hb, hml, hown, ht⟩ := id S
  have hS : va_S A s.heap s.heap [] := va_S.rf
  have hl : lv_has ls 3 [(0, .ref (a 0)), (1, .int x1)] := hl
  have hf := obs hf
  have j25 : ∀ (x1 : Int32) (y0 : Int32) (σ : St) (H : Heap) (locs : List Loc) (ls : Array Slot), lv_has ls 3 [(0, .ref (a 0)), (1, .int x1)] → va_P D vwCl (mW a c σ) H → va_S A s.heap H locs → Option.bind (f_X6_lose_j25 x1 y0 σ) some = some (r, u) → W p l e rmX6_lose s m args below meth cd H locs 0 0 Q (F0 m 25 ls [.int y0]) := by
    intro x1 y0 σ H locs ls hl hP hS hf
    have hf := oun (f_X6_lose_j25.eq_1 _ _ _) hf
    refine lv_istore_n (lv' := [(2, .int y0), (0, .ref (a 0)), (1, .int x1)]) hx hb dX6_lose_25 rfl hl (by decide) rfl (fun ls hl => ?_)
    refine lv_aload_n hx hb dX6_lose_26 rfl (lv_at hl 1 rfl) ?_
    refine va_get (D := D) (ci := 4) (v := .ref (a 1)) (C := RX6) (T := TX6) (N := 27) hx hb ht gX6 hown hK.1 hP 0 (mw0 a c σ) rfl 2 (by decide) (ht _ q50) (fun _ h9 => h9) rfl dX6_lose_27 ?_
    refine lv_iload_n hx hb dX6_lose_30 rfl (lv_at hl 2 rfl) ?_
    refine lv_bipush (v := (-9 : Int32)) hx hb dX6_lose_31 (by decide) ?_
    obtain ⟨g_1, hf⟩ := ogd hf
    refine va_iast hx hb hK.1 hP (hD σ) hS 1 0 (mw1 a c σ) rfl (ck_in g_1) dX6_lose_33 (fun H locs hP _ hS => ?_)
    have hP := vP_eq (mpA_m1 a c σ (Int32.toNatClampNeg x1) (-9 : Int32)) hP
    obtain ⟨σ_2, eσ_2, hf⟩ := onm hf
    rw [eσ_2] at hP
    refine lv_iload_n hx hb dX6_lose_34 rfl (lv_at hl 0 rfl) ?_
    exact hret _ _ _ _ _ _ dX6_lose_35 rfl hP hS (oret hf)
  have hf := oun (f_X6_lose.eq_1 _ _) hf
  refine lv_iload_n hx hb dX6_lose_0 rfl (lv_at hl 1 rfl) ?_
  obtain ⟨r_3, h_4, hf⟩ := obd hf
  refine xs_S (As := [.int x1]) (rest := []) S k_X6_isSheet q143 q144 ⟨Nat.le_of_ble_eq_true rfl, Nat.le_of_ble_eq_true rfl⟩ ⟨rfl, rfl⟩ (c_X6_isSheet l x1 r_3 h_4) hK.2 rfl hl.1 rfl (Nat.le_of_ble_eq_true rfl) dX6_lose_1 ⟨Nat.zero_le _, Nat.zero_le _⟩ ?_
  refine lv_if_ne (tgt := 9) hx hb dX6_lose_4 (by decide) (fun c_5 => ?_) (fun c_5 => ?_)
  · have hf := oif c_5 hf
    refine lv_aload_n hx hb dX6_lose_9 rfl (lv_at hl 0 rfl) ?_
    refine va_get (D := D) (ci := 4) (v := .ref (a 1)) (C := RX6) (T := TX6) (N := 27) hx hb ht gX6 hown hK.1 hP 0 (mw0 a c σ) rfl 2 (by decide) (ht _ q50) (fun _ h9 => h9) rfl dX6_lose_10 ?_
    refine lv_iload_n hx hb dX6_lose_13 rfl (lv_at hl 1 rfl) ?_
    obtain ⟨g_6, hf⟩ := ogd hf
    refine va_iald hx hb hK.1 hP 1 0 (mw1 a c σ) rfl (ck_in g_6) dX6_lose_14 ?_
    refine lv_bipush (v := (-9 : Int32)) hx hb dX6_lose_15 (by decide) ?_
    refine lv_icmp_ne (tgt := 24) hx hb dX6_lose_17 (by decide) (fun c_7 => ?_) (fun c_7 => ?_)
    · have hf := oif c_7 hf
      refine lv_iconst (v := (1 : Int32)) hx hb dX6_lose_24 (by decide) ?_
      exact j25 x1 (1 : Int32) σ _ _ _ (lv_sub hl [0, 1] rfl) hP hS hf
    have hf := oit c_7 hf
    refine lv_iconst (v := (0 : Int32)) hx hb dX6_lose_20 (by decide) ?_
    refine lv_goto (tgt := 25) hx hb dX6_lose_21 (by decide) ?_
    exact j25 x1 (0 : Int32) σ _ _ _ (lv_sub hl [0, 1] rfl) hP hS hf
  have hf := oit c_5 hf
  refine lv_iconst (v := (-1 : Int32)) hx hb dX6_lose_7 (by decide) ?_
  exact hret _ _ _ _ _ _ dX6_lose_8 rfl hP hS (oret hf)
theorem dX6_put_0 : decode cX6_put 0 = .ok (.aload_n 0, 1) := by decide +kernel
theorem dX6_put_1 : decode cX6_put 1 = .ok (.iconst 0, 1) := by decide +kernel
theorem dX6_put_2 : decode cX6_put 2 = .ok (.putfield 65, 3) := by decide +kernel
theorem dX6_put_5 : decode cX6_put 5 = .ok (.iload_n 1, 1) := by decide +kernel
theorem dX6_put_6 : decode cX6_put 6 = .ok (.invokestatic 85, 3) := by decide +kernel
theorem dX6_put_9 : decode cX6_put 9 = .ok (.ifCond .ne 5, 3) := by decide +kernel
theorem dX6_put_12 : decode cX6_put 12 = .ok (.iconst (-1), 1) := by decide +kernel
theorem dX6_put_13 : decode cX6_put 13 = .ok (.ireturn, 1) := by decide +kernel
theorem dX6_put_14 : decode cX6_put 14 = .ok (.aload_n 0, 1) := by decide +kernel
theorem dX6_put_15 : decode cX6_put 15 = .ok (.getfield 9, 3) := by decide +kernel
theorem dX6_put_18 : decode cX6_put 18 = .ok (.iload_n 1, 1) := by decide +kernel
theorem dX6_put_19 : decode cX6_put 19 = .ok (.iaload, 1) := by decide +kernel
theorem dX6_put_20 : decode cX6_put 20 = .ok (.bipush (-9), 2) := by decide +kernel
theorem dX6_put_22 : decode cX6_put 22 = .ok (.if_icmp .ne 9, 3) := by decide +kernel
theorem dX6_put_25 : decode cX6_put 25 = .ok (.aload_n 0, 1) := by decide +kernel
theorem dX6_put_26 : decode cX6_put 26 = .ok (.iconst 1, 1) := by decide +kernel
theorem dX6_put_27 : decode cX6_put 27 = .ok (.invokevirtual 95, 3) := by decide +kernel
theorem dX6_put_30 : decode cX6_put 30 = .ok (.ireturn, 1) := by decide +kernel
theorem dX6_put_31 : decode cX6_put 31 = .ok (.iload_n 2, 1) := by decide +kernel
theorem dX6_put_32 : decode cX6_put 32 = .ok (.iconst 0, 1) := by decide +kernel
theorem dX6_put_33 : decode cX6_put 33 = .ok (.aload_n 0, 1) := by decide +kernel
theorem dX6_put_34 : decode cX6_put 34 = .ok (.getfield 13, 3) := by decide +kernel
theorem dX6_put_37 : decode cX6_put 37 = .ok (.iload_n 1, 1) := by decide +kernel
theorem dX6_put_38 : decode cX6_put 38 = .ok (.iaload, 1) := by decide +kernel
theorem dX6_put_39 : decode cX6_put 39 = .ok (.iconst 1, 1) := by decide +kernel
theorem dX6_put_40 : decode cX6_put 40 = .ok (.isub, 1) := by decide +kernel
theorem dX6_put_41 : decode cX6_put 41 = .ok (.invokestatic 71, 3) := by decide +kernel
theorem dX6_put_44 : decode cX6_put 44 = .ok (.ifCond .ne 9, 3) := by decide +kernel
theorem dX6_put_47 : decode cX6_put 47 = .ok (.aload_n 0, 1) := by decide +kernel
theorem dX6_put_48 : decode cX6_put 48 = .ok (.iconst 3, 1) := by decide +kernel
theorem dX6_put_49 : decode cX6_put 49 = .ok (.invokevirtual 95, 3) := by decide +kernel
theorem dX6_put_52 : decode cX6_put 52 = .ok (.ireturn, 1) := by decide +kernel
theorem dX6_put_53 : decode cX6_put 53 = .ok (.aload_n 0, 1) := by decide +kernel
theorem dX6_put_54 : decode cX6_put 54 = .ok (.getfield 16, 3) := by decide +kernel
theorem dX6_put_57 : decode cX6_put 57 = .ok (.bipush 60, 2) := by decide +kernel
theorem dX6_put_59 : decode cX6_put 59 = .ok (.iload_n 1, 1) := by decide +kernel
theorem dX6_put_60 : decode cX6_put 60 = .ok (.imul, 1) := by decide +kernel
theorem dX6_put_61 : decode cX6_put 61 = .ok (.iload_n 2, 1) := by decide +kernel
theorem dX6_put_62 : decode cX6_put 62 = .ok (.iadd, 1) := by decide +kernel
theorem dX6_put_63 : decode cX6_put 63 = .ok (.aload_n 0, 1) := by decide +kernel
theorem dX6_put_64 : decode cX6_put 64 = .ok (.getfield 9, 3) := by decide +kernel
theorem dX6_put_67 : decode cX6_put 67 = .ok (.iload_n 1, 1) := by decide +kernel
theorem dX6_put_68 : decode cX6_put 68 = .ok (.iaload, 1) := by decide +kernel
theorem dX6_put_69 : decode cX6_put 69 = .ok (.ifCond .ne 8, 3) := by decide +kernel
theorem dX6_put_72 : decode cX6_put 72 = .ok (.iload_n 3, 1) := by decide +kernel
theorem dX6_put_73 : decode cX6_put 73 = .ok (.i2b, 1) := by decide +kernel
theorem dX6_put_74 : decode cX6_put 74 = .ok (.goto 19, 3) := by decide +kernel
theorem dX6_put_77 : decode cX6_put 77 = .ok (.aload_n 0, 1) := by decide +kernel
theorem dX6_put_78 : decode cX6_put 78 = .ok (.getfield 9, 3) := by decide +kernel
theorem dX6_put_81 : decode cX6_put 81 = .ok (.iload_n 1, 1) := by decide +kernel
theorem dX6_put_82 : decode cX6_put 82 = .ok (.iaload, 1) := by decide +kernel
theorem dX6_put_83 : decode cX6_put 83 = .ok (.iconst 1, 1) := by decide +kernel
theorem dX6_put_84 : decode cX6_put 84 = .ok (.if_icmp .ne 8, 3) := by decide +kernel
theorem dX6_put_87 : decode cX6_put 87 = .ok (.iload_n 3, 1) := by decide +kernel
theorem dX6_put_88 : decode cX6_put 88 = .ok (.i2s, 1) := by decide +kernel
theorem dX6_put_89 : decode cX6_put 89 = .ok (.goto 4, 3) := by decide +kernel
theorem dX6_put_92 : decode cX6_put 92 = .ok (.iload_n 3, 1) := by decide +kernel
theorem dX6_put_93 : decode cX6_put 93 = .ok (.iastore, 1) := by decide +kernel
theorem dX6_put_94 : decode cX6_put 94 = .ok (.iconst 1, 1) := by decide +kernel
theorem dX6_put_95 : decode cX6_put 95 = .ok (.ireturn, 1) := by decide +kernel
def f_X6_put_j93 (y1 : Int32) (y2 : Int32) (σ : St) : Option (Int32 × St) :=
  gd (ck y1 240) <|
  nm (wS σ 3 (Int32.toNatClampNeg y1) y2) fun σ_2 =>
  some ((1 : Int32), σ_2)
def f_X6_put (x1 : Int32) (x2 : Int32) (x3 : Int32) (σ : St) : Option (Int32 × St) :=
  nm (wS σ 0 0 (0 : Int32)) fun σ_3 =>
  bd (f_X6_isSheet x1) fun r_4 =>
  if r_4 = 0 then (some ((-1 : Int32), σ_3))
  else gd (ck x1 4) <|
    if (σ_3.1 1 x1.toNatClampNeg) = (-9 : Int32) then (bd2 (f_X6_fails (1 : Int32) σ_3) fun r_20 σ_21 =>
      some (r_20, σ_21))
    else gd (ck x1 4) <|
      bd (f_X6_within x2 (0 : Int32) ((σ_3.1 2 x1.toNatClampNeg) - (1 : Int32))) fun r_10 =>
      if r_10 = 0 then (bd2 (f_X6_fails (3 : Int32) σ_3) fun r_17 σ_18 =>
        some (r_17, σ_18))
      else gd (ck x1 4) <|
        if (σ_3.1 1 x1.toNatClampNeg) = 0 then (f_X6_put_j93 (((60 : Int32) * x1) + x2) (Int8.toInt32 (Int32.toInt8 x3)) σ_3)
        else gd (ck x1 4) <|
          if (σ_3.1 1 x1.toNatClampNeg) = (1 : Int32) then (f_X6_put_j93 (((60 : Int32) * x1) + x2) (Int16.toInt32 (Int32.toInt16 x3)) σ_3)
          else f_X6_put_j93 (((60 : Int32) * x1) + x2) x3 σ_3
abbrev rmX6_put : Room := { frames := 2, cells := 0, slots := 0, locals := 42 }
set_option maxRecDepth 100000 in
set_option maxHeartbeats 4000000 in
theorem c_X6_put (l : Launch) (D : va_G) (a : Nat → Nat) (c : Nat → ClassId) (A : Nat → Prop) (hD : ∀ σ, va_D A (mW a c σ)) (x1 : Int32) (x2 : Int32) (x3 : Int32) (σ : St) (r : Int32) (u : St) (hf : f_X6_put x1 x2 x3 σ = some (r, u)) : MetI l yX6_put cX6_put 4 (some .int) rmX6_put (mW a c) D c A [.ref (a 0), .int x1, .int x2, .int x3] σ r u := by
  refine mkI (by decide) (Nat.le_of_ble_eq_true rfl) rfl ?_
  intro p e s m args below meth cd Q ls h0 hK hP hret hl
  obtain ⟨S, hr, hlk⟩ := h0
  obtain ⟨hx, hb, hml, hown, ht⟩ := id S
  have hS : va_S A s.heap s.heap [] := va_S.rf
  have hl : lv_has ls 4 [(0, .ref (a 0)), (1, .int x1), (2, .int x2), (3, .int x3)] := hl
  have hf := obs hf
  have j93 : ∀ (y1 : Int32) (y2 : Int32) (σ : St) (H : Heap) (locs : List Loc) (ls : Array Slot), lv_has ls 4 [] → va_P D vwCl (mW a c σ) H → va_S A s.heap H locs → Option.bind (f_X6_put_j93 y1 y2 σ) some = some (r, u) → W p l e rmX6_put s m args below meth cd H locs 0 0 Q (F0 m 93 ls [.int y2, .int y1, .ref (a 3)]) := by
    intro y1 y2 σ H locs ls hl hP hS hf
    have hf := oun (f_X6_put_j93.eq_1 _ _ _) hf
    obtain ⟨g_1, hf⟩ := ogd hf
    refine va_iast hx hb hK.1 hP (hD σ) hS 3 0 (mw3 a c σ) rfl (ck_in g_1) dX6_put_93 (fun H locs hP _ hS => ?_)
    have hP := vP_eq (mpA_m3 a c σ (Int32.toNatClampNeg y1) y2) hP
    obtain ⟨σ_2, eσ_2, hf⟩ := onm hf
    rw [eσ_2] at hP
    refine lv_iconst (v := (1 : Int32)) hx hb dX6_put_94 (by decide) ?_
    exact hret _ _ _ _ _ _ dX6_put_95 rfl hP hS (oret hf)
  have hf := oun (f_X6_put.eq_1 _ _ _ _) hf
  refine lv_aload_n hx hb dX6_put_0 rfl (lv_at hl 0 rfl) ?_
  refine lv_iconst (v := (0 : Int32)) hx hb dX6_put_1 (by decide) ?_
  refine va_put (D := D) (ci := 4) (v := .int (0 : Int32)) (ty := .int) (C := RX6) (T := TX6) (N := 27) hx hb ht gX6 tyX6 tyX6_ok nmX6 hown hK.1 hP (hD σ) hS 0 (mw0 a c σ) rfl 0 (by decide) (ht _ q136) (fun _ h9 => h9) rfl (by decide +kernel) rfl rfl (Nat.le_of_ble_eq_true rfl) dX6_put_2 (fun H locs hP _ hS => ?_)
  have hP := vP_eq (mpX6_fault a c σ (0 : Int32)) hP
  obtain ⟨σ_3, eσ_3, hf⟩ := onm hf
  rw [eσ_3] at hP
  refine lv_iload_n hx hb dX6_put_5 rfl (lv_at hl 1 rfl) ?_
  obtain ⟨r_4, h_5, hf⟩ := obd hf
  refine xs_S (As := [.int x1]) (rest := []) S k_X6_isSheet q143 q144 ⟨Nat.le_of_ble_eq_true rfl, Nat.le_of_ble_eq_true rfl⟩ ⟨rfl, rfl⟩ (c_X6_isSheet l x1 r_4 h_5) hK.2 rfl hl.1 rfl (Nat.le_of_ble_eq_true rfl) dX6_put_6 ⟨Nat.zero_le _, Nat.zero_le _⟩ ?_
  refine lv_if_ne (tgt := 14) hx hb dX6_put_9 (by decide) (fun c_6 => ?_) (fun c_6 => ?_)
  · have hf := oif c_6 hf
    refine lv_aload_n hx hb dX6_put_14 rfl (lv_at hl 0 rfl) ?_
    refine va_get (D := D) (ci := 4) (v := .ref (a 1)) (C := RX6) (T := TX6) (N := 27) hx hb ht gX6 hown hK.1 hP 0 (mw0 a c σ_3) rfl 2 (by decide) (ht _ q50) (fun _ h9 => h9) rfl dX6_put_15 ?_
    refine lv_iload_n hx hb dX6_put_18 rfl (lv_at hl 1 rfl) ?_
    obtain ⟨g_7, hf⟩ := ogd hf
    refine va_iald hx hb hK.1 hP 1 0 (mw1 a c σ_3) rfl (ck_in g_7) dX6_put_19 ?_
    refine lv_bipush (v := (-9 : Int32)) hx hb dX6_put_20 (by decide) ?_
    refine lv_icmp_ne (tgt := 31) hx hb dX6_put_22 (by decide) (fun c_8 => ?_) (fun c_8 => ?_)
    · have hf := oif c_8 hf
      refine lv_iload_n hx hb dX6_put_31 rfl (lv_at hl 2 rfl) ?_
      refine lv_iconst (v := (0 : Int32)) hx hb dX6_put_32 (by decide) ?_
      refine lv_aload_n hx hb dX6_put_33 rfl (lv_at hl 0 rfl) ?_
      refine va_get (D := D) (ci := 4) (v := .ref (a 2)) (C := RX6) (T := TX6) (N := 27) hx hb ht gX6 hown hK.1 hP 0 (mw0 a c σ_3) rfl 3 (by decide) (ht _ q51) (fun _ h9 => h9) rfl dX6_put_34 ?_
      refine lv_iload_n hx hb dX6_put_37 rfl (lv_at hl 1 rfl) ?_
      obtain ⟨g_9, hf⟩ := ogd hf
      refine va_iald hx hb hK.1 hP 2 0 (mw2 a c σ_3) rfl (ck_in g_9) dX6_put_38 ?_
      refine lv_iconst (v := (1 : Int32)) hx hb dX6_put_39 (by decide) ?_
      refine lv_isub hx hb dX6_put_40 ?_
      obtain ⟨r_10, h_11, hf⟩ := obd hf
      refine xs_S (As := [.int x2, .int (0 : Int32), .int ((σ_3.1 2 x1.toNatClampNeg) - (1 : Int32))]) (rest := []) S k_X6_within q146 q147 ⟨Nat.le_of_ble_eq_true rfl, Nat.le_of_ble_eq_true rfl⟩ ⟨rfl, rfl⟩ (c_X6_within l x2 (0 : Int32) ((σ_3.1 2 x1.toNatClampNeg) - (1 : Int32)) r_10 h_11) hK.2 rfl hl.1 rfl (Nat.le_of_ble_eq_true rfl) dX6_put_41 ⟨Nat.zero_le _, Nat.zero_le _⟩ ?_
      refine lv_if_ne (tgt := 53) hx hb dX6_put_44 (by decide) (fun c_12 => ?_) (fun c_12 => ?_)
      · have hf := oif c_12 hf
        refine lv_aload_n hx hb dX6_put_53 rfl (lv_at hl 0 rfl) ?_
        refine va_get (D := D) (ci := 4) (v := .ref (a 3)) (C := RX6) (T := TX6) (N := 27) hx hb ht gX6 hown hK.1 hP 0 (mw0 a c σ_3) rfl 4 (by decide) (ht _ q52) (fun _ h9 => h9) rfl dX6_put_54 ?_
        refine lv_bipush (v := (60 : Int32)) hx hb dX6_put_57 (by decide) ?_
        refine lv_iload_n hx hb dX6_put_59 rfl (lv_at hl 1 rfl) ?_
        refine lv_imul hx hb dX6_put_60 ?_
        refine lv_iload_n hx hb dX6_put_61 rfl (lv_at hl 2 rfl) ?_
        refine lv_iadd hx hb dX6_put_62 ?_
        refine lv_aload_n hx hb dX6_put_63 rfl (lv_at hl 0 rfl) ?_
        refine va_get (D := D) (ci := 4) (v := .ref (a 1)) (C := RX6) (T := TX6) (N := 27) hx hb ht gX6 hown hK.1 hP 0 (mw0 a c σ_3) rfl 2 (by decide) (ht _ q50) (fun _ h9 => h9) rfl dX6_put_64 ?_
        refine lv_iload_n hx hb dX6_put_67 rfl (lv_at hl 1 rfl) ?_
        obtain ⟨g_13, hf⟩ := ogd hf
        refine va_iald hx hb hK.1 hP 1 0 (mw1 a c σ_3) rfl (ck_in g_13) dX6_put_68 ?_
        refine lv_if_ne (tgt := 77) hx hb dX6_put_69 (by decide) (fun c_14 => ?_) (fun c_14 => ?_)
        · have hf := oif c_14 hf
          refine lv_aload_n hx hb dX6_put_77 rfl (lv_at hl 0 rfl) ?_
          refine va_get (D := D) (ci := 4) (v := .ref (a 1)) (C := RX6) (T := TX6) (N := 27) hx hb ht gX6 hown hK.1 hP 0 (mw0 a c σ_3) rfl 2 (by decide) (ht _ q50) (fun _ h9 => h9) rfl dX6_put_78 ?_
          refine lv_iload_n hx hb dX6_put_81 rfl (lv_at hl 1 rfl) ?_
          obtain ⟨g_15, hf⟩ := ogd hf
          refine va_iald hx hb hK.1 hP 1 0 (mw1 a c σ_3) rfl (ck_in g_15) dX6_put_82 ?_
          refine lv_iconst (v := (1 : Int32)) hx hb dX6_put_83 (by decide) ?_
          refine lv_icmp_ne (tgt := 92) hx hb dX6_put_84 (by decide) (fun c_16 => ?_) (fun c_16 => ?_)
          · have hf := oif c_16 hf
            refine lv_iload_n hx hb dX6_put_92 rfl (lv_at hl 3 rfl) ?_
            exact j93 (((60 : Int32) * x1) + x2) x3 σ_3 _ _ _ (lv_sub hl [] rfl) hP hS hf
          have hf := oit c_16 hf
          refine lv_iload_n hx hb dX6_put_87 rfl (lv_at hl 3 rfl) ?_
          refine lv_i2s (v := (Int16.toInt32 (Int32.toInt16 x3))) hx hb dX6_put_88 rfl ?_
          refine lv_goto (tgt := 93) hx hb dX6_put_89 (by decide) ?_
          exact j93 (((60 : Int32) * x1) + x2) (Int16.toInt32 (Int32.toInt16 x3)) σ_3 _ _ _ (lv_sub hl [] rfl) hP hS hf
        have hf := oit c_14 hf
        refine lv_iload_n hx hb dX6_put_72 rfl (lv_at hl 3 rfl) ?_
        refine lv_i2b (v := (Int8.toInt32 (Int32.toInt8 x3))) hx hb dX6_put_73 rfl ?_
        refine lv_goto (tgt := 93) hx hb dX6_put_74 (by decide) ?_
        exact j93 (((60 : Int32) * x1) + x2) (Int8.toInt32 (Int32.toInt8 x3)) σ_3 _ _ _ (lv_sub hl [] rfl) hP hS hf
      have hf := oit c_12 hf
      refine lv_aload_n hx hb dX6_put_47 rfl (lv_at hl 0 rfl) ?_
      refine lv_iconst (v := (3 : Int32)) hx hb dX6_put_48 (by decide) ?_
      obtain ⟨r_17, σ_18, h_19, hf⟩ := obd2 hf
      refine xv_I (As := [.int (3 : Int32)]) (rest := []) S k_X6_fails q156 q157 q158 ⟨Nat.le_of_ble_eq_true rfl, Nat.le_of_ble_eq_true rfl⟩ ⟨rfl, rfl⟩ (c_X6_fails l D a c A hD (3 : Int32) σ_3 r_17 σ_18 h_19) hK hP hS (va_recv hK.1 hP (rfl : vwCl[4]? = some (RX6, TX6, 27)) (mw0 a c σ_3)) rfl hl.1 rfl (Nat.le_of_ble_eq_true rfl) dX6_put_49 ⟨Nat.zero_le _, Nat.zero_le _⟩ (fun H locs hP hS => ?_)
      exact hret _ _ _ _ _ _ dX6_put_52 rfl hP hS (oret hf)
    have hf := oit c_8 hf
    refine lv_aload_n hx hb dX6_put_25 rfl (lv_at hl 0 rfl) ?_
    refine lv_iconst (v := (1 : Int32)) hx hb dX6_put_26 (by decide) ?_
    obtain ⟨r_20, σ_21, h_22, hf⟩ := obd2 hf
    refine xv_I (As := [.int (1 : Int32)]) (rest := []) S k_X6_fails q156 q157 q158 ⟨Nat.le_of_ble_eq_true rfl, Nat.le_of_ble_eq_true rfl⟩ ⟨rfl, rfl⟩ (c_X6_fails l D a c A hD (1 : Int32) σ_3 r_20 σ_21 h_22) hK hP hS (va_recv hK.1 hP (rfl : vwCl[4]? = some (RX6, TX6, 27)) (mw0 a c σ_3)) rfl hl.1 rfl (Nat.le_of_ble_eq_true rfl) dX6_put_27 ⟨Nat.zero_le _, Nat.zero_le _⟩ (fun H locs hP hS => ?_)
    exact hret _ _ _ _ _ _ dX6_put_30 rfl hP hS (oret hf)
  have hf := oit c_6 hf
  refine lv_iconst (v := (-1 : Int32)) hx hb dX6_put_12 (by decide) ?_
  exact hret _ _ _ _ _ _ dX6_put_13 rfl hP hS (oret hf)
theorem dX6_lost_0 : decode cX6_lost 0 = .ok (.aload_n 0, 1) := by decide +kernel
theorem dX6_lost_1 : decode cX6_lost 1 = .ok (.iload_n 1, 1) := by decide +kernel
theorem dX6_lost_2 : decode cX6_lost 2 = .ok (.putfield 65, 3) := by decide +kernel
theorem dX6_lost_5 : decode cX6_lost 5 = .ok (.ldc2_w 69, 3) := by decide +kernel
theorem dX6_lost_8 : decode cX6_lost 8 = .ok (.lreturn, 1) := by decide +kernel
def f_X6_lost (x1 : Int32) (σ : St) : Option (Int64 × St) :=
  nm (wS σ 0 0 x1) fun σ_1 =>
  some ((-9223372036854775808 : Int64), σ_1)
abbrev rmX6_lost : Room := { frames := 0, cells := 0, slots := 0, locals := 0 }
set_option maxRecDepth 100000 in
set_option maxHeartbeats 4000000 in
theorem c_X6_lost (l : Launch) (D : va_G) (a : Nat → Nat) (c : Nat → ClassId) (A : Nat → Prop) (hD : ∀ σ, va_D A (mW a c σ)) (x1 : Int32) (σ : St) (r : Int64) (u : St) (hf : f_X6_lost x1 σ = some (r, u)) : MetL l yX6_lost cX6_lost 2 (some .long) rmX6_lost (mW a c) D c A [.ref (a 0), .int x1] σ r u := by
  refine mkL (by decide) (Nat.le_of_ble_eq_true rfl) rfl ?_
  intro p e s m args below meth cd Q ls h0 hK hP hret hl
  obtain ⟨S, hr, hlk⟩ := h0
  obtain ⟨hx, hb, hml, hown, ht⟩ := id S
  have hS : va_S A s.heap s.heap [] := va_S.rf
  have hl : lv_has ls 2 [(0, .ref (a 0)), (1, .int x1)] := hl
  have hf := obs hf
  have hf := oun (f_X6_lost.eq_1 _ _) hf
  refine lv_aload_n hx hb dX6_lost_0 rfl (lv_at hl 0 rfl) ?_
  refine lv_iload_n hx hb dX6_lost_1 rfl (lv_at hl 1 rfl) ?_
  refine va_put (D := D) (ci := 4) (v := .int x1) (ty := .int) (C := RX6) (T := TX6) (N := 27) hx hb ht gX6 tyX6 tyX6_ok nmX6 hown hK.1 hP (hD σ) hS 0 (mw0 a c σ) rfl 0 (by decide) (ht _ q136) (fun _ h9 => h9) rfl (by decide +kernel) rfl rfl (Nat.le_of_ble_eq_true rfl) dX6_lost_2 (fun H locs hP _ hS => ?_)
  have hP := vP_eq (mpX6_fault a c σ x1) hP
  obtain ⟨σ_1, eσ_1, hf⟩ := onm hf
  rw [eσ_1] at hP
  refine lv_ldc2 (v := (-9223372036854775808 : Int64)) hx hb hown (ht _ q604) dX6_lost_5 ?_
  exact hret _ _ _ _ _ _ dX6_lost_8 hP hS (oret hf)
theorem dX6_cell_0 : decode cX6_cell 0 = .ok (.aload_n 0, 1) := by decide +kernel
theorem dX6_cell_1 : decode cX6_cell 1 = .ok (.iconst 0, 1) := by decide +kernel
theorem dX6_cell_2 : decode cX6_cell 2 = .ok (.putfield 65, 3) := by decide +kernel
theorem dX6_cell_5 : decode cX6_cell 5 = .ok (.iload_n 1, 1) := by decide +kernel
theorem dX6_cell_6 : decode cX6_cell 6 = .ok (.invokestatic 85, 3) := by decide +kernel
theorem dX6_cell_9 : decode cX6_cell 9 = .ok (.ifCond .eq 10, 3) := by decide +kernel
theorem dX6_cell_12 : decode cX6_cell 12 = .ok (.iload_n 3, 1) := by decide +kernel
theorem dX6_cell_13 : decode cX6_cell 13 = .ok (.invokestatic 88, 3) := by decide +kernel
theorem dX6_cell_16 : decode cX6_cell 16 = .ok (.ifCond .ne 7, 3) := by decide +kernel
theorem dX6_cell_19 : decode cX6_cell 19 = .ok (.ldc2_w 69, 3) := by decide +kernel
theorem dX6_cell_22 : decode cX6_cell 22 = .ok (.lreturn, 1) := by decide +kernel
theorem dX6_cell_23 : decode cX6_cell 23 = .ok (.aload_n 0, 1) := by decide +kernel
theorem dX6_cell_24 : decode cX6_cell 24 = .ok (.getfield 9, 3) := by decide +kernel
theorem dX6_cell_27 : decode cX6_cell 27 = .ok (.iload_n 1, 1) := by decide +kernel
theorem dX6_cell_28 : decode cX6_cell 28 = .ok (.iaload, 1) := by decide +kernel
theorem dX6_cell_29 : decode cX6_cell 29 = .ok (.bipush (-9), 2) := by decide +kernel
theorem dX6_cell_31 : decode cX6_cell 31 = .ok (.if_icmp .eq 19, 3) := by decide +kernel
theorem dX6_cell_34 : decode cX6_cell 34 = .ok (.aload_n 0, 1) := by decide +kernel
theorem dX6_cell_35 : decode cX6_cell 35 = .ok (.getfield 9, 3) := by decide +kernel
theorem dX6_cell_38 : decode cX6_cell 38 = .ok (.iload_n 1, 1) := by decide +kernel
theorem dX6_cell_39 : decode cX6_cell 39 = .ok (.iaload, 1) := by decide +kernel
theorem dX6_cell_40 : decode cX6_cell 40 = .ok (.iload_n 3, 1) := by decide +kernel
theorem dX6_cell_41 : decode cX6_cell 41 = .ok (.if_icmp .eq 9, 3) := by decide +kernel
theorem dX6_cell_44 : decode cX6_cell 44 = .ok (.aload_n 0, 1) := by decide +kernel
theorem dX6_cell_45 : decode cX6_cell 45 = .ok (.iconst 2, 1) := by decide +kernel
theorem dX6_cell_46 : decode cX6_cell 46 = .ok (.invokevirtual 196, 3) := by decide +kernel
theorem dX6_cell_49 : decode cX6_cell 49 = .ok (.lreturn, 1) := by decide +kernel
theorem dX6_cell_50 : decode cX6_cell 50 = .ok (.aload_n 0, 1) := by decide +kernel
theorem dX6_cell_51 : decode cX6_cell 51 = .ok (.getfield 9, 3) := by decide +kernel
theorem dX6_cell_54 : decode cX6_cell 54 = .ok (.iload_n 1, 1) := by decide +kernel
theorem dX6_cell_55 : decode cX6_cell 55 = .ok (.iaload, 1) := by decide +kernel
theorem dX6_cell_56 : decode cX6_cell 56 = .ok (.bipush (-9), 2) := by decide +kernel
theorem dX6_cell_58 : decode cX6_cell 58 = .ok (.if_icmp .ne 9, 3) := by decide +kernel
theorem dX6_cell_61 : decode cX6_cell 61 = .ok (.aload_n 0, 1) := by decide +kernel
theorem dX6_cell_62 : decode cX6_cell 62 = .ok (.iconst 1, 1) := by decide +kernel
theorem dX6_cell_63 : decode cX6_cell 63 = .ok (.invokevirtual 196, 3) := by decide +kernel
theorem dX6_cell_66 : decode cX6_cell 66 = .ok (.lreturn, 1) := by decide +kernel
theorem dX6_cell_67 : decode cX6_cell 67 = .ok (.iload_n 2, 1) := by decide +kernel
theorem dX6_cell_68 : decode cX6_cell 68 = .ok (.iconst 0, 1) := by decide +kernel
theorem dX6_cell_69 : decode cX6_cell 69 = .ok (.aload_n 0, 1) := by decide +kernel
theorem dX6_cell_70 : decode cX6_cell 70 = .ok (.getfield 13, 3) := by decide +kernel
theorem dX6_cell_73 : decode cX6_cell 73 = .ok (.iload_n 1, 1) := by decide +kernel
theorem dX6_cell_74 : decode cX6_cell 74 = .ok (.iaload, 1) := by decide +kernel
theorem dX6_cell_75 : decode cX6_cell 75 = .ok (.iconst 1, 1) := by decide +kernel
theorem dX6_cell_76 : decode cX6_cell 76 = .ok (.isub, 1) := by decide +kernel
theorem dX6_cell_77 : decode cX6_cell 77 = .ok (.invokestatic 71, 3) := by decide +kernel
theorem dX6_cell_80 : decode cX6_cell 80 = .ok (.ifCond .ne 9, 3) := by decide +kernel
theorem dX6_cell_83 : decode cX6_cell 83 = .ok (.aload_n 0, 1) := by decide +kernel
theorem dX6_cell_84 : decode cX6_cell 84 = .ok (.iconst 3, 1) := by decide +kernel
theorem dX6_cell_85 : decode cX6_cell 85 = .ok (.invokevirtual 196, 3) := by decide +kernel
theorem dX6_cell_88 : decode cX6_cell 88 = .ok (.lreturn, 1) := by decide +kernel
theorem dX6_cell_89 : decode cX6_cell 89 = .ok (.aload_n 0, 1) := by decide +kernel
theorem dX6_cell_90 : decode cX6_cell 90 = .ok (.getfield 16, 3) := by decide +kernel
theorem dX6_cell_93 : decode cX6_cell 93 = .ok (.bipush 60, 2) := by decide +kernel
theorem dX6_cell_95 : decode cX6_cell 95 = .ok (.iload_n 1, 1) := by decide +kernel
theorem dX6_cell_96 : decode cX6_cell 96 = .ok (.imul, 1) := by decide +kernel
theorem dX6_cell_97 : decode cX6_cell 97 = .ok (.iload_n 2, 1) := by decide +kernel
theorem dX6_cell_98 : decode cX6_cell 98 = .ok (.iadd, 1) := by decide +kernel
theorem dX6_cell_99 : decode cX6_cell 99 = .ok (.iaload, 1) := by decide +kernel
theorem dX6_cell_100 : decode cX6_cell 100 = .ok (.i2l, 1) := by decide +kernel
theorem dX6_cell_101 : decode cX6_cell 101 = .ok (.lreturn, 1) := by decide +kernel
def f_X6_cell_j50 (x1 : Int32) (x2 : Int32) (σ : St) : Option (Int64 × St) :=
  gd (ck x1 4) <|
  if (σ.1 1 x1.toNatClampNeg) = (-9 : Int32) then (bd2 (f_X6_lost (1 : Int32) σ) fun r_11 σ_12 =>
    some (r_11, σ_12))
  else gd (ck x1 4) <|
    bd (f_X6_within x2 (0 : Int32) ((σ.1 2 x1.toNatClampNeg) - (1 : Int32))) fun r_4 =>
    if r_4 = 0 then (bd2 (f_X6_lost (3 : Int32) σ) fun r_8 σ_9 =>
      some (r_8, σ_9))
    else gd (ck (((60 : Int32) * x1) + x2) 240) <|
      some ((Int32.toInt64 (σ.1 3 (((60 : Int32) * x1) + x2).toNatClampNeg)), σ)
def f_X6_cell (x1 : Int32) (x2 : Int32) (x3 : Int32) (σ : St) : Option (Int64 × St) :=
  nm (wS σ 0 0 (0 : Int32)) fun σ_14 =>
  bd (f_X6_isSheet x1) fun r_15 =>
  if r_15 = 0 then (some ((-9223372036854775808 : Int64), σ_14))
  else bd (f_X6_isSort x3) fun r_18 =>
  if r_18 = 0 then (some ((-9223372036854775808 : Int64), σ_14))
  else gd (ck x1 4) <|
    if (σ_14.1 1 x1.toNatClampNeg) = (-9 : Int32) then (f_X6_cell_j50 x1 x2 σ_14)
    else gd (ck x1 4) <|
    if (σ_14.1 1 x1.toNatClampNeg) = x3 then (f_X6_cell_j50 x1 x2 σ_14)
    else bd2 (f_X6_lost (2 : Int32) σ_14) fun r_25 σ_26 =>
    some (r_25, σ_26)
abbrev rmX6_cell : Room := { frames := 2, cells := 0, slots := 0, locals := 42 }
set_option maxRecDepth 100000 in
set_option maxHeartbeats 4000000 in
theorem c_X6_cell (l : Launch) (D : va_G) (a : Nat → Nat) (c : Nat → ClassId) (A : Nat → Prop) (hD : ∀ σ, va_D A (mW a c σ)) (x1 : Int32) (x2 : Int32) (x3 : Int32) (σ : St) (r : Int64) (u : St) (hf : f_X6_cell x1 x2 x3 σ = some (r, u)) : MetL l yX6_cell cX6_cell 4 (some .long) rmX6_cell (mW a c) D c A [.ref (a 0), .int x1, .int x2, .int x3] σ r u := by
  refine mkL (by decide) (Nat.le_of_ble_eq_true rfl) rfl ?_
  intro p e s m args below meth cd Q ls h0 hK hP hret hl
  obtain ⟨S, hr, hlk⟩ := h0
  obtain ⟨hx, hb, hml, hown, ht⟩ := id S
  have hS : va_S A s.heap s.heap [] := va_S.rf
  have hl : lv_has ls 4 [(0, .ref (a 0)), (1, .int x1), (2, .int x2), (3, .int x3)] := hl
  have hf := obs hf
  have j50 : ∀ (x1 : Int32) (x2 : Int32) (σ : St) (H : Heap) (locs : List Loc) (ls : Array Slot), lv_has ls 4 [(0, .ref (a 0)), (1, .int x1), (2, .int x2)] → va_P D vwCl (mW a c σ) H → va_S A s.heap H locs → Option.bind (f_X6_cell_j50 x1 x2 σ) some = some (r, u) → W p l e rmX6_cell s m args below meth cd H locs 0 0 Q (F0 m 50 ls []) := by
    intro x1 x2 σ H locs ls hl hP hS hf
    have hf := oun (f_X6_cell_j50.eq_1 _ _ _) hf
    refine lv_aload_n hx hb dX6_cell_50 rfl (lv_at hl 0 rfl) ?_
    refine va_get (D := D) (ci := 4) (v := .ref (a 1)) (C := RX6) (T := TX6) (N := 27) hx hb ht gX6 hown hK.1 hP 0 (mw0 a c σ) rfl 2 (by decide) (ht _ q50) (fun _ h9 => h9) rfl dX6_cell_51 ?_
    refine lv_iload_n hx hb dX6_cell_54 rfl (lv_at hl 1 rfl) ?_
    obtain ⟨g_1, hf⟩ := ogd hf
    refine va_iald hx hb hK.1 hP 1 0 (mw1 a c σ) rfl (ck_in g_1) dX6_cell_55 ?_
    refine lv_bipush (v := (-9 : Int32)) hx hb dX6_cell_56 (by decide) ?_
    refine lv_icmp_ne (tgt := 67) hx hb dX6_cell_58 (by decide) (fun c_2 => ?_) (fun c_2 => ?_)
    · have hf := oif c_2 hf
      refine lv_iload_n hx hb dX6_cell_67 rfl (lv_at hl 2 rfl) ?_
      refine lv_iconst (v := (0 : Int32)) hx hb dX6_cell_68 (by decide) ?_
      refine lv_aload_n hx hb dX6_cell_69 rfl (lv_at hl 0 rfl) ?_
      refine va_get (D := D) (ci := 4) (v := .ref (a 2)) (C := RX6) (T := TX6) (N := 27) hx hb ht gX6 hown hK.1 hP 0 (mw0 a c σ) rfl 3 (by decide) (ht _ q51) (fun _ h9 => h9) rfl dX6_cell_70 ?_
      refine lv_iload_n hx hb dX6_cell_73 rfl (lv_at hl 1 rfl) ?_
      obtain ⟨g_3, hf⟩ := ogd hf
      refine va_iald hx hb hK.1 hP 2 0 (mw2 a c σ) rfl (ck_in g_3) dX6_cell_74 ?_
      refine lv_iconst (v := (1 : Int32)) hx hb dX6_cell_75 (by decide) ?_
      refine lv_isub hx hb dX6_cell_76 ?_
      obtain ⟨r_4, h_5, hf⟩ := obd hf
      refine xs_S (As := [.int x2, .int (0 : Int32), .int ((σ.1 2 x1.toNatClampNeg) - (1 : Int32))]) (rest := []) S k_X6_within q146 q147 ⟨Nat.le_of_ble_eq_true rfl, Nat.le_of_ble_eq_true rfl⟩ ⟨rfl, rfl⟩ (c_X6_within l x2 (0 : Int32) ((σ.1 2 x1.toNatClampNeg) - (1 : Int32)) r_4 h_5) hK.2 rfl hl.1 rfl (Nat.le_of_ble_eq_true rfl) dX6_cell_77 ⟨Nat.zero_le _, Nat.zero_le _⟩ ?_
      refine lv_if_ne (tgt := 89) hx hb dX6_cell_80 (by decide) (fun c_6 => ?_) (fun c_6 => ?_)
      · have hf := oif c_6 hf
        refine lv_aload_n hx hb dX6_cell_89 rfl (lv_at hl 0 rfl) ?_
        refine va_get (D := D) (ci := 4) (v := .ref (a 3)) (C := RX6) (T := TX6) (N := 27) hx hb ht gX6 hown hK.1 hP 0 (mw0 a c σ) rfl 4 (by decide) (ht _ q52) (fun _ h9 => h9) rfl dX6_cell_90 ?_
        refine lv_bipush (v := (60 : Int32)) hx hb dX6_cell_93 (by decide) ?_
        refine lv_iload_n hx hb dX6_cell_95 rfl (lv_at hl 1 rfl) ?_
        refine lv_imul hx hb dX6_cell_96 ?_
        refine lv_iload_n hx hb dX6_cell_97 rfl (lv_at hl 2 rfl) ?_
        refine lv_iadd hx hb dX6_cell_98 ?_
        obtain ⟨g_7, hf⟩ := ogd hf
        refine va_iald hx hb hK.1 hP 3 0 (mw3 a c σ) rfl (ck_in g_7) dX6_cell_99 ?_
        refine lv_i2l (v := (Int32.toInt64 (σ.1 3 (((60 : Int32) * x1) + x2).toNatClampNeg))) hx hb dX6_cell_100 rfl ?_
        exact hret _ _ _ _ _ _ dX6_cell_101 hP hS (oret hf)
      have hf := oit c_6 hf
      refine lv_aload_n hx hb dX6_cell_83 rfl (lv_at hl 0 rfl) ?_
      refine lv_iconst (v := (3 : Int32)) hx hb dX6_cell_84 (by decide) ?_
      obtain ⟨r_8, σ_9, h_10, hf⟩ := obd2 hf
      refine xv_L (As := [.int (3 : Int32)]) (rest := []) S k_X6_lost q663 q664 q665 ⟨Nat.le_of_ble_eq_true rfl, Nat.le_of_ble_eq_true rfl⟩ ⟨rfl, rfl⟩ (c_X6_lost l D a c A hD (3 : Int32) σ r_8 σ_9 h_10) hK hP hS (va_recv hK.1 hP (rfl : vwCl[4]? = some (RX6, TX6, 27)) (mw0 a c σ)) rfl hl.1 rfl (Nat.le_of_ble_eq_true rfl) dX6_cell_85 ⟨Nat.zero_le _, Nat.zero_le _⟩ (fun H locs hP hS => ?_)
      exact hret _ _ _ _ _ _ dX6_cell_88 hP hS (oret hf)
    have hf := oit c_2 hf
    refine lv_aload_n hx hb dX6_cell_61 rfl (lv_at hl 0 rfl) ?_
    refine lv_iconst (v := (1 : Int32)) hx hb dX6_cell_62 (by decide) ?_
    obtain ⟨r_11, σ_12, h_13, hf⟩ := obd2 hf
    refine xv_L (As := [.int (1 : Int32)]) (rest := []) S k_X6_lost q663 q664 q665 ⟨Nat.le_of_ble_eq_true rfl, Nat.le_of_ble_eq_true rfl⟩ ⟨rfl, rfl⟩ (c_X6_lost l D a c A hD (1 : Int32) σ r_11 σ_12 h_13) hK hP hS (va_recv hK.1 hP (rfl : vwCl[4]? = some (RX6, TX6, 27)) (mw0 a c σ)) rfl hl.1 rfl (Nat.le_of_ble_eq_true rfl) dX6_cell_63 ⟨Nat.zero_le _, Nat.zero_le _⟩ (fun H locs hP hS => ?_)
    exact hret _ _ _ _ _ _ dX6_cell_66 hP hS (oret hf)
  have hf := oun (f_X6_cell.eq_1 _ _ _ _) hf
  refine lv_aload_n hx hb dX6_cell_0 rfl (lv_at hl 0 rfl) ?_
  refine lv_iconst (v := (0 : Int32)) hx hb dX6_cell_1 (by decide) ?_
  refine va_put (D := D) (ci := 4) (v := .int (0 : Int32)) (ty := .int) (C := RX6) (T := TX6) (N := 27) hx hb ht gX6 tyX6 tyX6_ok nmX6 hown hK.1 hP (hD σ) hS 0 (mw0 a c σ) rfl 0 (by decide) (ht _ q136) (fun _ h9 => h9) rfl (by decide +kernel) rfl rfl (Nat.le_of_ble_eq_true rfl) dX6_cell_2 (fun H locs hP _ hS => ?_)
  have hP := vP_eq (mpX6_fault a c σ (0 : Int32)) hP
  obtain ⟨σ_14, eσ_14, hf⟩ := onm hf
  rw [eσ_14] at hP
  refine lv_iload_n hx hb dX6_cell_5 rfl (lv_at hl 1 rfl) ?_
  obtain ⟨r_15, h_16, hf⟩ := obd hf
  refine xs_S (As := [.int x1]) (rest := []) S k_X6_isSheet q143 q144 ⟨Nat.le_of_ble_eq_true rfl, Nat.le_of_ble_eq_true rfl⟩ ⟨rfl, rfl⟩ (c_X6_isSheet l x1 r_15 h_16) hK.2 rfl hl.1 rfl (Nat.le_of_ble_eq_true rfl) dX6_cell_6 ⟨Nat.zero_le _, Nat.zero_le _⟩ ?_
  refine lv_if_eq (tgt := 19) hx hb dX6_cell_9 (by decide) (fun c_17 => ?_) (fun c_17 => ?_)
  · have hf := oit c_17 hf
    refine lv_ldc2 (v := (-9223372036854775808 : Int64)) hx hb hown (ht _ q604) dX6_cell_19 ?_
    exact hret _ _ _ _ _ _ dX6_cell_22 hP hS (oret hf)
  have hf := oif c_17 hf
  refine lv_iload_n hx hb dX6_cell_12 rfl (lv_at hl 3 rfl) ?_
  obtain ⟨r_18, h_19, hf⟩ := obd hf
  refine xs_S (As := [.int x3]) (rest := []) S k_X6_isSort q149 q150 ⟨Nat.le_of_ble_eq_true rfl, Nat.le_of_ble_eq_true rfl⟩ ⟨rfl, rfl⟩ (c_X6_isSort l x3 r_18 h_19) hK.2 rfl hl.1 rfl (Nat.le_of_ble_eq_true rfl) dX6_cell_13 ⟨Nat.zero_le _, Nat.zero_le _⟩ ?_
  refine lv_if_ne (tgt := 23) hx hb dX6_cell_16 (by decide) (fun c_20 => ?_) (fun c_20 => ?_)
  · have hf := oif c_20 hf
    refine lv_aload_n hx hb dX6_cell_23 rfl (lv_at hl 0 rfl) ?_
    refine va_get (D := D) (ci := 4) (v := .ref (a 1)) (C := RX6) (T := TX6) (N := 27) hx hb ht gX6 hown hK.1 hP 0 (mw0 a c σ_14) rfl 2 (by decide) (ht _ q50) (fun _ h9 => h9) rfl dX6_cell_24 ?_
    refine lv_iload_n hx hb dX6_cell_27 rfl (lv_at hl 1 rfl) ?_
    obtain ⟨g_21, hf⟩ := ogd hf
    refine va_iald hx hb hK.1 hP 1 0 (mw1 a c σ_14) rfl (ck_in g_21) dX6_cell_28 ?_
    refine lv_bipush (v := (-9 : Int32)) hx hb dX6_cell_29 (by decide) ?_
    refine lv_icmp_eq (tgt := 50) hx hb dX6_cell_31 (by decide) (fun c_22 => ?_) (fun c_22 => ?_)
    · have hf := oit c_22 hf
      exact j50 x1 x2 σ_14 _ _ _ (lv_sub hl [0, 1, 2] rfl) hP hS hf
    have hf := oif c_22 hf
    refine lv_aload_n hx hb dX6_cell_34 rfl (lv_at hl 0 rfl) ?_
    refine va_get (D := D) (ci := 4) (v := .ref (a 1)) (C := RX6) (T := TX6) (N := 27) hx hb ht gX6 hown hK.1 hP 0 (mw0 a c σ_14) rfl 2 (by decide) (ht _ q50) (fun _ h9 => h9) rfl dX6_cell_35 ?_
    refine lv_iload_n hx hb dX6_cell_38 rfl (lv_at hl 1 rfl) ?_
    obtain ⟨g_23, hf⟩ := ogd hf
    refine va_iald hx hb hK.1 hP 1 0 (mw1 a c σ_14) rfl (ck_in g_23) dX6_cell_39 ?_
    refine lv_iload_n hx hb dX6_cell_40 rfl (lv_at hl 3 rfl) ?_
    refine lv_icmp_eq (tgt := 50) hx hb dX6_cell_41 (by decide) (fun c_24 => ?_) (fun c_24 => ?_)
    · have hf := oit c_24 hf
      exact j50 x1 x2 σ_14 _ _ _ (lv_sub hl [0, 1, 2] rfl) hP hS hf
    have hf := oif c_24 hf
    refine lv_aload_n hx hb dX6_cell_44 rfl (lv_at hl 0 rfl) ?_
    refine lv_iconst (v := (2 : Int32)) hx hb dX6_cell_45 (by decide) ?_
    obtain ⟨r_25, σ_26, h_27, hf⟩ := obd2 hf
    refine xv_L (As := [.int (2 : Int32)]) (rest := []) S k_X6_lost q663 q664 q665 ⟨Nat.le_of_ble_eq_true rfl, Nat.le_of_ble_eq_true rfl⟩ ⟨rfl, rfl⟩ (c_X6_lost l D a c A hD (2 : Int32) σ_14 r_25 σ_26 h_27) hK hP hS (va_recv hK.1 hP (rfl : vwCl[4]? = some (RX6, TX6, 27)) (mw0 a c σ_14)) rfl hl.1 rfl (Nat.le_of_ble_eq_true rfl) dX6_cell_46 ⟨Nat.zero_le _, Nat.zero_le _⟩ (fun H locs hP hS => ?_)
    exact hret _ _ _ _ _ _ dX6_cell_49 hP hS (oret hf)
  have hf := oit c_20 hf
  refine lv_ldc2 (v := (-9223372036854775808 : Int64)) hx hb hown (ht _ q604) dX6_cell_19 ?_
  exact hret _ _ _ _ _ _ dX6_cell_22 hP hS (oret hf)
theorem dX6_copy_0 : decode cX6_copy 0 = .ok (.aload_n 0, 1) := by decide +kernel
theorem dX6_copy_1 : decode cX6_copy 1 = .ok (.iconst 0, 1) := by decide +kernel
theorem dX6_copy_2 : decode cX6_copy 2 = .ok (.putfield 65, 3) := by decide +kernel
theorem dX6_copy_5 : decode cX6_copy 5 = .ok (.iload_n 1, 1) := by decide +kernel
theorem dX6_copy_6 : decode cX6_copy 6 = .ok (.invokestatic 85, 3) := by decide +kernel
theorem dX6_copy_9 : decode cX6_copy 9 = .ok (.ifCond .eq 10, 3) := by decide +kernel
theorem dX6_copy_12 : decode cX6_copy 12 = .ok (.iload_n 3, 1) := by decide +kernel
theorem dX6_copy_13 : decode cX6_copy 13 = .ok (.invokestatic 85, 3) := by decide +kernel
theorem dX6_copy_16 : decode cX6_copy 16 = .ok (.ifCond .ne 5, 3) := by decide +kernel
theorem dX6_copy_19 : decode cX6_copy 19 = .ok (.iconst (-1), 1) := by decide +kernel
theorem dX6_copy_20 : decode cX6_copy 20 = .ok (.ireturn, 1) := by decide +kernel
theorem dX6_copy_21 : decode cX6_copy 21 = .ok (.aload_n 0, 1) := by decide +kernel
theorem dX6_copy_22 : decode cX6_copy 22 = .ok (.getfield 9, 3) := by decide +kernel
theorem dX6_copy_25 : decode cX6_copy 25 = .ok (.iload_n 1, 1) := by decide +kernel
theorem dX6_copy_26 : decode cX6_copy 26 = .ok (.iaload, 1) := by decide +kernel
theorem dX6_copy_27 : decode cX6_copy 27 = .ok (.bipush (-9), 2) := by decide +kernel
theorem dX6_copy_29 : decode cX6_copy 29 = .ok (.if_icmp .eq 14, 3) := by decide +kernel
theorem dX6_copy_32 : decode cX6_copy 32 = .ok (.aload_n 0, 1) := by decide +kernel
theorem dX6_copy_33 : decode cX6_copy 33 = .ok (.getfield 9, 3) := by decide +kernel
theorem dX6_copy_36 : decode cX6_copy 36 = .ok (.iload_n 3, 1) := by decide +kernel
theorem dX6_copy_37 : decode cX6_copy 37 = .ok (.iaload, 1) := by decide +kernel
theorem dX6_copy_38 : decode cX6_copy 38 = .ok (.bipush (-9), 2) := by decide +kernel
theorem dX6_copy_40 : decode cX6_copy 40 = .ok (.if_icmp .ne 9, 3) := by decide +kernel
theorem dX6_copy_43 : decode cX6_copy 43 = .ok (.aload_n 0, 1) := by decide +kernel
theorem dX6_copy_44 : decode cX6_copy 44 = .ok (.iconst 1, 1) := by decide +kernel
theorem dX6_copy_45 : decode cX6_copy 45 = .ok (.invokevirtual 95, 3) := by decide +kernel
theorem dX6_copy_48 : decode cX6_copy 48 = .ok (.ireturn, 1) := by decide +kernel
theorem dX6_copy_49 : decode cX6_copy 49 = .ok (.aload_n 0, 1) := by decide +kernel
theorem dX6_copy_50 : decode cX6_copy 50 = .ok (.getfield 9, 3) := by decide +kernel
theorem dX6_copy_53 : decode cX6_copy 53 = .ok (.iload_n 1, 1) := by decide +kernel
theorem dX6_copy_54 : decode cX6_copy 54 = .ok (.iaload, 1) := by decide +kernel
theorem dX6_copy_55 : decode cX6_copy 55 = .ok (.aload_n 0, 1) := by decide +kernel
theorem dX6_copy_56 : decode cX6_copy 56 = .ok (.getfield 9, 3) := by decide +kernel
theorem dX6_copy_59 : decode cX6_copy 59 = .ok (.iload_n 3, 1) := by decide +kernel
theorem dX6_copy_60 : decode cX6_copy 60 = .ok (.iaload, 1) := by decide +kernel
theorem dX6_copy_61 : decode cX6_copy 61 = .ok (.if_icmp .eq 9, 3) := by decide +kernel
theorem dX6_copy_64 : decode cX6_copy 64 = .ok (.aload_n 0, 1) := by decide +kernel
theorem dX6_copy_65 : decode cX6_copy 65 = .ok (.iconst 2, 1) := by decide +kernel
theorem dX6_copy_66 : decode cX6_copy 66 = .ok (.invokevirtual 95, 3) := by decide +kernel
theorem dX6_copy_69 : decode cX6_copy 69 = .ok (.ireturn, 1) := by decide +kernel
theorem dX6_copy_70 : decode cX6_copy 70 = .ok (.iload_n 2, 1) := by decide +kernel
theorem dX6_copy_71 : decode cX6_copy 71 = .ok (.ifCond .lt 38, 3) := by decide +kernel
theorem dX6_copy_74 : decode cX6_copy 74 = .ok (.iload 4, 2) := by decide +kernel
theorem dX6_copy_76 : decode cX6_copy 76 = .ok (.ifCond .lt 33, 3) := by decide +kernel
theorem dX6_copy_79 : decode cX6_copy 79 = .ok (.iload 5, 2) := by decide +kernel
theorem dX6_copy_81 : decode cX6_copy 81 = .ok (.ifCond .lt 28, 3) := by decide +kernel
theorem dX6_copy_84 : decode cX6_copy 84 = .ok (.iload_n 2, 1) := by decide +kernel
theorem dX6_copy_85 : decode cX6_copy 85 = .ok (.aload_n 0, 1) := by decide +kernel
theorem dX6_copy_86 : decode cX6_copy 86 = .ok (.getfield 13, 3) := by decide +kernel
theorem dX6_copy_89 : decode cX6_copy 89 = .ok (.iload_n 1, 1) := by decide +kernel
theorem dX6_copy_90 : decode cX6_copy 90 = .ok (.iaload, 1) := by decide +kernel
theorem dX6_copy_91 : decode cX6_copy 91 = .ok (.if_icmp .gt 18, 3) := by decide +kernel
theorem dX6_copy_94 : decode cX6_copy 94 = .ok (.iload 4, 2) := by decide +kernel
theorem dX6_copy_96 : decode cX6_copy 96 = .ok (.aload_n 0, 1) := by decide +kernel
theorem dX6_copy_97 : decode cX6_copy 97 = .ok (.getfield 13, 3) := by decide +kernel
theorem dX6_copy_100 : decode cX6_copy 100 = .ok (.iload_n 3, 1) := by decide +kernel
theorem dX6_copy_101 : decode cX6_copy 101 = .ok (.iaload, 1) := by decide +kernel
theorem dX6_copy_102 : decode cX6_copy 102 = .ok (.if_icmp .gt 7, 3) := by decide +kernel
theorem dX6_copy_105 : decode cX6_copy 105 = .ok (.iconst 1, 1) := by decide +kernel
theorem dX6_copy_106 : decode cX6_copy 106 = .ok (.goto 4, 3) := by decide +kernel
theorem dX6_copy_109 : decode cX6_copy 109 = .ok (.iconst 0, 1) := by decide +kernel
theorem dX6_copy_110 : decode cX6_copy 110 = .ok (.istore 6, 2) := by decide +kernel
theorem dX6_copy_112 : decode cX6_copy 112 = .ok (.iload 6, 2) := by decide +kernel
theorem dX6_copy_114 : decode cX6_copy 114 = .ok (.ifCond .eq 30, 3) := by decide +kernel
theorem dX6_copy_117 : decode cX6_copy 117 = .ok (.iload 5, 2) := by decide +kernel
theorem dX6_copy_119 : decode cX6_copy 119 = .ok (.aload_n 0, 1) := by decide +kernel
theorem dX6_copy_120 : decode cX6_copy 120 = .ok (.getfield 13, 3) := by decide +kernel
theorem dX6_copy_123 : decode cX6_copy 123 = .ok (.iload_n 1, 1) := by decide +kernel
theorem dX6_copy_124 : decode cX6_copy 124 = .ok (.iaload, 1) := by decide +kernel
theorem dX6_copy_125 : decode cX6_copy 125 = .ok (.iload_n 2, 1) := by decide +kernel
theorem dX6_copy_126 : decode cX6_copy 126 = .ok (.isub, 1) := by decide +kernel
theorem dX6_copy_127 : decode cX6_copy 127 = .ok (.if_icmp .gt 17, 3) := by decide +kernel
theorem dX6_copy_130 : decode cX6_copy 130 = .ok (.iload 5, 2) := by decide +kernel
theorem dX6_copy_132 : decode cX6_copy 132 = .ok (.aload_n 0, 1) := by decide +kernel
theorem dX6_copy_133 : decode cX6_copy 133 = .ok (.getfield 13, 3) := by decide +kernel
theorem dX6_copy_136 : decode cX6_copy 136 = .ok (.iload_n 3, 1) := by decide +kernel
theorem dX6_copy_137 : decode cX6_copy 137 = .ok (.iaload, 1) := by decide +kernel
theorem dX6_copy_138 : decode cX6_copy 138 = .ok (.iload 4, 2) := by decide +kernel
theorem dX6_copy_140 : decode cX6_copy 140 = .ok (.isub, 1) := by decide +kernel
theorem dX6_copy_141 : decode cX6_copy 141 = .ok (.if_icmp .le 9, 3) := by decide +kernel
theorem dX6_copy_144 : decode cX6_copy 144 = .ok (.aload_n 0, 1) := by decide +kernel
theorem dX6_copy_145 : decode cX6_copy 145 = .ok (.iconst 3, 1) := by decide +kernel
theorem dX6_copy_146 : decode cX6_copy 146 = .ok (.invokevirtual 95, 3) := by decide +kernel
theorem dX6_copy_149 : decode cX6_copy 149 = .ok (.ireturn, 1) := by decide +kernel
theorem dX6_copy_150 : decode cX6_copy 150 = .ok (.iload_n 2, 1) := by decide +kernel
theorem dX6_copy_151 : decode cX6_copy 151 = .ok (.iload 4, 2) := by decide +kernel
theorem dX6_copy_153 : decode cX6_copy 153 = .ok (.if_icmp .ge 7, 3) := by decide +kernel
theorem dX6_copy_156 : decode cX6_copy 156 = .ok (.iconst 1, 1) := by decide +kernel
theorem dX6_copy_157 : decode cX6_copy 157 = .ok (.goto 4, 3) := by decide +kernel
theorem dX6_copy_160 : decode cX6_copy 160 = .ok (.iconst 0, 1) := by decide +kernel
theorem dX6_copy_161 : decode cX6_copy 161 = .ok (.istore 7, 2) := by decide +kernel
theorem dX6_copy_163 : decode cX6_copy 163 = .ok (.iconst 0, 1) := by decide +kernel
theorem dX6_copy_164 : decode cX6_copy 164 = .ok (.istore 8, 2) := by decide +kernel
theorem dX6_copy_166 : decode cX6_copy 166 = .ok (.iload 8, 2) := by decide +kernel
theorem dX6_copy_168 : decode cX6_copy 168 = .ok (.iload 5, 2) := by decide +kernel
theorem dX6_copy_170 : decode cX6_copy 170 = .ok (.if_icmp .ge 57, 3) := by decide +kernel
theorem dX6_copy_173 : decode cX6_copy 173 = .ok (.iload 7, 2) := by decide +kernel
theorem dX6_copy_175 : decode cX6_copy 175 = .ok (.ifCond .eq 13, 3) := by decide +kernel
theorem dX6_copy_178 : decode cX6_copy 178 = .ok (.iload 5, 2) := by decide +kernel
theorem dX6_copy_180 : decode cX6_copy 180 = .ok (.iconst 1, 1) := by decide +kernel
theorem dX6_copy_181 : decode cX6_copy 181 = .ok (.isub, 1) := by decide +kernel
theorem dX6_copy_182 : decode cX6_copy 182 = .ok (.iload 8, 2) := by decide +kernel
theorem dX6_copy_184 : decode cX6_copy 184 = .ok (.isub, 1) := by decide +kernel
theorem dX6_copy_185 : decode cX6_copy 185 = .ok (.goto 5, 3) := by decide +kernel
theorem dX6_copy_188 : decode cX6_copy 188 = .ok (.iload 8, 2) := by decide +kernel
theorem dX6_copy_190 : decode cX6_copy 190 = .ok (.istore 9, 2) := by decide +kernel
theorem dX6_copy_192 : decode cX6_copy 192 = .ok (.aload_n 0, 1) := by decide +kernel
theorem dX6_copy_193 : decode cX6_copy 193 = .ok (.getfield 16, 3) := by decide +kernel
theorem dX6_copy_196 : decode cX6_copy 196 = .ok (.bipush 60, 2) := by decide +kernel
theorem dX6_copy_198 : decode cX6_copy 198 = .ok (.iload_n 3, 1) := by decide +kernel
theorem dX6_copy_199 : decode cX6_copy 199 = .ok (.imul, 1) := by decide +kernel
theorem dX6_copy_200 : decode cX6_copy 200 = .ok (.iload 4, 2) := by decide +kernel
theorem dX6_copy_202 : decode cX6_copy 202 = .ok (.iadd, 1) := by decide +kernel
theorem dX6_copy_203 : decode cX6_copy 203 = .ok (.iload 9, 2) := by decide +kernel
theorem dX6_copy_205 : decode cX6_copy 205 = .ok (.iadd, 1) := by decide +kernel
theorem dX6_copy_206 : decode cX6_copy 206 = .ok (.aload_n 0, 1) := by decide +kernel
theorem dX6_copy_207 : decode cX6_copy 207 = .ok (.getfield 16, 3) := by decide +kernel
theorem dX6_copy_210 : decode cX6_copy 210 = .ok (.bipush 60, 2) := by decide +kernel
theorem dX6_copy_212 : decode cX6_copy 212 = .ok (.iload_n 1, 1) := by decide +kernel
theorem dX6_copy_213 : decode cX6_copy 213 = .ok (.imul, 1) := by decide +kernel
theorem dX6_copy_214 : decode cX6_copy 214 = .ok (.iload_n 2, 1) := by decide +kernel
theorem dX6_copy_215 : decode cX6_copy 215 = .ok (.iadd, 1) := by decide +kernel
theorem dX6_copy_216 : decode cX6_copy 216 = .ok (.iload 9, 2) := by decide +kernel
theorem dX6_copy_218 : decode cX6_copy 218 = .ok (.iadd, 1) := by decide +kernel
theorem dX6_copy_219 : decode cX6_copy 219 = .ok (.iaload, 1) := by decide +kernel
theorem dX6_copy_220 : decode cX6_copy 220 = .ok (.iastore, 1) := by decide +kernel
theorem dX6_copy_221 : decode cX6_copy 221 = .ok (.iinc 8 1, 3) := by decide +kernel
theorem dX6_copy_224 : decode cX6_copy 224 = .ok (.goto (-58), 3) := by decide +kernel
theorem dX6_copy_227 : decode cX6_copy 227 = .ok (.iload 5, 2) := by decide +kernel
theorem dX6_copy_229 : decode cX6_copy 229 = .ok (.ireturn, 1) := by decide +kernel
def f_X6_copy_j227 (N : Nat) (x5 : Int32) (σ : St) : Option (Int32 × St) :=
  some (x5, σ)
def f_X6_copy_j190 (N : Nat) (x1 : Int32) (x2 : Int32) (x3 : Int32) (x4 : Int32) (x5 : Int32) (x7 : Int32) (x8 : Int32) (y0 : Int32) (σ : St) : Option ((Int32 × St) ⊕ ((St))) :=
  gd (ck ((((60 : Int32) * x1) + x2) + y0) 240) <|
  gd (ck ((((60 : Int32) * x3) + x4) + y0) 240) <|
  nm (wS σ 3 (Int32.toNatClampNeg ((((60 : Int32) * x3) + x4) + y0)) (σ.1 3 ((((60 : Int32) * x1) + x2) + y0).toNatClampNeg)) fun σ_3 =>
  nm (x8 + (1 : Int32)) fun x8_4 =>
  some (.inl (x8_4, σ_3))
def f_X6_copy_b166 (N : Nat) (x1 : Int32) (x2 : Int32) (x3 : Int32) (x4 : Int32) (x5 : Int32) (x7 : Int32) (x8 : Int32) (σ : St) : Option ((Int32 × St) ⊕ ((St))) :=
  if x5 ≤ x8 then (some (.inr σ))
  else if x7 = 0 then (f_X6_copy_j190 N x1 x2 x3 x4 x5 x7 x8 x8 σ)
  else f_X6_copy_j190 N x1 x2 x3 x4 x5 x7 x8 ((x5 - (1 : Int32)) - x8) σ
def f_X6_copy_j161 (N : Nat) (x1 : Int32) (x2 : Int32) (x3 : Int32) (x4 : Int32) (x5 : Int32) (y0 : Int32) (σ : St) : Option (Int32 × St) :=
  bd (lpF (fun s => f_X6_copy_b166 N x1 x2 x3 x4 x5 y0 s.1 s.2) N ((0 : Int32), σ)) (fun o => f_X6_copy_j227 N x5 o)
def f_X6_copy_j144 (N : Nat) (σ : St) : Option (Int32 × St) :=
  bd2 (f_X6_fails (3 : Int32) σ) fun r_7 σ_8 =>
  some (r_7, σ_8)
def f_X6_copy_j110 (N : Nat) (x1 : Int32) (x2 : Int32) (x3 : Int32) (x4 : Int32) (x5 : Int32) (y0 : Int32) (σ : St) : Option (Int32 × St) :=
  if y0 = 0 then (f_X6_copy_j144 N σ)
  else gd (ck x1 4) <|
  if ((σ.1 2 x1.toNatClampNeg) - x2) < x5 then (f_X6_copy_j144 N σ)
  else gd (ck x3 4) <|
  if x5 ≤ ((σ.1 2 x3.toNatClampNeg) - x4) then (if x4 ≤ x2 then (f_X6_copy_j161 N x1 x2 x3 x4 x5 (0 : Int32) σ)
    else f_X6_copy_j161 N x1 x2 x3 x4 x5 (1 : Int32) σ)
  else f_X6_copy_j144 N σ
def f_X6_copy_j109 (N : Nat) (x1 : Int32) (x2 : Int32) (x3 : Int32) (x4 : Int32) (x5 : Int32) (σ : St) : Option (Int32 × St) :=
  f_X6_copy_j110 N x1 x2 x3 x4 x5 (0 : Int32) σ
def f_X6_copy_j43 (N : Nat) (σ : St) : Option (Int32 × St) :=
  bd2 (f_X6_fails (1 : Int32) σ) fun r_16 σ_17 =>
  some (r_16, σ_17)
def f_X6_copy (N : Nat) (x1 : Int32) (x2 : Int32) (x3 : Int32) (x4 : Int32) (x5 : Int32) (σ : St) : Option (Int32 × St) :=
  nm (wS σ 0 0 (0 : Int32)) fun σ_19 =>
  bd (f_X6_isSheet x1) fun r_20 =>
  if r_20 = 0 then (some ((-1 : Int32), σ_19))
  else bd (f_X6_isSheet x3) fun r_23 =>
  if r_23 = 0 then (some ((-1 : Int32), σ_19))
  else gd (ck x1 4) <|
    if (σ_19.1 1 x1.toNatClampNeg) = (-9 : Int32) then (f_X6_copy_j43 N σ_19)
    else gd (ck x3 4) <|
    if (σ_19.1 1 x3.toNatClampNeg) = (-9 : Int32) then (f_X6_copy_j43 N σ_19)
    else gd (ck x1 4) <|
      gd (ck x3 4) <|
      if (σ_19.1 1 x1.toNatClampNeg) = (σ_19.1 1 x3.toNatClampNeg) then (if x2 < 0 then (f_X6_copy_j109 N x1 x2 x3 x4 x5 σ_19)
        else if x4 < 0 then (f_X6_copy_j109 N x1 x2 x3 x4 x5 σ_19)
        else if x5 < 0 then (f_X6_copy_j109 N x1 x2 x3 x4 x5 σ_19)
        else gd (ck x1 4) <|
        if (σ_19.1 2 x1.toNatClampNeg) < x2 then (f_X6_copy_j109 N x1 x2 x3 x4 x5 σ_19)
        else gd (ck x3 4) <|
        if (σ_19.1 2 x3.toNatClampNeg) < x4 then (f_X6_copy_j109 N x1 x2 x3 x4 x5 σ_19)
        else f_X6_copy_j110 N x1 x2 x3 x4 x5 (1 : Int32) σ_19)
      else bd2 (f_X6_fails (2 : Int32) σ_19) fun r_40 σ_41 =>
      some (r_40, σ_41)
abbrev rmX6_copy : Room := { frames := 2, cells := 0, slots := 0, locals := 42 }
set_option maxRecDepth 100000 in
set_option maxHeartbeats 4000000 in
theorem c_X6_copy (l : Launch) (D : va_G) (a : Nat → Nat) (c : Nat → ClassId) (A : Nat → Prop) (hD : ∀ σ, va_D A (mW a c σ)) (N : Nat) (x1 : Int32) (x2 : Int32) (x3 : Int32) (x4 : Int32) (x5 : Int32) (σ : St) (r : Int32) (u : St) (hf : f_X6_copy N x1 x2 x3 x4 x5 σ = some (r, u)) : MetI l yX6_copy cX6_copy 10 (some .int) rmX6_copy (mW a c) D c A [.ref (a 0), .int x1, .int x2, .int x3, .int x4, .int x5] σ r u := by
  refine mkI (by decide) (Nat.le_of_ble_eq_true rfl) rfl ?_
  intro p e s m args below meth cd Q ls h0 hK hP hret hl
  obtain ⟨S, hr, hlk⟩ := h0
  obtain ⟨hx, hb, hml, hown, ht⟩ := id S
  have hS : va_S A s.heap s.heap [] := va_S.rf
  have hl : lv_has ls 10 [(0, .ref (a 0)), (1, .int x1), (2, .int x2), (3, .int x3), (4, .int x4), (5, .int x5)] := hl
  have hf := obs hf
  have j227 : ∀ (x5 : Int32) (σ : St) (H : Heap) (locs : List Loc) (ls : Array Slot), lv_has ls 10 [(5, .int x5)] → va_P D vwCl (mW a c σ) H → va_S A s.heap H locs → Option.bind (f_X6_copy_j227 N x5 σ) some = some (r, u) → W p l e rmX6_copy s m args below meth cd H locs 0 0 Q (F0 m 227 ls []) := by
    intro x5 σ H locs ls hl hP hS hf
    have hf := oun (f_X6_copy_j227.eq_1 _ _ _) hf
    refine lv_iload hx hb dX6_copy_227 (lv_at hl 0 rfl) ?_
    exact hret _ _ _ _ _ _ dX6_copy_229 rfl hP hS (oret hf)
  have L166 : ∀ (x1 : Int32) (x2 : Int32) (x3 : Int32) (x4 : Int32) (x5 : Int32) (x7 : Int32) (k : Nat) (x8 : Int32) (σ : St) (H : Heap) (locs : List Loc) (ls : Array Slot), lv_has ls 10 [(0, .ref (a 0)), (1, .int x1), (2, .int x2), (3, .int x3), (4, .int x4), (5, .int x5), (7, .int x7), (8, .int x8)] → va_P D vwCl (mW a c σ) H → va_S A s.heap H locs → Option.bind (bd (lpF (fun s => f_X6_copy_b166 N x1 x2 x3 x4 x5 x7 s.1 s.2) k (x8, σ)) (fun o => f_X6_copy_j227 N x5 o)) some = some (r, u) → W p l e rmX6_copy s m args below meth cd H locs 0 0 Q (F0 m 166 ls []) := by
    intro x1 x2 x3 x4 x5 x7 k
    induction k with
    | zero =>
      intro x8 σ H locs ls hl hP hS hf
      exact (ol0 hf).elim
    | succ k ih =>
      intro x8 σ H locs ls hl hP hS hf
      obtain ⟨K166, hf, hc166, hx166⟩ := ol1 hf
      have j190 : ∀ (x8 : Int32) (y0 : Int32) (σ : St) (H : Heap) (locs : List Loc) (ls : Array Slot), lv_has ls 10 [(0, .ref (a 0)), (1, .int x1), (2, .int x2), (3, .int x3), (4, .int x4), (5, .int x5), (7, .int x7), (8, .int x8)] → va_P D vwCl (mW a c σ) H → va_S A s.heap H locs → Option.bind (f_X6_copy_j190 N x1 x2 x3 x4 x5 x7 x8 y0 σ) K166 = some (r, u) → W p l e rmX6_copy s m args below meth cd H locs 0 0 Q (F0 m 190 ls [.int y0]) := by
        intro x8 y0 σ H locs ls hl hP hS hf
        have hf := oun (f_X6_copy_j190.eq_1 _ _ _ _ _ _ _ _ _ _) hf
        refine lv_istore (lv' := [(9, .int y0), (0, .ref (a 0)), (1, .int x1), (2, .int x2), (3, .int x3), (4, .int x4), (5, .int x5), (7, .int x7), (8, .int x8)]) hx hb dX6_copy_190 hl (by decide) rfl (fun ls hl => ?_)
        refine lv_aload_n hx hb dX6_copy_192 rfl (lv_at hl 1 rfl) ?_
        refine va_get (D := D) (ci := 4) (v := .ref (a 3)) (C := RX6) (T := TX6) (N := 27) hx hb ht gX6 hown hK.1 hP 0 (mw0 a c σ) rfl 4 (by decide) (ht _ q52) (fun _ h9 => h9) rfl dX6_copy_193 ?_
        refine lv_bipush (v := (60 : Int32)) hx hb dX6_copy_196 (by decide) ?_
        refine lv_iload_n hx hb dX6_copy_198 rfl (lv_at hl 4 rfl) ?_
        refine lv_imul hx hb dX6_copy_199 ?_
        refine lv_iload hx hb dX6_copy_200 (lv_at hl 5 rfl) ?_
        refine lv_iadd hx hb dX6_copy_202 ?_
        refine lv_iload hx hb dX6_copy_203 (lv_at hl 0 rfl) ?_
        refine lv_iadd hx hb dX6_copy_205 ?_
        refine lv_aload_n hx hb dX6_copy_206 rfl (lv_at hl 1 rfl) ?_
        refine va_get (D := D) (ci := 4) (v := .ref (a 3)) (C := RX6) (T := TX6) (N := 27) hx hb ht gX6 hown hK.1 hP 0 (mw0 a c σ) rfl 4 (by decide) (ht _ q52) (fun _ h9 => h9) rfl dX6_copy_207 ?_
        refine lv_bipush (v := (60 : Int32)) hx hb dX6_copy_210 (by decide) ?_
        refine lv_iload_n hx hb dX6_copy_212 rfl (lv_at hl 2 rfl) ?_
        refine lv_imul hx hb dX6_copy_213 ?_
        refine lv_iload_n hx hb dX6_copy_214 rfl (lv_at hl 3 rfl) ?_
        refine lv_iadd hx hb dX6_copy_215 ?_
        refine lv_iload hx hb dX6_copy_216 (lv_at hl 0 rfl) ?_
        refine lv_iadd hx hb dX6_copy_218 ?_
        obtain ⟨g_1, hf⟩ := ogd hf
        refine va_iald hx hb hK.1 hP 3 0 (mw3 a c σ) rfl (ck_in g_1) dX6_copy_219 ?_
        obtain ⟨g_2, hf⟩ := ogd hf
        refine va_iast hx hb hK.1 hP (hD σ) hS 3 0 (mw3 a c σ) rfl (ck_in g_2) dX6_copy_220 (fun H locs hP _ hS => ?_)
        have hP := vP_eq (mpA_m3 a c σ (Int32.toNatClampNeg ((((60 : Int32) * x3) + x4) + y0)) (σ.1 3 ((((60 : Int32) * x1) + x2) + y0).toNatClampNeg)) hP
        obtain ⟨σ_3, eσ_3, hf⟩ := onm hf
        rw [eσ_3] at hP
        obtain ⟨x8_4, ex8_4, hf⟩ := onm hf
        refine lv_iinc (v := x8_4) (lv' := [(8, .int x8_4), (9, .int y0), (0, .ref (a 0)), (1, .int x1), (2, .int x2), (3, .int x3), (4, .int x4), (5, .int x5), (7, .int x7)]) hx hb dX6_copy_221 hl (k := 8) rfl ex8_4 (by decide) rfl (fun ls hl => ?_)
        refine lv_goto (tgt := 166) hx hb dX6_copy_224 (by decide) ?_
        exact ih x8_4 σ_3 _ _ _ (lv_sub hl [2, 3, 4, 5, 6, 7, 8, 0] rfl) hP hS (okx hf (hc166 _))
      have hf := oun (f_X6_copy_b166.eq_1 N x1 x2 x3 x4 x5 x7 x8 σ) hf
      refine lv_iload hx hb dX6_copy_166 (lv_at hl 7 rfl) ?_
      refine lv_iload hx hb dX6_copy_168 (lv_at hl 5 rfl) ?_
      refine lv_icmp_ge (tgt := 227) hx hb dX6_copy_170 (by decide) (fun c_5 => ?_) (fun c_5 => ?_)
      · have hf := oit c_5 hf
        exact j227 x5 σ _ _ _ (lv_sub hl [5] rfl) hP hS (okx hf (hx166 _))
      have hf := oif c_5 hf
      refine lv_iload hx hb dX6_copy_173 (lv_at hl 6 rfl) ?_
      refine lv_if_eq (tgt := 188) hx hb dX6_copy_175 (by decide) (fun c_6 => ?_) (fun c_6 => ?_)
      · have hf := oit c_6 hf
        refine lv_iload hx hb dX6_copy_188 (lv_at hl 7 rfl) ?_
        exact j190 x8 x8 σ _ _ _ (lv_sub hl [0, 1, 2, 3, 4, 5, 6, 7] rfl) hP hS hf
      have hf := oif c_6 hf
      refine lv_iload hx hb dX6_copy_178 (lv_at hl 5 rfl) ?_
      refine lv_iconst (v := (1 : Int32)) hx hb dX6_copy_180 (by decide) ?_
      refine lv_isub hx hb dX6_copy_181 ?_
      refine lv_iload hx hb dX6_copy_182 (lv_at hl 7 rfl) ?_
      refine lv_isub hx hb dX6_copy_184 ?_
      refine lv_goto (tgt := 190) hx hb dX6_copy_185 (by decide) ?_
      exact j190 x8 ((x5 - (1 : Int32)) - x8) σ _ _ _ (lv_sub hl [0, 1, 2, 3, 4, 5, 6, 7] rfl) hP hS hf
  have j161 : ∀ (x1 : Int32) (x2 : Int32) (x3 : Int32) (x4 : Int32) (x5 : Int32) (y0 : Int32) (σ : St) (H : Heap) (locs : List Loc) (ls : Array Slot), lv_has ls 10 [(0, .ref (a 0)), (1, .int x1), (2, .int x2), (3, .int x3), (4, .int x4), (5, .int x5)] → va_P D vwCl (mW a c σ) H → va_S A s.heap H locs → Option.bind (f_X6_copy_j161 N x1 x2 x3 x4 x5 y0 σ) some = some (r, u) → W p l e rmX6_copy s m args below meth cd H locs 0 0 Q (F0 m 161 ls [.int y0]) := by
    intro x1 x2 x3 x4 x5 y0 σ H locs ls hl hP hS hf
    have hf := oun (f_X6_copy_j161.eq_1 _ _ _ _ _ _ _ _) hf
    refine lv_istore (lv' := [(7, .int y0), (0, .ref (a 0)), (1, .int x1), (2, .int x2), (3, .int x3), (4, .int x4), (5, .int x5)]) hx hb dX6_copy_161 hl (by decide) rfl (fun ls hl => ?_)
    refine lv_iconst (v := (0 : Int32)) hx hb dX6_copy_163 (by decide) ?_
    refine lv_istore (lv' := [(8, .int (0 : Int32)), (7, .int y0), (0, .ref (a 0)), (1, .int x1), (2, .int x2), (3, .int x3), (4, .int x4), (5, .int x5)]) hx hb dX6_copy_164 hl (by decide) rfl (fun ls hl => ?_)
    exact L166 x1 x2 x3 x4 x5 y0 N (0 : Int32) σ _ _ _ (lv_sub hl [2, 3, 4, 5, 6, 7, 1, 0] rfl) hP hS hf
  have j144 : ∀ (σ : St) (H : Heap) (locs : List Loc) (ls : Array Slot), lv_has ls 10 [(0, .ref (a 0))] → va_P D vwCl (mW a c σ) H → va_S A s.heap H locs → Option.bind (f_X6_copy_j144 N σ) some = some (r, u) → W p l e rmX6_copy s m args below meth cd H locs 0 0 Q (F0 m 144 ls []) := by
    intro σ H locs ls hl hP hS hf
    have hf := oun (f_X6_copy_j144.eq_1 _ _) hf
    refine lv_aload_n hx hb dX6_copy_144 rfl (lv_at hl 0 rfl) ?_
    refine lv_iconst (v := (3 : Int32)) hx hb dX6_copy_145 (by decide) ?_
    obtain ⟨r_7, σ_8, h_9, hf⟩ := obd2 hf
    refine xv_I (As := [.int (3 : Int32)]) (rest := []) S k_X6_fails q156 q157 q158 ⟨Nat.le_of_ble_eq_true rfl, Nat.le_of_ble_eq_true rfl⟩ ⟨rfl, rfl⟩ (c_X6_fails l D a c A hD (3 : Int32) σ r_7 σ_8 h_9) hK hP hS (va_recv hK.1 hP (rfl : vwCl[4]? = some (RX6, TX6, 27)) (mw0 a c σ)) rfl hl.1 rfl (Nat.le_of_ble_eq_true rfl) dX6_copy_146 ⟨Nat.zero_le _, Nat.zero_le _⟩ (fun H locs hP hS => ?_)
    exact hret _ _ _ _ _ _ dX6_copy_149 rfl hP hS (oret hf)
  have j110 : ∀ (x1 : Int32) (x2 : Int32) (x3 : Int32) (x4 : Int32) (x5 : Int32) (y0 : Int32) (σ : St) (H : Heap) (locs : List Loc) (ls : Array Slot), lv_has ls 10 [(0, .ref (a 0)), (1, .int x1), (2, .int x2), (3, .int x3), (4, .int x4), (5, .int x5)] → va_P D vwCl (mW a c σ) H → va_S A s.heap H locs → Option.bind (f_X6_copy_j110 N x1 x2 x3 x4 x5 y0 σ) some = some (r, u) → W p l e rmX6_copy s m args below meth cd H locs 0 0 Q (F0 m 110 ls [.int y0]) := by
    intro x1 x2 x3 x4 x5 y0 σ H locs ls hl hP hS hf
    have hf := oun (f_X6_copy_j110.eq_1 _ _ _ _ _ _ _ _) hf
    refine lv_istore (lv' := [(6, .int y0), (0, .ref (a 0)), (1, .int x1), (2, .int x2), (3, .int x3), (4, .int x4), (5, .int x5)]) hx hb dX6_copy_110 hl (by decide) rfl (fun ls hl => ?_)
    refine lv_iload hx hb dX6_copy_112 (lv_at hl 0 rfl) ?_
    refine lv_if_eq (tgt := 144) hx hb dX6_copy_114 (by decide) (fun c_10 => ?_) (fun c_10 => ?_)
    · have hf := oit c_10 hf
      exact j144 σ _ _ _ (lv_sub hl [1] rfl) hP hS hf
    have hf := oif c_10 hf
    refine lv_iload hx hb dX6_copy_117 (lv_at hl 6 rfl) ?_
    refine lv_aload_n hx hb dX6_copy_119 rfl (lv_at hl 1 rfl) ?_
    refine va_get (D := D) (ci := 4) (v := .ref (a 2)) (C := RX6) (T := TX6) (N := 27) hx hb ht gX6 hown hK.1 hP 0 (mw0 a c σ) rfl 3 (by decide) (ht _ q51) (fun _ h9 => h9) rfl dX6_copy_120 ?_
    refine lv_iload_n hx hb dX6_copy_123 rfl (lv_at hl 2 rfl) ?_
    obtain ⟨g_11, hf⟩ := ogd hf
    refine va_iald hx hb hK.1 hP 2 0 (mw2 a c σ) rfl (ck_in g_11) dX6_copy_124 ?_
    refine lv_iload_n hx hb dX6_copy_125 rfl (lv_at hl 3 rfl) ?_
    refine lv_isub hx hb dX6_copy_126 ?_
    refine lv_icmp_gt (tgt := 144) hx hb dX6_copy_127 (by decide) (fun c_12 => ?_) (fun c_12 => ?_)
    · have hf := oit c_12 hf
      exact j144 σ _ _ _ (lv_sub hl [1] rfl) hP hS hf
    have hf := oif c_12 hf
    refine lv_iload hx hb dX6_copy_130 (lv_at hl 6 rfl) ?_
    refine lv_aload_n hx hb dX6_copy_132 rfl (lv_at hl 1 rfl) ?_
    refine va_get (D := D) (ci := 4) (v := .ref (a 2)) (C := RX6) (T := TX6) (N := 27) hx hb ht gX6 hown hK.1 hP 0 (mw0 a c σ) rfl 3 (by decide) (ht _ q51) (fun _ h9 => h9) rfl dX6_copy_133 ?_
    refine lv_iload_n hx hb dX6_copy_136 rfl (lv_at hl 4 rfl) ?_
    obtain ⟨g_13, hf⟩ := ogd hf
    refine va_iald hx hb hK.1 hP 2 0 (mw2 a c σ) rfl (ck_in g_13) dX6_copy_137 ?_
    refine lv_iload hx hb dX6_copy_138 (lv_at hl 5 rfl) ?_
    refine lv_isub hx hb dX6_copy_140 ?_
    refine lv_icmp_le (tgt := 150) hx hb dX6_copy_141 (by decide) (fun c_14 => ?_) (fun c_14 => ?_)
    · have hf := oit c_14 hf
      refine lv_iload_n hx hb dX6_copy_150 rfl (lv_at hl 3 rfl) ?_
      refine lv_iload hx hb dX6_copy_151 (lv_at hl 5 rfl) ?_
      refine lv_icmp_ge (tgt := 160) hx hb dX6_copy_153 (by decide) (fun c_15 => ?_) (fun c_15 => ?_)
      · have hf := oit c_15 hf
        refine lv_iconst (v := (0 : Int32)) hx hb dX6_copy_160 (by decide) ?_
        exact j161 x1 x2 x3 x4 x5 (0 : Int32) σ _ _ _ (lv_sub hl [1, 2, 3, 4, 5, 6] rfl) hP hS hf
      have hf := oif c_15 hf
      refine lv_iconst (v := (1 : Int32)) hx hb dX6_copy_156 (by decide) ?_
      refine lv_goto (tgt := 161) hx hb dX6_copy_157 (by decide) ?_
      exact j161 x1 x2 x3 x4 x5 (1 : Int32) σ _ _ _ (lv_sub hl [1, 2, 3, 4, 5, 6] rfl) hP hS hf
    have hf := oif c_14 hf
    exact j144 σ _ _ _ (lv_sub hl [1] rfl) hP hS hf
  have j109 : ∀ (x1 : Int32) (x2 : Int32) (x3 : Int32) (x4 : Int32) (x5 : Int32) (σ : St) (H : Heap) (locs : List Loc) (ls : Array Slot), lv_has ls 10 [(0, .ref (a 0)), (1, .int x1), (2, .int x2), (3, .int x3), (4, .int x4), (5, .int x5)] → va_P D vwCl (mW a c σ) H → va_S A s.heap H locs → Option.bind (f_X6_copy_j109 N x1 x2 x3 x4 x5 σ) some = some (r, u) → W p l e rmX6_copy s m args below meth cd H locs 0 0 Q (F0 m 109 ls []) := by
    intro x1 x2 x3 x4 x5 σ H locs ls hl hP hS hf
    have hf := oun (f_X6_copy_j109.eq_1 _ _ _ _ _ _ _) hf
    refine lv_iconst (v := (0 : Int32)) hx hb dX6_copy_109 (by decide) ?_
    exact j110 x1 x2 x3 x4 x5 (0 : Int32) σ _ _ _ (lv_sub hl [0, 1, 2, 3, 4, 5] rfl) hP hS hf
  have j43 : ∀ (σ : St) (H : Heap) (locs : List Loc) (ls : Array Slot), lv_has ls 10 [(0, .ref (a 0))] → va_P D vwCl (mW a c σ) H → va_S A s.heap H locs → Option.bind (f_X6_copy_j43 N σ) some = some (r, u) → W p l e rmX6_copy s m args below meth cd H locs 0 0 Q (F0 m 43 ls []) := by
    intro σ H locs ls hl hP hS hf
    have hf := oun (f_X6_copy_j43.eq_1 _ _) hf
    refine lv_aload_n hx hb dX6_copy_43 rfl (lv_at hl 0 rfl) ?_
    refine lv_iconst (v := (1 : Int32)) hx hb dX6_copy_44 (by decide) ?_
    obtain ⟨r_16, σ_17, h_18, hf⟩ := obd2 hf
    refine xv_I (As := [.int (1 : Int32)]) (rest := []) S k_X6_fails q156 q157 q158 ⟨Nat.le_of_ble_eq_true rfl, Nat.le_of_ble_eq_true rfl⟩ ⟨rfl, rfl⟩ (c_X6_fails l D a c A hD (1 : Int32) σ r_16 σ_17 h_18) hK hP hS (va_recv hK.1 hP (rfl : vwCl[4]? = some (RX6, TX6, 27)) (mw0 a c σ)) rfl hl.1 rfl (Nat.le_of_ble_eq_true rfl) dX6_copy_45 ⟨Nat.zero_le _, Nat.zero_le _⟩ (fun H locs hP hS => ?_)
    exact hret _ _ _ _ _ _ dX6_copy_48 rfl hP hS (oret hf)
  have hf := oun (f_X6_copy.eq_1 _ _ _ _ _ _ _) hf
  refine lv_aload_n hx hb dX6_copy_0 rfl (lv_at hl 0 rfl) ?_
  refine lv_iconst (v := (0 : Int32)) hx hb dX6_copy_1 (by decide) ?_
  refine va_put (D := D) (ci := 4) (v := .int (0 : Int32)) (ty := .int) (C := RX6) (T := TX6) (N := 27) hx hb ht gX6 tyX6 tyX6_ok nmX6 hown hK.1 hP (hD σ) hS 0 (mw0 a c σ) rfl 0 (by decide) (ht _ q136) (fun _ h9 => h9) rfl (by decide +kernel) rfl rfl (Nat.le_of_ble_eq_true rfl) dX6_copy_2 (fun H locs hP _ hS => ?_)
  have hP := vP_eq (mpX6_fault a c σ (0 : Int32)) hP
  obtain ⟨σ_19, eσ_19, hf⟩ := onm hf
  rw [eσ_19] at hP
  refine lv_iload_n hx hb dX6_copy_5 rfl (lv_at hl 1 rfl) ?_
  obtain ⟨r_20, h_21, hf⟩ := obd hf
  refine xs_S (As := [.int x1]) (rest := []) S k_X6_isSheet q143 q144 ⟨Nat.le_of_ble_eq_true rfl, Nat.le_of_ble_eq_true rfl⟩ ⟨rfl, rfl⟩ (c_X6_isSheet l x1 r_20 h_21) hK.2 rfl hl.1 rfl (Nat.le_of_ble_eq_true rfl) dX6_copy_6 ⟨Nat.zero_le _, Nat.zero_le _⟩ ?_
  refine lv_if_eq (tgt := 19) hx hb dX6_copy_9 (by decide) (fun c_22 => ?_) (fun c_22 => ?_)
  · have hf := oit c_22 hf
    refine lv_iconst (v := (-1 : Int32)) hx hb dX6_copy_19 (by decide) ?_
    exact hret _ _ _ _ _ _ dX6_copy_20 rfl hP hS (oret hf)
  have hf := oif c_22 hf
  refine lv_iload_n hx hb dX6_copy_12 rfl (lv_at hl 3 rfl) ?_
  obtain ⟨r_23, h_24, hf⟩ := obd hf
  refine xs_S (As := [.int x3]) (rest := []) S k_X6_isSheet q143 q144 ⟨Nat.le_of_ble_eq_true rfl, Nat.le_of_ble_eq_true rfl⟩ ⟨rfl, rfl⟩ (c_X6_isSheet l x3 r_23 h_24) hK.2 rfl hl.1 rfl (Nat.le_of_ble_eq_true rfl) dX6_copy_13 ⟨Nat.zero_le _, Nat.zero_le _⟩ ?_
  refine lv_if_ne (tgt := 21) hx hb dX6_copy_16 (by decide) (fun c_25 => ?_) (fun c_25 => ?_)
  · have hf := oif c_25 hf
    refine lv_aload_n hx hb dX6_copy_21 rfl (lv_at hl 0 rfl) ?_
    refine va_get (D := D) (ci := 4) (v := .ref (a 1)) (C := RX6) (T := TX6) (N := 27) hx hb ht gX6 hown hK.1 hP 0 (mw0 a c σ_19) rfl 2 (by decide) (ht _ q50) (fun _ h9 => h9) rfl dX6_copy_22 ?_
    refine lv_iload_n hx hb dX6_copy_25 rfl (lv_at hl 1 rfl) ?_
    obtain ⟨g_26, hf⟩ := ogd hf
    refine va_iald hx hb hK.1 hP 1 0 (mw1 a c σ_19) rfl (ck_in g_26) dX6_copy_26 ?_
    refine lv_bipush (v := (-9 : Int32)) hx hb dX6_copy_27 (by decide) ?_
    refine lv_icmp_eq (tgt := 43) hx hb dX6_copy_29 (by decide) (fun c_27 => ?_) (fun c_27 => ?_)
    · have hf := oit c_27 hf
      exact j43 σ_19 _ _ _ (lv_sub hl [0] rfl) hP hS hf
    have hf := oif c_27 hf
    refine lv_aload_n hx hb dX6_copy_32 rfl (lv_at hl 0 rfl) ?_
    refine va_get (D := D) (ci := 4) (v := .ref (a 1)) (C := RX6) (T := TX6) (N := 27) hx hb ht gX6 hown hK.1 hP 0 (mw0 a c σ_19) rfl 2 (by decide) (ht _ q50) (fun _ h9 => h9) rfl dX6_copy_33 ?_
    refine lv_iload_n hx hb dX6_copy_36 rfl (lv_at hl 3 rfl) ?_
    obtain ⟨g_28, hf⟩ := ogd hf
    refine va_iald hx hb hK.1 hP 1 0 (mw1 a c σ_19) rfl (ck_in g_28) dX6_copy_37 ?_
    refine lv_bipush (v := (-9 : Int32)) hx hb dX6_copy_38 (by decide) ?_
    refine lv_icmp_ne (tgt := 49) hx hb dX6_copy_40 (by decide) (fun c_29 => ?_) (fun c_29 => ?_)
    · have hf := oif c_29 hf
      refine lv_aload_n hx hb dX6_copy_49 rfl (lv_at hl 0 rfl) ?_
      refine va_get (D := D) (ci := 4) (v := .ref (a 1)) (C := RX6) (T := TX6) (N := 27) hx hb ht gX6 hown hK.1 hP 0 (mw0 a c σ_19) rfl 2 (by decide) (ht _ q50) (fun _ h9 => h9) rfl dX6_copy_50 ?_
      refine lv_iload_n hx hb dX6_copy_53 rfl (lv_at hl 1 rfl) ?_
      obtain ⟨g_30, hf⟩ := ogd hf
      refine va_iald hx hb hK.1 hP 1 0 (mw1 a c σ_19) rfl (ck_in g_30) dX6_copy_54 ?_
      refine lv_aload_n hx hb dX6_copy_55 rfl (lv_at hl 0 rfl) ?_
      refine va_get (D := D) (ci := 4) (v := .ref (a 1)) (C := RX6) (T := TX6) (N := 27) hx hb ht gX6 hown hK.1 hP 0 (mw0 a c σ_19) rfl 2 (by decide) (ht _ q50) (fun _ h9 => h9) rfl dX6_copy_56 ?_
      refine lv_iload_n hx hb dX6_copy_59 rfl (lv_at hl 3 rfl) ?_
      obtain ⟨g_31, hf⟩ := ogd hf
      refine va_iald hx hb hK.1 hP 1 0 (mw1 a c σ_19) rfl (ck_in g_31) dX6_copy_60 ?_
      refine lv_icmp_eq (tgt := 70) hx hb dX6_copy_61 (by decide) (fun c_32 => ?_) (fun c_32 => ?_)
      · have hf := oit c_32 hf
        refine lv_iload_n hx hb dX6_copy_70 rfl (lv_at hl 2 rfl) ?_
        refine lv_if_lt (tgt := 109) hx hb dX6_copy_71 (by decide) (fun c_33 => ?_) (fun c_33 => ?_)
        · have hf := oit c_33 hf
          exact j109 x1 x2 x3 x4 x5 σ_19 _ _ _ (lv_sub hl [0, 1, 2, 3, 4, 5] rfl) hP hS hf
        have hf := oif c_33 hf
        refine lv_iload hx hb dX6_copy_74 (lv_at hl 4 rfl) ?_
        refine lv_if_lt (tgt := 109) hx hb dX6_copy_76 (by decide) (fun c_34 => ?_) (fun c_34 => ?_)
        · have hf := oit c_34 hf
          exact j109 x1 x2 x3 x4 x5 σ_19 _ _ _ (lv_sub hl [0, 1, 2, 3, 4, 5] rfl) hP hS hf
        have hf := oif c_34 hf
        refine lv_iload hx hb dX6_copy_79 (lv_at hl 5 rfl) ?_
        refine lv_if_lt (tgt := 109) hx hb dX6_copy_81 (by decide) (fun c_35 => ?_) (fun c_35 => ?_)
        · have hf := oit c_35 hf
          exact j109 x1 x2 x3 x4 x5 σ_19 _ _ _ (lv_sub hl [0, 1, 2, 3, 4, 5] rfl) hP hS hf
        have hf := oif c_35 hf
        refine lv_iload_n hx hb dX6_copy_84 rfl (lv_at hl 2 rfl) ?_
        refine lv_aload_n hx hb dX6_copy_85 rfl (lv_at hl 0 rfl) ?_
        refine va_get (D := D) (ci := 4) (v := .ref (a 2)) (C := RX6) (T := TX6) (N := 27) hx hb ht gX6 hown hK.1 hP 0 (mw0 a c σ_19) rfl 3 (by decide) (ht _ q51) (fun _ h9 => h9) rfl dX6_copy_86 ?_
        refine lv_iload_n hx hb dX6_copy_89 rfl (lv_at hl 1 rfl) ?_
        obtain ⟨g_36, hf⟩ := ogd hf
        refine va_iald hx hb hK.1 hP 2 0 (mw2 a c σ_19) rfl (ck_in g_36) dX6_copy_90 ?_
        refine lv_icmp_gt (tgt := 109) hx hb dX6_copy_91 (by decide) (fun c_37 => ?_) (fun c_37 => ?_)
        · have hf := oit c_37 hf
          exact j109 x1 x2 x3 x4 x5 σ_19 _ _ _ (lv_sub hl [0, 1, 2, 3, 4, 5] rfl) hP hS hf
        have hf := oif c_37 hf
        refine lv_iload hx hb dX6_copy_94 (lv_at hl 4 rfl) ?_
        refine lv_aload_n hx hb dX6_copy_96 rfl (lv_at hl 0 rfl) ?_
        refine va_get (D := D) (ci := 4) (v := .ref (a 2)) (C := RX6) (T := TX6) (N := 27) hx hb ht gX6 hown hK.1 hP 0 (mw0 a c σ_19) rfl 3 (by decide) (ht _ q51) (fun _ h9 => h9) rfl dX6_copy_97 ?_
        refine lv_iload_n hx hb dX6_copy_100 rfl (lv_at hl 3 rfl) ?_
        obtain ⟨g_38, hf⟩ := ogd hf
        refine va_iald hx hb hK.1 hP 2 0 (mw2 a c σ_19) rfl (ck_in g_38) dX6_copy_101 ?_
        refine lv_icmp_gt (tgt := 109) hx hb dX6_copy_102 (by decide) (fun c_39 => ?_) (fun c_39 => ?_)
        · have hf := oit c_39 hf
          exact j109 x1 x2 x3 x4 x5 σ_19 _ _ _ (lv_sub hl [0, 1, 2, 3, 4, 5] rfl) hP hS hf
        have hf := oif c_39 hf
        refine lv_iconst (v := (1 : Int32)) hx hb dX6_copy_105 (by decide) ?_
        refine lv_goto (tgt := 110) hx hb dX6_copy_106 (by decide) ?_
        exact j110 x1 x2 x3 x4 x5 (1 : Int32) σ_19 _ _ _ (lv_sub hl [0, 1, 2, 3, 4, 5] rfl) hP hS hf
      have hf := oif c_32 hf
      refine lv_aload_n hx hb dX6_copy_64 rfl (lv_at hl 0 rfl) ?_
      refine lv_iconst (v := (2 : Int32)) hx hb dX6_copy_65 (by decide) ?_
      obtain ⟨r_40, σ_41, h_42, hf⟩ := obd2 hf
      refine xv_I (As := [.int (2 : Int32)]) (rest := []) S k_X6_fails q156 q157 q158 ⟨Nat.le_of_ble_eq_true rfl, Nat.le_of_ble_eq_true rfl⟩ ⟨rfl, rfl⟩ (c_X6_fails l D a c A hD (2 : Int32) σ_19 r_40 σ_41 h_42) hK hP hS (va_recv hK.1 hP (rfl : vwCl[4]? = some (RX6, TX6, 27)) (mw0 a c σ_19)) rfl hl.1 rfl (Nat.le_of_ble_eq_true rfl) dX6_copy_66 ⟨Nat.zero_le _, Nat.zero_le _⟩ (fun H locs hP hS => ?_)
      exact hret _ _ _ _ _ _ dX6_copy_69 rfl hP hS (oret hf)
    have hf := oit c_29 hf
    exact j43 σ_19 _ _ _ (lv_sub hl [0] rfl) hP hS hf
  have hf := oit c_25 hf
  refine lv_iconst (v := (-1 : Int32)) hx hb dX6_copy_19 (by decide) ?_
  exact hret _ _ _ _ _ _ dX6_copy_20 rfl hP hS (oret hf)
