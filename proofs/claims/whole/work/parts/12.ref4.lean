theorem dX6_stands_0 : decode cX6_stands 0 = .ok (.iload_n 1, 1) := by decide +kernel
theorem dX6_stands_1 : decode cX6_stands 1 = .ok (.iconst 0, 1) := by decide +kernel
theorem dX6_stands_2 : decode cX6_stands 2 = .ok (.iconst 3, 1) := by decide +kernel
theorem dX6_stands_3 : decode cX6_stands 3 = .ok (.invokestatic 71, 3) := by decide +kernel
theorem dX6_stands_6 : decode cX6_stands 6 = .ok (.ifCond .ne 6, 3) := by decide +kernel
theorem dX6_stands_9 : decode cX6_stands 9 = .ok (.bipush (-2), 2) := by decide +kernel
theorem dX6_stands_11 : decode cX6_stands 11 = .ok (.ireturn, 1) := by decide +kernel
theorem dX6_stands_12 : decode cX6_stands 12 = .ok (.aload_n 0, 1) := by decide +kernel
theorem dX6_stands_13 : decode cX6_stands 13 = .ok (.getfield 75, 3) := by decide +kernel
theorem dX6_stands_16 : decode cX6_stands 16 = .ok (.ifCond .ne 6, 3) := by decide +kernel
theorem dX6_stands_19 : decode cX6_stands 19 = .ok (.bipush (-3), 2) := by decide +kernel
theorem dX6_stands_21 : decode cX6_stands 21 = .ok (.ireturn, 1) := by decide +kernel
theorem dX6_stands_22 : decode cX6_stands 22 = .ok (.aload_n 0, 1) := by decide +kernel
theorem dX6_stands_23 : decode cX6_stands 23 = .ok (.invokevirtual 179, 3) := by decide +kernel
theorem dX6_stands_26 : decode cX6_stands 26 = .ok (.aload_n 0, 1) := by decide +kernel
theorem dX6_stands_27 : decode cX6_stands 27 = .ok (.invokevirtual 157, 3) := by decide +kernel
theorem dX6_stands_30 : decode cX6_stands 30 = .ok (.istore_n 2, 1) := by decide +kernel
theorem dX6_stands_31 : decode cX6_stands 31 = .ok (.iconst 0, 1) := by decide +kernel
theorem dX6_stands_32 : decode cX6_stands 32 = .ok (.istore_n 3, 1) := by decide +kernel
theorem dX6_stands_33 : decode cX6_stands 33 = .ok (.iconst 0, 1) := by decide +kernel
theorem dX6_stands_34 : decode cX6_stands 34 = .ok (.istore 4, 2) := by decide +kernel
theorem dX6_stands_36 : decode cX6_stands 36 = .ok (.iload 4, 2) := by decide +kernel
theorem dX6_stands_38 : decode cX6_stands 38 = .ok (.aload_n 0, 1) := by decide +kernel
theorem dX6_stands_39 : decode cX6_stands 39 = .ok (.getfield 173, 3) := by decide +kernel
theorem dX6_stands_42 : decode cX6_stands 42 = .ok (.if_icmp .ge 89, 3) := by decide +kernel
theorem dX6_stands_45 : decode cX6_stands 45 = .ok (.aload_n 0, 1) := by decide +kernel
theorem dX6_stands_46 : decode cX6_stands 46 = .ok (.aload_n 0, 1) := by decide +kernel
theorem dX6_stands_47 : decode cX6_stands 47 = .ok (.getfield 37, 3) := by decide +kernel
theorem dX6_stands_50 : decode cX6_stands 50 = .ok (.iload 4, 2) := by decide +kernel
theorem dX6_stands_52 : decode cX6_stands 52 = .ok (.iaload, 1) := by decide +kernel
theorem dX6_stands_53 : decode cX6_stands 53 = .ok (.invokevirtual 167, 3) := by decide +kernel
theorem dX6_stands_56 : decode cX6_stands 56 = .ok (.iload_n 1, 1) := by decide +kernel
theorem dX6_stands_57 : decode cX6_stands 57 = .ok (.ifCond .eq 48, 3) := by decide +kernel
theorem dX6_stands_60 : decode cX6_stands 60 = .ok (.iload_n 1, 1) := by decide +kernel
theorem dX6_stands_61 : decode cX6_stands 61 = .ok (.iconst 1, 1) := by decide +kernel
theorem dX6_stands_62 : decode cX6_stands 62 = .ok (.if_icmp .ne 10, 3) := by decide +kernel
theorem dX6_stands_65 : decode cX6_stands 65 = .ok (.aload_n 0, 1) := by decide +kernel
theorem dX6_stands_66 : decode cX6_stands 66 = .ok (.getfield 105, 3) := by decide +kernel
theorem dX6_stands_69 : decode cX6_stands 69 = .ok (.ifCond .eq 36, 3) := by decide +kernel
theorem dX6_stands_72 : decode cX6_stands 72 = .ok (.iload_n 1, 1) := by decide +kernel
theorem dX6_stands_73 : decode cX6_stands 73 = .ok (.iconst 2, 1) := by decide +kernel
theorem dX6_stands_74 : decode cX6_stands 74 = .ok (.if_icmp .ne 11, 3) := by decide +kernel
theorem dX6_stands_77 : decode cX6_stands 77 = .ok (.aload_n 0, 1) := by decide +kernel
theorem dX6_stands_78 : decode cX6_stands 78 = .ok (.invokevirtual 153, 3) := by decide +kernel
theorem dX6_stands_81 : decode cX6_stands 81 = .ok (.iconst 1, 1) := by decide +kernel
theorem dX6_stands_82 : decode cX6_stands 82 = .ok (.if_icmp .eq 23, 3) := by decide +kernel
theorem dX6_stands_85 : decode cX6_stands 85 = .ok (.iload_n 1, 1) := by decide +kernel
theorem dX6_stands_86 : decode cX6_stands 86 = .ok (.iconst 3, 1) := by decide +kernel
theorem dX6_stands_87 : decode cX6_stands 87 = .ok (.if_icmp .ne 22, 3) := by decide +kernel
theorem dX6_stands_90 : decode cX6_stands 90 = .ok (.aload_n 0, 1) := by decide +kernel
theorem dX6_stands_91 : decode cX6_stands 91 = .ok (.invokevirtual 170, 3) := by decide +kernel
theorem dX6_stands_94 : decode cX6_stands 94 = .ok (.iconst 1, 1) := by decide +kernel
theorem dX6_stands_95 : decode cX6_stands 95 = .ok (.aload_n 0, 1) := by decide +kernel
theorem dX6_stands_96 : decode cX6_stands 96 = .ok (.getfield 75, 3) := by decide +kernel
theorem dX6_stands_99 : decode cX6_stands 99 = .ok (.ishl, 1) := by decide +kernel
theorem dX6_stands_100 : decode cX6_stands 100 = .ok (.iconst 1, 1) := by decide +kernel
theorem dX6_stands_101 : decode cX6_stands 101 = .ok (.isub, 1) := by decide +kernel
theorem dX6_stands_102 : decode cX6_stands 102 = .ok (.if_icmp .ne 7, 3) := by decide +kernel
theorem dX6_stands_105 : decode cX6_stands 105 = .ok (.iconst 1, 1) := by decide +kernel
theorem dX6_stands_106 : decode cX6_stands 106 = .ok (.goto 4, 3) := by decide +kernel
theorem dX6_stands_109 : decode cX6_stands 109 = .ok (.iconst 0, 1) := by decide +kernel
theorem dX6_stands_110 : decode cX6_stands 110 = .ok (.istore 5, 2) := by decide +kernel
theorem dX6_stands_112 : decode cX6_stands 112 = .ok (.iload_n 3, 1) := by decide +kernel
theorem dX6_stands_113 : decode cX6_stands 113 = .ok (.iload 5, 2) := by decide +kernel
theorem dX6_stands_115 : decode cX6_stands 115 = .ok (.ifCond .eq 7, 3) := by decide +kernel
theorem dX6_stands_118 : decode cX6_stands 118 = .ok (.iconst 1, 1) := by decide +kernel
theorem dX6_stands_119 : decode cX6_stands 119 = .ok (.goto 4, 3) := by decide +kernel
theorem dX6_stands_122 : decode cX6_stands 122 = .ok (.iconst 0, 1) := by decide +kernel
theorem dX6_stands_123 : decode cX6_stands 123 = .ok (.iadd, 1) := by decide +kernel
theorem dX6_stands_124 : decode cX6_stands 124 = .ok (.istore_n 3, 1) := by decide +kernel
theorem dX6_stands_125 : decode cX6_stands 125 = .ok (.iinc 4 1, 3) := by decide +kernel
theorem dX6_stands_128 : decode cX6_stands 128 = .ok (.goto (-92), 3) := by decide +kernel
theorem dX6_stands_131 : decode cX6_stands 131 = .ok (.aload_n 0, 1) := by decide +kernel
theorem dX6_stands_132 : decode cX6_stands 132 = .ok (.iload_n 2, 1) := by decide +kernel
theorem dX6_stands_133 : decode cX6_stands 133 = .ok (.invokevirtual 167, 3) := by decide +kernel
theorem dX6_stands_136 : decode cX6_stands 136 = .ok (.iload_n 3, 1) := by decide +kernel
theorem dX6_stands_137 : decode cX6_stands 137 = .ok (.ireturn, 1) := by decide +kernel
def f_X6_stands_j131 (N : Nat) (x2 : Int32) (x3 : Int32) (σ : St) : Option (Int32 × St) :=
  bd (f_X6_becomeNest N x2 σ) fun σ_1 =>
  some (x3, σ_1)
def f_X6_stands_j123 (N : Nat) (x1 : Int32) (x2 : Int32) (x4 : Int32) (y0 : Int32) (y1 : Int32) (σ : St) : Option ((Int32 × Int32 × St) ⊕ ((Int32 × St))) :=
  nm (y0 + y1) fun x3_3 =>
  nm (x4 + (1 : Int32)) fun x4_4 =>
  some (.inl (x3_3, x4_4, σ))
def f_X6_stands_j110 (N : Nat) (x1 : Int32) (x2 : Int32) (x3 : Int32) (x4 : Int32) (y0 : Int32) (σ : St) : Option ((Int32 × Int32 × St) ⊕ ((Int32 × St))) :=
  if y0 = 0 then (f_X6_stands_j123 N x1 x2 x4 x3 (0 : Int32) σ)
  else f_X6_stands_j123 N x1 x2 x4 x3 (1 : Int32) σ
def f_X6_stands_j109 (N : Nat) (x1 : Int32) (x2 : Int32) (x3 : Int32) (x4 : Int32) (σ : St) : Option ((Int32 × Int32 × St) ⊕ ((Int32 × St))) :=
  f_X6_stands_j110 N x1 x2 x3 x4 (0 : Int32) σ
def f_X6_stands_j105 (N : Nat) (x1 : Int32) (x2 : Int32) (x3 : Int32) (x4 : Int32) (σ : St) : Option ((Int32 × Int32 × St) ⊕ ((Int32 × St))) :=
  f_X6_stands_j110 N x1 x2 x3 x4 (1 : Int32) σ
def f_X6_stands_j85 (N : Nat) (x1 : Int32) (x2 : Int32) (x3 : Int32) (x4 : Int32) (σ : St) : Option ((Int32 × Int32 × St) ⊕ ((Int32 × St))) :=
  if x1 = (3 : Int32) then (bd (f_X6_handSet N σ) fun r_7 =>
    if r_7 = (((1 : Int32) <<< ((σ.1 0 2) &&& 31)) - (1 : Int32)) then (f_X6_stands_j105 N x1 x2 x3 x4 σ)
    else f_X6_stands_j109 N x1 x2 x3 x4 σ)
  else f_X6_stands_j109 N x1 x2 x3 x4 σ
def f_X6_stands_j72 (N : Nat) (x1 : Int32) (x2 : Int32) (x3 : Int32) (x4 : Int32) (σ : St) : Option ((Int32 × Int32 × St) ⊕ ((Int32 × St))) :=
  if x1 = (2 : Int32) then (bd (f_X6_onTable N σ) fun r_11 =>
    if r_11 = (1 : Int32) then (f_X6_stands_j105 N x1 x2 x3 x4 σ)
    else f_X6_stands_j85 N x1 x2 x3 x4 σ)
  else f_X6_stands_j85 N x1 x2 x3 x4 σ
def f_X6_stands_b36 (N : Nat) (x1 : Int32) (x2 : Int32) (x3 : Int32) (x4 : Int32) (σ : St) : Option ((Int32 × Int32 × St) ⊕ ((Int32 × St))) :=
  if (σ.1 0 7) ≤ x4 then (some (.inr (x3, σ)))
  else gd (ck x4 1200) <|
  bd (f_X6_becomeNest N (σ.1 10 x4.toNatClampNeg) σ) fun σ_16 =>
  if x1 = 0 then (f_X6_stands_j105 N x1 x2 x3 x4 σ_16)
  else if x1 = (1 : Int32) then (if (σ_16.1 0 4) = 0 then (f_X6_stands_j105 N x1 x2 x3 x4 σ_16)
    else f_X6_stands_j72 N x1 x2 x3 x4 σ_16)
  else f_X6_stands_j72 N x1 x2 x3 x4 σ_16
def f_X6_stands (N : Nat) (x1 : Int32) (σ : St) : Option (Int32 × St) :=
  bd (f_X6_within x1 (0 : Int32) (3 : Int32)) fun r_21 =>
  if r_21 = 0 then (some ((-2 : Int32), σ))
  else if (σ.1 0 2) = 0 then (some ((-3 : Int32), σ))
    else bd (f_X6_findNests N σ) fun σ_25 =>
      bd (f_X6_nestNow N σ_25) fun r_27 =>
      bd (lpF (fun s => f_X6_stands_b36 N x1 r_27 s.1 s.2.1 s.2.2) N ((0 : Int32), (0 : Int32), σ_25)) (fun o => f_X6_stands_j131 N r_27 o.1 o.2)
abbrev rmX6_stands : Room := { frames := 4, cells := 0, slots := 0, locals := 91 }
set_option maxRecDepth 100000 in
set_option maxHeartbeats 4000000 in
theorem c_X6_stands (l : Launch) (D : va_G) (a : Nat → Nat) (c : Nat → ClassId) (A : Nat → Prop) (hD : ∀ σ, va_D A (mW a c σ)) (N : Nat) (x1 : Int32) (σ : St) (r : Int32) (u : St) (hf : f_X6_stands N x1 σ = some (r, u)) : MetI l yX6_stands cX6_stands 6 (some .int) rmX6_stands (mW a c) D c A [.ref (a 0), .int x1] σ r u := by
  refine mkI (by decide) (Nat.le_of_ble_eq_true rfl) rfl ?_
  intro p e s m args below meth cd Q ls h0 hK hP hret hl
  obtain ⟨S, hr, hlk⟩ := h0
  obtain ⟨hx, hb, hml, hown, ht⟩ := id S
  have hS : va_S A s.heap s.heap [] := va_S.rf
  have hl : lv_has ls 6 [(0, .ref (a 0)), (1, .int x1)] := hl
  have hf := obs hf
  have j131 : ∀ (x2 : Int32) (x3 : Int32) (σ : St) (H : Heap) (locs : List Loc) (ls : Array Slot), lv_has ls 6 [(0, .ref (a 0)), (2, .int x2), (3, .int x3)] → va_P D vwCl (mW a c σ) H → va_S A s.heap H locs → Option.bind (f_X6_stands_j131 N x2 x3 σ) some = some (r, u) → W p l e rmX6_stands s m args below meth cd H locs 0 0 Q (F0 m 131 ls []) := by
    intro x2 x3 σ H locs ls hl hP hS hf
    have hf := oun (f_X6_stands_j131.eq_1 _ _ _ _) hf
    refine lv_aload_n hx hb dX6_stands_131 rfl (lv_at hl 0 rfl) ?_
    refine lv_iload_n hx hb dX6_stands_132 rfl (lv_at hl 1 rfl) ?_
    obtain ⟨σ_1, h_2, hf⟩ := obd hf
    refine xv_V (As := [.int x2]) (rest := []) S k_X6_becomeNest q419 q420 q421 ⟨Nat.le_of_ble_eq_true rfl, Nat.le_of_ble_eq_true rfl⟩ ⟨rfl, rfl⟩ (c_X6_becomeNest l D a c A hD N x2 σ σ_1 h_2) hK hP hS (va_recv hK.1 hP (rfl : vwCl[4]? = some (RX6, TX6, 27)) (mw0 a c σ)) rfl hl.1 rfl (Nat.le_of_ble_eq_true rfl) dX6_stands_133 ⟨Nat.zero_le _, Nat.zero_le _⟩ (fun H locs hP hS => ?_)
    refine lv_iload_n hx hb dX6_stands_136 rfl (lv_at hl 2 rfl) ?_
    exact hret _ _ _ _ _ _ dX6_stands_137 rfl hP hS (oret hf)
  have L36 : ∀ (x1 : Int32) (x2 : Int32) (k : Nat) (x3 : Int32) (x4 : Int32) (σ : St) (H : Heap) (locs : List Loc) (ls : Array Slot), lv_has ls 6 [(0, .ref (a 0)), (1, .int x1), (2, .int x2), (3, .int x3), (4, .int x4)] → va_P D vwCl (mW a c σ) H → va_S A s.heap H locs → Option.bind (bd (lpF (fun s => f_X6_stands_b36 N x1 x2 s.1 s.2.1 s.2.2) k (x3, x4, σ)) (fun o => f_X6_stands_j131 N x2 o.1 o.2)) some = some (r, u) → W p l e rmX6_stands s m args below meth cd H locs 0 0 Q (F0 m 36 ls []) := by
    intro x1 x2 k
    induction k with
    | zero =>
      intro x3 x4 σ H locs ls hl hP hS hf
      exact (ol0 hf).elim
    | succ k ih =>
      intro x3 x4 σ H locs ls hl hP hS hf
      obtain ⟨K36, hf, hc36, hx36⟩ := ol1 hf
      have j123 : ∀ (x4 : Int32) (y0 : Int32) (y1 : Int32) (σ : St) (H : Heap) (locs : List Loc) (ls : Array Slot), lv_has ls 6 [(0, .ref (a 0)), (1, .int x1), (2, .int x2), (4, .int x4)] → va_P D vwCl (mW a c σ) H → va_S A s.heap H locs → Option.bind (f_X6_stands_j123 N x1 x2 x4 y0 y1 σ) K36 = some (r, u) → W p l e rmX6_stands s m args below meth cd H locs 0 0 Q (F0 m 123 ls [.int y1, .int y0]) := by
        intro x4 y0 y1 σ H locs ls hl hP hS hf
        have hf := oun (f_X6_stands_j123.eq_1 _ _ _ _ _ _ _) hf
        refine lv_iadd hx hb dX6_stands_123 ?_
        obtain ⟨x3_3, ex3_3, hf⟩ := onm hf
        refine lv_nm ex3_3 ?_
        refine lv_istore_n (lv' := [(3, .int x3_3), (0, .ref (a 0)), (1, .int x1), (2, .int x2), (4, .int x4)]) hx hb dX6_stands_124 rfl hl (by decide) rfl (fun ls hl => ?_)
        obtain ⟨x4_4, ex4_4, hf⟩ := onm hf
        refine lv_iinc (v := x4_4) (lv' := [(4, .int x4_4), (3, .int x3_3), (0, .ref (a 0)), (1, .int x1), (2, .int x2)]) hx hb dX6_stands_125 hl (k := 4) rfl ex4_4 (by decide) rfl (fun ls hl => ?_)
        refine lv_goto (tgt := 36) hx hb dX6_stands_128 (by decide) ?_
        exact ih x3_3 x4_4 σ _ _ _ (lv_sub hl [2, 3, 4, 1, 0] rfl) hP hS (okx hf (hc36 _))
      have j110 : ∀ (x3 : Int32) (x4 : Int32) (y0 : Int32) (σ : St) (H : Heap) (locs : List Loc) (ls : Array Slot), lv_has ls 6 [(0, .ref (a 0)), (1, .int x1), (2, .int x2), (3, .int x3), (4, .int x4)] → va_P D vwCl (mW a c σ) H → va_S A s.heap H locs → Option.bind (f_X6_stands_j110 N x1 x2 x3 x4 y0 σ) K36 = some (r, u) → W p l e rmX6_stands s m args below meth cd H locs 0 0 Q (F0 m 110 ls [.int y0]) := by
        intro x3 x4 y0 σ H locs ls hl hP hS hf
        have hf := oun (f_X6_stands_j110.eq_1 _ _ _ _ _ _ _) hf
        refine lv_istore (lv' := [(5, .int y0), (0, .ref (a 0)), (1, .int x1), (2, .int x2), (3, .int x3), (4, .int x4)]) hx hb dX6_stands_110 hl (by decide) rfl (fun ls hl => ?_)
        refine lv_iload_n hx hb dX6_stands_112 rfl (lv_at hl 4 rfl) ?_
        refine lv_iload hx hb dX6_stands_113 (lv_at hl 0 rfl) ?_
        refine lv_if_eq (tgt := 122) hx hb dX6_stands_115 (by decide) (fun c_5 => ?_) (fun c_5 => ?_)
        · have hf := oit c_5 hf
          refine lv_iconst (v := (0 : Int32)) hx hb dX6_stands_122 (by decide) ?_
          exact j123 x4 x3 (0 : Int32) σ _ _ _ (lv_sub hl [1, 2, 3, 5] rfl) hP hS hf
        have hf := oif c_5 hf
        refine lv_iconst (v := (1 : Int32)) hx hb dX6_stands_118 (by decide) ?_
        refine lv_goto (tgt := 123) hx hb dX6_stands_119 (by decide) ?_
        exact j123 x4 x3 (1 : Int32) σ _ _ _ (lv_sub hl [1, 2, 3, 5] rfl) hP hS hf
      have j109 : ∀ (x3 : Int32) (x4 : Int32) (σ : St) (H : Heap) (locs : List Loc) (ls : Array Slot), lv_has ls 6 [(0, .ref (a 0)), (1, .int x1), (2, .int x2), (3, .int x3), (4, .int x4)] → va_P D vwCl (mW a c σ) H → va_S A s.heap H locs → Option.bind (f_X6_stands_j109 N x1 x2 x3 x4 σ) K36 = some (r, u) → W p l e rmX6_stands s m args below meth cd H locs 0 0 Q (F0 m 109 ls []) := by
        intro x3 x4 σ H locs ls hl hP hS hf
        have hf := oun (f_X6_stands_j109.eq_1 _ _ _ _ _ _) hf
        refine lv_iconst (v := (0 : Int32)) hx hb dX6_stands_109 (by decide) ?_
        exact j110 x3 x4 (0 : Int32) σ _ _ _ (lv_sub hl [0, 1, 2, 3, 4] rfl) hP hS hf
      have j105 : ∀ (x3 : Int32) (x4 : Int32) (σ : St) (H : Heap) (locs : List Loc) (ls : Array Slot), lv_has ls 6 [(0, .ref (a 0)), (1, .int x1), (2, .int x2), (3, .int x3), (4, .int x4)] → va_P D vwCl (mW a c σ) H → va_S A s.heap H locs → Option.bind (f_X6_stands_j105 N x1 x2 x3 x4 σ) K36 = some (r, u) → W p l e rmX6_stands s m args below meth cd H locs 0 0 Q (F0 m 105 ls []) := by
        intro x3 x4 σ H locs ls hl hP hS hf
        have hf := oun (f_X6_stands_j105.eq_1 _ _ _ _ _ _) hf
        refine lv_iconst (v := (1 : Int32)) hx hb dX6_stands_105 (by decide) ?_
        refine lv_goto (tgt := 110) hx hb dX6_stands_106 (by decide) ?_
        exact j110 x3 x4 (1 : Int32) σ _ _ _ (lv_sub hl [0, 1, 2, 3, 4] rfl) hP hS hf
      have j85 : ∀ (x3 : Int32) (x4 : Int32) (σ : St) (H : Heap) (locs : List Loc) (ls : Array Slot), lv_has ls 6 [(0, .ref (a 0)), (1, .int x1), (2, .int x2), (3, .int x3), (4, .int x4)] → va_P D vwCl (mW a c σ) H → va_S A s.heap H locs → Option.bind (f_X6_stands_j85 N x1 x2 x3 x4 σ) K36 = some (r, u) → W p l e rmX6_stands s m args below meth cd H locs 0 0 Q (F0 m 85 ls []) := by
        intro x3 x4 σ H locs ls hl hP hS hf
        have hf := oun (f_X6_stands_j85.eq_1 _ _ _ _ _ _) hf
        refine lv_iload_n hx hb dX6_stands_85 rfl (lv_at hl 1 rfl) ?_
        refine lv_iconst (v := (3 : Int32)) hx hb dX6_stands_86 (by decide) ?_
        refine lv_icmp_ne (tgt := 109) hx hb dX6_stands_87 (by decide) (fun c_6 => ?_) (fun c_6 => ?_)
        · have hf := oif c_6 hf
          exact j109 x3 x4 σ _ _ _ (lv_sub hl [0, 1, 2, 3, 4] rfl) hP hS hf
        have hf := oit c_6 hf
        refine lv_aload_n hx hb dX6_stands_90 rfl (lv_at hl 0 rfl) ?_
        obtain ⟨r_7, h_8, hf⟩ := obd hf
        refine xv_I (As := []) (rest := []) S k_X6_handSet q415 q416 q417 ⟨Nat.le_of_ble_eq_true rfl, Nat.le_of_ble_eq_true rfl⟩ ⟨rfl, rfl⟩ (c_X6_handSet l D a c A hD N σ r_7 h_8) hK hP hS (va_recv hK.1 hP (rfl : vwCl[4]? = some (RX6, TX6, 27)) (mw0 a c σ)) rfl hl.1 rfl (Nat.le_of_ble_eq_true rfl) dX6_stands_91 ⟨Nat.zero_le _, Nat.zero_le _⟩ (fun H locs hP hS => ?_)
        refine lv_iconst (v := (1 : Int32)) hx hb dX6_stands_94 (by decide) ?_
        refine lv_aload_n hx hb dX6_stands_95 rfl (lv_at hl 0 rfl) ?_
        refine va_get (D := D) (ci := 4) (v := .int (σ.1 0 2)) (C := RX6) (T := TX6) (N := 27) hx hb ht gX6 hown hK.1 hP 0 (mw0 a c σ) rfl 5 (by decide) (ht _ q139) (fun _ h9 => h9) rfl dX6_stands_96 ?_
        refine lv_ishl hx hb dX6_stands_99 ?_
        refine lv_iconst (v := (1 : Int32)) hx hb dX6_stands_100 (by decide) ?_
        refine lv_isub hx hb dX6_stands_101 ?_
        refine lv_icmp_ne (tgt := 109) hx hb dX6_stands_102 (by decide) (fun c_9 => ?_) (fun c_9 => ?_)
        · have hf := oif c_9 hf
          exact j109 x3 x4 σ _ _ _ (lv_sub hl [0, 1, 2, 3, 4] rfl) hP hS hf
        have hf := oit c_9 hf
        exact j105 x3 x4 σ _ _ _ (lv_sub hl [0, 1, 2, 3, 4] rfl) hP hS hf
      have j72 : ∀ (x3 : Int32) (x4 : Int32) (σ : St) (H : Heap) (locs : List Loc) (ls : Array Slot), lv_has ls 6 [(0, .ref (a 0)), (1, .int x1), (2, .int x2), (3, .int x3), (4, .int x4)] → va_P D vwCl (mW a c σ) H → va_S A s.heap H locs → Option.bind (f_X6_stands_j72 N x1 x2 x3 x4 σ) K36 = some (r, u) → W p l e rmX6_stands s m args below meth cd H locs 0 0 Q (F0 m 72 ls []) := by
        intro x3 x4 σ H locs ls hl hP hS hf
        have hf := oun (f_X6_stands_j72.eq_1 _ _ _ _ _ _) hf
        refine lv_iload_n hx hb dX6_stands_72 rfl (lv_at hl 1 rfl) ?_
        refine lv_iconst (v := (2 : Int32)) hx hb dX6_stands_73 (by decide) ?_
        refine lv_icmp_ne (tgt := 85) hx hb dX6_stands_74 (by decide) (fun c_10 => ?_) (fun c_10 => ?_)
        · have hf := oif c_10 hf
          exact j85 x3 x4 σ _ _ _ (lv_sub hl [0, 1, 2, 3, 4] rfl) hP hS hf
        have hf := oit c_10 hf
        refine lv_aload_n hx hb dX6_stands_77 rfl (lv_at hl 0 rfl) ?_
        obtain ⟨r_11, h_12, hf⟩ := obd hf
        refine xv_I (As := []) (rest := []) S k_X6_onTable q346 q347 q348 ⟨Nat.le_of_ble_eq_true rfl, Nat.le_of_ble_eq_true rfl⟩ ⟨rfl, rfl⟩ (c_X6_onTable l D a c A hD N σ r_11 h_12) hK hP hS (va_recv hK.1 hP (rfl : vwCl[4]? = some (RX6, TX6, 27)) (mw0 a c σ)) rfl hl.1 rfl (Nat.le_of_ble_eq_true rfl) dX6_stands_78 ⟨Nat.zero_le _, Nat.zero_le _⟩ (fun H locs hP hS => ?_)
        refine lv_iconst (v := (1 : Int32)) hx hb dX6_stands_81 (by decide) ?_
        refine lv_icmp_eq (tgt := 105) hx hb dX6_stands_82 (by decide) (fun c_13 => ?_) (fun c_13 => ?_)
        · have hf := oit c_13 hf
          exact j105 x3 x4 σ _ _ _ (lv_sub hl [0, 1, 2, 3, 4] rfl) hP hS hf
        have hf := oif c_13 hf
        exact j85 x3 x4 σ _ _ _ (lv_sub hl [0, 1, 2, 3, 4] rfl) hP hS hf
      have hf := oun (f_X6_stands_b36.eq_1 N x1 x2 x3 x4 σ) hf
      refine lv_iload hx hb dX6_stands_36 (lv_at hl 4 rfl) ?_
      refine lv_aload_n hx hb dX6_stands_38 rfl (lv_at hl 0 rfl) ?_
      refine va_get (D := D) (ci := 4) (v := .int (σ.1 0 7)) (C := RX6) (T := TX6) (N := 27) hx hb ht gX6 hown hK.1 hP 0 (mw0 a c σ) rfl 19 (by decide) (ht _ q474) (fun _ h9 => h9) rfl dX6_stands_39 ?_
      refine lv_icmp_ge (tgt := 131) hx hb dX6_stands_42 (by decide) (fun c_14 => ?_) (fun c_14 => ?_)
      · have hf := oit c_14 hf
        exact j131 x2 x3 σ _ _ _ (lv_sub hl [0, 2, 3] rfl) hP hS (okx hf (hx36 _))
      have hf := oif c_14 hf
      refine lv_aload_n hx hb dX6_stands_45 rfl (lv_at hl 0 rfl) ?_
      refine lv_aload_n hx hb dX6_stands_46 rfl (lv_at hl 0 rfl) ?_
      refine va_get (D := D) (ci := 4) (v := .ref (a 10)) (C := RX6) (T := TX6) (N := 27) hx hb ht gX6 hown hK.1 hP 0 (mw0 a c σ) rfl 16 (by decide) (ht _ q59) (fun _ h9 => h9) rfl dX6_stands_47 ?_
      refine lv_iload hx hb dX6_stands_50 (lv_at hl 4 rfl) ?_
      obtain ⟨g_15, hf⟩ := ogd hf
      refine va_iald hx hb hK.1 hP 10 0 (mw10 a c σ) rfl (ck_in g_15) dX6_stands_52 ?_
      obtain ⟨σ_16, h_17, hf⟩ := obd hf
      refine xv_V (As := [.int (σ.1 10 x4.toNatClampNeg)]) (rest := []) S k_X6_becomeNest q419 q420 q421 ⟨Nat.le_of_ble_eq_true rfl, Nat.le_of_ble_eq_true rfl⟩ ⟨rfl, rfl⟩ (c_X6_becomeNest l D a c A hD N (σ.1 10 x4.toNatClampNeg) σ σ_16 h_17) hK hP hS (va_recv hK.1 hP (rfl : vwCl[4]? = some (RX6, TX6, 27)) (mw0 a c σ)) rfl hl.1 rfl (Nat.le_of_ble_eq_true rfl) dX6_stands_53 ⟨Nat.zero_le _, Nat.zero_le _⟩ (fun H locs hP hS => ?_)
      refine lv_iload_n hx hb dX6_stands_56 rfl (lv_at hl 1 rfl) ?_
      refine lv_if_eq (tgt := 105) hx hb dX6_stands_57 (by decide) (fun c_18 => ?_) (fun c_18 => ?_)
      · have hf := oit c_18 hf
        exact j105 x3 x4 σ_16 _ _ _ (lv_sub hl [0, 1, 2, 3, 4] rfl) hP hS hf
      have hf := oif c_18 hf
      refine lv_iload_n hx hb dX6_stands_60 rfl (lv_at hl 1 rfl) ?_
      refine lv_iconst (v := (1 : Int32)) hx hb dX6_stands_61 (by decide) ?_
      refine lv_icmp_ne (tgt := 72) hx hb dX6_stands_62 (by decide) (fun c_19 => ?_) (fun c_19 => ?_)
      · have hf := oif c_19 hf
        exact j72 x3 x4 σ_16 _ _ _ (lv_sub hl [0, 1, 2, 3, 4] rfl) hP hS hf
      have hf := oit c_19 hf
      refine lv_aload_n hx hb dX6_stands_65 rfl (lv_at hl 0 rfl) ?_
      refine va_get (D := D) (ci := 4) (v := .int (σ_16.1 0 4)) (C := RX6) (T := TX6) (N := 27) hx hb ht gX6 hown hK.1 hP 0 (mw0 a c σ_16) rfl 11 (by decide) (ht _ q140) (fun _ h9 => h9) rfl dX6_stands_66 ?_
      refine lv_if_eq (tgt := 105) hx hb dX6_stands_69 (by decide) (fun c_20 => ?_) (fun c_20 => ?_)
      · have hf := oit c_20 hf
        exact j105 x3 x4 σ_16 _ _ _ (lv_sub hl [0, 1, 2, 3, 4] rfl) hP hS hf
      have hf := oif c_20 hf
      exact j72 x3 x4 σ_16 _ _ _ (lv_sub hl [0, 1, 2, 3, 4] rfl) hP hS hf
  have hf := oun (f_X6_stands.eq_1 _ _ _) hf
  refine lv_iload_n hx hb dX6_stands_0 rfl (lv_at hl 1 rfl) ?_
  refine lv_iconst (v := (0 : Int32)) hx hb dX6_stands_1 (by decide) ?_
  refine lv_iconst (v := (3 : Int32)) hx hb dX6_stands_2 (by decide) ?_
  obtain ⟨r_21, h_22, hf⟩ := obd hf
  refine xs_S (As := [.int x1, .int (0 : Int32), .int (3 : Int32)]) (rest := []) S k_X6_within q146 q147 ⟨Nat.le_of_ble_eq_true rfl, Nat.le_of_ble_eq_true rfl⟩ ⟨rfl, rfl⟩ (c_X6_within l x1 (0 : Int32) (3 : Int32) r_21 h_22) hK.2 rfl hl.1 rfl (Nat.le_of_ble_eq_true rfl) dX6_stands_3 ⟨Nat.zero_le _, Nat.zero_le _⟩ ?_
  refine lv_if_ne (tgt := 12) hx hb dX6_stands_6 (by decide) (fun c_23 => ?_) (fun c_23 => ?_)
  · have hf := oif c_23 hf
    refine lv_aload_n hx hb dX6_stands_12 rfl (lv_at hl 0 rfl) ?_
    refine va_get (D := D) (ci := 4) (v := .int (σ.1 0 2)) (C := RX6) (T := TX6) (N := 27) hx hb ht gX6 hown hK.1 hP 0 (mw0 a c σ) rfl 5 (by decide) (ht _ q139) (fun _ h9 => h9) rfl dX6_stands_13 ?_
    refine lv_if_ne (tgt := 22) hx hb dX6_stands_16 (by decide) (fun c_24 => ?_) (fun c_24 => ?_)
    · have hf := oif c_24 hf
      refine lv_aload_n hx hb dX6_stands_22 rfl (lv_at hl 0 rfl) ?_
      obtain ⟨σ_25, h_26, hf⟩ := obd hf
      refine xv_V (As := []) (rest := []) S k_X6_findNests q470 q471 q472 ⟨Nat.le_of_ble_eq_true rfl, Nat.le_of_ble_eq_true rfl⟩ ⟨rfl, rfl⟩ (c_X6_findNests l D a c A hD N σ σ_25 h_26) hK hP hS (va_recv hK.1 hP (rfl : vwCl[4]? = some (RX6, TX6, 27)) (mw0 a c σ)) rfl hl.1 rfl (Nat.le_of_ble_eq_true rfl) dX6_stands_23 ⟨Nat.zero_le _, Nat.zero_le _⟩ (fun H locs hP hS => ?_)
      refine lv_aload_n hx hb dX6_stands_26 rfl (lv_at hl 0 rfl) ?_
      obtain ⟨r_27, h_28, hf⟩ := obd hf
      refine xv_I (As := []) (rest := []) S k_X6_nestNow q403 q404 q405 ⟨Nat.le_of_ble_eq_true rfl, Nat.le_of_ble_eq_true rfl⟩ ⟨rfl, rfl⟩ (c_X6_nestNow l D a c A hD N σ_25 r_27 h_28) hK hP hS (va_recv hK.1 hP (rfl : vwCl[4]? = some (RX6, TX6, 27)) (mw0 a c σ_25)) rfl hl.1 rfl (Nat.le_of_ble_eq_true rfl) dX6_stands_27 ⟨Nat.zero_le _, Nat.zero_le _⟩ (fun H locs hP hS => ?_)
      refine lv_istore_n (lv' := [(2, .int r_27), (0, .ref (a 0)), (1, .int x1)]) hx hb dX6_stands_30 rfl hl (by decide) rfl (fun ls hl => ?_)
      refine lv_iconst (v := (0 : Int32)) hx hb dX6_stands_31 (by decide) ?_
      refine lv_istore_n (lv' := [(3, .int (0 : Int32)), (2, .int r_27), (0, .ref (a 0)), (1, .int x1)]) hx hb dX6_stands_32 rfl hl (by decide) rfl (fun ls hl => ?_)
      refine lv_iconst (v := (0 : Int32)) hx hb dX6_stands_33 (by decide) ?_
      refine lv_istore (lv' := [(4, .int (0 : Int32)), (3, .int (0 : Int32)), (2, .int r_27), (0, .ref (a 0)), (1, .int x1)]) hx hb dX6_stands_34 hl (by decide) rfl (fun ls hl => ?_)
      exact L36 x1 r_27 N (0 : Int32) (0 : Int32) σ_25 _ _ _ (lv_sub hl [3, 4, 2, 1, 0] rfl) hP hS hf
    have hf := oit c_24 hf
    refine lv_bipush (v := (-3 : Int32)) hx hb dX6_stands_19 (by decide) ?_
    exact hret _ _ _ _ _ _ dX6_stands_21 rfl hP hS (oret hf)
  have hf := oit c_23 hf
  refine lv_bipush (v := (-2 : Int32)) hx hb dX6_stands_9 (by decide) ?_
  exact hret _ _ _ _ _ _ dX6_stands_11 rfl hP hS (oret hf)
theorem dX6_canTidy_0 : decode cX6_canTidy 0 = .ok (.iload_n 1, 1) := by decide +kernel
theorem dX6_canTidy_1 : decode cX6_canTidy 1 = .ok (.istore_n 2, 1) := by decide +kernel
theorem dX6_canTidy_2 : decode cX6_canTidy 2 = .ok (.iconst 0, 1) := by decide +kernel
theorem dX6_canTidy_3 : decode cX6_canTidy 3 = .ok (.istore_n 3, 1) := by decide +kernel
theorem dX6_canTidy_4 : decode cX6_canTidy 4 = .ok (.aload_n 0, 1) := by decide +kernel
theorem dX6_canTidy_5 : decode cX6_canTidy 5 = .ok (.getfield 75, 3) := by decide +kernel
theorem dX6_canTidy_8 : decode cX6_canTidy 8 = .ok (.iconst 1, 1) := by decide +kernel
theorem dX6_canTidy_9 : decode cX6_canTidy 9 = .ok (.isub, 1) := by decide +kernel
theorem dX6_canTidy_10 : decode cX6_canTidy 10 = .ok (.istore 4, 2) := by decide +kernel
theorem dX6_canTidy_12 : decode cX6_canTidy 12 = .ok (.iload 4, 2) := by decide +kernel
theorem dX6_canTidy_14 : decode cX6_canTidy 14 = .ok (.ifCond .lt 33, 3) := by decide +kernel
theorem dX6_canTidy_17 : decode cX6_canTidy 17 = .ok (.aload_n 0, 1) := by decide +kernel
theorem dX6_canTidy_18 : decode cX6_canTidy 18 = .ok (.getfield 47, 3) := by decide +kernel
theorem dX6_canTidy_21 : decode cX6_canTidy 21 = .ok (.iload 4, 2) := by decide +kernel
theorem dX6_canTidy_23 : decode cX6_canTidy 23 = .ok (.iload_n 2, 1) := by decide +kernel
theorem dX6_canTidy_24 : decode cX6_canTidy 24 = .ok (.aload_n 0, 1) := by decide +kernel
theorem dX6_canTidy_25 : decode cX6_canTidy 25 = .ok (.getfield 75, 3) := by decide +kernel
theorem dX6_canTidy_28 : decode cX6_canTidy 28 = .ok (.iconst 1, 1) := by decide +kernel
theorem dX6_canTidy_29 : decode cX6_canTidy 29 = .ok (.iadd, 1) := by decide +kernel
theorem dX6_canTidy_30 : decode cX6_canTidy 30 = .ok (.irem, 1) := by decide +kernel
theorem dX6_canTidy_31 : decode cX6_canTidy 31 = .ok (.iastore, 1) := by decide +kernel
theorem dX6_canTidy_32 : decode cX6_canTidy 32 = .ok (.iload_n 2, 1) := by decide +kernel
theorem dX6_canTidy_33 : decode cX6_canTidy 33 = .ok (.aload_n 0, 1) := by decide +kernel
theorem dX6_canTidy_34 : decode cX6_canTidy 34 = .ok (.getfield 75, 3) := by decide +kernel
theorem dX6_canTidy_37 : decode cX6_canTidy 37 = .ok (.iconst 1, 1) := by decide +kernel
theorem dX6_canTidy_38 : decode cX6_canTidy 38 = .ok (.iadd, 1) := by decide +kernel
theorem dX6_canTidy_39 : decode cX6_canTidy 39 = .ok (.idiv, 1) := by decide +kernel
theorem dX6_canTidy_40 : decode cX6_canTidy 40 = .ok (.istore_n 2, 1) := by decide +kernel
theorem dX6_canTidy_41 : decode cX6_canTidy 41 = .ok (.iinc 4 (-1), 3) := by decide +kernel
theorem dX6_canTidy_44 : decode cX6_canTidy 44 = .ok (.goto (-32), 3) := by decide +kernel
theorem dX6_canTidy_47 : decode cX6_canTidy 47 = .ok (.iconst 0, 1) := by decide +kernel
theorem dX6_canTidy_48 : decode cX6_canTidy 48 = .ok (.istore 4, 2) := by decide +kernel
theorem dX6_canTidy_50 : decode cX6_canTidy 50 = .ok (.iload 4, 2) := by decide +kernel
theorem dX6_canTidy_52 : decode cX6_canTidy 52 = .ok (.aload_n 0, 1) := by decide +kernel
theorem dX6_canTidy_53 : decode cX6_canTidy 53 = .ok (.getfield 75, 3) := by decide +kernel
theorem dX6_canTidy_56 : decode cX6_canTidy 56 = .ok (.if_icmp .ge 70, 3) := by decide +kernel
theorem dX6_canTidy_59 : decode cX6_canTidy 59 = .ok (.aload_n 0, 1) := by decide +kernel
theorem dX6_canTidy_60 : decode cX6_canTidy 60 = .ok (.getfield 47, 3) := by decide +kernel
theorem dX6_canTidy_63 : decode cX6_canTidy 63 = .ok (.iload 4, 2) := by decide +kernel
theorem dX6_canTidy_65 : decode cX6_canTidy 65 = .ok (.iaload, 1) := by decide +kernel
theorem dX6_canTidy_66 : decode cX6_canTidy 66 = .ok (.iconst 1, 1) := by decide +kernel
theorem dX6_canTidy_67 : decode cX6_canTidy 67 = .ok (.isub, 1) := by decide +kernel
theorem dX6_canTidy_68 : decode cX6_canTidy 68 = .ok (.istore 5, 2) := by decide +kernel
theorem dX6_canTidy_70 : decode cX6_canTidy 70 = .ok (.iload 5, 2) := by decide +kernel
theorem dX6_canTidy_72 : decode cX6_canTidy 72 = .ok (.ifCond .lt 32, 3) := by decide +kernel
theorem dX6_canTidy_75 : decode cX6_canTidy 75 = .ok (.iload 5, 2) := by decide +kernel
theorem dX6_canTidy_77 : decode cX6_canTidy 77 = .ok (.iload 4, 2) := by decide +kernel
theorem dX6_canTidy_79 : decode cX6_canTidy 79 = .ok (.if_icmp .eq 23, 3) := by decide +kernel
theorem dX6_canTidy_82 : decode cX6_canTidy 82 = .ok (.aload_n 0, 1) := by decide +kernel
theorem dX6_canTidy_83 : decode cX6_canTidy 83 = .ok (.iload 4, 2) := by decide +kernel
theorem dX6_canTidy_85 : decode cX6_canTidy 85 = .ok (.iload 5, 2) := by decide +kernel
theorem dX6_canTidy_87 : decode cX6_canTidy 87 = .ok (.invokevirtual 143, 3) := by decide +kernel
theorem dX6_canTidy_90 : decode cX6_canTidy 90 = .ok (.ifCond .eq 12, 3) := by decide +kernel
theorem dX6_canTidy_93 : decode cX6_canTidy 93 = .ok (.iload_n 3, 1) := by decide +kernel
theorem dX6_canTidy_94 : decode cX6_canTidy 94 = .ok (.iload 5, 2) := by decide +kernel
theorem dX6_canTidy_96 : decode cX6_canTidy 96 = .ok (.invokestatic 128, 3) := by decide +kernel
theorem dX6_canTidy_99 : decode cX6_canTidy 99 = .ok (.ifCond .eq 5, 3) := by decide +kernel
theorem dX6_canTidy_102 : decode cX6_canTidy 102 = .ok (.iconst 0, 1) := by decide +kernel
theorem dX6_canTidy_103 : decode cX6_canTidy 103 = .ok (.ireturn, 1) := by decide +kernel
theorem dX6_canTidy_104 : decode cX6_canTidy 104 = .ok (.iload_n 3, 1) := by decide +kernel
theorem dX6_canTidy_105 : decode cX6_canTidy 105 = .ok (.iload 5, 2) := by decide +kernel
theorem dX6_canTidy_107 : decode cX6_canTidy 107 = .ok (.ifCond .lt 10, 3) := by decide +kernel
theorem dX6_canTidy_110 : decode cX6_canTidy 110 = .ok (.iconst 1, 1) := by decide +kernel
theorem dX6_canTidy_111 : decode cX6_canTidy 111 = .ok (.iload 5, 2) := by decide +kernel
theorem dX6_canTidy_113 : decode cX6_canTidy 113 = .ok (.ishl, 1) := by decide +kernel
theorem dX6_canTidy_114 : decode cX6_canTidy 114 = .ok (.goto 4, 3) := by decide +kernel
theorem dX6_canTidy_117 : decode cX6_canTidy 117 = .ok (.iconst 0, 1) := by decide +kernel
theorem dX6_canTidy_118 : decode cX6_canTidy 118 = .ok (.ior, 1) := by decide +kernel
theorem dX6_canTidy_119 : decode cX6_canTidy 119 = .ok (.istore_n 3, 1) := by decide +kernel
theorem dX6_canTidy_120 : decode cX6_canTidy 120 = .ok (.iinc 4 1, 3) := by decide +kernel
theorem dX6_canTidy_123 : decode cX6_canTidy 123 = .ok (.goto (-73), 3) := by decide +kernel
theorem dX6_canTidy_126 : decode cX6_canTidy 126 = .ok (.iconst 1, 1) := by decide +kernel
theorem dX6_canTidy_127 : decode cX6_canTidy 127 = .ok (.ireturn, 1) := by decide +kernel
def f_X6_canTidy_j126 (N : Nat) (σ : St) : Option (Int32 × St) :=
  some ((1 : Int32), σ)
def f_X6_canTidy_j118 (N : Nat) (x4 : Int32) (y0 : Int32) (y1 : Int32) (σ : St) : Option ((Int32 × Int32) ⊕ ((Int32 × St) ⊕ (Unit))) :=
  nm (y0 ||| y1) fun x3_1 =>
  nm (x4 + (1 : Int32)) fun x4_2 =>
  some (.inl (x3_1, x4_2))
def f_X6_canTidy_j104 (N : Nat) (x3 : Int32) (x4 : Int32) (x5 : Int32) (σ : St) : Option ((Int32 × Int32) ⊕ ((Int32 × St) ⊕ (Unit))) :=
  if x5 < 0 then (f_X6_canTidy_j118 N x4 x3 (0 : Int32) σ)
  else f_X6_canTidy_j118 N x4 x3 ((1 : Int32) <<< (x5 &&& 31)) σ
def f_X6_canTidy_b50 (N : Nat) (x3 : Int32) (x4 : Int32) (σ : St) : Option ((Int32 × Int32) ⊕ ((Int32 × St) ⊕ (Unit))) :=
  if (σ.1 0 2) ≤ x4 then (some (.inr (.inr ())))
  else gd (ck x4 4) <|
  nm ((σ.1 13 x4.toNatClampNeg) - (1 : Int32)) fun x5_6 =>
  if x5_6 < 0 then (f_X6_canTidy_j104 N x3 x4 x5_6 σ)
  else if x5_6 = x4 then (some (.inr (.inl ((0 : Int32), σ))))
  else bd (f_X6_fitsInto x4 x5_6 σ) fun r_9 =>
  if r_9 = 0 then (some (.inr (.inl ((0 : Int32), σ))))
  else bd (f_X6_isOf x3 x5_6) fun r_12 =>
  if r_12 = 0 then (f_X6_canTidy_j104 N x3 x4 x5_6 σ)
  else some (.inr (.inl ((0 : Int32), σ)))
def f_X6_canTidy_j47 (N : Nat) (x3 : Int32) (σ : St) : Option (Int32 × St) :=
  bd (lpF (fun s => f_X6_canTidy_b50 N s.1 s.2 σ) N (x3, (0 : Int32))) (Sum.elim (fun v => some v) (fun o => f_X6_canTidy_j126 N σ))
def f_X6_canTidy_b12 (N : Nat) (x2 : Int32) (x3 : Int32) (x4 : Int32) (σ : St) : Option ((Int32 × Int32 × St) ⊕ ((St))) :=
  if x4 < 0 then (some (.inr σ))
  else gd (decide (¬ ((σ.1 0 2) + (1 : Int32)) = 0)) <|
  gd (ck x4 4) <|
  nm (wS σ 13 (Int32.toNatClampNeg x4) (x2 - x2 / ((σ.1 0 2) + (1 : Int32)) * ((σ.1 0 2) + (1 : Int32)))) fun σ_18 =>
  gd (decide (¬ ((σ_18.1 0 2) + (1 : Int32)) = 0)) <|
  nm (x2 / ((σ_18.1 0 2) + (1 : Int32))) fun x2_20 =>
  nm (x4 + (-1 : Int32)) fun x4_21 =>
  some (.inl (x2_20, x4_21, σ_18))
def f_X6_canTidy (N : Nat) (x1 : Int32) (σ : St) : Option (Int32 × St) :=
  nm ((σ.1 0 2) - (1 : Int32)) fun x4_22 =>
  bd (lpF (fun s => f_X6_canTidy_b12 N s.1 (0 : Int32) s.2.1 s.2.2) N (x1, x4_22, σ)) (fun o => f_X6_canTidy_j47 N (0 : Int32) o)
abbrev rmX6_canTidy : Room := { frames := 2, cells := 0, slots := 0, locals := 43 }
set_option maxRecDepth 100000 in
set_option maxHeartbeats 4000000 in
theorem c_X6_canTidy (l : Launch) (D : va_G) (a : Nat → Nat) (c : Nat → ClassId) (A : Nat → Prop) (hD : ∀ σ, va_D A (mW a c σ)) (N : Nat) (x1 : Int32) (σ : St) (r : Int32) (u : St) (hf : f_X6_canTidy N x1 σ = some (r, u)) : MetI l yX6_canTidy cX6_canTidy 6 (some .boolean) rmX6_canTidy (mW a c) D c A [.ref (a 0), .int x1] σ r u := by
  refine mkI (by decide) (Nat.le_of_ble_eq_true rfl) rfl ?_
  intro p e s m args below meth cd Q ls h0 hK hP hret hl
  obtain ⟨S, hr, hlk⟩ := h0
  obtain ⟨hx, hb, hml, hown, ht⟩ := id S
  have hS : va_S A s.heap s.heap [] := va_S.rf
  have hl : lv_has ls 6 [(0, .ref (a 0)), (1, .int x1)] := hl
  have hf := obs hf
  have j126 : ∀ (σ : St) (H : Heap) (locs : List Loc) (ls : Array Slot), lv_has ls 6 [] → va_P D vwCl (mW a c σ) H → va_S A s.heap H locs → Option.bind (f_X6_canTidy_j126 N σ) some = some (r, u) → W p l e rmX6_canTidy s m args below meth cd H locs 0 0 Q (F0 m 126 ls []) := by
    intro σ H locs ls hl hP hS hf
    have hf := oun (f_X6_canTidy_j126.eq_1 _ _) hf
    refine lv_iconst (v := (1 : Int32)) hx hb dX6_canTidy_126 (by decide) ?_
    exact hret _ _ _ _ _ _ dX6_canTidy_127 (by decide) hP hS (oret hf)
  have L50 : ∀ (σ : St) (k : Nat) (x3 : Int32) (x4 : Int32) (H : Heap) (locs : List Loc) (ls : Array Slot), lv_has ls 6 [(0, .ref (a 0)), (3, .int x3), (4, .int x4)] → va_P D vwCl (mW a c σ) H → va_S A s.heap H locs → Option.bind (bd (lpF (fun s => f_X6_canTidy_b50 N s.1 s.2 σ) k (x3, x4)) (Sum.elim (fun v => some v) (fun o => f_X6_canTidy_j126 N σ))) some = some (r, u) → W p l e rmX6_canTidy s m args below meth cd H locs 0 0 Q (F0 m 50 ls []) := by
    intro σ k
    induction k with
    | zero =>
      intro x3 x4 H locs ls hl hP hS hf
      exact (ol0 hf).elim
    | succ k ih =>
      intro x3 x4 H locs ls hl hP hS hf
      obtain ⟨K50, hf, hc50, hx50⟩ := ol1 hf
      have j118 : ∀ (x4 : Int32) (y0 : Int32) (y1 : Int32) (H : Heap) (locs : List Loc) (ls : Array Slot), lv_has ls 6 [(0, .ref (a 0)), (4, .int x4)] → va_P D vwCl (mW a c σ) H → va_S A s.heap H locs → Option.bind (f_X6_canTidy_j118 N x4 y0 y1 σ) K50 = some (r, u) → W p l e rmX6_canTidy s m args below meth cd H locs 0 0 Q (F0 m 118 ls [.int y1, .int y0]) := by
        intro x4 y0 y1 H locs ls hl hP hS hf
        have hf := oun (f_X6_canTidy_j118.eq_1 _ _ _ _ _) hf
        refine lv_ior hx hb dX6_canTidy_118 ?_
        obtain ⟨x3_1, ex3_1, hf⟩ := onm hf
        refine lv_nm ex3_1 ?_
        refine lv_istore_n (lv' := [(3, .int x3_1), (0, .ref (a 0)), (4, .int x4)]) hx hb dX6_canTidy_119 rfl hl (by decide) rfl (fun ls hl => ?_)
        obtain ⟨x4_2, ex4_2, hf⟩ := onm hf
        refine lv_iinc (v := x4_2) (lv' := [(4, .int x4_2), (3, .int x3_1), (0, .ref (a 0))]) hx hb dX6_canTidy_120 hl (k := 2) rfl ex4_2 (by decide) rfl (fun ls hl => ?_)
        refine lv_goto (tgt := 50) hx hb dX6_canTidy_123 (by decide) ?_
        exact ih x3_1 x4_2 _ _ _ (lv_sub hl [2, 1, 0] rfl) hP hS (okx hf (hc50 _))
      have j104 : ∀ (x3 : Int32) (x4 : Int32) (x5 : Int32) (H : Heap) (locs : List Loc) (ls : Array Slot), lv_has ls 6 [(0, .ref (a 0)), (3, .int x3), (4, .int x4), (5, .int x5)] → va_P D vwCl (mW a c σ) H → va_S A s.heap H locs → Option.bind (f_X6_canTidy_j104 N x3 x4 x5 σ) K50 = some (r, u) → W p l e rmX6_canTidy s m args below meth cd H locs 0 0 Q (F0 m 104 ls []) := by
        intro x3 x4 x5 H locs ls hl hP hS hf
        have hf := oun (f_X6_canTidy_j104.eq_1 _ _ _ _ _) hf
        refine lv_iload_n hx hb dX6_canTidy_104 rfl (lv_at hl 1 rfl) ?_
        refine lv_iload hx hb dX6_canTidy_105 (lv_at hl 3 rfl) ?_
        refine lv_if_lt (tgt := 117) hx hb dX6_canTidy_107 (by decide) (fun c_3 => ?_) (fun c_3 => ?_)
        · have hf := oit c_3 hf
          refine lv_iconst (v := (0 : Int32)) hx hb dX6_canTidy_117 (by decide) ?_
          exact j118 x4 x3 (0 : Int32) _ _ _ (lv_sub hl [0, 2] rfl) hP hS hf
        have hf := oif c_3 hf
        refine lv_iconst (v := (1 : Int32)) hx hb dX6_canTidy_110 (by decide) ?_
        refine lv_iload hx hb dX6_canTidy_111 (lv_at hl 3 rfl) ?_
        refine lv_ishl hx hb dX6_canTidy_113 ?_
        refine lv_goto (tgt := 118) hx hb dX6_canTidy_114 (by decide) ?_
        exact j118 x4 x3 ((1 : Int32) <<< (x5 &&& 31)) _ _ _ (lv_sub hl [0, 2] rfl) hP hS hf
      have hf := oun (f_X6_canTidy_b50.eq_1 N x3 x4 σ) hf
      refine lv_iload hx hb dX6_canTidy_50 (lv_at hl 2 rfl) ?_
      refine lv_aload_n hx hb dX6_canTidy_52 rfl (lv_at hl 0 rfl) ?_
      refine va_get (D := D) (ci := 4) (v := .int (σ.1 0 2)) (C := RX6) (T := TX6) (N := 27) hx hb ht gX6 hown hK.1 hP 0 (mw0 a c σ) rfl 5 (by decide) (ht _ q139) (fun _ h9 => h9) rfl dX6_canTidy_53 ?_
      refine lv_icmp_ge (tgt := 126) hx hb dX6_canTidy_56 (by decide) (fun c_4 => ?_) (fun c_4 => ?_)
      · have hf := oit c_4 hf
        exact j126 σ _ _ _ (lv_sub hl [] rfl) hP hS (okx hf (hx50 _))
      have hf := oif c_4 hf
      refine lv_aload_n hx hb dX6_canTidy_59 rfl (lv_at hl 0 rfl) ?_
      refine va_get (D := D) (ci := 4) (v := .ref (a 13)) (C := RX6) (T := TX6) (N := 27) hx hb ht gX6 hown hK.1 hP 0 (mw0 a c σ) rfl 20 (by decide) (ht _ q63) (fun _ h9 => h9) rfl dX6_canTidy_60 ?_
      refine lv_iload hx hb dX6_canTidy_63 (lv_at hl 2 rfl) ?_
      obtain ⟨g_5, hf⟩ := ogd hf
      refine va_iald hx hb hK.1 hP 13 0 (mw13 a c σ) rfl (ck_in g_5) dX6_canTidy_65 ?_
      refine lv_iconst (v := (1 : Int32)) hx hb dX6_canTidy_66 (by decide) ?_
      refine lv_isub hx hb dX6_canTidy_67 ?_
      obtain ⟨x5_6, ex5_6, hf⟩ := onm hf
      refine lv_nm ex5_6 ?_
      refine lv_istore (lv' := [(5, .int x5_6), (0, .ref (a 0)), (3, .int x3), (4, .int x4)]) hx hb dX6_canTidy_68 hl (by decide) rfl (fun ls hl => ?_)
      refine lv_iload hx hb dX6_canTidy_70 (lv_at hl 0 rfl) ?_
      refine lv_if_lt (tgt := 104) hx hb dX6_canTidy_72 (by decide) (fun c_7 => ?_) (fun c_7 => ?_)
      · have hf := oit c_7 hf
        exact j104 x3 x4 x5_6 _ _ _ (lv_sub hl [1, 2, 3, 0] rfl) hP hS hf
      have hf := oif c_7 hf
      refine lv_iload hx hb dX6_canTidy_75 (lv_at hl 0 rfl) ?_
      refine lv_iload hx hb dX6_canTidy_77 (lv_at hl 3 rfl) ?_
      refine lv_icmp_eq (tgt := 102) hx hb dX6_canTidy_79 (by decide) (fun c_8 => ?_) (fun c_8 => ?_)
      · have hf := oit c_8 hf
        refine lv_iconst (v := (0 : Int32)) hx hb dX6_canTidy_102 (by decide) ?_
        have hf := okx hf (hx50 _)
        exact hret _ _ _ _ _ _ dX6_canTidy_103 (by decide) hP hS (oret hf)
      have hf := oif c_8 hf
      refine lv_aload_n hx hb dX6_canTidy_82 rfl (lv_at hl 1 rfl) ?_
      refine lv_iload hx hb dX6_canTidy_83 (lv_at hl 3 rfl) ?_
      refine lv_iload hx hb dX6_canTidy_85 (lv_at hl 0 rfl) ?_
      obtain ⟨r_9, h_10, hf⟩ := obd hf
      refine xv_I (As := [.int x4, .int x5_6]) (rest := []) S k_X6_fitsInto q287 q288 q289 ⟨Nat.le_of_ble_eq_true rfl, Nat.le_of_ble_eq_true rfl⟩ ⟨rfl, rfl⟩ (c_X6_fitsInto l D a c A hD x4 x5_6 σ r_9 h_10) hK hP hS (va_recv hK.1 hP (rfl : vwCl[4]? = some (RX6, TX6, 27)) (mw0 a c σ)) rfl hl.1 rfl (Nat.le_of_ble_eq_true rfl) dX6_canTidy_87 ⟨Nat.zero_le _, Nat.zero_le _⟩ (fun H locs hP hS => ?_)
      refine lv_if_eq (tgt := 102) hx hb dX6_canTidy_90 (by decide) (fun c_11 => ?_) (fun c_11 => ?_)
      · have hf := oit c_11 hf
        refine lv_iconst (v := (0 : Int32)) hx hb dX6_canTidy_102 (by decide) ?_
        have hf := okx hf (hx50 _)
        exact hret _ _ _ _ _ _ dX6_canTidy_103 (by decide) hP hS (oret hf)
      have hf := oif c_11 hf
      refine lv_iload_n hx hb dX6_canTidy_93 rfl (lv_at hl 2 rfl) ?_
      refine lv_iload hx hb dX6_canTidy_94 (lv_at hl 0 rfl) ?_
      obtain ⟨r_12, h_13, hf⟩ := obd hf
      refine xs_S (As := [.int x3, .int x5_6]) (rest := []) S k_X6_isOf q238 q239 ⟨Nat.le_of_ble_eq_true rfl, Nat.le_of_ble_eq_true rfl⟩ ⟨rfl, rfl⟩ (c_X6_isOf l x3 x5_6 r_12 h_13) hK.2 rfl hl.1 rfl (Nat.le_of_ble_eq_true rfl) dX6_canTidy_96 ⟨Nat.zero_le _, Nat.zero_le _⟩ ?_
      refine lv_if_eq (tgt := 104) hx hb dX6_canTidy_99 (by decide) (fun c_14 => ?_) (fun c_14 => ?_)
      · have hf := oit c_14 hf
        exact j104 x3 x4 x5_6 _ _ _ (lv_sub hl [1, 2, 3, 0] rfl) hP hS hf
      have hf := oif c_14 hf
      refine lv_iconst (v := (0 : Int32)) hx hb dX6_canTidy_102 (by decide) ?_
      have hf := okx hf (hx50 _)
      exact hret _ _ _ _ _ _ dX6_canTidy_103 (by decide) hP hS (oret hf)
  have j47 : ∀ (x3 : Int32) (σ : St) (H : Heap) (locs : List Loc) (ls : Array Slot), lv_has ls 6 [(0, .ref (a 0)), (3, .int x3)] → va_P D vwCl (mW a c σ) H → va_S A s.heap H locs → Option.bind (f_X6_canTidy_j47 N x3 σ) some = some (r, u) → W p l e rmX6_canTidy s m args below meth cd H locs 0 0 Q (F0 m 47 ls []) := by
    intro x3 σ H locs ls hl hP hS hf
    have hf := oun (f_X6_canTidy_j47.eq_1 _ _ _) hf
    refine lv_iconst (v := (0 : Int32)) hx hb dX6_canTidy_47 (by decide) ?_
    refine lv_istore (lv' := [(4, .int (0 : Int32)), (0, .ref (a 0)), (3, .int x3)]) hx hb dX6_canTidy_48 hl (by decide) rfl (fun ls hl => ?_)
    exact L50 σ N x3 (0 : Int32) _ _ _ (lv_sub hl [1, 2, 0] rfl) hP hS hf
  have L12 : ∀ (x3 : Int32) (k : Nat) (x2 : Int32) (x4 : Int32) (σ : St) (H : Heap) (locs : List Loc) (ls : Array Slot), lv_has ls 6 [(0, .ref (a 0)), (2, .int x2), (3, .int x3), (4, .int x4)] → va_P D vwCl (mW a c σ) H → va_S A s.heap H locs → Option.bind (bd (lpF (fun s => f_X6_canTidy_b12 N s.1 x3 s.2.1 s.2.2) k (x2, x4, σ)) (fun o => f_X6_canTidy_j47 N x3 o)) some = some (r, u) → W p l e rmX6_canTidy s m args below meth cd H locs 0 0 Q (F0 m 12 ls []) := by
    intro x3 k
    induction k with
    | zero =>
      intro x2 x4 σ H locs ls hl hP hS hf
      exact (ol0 hf).elim
    | succ k ih =>
      intro x2 x4 σ H locs ls hl hP hS hf
      obtain ⟨K12, hf, hc12, hx12⟩ := ol1 hf
      have hf := oun (f_X6_canTidy_b12.eq_1 N x2 x3 x4 σ) hf
      refine lv_iload hx hb dX6_canTidy_12 (lv_at hl 3 rfl) ?_
      refine lv_if_lt (tgt := 47) hx hb dX6_canTidy_14 (by decide) (fun c_15 => ?_) (fun c_15 => ?_)
      · have hf := oit c_15 hf
        exact j47 x3 σ _ _ _ (lv_sub hl [0, 2] rfl) hP hS (okx hf (hx12 _))
      have hf := oif c_15 hf
      refine lv_aload_n hx hb dX6_canTidy_17 rfl (lv_at hl 0 rfl) ?_
      refine va_get (D := D) (ci := 4) (v := .ref (a 13)) (C := RX6) (T := TX6) (N := 27) hx hb ht gX6 hown hK.1 hP 0 (mw0 a c σ) rfl 20 (by decide) (ht _ q63) (fun _ h9 => h9) rfl dX6_canTidy_18 ?_
      refine lv_iload hx hb dX6_canTidy_21 (lv_at hl 3 rfl) ?_
      refine lv_iload_n hx hb dX6_canTidy_23 rfl (lv_at hl 1 rfl) ?_
      refine lv_aload_n hx hb dX6_canTidy_24 rfl (lv_at hl 0 rfl) ?_
      refine va_get (D := D) (ci := 4) (v := .int (σ.1 0 2)) (C := RX6) (T := TX6) (N := 27) hx hb ht gX6 hown hK.1 hP 0 (mw0 a c σ) rfl 5 (by decide) (ht _ q139) (fun _ h9 => h9) rfl dX6_canTidy_25 ?_
      refine lv_iconst (v := (1 : Int32)) hx hb dX6_canTidy_28 (by decide) ?_
      refine lv_iadd hx hb dX6_canTidy_29 ?_
      obtain ⟨g_16, hf⟩ := ogd hf
      refine lv_irem hx hb dX6_canTidy_30 (of_decide_eq_true g_16) ?_
      obtain ⟨g_17, hf⟩ := ogd hf
      refine va_iast hx hb hK.1 hP (hD σ) hS 13 0 (mw13 a c σ) rfl (ck_in g_17) dX6_canTidy_31 (fun H locs hP _ hS => ?_)
      have hP := vP_eq (mpA_m13 a c σ (Int32.toNatClampNeg x4) (x2 - x2 / ((σ.1 0 2) + (1 : Int32)) * ((σ.1 0 2) + (1 : Int32)))) hP
      obtain ⟨σ_18, eσ_18, hf⟩ := onm hf
      rw [eσ_18] at hP
      refine lv_iload_n hx hb dX6_canTidy_32 rfl (lv_at hl 1 rfl) ?_
      refine lv_aload_n hx hb dX6_canTidy_33 rfl (lv_at hl 0 rfl) ?_
      refine va_get (D := D) (ci := 4) (v := .int (σ_18.1 0 2)) (C := RX6) (T := TX6) (N := 27) hx hb ht gX6 hown hK.1 hP 0 (mw0 a c σ_18) rfl 5 (by decide) (ht _ q139) (fun _ h9 => h9) rfl dX6_canTidy_34 ?_
      refine lv_iconst (v := (1 : Int32)) hx hb dX6_canTidy_37 (by decide) ?_
      refine lv_iadd hx hb dX6_canTidy_38 ?_
      obtain ⟨g_19, hf⟩ := ogd hf
      refine lv_idiv hx hb dX6_canTidy_39 (of_decide_eq_true g_19) ?_
      obtain ⟨x2_20, ex2_20, hf⟩ := onm hf
      refine lv_nm ex2_20 ?_
      refine lv_istore_n (lv' := [(2, .int x2_20), (0, .ref (a 0)), (3, .int x3), (4, .int x4)]) hx hb dX6_canTidy_40 rfl hl (by decide) rfl (fun ls hl => ?_)
      obtain ⟨x4_21, ex4_21, hf⟩ := onm hf
      refine lv_iinc (v := x4_21) (lv' := [(4, .int x4_21), (2, .int x2_20), (0, .ref (a 0)), (3, .int x3)]) hx hb dX6_canTidy_41 hl (k := 3) rfl ex4_21 (by decide) rfl (fun ls hl => ?_)
      refine lv_goto (tgt := 12) hx hb dX6_canTidy_44 (by decide) ?_
      exact ih x2_20 x4_21 σ_18 _ _ _ (lv_sub hl [2, 1, 3, 0] rfl) hP hS (okx hf (hc12 _))
  have hf := oun (f_X6_canTidy.eq_1 _ _ _) hf
  refine lv_iload_n hx hb dX6_canTidy_0 rfl (lv_at hl 1 rfl) ?_
  refine lv_istore_n (lv' := [(2, .int x1), (0, .ref (a 0)), (1, .int x1)]) hx hb dX6_canTidy_1 rfl hl (by decide) rfl (fun ls hl => ?_)
  refine lv_iconst (v := (0 : Int32)) hx hb dX6_canTidy_2 (by decide) ?_
  refine lv_istore_n (lv' := [(3, .int (0 : Int32)), (2, .int x1), (0, .ref (a 0)), (1, .int x1)]) hx hb dX6_canTidy_3 rfl hl (by decide) rfl (fun ls hl => ?_)
  refine lv_aload_n hx hb dX6_canTidy_4 rfl (lv_at hl 2 rfl) ?_
  refine va_get (D := D) (ci := 4) (v := .int (σ.1 0 2)) (C := RX6) (T := TX6) (N := 27) hx hb ht gX6 hown hK.1 hP 0 (mw0 a c σ) rfl 5 (by decide) (ht _ q139) (fun _ h9 => h9) rfl dX6_canTidy_5 ?_
  refine lv_iconst (v := (1 : Int32)) hx hb dX6_canTidy_8 (by decide) ?_
  refine lv_isub hx hb dX6_canTidy_9 ?_
  obtain ⟨x4_22, ex4_22, hf⟩ := onm hf
  refine lv_nm ex4_22 ?_
  refine lv_istore (lv' := [(4, .int x4_22), (3, .int (0 : Int32)), (2, .int x1), (0, .ref (a 0)), (1, .int x1)]) hx hb dX6_canTidy_10 hl (by decide) rfl (fun ls hl => ?_)
  exact L12 (0 : Int32) N x1 x4_22 σ _ _ _ (lv_sub hl [3, 2, 1, 0] rfl) hP hS hf
theorem dX6_tidy_0 : decode cX6_tidy 0 = .ok (.iload_n 1, 1) := by decide +kernel
theorem dX6_tidy_1 : decode cX6_tidy 1 = .ok (.iconst (-1), 1) := by decide +kernel
theorem dX6_tidy_2 : decode cX6_tidy 2 = .ok (.iconst 3, 1) := by decide +kernel
theorem dX6_tidy_3 : decode cX6_tidy 3 = .ok (.invokestatic 71, 3) := by decide +kernel
theorem dX6_tidy_6 : decode cX6_tidy 6 = .ok (.ifCond .ne 6, 3) := by decide +kernel
theorem dX6_tidy_9 : decode cX6_tidy 9 = .ok (.bipush (-2), 2) := by decide +kernel
theorem dX6_tidy_11 : decode cX6_tidy 11 = .ok (.ireturn, 1) := by decide +kernel
theorem dX6_tidy_12 : decode cX6_tidy 12 = .ok (.aload_n 0, 1) := by decide +kernel
theorem dX6_tidy_13 : decode cX6_tidy 13 = .ok (.getfield 75, 3) := by decide +kernel
theorem dX6_tidy_16 : decode cX6_tidy 16 = .ok (.ifCond .ne 6, 3) := by decide +kernel
theorem dX6_tidy_19 : decode cX6_tidy 19 = .ok (.bipush (-3), 2) := by decide +kernel
theorem dX6_tidy_21 : decode cX6_tidy 21 = .ok (.ireturn, 1) := by decide +kernel
theorem dX6_tidy_22 : decode cX6_tidy 22 = .ok (.iconst 1, 1) := by decide +kernel
theorem dX6_tidy_23 : decode cX6_tidy 23 = .ok (.istore_n 2, 1) := by decide +kernel
theorem dX6_tidy_24 : decode cX6_tidy 24 = .ok (.iconst 0, 1) := by decide +kernel
theorem dX6_tidy_25 : decode cX6_tidy 25 = .ok (.istore_n 3, 1) := by decide +kernel
theorem dX6_tidy_26 : decode cX6_tidy 26 = .ok (.iload_n 3, 1) := by decide +kernel
theorem dX6_tidy_27 : decode cX6_tidy 27 = .ok (.aload_n 0, 1) := by decide +kernel
theorem dX6_tidy_28 : decode cX6_tidy 28 = .ok (.getfield 75, 3) := by decide +kernel
theorem dX6_tidy_31 : decode cX6_tidy 31 = .ok (.if_icmp .ge 18, 3) := by decide +kernel
theorem dX6_tidy_34 : decode cX6_tidy 34 = .ok (.iload_n 2, 1) := by decide +kernel
theorem dX6_tidy_35 : decode cX6_tidy 35 = .ok (.aload_n 0, 1) := by decide +kernel
theorem dX6_tidy_36 : decode cX6_tidy 36 = .ok (.getfield 75, 3) := by decide +kernel
theorem dX6_tidy_39 : decode cX6_tidy 39 = .ok (.iconst 1, 1) := by decide +kernel
theorem dX6_tidy_40 : decode cX6_tidy 40 = .ok (.iadd, 1) := by decide +kernel
theorem dX6_tidy_41 : decode cX6_tidy 41 = .ok (.imul, 1) := by decide +kernel
theorem dX6_tidy_42 : decode cX6_tidy 42 = .ok (.istore_n 2, 1) := by decide +kernel
theorem dX6_tidy_43 : decode cX6_tidy 43 = .ok (.iinc 3 1, 3) := by decide +kernel
theorem dX6_tidy_46 : decode cX6_tidy 46 = .ok (.goto (-20), 3) := by decide +kernel
theorem dX6_tidy_49 : decode cX6_tidy 49 = .ok (.bipush (-9), 2) := by decide +kernel
theorem dX6_tidy_51 : decode cX6_tidy 51 = .ok (.istore_n 3, 1) := by decide +kernel
theorem dX6_tidy_52 : decode cX6_tidy 52 = .ok (.iconst 0, 1) := by decide +kernel
theorem dX6_tidy_53 : decode cX6_tidy 53 = .ok (.istore 4, 2) := by decide +kernel
theorem dX6_tidy_55 : decode cX6_tidy 55 = .ok (.iload 4, 2) := by decide +kernel
theorem dX6_tidy_57 : decode cX6_tidy 57 = .ok (.iload_n 2, 1) := by decide +kernel
theorem dX6_tidy_58 : decode cX6_tidy 58 = .ok (.if_icmp .ge 106, 3) := by decide +kernel
theorem dX6_tidy_61 : decode cX6_tidy 61 = .ok (.aload_n 0, 1) := by decide +kernel
theorem dX6_tidy_62 : decode cX6_tidy 62 = .ok (.iload 4, 2) := by decide +kernel
theorem dX6_tidy_64 : decode cX6_tidy 64 = .ok (.invokevirtual 185, 3) := by decide +kernel
theorem dX6_tidy_67 : decode cX6_tidy 67 = .ok (.ifCond .eq 91, 3) := by decide +kernel
theorem dX6_tidy_70 : decode cX6_tidy 70 = .ok (.iconst 0, 1) := by decide +kernel
theorem dX6_tidy_71 : decode cX6_tidy 71 = .ok (.istore 5, 2) := by decide +kernel
theorem dX6_tidy_73 : decode cX6_tidy 73 = .ok (.iconst 0, 1) := by decide +kernel
theorem dX6_tidy_74 : decode cX6_tidy 74 = .ok (.istore 6, 2) := by decide +kernel
theorem dX6_tidy_76 : decode cX6_tidy 76 = .ok (.iload 6, 2) := by decide +kernel
theorem dX6_tidy_78 : decode cX6_tidy 78 = .ok (.aload_n 0, 1) := by decide +kernel
theorem dX6_tidy_79 : decode cX6_tidy 79 = .ok (.getfield 75, 3) := by decide +kernel
theorem dX6_tidy_82 : decode cX6_tidy 82 = .ok (.if_icmp .ge 29, 3) := by decide +kernel
theorem dX6_tidy_85 : decode cX6_tidy 85 = .ok (.iload 5, 2) := by decide +kernel
theorem dX6_tidy_87 : decode cX6_tidy 87 = .ok (.aload_n 0, 1) := by decide +kernel
theorem dX6_tidy_88 : decode cX6_tidy 88 = .ok (.getfield 47, 3) := by decide +kernel
theorem dX6_tidy_91 : decode cX6_tidy 91 = .ok (.iload 6, 2) := by decide +kernel
theorem dX6_tidy_93 : decode cX6_tidy 93 = .ok (.iaload, 1) := by decide +kernel
theorem dX6_tidy_94 : decode cX6_tidy 94 = .ok (.ifCond .ne 7, 3) := by decide +kernel
theorem dX6_tidy_97 : decode cX6_tidy 97 = .ok (.iconst 1, 1) := by decide +kernel
theorem dX6_tidy_98 : decode cX6_tidy 98 = .ok (.goto 4, 3) := by decide +kernel
theorem dX6_tidy_101 : decode cX6_tidy 101 = .ok (.iconst 0, 1) := by decide +kernel
theorem dX6_tidy_102 : decode cX6_tidy 102 = .ok (.iadd, 1) := by decide +kernel
theorem dX6_tidy_103 : decode cX6_tidy 103 = .ok (.istore 5, 2) := by decide +kernel
theorem dX6_tidy_105 : decode cX6_tidy 105 = .ok (.iinc 6 1, 3) := by decide +kernel
theorem dX6_tidy_108 : decode cX6_tidy 108 = .ok (.goto (-32), 3) := by decide +kernel
theorem dX6_tidy_111 : decode cX6_tidy 111 = .ok (.iload_n 3, 1) := by decide +kernel
theorem dX6_tidy_112 : decode cX6_tidy 112 = .ok (.bipush (-9), 2) := by decide +kernel
theorem dX6_tidy_114 : decode cX6_tidy 114 = .ok (.if_icmp .eq 9, 3) := by decide +kernel
theorem dX6_tidy_117 : decode cX6_tidy 117 = .ok (.iload 5, 2) := by decide +kernel
theorem dX6_tidy_119 : decode cX6_tidy 119 = .ok (.iload_n 3, 1) := by decide +kernel
theorem dX6_tidy_120 : decode cX6_tidy 120 = .ok (.if_icmp .ge 38, 3) := by decide +kernel
theorem dX6_tidy_123 : decode cX6_tidy 123 = .ok (.iload 5, 2) := by decide +kernel
theorem dX6_tidy_125 : decode cX6_tidy 125 = .ok (.istore_n 3, 1) := by decide +kernel
theorem dX6_tidy_126 : decode cX6_tidy 126 = .ok (.iconst 0, 1) := by decide +kernel
theorem dX6_tidy_127 : decode cX6_tidy 127 = .ok (.istore 6, 2) := by decide +kernel
theorem dX6_tidy_129 : decode cX6_tidy 129 = .ok (.iload 6, 2) := by decide +kernel
theorem dX6_tidy_131 : decode cX6_tidy 131 = .ok (.aload_n 0, 1) := by decide +kernel
theorem dX6_tidy_132 : decode cX6_tidy 132 = .ok (.getfield 75, 3) := by decide +kernel
theorem dX6_tidy_135 : decode cX6_tidy 135 = .ok (.if_icmp .ge 23, 3) := by decide +kernel
theorem dX6_tidy_138 : decode cX6_tidy 138 = .ok (.aload_n 0, 1) := by decide +kernel
theorem dX6_tidy_139 : decode cX6_tidy 139 = .ok (.getfield 50, 3) := by decide +kernel
theorem dX6_tidy_142 : decode cX6_tidy 142 = .ok (.iload 6, 2) := by decide +kernel
theorem dX6_tidy_144 : decode cX6_tidy 144 = .ok (.aload_n 0, 1) := by decide +kernel
theorem dX6_tidy_145 : decode cX6_tidy 145 = .ok (.getfield 47, 3) := by decide +kernel
theorem dX6_tidy_148 : decode cX6_tidy 148 = .ok (.iload 6, 2) := by decide +kernel
theorem dX6_tidy_150 : decode cX6_tidy 150 = .ok (.iaload, 1) := by decide +kernel
theorem dX6_tidy_151 : decode cX6_tidy 151 = .ok (.iastore, 1) := by decide +kernel
theorem dX6_tidy_152 : decode cX6_tidy 152 = .ok (.iinc 6 1, 3) := by decide +kernel
theorem dX6_tidy_155 : decode cX6_tidy 155 = .ok (.goto (-26), 3) := by decide +kernel
theorem dX6_tidy_158 : decode cX6_tidy 158 = .ok (.iinc 4 1, 3) := by decide +kernel
theorem dX6_tidy_161 : decode cX6_tidy 161 = .ok (.goto (-106), 3) := by decide +kernel
theorem dX6_tidy_164 : decode cX6_tidy 164 = .ok (.iload_n 1, 1) := by decide +kernel
theorem dX6_tidy_165 : decode cX6_tidy 165 = .ok (.iconst (-1), 1) := by decide +kernel
theorem dX6_tidy_166 : decode cX6_tidy 166 = .ok (.if_icmp .ne 7, 3) := by decide +kernel
theorem dX6_tidy_169 : decode cX6_tidy 169 = .ok (.iload_n 3, 1) := by decide +kernel
theorem dX6_tidy_170 : decode cX6_tidy 170 = .ok (.goto 22, 3) := by decide +kernel
theorem dX6_tidy_173 : decode cX6_tidy 173 = .ok (.iload_n 1, 1) := by decide +kernel
theorem dX6_tidy_174 : decode cX6_tidy 174 = .ok (.aload_n 0, 1) := by decide +kernel
theorem dX6_tidy_175 : decode cX6_tidy 175 = .ok (.getfield 75, 3) := by decide +kernel
theorem dX6_tidy_178 : decode cX6_tidy 178 = .ok (.if_icmp .ge 12, 3) := by decide +kernel
theorem dX6_tidy_181 : decode cX6_tidy 181 = .ok (.aload_n 0, 1) := by decide +kernel
theorem dX6_tidy_182 : decode cX6_tidy 182 = .ok (.getfield 50, 3) := by decide +kernel
theorem dX6_tidy_185 : decode cX6_tidy 185 = .ok (.iload_n 1, 1) := by decide +kernel
theorem dX6_tidy_186 : decode cX6_tidy 186 = .ok (.iaload, 1) := by decide +kernel
theorem dX6_tidy_187 : decode cX6_tidy 187 = .ok (.goto 5, 3) := by decide +kernel
theorem dX6_tidy_190 : decode cX6_tidy 190 = .ok (.bipush (-9), 2) := by decide +kernel
theorem dX6_tidy_192 : decode cX6_tidy 192 = .ok (.ireturn, 1) := by decide +kernel
def f_X6_tidy_j164 (N : Nat) (x1 : Int32) (x3 : Int32) (σ : St) : Option (Int32 × St) :=
  if x1 = (-1 : Int32) then (some (x3, σ))
  else if (σ.1 0 2) ≤ x1 then (some ((-9 : Int32), σ))
    else gd (ck x1 4) <|
    some ((σ.1 14 x1.toNatClampNeg), σ)
def f_X6_tidy_j158 (N : Nat) (x1 : Int32) (x2 : Int32) (x3 : Int32) (x4 : Int32) (σ : St) : Option ((Int32 × Int32 × St) ⊕ ((Int32 × St))) :=
  nm (x4 + (1 : Int32)) fun x4_4 =>
  some (.inl (x3, x4_4, σ))
def f_X6_tidy_b129 (N : Nat) (x1 : Int32) (x2 : Int32) (x3 : Int32) (x4 : Int32) (x6 : Int32) (σ : St) : Option ((Int32 × St) ⊕ ((St))) :=
  if (σ.1 0 2) ≤ x6 then (some (.inr σ))
  else gd (ck x6 4) <|
  gd (ck x6 4) <|
  nm (wS σ 14 (Int32.toNatClampNeg x6) (σ.1 13 x6.toNatClampNeg)) fun σ_8 =>
  nm (x6 + (1 : Int32)) fun x6_9 =>
  some (.inl (x6_9, σ_8))
def f_X6_tidy_j123 (N : Nat) (x1 : Int32) (x2 : Int32) (x4 : Int32) (x5 : Int32) (σ : St) : Option ((Int32 × Int32 × St) ⊕ ((Int32 × St))) :=
  bd (lpF (fun s => f_X6_tidy_b129 N x1 x2 x5 x4 s.1 s.2) N ((0 : Int32), σ)) (fun o => f_X6_tidy_j158 N x1 x2 x5 x4 o)
def f_X6_tidy_j111 (N : Nat) (x1 : Int32) (x2 : Int32) (x3 : Int32) (x4 : Int32) (x5 : Int32) (σ : St) : Option ((Int32 × Int32 × St) ⊕ ((Int32 × St))) :=
  if x3 = (-9 : Int32) then (f_X6_tidy_j123 N x1 x2 x4 x5 σ)
  else if x3 ≤ x5 then (f_X6_tidy_j158 N x1 x2 x3 x4 σ)
  else f_X6_tidy_j123 N x1 x2 x4 x5 σ
def f_X6_tidy_j102 (N : Nat) (x1 : Int32) (x2 : Int32) (x3 : Int32) (x4 : Int32) (x6 : Int32) (y0 : Int32) (y1 : Int32) (σ : St) : Option ((Int32 × Int32) ⊕ ((Int32))) :=
  nm (y0 + y1) fun x5_12 =>
  nm (x6 + (1 : Int32)) fun x6_13 =>
  some (.inl (x5_12, x6_13))
def f_X6_tidy_b76 (N : Nat) (x1 : Int32) (x2 : Int32) (x3 : Int32) (x4 : Int32) (x5 : Int32) (x6 : Int32) (σ : St) : Option ((Int32 × Int32) ⊕ ((Int32))) :=
  if (σ.1 0 2) ≤ x6 then (some (.inr x5))
  else gd (ck x6 4) <|
  if (σ.1 13 x6.toNatClampNeg) = 0 then (f_X6_tidy_j102 N x1 x2 x3 x4 x6 x5 (1 : Int32) σ)
  else f_X6_tidy_j102 N x1 x2 x3 x4 x6 x5 (0 : Int32) σ
def f_X6_tidy_b55 (N : Nat) (x1 : Int32) (x2 : Int32) (x3 : Int32) (x4 : Int32) (σ : St) : Option ((Int32 × Int32 × St) ⊕ ((Int32 × St))) :=
  if x2 ≤ x4 then (some (.inr (x3, σ)))
  else bd2 (f_X6_canTidy N x4 σ) fun r_18 σ_19 =>
  if r_18 = 0 then (f_X6_tidy_j158 N x1 x2 x3 x4 σ_19)
  else bd (lpF (fun s => f_X6_tidy_b76 N x1 x2 x3 x4 s.1 s.2 σ_19) N ((0 : Int32), (0 : Int32))) (fun o => f_X6_tidy_j111 N x1 x2 x3 x4 o σ_19)
def f_X6_tidy_j49 (N : Nat) (x1 : Int32) (x2 : Int32) (σ : St) : Option (Int32 × St) :=
  bd (lpF (fun s => f_X6_tidy_b55 N x1 x2 s.1 s.2.1 s.2.2) N ((-9 : Int32), (0 : Int32), σ)) (fun o => f_X6_tidy_j164 N x1 o.1 o.2)
def f_X6_tidy_b26 (N : Nat) (x1 : Int32) (x2 : Int32) (x3 : Int32) (σ : St) : Option ((Int32 × Int32) ⊕ ((Int32))) :=
  if (σ.1 0 2) ≤ x3 then (some (.inr x2))
  else nm (x2 * ((σ.1 0 2) + (1 : Int32))) fun x2_23 =>
  nm (x3 + (1 : Int32)) fun x3_24 =>
  some (.inl (x2_23, x3_24))
def f_X6_tidy (N : Nat) (x1 : Int32) (σ : St) : Option (Int32 × St) :=
  bd (f_X6_within x1 (-1 : Int32) (3 : Int32)) fun r_25 =>
  if r_25 = 0 then (some ((-2 : Int32), σ))
  else if (σ.1 0 2) = 0 then (some ((-3 : Int32), σ))
    else bd (lpF (fun s => f_X6_tidy_b26 N x1 s.1 s.2 σ) N ((1 : Int32), (0 : Int32))) (fun o => f_X6_tidy_j49 N x1 o σ)
abbrev rmX6_tidy : Room := { frames := 3, cells := 0, slots := 0, locals := 68 }
set_option maxRecDepth 100000 in
set_option maxHeartbeats 4000000 in
theorem c_X6_tidy (l : Launch) (D : va_G) (a : Nat → Nat) (c : Nat → ClassId) (A : Nat → Prop) (hD : ∀ σ, va_D A (mW a c σ)) (N : Nat) (x1 : Int32) (σ : St) (r : Int32) (u : St) (hf : f_X6_tidy N x1 σ = some (r, u)) : MetI l yX6_tidy cX6_tidy 7 (some .int) rmX6_tidy (mW a c) D c A [.ref (a 0), .int x1] σ r u := by
  refine mkI (by decide) (Nat.le_of_ble_eq_true rfl) rfl ?_
  intro p e s m args below meth cd Q ls h0 hK hP hret hl
  obtain ⟨S, hr, hlk⟩ := h0
  obtain ⟨hx, hb, hml, hown, ht⟩ := id S
  have hS : va_S A s.heap s.heap [] := va_S.rf
  have hl : lv_has ls 7 [(0, .ref (a 0)), (1, .int x1)] := hl
  have hf := obs hf
  have j164 : ∀ (x1 : Int32) (x3 : Int32) (σ : St) (H : Heap) (locs : List Loc) (ls : Array Slot), lv_has ls 7 [(0, .ref (a 0)), (1, .int x1), (3, .int x3)] → va_P D vwCl (mW a c σ) H → va_S A s.heap H locs → Option.bind (f_X6_tidy_j164 N x1 x3 σ) some = some (r, u) → W p l e rmX6_tidy s m args below meth cd H locs 0 0 Q (F0 m 164 ls []) := by
    intro x1 x3 σ H locs ls hl hP hS hf
    have hf := oun (f_X6_tidy_j164.eq_1 _ _ _ _) hf
    refine lv_iload_n hx hb dX6_tidy_164 rfl (lv_at hl 1 rfl) ?_
    refine lv_iconst (v := (-1 : Int32)) hx hb dX6_tidy_165 (by decide) ?_
    refine lv_icmp_ne (tgt := 173) hx hb dX6_tidy_166 (by decide) (fun c_1 => ?_) (fun c_1 => ?_)
    · have hf := oif c_1 hf
      refine lv_iload_n hx hb dX6_tidy_173 rfl (lv_at hl 1 rfl) ?_
      refine lv_aload_n hx hb dX6_tidy_174 rfl (lv_at hl 0 rfl) ?_
      refine va_get (D := D) (ci := 4) (v := .int (σ.1 0 2)) (C := RX6) (T := TX6) (N := 27) hx hb ht gX6 hown hK.1 hP 0 (mw0 a c σ) rfl 5 (by decide) (ht _ q139) (fun _ h9 => h9) rfl dX6_tidy_175 ?_
      refine lv_icmp_ge (tgt := 190) hx hb dX6_tidy_178 (by decide) (fun c_2 => ?_) (fun c_2 => ?_)
      · have hf := oit c_2 hf
        refine lv_bipush (v := (-9 : Int32)) hx hb dX6_tidy_190 (by decide) ?_
        exact hret _ _ _ _ _ _ dX6_tidy_192 rfl hP hS (oret hf)
      have hf := oif c_2 hf
      refine lv_aload_n hx hb dX6_tidy_181 rfl (lv_at hl 0 rfl) ?_
      refine va_get (D := D) (ci := 4) (v := .ref (a 14)) (C := RX6) (T := TX6) (N := 27) hx hb ht gX6 hown hK.1 hP 0 (mw0 a c σ) rfl 21 (by decide) (ht _ q64) (fun _ h9 => h9) rfl dX6_tidy_182 ?_
      refine lv_iload_n hx hb dX6_tidy_185 rfl (lv_at hl 1 rfl) ?_
      obtain ⟨g_3, hf⟩ := ogd hf
      refine va_iald hx hb hK.1 hP 14 0 (mw14 a c σ) rfl (ck_in g_3) dX6_tidy_186 ?_
      refine lv_goto (tgt := 192) hx hb dX6_tidy_187 (by decide) ?_
      exact hret _ _ _ _ _ _ dX6_tidy_192 rfl hP hS (oret hf)
    have hf := oit c_1 hf
    refine lv_iload_n hx hb dX6_tidy_169 rfl (lv_at hl 2 rfl) ?_
    refine lv_goto (tgt := 192) hx hb dX6_tidy_170 (by decide) ?_
    exact hret _ _ _ _ _ _ dX6_tidy_192 rfl hP hS (oret hf)
  have L55 : ∀ (x1 : Int32) (x2 : Int32) (k : Nat) (x3 : Int32) (x4 : Int32) (σ : St) (H : Heap) (locs : List Loc) (ls : Array Slot), lv_has ls 7 [(0, .ref (a 0)), (1, .int x1), (2, .int x2), (3, .int x3), (4, .int x4)] → va_P D vwCl (mW a c σ) H → va_S A s.heap H locs → Option.bind (bd (lpF (fun s => f_X6_tidy_b55 N x1 x2 s.1 s.2.1 s.2.2) k (x3, x4, σ)) (fun o => f_X6_tidy_j164 N x1 o.1 o.2)) some = some (r, u) → W p l e rmX6_tidy s m args below meth cd H locs 0 0 Q (F0 m 55 ls []) := by
    intro x1 x2 k
    induction k with
    | zero =>
      intro x3 x4 σ H locs ls hl hP hS hf
      exact (ol0 hf).elim
    | succ k ih =>
      intro x3 x4 σ H locs ls hl hP hS hf
      obtain ⟨K55, hf, hc55, hx55⟩ := ol1 hf
      have j158 : ∀ (x3 : Int32) (x4 : Int32) (σ : St) (H : Heap) (locs : List Loc) (ls : Array Slot), lv_has ls 7 [(0, .ref (a 0)), (1, .int x1), (2, .int x2), (3, .int x3), (4, .int x4)] → va_P D vwCl (mW a c σ) H → va_S A s.heap H locs → Option.bind (f_X6_tidy_j158 N x1 x2 x3 x4 σ) K55 = some (r, u) → W p l e rmX6_tidy s m args below meth cd H locs 0 0 Q (F0 m 158 ls []) := by
        intro x3 x4 σ H locs ls hl hP hS hf
        have hf := oun (f_X6_tidy_j158.eq_1 _ _ _ _ _ _) hf
        obtain ⟨x4_4, ex4_4, hf⟩ := onm hf
        refine lv_iinc (v := x4_4) (lv' := [(4, .int x4_4), (0, .ref (a 0)), (1, .int x1), (2, .int x2), (3, .int x3)]) hx hb dX6_tidy_158 hl (k := 4) rfl ex4_4 (by decide) rfl (fun ls hl => ?_)
        refine lv_goto (tgt := 55) hx hb dX6_tidy_161 (by decide) ?_
        exact ih x3 x4_4 σ _ _ _ (lv_sub hl [1, 2, 3, 4, 0] rfl) hP hS (okx hf (hc55 _))
      have L129 : ∀ (x3 : Int32) (x4 : Int32) (k : Nat) (x6 : Int32) (σ : St) (H : Heap) (locs : List Loc) (ls : Array Slot), lv_has ls 7 [(0, .ref (a 0)), (1, .int x1), (2, .int x2), (3, .int x3), (4, .int x4), (6, .int x6)] → va_P D vwCl (mW a c σ) H → va_S A s.heap H locs → Option.bind (bd (lpF (fun s => f_X6_tidy_b129 N x1 x2 x3 x4 s.1 s.2) k (x6, σ)) (fun o => f_X6_tidy_j158 N x1 x2 x3 x4 o)) K55 = some (r, u) → W p l e rmX6_tidy s m args below meth cd H locs 0 0 Q (F0 m 129 ls []) := by
        intro x3 x4 k
        induction k with
        | zero =>
          intro x6 σ H locs ls hl hP hS hf
          exact (ol0 hf).elim
        | succ k ih =>
          intro x6 σ H locs ls hl hP hS hf
          obtain ⟨K129, hf, hc129, hx129⟩ := ol1 hf
          have hf := oun (f_X6_tidy_b129.eq_1 N x1 x2 x3 x4 x6 σ) hf
          refine lv_iload hx hb dX6_tidy_129 (lv_at hl 5 rfl) ?_
          refine lv_aload_n hx hb dX6_tidy_131 rfl (lv_at hl 0 rfl) ?_
          refine va_get (D := D) (ci := 4) (v := .int (σ.1 0 2)) (C := RX6) (T := TX6) (N := 27) hx hb ht gX6 hown hK.1 hP 0 (mw0 a c σ) rfl 5 (by decide) (ht _ q139) (fun _ h9 => h9) rfl dX6_tidy_132 ?_
          refine lv_icmp_ge (tgt := 158) hx hb dX6_tidy_135 (by decide) (fun c_5 => ?_) (fun c_5 => ?_)
          · have hf := oit c_5 hf
            exact j158 x3 x4 σ _ _ _ (lv_sub hl [0, 1, 2, 3, 4] rfl) hP hS (okx hf (hx129 _))
          have hf := oif c_5 hf
          refine lv_aload_n hx hb dX6_tidy_138 rfl (lv_at hl 0 rfl) ?_
          refine va_get (D := D) (ci := 4) (v := .ref (a 14)) (C := RX6) (T := TX6) (N := 27) hx hb ht gX6 hown hK.1 hP 0 (mw0 a c σ) rfl 21 (by decide) (ht _ q64) (fun _ h9 => h9) rfl dX6_tidy_139 ?_
          refine lv_iload hx hb dX6_tidy_142 (lv_at hl 5 rfl) ?_
          refine lv_aload_n hx hb dX6_tidy_144 rfl (lv_at hl 0 rfl) ?_
          refine va_get (D := D) (ci := 4) (v := .ref (a 13)) (C := RX6) (T := TX6) (N := 27) hx hb ht gX6 hown hK.1 hP 0 (mw0 a c σ) rfl 20 (by decide) (ht _ q63) (fun _ h9 => h9) rfl dX6_tidy_145 ?_
          refine lv_iload hx hb dX6_tidy_148 (lv_at hl 5 rfl) ?_
          obtain ⟨g_6, hf⟩ := ogd hf
          refine va_iald hx hb hK.1 hP 13 0 (mw13 a c σ) rfl (ck_in g_6) dX6_tidy_150 ?_
          obtain ⟨g_7, hf⟩ := ogd hf
          refine va_iast hx hb hK.1 hP (hD σ) hS 14 0 (mw14 a c σ) rfl (ck_in g_7) dX6_tidy_151 (fun H locs hP _ hS => ?_)
          have hP := vP_eq (mpA_m14 a c σ (Int32.toNatClampNeg x6) (σ.1 13 x6.toNatClampNeg)) hP
          obtain ⟨σ_8, eσ_8, hf⟩ := onm hf
          rw [eσ_8] at hP
          obtain ⟨x6_9, ex6_9, hf⟩ := onm hf
          refine lv_iinc (v := x6_9) (lv' := [(6, .int x6_9), (0, .ref (a 0)), (1, .int x1), (2, .int x2), (3, .int x3), (4, .int x4)]) hx hb dX6_tidy_152 hl (k := 5) rfl ex6_9 (by decide) rfl (fun ls hl => ?_)
          refine lv_goto (tgt := 129) hx hb dX6_tidy_155 (by decide) ?_
          exact ih x6_9 σ_8 _ _ _ (lv_sub hl [1, 2, 3, 4, 5, 0] rfl) hP hS (okx hf (hc129 _))
      have j123 : ∀ (x4 : Int32) (x5 : Int32) (σ : St) (H : Heap) (locs : List Loc) (ls : Array Slot), lv_has ls 7 [(0, .ref (a 0)), (1, .int x1), (2, .int x2), (4, .int x4), (5, .int x5)] → va_P D vwCl (mW a c σ) H → va_S A s.heap H locs → Option.bind (f_X6_tidy_j123 N x1 x2 x4 x5 σ) K55 = some (r, u) → W p l e rmX6_tidy s m args below meth cd H locs 0 0 Q (F0 m 123 ls []) := by
        intro x4 x5 σ H locs ls hl hP hS hf
        have hf := oun (f_X6_tidy_j123.eq_1 _ _ _ _ _ _) hf
        refine lv_iload hx hb dX6_tidy_123 (lv_at hl 4 rfl) ?_
        refine lv_istore_n (lv' := [(3, .int x5), (0, .ref (a 0)), (1, .int x1), (2, .int x2), (4, .int x4), (5, .int x5)]) hx hb dX6_tidy_125 rfl hl (by decide) rfl (fun ls hl => ?_)
        refine lv_iconst (v := (0 : Int32)) hx hb dX6_tidy_126 (by decide) ?_
        refine lv_istore (lv' := [(6, .int (0 : Int32)), (3, .int x5), (0, .ref (a 0)), (1, .int x1), (2, .int x2), (4, .int x4), (5, .int x5)]) hx hb dX6_tidy_127 hl (by decide) rfl (fun ls hl => ?_)
        exact L129 x5 x4 N (0 : Int32) σ _ _ _ (lv_sub hl [2, 3, 4, 1, 5, 0] rfl) hP hS hf
      have j111 : ∀ (x3 : Int32) (x4 : Int32) (x5 : Int32) (σ : St) (H : Heap) (locs : List Loc) (ls : Array Slot), lv_has ls 7 [(0, .ref (a 0)), (1, .int x1), (2, .int x2), (3, .int x3), (4, .int x4), (5, .int x5)] → va_P D vwCl (mW a c σ) H → va_S A s.heap H locs → Option.bind (f_X6_tidy_j111 N x1 x2 x3 x4 x5 σ) K55 = some (r, u) → W p l e rmX6_tidy s m args below meth cd H locs 0 0 Q (F0 m 111 ls []) := by
        intro x3 x4 x5 σ H locs ls hl hP hS hf
        have hf := oun (f_X6_tidy_j111.eq_1 _ _ _ _ _ _ _) hf
        refine lv_iload_n hx hb dX6_tidy_111 rfl (lv_at hl 3 rfl) ?_
        refine lv_bipush (v := (-9 : Int32)) hx hb dX6_tidy_112 (by decide) ?_
        refine lv_icmp_eq (tgt := 123) hx hb dX6_tidy_114 (by decide) (fun c_10 => ?_) (fun c_10 => ?_)
        · have hf := oit c_10 hf
          exact j123 x4 x5 σ _ _ _ (lv_sub hl [0, 1, 2, 4, 5] rfl) hP hS hf
        have hf := oif c_10 hf
        refine lv_iload hx hb dX6_tidy_117 (lv_at hl 5 rfl) ?_
        refine lv_iload_n hx hb dX6_tidy_119 rfl (lv_at hl 3 rfl) ?_
        refine lv_icmp_ge (tgt := 158) hx hb dX6_tidy_120 (by decide) (fun c_11 => ?_) (fun c_11 => ?_)
        · have hf := oit c_11 hf
          exact j158 x3 x4 σ _ _ _ (lv_sub hl [0, 1, 2, 3, 4] rfl) hP hS hf
        have hf := oif c_11 hf
        exact j123 x4 x5 σ _ _ _ (lv_sub hl [0, 1, 2, 4, 5] rfl) hP hS hf
      have L76 : ∀ (x3 : Int32) (x4 : Int32) (σ : St) (k : Nat) (x5 : Int32) (x6 : Int32) (H : Heap) (locs : List Loc) (ls : Array Slot), lv_has ls 7 [(0, .ref (a 0)), (1, .int x1), (2, .int x2), (3, .int x3), (4, .int x4), (5, .int x5), (6, .int x6)] → va_P D vwCl (mW a c σ) H → va_S A s.heap H locs → Option.bind (bd (lpF (fun s => f_X6_tidy_b76 N x1 x2 x3 x4 s.1 s.2 σ) k (x5, x6)) (fun o => f_X6_tidy_j111 N x1 x2 x3 x4 o σ)) K55 = some (r, u) → W p l e rmX6_tidy s m args below meth cd H locs 0 0 Q (F0 m 76 ls []) := by
        intro x3 x4 σ k
        induction k with
        | zero =>
          intro x5 x6 H locs ls hl hP hS hf
          exact (ol0 hf).elim
        | succ k ih =>
          intro x5 x6 H locs ls hl hP hS hf
          obtain ⟨K76, hf, hc76, hx76⟩ := ol1 hf
          have j102 : ∀ (x6 : Int32) (y0 : Int32) (y1 : Int32) (H : Heap) (locs : List Loc) (ls : Array Slot), lv_has ls 7 [(0, .ref (a 0)), (1, .int x1), (2, .int x2), (3, .int x3), (4, .int x4), (6, .int x6)] → va_P D vwCl (mW a c σ) H → va_S A s.heap H locs → Option.bind (f_X6_tidy_j102 N x1 x2 x3 x4 x6 y0 y1 σ) K76 = some (r, u) → W p l e rmX6_tidy s m args below meth cd H locs 0 0 Q (F0 m 102 ls [.int y1, .int y0]) := by
            intro x6 y0 y1 H locs ls hl hP hS hf
            have hf := oun (f_X6_tidy_j102.eq_1 _ _ _ _ _ _ _ _ _) hf
            refine lv_iadd hx hb dX6_tidy_102 ?_
            obtain ⟨x5_12, ex5_12, hf⟩ := onm hf
            refine lv_nm ex5_12 ?_
            refine lv_istore (lv' := [(5, .int x5_12), (0, .ref (a 0)), (1, .int x1), (2, .int x2), (3, .int x3), (4, .int x4), (6, .int x6)]) hx hb dX6_tidy_103 hl (by decide) rfl (fun ls hl => ?_)
            obtain ⟨x6_13, ex6_13, hf⟩ := onm hf
            refine lv_iinc (v := x6_13) (lv' := [(6, .int x6_13), (5, .int x5_12), (0, .ref (a 0)), (1, .int x1), (2, .int x2), (3, .int x3), (4, .int x4)]) hx hb dX6_tidy_105 hl (k := 6) rfl ex6_13 (by decide) rfl (fun ls hl => ?_)
            refine lv_goto (tgt := 76) hx hb dX6_tidy_108 (by decide) ?_
            exact ih x5_12 x6_13 _ _ _ (lv_sub hl [2, 3, 4, 5, 6, 1, 0] rfl) hP hS (okx hf (hc76 _))
          have hf := oun (f_X6_tidy_b76.eq_1 N x1 x2 x3 x4 x5 x6 σ) hf
          refine lv_iload hx hb dX6_tidy_76 (lv_at hl 6 rfl) ?_
          refine lv_aload_n hx hb dX6_tidy_78 rfl (lv_at hl 0 rfl) ?_
          refine va_get (D := D) (ci := 4) (v := .int (σ.1 0 2)) (C := RX6) (T := TX6) (N := 27) hx hb ht gX6 hown hK.1 hP 0 (mw0 a c σ) rfl 5 (by decide) (ht _ q139) (fun _ h9 => h9) rfl dX6_tidy_79 ?_
          refine lv_icmp_ge (tgt := 111) hx hb dX6_tidy_82 (by decide) (fun c_14 => ?_) (fun c_14 => ?_)
          · have hf := oit c_14 hf
            exact j111 x3 x4 x5 σ _ _ _ (lv_sub hl [0, 1, 2, 3, 4, 5] rfl) hP hS (okx hf (hx76 _))
          have hf := oif c_14 hf
          refine lv_iload hx hb dX6_tidy_85 (lv_at hl 5 rfl) ?_
          refine lv_aload_n hx hb dX6_tidy_87 rfl (lv_at hl 0 rfl) ?_
          refine va_get (D := D) (ci := 4) (v := .ref (a 13)) (C := RX6) (T := TX6) (N := 27) hx hb ht gX6 hown hK.1 hP 0 (mw0 a c σ) rfl 20 (by decide) (ht _ q63) (fun _ h9 => h9) rfl dX6_tidy_88 ?_
          refine lv_iload hx hb dX6_tidy_91 (lv_at hl 6 rfl) ?_
          obtain ⟨g_15, hf⟩ := ogd hf
          refine va_iald hx hb hK.1 hP 13 0 (mw13 a c σ) rfl (ck_in g_15) dX6_tidy_93 ?_
          refine lv_if_ne (tgt := 101) hx hb dX6_tidy_94 (by decide) (fun c_16 => ?_) (fun c_16 => ?_)
          · have hf := oif c_16 hf
            refine lv_iconst (v := (0 : Int32)) hx hb dX6_tidy_101 (by decide) ?_
            exact j102 x6 x5 (0 : Int32) _ _ _ (lv_sub hl [0, 1, 2, 3, 4, 6] rfl) hP hS hf
          have hf := oit c_16 hf
          refine lv_iconst (v := (1 : Int32)) hx hb dX6_tidy_97 (by decide) ?_
          refine lv_goto (tgt := 102) hx hb dX6_tidy_98 (by decide) ?_
          exact j102 x6 x5 (1 : Int32) _ _ _ (lv_sub hl [0, 1, 2, 3, 4, 6] rfl) hP hS hf
      have hf := oun (f_X6_tidy_b55.eq_1 N x1 x2 x3 x4 σ) hf
      refine lv_iload hx hb dX6_tidy_55 (lv_at hl 4 rfl) ?_
      refine lv_iload_n hx hb dX6_tidy_57 rfl (lv_at hl 2 rfl) ?_
      refine lv_icmp_ge (tgt := 164) hx hb dX6_tidy_58 (by decide) (fun c_17 => ?_) (fun c_17 => ?_)
      · have hf := oit c_17 hf
        exact j164 x1 x3 σ _ _ _ (lv_sub hl [0, 1, 3] rfl) hP hS (okx hf (hx55 _))
      have hf := oif c_17 hf
      refine lv_aload_n hx hb dX6_tidy_61 rfl (lv_at hl 0 rfl) ?_
      refine lv_iload hx hb dX6_tidy_62 (lv_at hl 4 rfl) ?_
      obtain ⟨r_18, σ_19, h_20, hf⟩ := obd2 hf
      refine xv_I (As := [.int x4]) (rest := []) S k_X6_canTidy q528 q529 q530 ⟨Nat.le_of_ble_eq_true rfl, Nat.le_of_ble_eq_true rfl⟩ ⟨rfl, rfl⟩ (c_X6_canTidy l D a c A hD N x4 σ r_18 σ_19 h_20) hK hP hS (va_recv hK.1 hP (rfl : vwCl[4]? = some (RX6, TX6, 27)) (mw0 a c σ)) rfl hl.1 rfl (Nat.le_of_ble_eq_true rfl) dX6_tidy_64 ⟨Nat.zero_le _, Nat.zero_le _⟩ (fun H locs hP hS => ?_)
      refine lv_if_eq (tgt := 158) hx hb dX6_tidy_67 (by decide) (fun c_21 => ?_) (fun c_21 => ?_)
      · have hf := oit c_21 hf
        exact j158 x3 x4 σ_19 _ _ _ (lv_sub hl [0, 1, 2, 3, 4] rfl) hP hS hf
      have hf := oif c_21 hf
      refine lv_iconst (v := (0 : Int32)) hx hb dX6_tidy_70 (by decide) ?_
      refine lv_istore (lv' := [(5, .int (0 : Int32)), (0, .ref (a 0)), (1, .int x1), (2, .int x2), (3, .int x3), (4, .int x4)]) hx hb dX6_tidy_71 hl (by decide) rfl (fun ls hl => ?_)
      refine lv_iconst (v := (0 : Int32)) hx hb dX6_tidy_73 (by decide) ?_
      refine lv_istore (lv' := [(6, .int (0 : Int32)), (5, .int (0 : Int32)), (0, .ref (a 0)), (1, .int x1), (2, .int x2), (3, .int x3), (4, .int x4)]) hx hb dX6_tidy_74 hl (by decide) rfl (fun ls hl => ?_)
      exact L76 x3 x4 σ_19 N (0 : Int32) (0 : Int32) _ _ _ (lv_sub hl [2, 3, 4, 5, 6, 1, 0] rfl) hP hS hf
  have j49 : ∀ (x1 : Int32) (x2 : Int32) (σ : St) (H : Heap) (locs : List Loc) (ls : Array Slot), lv_has ls 7 [(0, .ref (a 0)), (1, .int x1), (2, .int x2)] → va_P D vwCl (mW a c σ) H → va_S A s.heap H locs → Option.bind (f_X6_tidy_j49 N x1 x2 σ) some = some (r, u) → W p l e rmX6_tidy s m args below meth cd H locs 0 0 Q (F0 m 49 ls []) := by
    intro x1 x2 σ H locs ls hl hP hS hf
    have hf := oun (f_X6_tidy_j49.eq_1 _ _ _ _) hf
    refine lv_bipush (v := (-9 : Int32)) hx hb dX6_tidy_49 (by decide) ?_
    refine lv_istore_n (lv' := [(3, .int (-9 : Int32)), (0, .ref (a 0)), (1, .int x1), (2, .int x2)]) hx hb dX6_tidy_51 rfl hl (by decide) rfl (fun ls hl => ?_)
    refine lv_iconst (v := (0 : Int32)) hx hb dX6_tidy_52 (by decide) ?_
    refine lv_istore (lv' := [(4, .int (0 : Int32)), (3, .int (-9 : Int32)), (0, .ref (a 0)), (1, .int x1), (2, .int x2)]) hx hb dX6_tidy_53 hl (by decide) rfl (fun ls hl => ?_)
    exact L55 x1 x2 N (-9 : Int32) (0 : Int32) σ _ _ _ (lv_sub hl [2, 3, 4, 1, 0] rfl) hP hS hf
  have L26 : ∀ (x1 : Int32) (σ : St) (k : Nat) (x2 : Int32) (x3 : Int32) (H : Heap) (locs : List Loc) (ls : Array Slot), lv_has ls 7 [(0, .ref (a 0)), (1, .int x1), (2, .int x2), (3, .int x3)] → va_P D vwCl (mW a c σ) H → va_S A s.heap H locs → Option.bind (bd (lpF (fun s => f_X6_tidy_b26 N x1 s.1 s.2 σ) k (x2, x3)) (fun o => f_X6_tidy_j49 N x1 o σ)) some = some (r, u) → W p l e rmX6_tidy s m args below meth cd H locs 0 0 Q (F0 m 26 ls []) := by
    intro x1 σ k
    induction k with
    | zero =>
      intro x2 x3 H locs ls hl hP hS hf
      exact (ol0 hf).elim
    | succ k ih =>
      intro x2 x3 H locs ls hl hP hS hf
      obtain ⟨K26, hf, hc26, hx26⟩ := ol1 hf
      have hf := oun (f_X6_tidy_b26.eq_1 N x1 x2 x3 σ) hf
      refine lv_iload_n hx hb dX6_tidy_26 rfl (lv_at hl 3 rfl) ?_
      refine lv_aload_n hx hb dX6_tidy_27 rfl (lv_at hl 0 rfl) ?_
      refine va_get (D := D) (ci := 4) (v := .int (σ.1 0 2)) (C := RX6) (T := TX6) (N := 27) hx hb ht gX6 hown hK.1 hP 0 (mw0 a c σ) rfl 5 (by decide) (ht _ q139) (fun _ h9 => h9) rfl dX6_tidy_28 ?_
      refine lv_icmp_ge (tgt := 49) hx hb dX6_tidy_31 (by decide) (fun c_22 => ?_) (fun c_22 => ?_)
      · have hf := oit c_22 hf
        exact j49 x1 x2 σ _ _ _ (lv_sub hl [0, 1, 2] rfl) hP hS (okx hf (hx26 _))
      have hf := oif c_22 hf
      refine lv_iload_n hx hb dX6_tidy_34 rfl (lv_at hl 2 rfl) ?_
      refine lv_aload_n hx hb dX6_tidy_35 rfl (lv_at hl 0 rfl) ?_
      refine va_get (D := D) (ci := 4) (v := .int (σ.1 0 2)) (C := RX6) (T := TX6) (N := 27) hx hb ht gX6 hown hK.1 hP 0 (mw0 a c σ) rfl 5 (by decide) (ht _ q139) (fun _ h9 => h9) rfl dX6_tidy_36 ?_
      refine lv_iconst (v := (1 : Int32)) hx hb dX6_tidy_39 (by decide) ?_
      refine lv_iadd hx hb dX6_tidy_40 ?_
      refine lv_imul hx hb dX6_tidy_41 ?_
      obtain ⟨x2_23, ex2_23, hf⟩ := onm hf
      refine lv_nm ex2_23 ?_
      refine lv_istore_n (lv' := [(2, .int x2_23), (0, .ref (a 0)), (1, .int x1), (3, .int x3)]) hx hb dX6_tidy_42 rfl hl (by decide) rfl (fun ls hl => ?_)
      obtain ⟨x3_24, ex3_24, hf⟩ := onm hf
      refine lv_iinc (v := x3_24) (lv' := [(3, .int x3_24), (2, .int x2_23), (0, .ref (a 0)), (1, .int x1)]) hx hb dX6_tidy_43 hl (k := 3) rfl ex3_24 (by decide) rfl (fun ls hl => ?_)
      refine lv_goto (tgt := 26) hx hb dX6_tidy_46 (by decide) ?_
      exact ih x2_23 x3_24 _ _ _ (lv_sub hl [2, 3, 1, 0] rfl) hP hS (okx hf (hc26 _))
  have hf := oun (f_X6_tidy.eq_1 _ _ _) hf
  refine lv_iload_n hx hb dX6_tidy_0 rfl (lv_at hl 1 rfl) ?_
  refine lv_iconst (v := (-1 : Int32)) hx hb dX6_tidy_1 (by decide) ?_
  refine lv_iconst (v := (3 : Int32)) hx hb dX6_tidy_2 (by decide) ?_
  obtain ⟨r_25, h_26, hf⟩ := obd hf
  refine xs_S (As := [.int x1, .int (-1 : Int32), .int (3 : Int32)]) (rest := []) S k_X6_within q146 q147 ⟨Nat.le_of_ble_eq_true rfl, Nat.le_of_ble_eq_true rfl⟩ ⟨rfl, rfl⟩ (c_X6_within l x1 (-1 : Int32) (3 : Int32) r_25 h_26) hK.2 rfl hl.1 rfl (Nat.le_of_ble_eq_true rfl) dX6_tidy_3 ⟨Nat.zero_le _, Nat.zero_le _⟩ ?_
  refine lv_if_ne (tgt := 12) hx hb dX6_tidy_6 (by decide) (fun c_27 => ?_) (fun c_27 => ?_)
  · have hf := oif c_27 hf
    refine lv_aload_n hx hb dX6_tidy_12 rfl (lv_at hl 0 rfl) ?_
    refine va_get (D := D) (ci := 4) (v := .int (σ.1 0 2)) (C := RX6) (T := TX6) (N := 27) hx hb ht gX6 hown hK.1 hP 0 (mw0 a c σ) rfl 5 (by decide) (ht _ q139) (fun _ h9 => h9) rfl dX6_tidy_13 ?_
    refine lv_if_ne (tgt := 22) hx hb dX6_tidy_16 (by decide) (fun c_28 => ?_) (fun c_28 => ?_)
    · have hf := oif c_28 hf
      refine lv_iconst (v := (1 : Int32)) hx hb dX6_tidy_22 (by decide) ?_
      refine lv_istore_n (lv' := [(2, .int (1 : Int32)), (0, .ref (a 0)), (1, .int x1)]) hx hb dX6_tidy_23 rfl hl (by decide) rfl (fun ls hl => ?_)
      refine lv_iconst (v := (0 : Int32)) hx hb dX6_tidy_24 (by decide) ?_
      refine lv_istore_n (lv' := [(3, .int (0 : Int32)), (2, .int (1 : Int32)), (0, .ref (a 0)), (1, .int x1)]) hx hb dX6_tidy_25 rfl hl (by decide) rfl (fun ls hl => ?_)
      exact L26 x1 σ N (1 : Int32) (0 : Int32) _ _ _ (lv_sub hl [2, 3, 1, 0] rfl) hP hS hf
    have hf := oit c_28 hf
    refine lv_bipush (v := (-3 : Int32)) hx hb dX6_tidy_19 (by decide) ?_
    exact hret _ _ _ _ _ _ dX6_tidy_21 rfl hP hS (oret hf)
  have hf := oit c_27 hf
  refine lv_bipush (v := (-2 : Int32)) hx hb dX6_tidy_9 (by decide) ?_
  exact hret _ _ _ _ _ _ dX6_tidy_11 rfl hP hS (oret hf)
theorem dX6_chain_0 : decode cX6_chain 0 = .ok (.aload_n 0, 1) := by decide +kernel
theorem dX6_chain_1 : decode cX6_chain 1 = .ok (.getfield 75, 3) := by decide +kernel
theorem dX6_chain_4 : decode cX6_chain 4 = .ok (.ifCond .ne 6, 3) := by decide +kernel
theorem dX6_chain_7 : decode cX6_chain 7 = .ok (.bipush (-3), 2) := by decide +kernel
theorem dX6_chain_9 : decode cX6_chain 9 = .ok (.ireturn, 1) := by decide +kernel
theorem dX6_chain_10 : decode cX6_chain 10 = .ok (.iconst 0, 1) := by decide +kernel
theorem dX6_chain_11 : decode cX6_chain 11 = .ok (.istore_n 1, 1) := by decide +kernel
theorem dX6_chain_12 : decode cX6_chain 12 = .ok (.iload_n 1, 1) := by decide +kernel
theorem dX6_chain_13 : decode cX6_chain 13 = .ok (.aload_n 0, 1) := by decide +kernel
theorem dX6_chain_14 : decode cX6_chain 14 = .ok (.getfield 75, 3) := by decide +kernel
theorem dX6_chain_17 : decode cX6_chain 17 = .ok (.if_icmp .ge 16, 3) := by decide +kernel
theorem dX6_chain_20 : decode cX6_chain 20 = .ok (.aload_n 0, 1) := by decide +kernel
theorem dX6_chain_21 : decode cX6_chain 21 = .ok (.getfield 53, 3) := by decide +kernel
theorem dX6_chain_24 : decode cX6_chain 24 = .ok (.iload_n 1, 1) := by decide +kernel
theorem dX6_chain_25 : decode cX6_chain 25 = .ok (.iconst 1, 1) := by decide +kernel
theorem dX6_chain_26 : decode cX6_chain 26 = .ok (.iastore, 1) := by decide +kernel
theorem dX6_chain_27 : decode cX6_chain 27 = .ok (.iinc 1 1, 3) := by decide +kernel
theorem dX6_chain_30 : decode cX6_chain 30 = .ok (.goto (-18), 3) := by decide +kernel
theorem dX6_chain_33 : decode cX6_chain 33 = .ok (.iconst 1, 1) := by decide +kernel
theorem dX6_chain_34 : decode cX6_chain 34 = .ok (.istore_n 1, 1) := by decide +kernel
theorem dX6_chain_35 : decode cX6_chain 35 = .ok (.iconst 0, 1) := by decide +kernel
theorem dX6_chain_36 : decode cX6_chain 36 = .ok (.istore_n 2, 1) := by decide +kernel
theorem dX6_chain_37 : decode cX6_chain 37 = .ok (.iload_n 2, 1) := by decide +kernel
theorem dX6_chain_38 : decode cX6_chain 38 = .ok (.aload_n 0, 1) := by decide +kernel
theorem dX6_chain_39 : decode cX6_chain 39 = .ok (.getfield 75, 3) := by decide +kernel
theorem dX6_chain_42 : decode cX6_chain 42 = .ok (.if_icmp .ge 137, 3) := by decide +kernel
theorem dX6_chain_45 : decode cX6_chain 45 = .ok (.iconst 0, 1) := by decide +kernel
theorem dX6_chain_46 : decode cX6_chain 46 = .ok (.istore_n 3, 1) := by decide +kernel
theorem dX6_chain_47 : decode cX6_chain 47 = .ok (.iload_n 3, 1) := by decide +kernel
theorem dX6_chain_48 : decode cX6_chain 48 = .ok (.aload_n 0, 1) := by decide +kernel
theorem dX6_chain_49 : decode cX6_chain 49 = .ok (.getfield 75, 3) := by decide +kernel
theorem dX6_chain_52 : decode cX6_chain 52 = .ok (.if_icmp .ge 121, 3) := by decide +kernel
theorem dX6_chain_55 : decode cX6_chain 55 = .ok (.iconst 0, 1) := by decide +kernel
theorem dX6_chain_56 : decode cX6_chain 56 = .ok (.istore 4, 2) := by decide +kernel
theorem dX6_chain_58 : decode cX6_chain 58 = .ok (.iload 4, 2) := by decide +kernel
theorem dX6_chain_60 : decode cX6_chain 60 = .ok (.aload_n 0, 1) := by decide +kernel
theorem dX6_chain_61 : decode cX6_chain 61 = .ok (.getfield 75, 3) := by decide +kernel
theorem dX6_chain_64 : decode cX6_chain 64 = .ok (.if_icmp .ge 103, 3) := by decide +kernel
theorem dX6_chain_67 : decode cX6_chain 67 = .ok (.iload_n 3, 1) := by decide +kernel
theorem dX6_chain_68 : decode cX6_chain 68 = .ok (.iload 4, 2) := by decide +kernel
theorem dX6_chain_70 : decode cX6_chain 70 = .ok (.if_icmp .eq 35, 3) := by decide +kernel
theorem dX6_chain_73 : decode cX6_chain 73 = .ok (.aload_n 0, 1) := by decide +kernel
theorem dX6_chain_74 : decode cX6_chain 74 = .ok (.iload_n 3, 1) := by decide +kernel
theorem dX6_chain_75 : decode cX6_chain 75 = .ok (.iload 4, 2) := by decide +kernel
theorem dX6_chain_77 : decode cX6_chain 77 = .ok (.invokevirtual 143, 3) := by decide +kernel
theorem dX6_chain_80 : decode cX6_chain 80 = .ok (.ifCond .eq 25, 3) := by decide +kernel
theorem dX6_chain_83 : decode cX6_chain 83 = .ok (.aload_n 0, 1) := by decide +kernel
theorem dX6_chain_84 : decode cX6_chain 84 = .ok (.getfield 53, 3) := by decide +kernel
theorem dX6_chain_87 : decode cX6_chain 87 = .ok (.iload_n 3, 1) := by decide +kernel
theorem dX6_chain_88 : decode cX6_chain 88 = .ok (.iaload, 1) := by decide +kernel
theorem dX6_chain_89 : decode cX6_chain 89 = .ok (.iconst 1, 1) := by decide +kernel
theorem dX6_chain_90 : decode cX6_chain 90 = .ok (.iadd, 1) := by decide +kernel
theorem dX6_chain_91 : decode cX6_chain 91 = .ok (.aload_n 0, 1) := by decide +kernel
theorem dX6_chain_92 : decode cX6_chain 92 = .ok (.getfield 53, 3) := by decide +kernel
theorem dX6_chain_95 : decode cX6_chain 95 = .ok (.iload 4, 2) := by decide +kernel
theorem dX6_chain_97 : decode cX6_chain 97 = .ok (.iaload, 1) := by decide +kernel
theorem dX6_chain_98 : decode cX6_chain 98 = .ok (.if_icmp .le 7, 3) := by decide +kernel
theorem dX6_chain_101 : decode cX6_chain 101 = .ok (.iconst 1, 1) := by decide +kernel
theorem dX6_chain_102 : decode cX6_chain 102 = .ok (.goto 4, 3) := by decide +kernel
theorem dX6_chain_105 : decode cX6_chain 105 = .ok (.iconst 0, 1) := by decide +kernel
theorem dX6_chain_106 : decode cX6_chain 106 = .ok (.istore 5, 2) := by decide +kernel
theorem dX6_chain_108 : decode cX6_chain 108 = .ok (.aload_n 0, 1) := by decide +kernel
theorem dX6_chain_109 : decode cX6_chain 109 = .ok (.getfield 53, 3) := by decide +kernel
theorem dX6_chain_112 : decode cX6_chain 112 = .ok (.iload 4, 2) := by decide +kernel
theorem dX6_chain_114 : decode cX6_chain 114 = .ok (.iload 5, 2) := by decide +kernel
theorem dX6_chain_116 : decode cX6_chain 116 = .ok (.ifCond .eq 14, 3) := by decide +kernel
theorem dX6_chain_119 : decode cX6_chain 119 = .ok (.aload_n 0, 1) := by decide +kernel
theorem dX6_chain_120 : decode cX6_chain 120 = .ok (.getfield 53, 3) := by decide +kernel
theorem dX6_chain_123 : decode cX6_chain 123 = .ok (.iload_n 3, 1) := by decide +kernel
theorem dX6_chain_124 : decode cX6_chain 124 = .ok (.iaload, 1) := by decide +kernel
theorem dX6_chain_125 : decode cX6_chain 125 = .ok (.iconst 1, 1) := by decide +kernel
theorem dX6_chain_126 : decode cX6_chain 126 = .ok (.iadd, 1) := by decide +kernel
theorem dX6_chain_127 : decode cX6_chain 127 = .ok (.goto 10, 3) := by decide +kernel
theorem dX6_chain_130 : decode cX6_chain 130 = .ok (.aload_n 0, 1) := by decide +kernel
theorem dX6_chain_131 : decode cX6_chain 131 = .ok (.getfield 53, 3) := by decide +kernel
theorem dX6_chain_134 : decode cX6_chain 134 = .ok (.iload 4, 2) := by decide +kernel
theorem dX6_chain_136 : decode cX6_chain 136 = .ok (.iaload, 1) := by decide +kernel
theorem dX6_chain_137 : decode cX6_chain 137 = .ok (.iastore, 1) := by decide +kernel
theorem dX6_chain_138 : decode cX6_chain 138 = .ok (.aload_n 0, 1) := by decide +kernel
theorem dX6_chain_139 : decode cX6_chain 139 = .ok (.getfield 53, 3) := by decide +kernel
theorem dX6_chain_142 : decode cX6_chain 142 = .ok (.iload 4, 2) := by decide +kernel
theorem dX6_chain_144 : decode cX6_chain 144 = .ok (.iaload, 1) := by decide +kernel
theorem dX6_chain_145 : decode cX6_chain 145 = .ok (.iload_n 1, 1) := by decide +kernel
theorem dX6_chain_146 : decode cX6_chain 146 = .ok (.if_icmp .le 13, 3) := by decide +kernel
theorem dX6_chain_149 : decode cX6_chain 149 = .ok (.aload_n 0, 1) := by decide +kernel
theorem dX6_chain_150 : decode cX6_chain 150 = .ok (.getfield 53, 3) := by decide +kernel
theorem dX6_chain_153 : decode cX6_chain 153 = .ok (.iload 4, 2) := by decide +kernel
theorem dX6_chain_155 : decode cX6_chain 155 = .ok (.iaload, 1) := by decide +kernel
theorem dX6_chain_156 : decode cX6_chain 156 = .ok (.goto 4, 3) := by decide +kernel
theorem dX6_chain_159 : decode cX6_chain 159 = .ok (.iload_n 1, 1) := by decide +kernel
theorem dX6_chain_160 : decode cX6_chain 160 = .ok (.istore_n 1, 1) := by decide +kernel
theorem dX6_chain_161 : decode cX6_chain 161 = .ok (.iinc 4 1, 3) := by decide +kernel
theorem dX6_chain_164 : decode cX6_chain 164 = .ok (.goto (-106), 3) := by decide +kernel
theorem dX6_chain_167 : decode cX6_chain 167 = .ok (.iinc 3 1, 3) := by decide +kernel
theorem dX6_chain_170 : decode cX6_chain 170 = .ok (.goto (-123), 3) := by decide +kernel
theorem dX6_chain_173 : decode cX6_chain 173 = .ok (.iinc 2 1, 3) := by decide +kernel
theorem dX6_chain_176 : decode cX6_chain 176 = .ok (.goto (-139), 3) := by decide +kernel
theorem dX6_chain_179 : decode cX6_chain 179 = .ok (.iload_n 1, 1) := by decide +kernel
theorem dX6_chain_180 : decode cX6_chain 180 = .ok (.ireturn, 1) := by decide +kernel
def f_X6_chain_j179 (N : Nat) (x1 : Int32) (σ : St) : Option (Int32 × St) :=
  some (x1, σ)
def f_X6_chain_j173 (N : Nat) (x1 : Int32) (x2 : Int32) (σ : St) : Option ((Int32 × Int32 × St) ⊕ ((Int32 × St))) :=
  nm (x2 + (1 : Int32)) fun x2_1 =>
  some (.inl (x1, x2_1, σ))
def f_X6_chain_j167 (N : Nat) (x1 : Int32) (x2 : Int32) (x3 : Int32) (σ : St) : Option ((Int32 × Int32 × St) ⊕ ((Int32 × St))) :=
  nm (x3 + (1 : Int32)) fun x3_2 =>
  some (.inl (x1, x3_2, σ))
def f_X6_chain_j160 (N : Nat) (x2 : Int32) (x3 : Int32) (x4 : Int32) (y0 : Int32) (σ : St) : Option ((Int32 × Int32 × St) ⊕ ((Int32 × St))) :=
  nm (x4 + (1 : Int32)) fun x4_3 =>
  some (.inl (y0, x4_3, σ))
def f_X6_chain_j137 (N : Nat) (x1 : Int32) (x2 : Int32) (x3 : Int32) (x4 : Int32) (y1 : Int32) (y2 : Int32) (σ : St) : Option ((Int32 × Int32 × St) ⊕ ((Int32 × St))) :=
  gd (ck y1 4) <|
  nm (wS σ 15 (Int32.toNatClampNeg y1) y2) fun σ_5 =>
  gd (ck x4 4) <|
  if (σ_5.1 15 x4.toNatClampNeg) ≤ x1 then (f_X6_chain_j160 N x2 x3 x4 x1 σ_5)
  else gd (ck x4 4) <|
  f_X6_chain_j160 N x2 x3 x4 (σ_5.1 15 x4.toNatClampNeg) σ_5
def f_X6_chain_j106 (N : Nat) (x1 : Int32) (x2 : Int32) (x3 : Int32) (x4 : Int32) (y0 : Int32) (σ : St) : Option ((Int32 × Int32 × St) ⊕ ((Int32 × St))) :=
  if y0 = 0 then (gd (ck x4 4) <|
    f_X6_chain_j137 N x1 x2 x3 x4 x4 (σ.1 15 x4.toNatClampNeg) σ)
  else gd (ck x3 4) <|
  f_X6_chain_j137 N x1 x2 x3 x4 x4 ((σ.1 15 x3.toNatClampNeg) + (1 : Int32)) σ
def f_X6_chain_j105 (N : Nat) (x1 : Int32) (x2 : Int32) (x3 : Int32) (x4 : Int32) (σ : St) : Option ((Int32 × Int32 × St) ⊕ ((Int32 × St))) :=
  f_X6_chain_j106 N x1 x2 x3 x4 (0 : Int32) σ
def f_X6_chain_b58 (N : Nat) (x1 : Int32) (x2 : Int32) (x3 : Int32) (x4 : Int32) (σ : St) : Option ((Int32 × Int32 × St) ⊕ ((Int32 × St))) :=
  if (σ.1 0 2) ≤ x4 then (some (.inr (x1, σ)))
  else if x3 = x4 then (f_X6_chain_j105 N x1 x2 x3 x4 σ)
  else bd (f_X6_fitsInto x3 x4 σ) fun r_14 =>
  if r_14 = 0 then (f_X6_chain_j105 N x1 x2 x3 x4 σ)
  else gd (ck x3 4) <|
  gd (ck x4 4) <|
  if ((σ.1 15 x3.toNatClampNeg) + (1 : Int32)) ≤ (σ.1 15 x4.toNatClampNeg) then (f_X6_chain_j105 N x1 x2 x3 x4 σ)
  else f_X6_chain_j106 N x1 x2 x3 x4 (1 : Int32) σ
def f_X6_chain_b47 (N : Nat) (x1 : Int32) (x2 : Int32) (x3 : Int32) (σ : St) : Option ((Int32 × Int32 × St) ⊕ ((Int32 × St))) :=
  if (σ.1 0 2) ≤ x3 then (some (.inr (x1, σ)))
  else bd (lpF (fun s => f_X6_chain_b58 N s.1 x2 x3 s.2.1 s.2.2) N (x1, (0 : Int32), σ)) (fun o => f_X6_chain_j167 N o.1 x2 x3 o.2)
def f_X6_chain_b37 (N : Nat) (x1 : Int32) (x2 : Int32) (σ : St) : Option ((Int32 × Int32 × St) ⊕ ((Int32 × St))) :=
  if (σ.1 0 2) ≤ x2 then (some (.inr (x1, σ)))
  else bd (lpF (fun s => f_X6_chain_b47 N s.1 x2 s.2.1 s.2.2) N (x1, (0 : Int32), σ)) (fun o => f_X6_chain_j173 N o.1 x2 o.2)
def f_X6_chain_j33 (N : Nat) (σ : St) : Option (Int32 × St) :=
  bd (lpF (fun s => f_X6_chain_b37 N s.1 s.2.1 s.2.2) N ((1 : Int32), (0 : Int32), σ)) (fun o => f_X6_chain_j179 N o.1 o.2)
def f_X6_chain_b12 (N : Nat) (x1 : Int32) (σ : St) : Option ((Int32 × St) ⊕ ((St))) :=
  if (σ.1 0 2) ≤ x1 then (some (.inr σ))
  else gd (ck x1 4) <|
  nm (wS σ 15 (Int32.toNatClampNeg x1) (1 : Int32)) fun σ_24 =>
  nm (x1 + (1 : Int32)) fun x1_25 =>
  some (.inl (x1_25, σ_24))
def f_X6_chain (N : Nat) (σ : St) : Option (Int32 × St) :=
  if (σ.1 0 2) = 0 then (some ((-3 : Int32), σ))
  else bd (lpF (fun s => f_X6_chain_b12 N s.1 s.2) N ((0 : Int32), σ)) (fun o => f_X6_chain_j33 N o)
abbrev rmX6_chain : Room := { frames := 2, cells := 0, slots := 0, locals := 43 }
set_option maxRecDepth 100000 in
set_option maxHeartbeats 4000000 in
theorem c_X6_chain (l : Launch) (D : va_G) (a : Nat → Nat) (c : Nat → ClassId) (A : Nat → Prop) (hD : ∀ σ, va_D A (mW a c σ)) (N : Nat) (σ : St) (r : Int32) (u : St) (hf : f_X6_chain N σ = some (r, u)) : MetI l yX6_chain cX6_chain 6 (some .int) rmX6_chain (mW a c) D c A [.ref (a 0)] σ r u := by
  refine mkI (by decide) (Nat.le_of_ble_eq_true rfl) rfl ?_
  intro p e s m args below meth cd Q ls h0 hK hP hret hl
  obtain ⟨S, hr, hlk⟩ := h0
  obtain ⟨hx, hb, hml, hown, ht⟩ := id S
  have hS : va_S A s.heap s.heap [] := va_S.rf
  have hl : lv_has ls 6 [(0, .ref (a 0))] := hl
  have hf := obs hf
  have j179 : ∀ (x1 : Int32) (σ : St) (H : Heap) (locs : List Loc) (ls : Array Slot), lv_has ls 6 [(1, .int x1)] → va_P D vwCl (mW a c σ) H → va_S A s.heap H locs → Option.bind (f_X6_chain_j179 N x1 σ) some = some (r, u) → W p l e rmX6_chain s m args below meth cd H locs 0 0 Q (F0 m 179 ls []) := by
    intro x1 σ H locs ls hl hP hS hf
    have hf := oun (f_X6_chain_j179.eq_1 _ _ _) hf
    refine lv_iload_n hx hb dX6_chain_179 rfl (lv_at hl 0 rfl) ?_
    exact hret _ _ _ _ _ _ dX6_chain_180 rfl hP hS (oret hf)
  have L37 : ∀ (k : Nat) (x1 : Int32) (x2 : Int32) (σ : St) (H : Heap) (locs : List Loc) (ls : Array Slot), lv_has ls 6 [(0, .ref (a 0)), (1, .int x1), (2, .int x2)] → va_P D vwCl (mW a c σ) H → va_S A s.heap H locs → Option.bind (bd (lpF (fun s => f_X6_chain_b37 N s.1 s.2.1 s.2.2) k (x1, x2, σ)) (fun o => f_X6_chain_j179 N o.1 o.2)) some = some (r, u) → W p l e rmX6_chain s m args below meth cd H locs 0 0 Q (F0 m 37 ls []) := by
    intro k
    induction k with
    | zero =>
      intro x1 x2 σ H locs ls hl hP hS hf
      exact (ol0 hf).elim
    | succ k ih =>
      intro x1 x2 σ H locs ls hl hP hS hf
      obtain ⟨K37, hf, hc37, hx37⟩ := ol1 hf
      have j173 : ∀ (x1 : Int32) (x2 : Int32) (σ : St) (H : Heap) (locs : List Loc) (ls : Array Slot), lv_has ls 6 [(0, .ref (a 0)), (1, .int x1), (2, .int x2)] → va_P D vwCl (mW a c σ) H → va_S A s.heap H locs → Option.bind (f_X6_chain_j173 N x1 x2 σ) K37 = some (r, u) → W p l e rmX6_chain s m args below meth cd H locs 0 0 Q (F0 m 173 ls []) := by
        intro x1 x2 σ H locs ls hl hP hS hf
        have hf := oun (f_X6_chain_j173.eq_1 _ _ _ _) hf
        obtain ⟨x2_1, ex2_1, hf⟩ := onm hf
        refine lv_iinc (v := x2_1) (lv' := [(2, .int x2_1), (0, .ref (a 0)), (1, .int x1)]) hx hb dX6_chain_173 hl (k := 2) rfl ex2_1 (by decide) rfl (fun ls hl => ?_)
        refine lv_goto (tgt := 37) hx hb dX6_chain_176 (by decide) ?_
        exact ih x1 x2_1 σ _ _ _ (lv_sub hl [1, 2, 0] rfl) hP hS (okx hf (hc37 _))
      have L47 : ∀ (x2 : Int32) (k : Nat) (x1 : Int32) (x3 : Int32) (σ : St) (H : Heap) (locs : List Loc) (ls : Array Slot), lv_has ls 6 [(0, .ref (a 0)), (1, .int x1), (2, .int x2), (3, .int x3)] → va_P D vwCl (mW a c σ) H → va_S A s.heap H locs → Option.bind (bd (lpF (fun s => f_X6_chain_b47 N s.1 x2 s.2.1 s.2.2) k (x1, x3, σ)) (fun o => f_X6_chain_j173 N o.1 x2 o.2)) K37 = some (r, u) → W p l e rmX6_chain s m args below meth cd H locs 0 0 Q (F0 m 47 ls []) := by
        intro x2 k
        induction k with
        | zero =>
          intro x1 x3 σ H locs ls hl hP hS hf
          exact (ol0 hf).elim
        | succ k ih =>
          intro x1 x3 σ H locs ls hl hP hS hf
          obtain ⟨K47, hf, hc47, hx47⟩ := ol1 hf
          have j167 : ∀ (x1 : Int32) (x3 : Int32) (σ : St) (H : Heap) (locs : List Loc) (ls : Array Slot), lv_has ls 6 [(0, .ref (a 0)), (1, .int x1), (2, .int x2), (3, .int x3)] → va_P D vwCl (mW a c σ) H → va_S A s.heap H locs → Option.bind (f_X6_chain_j167 N x1 x2 x3 σ) K47 = some (r, u) → W p l e rmX6_chain s m args below meth cd H locs 0 0 Q (F0 m 167 ls []) := by
            intro x1 x3 σ H locs ls hl hP hS hf
            have hf := oun (f_X6_chain_j167.eq_1 _ _ _ _ _) hf
            obtain ⟨x3_2, ex3_2, hf⟩ := onm hf
            refine lv_iinc (v := x3_2) (lv' := [(3, .int x3_2), (0, .ref (a 0)), (1, .int x1), (2, .int x2)]) hx hb dX6_chain_167 hl (k := 3) rfl ex3_2 (by decide) rfl (fun ls hl => ?_)
            refine lv_goto (tgt := 47) hx hb dX6_chain_170 (by decide) ?_
            exact ih x1 x3_2 σ _ _ _ (lv_sub hl [1, 2, 3, 0] rfl) hP hS (okx hf (hc47 _))
          have L58 : ∀ (x3 : Int32) (k : Nat) (x1 : Int32) (x4 : Int32) (σ : St) (H : Heap) (locs : List Loc) (ls : Array Slot), lv_has ls 6 [(0, .ref (a 0)), (1, .int x1), (2, .int x2), (3, .int x3), (4, .int x4)] → va_P D vwCl (mW a c σ) H → va_S A s.heap H locs → Option.bind (bd (lpF (fun s => f_X6_chain_b58 N s.1 x2 x3 s.2.1 s.2.2) k (x1, x4, σ)) (fun o => f_X6_chain_j167 N o.1 x2 x3 o.2)) K47 = some (r, u) → W p l e rmX6_chain s m args below meth cd H locs 0 0 Q (F0 m 58 ls []) := by
            intro x3 k
            induction k with
            | zero =>
              intro x1 x4 σ H locs ls hl hP hS hf
              exact (ol0 hf).elim
            | succ k ih =>
              intro x1 x4 σ H locs ls hl hP hS hf
              obtain ⟨K58, hf, hc58, hx58⟩ := ol1 hf
              have j160 : ∀ (x4 : Int32) (y0 : Int32) (σ : St) (H : Heap) (locs : List Loc) (ls : Array Slot), lv_has ls 6 [(0, .ref (a 0)), (2, .int x2), (3, .int x3), (4, .int x4)] → va_P D vwCl (mW a c σ) H → va_S A s.heap H locs → Option.bind (f_X6_chain_j160 N x2 x3 x4 y0 σ) K58 = some (r, u) → W p l e rmX6_chain s m args below meth cd H locs 0 0 Q (F0 m 160 ls [.int y0]) := by
                intro x4 y0 σ H locs ls hl hP hS hf
                have hf := oun (f_X6_chain_j160.eq_1 _ _ _ _ _ _) hf
                refine lv_istore_n (lv' := [(1, .int y0), (0, .ref (a 0)), (2, .int x2), (3, .int x3), (4, .int x4)]) hx hb dX6_chain_160 rfl hl (by decide) rfl (fun ls hl => ?_)
                obtain ⟨x4_3, ex4_3, hf⟩ := onm hf
                refine lv_iinc (v := x4_3) (lv' := [(4, .int x4_3), (1, .int y0), (0, .ref (a 0)), (2, .int x2), (3, .int x3)]) hx hb dX6_chain_161 hl (k := 4) rfl ex4_3 (by decide) rfl (fun ls hl => ?_)
                refine lv_goto (tgt := 58) hx hb dX6_chain_164 (by decide) ?_
                exact ih y0 x4_3 σ _ _ _ (lv_sub hl [2, 1, 3, 4, 0] rfl) hP hS (okx hf (hc58 _))
              have j137 : ∀ (x1 : Int32) (x4 : Int32) (y1 : Int32) (y2 : Int32) (σ : St) (H : Heap) (locs : List Loc) (ls : Array Slot), lv_has ls 6 [(0, .ref (a 0)), (1, .int x1), (2, .int x2), (3, .int x3), (4, .int x4)] → va_P D vwCl (mW a c σ) H → va_S A s.heap H locs → Option.bind (f_X6_chain_j137 N x1 x2 x3 x4 y1 y2 σ) K58 = some (r, u) → W p l e rmX6_chain s m args below meth cd H locs 0 0 Q (F0 m 137 ls [.int y2, .int y1, .ref (a 15)]) := by
                intro x1 x4 y1 y2 σ H locs ls hl hP hS hf
                have hf := oun (f_X6_chain_j137.eq_1 _ _ _ _ _ _ _ _) hf
                obtain ⟨g_4, hf⟩ := ogd hf
                refine va_iast hx hb hK.1 hP (hD σ) hS 15 0 (mw15 a c σ) rfl (ck_in g_4) dX6_chain_137 (fun H locs hP _ hS => ?_)
                have hP := vP_eq (mpA_m15 a c σ (Int32.toNatClampNeg y1) y2) hP
                obtain ⟨σ_5, eσ_5, hf⟩ := onm hf
                rw [eσ_5] at hP
                refine lv_aload_n hx hb dX6_chain_138 rfl (lv_at hl 0 rfl) ?_
                refine va_get (D := D) (ci := 4) (v := .ref (a 15)) (C := RX6) (T := TX6) (N := 27) hx hb ht gX6 hown hK.1 hP 0 (mw0 a c σ_5) rfl 22 (by decide) (ht _ q65) (fun _ h9 => h9) rfl dX6_chain_139 ?_
                refine lv_iload hx hb dX6_chain_142 (lv_at hl 4 rfl) ?_
                obtain ⟨g_6, hf⟩ := ogd hf
                refine va_iald hx hb hK.1 hP 15 0 (mw15 a c σ_5) rfl (ck_in g_6) dX6_chain_144 ?_
                refine lv_iload_n hx hb dX6_chain_145 rfl (lv_at hl 1 rfl) ?_
                refine lv_icmp_le (tgt := 159) hx hb dX6_chain_146 (by decide) (fun c_7 => ?_) (fun c_7 => ?_)
                · have hf := oit c_7 hf
                  refine lv_iload_n hx hb dX6_chain_159 rfl (lv_at hl 1 rfl) ?_
                  exact j160 x4 x1 σ_5 _ _ _ (lv_sub hl [0, 2, 3, 4] rfl) hP hS hf
                have hf := oif c_7 hf
                refine lv_aload_n hx hb dX6_chain_149 rfl (lv_at hl 0 rfl) ?_
                refine va_get (D := D) (ci := 4) (v := .ref (a 15)) (C := RX6) (T := TX6) (N := 27) hx hb ht gX6 hown hK.1 hP 0 (mw0 a c σ_5) rfl 22 (by decide) (ht _ q65) (fun _ h9 => h9) rfl dX6_chain_150 ?_
                refine lv_iload hx hb dX6_chain_153 (lv_at hl 4 rfl) ?_
                obtain ⟨g_8, hf⟩ := ogd hf
                refine va_iald hx hb hK.1 hP 15 0 (mw15 a c σ_5) rfl (ck_in g_8) dX6_chain_155 ?_
                refine lv_goto (tgt := 160) hx hb dX6_chain_156 (by decide) ?_
                exact j160 x4 (σ_5.1 15 x4.toNatClampNeg) σ_5 _ _ _ (lv_sub hl [0, 2, 3, 4] rfl) hP hS hf
              have j106 : ∀ (x1 : Int32) (x4 : Int32) (y0 : Int32) (σ : St) (H : Heap) (locs : List Loc) (ls : Array Slot), lv_has ls 6 [(0, .ref (a 0)), (1, .int x1), (2, .int x2), (3, .int x3), (4, .int x4)] → va_P D vwCl (mW a c σ) H → va_S A s.heap H locs → Option.bind (f_X6_chain_j106 N x1 x2 x3 x4 y0 σ) K58 = some (r, u) → W p l e rmX6_chain s m args below meth cd H locs 0 0 Q (F0 m 106 ls [.int y0]) := by
                intro x1 x4 y0 σ H locs ls hl hP hS hf
                have hf := oun (f_X6_chain_j106.eq_1 _ _ _ _ _ _ _) hf
                refine lv_istore (lv' := [(5, .int y0), (0, .ref (a 0)), (1, .int x1), (2, .int x2), (3, .int x3), (4, .int x4)]) hx hb dX6_chain_106 hl (by decide) rfl (fun ls hl => ?_)
                refine lv_aload_n hx hb dX6_chain_108 rfl (lv_at hl 1 rfl) ?_
                refine va_get (D := D) (ci := 4) (v := .ref (a 15)) (C := RX6) (T := TX6) (N := 27) hx hb ht gX6 hown hK.1 hP 0 (mw0 a c σ) rfl 22 (by decide) (ht _ q65) (fun _ h9 => h9) rfl dX6_chain_109 ?_
                refine lv_iload hx hb dX6_chain_112 (lv_at hl 5 rfl) ?_
                refine lv_iload hx hb dX6_chain_114 (lv_at hl 0 rfl) ?_
                refine lv_if_eq (tgt := 130) hx hb dX6_chain_116 (by decide) (fun c_9 => ?_) (fun c_9 => ?_)
                · have hf := oit c_9 hf
                  refine lv_aload_n hx hb dX6_chain_130 rfl (lv_at hl 1 rfl) ?_
                  refine va_get (D := D) (ci := 4) (v := .ref (a 15)) (C := RX6) (T := TX6) (N := 27) hx hb ht gX6 hown hK.1 hP 0 (mw0 a c σ) rfl 22 (by decide) (ht _ q65) (fun _ h9 => h9) rfl dX6_chain_131 ?_
                  refine lv_iload hx hb dX6_chain_134 (lv_at hl 5 rfl) ?_
                  obtain ⟨g_10, hf⟩ := ogd hf
                  refine va_iald hx hb hK.1 hP 15 0 (mw15 a c σ) rfl (ck_in g_10) dX6_chain_136 ?_
                  exact j137 x1 x4 x4 (σ.1 15 x4.toNatClampNeg) σ _ _ _ (lv_sub hl [1, 2, 3, 4, 5] rfl) hP hS hf
                have hf := oif c_9 hf
                refine lv_aload_n hx hb dX6_chain_119 rfl (lv_at hl 1 rfl) ?_
                refine va_get (D := D) (ci := 4) (v := .ref (a 15)) (C := RX6) (T := TX6) (N := 27) hx hb ht gX6 hown hK.1 hP 0 (mw0 a c σ) rfl 22 (by decide) (ht _ q65) (fun _ h9 => h9) rfl dX6_chain_120 ?_
                refine lv_iload_n hx hb dX6_chain_123 rfl (lv_at hl 4 rfl) ?_
                obtain ⟨g_11, hf⟩ := ogd hf
                refine va_iald hx hb hK.1 hP 15 0 (mw15 a c σ) rfl (ck_in g_11) dX6_chain_124 ?_
                refine lv_iconst (v := (1 : Int32)) hx hb dX6_chain_125 (by decide) ?_
                refine lv_iadd hx hb dX6_chain_126 ?_
                refine lv_goto (tgt := 137) hx hb dX6_chain_127 (by decide) ?_
                exact j137 x1 x4 x4 ((σ.1 15 x3.toNatClampNeg) + (1 : Int32)) σ _ _ _ (lv_sub hl [1, 2, 3, 4, 5] rfl) hP hS hf
              have j105 : ∀ (x1 : Int32) (x4 : Int32) (σ : St) (H : Heap) (locs : List Loc) (ls : Array Slot), lv_has ls 6 [(0, .ref (a 0)), (1, .int x1), (2, .int x2), (3, .int x3), (4, .int x4)] → va_P D vwCl (mW a c σ) H → va_S A s.heap H locs → Option.bind (f_X6_chain_j105 N x1 x2 x3 x4 σ) K58 = some (r, u) → W p l e rmX6_chain s m args below meth cd H locs 0 0 Q (F0 m 105 ls []) := by
                intro x1 x4 σ H locs ls hl hP hS hf
                have hf := oun (f_X6_chain_j105.eq_1 _ _ _ _ _ _) hf
                refine lv_iconst (v := (0 : Int32)) hx hb dX6_chain_105 (by decide) ?_
                exact j106 x1 x4 (0 : Int32) σ _ _ _ (lv_sub hl [0, 1, 2, 3, 4] rfl) hP hS hf
              have hf := oun (f_X6_chain_b58.eq_1 N x1 x2 x3 x4 σ) hf
              refine lv_iload hx hb dX6_chain_58 (lv_at hl 4 rfl) ?_
              refine lv_aload_n hx hb dX6_chain_60 rfl (lv_at hl 0 rfl) ?_
              refine va_get (D := D) (ci := 4) (v := .int (σ.1 0 2)) (C := RX6) (T := TX6) (N := 27) hx hb ht gX6 hown hK.1 hP 0 (mw0 a c σ) rfl 5 (by decide) (ht _ q139) (fun _ h9 => h9) rfl dX6_chain_61 ?_
              refine lv_icmp_ge (tgt := 167) hx hb dX6_chain_64 (by decide) (fun c_12 => ?_) (fun c_12 => ?_)
              · have hf := oit c_12 hf
                exact j167 x1 x3 σ _ _ _ (lv_sub hl [0, 1, 2, 3] rfl) hP hS (okx hf (hx58 _))
              have hf := oif c_12 hf
              refine lv_iload_n hx hb dX6_chain_67 rfl (lv_at hl 3 rfl) ?_
              refine lv_iload hx hb dX6_chain_68 (lv_at hl 4 rfl) ?_
              refine lv_icmp_eq (tgt := 105) hx hb dX6_chain_70 (by decide) (fun c_13 => ?_) (fun c_13 => ?_)
              · have hf := oit c_13 hf
                exact j105 x1 x4 σ _ _ _ (lv_sub hl [0, 1, 2, 3, 4] rfl) hP hS hf
              have hf := oif c_13 hf
              refine lv_aload_n hx hb dX6_chain_73 rfl (lv_at hl 0 rfl) ?_
              refine lv_iload_n hx hb dX6_chain_74 rfl (lv_at hl 3 rfl) ?_
              refine lv_iload hx hb dX6_chain_75 (lv_at hl 4 rfl) ?_
              obtain ⟨r_14, h_15, hf⟩ := obd hf
              refine xv_I (As := [.int x3, .int x4]) (rest := []) S k_X6_fitsInto q287 q288 q289 ⟨Nat.le_of_ble_eq_true rfl, Nat.le_of_ble_eq_true rfl⟩ ⟨rfl, rfl⟩ (c_X6_fitsInto l D a c A hD x3 x4 σ r_14 h_15) hK hP hS (va_recv hK.1 hP (rfl : vwCl[4]? = some (RX6, TX6, 27)) (mw0 a c σ)) rfl hl.1 rfl (Nat.le_of_ble_eq_true rfl) dX6_chain_77 ⟨Nat.zero_le _, Nat.zero_le _⟩ (fun H locs hP hS => ?_)
              refine lv_if_eq (tgt := 105) hx hb dX6_chain_80 (by decide) (fun c_16 => ?_) (fun c_16 => ?_)
              · have hf := oit c_16 hf
                exact j105 x1 x4 σ _ _ _ (lv_sub hl [0, 1, 2, 3, 4] rfl) hP hS hf
              have hf := oif c_16 hf
              refine lv_aload_n hx hb dX6_chain_83 rfl (lv_at hl 0 rfl) ?_
              refine va_get (D := D) (ci := 4) (v := .ref (a 15)) (C := RX6) (T := TX6) (N := 27) hx hb ht gX6 hown hK.1 hP 0 (mw0 a c σ) rfl 22 (by decide) (ht _ q65) (fun _ h9 => h9) rfl dX6_chain_84 ?_
              refine lv_iload_n hx hb dX6_chain_87 rfl (lv_at hl 3 rfl) ?_
              obtain ⟨g_17, hf⟩ := ogd hf
              refine va_iald hx hb hK.1 hP 15 0 (mw15 a c σ) rfl (ck_in g_17) dX6_chain_88 ?_
              refine lv_iconst (v := (1 : Int32)) hx hb dX6_chain_89 (by decide) ?_
              refine lv_iadd hx hb dX6_chain_90 ?_
              refine lv_aload_n hx hb dX6_chain_91 rfl (lv_at hl 0 rfl) ?_
              refine va_get (D := D) (ci := 4) (v := .ref (a 15)) (C := RX6) (T := TX6) (N := 27) hx hb ht gX6 hown hK.1 hP 0 (mw0 a c σ) rfl 22 (by decide) (ht _ q65) (fun _ h9 => h9) rfl dX6_chain_92 ?_
              refine lv_iload hx hb dX6_chain_95 (lv_at hl 4 rfl) ?_
              obtain ⟨g_18, hf⟩ := ogd hf
              refine va_iald hx hb hK.1 hP 15 0 (mw15 a c σ) rfl (ck_in g_18) dX6_chain_97 ?_
              refine lv_icmp_le (tgt := 105) hx hb dX6_chain_98 (by decide) (fun c_19 => ?_) (fun c_19 => ?_)
              · have hf := oit c_19 hf
                exact j105 x1 x4 σ _ _ _ (lv_sub hl [0, 1, 2, 3, 4] rfl) hP hS hf
              have hf := oif c_19 hf
              refine lv_iconst (v := (1 : Int32)) hx hb dX6_chain_101 (by decide) ?_
              refine lv_goto (tgt := 106) hx hb dX6_chain_102 (by decide) ?_
              exact j106 x1 x4 (1 : Int32) σ _ _ _ (lv_sub hl [0, 1, 2, 3, 4] rfl) hP hS hf
          have hf := oun (f_X6_chain_b47.eq_1 N x1 x2 x3 σ) hf
          refine lv_iload_n hx hb dX6_chain_47 rfl (lv_at hl 3 rfl) ?_
          refine lv_aload_n hx hb dX6_chain_48 rfl (lv_at hl 0 rfl) ?_
          refine va_get (D := D) (ci := 4) (v := .int (σ.1 0 2)) (C := RX6) (T := TX6) (N := 27) hx hb ht gX6 hown hK.1 hP 0 (mw0 a c σ) rfl 5 (by decide) (ht _ q139) (fun _ h9 => h9) rfl dX6_chain_49 ?_
          refine lv_icmp_ge (tgt := 173) hx hb dX6_chain_52 (by decide) (fun c_20 => ?_) (fun c_20 => ?_)
          · have hf := oit c_20 hf
            exact j173 x1 x2 σ _ _ _ (lv_sub hl [0, 1, 2] rfl) hP hS (okx hf (hx47 _))
          have hf := oif c_20 hf
          refine lv_iconst (v := (0 : Int32)) hx hb dX6_chain_55 (by decide) ?_
          refine lv_istore (lv' := [(4, .int (0 : Int32)), (0, .ref (a 0)), (1, .int x1), (2, .int x2), (3, .int x3)]) hx hb dX6_chain_56 hl (by decide) rfl (fun ls hl => ?_)
          exact L58 x3 N x1 (0 : Int32) σ _ _ _ (lv_sub hl [1, 2, 3, 4, 0] rfl) hP hS hf
      have hf := oun (f_X6_chain_b37.eq_1 N x1 x2 σ) hf
      refine lv_iload_n hx hb dX6_chain_37 rfl (lv_at hl 2 rfl) ?_
      refine lv_aload_n hx hb dX6_chain_38 rfl (lv_at hl 0 rfl) ?_
      refine va_get (D := D) (ci := 4) (v := .int (σ.1 0 2)) (C := RX6) (T := TX6) (N := 27) hx hb ht gX6 hown hK.1 hP 0 (mw0 a c σ) rfl 5 (by decide) (ht _ q139) (fun _ h9 => h9) rfl dX6_chain_39 ?_
      refine lv_icmp_ge (tgt := 179) hx hb dX6_chain_42 (by decide) (fun c_21 => ?_) (fun c_21 => ?_)
      · have hf := oit c_21 hf
        exact j179 x1 σ _ _ _ (lv_sub hl [1] rfl) hP hS (okx hf (hx37 _))
      have hf := oif c_21 hf
      refine lv_iconst (v := (0 : Int32)) hx hb dX6_chain_45 (by decide) ?_
      refine lv_istore_n (lv' := [(3, .int (0 : Int32)), (0, .ref (a 0)), (1, .int x1), (2, .int x2)]) hx hb dX6_chain_46 rfl hl (by decide) rfl (fun ls hl => ?_)
      exact L47 x2 N x1 (0 : Int32) σ _ _ _ (lv_sub hl [1, 2, 3, 0] rfl) hP hS hf
  have j33 : ∀ (σ : St) (H : Heap) (locs : List Loc) (ls : Array Slot), lv_has ls 6 [(0, .ref (a 0))] → va_P D vwCl (mW a c σ) H → va_S A s.heap H locs → Option.bind (f_X6_chain_j33 N σ) some = some (r, u) → W p l e rmX6_chain s m args below meth cd H locs 0 0 Q (F0 m 33 ls []) := by
    intro σ H locs ls hl hP hS hf
    have hf := oun (f_X6_chain_j33.eq_1 _ _) hf
    refine lv_iconst (v := (1 : Int32)) hx hb dX6_chain_33 (by decide) ?_
    refine lv_istore_n (lv' := [(1, .int (1 : Int32)), (0, .ref (a 0))]) hx hb dX6_chain_34 rfl hl (by decide) rfl (fun ls hl => ?_)
    refine lv_iconst (v := (0 : Int32)) hx hb dX6_chain_35 (by decide) ?_
    refine lv_istore_n (lv' := [(2, .int (0 : Int32)), (1, .int (1 : Int32)), (0, .ref (a 0))]) hx hb dX6_chain_36 rfl hl (by decide) rfl (fun ls hl => ?_)
    exact L37 N (1 : Int32) (0 : Int32) σ _ _ _ (lv_sub hl [2, 1, 0] rfl) hP hS hf
  have L12 : ∀ (k : Nat) (x1 : Int32) (σ : St) (H : Heap) (locs : List Loc) (ls : Array Slot), lv_has ls 6 [(0, .ref (a 0)), (1, .int x1)] → va_P D vwCl (mW a c σ) H → va_S A s.heap H locs → Option.bind (bd (lpF (fun s => f_X6_chain_b12 N s.1 s.2) k (x1, σ)) (fun o => f_X6_chain_j33 N o)) some = some (r, u) → W p l e rmX6_chain s m args below meth cd H locs 0 0 Q (F0 m 12 ls []) := by
    intro k
    induction k with
    | zero =>
      intro x1 σ H locs ls hl hP hS hf
      exact (ol0 hf).elim
    | succ k ih =>
      intro x1 σ H locs ls hl hP hS hf
      obtain ⟨K12, hf, hc12, hx12⟩ := ol1 hf
      have hf := oun (f_X6_chain_b12.eq_1 N x1 σ) hf
      refine lv_iload_n hx hb dX6_chain_12 rfl (lv_at hl 1 rfl) ?_
      refine lv_aload_n hx hb dX6_chain_13 rfl (lv_at hl 0 rfl) ?_
      refine va_get (D := D) (ci := 4) (v := .int (σ.1 0 2)) (C := RX6) (T := TX6) (N := 27) hx hb ht gX6 hown hK.1 hP 0 (mw0 a c σ) rfl 5 (by decide) (ht _ q139) (fun _ h9 => h9) rfl dX6_chain_14 ?_
      refine lv_icmp_ge (tgt := 33) hx hb dX6_chain_17 (by decide) (fun c_22 => ?_) (fun c_22 => ?_)
      · have hf := oit c_22 hf
        exact j33 σ _ _ _ (lv_sub hl [0] rfl) hP hS (okx hf (hx12 _))
      have hf := oif c_22 hf
      refine lv_aload_n hx hb dX6_chain_20 rfl (lv_at hl 0 rfl) ?_
      refine va_get (D := D) (ci := 4) (v := .ref (a 15)) (C := RX6) (T := TX6) (N := 27) hx hb ht gX6 hown hK.1 hP 0 (mw0 a c σ) rfl 22 (by decide) (ht _ q65) (fun _ h9 => h9) rfl dX6_chain_21 ?_
      refine lv_iload_n hx hb dX6_chain_24 rfl (lv_at hl 1 rfl) ?_
      refine lv_iconst (v := (1 : Int32)) hx hb dX6_chain_25 (by decide) ?_
      obtain ⟨g_23, hf⟩ := ogd hf
      refine va_iast hx hb hK.1 hP (hD σ) hS 15 0 (mw15 a c σ) rfl (ck_in g_23) dX6_chain_26 (fun H locs hP _ hS => ?_)
      have hP := vP_eq (mpA_m15 a c σ (Int32.toNatClampNeg x1) (1 : Int32)) hP
      obtain ⟨σ_24, eσ_24, hf⟩ := onm hf
      rw [eσ_24] at hP
      obtain ⟨x1_25, ex1_25, hf⟩ := onm hf
      refine lv_iinc (v := x1_25) (lv' := [(1, .int x1_25), (0, .ref (a 0))]) hx hb dX6_chain_27 hl (k := 1) rfl ex1_25 (by decide) rfl (fun ls hl => ?_)
      refine lv_goto (tgt := 12) hx hb dX6_chain_30 (by decide) ?_
      exact ih x1_25 σ_24 _ _ _ (lv_sub hl [1, 0] rfl) hP hS (okx hf (hc12 _))
  have hf := oun (f_X6_chain.eq_1 _ _) hf
  refine lv_aload_n hx hb dX6_chain_0 rfl (lv_at hl 0 rfl) ?_
  refine va_get (D := D) (ci := 4) (v := .int (σ.1 0 2)) (C := RX6) (T := TX6) (N := 27) hx hb ht gX6 hown hK.1 hP 0 (mw0 a c σ) rfl 5 (by decide) (ht _ q139) (fun _ h9 => h9) rfl dX6_chain_1 ?_
  refine lv_if_ne (tgt := 10) hx hb dX6_chain_4 (by decide) (fun c_26 => ?_) (fun c_26 => ?_)
  · have hf := oif c_26 hf
    refine lv_iconst (v := (0 : Int32)) hx hb dX6_chain_10 (by decide) ?_
    refine lv_istore_n (lv' := [(1, .int (0 : Int32)), (0, .ref (a 0))]) hx hb dX6_chain_11 rfl hl (by decide) rfl (fun ls hl => ?_)
    exact L12 N (0 : Int32) σ _ _ _ (lv_sub hl [1, 0] rfl) hP hS hf
  have hf := oit c_26 hf
  refine lv_bipush (v := (-3 : Int32)) hx hb dX6_chain_7 (by decide) ?_
  exact hret _ _ _ _ _ _ dX6_chain_9 rfl hP hS (oret hf)
theorem dX6_reading_0 : decode cX6_reading 0 = .ok (.aload_n 0, 1) := by decide +kernel
theorem dX6_reading_1 : decode cX6_reading 1 = .ok (.iload_n 1, 1) := by decide +kernel
theorem dX6_reading_2 : decode cX6_reading 2 = .ok (.iload_n 2, 1) := by decide +kernel
theorem dX6_reading_3 : decode cX6_reading 3 = .ok (.invokevirtual 140, 3) := by decide +kernel
theorem dX6_reading_6 : decode cX6_reading 6 = .ok (.ifCond .ne 5, 3) := by decide +kernel
theorem dX6_reading_9 : decode cX6_reading 9 = .ok (.iconst (-1), 1) := by decide +kernel
theorem dX6_reading_10 : decode cX6_reading 10 = .ok (.ireturn, 1) := by decide +kernel
theorem dX6_reading_11 : decode cX6_reading 11 = .ok (.iload_n 3, 1) := by decide +kernel
theorem dX6_reading_12 : decode cX6_reading 12 = .ok (.iconst 0, 1) := by decide +kernel
theorem dX6_reading_13 : decode cX6_reading 13 = .ok (.iconst 1, 1) := by decide +kernel
theorem dX6_reading_14 : decode cX6_reading 14 = .ok (.invokestatic 71, 3) := by decide +kernel
theorem dX6_reading_17 : decode cX6_reading 17 = .ok (.ifCond .ne 6, 3) := by decide +kernel
theorem dX6_reading_20 : decode cX6_reading 20 = .ok (.bipush (-2), 2) := by decide +kernel
theorem dX6_reading_22 : decode cX6_reading 22 = .ok (.ireturn, 1) := by decide +kernel
theorem dX6_reading_23 : decode cX6_reading 23 = .ok (.aload_n 0, 1) := by decide +kernel
theorem dX6_reading_24 : decode cX6_reading 24 = .ok (.getfield 111, 3) := by decide +kernel
theorem dX6_reading_27 : decode cX6_reading 27 = .ok (.bipush 8, 2) := by decide +kernel
theorem dX6_reading_29 : decode cX6_reading 29 = .ok (.if_icmp .ne 6, 3) := by decide +kernel
theorem dX6_reading_32 : decode cX6_reading 32 = .ok (.bipush (-4), 2) := by decide +kernel
theorem dX6_reading_34 : decode cX6_reading 34 = .ok (.ireturn, 1) := by decide +kernel
theorem dX6_reading_35 : decode cX6_reading 35 = .ok (.aload_n 0, 1) := by decide +kernel
theorem dX6_reading_36 : decode cX6_reading 36 = .ok (.getfield 56, 3) := by decide +kernel
theorem dX6_reading_39 : decode cX6_reading 39 = .ok (.aload_n 0, 1) := by decide +kernel
theorem dX6_reading_40 : decode cX6_reading 40 = .ok (.getfield 111, 3) := by decide +kernel
theorem dX6_reading_43 : decode cX6_reading 43 = .ok (.iload_n 1, 1) := by decide +kernel
theorem dX6_reading_44 : decode cX6_reading 44 = .ok (.iastore, 1) := by decide +kernel
theorem dX6_reading_45 : decode cX6_reading 45 = .ok (.aload_n 0, 1) := by decide +kernel
theorem dX6_reading_46 : decode cX6_reading 46 = .ok (.getfield 59, 3) := by decide +kernel
theorem dX6_reading_49 : decode cX6_reading 49 = .ok (.aload_n 0, 1) := by decide +kernel
theorem dX6_reading_50 : decode cX6_reading 50 = .ok (.getfield 111, 3) := by decide +kernel
theorem dX6_reading_53 : decode cX6_reading 53 = .ok (.iload_n 2, 1) := by decide +kernel
theorem dX6_reading_54 : decode cX6_reading 54 = .ok (.iastore, 1) := by decide +kernel
theorem dX6_reading_55 : decode cX6_reading 55 = .ok (.aload_n 0, 1) := by decide +kernel
theorem dX6_reading_56 : decode cX6_reading 56 = .ok (.getfield 62, 3) := by decide +kernel
theorem dX6_reading_59 : decode cX6_reading 59 = .ok (.aload_n 0, 1) := by decide +kernel
theorem dX6_reading_60 : decode cX6_reading 60 = .ok (.getfield 111, 3) := by decide +kernel
theorem dX6_reading_63 : decode cX6_reading 63 = .ok (.iload_n 3, 1) := by decide +kernel
theorem dX6_reading_64 : decode cX6_reading 64 = .ok (.iastore, 1) := by decide +kernel
theorem dX6_reading_65 : decode cX6_reading 65 = .ok (.aload_n 0, 1) := by decide +kernel
theorem dX6_reading_66 : decode cX6_reading 66 = .ok (.dup, 1) := by decide +kernel
theorem dX6_reading_67 : decode cX6_reading 67 = .ok (.getfield 111, 3) := by decide +kernel
theorem dX6_reading_70 : decode cX6_reading 70 = .ok (.iconst 1, 1) := by decide +kernel
theorem dX6_reading_71 : decode cX6_reading 71 = .ok (.iadd, 1) := by decide +kernel
theorem dX6_reading_72 : decode cX6_reading 72 = .ok (.putfield 111, 3) := by decide +kernel
theorem dX6_reading_75 : decode cX6_reading 75 = .ok (.aload_n 0, 1) := by decide +kernel
theorem dX6_reading_76 : decode cX6_reading 76 = .ok (.getfield 111, 3) := by decide +kernel
theorem dX6_reading_79 : decode cX6_reading 79 = .ok (.iconst 1, 1) := by decide +kernel
theorem dX6_reading_80 : decode cX6_reading 80 = .ok (.isub, 1) := by decide +kernel
theorem dX6_reading_81 : decode cX6_reading 81 = .ok (.ireturn, 1) := by decide +kernel
def f_X6_reading (x1 : Int32) (x2 : Int32) (x3 : Int32) (σ : St) : Option (Int32 × St) :=
  bd (f_X6_areTwo x1 x2 σ) fun r_1 =>
  if r_1 = 0 then (some ((-1 : Int32), σ))
  else bd (f_X6_within x3 (0 : Int32) (1 : Int32)) fun r_4 =>
    if r_4 = 0 then (some ((-2 : Int32), σ))
    else if (σ.1 0 8) = (8 : Int32) then (some ((-4 : Int32), σ))
      else gd (ck (σ.1 0 8) 8) <|
        nm (wS σ 16 (Int32.toNatClampNeg (σ.1 0 8)) x1) fun σ_9 =>
        gd (ck (σ_9.1 0 8) 8) <|
        nm (wS σ_9 17 (Int32.toNatClampNeg (σ_9.1 0 8)) x2) fun σ_11 =>
        gd (ck (σ_11.1 0 8) 8) <|
        nm (wS σ_11 18 (Int32.toNatClampNeg (σ_11.1 0 8)) x3) fun σ_13 =>
        nm (wS σ_13 0 8 ((σ_13.1 0 8) + (1 : Int32))) fun σ_14 =>
        some (((σ_14.1 0 8) - (1 : Int32)), σ_14)
abbrev rmX6_reading : Room := { frames := 2, cells := 0, slots := 0, locals := 43 }
set_option maxRecDepth 100000 in
set_option maxHeartbeats 4000000 in
theorem c_X6_reading (l : Launch) (D : va_G) (a : Nat → Nat) (c : Nat → ClassId) (A : Nat → Prop) (hD : ∀ σ, va_D A (mW a c σ)) (x1 : Int32) (x2 : Int32) (x3 : Int32) (σ : St) (r : Int32) (u : St) (hf : f_X6_reading x1 x2 x3 σ = some (r, u)) : MetI l yX6_reading cX6_reading 4 (some .int) rmX6_reading (mW a c) D c A [.ref (a 0), .int x1, .int x2, .int x3] σ r u := by
  refine mkI (by decide) (Nat.le_of_ble_eq_true rfl) rfl ?_
  intro p e s m args below meth cd Q ls h0 hK hP hret hl
  obtain ⟨S, hr, hlk⟩ := h0
  obtain ⟨hx, hb, hml, hown, ht⟩ := id S
  have hS : va_S A s.heap s.heap [] := va_S.rf
  have hl : lv_has ls 4 [(0, .ref (a 0)), (1, .int x1), (2, .int x2), (3, .int x3)] := hl
  have hf := obs hf
  have hf := oun (f_X6_reading.eq_1 _ _ _ _) hf
  refine lv_aload_n hx hb dX6_reading_0 rfl (lv_at hl 0 rfl) ?_
  refine lv_iload_n hx hb dX6_reading_1 rfl (lv_at hl 1 rfl) ?_
  refine lv_iload_n hx hb dX6_reading_2 rfl (lv_at hl 2 rfl) ?_
  obtain ⟨r_1, h_2, hf⟩ := obd hf
  refine xv_I (As := [.int x1, .int x2]) (rest := []) S k_X6_areTwo q283 q284 q285 ⟨Nat.le_of_ble_eq_true rfl, Nat.le_of_ble_eq_true rfl⟩ ⟨rfl, rfl⟩ (c_X6_areTwo l D a c A hD x1 x2 σ r_1 h_2) hK hP hS (va_recv hK.1 hP (rfl : vwCl[4]? = some (RX6, TX6, 27)) (mw0 a c σ)) rfl hl.1 rfl (Nat.le_of_ble_eq_true rfl) dX6_reading_3 ⟨Nat.zero_le _, Nat.zero_le _⟩ (fun H locs hP hS => ?_)
  refine lv_if_ne (tgt := 11) hx hb dX6_reading_6 (by decide) (fun c_3 => ?_) (fun c_3 => ?_)
  · have hf := oif c_3 hf
    refine lv_iload_n hx hb dX6_reading_11 rfl (lv_at hl 3 rfl) ?_
    refine lv_iconst (v := (0 : Int32)) hx hb dX6_reading_12 (by decide) ?_
    refine lv_iconst (v := (1 : Int32)) hx hb dX6_reading_13 (by decide) ?_
    obtain ⟨r_4, h_5, hf⟩ := obd hf
    refine xs_S (As := [.int x3, .int (0 : Int32), .int (1 : Int32)]) (rest := []) S k_X6_within q146 q147 ⟨Nat.le_of_ble_eq_true rfl, Nat.le_of_ble_eq_true rfl⟩ ⟨rfl, rfl⟩ (c_X6_within l x3 (0 : Int32) (1 : Int32) r_4 h_5) hK.2 rfl hl.1 rfl (Nat.le_of_ble_eq_true rfl) dX6_reading_14 ⟨Nat.zero_le _, Nat.zero_le _⟩ ?_
    refine lv_if_ne (tgt := 23) hx hb dX6_reading_17 (by decide) (fun c_6 => ?_) (fun c_6 => ?_)
    · have hf := oif c_6 hf
      refine lv_aload_n hx hb dX6_reading_23 rfl (lv_at hl 0 rfl) ?_
      refine va_get (D := D) (ci := 4) (v := .int (σ.1 0 8)) (C := RX6) (T := TX6) (N := 27) hx hb ht gX6 hown hK.1 hP 0 (mw0 a c σ) rfl 23 (by decide) (ht _ q142) (fun _ h9 => h9) rfl dX6_reading_24 ?_
      refine lv_bipush (v := (8 : Int32)) hx hb dX6_reading_27 (by decide) ?_
      refine lv_icmp_ne (tgt := 35) hx hb dX6_reading_29 (by decide) (fun c_7 => ?_) (fun c_7 => ?_)
      · have hf := oif c_7 hf
        refine lv_aload_n hx hb dX6_reading_35 rfl (lv_at hl 0 rfl) ?_
        refine va_get (D := D) (ci := 4) (v := .ref (a 16)) (C := RX6) (T := TX6) (N := 27) hx hb ht gX6 hown hK.1 hP 0 (mw0 a c σ) rfl 24 (by decide) (ht _ q66) (fun _ h9 => h9) rfl dX6_reading_36 ?_
        refine lv_aload_n hx hb dX6_reading_39 rfl (lv_at hl 0 rfl) ?_
        refine va_get (D := D) (ci := 4) (v := .int (σ.1 0 8)) (C := RX6) (T := TX6) (N := 27) hx hb ht gX6 hown hK.1 hP 0 (mw0 a c σ) rfl 23 (by decide) (ht _ q142) (fun _ h9 => h9) rfl dX6_reading_40 ?_
        refine lv_iload_n hx hb dX6_reading_43 rfl (lv_at hl 1 rfl) ?_
        obtain ⟨g_8, hf⟩ := ogd hf
        refine va_iast hx hb hK.1 hP (hD σ) hS 16 0 (mw16 a c σ) rfl (ck_in g_8) dX6_reading_44 (fun H locs hP _ hS => ?_)
        have hP := vP_eq (mpA_m16 a c σ (Int32.toNatClampNeg (σ.1 0 8)) x1) hP
        obtain ⟨σ_9, eσ_9, hf⟩ := onm hf
        rw [eσ_9] at hP
        refine lv_aload_n hx hb dX6_reading_45 rfl (lv_at hl 0 rfl) ?_
        refine va_get (D := D) (ci := 4) (v := .ref (a 17)) (C := RX6) (T := TX6) (N := 27) hx hb ht gX6 hown hK.1 hP 0 (mw0 a c σ_9) rfl 25 (by decide) (ht _ q67) (fun _ h9 => h9) rfl dX6_reading_46 ?_
        refine lv_aload_n hx hb dX6_reading_49 rfl (lv_at hl 0 rfl) ?_
        refine va_get (D := D) (ci := 4) (v := .int (σ_9.1 0 8)) (C := RX6) (T := TX6) (N := 27) hx hb ht gX6 hown hK.1 hP 0 (mw0 a c σ_9) rfl 23 (by decide) (ht _ q142) (fun _ h9 => h9) rfl dX6_reading_50 ?_
        refine lv_iload_n hx hb dX6_reading_53 rfl (lv_at hl 2 rfl) ?_
        obtain ⟨g_10, hf⟩ := ogd hf
        refine va_iast hx hb hK.1 hP (hD σ_9) hS 17 0 (mw17 a c σ_9) rfl (ck_in g_10) dX6_reading_54 (fun H locs hP _ hS => ?_)
        have hP := vP_eq (mpA_m17 a c σ_9 (Int32.toNatClampNeg (σ_9.1 0 8)) x2) hP
        obtain ⟨σ_11, eσ_11, hf⟩ := onm hf
        rw [eσ_11] at hP
        refine lv_aload_n hx hb dX6_reading_55 rfl (lv_at hl 0 rfl) ?_
        refine va_get (D := D) (ci := 4) (v := .ref (a 18)) (C := RX6) (T := TX6) (N := 27) hx hb ht gX6 hown hK.1 hP 0 (mw0 a c σ_11) rfl 26 (by decide) (ht _ q68) (fun _ h9 => h9) rfl dX6_reading_56 ?_
        refine lv_aload_n hx hb dX6_reading_59 rfl (lv_at hl 0 rfl) ?_
        refine va_get (D := D) (ci := 4) (v := .int (σ_11.1 0 8)) (C := RX6) (T := TX6) (N := 27) hx hb ht gX6 hown hK.1 hP 0 (mw0 a c σ_11) rfl 23 (by decide) (ht _ q142) (fun _ h9 => h9) rfl dX6_reading_60 ?_
        refine lv_iload_n hx hb dX6_reading_63 rfl (lv_at hl 3 rfl) ?_
        obtain ⟨g_12, hf⟩ := ogd hf
        refine va_iast hx hb hK.1 hP (hD σ_11) hS 18 0 (mw18 a c σ_11) rfl (ck_in g_12) dX6_reading_64 (fun H locs hP _ hS => ?_)
        have hP := vP_eq (mpA_m18 a c σ_11 (Int32.toNatClampNeg (σ_11.1 0 8)) x3) hP
        obtain ⟨σ_13, eσ_13, hf⟩ := onm hf
        rw [eσ_13] at hP
        refine lv_aload_n hx hb dX6_reading_65 rfl (lv_at hl 0 rfl) ?_
        refine lv_dup hx hb dX6_reading_66 rfl ?_
        refine va_get (D := D) (ci := 4) (v := .int (σ_13.1 0 8)) (C := RX6) (T := TX6) (N := 27) hx hb ht gX6 hown hK.1 hP 0 (mw0 a c σ_13) rfl 23 (by decide) (ht _ q142) (fun _ h9 => h9) rfl dX6_reading_67 ?_
        refine lv_iconst (v := (1 : Int32)) hx hb dX6_reading_70 (by decide) ?_
        refine lv_iadd hx hb dX6_reading_71 ?_
        refine va_put (D := D) (ci := 4) (v := .int ((σ_13.1 0 8) + (1 : Int32))) (ty := .int) (C := RX6) (T := TX6) (N := 27) hx hb ht gX6 tyX6 tyX6_ok nmX6 hown hK.1 hP (hD σ_13) hS 0 (mw0 a c σ_13) rfl 23 (by decide) (ht _ q142) (fun _ h9 => h9) rfl (by decide +kernel) rfl rfl (Nat.le_of_ble_eq_true rfl) dX6_reading_72 (fun H locs hP _ hS => ?_)
        have hP := vP_eq (mpX6_readings a c σ_13 ((σ_13.1 0 8) + (1 : Int32))) hP
        obtain ⟨σ_14, eσ_14, hf⟩ := onm hf
        rw [eσ_14] at hP
        refine lv_aload_n hx hb dX6_reading_75 rfl (lv_at hl 0 rfl) ?_
        refine va_get (D := D) (ci := 4) (v := .int (σ_14.1 0 8)) (C := RX6) (T := TX6) (N := 27) hx hb ht gX6 hown hK.1 hP 0 (mw0 a c σ_14) rfl 23 (by decide) (ht _ q142) (fun _ h9 => h9) rfl dX6_reading_76 ?_
        refine lv_iconst (v := (1 : Int32)) hx hb dX6_reading_79 (by decide) ?_
        refine lv_isub hx hb dX6_reading_80 ?_
        exact hret _ _ _ _ _ _ dX6_reading_81 rfl hP hS (oret hf)
      have hf := oit c_7 hf
      refine lv_bipush (v := (-4 : Int32)) hx hb dX6_reading_32 (by decide) ?_
      exact hret _ _ _ _ _ _ dX6_reading_34 rfl hP hS (oret hf)
    have hf := oit c_6 hf
    refine lv_bipush (v := (-2 : Int32)) hx hb dX6_reading_20 (by decide) ?_
    exact hret _ _ _ _ _ _ dX6_reading_22 rfl hP hS (oret hf)
  have hf := oit c_3 hf
  refine lv_iconst (v := (-1 : Int32)) hx hb dX6_reading_9 (by decide) ?_
  exact hret _ _ _ _ _ _ dX6_reading_10 rfl hP hS (oret hf)
theorem dX6_back_0 : decode cX6_back 0 = .ok (.iload_n 1, 1) := by decide +kernel
theorem dX6_back_1 : decode cX6_back 1 = .ok (.iconst 0, 1) := by decide +kernel
theorem dX6_back_2 : decode cX6_back 2 = .ok (.aload_n 0, 1) := by decide +kernel
theorem dX6_back_3 : decode cX6_back 3 = .ok (.getfield 111, 3) := by decide +kernel
theorem dX6_back_6 : decode cX6_back 6 = .ok (.invokestatic 71, 3) := by decide +kernel
theorem dX6_back_9 : decode cX6_back 9 = .ok (.ifCond .ne 6, 3) := by decide +kernel
theorem dX6_back_12 : decode cX6_back 12 = .ok (.bipush (-2), 2) := by decide +kernel
theorem dX6_back_14 : decode cX6_back 14 = .ok (.ireturn, 1) := by decide +kernel
theorem dX6_back_15 : decode cX6_back 15 = .ok (.aload_n 0, 1) := by decide +kernel
theorem dX6_back_16 : decode cX6_back 16 = .ok (.dup, 1) := by decide +kernel
theorem dX6_back_17 : decode cX6_back 17 = .ok (.getfield 111, 3) := by decide +kernel
theorem dX6_back_20 : decode cX6_back 20 = .ok (.iload_n 1, 1) := by decide +kernel
theorem dX6_back_21 : decode cX6_back 21 = .ok (.isub, 1) := by decide +kernel
theorem dX6_back_22 : decode cX6_back 22 = .ok (.putfield 111, 3) := by decide +kernel
theorem dX6_back_25 : decode cX6_back 25 = .ok (.aload_n 0, 1) := by decide +kernel
theorem dX6_back_26 : decode cX6_back 26 = .ok (.getfield 111, 3) := by decide +kernel
theorem dX6_back_29 : decode cX6_back 29 = .ok (.ireturn, 1) := by decide +kernel
def f_X6_back (x1 : Int32) (σ : St) : Option (Int32 × St) :=
  bd (f_X6_within x1 (0 : Int32) (σ.1 0 8)) fun r_1 =>
  if r_1 = 0 then (some ((-2 : Int32), σ))
  else nm (wS σ 0 8 ((σ.1 0 8) - x1)) fun σ_4 =>
    some ((σ_4.1 0 8), σ_4)
abbrev rmX6_back : Room := { frames := 1, cells := 0, slots := 0, locals := 22 }
set_option maxRecDepth 100000 in
set_option maxHeartbeats 4000000 in
theorem c_X6_back (l : Launch) (D : va_G) (a : Nat → Nat) (c : Nat → ClassId) (A : Nat → Prop) (hD : ∀ σ, va_D A (mW a c σ)) (x1 : Int32) (σ : St) (r : Int32) (u : St) (hf : f_X6_back x1 σ = some (r, u)) : MetI l yX6_back cX6_back 2 (some .int) rmX6_back (mW a c) D c A [.ref (a 0), .int x1] σ r u := by
  refine mkI (by decide) (Nat.le_of_ble_eq_true rfl) rfl ?_
  intro p e s m args below meth cd Q ls h0 hK hP hret hl
  obtain ⟨S, hr, hlk⟩ := h0
  obtain ⟨hx, hb, hml, hown, ht⟩ := id S
  have hS : va_S A s.heap s.heap [] := va_S.rf
  have hl : lv_has ls 2 [(0, .ref (a 0)), (1, .int x1)] := hl
  have hf := obs hf
  have hf := oun (f_X6_back.eq_1 _ _) hf
  refine lv_iload_n hx hb dX6_back_0 rfl (lv_at hl 1 rfl) ?_
  refine lv_iconst (v := (0 : Int32)) hx hb dX6_back_1 (by decide) ?_
  refine lv_aload_n hx hb dX6_back_2 rfl (lv_at hl 0 rfl) ?_
  refine va_get (D := D) (ci := 4) (v := .int (σ.1 0 8)) (C := RX6) (T := TX6) (N := 27) hx hb ht gX6 hown hK.1 hP 0 (mw0 a c σ) rfl 23 (by decide) (ht _ q142) (fun _ h9 => h9) rfl dX6_back_3 ?_
  obtain ⟨r_1, h_2, hf⟩ := obd hf
  refine xs_S (As := [.int x1, .int (0 : Int32), .int (σ.1 0 8)]) (rest := []) S k_X6_within q146 q147 ⟨Nat.le_of_ble_eq_true rfl, Nat.le_of_ble_eq_true rfl⟩ ⟨rfl, rfl⟩ (c_X6_within l x1 (0 : Int32) (σ.1 0 8) r_1 h_2) hK.2 rfl hl.1 rfl (Nat.le_of_ble_eq_true rfl) dX6_back_6 ⟨Nat.zero_le _, Nat.zero_le _⟩ ?_
  refine lv_if_ne (tgt := 15) hx hb dX6_back_9 (by decide) (fun c_3 => ?_) (fun c_3 => ?_)
  · have hf := oif c_3 hf
    refine lv_aload_n hx hb dX6_back_15 rfl (lv_at hl 0 rfl) ?_
    refine lv_dup hx hb dX6_back_16 rfl ?_
    refine va_get (D := D) (ci := 4) (v := .int (σ.1 0 8)) (C := RX6) (T := TX6) (N := 27) hx hb ht gX6 hown hK.1 hP 0 (mw0 a c σ) rfl 23 (by decide) (ht _ q142) (fun _ h9 => h9) rfl dX6_back_17 ?_
    refine lv_iload_n hx hb dX6_back_20 rfl (lv_at hl 1 rfl) ?_
    refine lv_isub hx hb dX6_back_21 ?_
    refine va_put (D := D) (ci := 4) (v := .int ((σ.1 0 8) - x1)) (ty := .int) (C := RX6) (T := TX6) (N := 27) hx hb ht gX6 tyX6 tyX6_ok nmX6 hown hK.1 hP (hD σ) hS 0 (mw0 a c σ) rfl 23 (by decide) (ht _ q142) (fun _ h9 => h9) rfl (by decide +kernel) rfl rfl (Nat.le_of_ble_eq_true rfl) dX6_back_22 (fun H locs hP _ hS => ?_)
    have hP := vP_eq (mpX6_readings a c σ ((σ.1 0 8) - x1)) hP
    obtain ⟨σ_4, eσ_4, hf⟩ := onm hf
    rw [eσ_4] at hP
    refine lv_aload_n hx hb dX6_back_25 rfl (lv_at hl 0 rfl) ?_
    refine va_get (D := D) (ci := 4) (v := .int (σ_4.1 0 8)) (C := RX6) (T := TX6) (N := 27) hx hb ht gX6 hown hK.1 hP 0 (mw0 a c σ_4) rfl 23 (by decide) (ht _ q142) (fun _ h9 => h9) rfl dX6_back_26 ?_
    exact hret _ _ _ _ _ _ dX6_back_29 rfl hP hS (oret hf)
  have hf := oit c_3 hf
  refine lv_bipush (v := (-2 : Int32)) hx hb dX6_back_12 (by decide) ?_
  exact hret _ _ _ _ _ _ dX6_back_14 rfl hP hS (oret hf)
theorem dX6_areSo_0 : decode cX6_areSo 0 = .ok (.iconst 0, 1) := by decide +kernel
theorem dX6_areSo_1 : decode cX6_areSo 1 = .ok (.istore_n 1, 1) := by decide +kernel
theorem dX6_areSo_2 : decode cX6_areSo 2 = .ok (.iload_n 1, 1) := by decide +kernel
theorem dX6_areSo_3 : decode cX6_areSo 3 = .ok (.aload_n 0, 1) := by decide +kernel
theorem dX6_areSo_4 : decode cX6_areSo 4 = .ok (.getfield 111, 3) := by decide +kernel
theorem dX6_areSo_7 : decode cX6_areSo 7 = .ok (.if_icmp .ge 45, 3) := by decide +kernel
theorem dX6_areSo_10 : decode cX6_areSo 10 = .ok (.aload_n 0, 1) := by decide +kernel
theorem dX6_areSo_11 : decode cX6_areSo 11 = .ok (.aload_n 0, 1) := by decide +kernel
theorem dX6_areSo_12 : decode cX6_areSo 12 = .ok (.getfield 56, 3) := by decide +kernel
theorem dX6_areSo_15 : decode cX6_areSo 15 = .ok (.iload_n 1, 1) := by decide +kernel
theorem dX6_areSo_16 : decode cX6_areSo 16 = .ok (.iaload, 1) := by decide +kernel
theorem dX6_areSo_17 : decode cX6_areSo 17 = .ok (.aload_n 0, 1) := by decide +kernel
theorem dX6_areSo_18 : decode cX6_areSo 18 = .ok (.getfield 59, 3) := by decide +kernel
theorem dX6_areSo_21 : decode cX6_areSo 21 = .ok (.iload_n 1, 1) := by decide +kernel
theorem dX6_areSo_22 : decode cX6_areSo 22 = .ok (.iaload, 1) := by decide +kernel
theorem dX6_areSo_23 : decode cX6_areSo 23 = .ok (.invokevirtual 143, 3) := by decide +kernel
theorem dX6_areSo_26 : decode cX6_areSo 26 = .ok (.aload_n 0, 1) := by decide +kernel
theorem dX6_areSo_27 : decode cX6_areSo 27 = .ok (.getfield 62, 3) := by decide +kernel
theorem dX6_areSo_30 : decode cX6_areSo 30 = .ok (.iload_n 1, 1) := by decide +kernel
theorem dX6_areSo_31 : decode cX6_areSo 31 = .ok (.iaload, 1) := by decide +kernel
theorem dX6_areSo_32 : decode cX6_areSo 32 = .ok (.iconst 1, 1) := by decide +kernel
theorem dX6_areSo_33 : decode cX6_areSo 33 = .ok (.if_icmp .ne 7, 3) := by decide +kernel
theorem dX6_areSo_36 : decode cX6_areSo 36 = .ok (.iconst 1, 1) := by decide +kernel
theorem dX6_areSo_37 : decode cX6_areSo 37 = .ok (.goto 4, 3) := by decide +kernel
theorem dX6_areSo_40 : decode cX6_areSo 40 = .ok (.iconst 0, 1) := by decide +kernel
theorem dX6_areSo_41 : decode cX6_areSo 41 = .ok (.if_icmp .eq 5, 3) := by decide +kernel
theorem dX6_areSo_44 : decode cX6_areSo 44 = .ok (.iconst 0, 1) := by decide +kernel
theorem dX6_areSo_45 : decode cX6_areSo 45 = .ok (.ireturn, 1) := by decide +kernel
theorem dX6_areSo_46 : decode cX6_areSo 46 = .ok (.iinc 1 1, 3) := by decide +kernel
theorem dX6_areSo_49 : decode cX6_areSo 49 = .ok (.goto (-47), 3) := by decide +kernel
theorem dX6_areSo_52 : decode cX6_areSo 52 = .ok (.iconst 1, 1) := by decide +kernel
theorem dX6_areSo_53 : decode cX6_areSo 53 = .ok (.ireturn, 1) := by decide +kernel
def f_X6_areSo_j52 (N : Nat) (σ : St) : Option Int32 :=
  some (1 : Int32)
def f_X6_areSo_j41 (N : Nat) (x1 : Int32) (y0 : Int32) (y1 : Int32) (σ : St) : Option ((Int32) ⊕ (Int32 ⊕ (Unit))) :=
  if y0 = y1 then (nm (x1 + (1 : Int32)) fun x1_2 =>
    some (.inl x1_2))
  else some (.inr (.inl (0 : Int32)))
def f_X6_areSo_b2 (N : Nat) (x1 : Int32) (σ : St) : Option ((Int32) ⊕ (Int32 ⊕ (Unit))) :=
  if (σ.1 0 8) ≤ x1 then (some (.inr (.inr ())))
  else gd (ck x1 8) <|
  gd (ck x1 8) <|
  bd (f_X6_fitsInto (σ.1 16 x1.toNatClampNeg) (σ.1 17 x1.toNatClampNeg) σ) fun r_6 =>
  gd (ck x1 8) <|
  if (σ.1 18 x1.toNatClampNeg) = (1 : Int32) then (f_X6_areSo_j41 N x1 r_6 (1 : Int32) σ)
  else f_X6_areSo_j41 N x1 r_6 (0 : Int32) σ
def f_X6_areSo (N : Nat) (σ : St) : Option Int32 :=
  bd (lpF (fun s => f_X6_areSo_b2 N s σ) N (0 : Int32)) (Sum.elim (fun v => some v) (fun o => f_X6_areSo_j52 N σ))
abbrev rmX6_areSo : Room := { frames := 2, cells := 0, slots := 0, locals := 43 }
set_option maxRecDepth 100000 in
set_option maxHeartbeats 4000000 in
theorem c_X6_areSo (l : Launch) (D : va_G) (a : Nat → Nat) (c : Nat → ClassId) (A : Nat → Prop) (hD : ∀ σ, va_D A (mW a c σ)) (N : Nat) (σ : St) (r : Int32) (hf : f_X6_areSo N σ = some r) : MetI l yX6_areSo cX6_areSo 2 (some .boolean) rmX6_areSo (mW a c) D c A [.ref (a 0)] σ r σ := by
  refine mkI (by decide) (Nat.le_of_ble_eq_true rfl) rfl ?_
  intro p e s m args below meth cd Q ls h0 hK hP hret hl
  obtain ⟨S, hr, hlk⟩ := h0
  obtain ⟨hx, hb, hml, hown, ht⟩ := id S
  have hS : va_S A s.heap s.heap [] := va_S.rf
  have hl : lv_has ls 2 [(0, .ref (a 0))] := hl
  have hf := obs hf
  have j52 : ∀ (H : Heap) (locs : List Loc) (ls : Array Slot), lv_has ls 2 [] → va_P D vwCl (mW a c σ) H → va_S A s.heap H locs → Option.bind (f_X6_areSo_j52 N σ) some = some r → W p l e rmX6_areSo s m args below meth cd H locs 0 0 Q (F0 m 52 ls []) := by
    intro H locs ls hl hP hS hf
    have hf := oun (f_X6_areSo_j52.eq_1 _ _) hf
    refine lv_iconst (v := (1 : Int32)) hx hb dX6_areSo_52 (by decide) ?_
    exact hret _ _ _ _ _ _ dX6_areSo_53 (by decide) hP hS ⟨Option.some.inj hf, rfl⟩
  have L2 : ∀ (k : Nat) (x1 : Int32) (H : Heap) (locs : List Loc) (ls : Array Slot), lv_has ls 2 [(0, .ref (a 0)), (1, .int x1)] → va_P D vwCl (mW a c σ) H → va_S A s.heap H locs → Option.bind (bd (lpF (fun s => f_X6_areSo_b2 N s σ) k x1) (Sum.elim (fun v => some v) (fun o => f_X6_areSo_j52 N σ))) some = some r → W p l e rmX6_areSo s m args below meth cd H locs 0 0 Q (F0 m 2 ls []) := by
    intro k
    induction k with
    | zero =>
      intro x1 H locs ls hl hP hS hf
      exact (ol0 hf).elim
    | succ k ih =>
      intro x1 H locs ls hl hP hS hf
      obtain ⟨K2, hf, hc2, hx2⟩ := ol1 hf
      have j41 : ∀ (x1 : Int32) (y0 : Int32) (y1 : Int32) (H : Heap) (locs : List Loc) (ls : Array Slot), lv_has ls 2 [(0, .ref (a 0)), (1, .int x1)] → va_P D vwCl (mW a c σ) H → va_S A s.heap H locs → Option.bind (f_X6_areSo_j41 N x1 y0 y1 σ) K2 = some r → W p l e rmX6_areSo s m args below meth cd H locs 0 0 Q (F0 m 41 ls [.int y1, .int y0]) := by
        intro x1 y0 y1 H locs ls hl hP hS hf
        have hf := oun (f_X6_areSo_j41.eq_1 _ _ _ _ _) hf
        refine lv_icmp_eq (tgt := 46) hx hb dX6_areSo_41 (by decide) (fun c_1 => ?_) (fun c_1 => ?_)
        · have hf := oit c_1 hf
          obtain ⟨x1_2, ex1_2, hf⟩ := onm hf
          refine lv_iinc (v := x1_2) (lv' := [(1, .int x1_2), (0, .ref (a 0))]) hx hb dX6_areSo_46 hl (k := 1) rfl ex1_2 (by decide) rfl (fun ls hl => ?_)
          refine lv_goto (tgt := 2) hx hb dX6_areSo_49 (by decide) ?_
          exact ih x1_2 _ _ _ (lv_sub hl [1, 0] rfl) hP hS (okx hf (hc2 _))
        have hf := oif c_1 hf
        refine lv_iconst (v := (0 : Int32)) hx hb dX6_areSo_44 (by decide) ?_
        have hf := okx hf (hx2 _)
        exact hret _ _ _ _ _ _ dX6_areSo_45 (by decide) hP hS ⟨Option.some.inj hf, rfl⟩
      have hf := oun (f_X6_areSo_b2.eq_1 N x1 σ) hf
      refine lv_iload_n hx hb dX6_areSo_2 rfl (lv_at hl 1 rfl) ?_
      refine lv_aload_n hx hb dX6_areSo_3 rfl (lv_at hl 0 rfl) ?_
      refine va_get (D := D) (ci := 4) (v := .int (σ.1 0 8)) (C := RX6) (T := TX6) (N := 27) hx hb ht gX6 hown hK.1 hP 0 (mw0 a c σ) rfl 23 (by decide) (ht _ q142) (fun _ h9 => h9) rfl dX6_areSo_4 ?_
      refine lv_icmp_ge (tgt := 52) hx hb dX6_areSo_7 (by decide) (fun c_3 => ?_) (fun c_3 => ?_)
      · have hf := oit c_3 hf
        exact j52 _ _ _ (lv_sub hl [] rfl) hP hS (okx hf (hx2 _))
      have hf := oif c_3 hf
      refine lv_aload_n hx hb dX6_areSo_10 rfl (lv_at hl 0 rfl) ?_
      refine lv_aload_n hx hb dX6_areSo_11 rfl (lv_at hl 0 rfl) ?_
      refine va_get (D := D) (ci := 4) (v := .ref (a 16)) (C := RX6) (T := TX6) (N := 27) hx hb ht gX6 hown hK.1 hP 0 (mw0 a c σ) rfl 24 (by decide) (ht _ q66) (fun _ h9 => h9) rfl dX6_areSo_12 ?_
      refine lv_iload_n hx hb dX6_areSo_15 rfl (lv_at hl 1 rfl) ?_
      obtain ⟨g_4, hf⟩ := ogd hf
      refine va_iald hx hb hK.1 hP 16 0 (mw16 a c σ) rfl (ck_in g_4) dX6_areSo_16 ?_
      refine lv_aload_n hx hb dX6_areSo_17 rfl (lv_at hl 0 rfl) ?_
      refine va_get (D := D) (ci := 4) (v := .ref (a 17)) (C := RX6) (T := TX6) (N := 27) hx hb ht gX6 hown hK.1 hP 0 (mw0 a c σ) rfl 25 (by decide) (ht _ q67) (fun _ h9 => h9) rfl dX6_areSo_18 ?_
      refine lv_iload_n hx hb dX6_areSo_21 rfl (lv_at hl 1 rfl) ?_
      obtain ⟨g_5, hf⟩ := ogd hf
      refine va_iald hx hb hK.1 hP 17 0 (mw17 a c σ) rfl (ck_in g_5) dX6_areSo_22 ?_
      obtain ⟨r_6, h_7, hf⟩ := obd hf
      refine xv_I (As := [.int (σ.1 16 x1.toNatClampNeg), .int (σ.1 17 x1.toNatClampNeg)]) (rest := []) S k_X6_fitsInto q287 q288 q289 ⟨Nat.le_of_ble_eq_true rfl, Nat.le_of_ble_eq_true rfl⟩ ⟨rfl, rfl⟩ (c_X6_fitsInto l D a c A hD (σ.1 16 x1.toNatClampNeg) (σ.1 17 x1.toNatClampNeg) σ r_6 h_7) hK hP hS (va_recv hK.1 hP (rfl : vwCl[4]? = some (RX6, TX6, 27)) (mw0 a c σ)) rfl hl.1 rfl (Nat.le_of_ble_eq_true rfl) dX6_areSo_23 ⟨Nat.zero_le _, Nat.zero_le _⟩ (fun H locs hP hS => ?_)
      refine lv_aload_n hx hb dX6_areSo_26 rfl (lv_at hl 0 rfl) ?_
      refine va_get (D := D) (ci := 4) (v := .ref (a 18)) (C := RX6) (T := TX6) (N := 27) hx hb ht gX6 hown hK.1 hP 0 (mw0 a c σ) rfl 26 (by decide) (ht _ q68) (fun _ h9 => h9) rfl dX6_areSo_27 ?_
      refine lv_iload_n hx hb dX6_areSo_30 rfl (lv_at hl 1 rfl) ?_
      obtain ⟨g_8, hf⟩ := ogd hf
      refine va_iald hx hb hK.1 hP 18 0 (mw18 a c σ) rfl (ck_in g_8) dX6_areSo_31 ?_
      refine lv_iconst (v := (1 : Int32)) hx hb dX6_areSo_32 (by decide) ?_
      refine lv_icmp_ne (tgt := 40) hx hb dX6_areSo_33 (by decide) (fun c_9 => ?_) (fun c_9 => ?_)
      · have hf := oif c_9 hf
        refine lv_iconst (v := (0 : Int32)) hx hb dX6_areSo_40 (by decide) ?_
        exact j41 x1 r_6 (0 : Int32) _ _ _ (lv_sub hl [0, 1] rfl) hP hS hf
      have hf := oit c_9 hf
      refine lv_iconst (v := (1 : Int32)) hx hb dX6_areSo_36 (by decide) ?_
      refine lv_goto (tgt := 41) hx hb dX6_areSo_37 (by decide) ?_
      exact j41 x1 r_6 (1 : Int32) _ _ _ (lv_sub hl [0, 1] rfl) hP hS hf
  have hf := oun (f_X6_areSo.eq_1 _ _) hf
  refine lv_iconst (v := (0 : Int32)) hx hb dX6_areSo_0 (by decide) ?_
  refine lv_istore_n (lv' := [(1, .int (0 : Int32)), (0, .ref (a 0))]) hx hb dX6_areSo_1 rfl hl (by decide) rfl (fun ls hl => ?_)
  exact L2 N (0 : Int32) _ _ _ (lv_sub hl [1, 0] rfl) hP hS hf
theorem dX6_girths_0 : decode cX6_girths 0 = .ok (.aload_n 0, 1) := by decide +kernel
theorem dX6_girths_1 : decode cX6_girths 1 = .ok (.iload_n 1, 1) := by decide +kernel
theorem dX6_girths_2 : decode cX6_girths 2 = .ok (.invokevirtual 78, 3) := by decide +kernel
theorem dX6_girths_5 : decode cX6_girths 5 = .ok (.ifCond .ne 5, 3) := by decide +kernel
theorem dX6_girths_8 : decode cX6_girths 8 = .ok (.iconst (-1), 1) := by decide +kernel
theorem dX6_girths_9 : decode cX6_girths 9 = .ok (.ireturn, 1) := by decide +kernel
theorem dX6_girths_10 : decode cX6_girths 10 = .ok (.aload_n 0, 1) := by decide +kernel
theorem dX6_girths_11 : decode cX6_girths 11 = .ok (.getfield 22, 3) := by decide +kernel
theorem dX6_girths_14 : decode cX6_girths 14 = .ok (.iload_n 1, 1) := by decide +kernel
theorem dX6_girths_15 : decode cX6_girths 15 = .ok (.iaload, 1) := by decide +kernel
theorem dX6_girths_16 : decode cX6_girths 16 = .ok (.istore_n 2, 1) := by decide +kernel
theorem dX6_girths_17 : decode cX6_girths 17 = .ok (.iconst 0, 1) := by decide +kernel
theorem dX6_girths_18 : decode cX6_girths 18 = .ok (.istore_n 3, 1) := by decide +kernel
theorem dX6_girths_19 : decode cX6_girths 19 = .ok (.iconst 1, 1) := by decide +kernel
theorem dX6_girths_20 : decode cX6_girths 20 = .ok (.istore 4, 2) := by decide +kernel
theorem dX6_girths_22 : decode cX6_girths 22 = .ok (.iload 4, 2) := by decide +kernel
theorem dX6_girths_24 : decode cX6_girths 24 = .ok (.bipush 9, 2) := by decide +kernel
theorem dX6_girths_26 : decode cX6_girths 26 = .ok (.if_icmp .gt 35, 3) := by decide +kernel
theorem dX6_girths_29 : decode cX6_girths 29 = .ok (.aload_n 0, 1) := by decide +kernel
theorem dX6_girths_30 : decode cX6_girths 30 = .ok (.getfield 22, 3) := by decide +kernel
theorem dX6_girths_33 : decode cX6_girths 33 = .ok (.iload_n 1, 1) := by decide +kernel
theorem dX6_girths_34 : decode cX6_girths 34 = .ok (.iload 4, 2) := by decide +kernel
theorem dX6_girths_36 : decode cX6_girths 36 = .ok (.iastore, 1) := by decide +kernel
theorem dX6_girths_37 : decode cX6_girths 37 = .ok (.iload_n 3, 1) := by decide +kernel
theorem dX6_girths_38 : decode cX6_girths 38 = .ok (.aload_n 0, 1) := by decide +kernel
theorem dX6_girths_39 : decode cX6_girths 39 = .ok (.invokevirtual 188, 3) := by decide +kernel
theorem dX6_girths_42 : decode cX6_girths 42 = .ok (.ifCond .eq 10, 3) := by decide +kernel
theorem dX6_girths_45 : decode cX6_girths 45 = .ok (.iconst 1, 1) := by decide +kernel
theorem dX6_girths_46 : decode cX6_girths 46 = .ok (.iload 4, 2) := by decide +kernel
theorem dX6_girths_48 : decode cX6_girths 48 = .ok (.ishl, 1) := by decide +kernel
theorem dX6_girths_49 : decode cX6_girths 49 = .ok (.goto 4, 3) := by decide +kernel
theorem dX6_girths_52 : decode cX6_girths 52 = .ok (.iconst 0, 1) := by decide +kernel
theorem dX6_girths_53 : decode cX6_girths 53 = .ok (.ior, 1) := by decide +kernel
theorem dX6_girths_54 : decode cX6_girths 54 = .ok (.istore_n 3, 1) := by decide +kernel
theorem dX6_girths_55 : decode cX6_girths 55 = .ok (.iinc 4 1, 3) := by decide +kernel
theorem dX6_girths_58 : decode cX6_girths 58 = .ok (.goto (-36), 3) := by decide +kernel
theorem dX6_girths_61 : decode cX6_girths 61 = .ok (.aload_n 0, 1) := by decide +kernel
theorem dX6_girths_62 : decode cX6_girths 62 = .ok (.getfield 22, 3) := by decide +kernel
theorem dX6_girths_65 : decode cX6_girths 65 = .ok (.iload_n 1, 1) := by decide +kernel
theorem dX6_girths_66 : decode cX6_girths 66 = .ok (.iload_n 2, 1) := by decide +kernel
theorem dX6_girths_67 : decode cX6_girths 67 = .ok (.iastore, 1) := by decide +kernel
theorem dX6_girths_68 : decode cX6_girths 68 = .ok (.iload_n 3, 1) := by decide +kernel
theorem dX6_girths_69 : decode cX6_girths 69 = .ok (.ireturn, 1) := by decide +kernel
def f_X6_girths_j61 (N : Nat) (x1 : Int32) (x2 : Int32) (x3 : Int32) (σ : St) : Option (Int32 × St) :=
  gd (ck x1 4) <|
  nm (wS σ 5 (Int32.toNatClampNeg x1) x2) fun σ_2 =>
  some (x3, σ_2)
def f_X6_girths_j53 (N : Nat) (x1 : Int32) (x2 : Int32) (x4 : Int32) (y0 : Int32) (y1 : Int32) (σ : St) : Option ((Int32 × Int32 × St) ⊕ ((Int32 × St))) :=
  nm (y0 ||| y1) fun x3_3 =>
  nm (x4 + (1 : Int32)) fun x4_4 =>
  some (.inl (x3_3, x4_4, σ))
def f_X6_girths_b22 (N : Nat) (x1 : Int32) (x2 : Int32) (x3 : Int32) (x4 : Int32) (σ : St) : Option ((Int32 × Int32 × St) ⊕ ((Int32 × St))) :=
  if (9 : Int32) < x4 then (some (.inr (x3, σ)))
  else gd (ck x1 4) <|
  nm (wS σ 5 (Int32.toNatClampNeg x1) x4) fun σ_7 =>
  bd (f_X6_areSo N σ_7) fun r_8 =>
  if r_8 = 0 then (f_X6_girths_j53 N x1 x2 x4 x3 (0 : Int32) σ_7)
  else f_X6_girths_j53 N x1 x2 x4 x3 ((1 : Int32) <<< (x4 &&& 31)) σ_7
def f_X6_girths (N : Nat) (x1 : Int32) (σ : St) : Option (Int32 × St) :=
  bd (f_X6_isDoll x1 σ) fun r_11 =>
  if r_11 = 0 then (some ((-1 : Int32), σ))
  else gd (ck x1 4) <|
    nm (σ.1 5 x1.toNatClampNeg) fun x2_15 =>
    bd (lpF (fun s => f_X6_girths_b22 N x1 x2_15 s.1 s.2.1 s.2.2) N ((0 : Int32), (1 : Int32), σ)) (fun o => f_X6_girths_j61 N x1 x2_15 o.1 o.2)
abbrev rmX6_girths : Room := { frames := 3, cells := 0, slots := 0, locals := 64 }
set_option maxRecDepth 100000 in
set_option maxHeartbeats 4000000 in
theorem c_X6_girths (l : Launch) (D : va_G) (a : Nat → Nat) (c : Nat → ClassId) (A : Nat → Prop) (hD : ∀ σ, va_D A (mW a c σ)) (N : Nat) (x1 : Int32) (σ : St) (r : Int32) (u : St) (hf : f_X6_girths N x1 σ = some (r, u)) : MetI l yX6_girths cX6_girths 5 (some .int) rmX6_girths (mW a c) D c A [.ref (a 0), .int x1] σ r u := by
  refine mkI (by decide) (Nat.le_of_ble_eq_true rfl) rfl ?_
  intro p e s m args below meth cd Q ls h0 hK hP hret hl
  obtain ⟨S, hr, hlk⟩ := h0
  obtain ⟨hx, hb, hml, hown, ht⟩ := id S
  have hS : va_S A s.heap s.heap [] := va_S.rf
  have hl : lv_has ls 5 [(0, .ref (a 0)), (1, .int x1)] := hl
  have hf := obs hf
  have j61 : ∀ (x1 : Int32) (x2 : Int32) (x3 : Int32) (σ : St) (H : Heap) (locs : List Loc) (ls : Array Slot), lv_has ls 5 [(0, .ref (a 0)), (1, .int x1), (2, .int x2), (3, .int x3)] → va_P D vwCl (mW a c σ) H → va_S A s.heap H locs → Option.bind (f_X6_girths_j61 N x1 x2 x3 σ) some = some (r, u) → W p l e rmX6_girths s m args below meth cd H locs 0 0 Q (F0 m 61 ls []) := by
    intro x1 x2 x3 σ H locs ls hl hP hS hf
    have hf := oun (f_X6_girths_j61.eq_1 _ _ _ _ _) hf
    refine lv_aload_n hx hb dX6_girths_61 rfl (lv_at hl 0 rfl) ?_
    refine va_get (D := D) (ci := 4) (v := .ref (a 5)) (C := RX6) (T := TX6) (N := 27) hx hb ht gX6 hown hK.1 hP 0 (mw0 a c σ) rfl 8 (by decide) (ht _ q54) (fun _ h9 => h9) rfl dX6_girths_62 ?_
    refine lv_iload_n hx hb dX6_girths_65 rfl (lv_at hl 1 rfl) ?_
    refine lv_iload_n hx hb dX6_girths_66 rfl (lv_at hl 2 rfl) ?_
    obtain ⟨g_1, hf⟩ := ogd hf
    refine va_iast hx hb hK.1 hP (hD σ) hS 5 0 (mw5 a c σ) rfl (ck_in g_1) dX6_girths_67 (fun H locs hP _ hS => ?_)
    have hP := vP_eq (mpA_m5 a c σ (Int32.toNatClampNeg x1) x2) hP
    obtain ⟨σ_2, eσ_2, hf⟩ := onm hf
    rw [eσ_2] at hP
    refine lv_iload_n hx hb dX6_girths_68 rfl (lv_at hl 3 rfl) ?_
    exact hret _ _ _ _ _ _ dX6_girths_69 rfl hP hS (oret hf)
  have L22 : ∀ (x1 : Int32) (x2 : Int32) (k : Nat) (x3 : Int32) (x4 : Int32) (σ : St) (H : Heap) (locs : List Loc) (ls : Array Slot), lv_has ls 5 [(0, .ref (a 0)), (1, .int x1), (2, .int x2), (3, .int x3), (4, .int x4)] → va_P D vwCl (mW a c σ) H → va_S A s.heap H locs → Option.bind (bd (lpF (fun s => f_X6_girths_b22 N x1 x2 s.1 s.2.1 s.2.2) k (x3, x4, σ)) (fun o => f_X6_girths_j61 N x1 x2 o.1 o.2)) some = some (r, u) → W p l e rmX6_girths s m args below meth cd H locs 0 0 Q (F0 m 22 ls []) := by
    intro x1 x2 k
    induction k with
    | zero =>
      intro x3 x4 σ H locs ls hl hP hS hf
      exact (ol0 hf).elim
    | succ k ih =>
      intro x3 x4 σ H locs ls hl hP hS hf
      obtain ⟨K22, hf, hc22, hx22⟩ := ol1 hf
      have j53 : ∀ (x4 : Int32) (y0 : Int32) (y1 : Int32) (σ : St) (H : Heap) (locs : List Loc) (ls : Array Slot), lv_has ls 5 [(0, .ref (a 0)), (1, .int x1), (2, .int x2), (4, .int x4)] → va_P D vwCl (mW a c σ) H → va_S A s.heap H locs → Option.bind (f_X6_girths_j53 N x1 x2 x4 y0 y1 σ) K22 = some (r, u) → W p l e rmX6_girths s m args below meth cd H locs 0 0 Q (F0 m 53 ls [.int y1, .int y0]) := by
        intro x4 y0 y1 σ H locs ls hl hP hS hf
        have hf := oun (f_X6_girths_j53.eq_1 _ _ _ _ _ _ _) hf
        refine lv_ior hx hb dX6_girths_53 ?_
        obtain ⟨x3_3, ex3_3, hf⟩ := onm hf
        refine lv_nm ex3_3 ?_
        refine lv_istore_n (lv' := [(3, .int x3_3), (0, .ref (a 0)), (1, .int x1), (2, .int x2), (4, .int x4)]) hx hb dX6_girths_54 rfl hl (by decide) rfl (fun ls hl => ?_)
        obtain ⟨x4_4, ex4_4, hf⟩ := onm hf
        refine lv_iinc (v := x4_4) (lv' := [(4, .int x4_4), (3, .int x3_3), (0, .ref (a 0)), (1, .int x1), (2, .int x2)]) hx hb dX6_girths_55 hl (k := 4) rfl ex4_4 (by decide) rfl (fun ls hl => ?_)
        refine lv_goto (tgt := 22) hx hb dX6_girths_58 (by decide) ?_
        exact ih x3_3 x4_4 σ _ _ _ (lv_sub hl [2, 3, 4, 1, 0] rfl) hP hS (okx hf (hc22 _))
      have hf := oun (f_X6_girths_b22.eq_1 N x1 x2 x3 x4 σ) hf
      refine lv_iload hx hb dX6_girths_22 (lv_at hl 4 rfl) ?_
      refine lv_bipush (v := (9 : Int32)) hx hb dX6_girths_24 (by decide) ?_
      refine lv_icmp_gt (tgt := 61) hx hb dX6_girths_26 (by decide) (fun c_5 => ?_) (fun c_5 => ?_)
      · have hf := oit c_5 hf
        exact j61 x1 x2 x3 σ _ _ _ (lv_sub hl [0, 1, 2, 3] rfl) hP hS (okx hf (hx22 _))
      have hf := oif c_5 hf
      refine lv_aload_n hx hb dX6_girths_29 rfl (lv_at hl 0 rfl) ?_
      refine va_get (D := D) (ci := 4) (v := .ref (a 5)) (C := RX6) (T := TX6) (N := 27) hx hb ht gX6 hown hK.1 hP 0 (mw0 a c σ) rfl 8 (by decide) (ht _ q54) (fun _ h9 => h9) rfl dX6_girths_30 ?_
      refine lv_iload_n hx hb dX6_girths_33 rfl (lv_at hl 1 rfl) ?_
      refine lv_iload hx hb dX6_girths_34 (lv_at hl 4 rfl) ?_
      obtain ⟨g_6, hf⟩ := ogd hf
      refine va_iast hx hb hK.1 hP (hD σ) hS 5 0 (mw5 a c σ) rfl (ck_in g_6) dX6_girths_36 (fun H locs hP _ hS => ?_)
      have hP := vP_eq (mpA_m5 a c σ (Int32.toNatClampNeg x1) x4) hP
      obtain ⟨σ_7, eσ_7, hf⟩ := onm hf
      rw [eσ_7] at hP
      refine lv_iload_n hx hb dX6_girths_37 rfl (lv_at hl 3 rfl) ?_
      refine lv_aload_n hx hb dX6_girths_38 rfl (lv_at hl 0 rfl) ?_
      obtain ⟨r_8, h_9, hf⟩ := obd hf
      refine xv_I (As := []) (rest := [.int x3]) S k_X6_areSo q572 q573 q574 ⟨Nat.le_of_ble_eq_true rfl, Nat.le_of_ble_eq_true rfl⟩ ⟨rfl, rfl⟩ (c_X6_areSo l D a c A hD N σ_7 r_8 h_9) hK hP hS (va_recv hK.1 hP (rfl : vwCl[4]? = some (RX6, TX6, 27)) (mw0 a c σ_7)) rfl hl.1 rfl (Nat.le_of_ble_eq_true rfl) dX6_girths_39 ⟨Nat.zero_le _, Nat.zero_le _⟩ (fun H locs hP hS => ?_)
      refine lv_if_eq (tgt := 52) hx hb dX6_girths_42 (by decide) (fun c_10 => ?_) (fun c_10 => ?_)
      · have hf := oit c_10 hf
        refine lv_iconst (v := (0 : Int32)) hx hb dX6_girths_52 (by decide) ?_
        exact j53 x4 x3 (0 : Int32) σ_7 _ _ _ (lv_sub hl [0, 1, 2, 4] rfl) hP hS hf
      have hf := oif c_10 hf
      refine lv_iconst (v := (1 : Int32)) hx hb dX6_girths_45 (by decide) ?_
      refine lv_iload hx hb dX6_girths_46 (lv_at hl 4 rfl) ?_
      refine lv_ishl hx hb dX6_girths_48 ?_
      refine lv_goto (tgt := 53) hx hb dX6_girths_49 (by decide) ?_
      exact j53 x4 x3 ((1 : Int32) <<< (x4 &&& 31)) σ_7 _ _ _ (lv_sub hl [0, 1, 2, 4] rfl) hP hS hf
  have hf := oun (f_X6_girths.eq_1 _ _ _) hf
  refine lv_aload_n hx hb dX6_girths_0 rfl (lv_at hl 0 rfl) ?_
  refine lv_iload_n hx hb dX6_girths_1 rfl (lv_at hl 1 rfl) ?_
  obtain ⟨r_11, h_12, hf⟩ := obd hf
  refine xv_I (As := [.int x1]) (rest := []) S k_X6_isDoll q226 q227 q228 ⟨Nat.le_of_ble_eq_true rfl, Nat.le_of_ble_eq_true rfl⟩ ⟨rfl, rfl⟩ (c_X6_isDoll l D a c A hD x1 σ r_11 h_12) hK hP hS (va_recv hK.1 hP (rfl : vwCl[4]? = some (RX6, TX6, 27)) (mw0 a c σ)) rfl hl.1 rfl (Nat.le_of_ble_eq_true rfl) dX6_girths_2 ⟨Nat.zero_le _, Nat.zero_le _⟩ (fun H locs hP hS => ?_)
  refine lv_if_ne (tgt := 10) hx hb dX6_girths_5 (by decide) (fun c_13 => ?_) (fun c_13 => ?_)
  · have hf := oif c_13 hf
    refine lv_aload_n hx hb dX6_girths_10 rfl (lv_at hl 0 rfl) ?_
    refine va_get (D := D) (ci := 4) (v := .ref (a 5)) (C := RX6) (T := TX6) (N := 27) hx hb ht gX6 hown hK.1 hP 0 (mw0 a c σ) rfl 8 (by decide) (ht _ q54) (fun _ h9 => h9) rfl dX6_girths_11 ?_
    refine lv_iload_n hx hb dX6_girths_14 rfl (lv_at hl 1 rfl) ?_
    obtain ⟨g_14, hf⟩ := ogd hf
    refine va_iald hx hb hK.1 hP 5 0 (mw5 a c σ) rfl (ck_in g_14) dX6_girths_15 ?_
    obtain ⟨x2_15, ex2_15, hf⟩ := onm hf
    refine lv_nm ex2_15 ?_
    refine lv_istore_n (lv' := [(2, .int x2_15), (0, .ref (a 0)), (1, .int x1)]) hx hb dX6_girths_16 rfl hl (by decide) rfl (fun ls hl => ?_)
    refine lv_iconst (v := (0 : Int32)) hx hb dX6_girths_17 (by decide) ?_
    refine lv_istore_n (lv' := [(3, .int (0 : Int32)), (2, .int x2_15), (0, .ref (a 0)), (1, .int x1)]) hx hb dX6_girths_18 rfl hl (by decide) rfl (fun ls hl => ?_)
    refine lv_iconst (v := (1 : Int32)) hx hb dX6_girths_19 (by decide) ?_
    refine lv_istore (lv' := [(4, .int (1 : Int32)), (3, .int (0 : Int32)), (2, .int x2_15), (0, .ref (a 0)), (1, .int x1)]) hx hb dX6_girths_20 hl (by decide) rfl (fun ls hl => ?_)
    exact L22 x1 x2_15 N (0 : Int32) (1 : Int32) σ _ _ _ (lv_sub hl [3, 4, 2, 1, 0] rfl) hP hS hf
  have hf := oit c_13 hf
  refine lv_iconst (v := (-1 : Int32)) hx hb dX6_girths_8 (by decide) ?_
  exact hret _ _ _ _ _ _ dX6_girths_9 rfl hP hS (oret hf)
