theorem dJ7_fill_53178_0 : decode cJ7_fill_53178 0 = .ok (.iconst 0, 1) := by decide +kernel
theorem dJ7_fill_53178_1 : decode cJ7_fill_53178 1 = .ok (.istore_n 2, 1) := by decide +kernel
theorem dJ7_fill_53178_2 : decode cJ7_fill_53178 2 = .ok (.aload_n 0, 1) := by decide +kernel
theorem dJ7_fill_53178_3 : decode cJ7_fill_53178 3 = .ok (.arraylength, 1) := by decide +kernel
theorem dJ7_fill_53178_4 : decode cJ7_fill_53178 4 = .ok (.istore_n 3, 1) := by decide +kernel
theorem dJ7_fill_53178_5 : decode cJ7_fill_53178 5 = .ok (.iload_n 2, 1) := by decide +kernel
theorem dJ7_fill_53178_6 : decode cJ7_fill_53178 6 = .ok (.iload_n 3, 1) := by decide +kernel
theorem dJ7_fill_53178_7 : decode cJ7_fill_53178 7 = .ok (.if_icmp .ge 13, 3) := by decide +kernel
theorem dJ7_fill_53178_10 : decode cJ7_fill_53178 10 = .ok (.aload_n 0, 1) := by decide +kernel
theorem dJ7_fill_53178_11 : decode cJ7_fill_53178 11 = .ok (.iload_n 2, 1) := by decide +kernel
theorem dJ7_fill_53178_12 : decode cJ7_fill_53178 12 = .ok (.iload_n 1, 1) := by decide +kernel
theorem dJ7_fill_53178_13 : decode cJ7_fill_53178 13 = .ok (.iastore, 1) := by decide +kernel
theorem dJ7_fill_53178_14 : decode cJ7_fill_53178 14 = .ok (.iinc 2 1, 3) := by decide +kernel
theorem dJ7_fill_53178_17 : decode cJ7_fill_53178 17 = .ok (.goto (-12), 3) := by decide +kernel
theorem dJ7_fill_53178_20 : decode cJ7_fill_53178 20 = .ok (.return_, 1) := by decide +kernel
theorem dJ7_fill_d0a16_0 : decode cJ7_fill_d0a16 0 = .ok (.iconst 0, 1) := by decide +kernel
theorem dJ7_fill_d0a16_1 : decode cJ7_fill_d0a16 1 = .ok (.istore_n 3, 1) := by decide +kernel
theorem dJ7_fill_d0a16_2 : decode cJ7_fill_d0a16 2 = .ok (.aload_n 0, 1) := by decide +kernel
theorem dJ7_fill_d0a16_3 : decode cJ7_fill_d0a16 3 = .ok (.arraylength, 1) := by decide +kernel
theorem dJ7_fill_d0a16_4 : decode cJ7_fill_d0a16 4 = .ok (.istore 4, 2) := by decide +kernel
theorem dJ7_fill_d0a16_6 : decode cJ7_fill_d0a16 6 = .ok (.iload_n 3, 1) := by decide +kernel
theorem dJ7_fill_d0a16_7 : decode cJ7_fill_d0a16 7 = .ok (.iload 4, 2) := by decide +kernel
theorem dJ7_fill_d0a16_9 : decode cJ7_fill_d0a16 9 = .ok (.if_icmp .ge 13, 3) := by decide +kernel
theorem dJ7_fill_d0a16_12 : decode cJ7_fill_d0a16 12 = .ok (.aload_n 0, 1) := by decide +kernel
theorem dJ7_fill_d0a16_13 : decode cJ7_fill_d0a16 13 = .ok (.iload_n 3, 1) := by decide +kernel
theorem dJ7_fill_d0a16_14 : decode cJ7_fill_d0a16 14 = .ok (.lload_n 1, 1) := by decide +kernel
theorem dJ7_fill_d0a16_15 : decode cJ7_fill_d0a16 15 = .ok (.lastore, 1) := by decide +kernel
theorem dJ7_fill_d0a16_16 : decode cJ7_fill_d0a16 16 = .ok (.iinc 3 1, 3) := by decide +kernel
theorem dJ7_fill_d0a16_19 : decode cJ7_fill_d0a16 19 = .ok (.goto (-13), 3) := by decide +kernel
theorem dJ7_fill_d0a16_22 : decode cJ7_fill_d0a16 22 = .ok (.return_, 1) := by decide +kernel
theorem upd_is (f : Nat → Int32) (k : Nat) (v : Int32) : upd f k v = va_up f k v := rfl
theorem wG_same (σ : St) (g : Nat) : wG σ g (σ.1 g) = σ := by
  obtain ⟨s1, s2⟩ := σ
  show (va_up s1 g (s1 g), s2) = (s1, s2)
  congr 1
  funext j
  by_cases h : j = g
  · rw [h, va_up_self]
  · rw [va_up_ne _ _ h]
theorem wS_wG (σ : St) (g : Nat) (f : Nat → Int32) (j : Nat) (v : Int32) : wS (wG σ g f) g j v = wG σ g (upd f j v) := by
  show (va_up (va_up σ.1 g f) g (upd (va_up σ.1 g f g) j v), σ.2) = (va_up σ.1 g (upd f j v), σ.2)
  rw [va_up_self]
  congr 1
  funext i
  by_cases h : i = g
  · rw [h, va_up_self, va_up_self]
  · rw [va_up_ne _ _ h, va_up_ne _ _ h, va_up_ne _ _ h]
theorem fl_step (f : Nat → Int32) (n : Nat) (v : Int32) : upd (fun j => if j < n then v else f j) n v = fun j => if j < n + 1 then v else f j := by
  funext j
  unfold upd
  by_cases h : j = n
  · rw [if_pos h, if_pos (by omega)]
  · rw [if_neg h]
    show (if j < n then v else f j) = _
    by_cases h2 : j < n
    · rw [if_pos h2, if_pos (by omega)]
    · rw [if_neg h2, if_neg (by omega)]
theorem fl_stepL (f : Nat → Int64) (n : Nat) (v : Int64) : vp_updL (fun j => if j < n then v else f j) n v = fun j => if j < n + 1 then v else f j := by
  funext j
  unfold vp_updL
  by_cases h : j = n
  · rw [if_pos h, if_pos (by omega)]
  · rw [if_neg h]
    show (if j < n then v else f j) = _
    by_cases h2 : j < n
    · rw [if_pos h2, if_pos (by omega)]
    · rw [if_neg h2, if_neg (by omega)]
abbrev rmZ : Room := { frames := 0, cells := 0, slots := 0, locals := 0 }
set_option maxRecDepth 100000 in
set_option maxHeartbeats 4000000 in
theorem c_fillI (l : Launch) (D : va_G) (a : Nat → Nat) (c : Nat → ClassId) (A : Nat → Prop) (hD : ∀ σ, va_D A (cW a c σ)) (σ : St) (d : Nat) (hd : d < 4) (v : Int32) : MetV l yJ7_fill_53178 cJ7_fill_53178 4 none rmZ (cW a c) D c A [.ref (a (19 + d)), .int v] σ (wG σ (12 + d) (fun j => if j < 60 then v else σ.1 (12 + d) j)) := by
  refine mkV (by decide) (Nat.le_of_ble_eq_true rfl) rfl ?_
  intro p e s m args below meth cd Q ls h0 hK hP hret hl
  obtain ⟨S, hr, hlk⟩ := h0
  obtain ⟨hx, hb, hml, hown, ht⟩ := id S
  have hS : va_S A s.heap s.heap [] := va_S.rf
  have hl : lv_has ls 4 [(0, .ref (a (19 + d))), (1, .int v)] := hl
  have LP : ∀ (k n : Nat) (H : Heap) (locs : List Loc) (ls : Array Slot), n + k = 60 → lv_has ls 4 [(3, .int (60 : Int32)), (2, .int (nI n)), (0, .ref (a (19 + d))), (1, .int v)] → va_P D vwCl (cW a c (wG σ (12 + d) (fun j => if j < n then v else σ.1 (12 + d) j))) H → va_S A s.heap H locs → W p l e rmZ s m args below meth cd H locs 0 0 Q (F0 m 5 ls []) := by
    intro k
    induction k with
    | zero =>
      intro n H locs ls hn hl hP hS
      have hn : n = 60 := hn
      subst hn
      refine lv_iload_n hx hb dJ7_fill_53178_5 rfl (lv_at hl 1 rfl) ?_
      refine lv_iload_n hx hb dJ7_fill_53178_6 rfl (lv_at hl 0 rfl) ?_
      refine lv_icmp_ge (tgt := 20) hx hb dJ7_fill_53178_7 (by decide) (fun c1 => ?_) (fun c1 => ?_)
      · exact hret _ _ _ _ _ dJ7_fill_53178_20 hP hS rfl
      · exact absurd (by decide) c1
    | succ k ih =>
      intro n H locs ls hn hl hP hS
      refine lv_iload_n hx hb dJ7_fill_53178_5 rfl (lv_at hl 1 rfl) ?_
      refine lv_iload_n hx hb dJ7_fill_53178_6 rfl (lv_at hl 0 rfl) ?_
      refine lv_icmp_ge (tgt := 20) hx hb dJ7_fill_53178_7 (by decide) (fun c1 => ?_) (fun c1 => ?_)
      · exact absurd c1 (nI_ge (a := n) (b := 60) (by omega) (by omega))
      · refine lv_aload_n hx hb dJ7_fill_53178_10 rfl (lv_at hl 2 rfl) ?_
        refine lv_iload_n hx hb dJ7_fill_53178_11 rfl (lv_at hl 1 rfl) ?_
        refine lv_iload_n hx hb dJ7_fill_53178_12 rfl (lv_at hl 3 rfl) ?_
        refine va_iast hx hb hK.1 hP (hD _) hS (19 + d) 0 (cwcells a c _ d hd) rfl (vp_in_nI (by omega) (by omega)) dJ7_fill_53178_13 (fun H locs hP _ hS => ?_)
        have hP := vP_eq (cpA_cells a c _ d hd _ _) hP
        rw [wS_wG, nI_clamp (by omega)] at hP
        have e1 : (wG σ (12 + d) (fun j => if j < n then v else σ.1 (12 + d) j)).1 (12 + d) = fun j => if j < n then v else σ.1 (12 + d) j := va_up_self _ _ _
        rw [fl_step] at hP
        refine lv_iinc (v := nI (n + 1)) (lv' := [(2, .int (nI (n + 1))), (3, .int (60 : Int32)), (0, .ref (a (19 + d))), (1, .int v)]) hx hb dJ7_fill_53178_14 hl (k := 1) rfl (nI_1 n) (by decide) rfl (fun ls hl => ?_)
        refine lv_goto (tgt := 5) hx hb dJ7_fill_53178_17 (by decide) ?_
        exact ih (n + 1) _ _ _ (by omega) (lv_sub hl [1, 0, 2, 3] rfl) hP hS
  refine lv_iconst (v := (0 : Int32)) hx hb dJ7_fill_53178_0 (by decide) ?_
  refine lv_istore_n (lv' := [(2, .int (0 : Int32)), (0, .ref (a (19 + d))), (1, .int v)]) hx hb dJ7_fill_53178_1 rfl hl (by decide) rfl (fun ls hl => ?_)
  refine lv_aload_n hx hb dJ7_fill_53178_2 rfl (lv_at hl 1 rfl) ?_
  refine va_alen (v := (60 : Int32)) hx hb hK.1 hP (19 + d) 0 (cwcells a c _ d hd) rfl rfl dJ7_fill_53178_3 ?_
  refine lv_istore_n (lv' := [(3, .int (60 : Int32)), (2, .int (0 : Int32)), (0, .ref (a (19 + d))), (1, .int v)]) hx hb dJ7_fill_53178_4 rfl hl (by decide) rfl (fun ls hl => ?_)
  have hP : va_P D vwCl (cW a c (wG σ (12 + d) (fun j => if j < 0 then v else σ.1 (12 + d) j))) s.heap := by
    have e0 : (fun j => if j < 0 then v else σ.1 (12 + d) j) = σ.1 (12 + d) := by funext j; rw [if_neg (by omega)]
    rw [e0, wG_same]
    exact hP
  exact LP 60 0 _ _ _ rfl hl hP hS
set_option maxRecDepth 100000 in
set_option maxHeartbeats 4000000 in
theorem c_fillL (l : Launch) (D : va_G) (a : Nat → Nat) (c : Nat → ClassId) (A : Nat → Prop) (hD : ∀ σ, va_D A (cW a c σ)) (σ : St) (v : Int64) : MetV l yJ7_fill_d0a16 cJ7_fill_d0a16 5 none rmZ (cW a c) D c A [.ref (a 10), .long v] σ (wLs σ (fun j => if j < 1024 then v else σ.2 j)) := by
  refine mkV (by decide) (Nat.le_of_ble_eq_true rfl) rfl ?_
  intro p e s m args below meth cd Q ls h0 hK hP hret hl
  obtain ⟨S, hr, hlk⟩ := h0
  obtain ⟨hx, hb, hml, hown, ht⟩ := id S
  have hS : va_S A s.heap s.heap [] := va_S.rf
  have hl : lv_has ls 5 [(0, .ref (a 10)), (1, .long v)] := hl
  have LP : ∀ (k n : Nat) (H : Heap) (locs : List Loc) (ls : Array Slot), n + k = 1024 → lv_has ls 5 [(4, .int (1024 : Int32)), (3, .int (nI n)), (0, .ref (a 10)), (1, .long v)] → va_P D vwCl (cW a c (wLs σ (fun j => if j < n then v else σ.2 j))) H → va_S A s.heap H locs → W p l e rmZ s m args below meth cd H locs 0 0 Q (F0 m 6 ls []) := by
    intro k
    induction k with
    | zero =>
      intro n H locs ls hn hl hP hS
      have hn : n = 1024 := hn
      subst hn
      refine lv_iload_n hx hb dJ7_fill_d0a16_6 rfl (lv_at hl 1 rfl) ?_
      refine lv_iload hx hb dJ7_fill_d0a16_7 (lv_at hl 0 rfl) ?_
      refine lv_icmp_ge (tgt := 22) hx hb dJ7_fill_d0a16_9 (by decide) (fun c1 => ?_) (fun c1 => ?_)
      · exact hret _ _ _ _ _ dJ7_fill_d0a16_22 hP hS rfl
      · exact absurd (by decide) c1
    | succ k ih =>
      intro n H locs ls hn hl hP hS
      refine lv_iload_n hx hb dJ7_fill_d0a16_6 rfl (lv_at hl 1 rfl) ?_
      refine lv_iload hx hb dJ7_fill_d0a16_7 (lv_at hl 0 rfl) ?_
      refine lv_icmp_ge (tgt := 22) hx hb dJ7_fill_d0a16_9 (by decide) (fun c1 => ?_) (fun c1 => ?_)
      · exact absurd c1 (nI_ge (a := n) (b := 1024) (by omega) (by omega))
      · refine lv_aload_n hx hb dJ7_fill_d0a16_12 rfl (lv_at hl 2 rfl) ?_
        refine lv_iload_n hx hb dJ7_fill_d0a16_13 rfl (lv_at hl 1 rfl) ?_
        refine lv_lload_n hx hb dJ7_fill_d0a16_14 rfl (lv_at hl 3 rfl) ?_
        refine va_last hx hb hK.1 hP (hD _) hS 10 1 (cw10 a c _) rfl (vp_in_nI (by omega) (by omega)) dJ7_fill_d0a16_15 (fun H locs hP _ hS => ?_)
        have hP := vP_eq (cpA_seen a c _ _ _) hP
        have e2 : wL (wLs σ (fun j => if j < n then v else σ.2 j)) (nI n).toNatClampNeg v = wLs σ (fun j => if j < n + 1 then v else σ.2 j) := by
          rw [nI_clamp (by omega), ← fl_stepL]
          rfl
        rw [e2] at hP
        refine lv_iinc (v := nI (n + 1)) (lv' := [(3, .int (nI (n + 1))), (4, .int (1024 : Int32)), (0, .ref (a 10)), (1, .long v)]) hx hb dJ7_fill_d0a16_16 hl (k := 1) rfl (nI_1 n) (by decide) rfl (fun ls hl => ?_)
        refine lv_goto (tgt := 6) hx hb dJ7_fill_d0a16_19 (by decide) ?_
        exact ih (n + 1) _ _ _ (by omega) (lv_sub hl [1, 0, 2, 3] rfl) hP hS
  refine lv_iconst (v := (0 : Int32)) hx hb dJ7_fill_d0a16_0 (by decide) ?_
  refine lv_istore_n (lv' := [(3, .int (0 : Int32)), (0, .ref (a 10)), (1, .long v)]) hx hb dJ7_fill_d0a16_1 rfl hl (by decide) rfl (fun ls hl => ?_)
  refine lv_aload_n hx hb dJ7_fill_d0a16_2 rfl (lv_at hl 1 rfl) ?_
  refine va_alen (v := (1024 : Int32)) hx hb hK.1 hP 10 1 (cw10 a c _) rfl rfl dJ7_fill_d0a16_3 ?_
  refine lv_istore (lv' := [(4, .int (1024 : Int32)), (3, .int (0 : Int32)), (0, .ref (a 10)), (1, .long v)]) hx hb dJ7_fill_d0a16_4 hl (by decide) rfl (fun ls hl => ?_)
  have hP : va_P D vwCl (cW a c (wLs σ (fun j => if j < 0 then v else σ.2 j))) s.heap := by
    have e0 : (fun j => if j < 0 then v else σ.2 j) = σ.2 := by funext j; rw [if_neg (by omega)]
    rw [e0]
    exact hP
  exact LP 1024 0 _ _ _ rfl hl hP hS
