set_option maxRecDepth 100000 in
set_option maxHeartbeats 4000000 in
theorem lw_case0 {p : Program} {l : Launch} {e : Env} {s : State} {m : MethodId} {below : List Frame} {meth : Method} {cd : Code} {D : va_G} {a b : Nat → Nat} {c : Nat → ClassId} {bs L : Nat} {xs : Nat → Int32} (C0 : lw_At p s m meth cd bs L xs) (hK : KK D c s) {N : Nat} {R : St → St → Prop} (hsim : S_dolls N R) {i : Nat} (hi : i + 6 ≤ L) (hL : L ≤ 3072) (cont : ∀ (σ τ : St) (H : Heap) (locs : List Loc) (ls : Array Slot), R σ τ → lv_has ls 4 [(3, .int (nI i)), (2, .ref (b 0)), (1, .ref (a 0)), (0, .ref bs)] → va_P D vwCl (cW a c σ ++ mW b c τ) H → va_D (fun q : Nat => s.heap.size ≤ q) (cW a c σ ++ mW b c τ) → va_S (fun q : Nat => s.heap.size ≤ q) s.heap H locs → W p l e room_1 s m #[Value.ref bs] below meth cd H locs 42 49418 (lw_Z below #[Value.ref bs] s) (F0 m 1080 ls [])) : ∀ (σ τ : St) (H : Heap) (locs : List Loc) (ls : Array Slot), R σ τ → lv_has ls 4 [(3, .int (nI i)), (2, .ref (b 0)), (1, .ref (a 0)), (0, .ref bs)] → va_P D vwCl (cW a c σ ++ mW b c τ) H → va_D (fun q : Nat => s.heap.size ≤ q) (cW a c σ ++ mW b c τ) → va_S (fun q : Nat => s.heap.size ≤ q) s.heap H locs → W p l e room_1 s m #[Value.ref bs] below meth cd H locs 42 49418 (lw_Z below #[Value.ref bs] s) (F0 m 168 ls []) := by
  intro σ τ H locs ls hRl hl hP hD hS
  obtain ⟨hx, hb, hr, hml, hown, hts, hX, hbl, hlocks, hgv⟩ := id C0
  have ht : ∀ w ∈ gW, w.before #[Value.ref bs] s = true := fun w h => hts w (gW_tbl w h)
  have S : CallFix p m cd code 4 s #[Value.ref bs] gW RL := ⟨hx, hb, hml, hown, ht⟩
  have hA : ∀ q : Nat, s.heap.size ≤ q → (fun q : Nat => s.heap.size ≤ q) q := fun _ h => h
  have hbA : ¬ (fun q : Nat => s.heap.size ≤ q) bs := Nat.not_le.mpr hbl
  have i1 : vp_in (nI i + (1 : Int32)) L := by rw [show nI i + (1 : Int32) = nI (i + 1) from nI_add i 1]; exact vp_in_nI (by omega) (by omega)
  have i2 : vp_in (nI i + (2 : Int32)) L := by rw [show nI i + (2 : Int32) = nI (i + 2) from nI_add i 2]; exact vp_in_nI (by omega) (by omega)
  have i3 : vp_in (nI i + (3 : Int32)) L := by rw [show nI i + (3 : Int32) = nI (i + 3) from nI_add i 3]; exact vp_in_nI (by omega) (by omega)
  have i4 : vp_in (nI i + (4 : Int32)) L := by rw [show nI i + (4 : Int32) = nI (i + 4) from nI_add i 4]; exact vp_in_nI (by omega) (by omega)
  obtain ⟨r, σ1, τ1, h5, h6, hR1⟩ := hsim (xs (Int32.toNatClampNeg (nI i + (1 : Int32)))) (xs (Int32.toNatClampNeg (nI i + (2 : Int32)))) (xs (Int32.toNatClampNeg (nI i + (3 : Int32)))) (xs (Int32.toNatClampNeg (nI i + (4 : Int32)))) σ τ hRl
  refine lv_aload_n hx hb dL_law_168 rfl (lv_at hl 2 rfl) ?_
  refine lv_aload_n hx hb dL_law_169 rfl (lv_at hl 3 rfl) ?_
  refine lv_iload_n hx hb dL_law_170 rfl (lv_at hl 0 rfl) ?_
  refine lv_iconst (v := (1 : Int32)) hx hb dL_law_171 (by decide) ?_
  refine lv_iadd hx hb dL_law_172 ?_
  refine va_sld hx hb hX hbl hbA hS i1 dL_law_173 ?_
  refine lv_aload_n hx hb dL_law_174 rfl (lv_at hl 3 rfl) ?_
  refine lv_iload_n hx hb dL_law_175 rfl (lv_at hl 0 rfl) ?_
  refine lv_iconst (v := (2 : Int32)) hx hb dL_law_176 (by decide) ?_
  refine lv_iadd hx hb dL_law_177 ?_
  refine va_sld hx hb hX hbl hbA hS i2 dL_law_178 ?_
  refine lv_aload_n hx hb dL_law_179 rfl (lv_at hl 3 rfl) ?_
  refine lv_iload_n hx hb dL_law_180 rfl (lv_at hl 0 rfl) ?_
  refine lv_iconst (v := (3 : Int32)) hx hb dL_law_181 (by decide) ?_
  refine lv_iadd hx hb dL_law_182 ?_
  refine va_sld hx hb hX hbl hbA hS i3 dL_law_183 ?_
  refine lv_aload_n hx hb dL_law_184 rfl (lv_at hl 3 rfl) ?_
  refine lv_iload_n hx hb dL_law_185 rfl (lv_at hl 0 rfl) ?_
  refine lv_iconst (v := (4 : Int32)) hx hb dL_law_186 (by decide) ?_
  refine lv_iadd hx hb dL_law_187 ?_
  refine va_sld hx hb hX hbl hbA hS i4 dL_law_188 ?_
  refine xl_I (wf := cW a c) (As := [.int (xs (Int32.toNatClampNeg (nI i + (1 : Int32)))), .int (xs (Int32.toNatClampNeg (nI i + (2 : Int32)))), .int (xs (Int32.toNatClampNeg (nI i + (3 : Int32)))), .int (xs (Int32.toNatClampNeg (nI i + (4 : Int32))))]) (rest := []) S k_X5_dolls q69 q70 q71 ⟨(Nat.le_of_ble_eq_true rfl), (Nat.le_of_ble_eq_true rfl)⟩ ⟨rfl, rfl⟩ (fun A hD => c_X5_dolls l D a c A hD N (xs (Int32.toNatClampNeg (nI i + (1 : Int32)))) (xs (Int32.toNatClampNeg (nI i + (2 : Int32)))) (xs (Int32.toNatClampNeg (nI i + (3 : Int32)))) (xs (Int32.toNatClampNeg (nI i + (4 : Int32)))) σ r σ1 h5) (fun _ _ => rfl) hK hP hD hS hA (va_recv hK.1 (va_P_left hP) (rfl : vwCl[3]? = some (RX5, TX5, 12)) (cw0 a c σ)) rfl hl.1 rfl (Nat.le_of_ble_eq_true rfl) dL_law_189 ⟨(Nat.le_of_ble_eq_true rfl), (Nat.le_of_ble_eq_true rfl)⟩ (fun H locs hP hD hS => ?_)
  refine lv_aload_n hx hb dL_law_192 rfl (lv_at hl 1 rfl) ?_
  refine lv_aload_n hx hb dL_law_193 rfl (lv_at hl 3 rfl) ?_
  refine lv_iload_n hx hb dL_law_194 rfl (lv_at hl 0 rfl) ?_
  refine lv_iconst (v := (1 : Int32)) hx hb dL_law_195 (by decide) ?_
  refine lv_iadd hx hb dL_law_196 ?_
  refine va_sld hx hb hX hbl hbA hS i1 dL_law_197 ?_
  refine lv_aload_n hx hb dL_law_198 rfl (lv_at hl 3 rfl) ?_
  refine lv_iload_n hx hb dL_law_199 rfl (lv_at hl 0 rfl) ?_
  refine lv_iconst (v := (2 : Int32)) hx hb dL_law_200 (by decide) ?_
  refine lv_iadd hx hb dL_law_201 ?_
  refine va_sld hx hb hX hbl hbA hS i2 dL_law_202 ?_
  refine lv_aload_n hx hb dL_law_203 rfl (lv_at hl 3 rfl) ?_
  refine lv_iload_n hx hb dL_law_204 rfl (lv_at hl 0 rfl) ?_
  refine lv_iconst (v := (3 : Int32)) hx hb dL_law_205 (by decide) ?_
  refine lv_iadd hx hb dL_law_206 ?_
  refine va_sld hx hb hX hbl hbA hS i3 dL_law_207 ?_
  refine lv_aload_n hx hb dL_law_208 rfl (lv_at hl 3 rfl) ?_
  refine lv_iload_n hx hb dL_law_209 rfl (lv_at hl 0 rfl) ?_
  refine lv_iconst (v := (4 : Int32)) hx hb dL_law_210 (by decide) ?_
  refine lv_iadd hx hb dL_law_211 ?_
  refine va_sld hx hb hX hbl hbA hS i4 dL_law_212 ?_
  refine xl_I (wf := mW b c) (As := [.int (xs (Int32.toNatClampNeg (nI i + (1 : Int32)))), .int (xs (Int32.toNatClampNeg (nI i + (2 : Int32)))), .int (xs (Int32.toNatClampNeg (nI i + (3 : Int32)))), .int (xs (Int32.toNatClampNeg (nI i + (4 : Int32))))]) (rest := [.int r]) S k_X6_dolls q132 q133 q134 ⟨(Nat.le_of_ble_eq_true rfl), (Nat.le_of_ble_eq_true rfl)⟩ ⟨rfl, rfl⟩ (fun A hD => c_X6_dolls l D b c A hD N (xs (Int32.toNatClampNeg (nI i + (1 : Int32)))) (xs (Int32.toNatClampNeg (nI i + (2 : Int32)))) (xs (Int32.toNatClampNeg (nI i + (3 : Int32)))) (xs (Int32.toNatClampNeg (nI i + (4 : Int32)))) τ r τ1 h6) (fun _ _ => rfl) hK hP hD hS hA (va_recv hK.1 (va_P_left hP) (rfl : vwCl[4]? = some (RX6, TX6, 27)) (mw0 b c τ)) rfl hl.1 rfl (Nat.le_of_ble_eq_true rfl) dL_law_213 ⟨(Nat.le_of_ble_eq_true rfl), (Nat.le_of_ble_eq_true rfl)⟩ (fun H locs hP hD hS => ?_)
  refine lv_icmp_eq (tgt := 1080) hx hb dL_law_216 (by decide) (fun _ => ?_) (fun c1 => absurd rfl c1)
  exact cont σ1 τ1 H locs ls hR1 hl hP hD hS
set_option maxRecDepth 100000 in
set_option maxHeartbeats 4000000 in
theorem lw_case1 {p : Program} {l : Launch} {e : Env} {s : State} {m : MethodId} {below : List Frame} {meth : Method} {cd : Code} {D : va_G} {a b : Nat → Nat} {c : Nat → ClassId} {bs L : Nat} {xs : Nat → Int32} (C0 : lw_At p s m meth cd bs L xs) (hK : KK D c s) {N : Nat} {R : St → St → Prop} (hsim : S_ofDoll N R) {i : Nat} (hi : i + 6 ≤ L) (hL : L ≤ 3072) (cont : ∀ (σ τ : St) (H : Heap) (locs : List Loc) (ls : Array Slot), R σ τ → lv_has ls 4 [(3, .int (nI i)), (2, .ref (b 0)), (1, .ref (a 0)), (0, .ref bs)] → va_P D vwCl (cW a c σ ++ mW b c τ) H → va_D (fun q : Nat => s.heap.size ≤ q) (cW a c σ ++ mW b c τ) → va_S (fun q : Nat => s.heap.size ≤ q) s.heap H locs → W p l e room_1 s m #[Value.ref bs] below meth cd H locs 42 49418 (lw_Z below #[Value.ref bs] s) (F0 m 1080 ls [])) : ∀ (σ τ : St) (H : Heap) (locs : List Loc) (ls : Array Slot), R σ τ → lv_has ls 4 [(3, .int (nI i)), (2, .ref (b 0)), (1, .ref (a 0)), (0, .ref bs)] → va_P D vwCl (cW a c σ ++ mW b c τ) H → va_D (fun q : Nat => s.heap.size ≤ q) (cW a c σ ++ mW b c τ) → va_S (fun q : Nat => s.heap.size ≤ q) s.heap H locs → W p l e room_1 s m #[Value.ref bs] below meth cd H locs 42 49418 (lw_Z below #[Value.ref bs] s) (F0 m 221 ls []) := by
  intro σ τ H locs ls hRl hl hP hD hS
  obtain ⟨hx, hb, hr, hml, hown, hts, hX, hbl, hlocks, hgv⟩ := id C0
  have ht : ∀ w ∈ gW, w.before #[Value.ref bs] s = true := fun w h => hts w (gW_tbl w h)
  have S : CallFix p m cd code 4 s #[Value.ref bs] gW RL := ⟨hx, hb, hml, hown, ht⟩
  have hA : ∀ q : Nat, s.heap.size ≤ q → (fun q : Nat => s.heap.size ≤ q) q := fun _ h => h
  have hbA : ¬ (fun q : Nat => s.heap.size ≤ q) bs := Nat.not_le.mpr hbl
  have i1 : vp_in (nI i + (1 : Int32)) L := by rw [show nI i + (1 : Int32) = nI (i + 1) from nI_add i 1]; exact vp_in_nI (by omega) (by omega)
  have i2 : vp_in (nI i + (2 : Int32)) L := by rw [show nI i + (2 : Int32) = nI (i + 2) from nI_add i 2]; exact vp_in_nI (by omega) (by omega)
  obtain ⟨r, h5, h6⟩ := hsim (xs (Int32.toNatClampNeg (nI i + (1 : Int32)))) (xs (Int32.toNatClampNeg (nI i + (2 : Int32)))) σ τ hRl
  refine lv_aload_n hx hb dL_law_221 rfl (lv_at hl 2 rfl) ?_
  refine lv_aload_n hx hb dL_law_222 rfl (lv_at hl 3 rfl) ?_
  refine lv_iload_n hx hb dL_law_223 rfl (lv_at hl 0 rfl) ?_
  refine lv_iconst (v := (1 : Int32)) hx hb dL_law_224 (by decide) ?_
  refine lv_iadd hx hb dL_law_225 ?_
  refine va_sld hx hb hX hbl hbA hS i1 dL_law_226 ?_
  refine lv_aload_n hx hb dL_law_227 rfl (lv_at hl 3 rfl) ?_
  refine lv_iload_n hx hb dL_law_228 rfl (lv_at hl 0 rfl) ?_
  refine lv_iconst (v := (2 : Int32)) hx hb dL_law_229 (by decide) ?_
  refine lv_iadd hx hb dL_law_230 ?_
  refine va_sld hx hb hX hbl hbA hS i2 dL_law_231 ?_
  refine xl_I (wf := cW a c) (As := [.int (xs (Int32.toNatClampNeg (nI i + (1 : Int32)))), .int (xs (Int32.toNatClampNeg (nI i + (2 : Int32))))]) (rest := []) S k_X5_ofDoll q176 q177 q178 ⟨(Nat.le_of_ble_eq_true rfl), (Nat.le_of_ble_eq_true rfl)⟩ ⟨rfl, rfl⟩ (fun A hD => c_X5_ofDoll l D a c A hD N (xs (Int32.toNatClampNeg (nI i + (1 : Int32)))) (xs (Int32.toNatClampNeg (nI i + (2 : Int32)))) σ r h5) (fun _ _ => rfl) hK hP hD hS hA (va_recv hK.1 (va_P_left hP) (rfl : vwCl[3]? = some (RX5, TX5, 12)) (cw0 a c σ)) rfl hl.1 rfl (Nat.le_of_ble_eq_true rfl) dL_law_232 ⟨(Nat.le_of_ble_eq_true rfl), (Nat.le_of_ble_eq_true rfl)⟩ (fun H locs hP hD hS => ?_)
  refine lv_aload_n hx hb dL_law_235 rfl (lv_at hl 1 rfl) ?_
  refine lv_aload_n hx hb dL_law_236 rfl (lv_at hl 3 rfl) ?_
  refine lv_iload_n hx hb dL_law_237 rfl (lv_at hl 0 rfl) ?_
  refine lv_iconst (v := (1 : Int32)) hx hb dL_law_238 (by decide) ?_
  refine lv_iadd hx hb dL_law_239 ?_
  refine va_sld hx hb hX hbl hbA hS i1 dL_law_240 ?_
  refine lv_aload_n hx hb dL_law_241 rfl (lv_at hl 3 rfl) ?_
  refine lv_iload_n hx hb dL_law_242 rfl (lv_at hl 0 rfl) ?_
  refine lv_iconst (v := (2 : Int32)) hx hb dL_law_243 (by decide) ?_
  refine lv_iadd hx hb dL_law_244 ?_
  refine va_sld hx hb hX hbl hbA hS i2 dL_law_245 ?_
  refine xl_I (wf := mW b c) (As := [.int (xs (Int32.toNatClampNeg (nI i + (1 : Int32)))), .int (xs (Int32.toNatClampNeg (nI i + (2 : Int32))))]) (rest := [.int r]) S k_X6_ofDoll q222 q223 q224 ⟨(Nat.le_of_ble_eq_true rfl), (Nat.le_of_ble_eq_true rfl)⟩ ⟨rfl, rfl⟩ (fun A hD => c_X6_ofDoll l D b c A hD N (xs (Int32.toNatClampNeg (nI i + (1 : Int32)))) (xs (Int32.toNatClampNeg (nI i + (2 : Int32)))) τ r h6) (fun _ _ => rfl) hK hP hD hS hA (va_recv hK.1 (va_P_left hP) (rfl : vwCl[4]? = some (RX6, TX6, 27)) (mw0 b c τ)) rfl hl.1 rfl (Nat.le_of_ble_eq_true rfl) dL_law_246 ⟨(Nat.le_of_ble_eq_true rfl), (Nat.le_of_ble_eq_true rfl)⟩ (fun H locs hP hD hS => ?_)
  refine lv_icmp_eq (tgt := 1080) hx hb dL_law_249 (by decide) (fun _ => ?_) (fun c1 => absurd rfl c1)
  exact cont σ τ H locs ls hRl hl hP hD hS
set_option maxRecDepth 100000 in
set_option maxHeartbeats 4000000 in
theorem lw_case2 {p : Program} {l : Launch} {e : Env} {s : State} {m : MethodId} {below : List Frame} {meth : Method} {cd : Code} {D : va_G} {a b : Nat → Nat} {c : Nat → ClassId} {bs L : Nat} {xs : Nat → Int32} (C0 : lw_At p s m meth cd bs L xs) (hK : KK D c s) {N : Nat} {R : St → St → Prop} (hsim : S_girth N R) {i : Nat} (hi : i + 6 ≤ L) (hL : L ≤ 3072) (cont : ∀ (σ τ : St) (H : Heap) (locs : List Loc) (ls : Array Slot), R σ τ → lv_has ls 4 [(3, .int (nI i)), (2, .ref (b 0)), (1, .ref (a 0)), (0, .ref bs)] → va_P D vwCl (cW a c σ ++ mW b c τ) H → va_D (fun q : Nat => s.heap.size ≤ q) (cW a c σ ++ mW b c τ) → va_S (fun q : Nat => s.heap.size ≤ q) s.heap H locs → W p l e room_1 s m #[Value.ref bs] below meth cd H locs 42 49418 (lw_Z below #[Value.ref bs] s) (F0 m 1080 ls [])) : ∀ (σ τ : St) (H : Heap) (locs : List Loc) (ls : Array Slot), R σ τ → lv_has ls 4 [(3, .int (nI i)), (2, .ref (b 0)), (1, .ref (a 0)), (0, .ref bs)] → va_P D vwCl (cW a c σ ++ mW b c τ) H → va_D (fun q : Nat => s.heap.size ≤ q) (cW a c σ ++ mW b c τ) → va_S (fun q : Nat => s.heap.size ≤ q) s.heap H locs → W p l e room_1 s m #[Value.ref bs] below meth cd H locs 42 49418 (lw_Z below #[Value.ref bs] s) (F0 m 254 ls []) := by
  intro σ τ H locs ls hRl hl hP hD hS
  obtain ⟨hx, hb, hr, hml, hown, hts, hX, hbl, hlocks, hgv⟩ := id C0
  have ht : ∀ w ∈ gW, w.before #[Value.ref bs] s = true := fun w h => hts w (gW_tbl w h)
  have S : CallFix p m cd code 4 s #[Value.ref bs] gW RL := ⟨hx, hb, hml, hown, ht⟩
  have hA : ∀ q : Nat, s.heap.size ≤ q → (fun q : Nat => s.heap.size ≤ q) q := fun _ h => h
  have hbA : ¬ (fun q : Nat => s.heap.size ≤ q) bs := Nat.not_le.mpr hbl
  have i1 : vp_in (nI i + (1 : Int32)) L := by rw [show nI i + (1 : Int32) = nI (i + 1) from nI_add i 1]; exact vp_in_nI (by omega) (by omega)
  have i2 : vp_in (nI i + (2 : Int32)) L := by rw [show nI i + (2 : Int32) = nI (i + 2) from nI_add i 2]; exact vp_in_nI (by omega) (by omega)
  obtain ⟨r, σ1, τ1, h5, h6, hR1⟩ := hsim (xs (Int32.toNatClampNeg (nI i + (1 : Int32)))) (xs (Int32.toNatClampNeg (nI i + (2 : Int32)))) σ τ hRl
  refine lv_aload_n hx hb dL_law_254 rfl (lv_at hl 2 rfl) ?_
  refine lv_aload_n hx hb dL_law_255 rfl (lv_at hl 3 rfl) ?_
  refine lv_iload_n hx hb dL_law_256 rfl (lv_at hl 0 rfl) ?_
  refine lv_iconst (v := (1 : Int32)) hx hb dL_law_257 (by decide) ?_
  refine lv_iadd hx hb dL_law_258 ?_
  refine va_sld hx hb hX hbl hbA hS i1 dL_law_259 ?_
  refine lv_aload_n hx hb dL_law_260 rfl (lv_at hl 3 rfl) ?_
  refine lv_iload_n hx hb dL_law_261 rfl (lv_at hl 0 rfl) ?_
  refine lv_iconst (v := (2 : Int32)) hx hb dL_law_262 (by decide) ?_
  refine lv_iadd hx hb dL_law_263 ?_
  refine va_sld hx hb hX hbl hbA hS i2 dL_law_264 ?_
  refine xl_I (wf := cW a c) (As := [.int (xs (Int32.toNatClampNeg (nI i + (1 : Int32)))), .int (xs (Int32.toNatClampNeg (nI i + (2 : Int32))))]) (rest := []) S k_X5_girth q249 q250 q251 ⟨(Nat.le_of_ble_eq_true rfl), (Nat.le_of_ble_eq_true rfl)⟩ ⟨rfl, rfl⟩ (fun A hD => c_X5_girth l D a c A hD (xs (Int32.toNatClampNeg (nI i + (1 : Int32)))) (xs (Int32.toNatClampNeg (nI i + (2 : Int32)))) σ r σ1 h5) (fun _ _ => rfl) hK hP hD hS hA (va_recv hK.1 (va_P_left hP) (rfl : vwCl[3]? = some (RX5, TX5, 12)) (cw0 a c σ)) rfl hl.1 rfl (Nat.le_of_ble_eq_true rfl) dL_law_265 ⟨(Nat.le_of_ble_eq_true rfl), (Nat.le_of_ble_eq_true rfl)⟩ (fun H locs hP hD hS => ?_)
  refine lv_aload_n hx hb dL_law_268 rfl (lv_at hl 1 rfl) ?_
  refine lv_aload_n hx hb dL_law_269 rfl (lv_at hl 3 rfl) ?_
  refine lv_iload_n hx hb dL_law_270 rfl (lv_at hl 0 rfl) ?_
  refine lv_iconst (v := (1 : Int32)) hx hb dL_law_271 (by decide) ?_
  refine lv_iadd hx hb dL_law_272 ?_
  refine va_sld hx hb hX hbl hbA hS i1 dL_law_273 ?_
  refine lv_aload_n hx hb dL_law_274 rfl (lv_at hl 3 rfl) ?_
  refine lv_iload_n hx hb dL_law_275 rfl (lv_at hl 0 rfl) ?_
  refine lv_iconst (v := (2 : Int32)) hx hb dL_law_276 (by decide) ?_
  refine lv_iadd hx hb dL_law_277 ?_
  refine va_sld hx hb hX hbl hbA hS i2 dL_law_278 ?_
  refine xl_I (wf := mW b c) (As := [.int (xs (Int32.toNatClampNeg (nI i + (1 : Int32)))), .int (xs (Int32.toNatClampNeg (nI i + (2 : Int32))))]) (rest := [.int r]) S k_X6_girth q253 q254 q255 ⟨(Nat.le_of_ble_eq_true rfl), (Nat.le_of_ble_eq_true rfl)⟩ ⟨rfl, rfl⟩ (fun A hD => c_X6_girth l D b c A hD (xs (Int32.toNatClampNeg (nI i + (1 : Int32)))) (xs (Int32.toNatClampNeg (nI i + (2 : Int32)))) τ r τ1 h6) (fun _ _ => rfl) hK hP hD hS hA (va_recv hK.1 (va_P_left hP) (rfl : vwCl[4]? = some (RX6, TX6, 27)) (mw0 b c τ)) rfl hl.1 rfl (Nat.le_of_ble_eq_true rfl) dL_law_279 ⟨(Nat.le_of_ble_eq_true rfl), (Nat.le_of_ble_eq_true rfl)⟩ (fun H locs hP hD hS => ?_)
  refine lv_icmp_eq (tgt := 1080) hx hb dL_law_282 (by decide) (fun _ => ?_) (fun c1 => absurd rfl c1)
  exact cont σ1 τ1 H locs ls hR1 hl hP hD hS
set_option maxRecDepth 100000 in
set_option maxHeartbeats 4000000 in
theorem lw_case3 {p : Program} {l : Launch} {e : Env} {s : State} {m : MethodId} {below : List Frame} {meth : Method} {cd : Code} {D : va_G} {a b : Nat → Nat} {c : Nat → ClassId} {bs L : Nat} {xs : Nat → Int32} (C0 : lw_At p s m meth cd bs L xs) (hK : KK D c s) {N : Nat} {R : St → St → Prop} (hsim : S_room N R) {i : Nat} (hi : i + 6 ≤ L) (hL : L ≤ 3072) (cont : ∀ (σ τ : St) (H : Heap) (locs : List Loc) (ls : Array Slot), R σ τ → lv_has ls 4 [(3, .int (nI i)), (2, .ref (b 0)), (1, .ref (a 0)), (0, .ref bs)] → va_P D vwCl (cW a c σ ++ mW b c τ) H → va_D (fun q : Nat => s.heap.size ≤ q) (cW a c σ ++ mW b c τ) → va_S (fun q : Nat => s.heap.size ≤ q) s.heap H locs → W p l e room_1 s m #[Value.ref bs] below meth cd H locs 42 49418 (lw_Z below #[Value.ref bs] s) (F0 m 1080 ls [])) : ∀ (σ τ : St) (H : Heap) (locs : List Loc) (ls : Array Slot), R σ τ → lv_has ls 4 [(3, .int (nI i)), (2, .ref (b 0)), (1, .ref (a 0)), (0, .ref bs)] → va_P D vwCl (cW a c σ ++ mW b c τ) H → va_D (fun q : Nat => s.heap.size ≤ q) (cW a c σ ++ mW b c τ) → va_S (fun q : Nat => s.heap.size ≤ q) s.heap H locs → W p l e room_1 s m #[Value.ref bs] below meth cd H locs 42 49418 (lw_Z below #[Value.ref bs] s) (F0 m 287 ls []) := by
  intro σ τ H locs ls hRl hl hP hD hS
  obtain ⟨hx, hb, hr, hml, hown, hts, hX, hbl, hlocks, hgv⟩ := id C0
  have ht : ∀ w ∈ gW, w.before #[Value.ref bs] s = true := fun w h => hts w (gW_tbl w h)
  have S : CallFix p m cd code 4 s #[Value.ref bs] gW RL := ⟨hx, hb, hml, hown, ht⟩
  have hA : ∀ q : Nat, s.heap.size ≤ q → (fun q : Nat => s.heap.size ≤ q) q := fun _ h => h
  have hbA : ¬ (fun q : Nat => s.heap.size ≤ q) bs := Nat.not_le.mpr hbl
  have i1 : vp_in (nI i + (1 : Int32)) L := by rw [show nI i + (1 : Int32) = nI (i + 1) from nI_add i 1]; exact vp_in_nI (by omega) (by omega)
  have i2 : vp_in (nI i + (2 : Int32)) L := by rw [show nI i + (2 : Int32) = nI (i + 2) from nI_add i 2]; exact vp_in_nI (by omega) (by omega)
  obtain ⟨r, σ1, τ1, h5, h6, hR1⟩ := hsim (xs (Int32.toNatClampNeg (nI i + (1 : Int32)))) (xs (Int32.toNatClampNeg (nI i + (2 : Int32)))) σ τ hRl
  refine lv_aload_n hx hb dL_law_287 rfl (lv_at hl 2 rfl) ?_
  refine lv_aload_n hx hb dL_law_288 rfl (lv_at hl 3 rfl) ?_
  refine lv_iload_n hx hb dL_law_289 rfl (lv_at hl 0 rfl) ?_
  refine lv_iconst (v := (1 : Int32)) hx hb dL_law_290 (by decide) ?_
  refine lv_iadd hx hb dL_law_291 ?_
  refine va_sld hx hb hX hbl hbA hS i1 dL_law_292 ?_
  refine lv_aload_n hx hb dL_law_293 rfl (lv_at hl 3 rfl) ?_
  refine lv_iload_n hx hb dL_law_294 rfl (lv_at hl 0 rfl) ?_
  refine lv_iconst (v := (2 : Int32)) hx hb dL_law_295 (by decide) ?_
  refine lv_iadd hx hb dL_law_296 ?_
  refine va_sld hx hb hX hbl hbA hS i2 dL_law_297 ?_
  refine xl_I (wf := cW a c) (As := [.int (xs (Int32.toNatClampNeg (nI i + (1 : Int32)))), .int (xs (Int32.toNatClampNeg (nI i + (2 : Int32))))]) (rest := []) S k_X5_room q257 q258 q259 ⟨(Nat.le_of_ble_eq_true rfl), (Nat.le_of_ble_eq_true rfl)⟩ ⟨rfl, rfl⟩ (fun A hD => c_X5_room l D a c A hD (xs (Int32.toNatClampNeg (nI i + (1 : Int32)))) (xs (Int32.toNatClampNeg (nI i + (2 : Int32)))) σ r σ1 h5) (fun _ _ => rfl) hK hP hD hS hA (va_recv hK.1 (va_P_left hP) (rfl : vwCl[3]? = some (RX5, TX5, 12)) (cw0 a c σ)) rfl hl.1 rfl (Nat.le_of_ble_eq_true rfl) dL_law_298 ⟨(Nat.le_of_ble_eq_true rfl), (Nat.le_of_ble_eq_true rfl)⟩ (fun H locs hP hD hS => ?_)
  refine lv_aload_n hx hb dL_law_301 rfl (lv_at hl 1 rfl) ?_
  refine lv_aload_n hx hb dL_law_302 rfl (lv_at hl 3 rfl) ?_
  refine lv_iload_n hx hb dL_law_303 rfl (lv_at hl 0 rfl) ?_
  refine lv_iconst (v := (1 : Int32)) hx hb dL_law_304 (by decide) ?_
  refine lv_iadd hx hb dL_law_305 ?_
  refine va_sld hx hb hX hbl hbA hS i1 dL_law_306 ?_
  refine lv_aload_n hx hb dL_law_307 rfl (lv_at hl 3 rfl) ?_
  refine lv_iload_n hx hb dL_law_308 rfl (lv_at hl 0 rfl) ?_
  refine lv_iconst (v := (2 : Int32)) hx hb dL_law_309 (by decide) ?_
  refine lv_iadd hx hb dL_law_310 ?_
  refine va_sld hx hb hX hbl hbA hS i2 dL_law_311 ?_
  refine xl_I (wf := mW b c) (As := [.int (xs (Int32.toNatClampNeg (nI i + (1 : Int32)))), .int (xs (Int32.toNatClampNeg (nI i + (2 : Int32))))]) (rest := [.int r]) S k_X6_room q261 q262 q263 ⟨(Nat.le_of_ble_eq_true rfl), (Nat.le_of_ble_eq_true rfl)⟩ ⟨rfl, rfl⟩ (fun A hD => c_X6_room l D b c A hD (xs (Int32.toNatClampNeg (nI i + (1 : Int32)))) (xs (Int32.toNatClampNeg (nI i + (2 : Int32)))) τ r τ1 h6) (fun _ _ => rfl) hK hP hD hS hA (va_recv hK.1 (va_P_left hP) (rfl : vwCl[4]? = some (RX6, TX6, 27)) (mw0 b c τ)) rfl hl.1 rfl (Nat.le_of_ble_eq_true rfl) dL_law_312 ⟨(Nat.le_of_ble_eq_true rfl), (Nat.le_of_ble_eq_true rfl)⟩ (fun H locs hP hD hS => ?_)
  refine lv_icmp_eq (tgt := 1080) hx hb dL_law_315 (by decide) (fun _ => ?_) (fun c1 => absurd rfl c1)
  exact cont σ1 τ1 H locs ls hR1 hl hP hD hS
set_option maxRecDepth 100000 in
set_option maxHeartbeats 4000000 in
theorem lw_case4 {p : Program} {l : Launch} {e : Env} {s : State} {m : MethodId} {below : List Frame} {meth : Method} {cd : Code} {D : va_G} {a b : Nat → Nat} {c : Nat → ClassId} {bs L : Nat} {xs : Nat → Int32} (C0 : lw_At p s m meth cd bs L xs) (hK : KK D c s) {N : Nat} {R : St → St → Prop} (hsim : S_fits N R) {i : Nat} (hi : i + 6 ≤ L) (hL : L ≤ 3072) (cont : ∀ (σ τ : St) (H : Heap) (locs : List Loc) (ls : Array Slot), R σ τ → lv_has ls 4 [(3, .int (nI i)), (2, .ref (b 0)), (1, .ref (a 0)), (0, .ref bs)] → va_P D vwCl (cW a c σ ++ mW b c τ) H → va_D (fun q : Nat => s.heap.size ≤ q) (cW a c σ ++ mW b c τ) → va_S (fun q : Nat => s.heap.size ≤ q) s.heap H locs → W p l e room_1 s m #[Value.ref bs] below meth cd H locs 42 49418 (lw_Z below #[Value.ref bs] s) (F0 m 1080 ls [])) : ∀ (σ τ : St) (H : Heap) (locs : List Loc) (ls : Array Slot), R σ τ → lv_has ls 4 [(3, .int (nI i)), (2, .ref (b 0)), (1, .ref (a 0)), (0, .ref bs)] → va_P D vwCl (cW a c σ ++ mW b c τ) H → va_D (fun q : Nat => s.heap.size ≤ q) (cW a c σ ++ mW b c τ) → va_S (fun q : Nat => s.heap.size ≤ q) s.heap H locs → W p l e room_1 s m #[Value.ref bs] below meth cd H locs 42 49418 (lw_Z below #[Value.ref bs] s) (F0 m 320 ls []) := by
  intro σ τ H locs ls hRl hl hP hD hS
  obtain ⟨hx, hb, hr, hml, hown, hts, hX, hbl, hlocks, hgv⟩ := id C0
  have ht : ∀ w ∈ gW, w.before #[Value.ref bs] s = true := fun w h => hts w (gW_tbl w h)
  have S : CallFix p m cd code 4 s #[Value.ref bs] gW RL := ⟨hx, hb, hml, hown, ht⟩
  have hA : ∀ q : Nat, s.heap.size ≤ q → (fun q : Nat => s.heap.size ≤ q) q := fun _ h => h
  have hbA : ¬ (fun q : Nat => s.heap.size ≤ q) bs := Nat.not_le.mpr hbl
  have i1 : vp_in (nI i + (1 : Int32)) L := by rw [show nI i + (1 : Int32) = nI (i + 1) from nI_add i 1]; exact vp_in_nI (by omega) (by omega)
  have i2 : vp_in (nI i + (2 : Int32)) L := by rw [show nI i + (2 : Int32) = nI (i + 2) from nI_add i 2]; exact vp_in_nI (by omega) (by omega)
  obtain ⟨r, h5, h6⟩ := hsim (xs (Int32.toNatClampNeg (nI i + (1 : Int32)))) (xs (Int32.toNatClampNeg (nI i + (2 : Int32)))) σ τ hRl
  refine lv_aload_n hx hb dL_law_320 rfl (lv_at hl 2 rfl) ?_
  refine lv_aload_n hx hb dL_law_321 rfl (lv_at hl 3 rfl) ?_
  refine lv_iload_n hx hb dL_law_322 rfl (lv_at hl 0 rfl) ?_
  refine lv_iconst (v := (1 : Int32)) hx hb dL_law_323 (by decide) ?_
  refine lv_iadd hx hb dL_law_324 ?_
  refine va_sld hx hb hX hbl hbA hS i1 dL_law_325 ?_
  refine lv_aload_n hx hb dL_law_326 rfl (lv_at hl 3 rfl) ?_
  refine lv_iload_n hx hb dL_law_327 rfl (lv_at hl 0 rfl) ?_
  refine lv_iconst (v := (2 : Int32)) hx hb dL_law_328 (by decide) ?_
  refine lv_iadd hx hb dL_law_329 ?_
  refine va_sld hx hb hX hbl hbA hS i2 dL_law_330 ?_
  refine xl_I (wf := cW a c) (As := [.int (xs (Int32.toNatClampNeg (nI i + (1 : Int32)))), .int (xs (Int32.toNatClampNeg (nI i + (2 : Int32))))]) (rest := []) S k_X5_fits q265 q266 q267 ⟨(Nat.le_of_ble_eq_true rfl), (Nat.le_of_ble_eq_true rfl)⟩ ⟨rfl, rfl⟩ (fun A hD => c_X5_fits l D a c A hD (xs (Int32.toNatClampNeg (nI i + (1 : Int32)))) (xs (Int32.toNatClampNeg (nI i + (2 : Int32)))) σ r h5) (fun _ _ => rfl) hK hP hD hS hA (va_recv hK.1 (va_P_left hP) (rfl : vwCl[3]? = some (RX5, TX5, 12)) (cw0 a c σ)) rfl hl.1 rfl (Nat.le_of_ble_eq_true rfl) dL_law_331 ⟨(Nat.le_of_ble_eq_true rfl), (Nat.le_of_ble_eq_true rfl)⟩ (fun H locs hP hD hS => ?_)
  refine lv_aload_n hx hb dL_law_334 rfl (lv_at hl 1 rfl) ?_
  refine lv_aload_n hx hb dL_law_335 rfl (lv_at hl 3 rfl) ?_
  refine lv_iload_n hx hb dL_law_336 rfl (lv_at hl 0 rfl) ?_
  refine lv_iconst (v := (1 : Int32)) hx hb dL_law_337 (by decide) ?_
  refine lv_iadd hx hb dL_law_338 ?_
  refine va_sld hx hb hX hbl hbA hS i1 dL_law_339 ?_
  refine lv_aload_n hx hb dL_law_340 rfl (lv_at hl 3 rfl) ?_
  refine lv_iload_n hx hb dL_law_341 rfl (lv_at hl 0 rfl) ?_
  refine lv_iconst (v := (2 : Int32)) hx hb dL_law_342 (by decide) ?_
  refine lv_iadd hx hb dL_law_343 ?_
  refine va_sld hx hb hX hbl hbA hS i2 dL_law_344 ?_
  refine xl_I (wf := mW b c) (As := [.int (xs (Int32.toNatClampNeg (nI i + (1 : Int32)))), .int (xs (Int32.toNatClampNeg (nI i + (2 : Int32))))]) (rest := [.int r]) S k_X6_fits q279 q280 q281 ⟨(Nat.le_of_ble_eq_true rfl), (Nat.le_of_ble_eq_true rfl)⟩ ⟨rfl, rfl⟩ (fun A hD => c_X6_fits l D b c A hD (xs (Int32.toNatClampNeg (nI i + (1 : Int32)))) (xs (Int32.toNatClampNeg (nI i + (2 : Int32)))) τ r h6) (fun _ _ => rfl) hK hP hD hS hA (va_recv hK.1 (va_P_left hP) (rfl : vwCl[4]? = some (RX6, TX6, 27)) (mw0 b c τ)) rfl hl.1 rfl (Nat.le_of_ble_eq_true rfl) dL_law_345 ⟨(Nat.le_of_ble_eq_true rfl), (Nat.le_of_ble_eq_true rfl)⟩ (fun H locs hP hD hS => ?_)
  refine lv_icmp_eq (tgt := 1080) hx hb dL_law_348 (by decide) (fun _ => ?_) (fun c1 => absurd rfl c1)
  exact cont σ τ H locs ls hRl hl hP hD hS
set_option maxRecDepth 100000 in
set_option maxHeartbeats 4000000 in
theorem lw_case5 {p : Program} {l : Launch} {e : Env} {s : State} {m : MethodId} {below : List Frame} {meth : Method} {cd : Code} {D : va_G} {a b : Nat → Nat} {c : Nat → ClassId} {bs L : Nat} {xs : Nat → Int32} (C0 : lw_At p s m meth cd bs L xs) (hK : KK D c s) {N : Nat} {R : St → St → Prop} (hsim : S_act N R) {i : Nat} (hi : i + 6 ≤ L) (hL : L ≤ 3072) (cont : ∀ (σ τ : St) (H : Heap) (locs : List Loc) (ls : Array Slot), R σ τ → lv_has ls 4 [(3, .int (nI i)), (2, .ref (b 0)), (1, .ref (a 0)), (0, .ref bs)] → va_P D vwCl (cW a c σ ++ mW b c τ) H → va_D (fun q : Nat => s.heap.size ≤ q) (cW a c σ ++ mW b c τ) → va_S (fun q : Nat => s.heap.size ≤ q) s.heap H locs → W p l e room_1 s m #[Value.ref bs] below meth cd H locs 42 49418 (lw_Z below #[Value.ref bs] s) (F0 m 1080 ls [])) : ∀ (σ τ : St) (H : Heap) (locs : List Loc) (ls : Array Slot), R σ τ → lv_has ls 4 [(3, .int (nI i)), (2, .ref (b 0)), (1, .ref (a 0)), (0, .ref bs)] → va_P D vwCl (cW a c σ ++ mW b c τ) H → va_D (fun q : Nat => s.heap.size ≤ q) (cW a c σ ++ mW b c τ) → va_S (fun q : Nat => s.heap.size ≤ q) s.heap H locs → W p l e room_1 s m #[Value.ref bs] below meth cd H locs 42 49418 (lw_Z below #[Value.ref bs] s) (F0 m 353 ls []) := by
  intro σ τ H locs ls hRl hl hP hD hS
  obtain ⟨hx, hb, hr, hml, hown, hts, hX, hbl, hlocks, hgv⟩ := id C0
  have ht : ∀ w ∈ gW, w.before #[Value.ref bs] s = true := fun w h => hts w (gW_tbl w h)
  have S : CallFix p m cd code 4 s #[Value.ref bs] gW RL := ⟨hx, hb, hml, hown, ht⟩
  have hA : ∀ q : Nat, s.heap.size ≤ q → (fun q : Nat => s.heap.size ≤ q) q := fun _ h => h
  have hbA : ¬ (fun q : Nat => s.heap.size ≤ q) bs := Nat.not_le.mpr hbl
  have i1 : vp_in (nI i + (1 : Int32)) L := by rw [show nI i + (1 : Int32) = nI (i + 1) from nI_add i 1]; exact vp_in_nI (by omega) (by omega)
  obtain ⟨r, σ1, τ1, h5, h6, hR1⟩ := hsim (xs (Int32.toNatClampNeg (nI i + (1 : Int32)))) σ τ hRl
  refine lv_aload_n hx hb dL_law_353 rfl (lv_at hl 2 rfl) ?_
  refine lv_aload_n hx hb dL_law_354 rfl (lv_at hl 3 rfl) ?_
  refine lv_iload_n hx hb dL_law_355 rfl (lv_at hl 0 rfl) ?_
  refine lv_iconst (v := (1 : Int32)) hx hb dL_law_356 (by decide) ?_
  refine lv_iadd hx hb dL_law_357 ?_
  refine va_sld hx hb hX hbl hbA hS i1 dL_law_358 ?_
  refine xl_I (wf := cW a c) (As := [.int (xs (Int32.toNatClampNeg (nI i + (1 : Int32))))]) (rest := []) S k_X5_act q291 q292 q293 ⟨(Nat.le_of_ble_eq_true rfl), (Nat.le_of_ble_eq_true rfl)⟩ ⟨rfl, rfl⟩ (fun A hD => c_X5_act l D a c A hD N (xs (Int32.toNatClampNeg (nI i + (1 : Int32)))) σ r σ1 h5) (fun _ _ => rfl) hK hP hD hS hA (va_recv hK.1 (va_P_left hP) (rfl : vwCl[3]? = some (RX5, TX5, 12)) (cw0 a c σ)) rfl hl.1 rfl (Nat.le_of_ble_eq_true rfl) dL_law_359 ⟨(Nat.le_of_ble_eq_true rfl), (Nat.le_of_ble_eq_true rfl)⟩ (fun H locs hP hD hS => ?_)
  refine lv_aload_n hx hb dL_law_362 rfl (lv_at hl 1 rfl) ?_
  refine lv_aload_n hx hb dL_law_363 rfl (lv_at hl 3 rfl) ?_
  refine lv_iload_n hx hb dL_law_364 rfl (lv_at hl 0 rfl) ?_
  refine lv_iconst (v := (1 : Int32)) hx hb dL_law_365 (by decide) ?_
  refine lv_iadd hx hb dL_law_366 ?_
  refine va_sld hx hb hX hbl hbA hS i1 dL_law_367 ?_
  refine xl_I (wf := mW b c) (As := [.int (xs (Int32.toNatClampNeg (nI i + (1 : Int32))))]) (rest := [.int r]) S k_X6_act q334 q335 q336 ⟨(Nat.le_of_ble_eq_true rfl), (Nat.le_of_ble_eq_true rfl)⟩ ⟨rfl, rfl⟩ (fun A hD => c_X6_act l D b c A hD N (xs (Int32.toNatClampNeg (nI i + (1 : Int32)))) τ r τ1 h6) (fun _ _ => rfl) hK hP hD hS hA (va_recv hK.1 (va_P_left hP) (rfl : vwCl[4]? = some (RX6, TX6, 27)) (mw0 b c τ)) rfl hl.1 rfl (Nat.le_of_ble_eq_true rfl) dL_law_368 ⟨(Nat.le_of_ble_eq_true rfl), (Nat.le_of_ble_eq_true rfl)⟩ (fun H locs hP hD hS => ?_)
  refine lv_icmp_eq (tgt := 1080) hx hb dL_law_371 (by decide) (fun _ => ?_) (fun c1 => absurd rfl c1)
  exact cont σ1 τ1 H locs ls hR1 hl hP hD hS
set_option maxRecDepth 100000 in
set_option maxHeartbeats 4000000 in
theorem lw_case6 {p : Program} {l : Launch} {e : Env} {s : State} {m : MethodId} {below : List Frame} {meth : Method} {cd : Code} {D : va_G} {a b : Nat → Nat} {c : Nat → ClassId} {bs L : Nat} {xs : Nat → Int32} (C0 : lw_At p s m meth cd bs L xs) (hK : KK D c s) {N : Nat} {R : St → St → Prop} (hsim : S_anew N R) {i : Nat} (hi : i + 6 ≤ L) (hL : L ≤ 3072) (cont : ∀ (σ τ : St) (H : Heap) (locs : List Loc) (ls : Array Slot), R σ τ → lv_has ls 4 [(3, .int (nI i)), (2, .ref (b 0)), (1, .ref (a 0)), (0, .ref bs)] → va_P D vwCl (cW a c σ ++ mW b c τ) H → va_D (fun q : Nat => s.heap.size ≤ q) (cW a c σ ++ mW b c τ) → va_S (fun q : Nat => s.heap.size ≤ q) s.heap H locs → W p l e room_1 s m #[Value.ref bs] below meth cd H locs 42 49418 (lw_Z below #[Value.ref bs] s) (F0 m 1080 ls [])) : ∀ (σ τ : St) (H : Heap) (locs : List Loc) (ls : Array Slot), R σ τ → lv_has ls 4 [(3, .int (nI i)), (2, .ref (b 0)), (1, .ref (a 0)), (0, .ref bs)] → va_P D vwCl (cW a c σ ++ mW b c τ) H → va_D (fun q : Nat => s.heap.size ≤ q) (cW a c σ ++ mW b c τ) → va_S (fun q : Nat => s.heap.size ≤ q) s.heap H locs → W p l e room_1 s m #[Value.ref bs] below meth cd H locs 42 49418 (lw_Z below #[Value.ref bs] s) (F0 m 376 ls []) := by
  intro σ τ H locs ls hRl hl hP hD hS
  obtain ⟨hx, hb, hr, hml, hown, hts, hX, hbl, hlocks, hgv⟩ := id C0
  have ht : ∀ w ∈ gW, w.before #[Value.ref bs] s = true := fun w h => hts w (gW_tbl w h)
  have S : CallFix p m cd code 4 s #[Value.ref bs] gW RL := ⟨hx, hb, hml, hown, ht⟩
  have hA : ∀ q : Nat, s.heap.size ≤ q → (fun q : Nat => s.heap.size ≤ q) q := fun _ h => h
  have hbA : ¬ (fun q : Nat => s.heap.size ≤ q) bs := Nat.not_le.mpr hbl
  obtain ⟨r, σ1, τ1, h5, h6, hR1⟩ := hsim σ τ hRl
  refine lv_aload_n hx hb dL_law_376 rfl (lv_at hl 2 rfl) ?_
  refine xl_I (wf := cW a c) (As := []) (rest := []) S k_X5_anew q350 q351 q352 ⟨(Nat.le_of_ble_eq_true rfl), (Nat.le_of_ble_eq_true rfl)⟩ ⟨rfl, rfl⟩ (fun A hD => c_X5_anew l D a c A hD N  σ r σ1 h5) (fun _ _ => rfl) hK hP hD hS hA (va_recv hK.1 (va_P_left hP) (rfl : vwCl[3]? = some (RX5, TX5, 12)) (cw0 a c σ)) rfl hl.1 rfl (Nat.le_of_ble_eq_true rfl) dL_law_377 ⟨(Nat.le_of_ble_eq_true rfl), (Nat.le_of_ble_eq_true rfl)⟩ (fun H locs hP hD hS => ?_)
  refine lv_aload_n hx hb dL_law_380 rfl (lv_at hl 1 rfl) ?_
  refine xl_I (wf := mW b c) (As := []) (rest := [.int r]) S k_X6_anew q354 q355 q356 ⟨(Nat.le_of_ble_eq_true rfl), (Nat.le_of_ble_eq_true rfl)⟩ ⟨rfl, rfl⟩ (fun A hD => c_X6_anew l D b c A hD N  τ r τ1 h6) (fun _ _ => rfl) hK hP hD hS hA (va_recv hK.1 (va_P_left hP) (rfl : vwCl[4]? = some (RX6, TX6, 27)) (mw0 b c τ)) rfl hl.1 rfl (Nat.le_of_ble_eq_true rfl) dL_law_381 ⟨(Nat.le_of_ble_eq_true rfl), (Nat.le_of_ble_eq_true rfl)⟩ (fun H locs hP hD hS => ?_)
  refine lv_icmp_eq (tgt := 1080) hx hb dL_law_384 (by decide) (fun _ => ?_) (fun c1 => absurd rfl c1)
  exact cont σ1 τ1 H locs ls hR1 hl hP hD hS
set_option maxRecDepth 100000 in
set_option maxHeartbeats 4000000 in
theorem lw_case7 {p : Program} {l : Launch} {e : Env} {s : State} {m : MethodId} {below : List Frame} {meth : Method} {cd : Code} {D : va_G} {a b : Nat → Nat} {c : Nat → ClassId} {bs L : Nat} {xs : Nat → Int32} (C0 : lw_At p s m meth cd bs L xs) (hK : KK D c s) {N : Nat} {R : St → St → Prop} (hsim : S_can N R) {i : Nat} (hi : i + 6 ≤ L) (hL : L ≤ 3072) (cont : ∀ (σ τ : St) (H : Heap) (locs : List Loc) (ls : Array Slot), R σ τ → lv_has ls 4 [(3, .int (nI i)), (2, .ref (b 0)), (1, .ref (a 0)), (0, .ref bs)] → va_P D vwCl (cW a c σ ++ mW b c τ) H → va_D (fun q : Nat => s.heap.size ≤ q) (cW a c σ ++ mW b c τ) → va_S (fun q : Nat => s.heap.size ≤ q) s.heap H locs → W p l e room_1 s m #[Value.ref bs] below meth cd H locs 42 49418 (lw_Z below #[Value.ref bs] s) (F0 m 1080 ls [])) : ∀ (σ τ : St) (H : Heap) (locs : List Loc) (ls : Array Slot), R σ τ → lv_has ls 4 [(3, .int (nI i)), (2, .ref (b 0)), (1, .ref (a 0)), (0, .ref bs)] → va_P D vwCl (cW a c σ ++ mW b c τ) H → va_D (fun q : Nat => s.heap.size ≤ q) (cW a c σ ++ mW b c τ) → va_S (fun q : Nat => s.heap.size ≤ q) s.heap H locs → W p l e room_1 s m #[Value.ref bs] below meth cd H locs 42 49418 (lw_Z below #[Value.ref bs] s) (F0 m 389 ls []) := by
  intro σ τ H locs ls hRl hl hP hD hS
  obtain ⟨hx, hb, hr, hml, hown, hts, hX, hbl, hlocks, hgv⟩ := id C0
  have ht : ∀ w ∈ gW, w.before #[Value.ref bs] s = true := fun w h => hts w (gW_tbl w h)
  have S : CallFix p m cd code 4 s #[Value.ref bs] gW RL := ⟨hx, hb, hml, hown, ht⟩
  have hA : ∀ q : Nat, s.heap.size ≤ q → (fun q : Nat => s.heap.size ≤ q) q := fun _ h => h
  have hbA : ¬ (fun q : Nat => s.heap.size ≤ q) bs := Nat.not_le.mpr hbl
  obtain ⟨r, h5, h6⟩ := hsim σ τ hRl
  refine lv_aload_n hx hb dL_law_389 rfl (lv_at hl 2 rfl) ?_
  refine xl_I (wf := cW a c) (As := []) (rest := []) S k_X5_can q358 q359 q360 ⟨(Nat.le_of_ble_eq_true rfl), (Nat.le_of_ble_eq_true rfl)⟩ ⟨rfl, rfl⟩ (fun A hD => c_X5_can l D a c A hD N  σ r h5) (fun _ _ => rfl) hK hP hD hS hA (va_recv hK.1 (va_P_left hP) (rfl : vwCl[3]? = some (RX5, TX5, 12)) (cw0 a c σ)) rfl hl.1 rfl (Nat.le_of_ble_eq_true rfl) dL_law_390 ⟨(Nat.le_of_ble_eq_true rfl), (Nat.le_of_ble_eq_true rfl)⟩ (fun H locs hP hD hS => ?_)
  refine lv_aload_n hx hb dL_law_393 rfl (lv_at hl 1 rfl) ?_
  refine xl_I (wf := mW b c) (As := []) (rest := [.int r]) S k_X6_can q362 q363 q364 ⟨(Nat.le_of_ble_eq_true rfl), (Nat.le_of_ble_eq_true rfl)⟩ ⟨rfl, rfl⟩ (fun A hD => c_X6_can l D b c A hD N  τ r h6) (fun _ _ => rfl) hK hP hD hS hA (va_recv hK.1 (va_P_left hP) (rfl : vwCl[4]? = some (RX6, TX6, 27)) (mw0 b c τ)) rfl hl.1 rfl (Nat.le_of_ble_eq_true rfl) dL_law_394 ⟨(Nat.le_of_ble_eq_true rfl), (Nat.le_of_ble_eq_true rfl)⟩ (fun H locs hP hD hS => ?_)
  refine lv_icmp_eq (tgt := 1080) hx hb dL_law_397 (by decide) (fun _ => ?_) (fun c1 => absurd rfl c1)
  exact cont σ τ H locs ls hRl hl hP hD hS
set_option maxRecDepth 100000 in
set_option maxHeartbeats 4000000 in
theorem lw_case8 {p : Program} {l : Launch} {e : Env} {s : State} {m : MethodId} {below : List Frame} {meth : Method} {cd : Code} {D : va_G} {a b : Nat → Nat} {c : Nat → ClassId} {bs L : Nat} {xs : Nat → Int32} (C0 : lw_At p s m meth cd bs L xs) (hK : KK D c s) {N : Nat} {R : St → St → Prop} (hsim : S_day N R) {i : Nat} (hi : i + 6 ≤ L) (hL : L ≤ 3072) (cont : ∀ (σ τ : St) (H : Heap) (locs : List Loc) (ls : Array Slot), R σ τ → lv_has ls 4 [(3, .int (nI i)), (2, .ref (b 0)), (1, .ref (a 0)), (0, .ref bs)] → va_P D vwCl (cW a c σ ++ mW b c τ) H → va_D (fun q : Nat => s.heap.size ≤ q) (cW a c σ ++ mW b c τ) → va_S (fun q : Nat => s.heap.size ≤ q) s.heap H locs → W p l e room_1 s m #[Value.ref bs] below meth cd H locs 42 49418 (lw_Z below #[Value.ref bs] s) (F0 m 1080 ls [])) : ∀ (σ τ : St) (H : Heap) (locs : List Loc) (ls : Array Slot), R σ τ → lv_has ls 4 [(3, .int (nI i)), (2, .ref (b 0)), (1, .ref (a 0)), (0, .ref bs)] → va_P D vwCl (cW a c σ ++ mW b c τ) H → va_D (fun q : Nat => s.heap.size ≤ q) (cW a c σ ++ mW b c τ) → va_S (fun q : Nat => s.heap.size ≤ q) s.heap H locs → W p l e room_1 s m #[Value.ref bs] below meth cd H locs 42 49418 (lw_Z below #[Value.ref bs] s) (F0 m 402 ls []) := by
  intro σ τ H locs ls hRl hl hP hD hS
  obtain ⟨hx, hb, hr, hml, hown, hts, hX, hbl, hlocks, hgv⟩ := id C0
  have ht : ∀ w ∈ gW, w.before #[Value.ref bs] s = true := fun w h => hts w (gW_tbl w h)
  have S : CallFix p m cd code 4 s #[Value.ref bs] gW RL := ⟨hx, hb, hml, hown, ht⟩
  have hA : ∀ q : Nat, s.heap.size ≤ q → (fun q : Nat => s.heap.size ≤ q) q := fun _ h => h
  have hbA : ¬ (fun q : Nat => s.heap.size ≤ q) bs := Nat.not_le.mpr hbl
  have i1 : vp_in (nI i + (1 : Int32)) L := by rw [show nI i + (1 : Int32) = nI (i + 1) from nI_add i 1]; exact vp_in_nI (by omega) (by omega)
  have i2 : vp_in (nI i + (2 : Int32)) L := by rw [show nI i + (2 : Int32) = nI (i + 2) from nI_add i 2]; exact vp_in_nI (by omega) (by omega)
  have i3 : vp_in (nI i + (3 : Int32)) L := by rw [show nI i + (3 : Int32) = nI (i + 3) from nI_add i 3]; exact vp_in_nI (by omega) (by omega)
  have i4 : vp_in (nI i + (4 : Int32)) L := by rw [show nI i + (4 : Int32) = nI (i + 4) from nI_add i 4]; exact vp_in_nI (by omega) (by omega)
  have i5 : vp_in (nI i + (5 : Int32)) L := by rw [show nI i + (5 : Int32) = nI (i + 5) from nI_add i 5]; exact vp_in_nI (by omega) (by omega)
  obtain ⟨r, σ1, τ1, h5, h6, hR1⟩ := hsim (xs (Int32.toNatClampNeg (nI i + (1 : Int32)))) (xs (Int32.toNatClampNeg (nI i + (2 : Int32)))) (xs (Int32.toNatClampNeg (nI i + (3 : Int32)))) (xs (Int32.toNatClampNeg (nI i + (4 : Int32)))) (xs (Int32.toNatClampNeg (nI i + (5 : Int32)))) σ τ hRl
  refine lv_aload_n hx hb dL_law_402 rfl (lv_at hl 2 rfl) ?_
  refine lv_aload_n hx hb dL_law_403 rfl (lv_at hl 3 rfl) ?_
  refine lv_iload_n hx hb dL_law_404 rfl (lv_at hl 0 rfl) ?_
  refine lv_iconst (v := (1 : Int32)) hx hb dL_law_405 (by decide) ?_
  refine lv_iadd hx hb dL_law_406 ?_
  refine va_sld hx hb hX hbl hbA hS i1 dL_law_407 ?_
  refine lv_aload_n hx hb dL_law_408 rfl (lv_at hl 3 rfl) ?_
  refine lv_iload_n hx hb dL_law_409 rfl (lv_at hl 0 rfl) ?_
  refine lv_iconst (v := (2 : Int32)) hx hb dL_law_410 (by decide) ?_
  refine lv_iadd hx hb dL_law_411 ?_
  refine va_sld hx hb hX hbl hbA hS i2 dL_law_412 ?_
  refine lv_aload_n hx hb dL_law_413 rfl (lv_at hl 3 rfl) ?_
  refine lv_iload_n hx hb dL_law_414 rfl (lv_at hl 0 rfl) ?_
  refine lv_iconst (v := (3 : Int32)) hx hb dL_law_415 (by decide) ?_
  refine lv_iadd hx hb dL_law_416 ?_
  refine va_sld hx hb hX hbl hbA hS i3 dL_law_417 ?_
  refine lv_aload_n hx hb dL_law_418 rfl (lv_at hl 3 rfl) ?_
  refine lv_iload_n hx hb dL_law_419 rfl (lv_at hl 0 rfl) ?_
  refine lv_iconst (v := (4 : Int32)) hx hb dL_law_420 (by decide) ?_
  refine lv_iadd hx hb dL_law_421 ?_
  refine va_sld hx hb hX hbl hbA hS i4 dL_law_422 ?_
  refine lv_aload_n hx hb dL_law_423 rfl (lv_at hl 3 rfl) ?_
  refine lv_iload_n hx hb dL_law_424 rfl (lv_at hl 0 rfl) ?_
  refine lv_iconst (v := (5 : Int32)) hx hb dL_law_425 (by decide) ?_
  refine lv_iadd hx hb dL_law_426 ?_
  refine va_sld hx hb hX hbl hbA hS i5 dL_law_427 ?_
  refine xl_I (wf := cW a c) (As := [.int (xs (Int32.toNatClampNeg (nI i + (1 : Int32)))), .int (xs (Int32.toNatClampNeg (nI i + (2 : Int32)))), .int (xs (Int32.toNatClampNeg (nI i + (3 : Int32)))), .int (xs (Int32.toNatClampNeg (nI i + (4 : Int32)))), .int (xs (Int32.toNatClampNeg (nI i + (5 : Int32))))]) (rest := []) S k_X5_day q366 q367 q368 ⟨(Nat.le_of_ble_eq_true rfl), (Nat.le_of_ble_eq_true rfl)⟩ ⟨rfl, rfl⟩ (fun A hD => c_X5_day l D a c A hD N (xs (Int32.toNatClampNeg (nI i + (1 : Int32)))) (xs (Int32.toNatClampNeg (nI i + (2 : Int32)))) (xs (Int32.toNatClampNeg (nI i + (3 : Int32)))) (xs (Int32.toNatClampNeg (nI i + (4 : Int32)))) (xs (Int32.toNatClampNeg (nI i + (5 : Int32)))) σ r σ1 h5) (fun _ _ => rfl) hK hP hD hS hA (va_recv hK.1 (va_P_left hP) (rfl : vwCl[3]? = some (RX5, TX5, 12)) (cw0 a c σ)) rfl hl.1 rfl (Nat.le_of_ble_eq_true rfl) dL_law_428 ⟨(Nat.le_of_ble_eq_true rfl), (Nat.le_of_ble_eq_true rfl)⟩ (fun H locs hP hD hS => ?_)
  refine lv_aload_n hx hb dL_law_431 rfl (lv_at hl 1 rfl) ?_
  refine lv_aload_n hx hb dL_law_432 rfl (lv_at hl 3 rfl) ?_
  refine lv_iload_n hx hb dL_law_433 rfl (lv_at hl 0 rfl) ?_
  refine lv_iconst (v := (1 : Int32)) hx hb dL_law_434 (by decide) ?_
  refine lv_iadd hx hb dL_law_435 ?_
  refine va_sld hx hb hX hbl hbA hS i1 dL_law_436 ?_
  refine lv_aload_n hx hb dL_law_437 rfl (lv_at hl 3 rfl) ?_
  refine lv_iload_n hx hb dL_law_438 rfl (lv_at hl 0 rfl) ?_
  refine lv_iconst (v := (2 : Int32)) hx hb dL_law_439 (by decide) ?_
  refine lv_iadd hx hb dL_law_440 ?_
  refine va_sld hx hb hX hbl hbA hS i2 dL_law_441 ?_
  refine lv_aload_n hx hb dL_law_442 rfl (lv_at hl 3 rfl) ?_
  refine lv_iload_n hx hb dL_law_443 rfl (lv_at hl 0 rfl) ?_
  refine lv_iconst (v := (3 : Int32)) hx hb dL_law_444 (by decide) ?_
  refine lv_iadd hx hb dL_law_445 ?_
  refine va_sld hx hb hX hbl hbA hS i3 dL_law_446 ?_
  refine lv_aload_n hx hb dL_law_447 rfl (lv_at hl 3 rfl) ?_
  refine lv_iload_n hx hb dL_law_448 rfl (lv_at hl 0 rfl) ?_
  refine lv_iconst (v := (4 : Int32)) hx hb dL_law_449 (by decide) ?_
  refine lv_iadd hx hb dL_law_450 ?_
  refine va_sld hx hb hX hbl hbA hS i4 dL_law_451 ?_
  refine lv_aload_n hx hb dL_law_452 rfl (lv_at hl 3 rfl) ?_
  refine lv_iload_n hx hb dL_law_453 rfl (lv_at hl 0 rfl) ?_
  refine lv_iconst (v := (5 : Int32)) hx hb dL_law_454 (by decide) ?_
  refine lv_iadd hx hb dL_law_455 ?_
  refine va_sld hx hb hX hbl hbA hS i5 dL_law_456 ?_
  refine xl_I (wf := mW b c) (As := [.int (xs (Int32.toNatClampNeg (nI i + (1 : Int32)))), .int (xs (Int32.toNatClampNeg (nI i + (2 : Int32)))), .int (xs (Int32.toNatClampNeg (nI i + (3 : Int32)))), .int (xs (Int32.toNatClampNeg (nI i + (4 : Int32)))), .int (xs (Int32.toNatClampNeg (nI i + (5 : Int32))))]) (rest := [.int r]) S k_X6_day q399 q400 q401 ⟨(Nat.le_of_ble_eq_true rfl), (Nat.le_of_ble_eq_true rfl)⟩ ⟨rfl, rfl⟩ (fun A hD => c_X6_day l D b c A hD N (xs (Int32.toNatClampNeg (nI i + (1 : Int32)))) (xs (Int32.toNatClampNeg (nI i + (2 : Int32)))) (xs (Int32.toNatClampNeg (nI i + (3 : Int32)))) (xs (Int32.toNatClampNeg (nI i + (4 : Int32)))) (xs (Int32.toNatClampNeg (nI i + (5 : Int32)))) τ r τ1 h6) (fun _ _ => rfl) hK hP hD hS hA (va_recv hK.1 (va_P_left hP) (rfl : vwCl[4]? = some (RX6, TX6, 27)) (mw0 b c τ)) rfl hl.1 rfl (Nat.le_of_ble_eq_true rfl) dL_law_457 ⟨(Nat.le_of_ble_eq_true rfl), (Nat.le_of_ble_eq_true rfl)⟩ (fun H locs hP hD hS => ?_)
  refine lv_icmp_eq (tgt := 1080) hx hb dL_law_460 (by decide) (fun _ => ?_) (fun c1 => absurd rfl c1)
  exact cont σ1 τ1 H locs ls hR1 hl hP hD hS
set_option maxRecDepth 100000 in
set_option maxHeartbeats 4000000 in
theorem lw_case9 {p : Program} {l : Launch} {e : Env} {s : State} {m : MethodId} {below : List Frame} {meth : Method} {cd : Code} {D : va_G} {a b : Nat → Nat} {c : Nat → ClassId} {bs L : Nat} {xs : Nat → Int32} (C0 : lw_At p s m meth cd bs L xs) (hK : KK D c s) {N : Nat} {R : St → St → Prop} (hsim : S_fewest N R) {i : Nat} (hi : i + 6 ≤ L) (hL : L ≤ 3072) (cont : ∀ (σ τ : St) (H : Heap) (locs : List Loc) (ls : Array Slot), R σ τ → lv_has ls 4 [(3, .int (nI i)), (2, .ref (b 0)), (1, .ref (a 0)), (0, .ref bs)] → va_P D vwCl (cW a c σ ++ mW b c τ) H → va_D (fun q : Nat => s.heap.size ≤ q) (cW a c σ ++ mW b c τ) → va_S (fun q : Nat => s.heap.size ≤ q) s.heap H locs → W p l e room_1 s m #[Value.ref bs] below meth cd H locs 42 49418 (lw_Z below #[Value.ref bs] s) (F0 m 1080 ls [])) : ∀ (σ τ : St) (H : Heap) (locs : List Loc) (ls : Array Slot), R σ τ → lv_has ls 4 [(3, .int (nI i)), (2, .ref (b 0)), (1, .ref (a 0)), (0, .ref bs)] → va_P D vwCl (cW a c σ ++ mW b c τ) H → va_D (fun q : Nat => s.heap.size ≤ q) (cW a c σ ++ mW b c τ) → va_S (fun q : Nat => s.heap.size ≤ q) s.heap H locs → W p l e room_1 s m #[Value.ref bs] below meth cd H locs 42 49418 (lw_Z below #[Value.ref bs] s) (F0 m 465 ls []) := by
  intro σ τ H locs ls hRl hl hP hD hS
  obtain ⟨hx, hb, hr, hml, hown, hts, hX, hbl, hlocks, hgv⟩ := id C0
  have ht : ∀ w ∈ gW, w.before #[Value.ref bs] s = true := fun w h => hts w (gW_tbl w h)
  have S : CallFix p m cd code 4 s #[Value.ref bs] gW RL := ⟨hx, hb, hml, hown, ht⟩
  have hA : ∀ q : Nat, s.heap.size ≤ q → (fun q : Nat => s.heap.size ≤ q) q := fun _ h => h
  have hbA : ¬ (fun q : Nat => s.heap.size ≤ q) bs := Nat.not_le.mpr hbl
  have i1 : vp_in (nI i + (1 : Int32)) L := by rw [show nI i + (1 : Int32) = nI (i + 1) from nI_add i 1]; exact vp_in_nI (by omega) (by omega)
  have i2 : vp_in (nI i + (2 : Int32)) L := by rw [show nI i + (2 : Int32) = nI (i + 2) from nI_add i 2]; exact vp_in_nI (by omega) (by omega)
  have i3 : vp_in (nI i + (3 : Int32)) L := by rw [show nI i + (3 : Int32) = nI (i + 3) from nI_add i 3]; exact vp_in_nI (by omega) (by omega)
  have i4 : vp_in (nI i + (4 : Int32)) L := by rw [show nI i + (4 : Int32) = nI (i + 4) from nI_add i 4]; exact vp_in_nI (by omega) (by omega)
  obtain ⟨r, σ1, τ1, h5, h6, hR1⟩ := hsim (xs (Int32.toNatClampNeg (nI i + (1 : Int32)))) (xs (Int32.toNatClampNeg (nI i + (2 : Int32)))) (xs (Int32.toNatClampNeg (nI i + (3 : Int32)))) (xs (Int32.toNatClampNeg (nI i + (4 : Int32)))) σ τ hRl
  refine lv_aload_n hx hb dL_law_465 rfl (lv_at hl 2 rfl) ?_
  refine lv_aload_n hx hb dL_law_466 rfl (lv_at hl 3 rfl) ?_
  refine lv_iload_n hx hb dL_law_467 rfl (lv_at hl 0 rfl) ?_
  refine lv_iconst (v := (1 : Int32)) hx hb dL_law_468 (by decide) ?_
  refine lv_iadd hx hb dL_law_469 ?_
  refine va_sld hx hb hX hbl hbA hS i1 dL_law_470 ?_
  refine lv_aload_n hx hb dL_law_471 rfl (lv_at hl 3 rfl) ?_
  refine lv_iload_n hx hb dL_law_472 rfl (lv_at hl 0 rfl) ?_
  refine lv_iconst (v := (2 : Int32)) hx hb dL_law_473 (by decide) ?_
  refine lv_iadd hx hb dL_law_474 ?_
  refine va_sld hx hb hX hbl hbA hS i2 dL_law_475 ?_
  refine lv_aload_n hx hb dL_law_476 rfl (lv_at hl 3 rfl) ?_
  refine lv_iload_n hx hb dL_law_477 rfl (lv_at hl 0 rfl) ?_
  refine lv_iconst (v := (3 : Int32)) hx hb dL_law_478 (by decide) ?_
  refine lv_iadd hx hb dL_law_479 ?_
  refine va_sld hx hb hX hbl hbA hS i3 dL_law_480 ?_
  refine lv_aload_n hx hb dL_law_481 rfl (lv_at hl 3 rfl) ?_
  refine lv_iload_n hx hb dL_law_482 rfl (lv_at hl 0 rfl) ?_
  refine lv_iconst (v := (4 : Int32)) hx hb dL_law_483 (by decide) ?_
  refine lv_iadd hx hb dL_law_484 ?_
  refine va_sld hx hb hX hbl hbA hS i4 dL_law_485 ?_
  refine xl_I (wf := cW a c) (As := [.int (xs (Int32.toNatClampNeg (nI i + (1 : Int32)))), .int (xs (Int32.toNatClampNeg (nI i + (2 : Int32)))), .int (xs (Int32.toNatClampNeg (nI i + (3 : Int32)))), .int (xs (Int32.toNatClampNeg (nI i + (4 : Int32))))]) (rest := []) S k_X5_fewest q423 q424 q425 ⟨(Nat.le_of_ble_eq_true rfl), (Nat.le_of_ble_eq_true rfl)⟩ ⟨rfl, rfl⟩ (fun A hD => c_X5_fewest l D a c A hD N (xs (Int32.toNatClampNeg (nI i + (1 : Int32)))) (xs (Int32.toNatClampNeg (nI i + (2 : Int32)))) (xs (Int32.toNatClampNeg (nI i + (3 : Int32)))) (xs (Int32.toNatClampNeg (nI i + (4 : Int32)))) σ r σ1 h5) (fun _ _ => rfl) hK hP hD hS hA (va_recv hK.1 (va_P_left hP) (rfl : vwCl[3]? = some (RX5, TX5, 12)) (cw0 a c σ)) rfl hl.1 rfl (Nat.le_of_ble_eq_true rfl) dL_law_486 ⟨(Nat.le_of_ble_eq_true rfl), (Nat.le_of_ble_eq_true rfl)⟩ (fun H locs hP hD hS => ?_)
  refine lv_aload_n hx hb dL_law_489 rfl (lv_at hl 1 rfl) ?_
  refine lv_aload_n hx hb dL_law_490 rfl (lv_at hl 3 rfl) ?_
  refine lv_iload_n hx hb dL_law_491 rfl (lv_at hl 0 rfl) ?_
  refine lv_iconst (v := (1 : Int32)) hx hb dL_law_492 (by decide) ?_
  refine lv_iadd hx hb dL_law_493 ?_
  refine va_sld hx hb hX hbl hbA hS i1 dL_law_494 ?_
  refine lv_aload_n hx hb dL_law_495 rfl (lv_at hl 3 rfl) ?_
  refine lv_iload_n hx hb dL_law_496 rfl (lv_at hl 0 rfl) ?_
  refine lv_iconst (v := (2 : Int32)) hx hb dL_law_497 (by decide) ?_
  refine lv_iadd hx hb dL_law_498 ?_
  refine va_sld hx hb hX hbl hbA hS i2 dL_law_499 ?_
  refine lv_aload_n hx hb dL_law_500 rfl (lv_at hl 3 rfl) ?_
  refine lv_iload_n hx hb dL_law_501 rfl (lv_at hl 0 rfl) ?_
  refine lv_iconst (v := (3 : Int32)) hx hb dL_law_502 (by decide) ?_
  refine lv_iadd hx hb dL_law_503 ?_
  refine va_sld hx hb hX hbl hbA hS i3 dL_law_504 ?_
  refine lv_aload_n hx hb dL_law_505 rfl (lv_at hl 3 rfl) ?_
  refine lv_iload_n hx hb dL_law_506 rfl (lv_at hl 0 rfl) ?_
  refine lv_iconst (v := (4 : Int32)) hx hb dL_law_507 (by decide) ?_
  refine lv_iadd hx hb dL_law_508 ?_
  refine va_sld hx hb hX hbl hbA hS i4 dL_law_509 ?_
  refine xl_I (wf := mW b c) (As := [.int (xs (Int32.toNatClampNeg (nI i + (1 : Int32)))), .int (xs (Int32.toNatClampNeg (nI i + (2 : Int32)))), .int (xs (Int32.toNatClampNeg (nI i + (3 : Int32)))), .int (xs (Int32.toNatClampNeg (nI i + (4 : Int32))))]) (rest := [.int r]) S k_X6_fewest q466 q467 q468 ⟨(Nat.le_of_ble_eq_true rfl), (Nat.le_of_ble_eq_true rfl)⟩ ⟨rfl, rfl⟩ (fun A hD => c_X6_fewest l D b c A hD N (xs (Int32.toNatClampNeg (nI i + (1 : Int32)))) (xs (Int32.toNatClampNeg (nI i + (2 : Int32)))) (xs (Int32.toNatClampNeg (nI i + (3 : Int32)))) (xs (Int32.toNatClampNeg (nI i + (4 : Int32)))) τ r τ1 h6) (fun _ _ => rfl) hK hP hD hS hA (va_recv hK.1 (va_P_left hP) (rfl : vwCl[4]? = some (RX6, TX6, 27)) (mw0 b c τ)) rfl hl.1 rfl (Nat.le_of_ble_eq_true rfl) dL_law_510 ⟨(Nat.le_of_ble_eq_true rfl), (Nat.le_of_ble_eq_true rfl)⟩ (fun H locs hP hD hS => ?_)
  refine lv_icmp_eq (tgt := 1080) hx hb dL_law_513 (by decide) (fun _ => ?_) (fun c1 => absurd rfl c1)
  exact cont σ1 τ1 H locs ls hR1 hl hP hD hS
set_option maxRecDepth 100000 in
set_option maxHeartbeats 4000000 in
theorem lw_case10 {p : Program} {l : Launch} {e : Env} {s : State} {m : MethodId} {below : List Frame} {meth : Method} {cd : Code} {D : va_G} {a b : Nat → Nat} {c : Nat → ClassId} {bs L : Nat} {xs : Nat → Int32} (C0 : lw_At p s m meth cd bs L xs) (hK : KK D c s) {N : Nat} {R : St → St → Prop} (hsim : S_stands N R) {i : Nat} (hi : i + 6 ≤ L) (hL : L ≤ 3072) (cont : ∀ (σ τ : St) (H : Heap) (locs : List Loc) (ls : Array Slot), R σ τ → lv_has ls 4 [(3, .int (nI i)), (2, .ref (b 0)), (1, .ref (a 0)), (0, .ref bs)] → va_P D vwCl (cW a c σ ++ mW b c τ) H → va_D (fun q : Nat => s.heap.size ≤ q) (cW a c σ ++ mW b c τ) → va_S (fun q : Nat => s.heap.size ≤ q) s.heap H locs → W p l e room_1 s m #[Value.ref bs] below meth cd H locs 42 49418 (lw_Z below #[Value.ref bs] s) (F0 m 1080 ls [])) : ∀ (σ τ : St) (H : Heap) (locs : List Loc) (ls : Array Slot), R σ τ → lv_has ls 4 [(3, .int (nI i)), (2, .ref (b 0)), (1, .ref (a 0)), (0, .ref bs)] → va_P D vwCl (cW a c σ ++ mW b c τ) H → va_D (fun q : Nat => s.heap.size ≤ q) (cW a c σ ++ mW b c τ) → va_S (fun q : Nat => s.heap.size ≤ q) s.heap H locs → W p l e room_1 s m #[Value.ref bs] below meth cd H locs 42 49418 (lw_Z below #[Value.ref bs] s) (F0 m 518 ls []) := by
  intro σ τ H locs ls hRl hl hP hD hS
  obtain ⟨hx, hb, hr, hml, hown, hts, hX, hbl, hlocks, hgv⟩ := id C0
  have ht : ∀ w ∈ gW, w.before #[Value.ref bs] s = true := fun w h => hts w (gW_tbl w h)
  have S : CallFix p m cd code 4 s #[Value.ref bs] gW RL := ⟨hx, hb, hml, hown, ht⟩
  have hA : ∀ q : Nat, s.heap.size ≤ q → (fun q : Nat => s.heap.size ≤ q) q := fun _ h => h
  have hbA : ¬ (fun q : Nat => s.heap.size ≤ q) bs := Nat.not_le.mpr hbl
  have i1 : vp_in (nI i + (1 : Int32)) L := by rw [show nI i + (1 : Int32) = nI (i + 1) from nI_add i 1]; exact vp_in_nI (by omega) (by omega)
  obtain ⟨r, σ1, τ1, h5, h6, hR1⟩ := hsim (xs (Int32.toNatClampNeg (nI i + (1 : Int32)))) σ τ hRl
  refine lv_aload_n hx hb dL_law_518 rfl (lv_at hl 2 rfl) ?_
  refine lv_aload_n hx hb dL_law_519 rfl (lv_at hl 3 rfl) ?_
  refine lv_iload_n hx hb dL_law_520 rfl (lv_at hl 0 rfl) ?_
  refine lv_iconst (v := (1 : Int32)) hx hb dL_law_521 (by decide) ?_
  refine lv_iadd hx hb dL_law_522 ?_
  refine va_sld hx hb hX hbl hbA hS i1 dL_law_523 ?_
  refine xl_I (wf := cW a c) (As := [.int (xs (Int32.toNatClampNeg (nI i + (1 : Int32))))]) (rest := []) S k_X5_stands q483 q484 q485 ⟨(Nat.le_of_ble_eq_true rfl), (Nat.le_of_ble_eq_true rfl)⟩ ⟨rfl, rfl⟩ (fun A hD => c_X5_stands l D a c A hD N (xs (Int32.toNatClampNeg (nI i + (1 : Int32)))) σ r σ1 h5) (fun _ _ => rfl) hK hP hD hS hA (va_recv hK.1 (va_P_left hP) (rfl : vwCl[3]? = some (RX5, TX5, 12)) (cw0 a c σ)) rfl hl.1 rfl (Nat.le_of_ble_eq_true rfl) dL_law_524 ⟨(Nat.le_of_ble_eq_true rfl), (Nat.le_of_ble_eq_true rfl)⟩ (fun H locs hP hD hS => ?_)
  refine lv_aload_n hx hb dL_law_527 rfl (lv_at hl 1 rfl) ?_
  refine lv_aload_n hx hb dL_law_528 rfl (lv_at hl 3 rfl) ?_
  refine lv_iload_n hx hb dL_law_529 rfl (lv_at hl 0 rfl) ?_
  refine lv_iconst (v := (1 : Int32)) hx hb dL_law_530 (by decide) ?_
  refine lv_iadd hx hb dL_law_531 ?_
  refine va_sld hx hb hX hbl hbA hS i1 dL_law_532 ?_
  refine xl_I (wf := mW b c) (As := [.int (xs (Int32.toNatClampNeg (nI i + (1 : Int32))))]) (rest := [.int r]) S k_X6_stands q499 q500 q501 ⟨(Nat.le_of_ble_eq_true rfl), (Nat.le_of_ble_eq_true rfl)⟩ ⟨rfl, rfl⟩ (fun A hD => c_X6_stands l D b c A hD N (xs (Int32.toNatClampNeg (nI i + (1 : Int32)))) τ r τ1 h6) (fun _ _ => rfl) hK hP hD hS hA (va_recv hK.1 (va_P_left hP) (rfl : vwCl[4]? = some (RX6, TX6, 27)) (mw0 b c τ)) rfl hl.1 rfl (Nat.le_of_ble_eq_true rfl) dL_law_533 ⟨(Nat.le_of_ble_eq_true rfl), (Nat.le_of_ble_eq_true rfl)⟩ (fun H locs hP hD hS => ?_)
  refine lv_icmp_eq (tgt := 1080) hx hb dL_law_536 (by decide) (fun _ => ?_) (fun c1 => absurd rfl c1)
  exact cont σ1 τ1 H locs ls hR1 hl hP hD hS
set_option maxRecDepth 100000 in
set_option maxHeartbeats 4000000 in
theorem lw_case11 {p : Program} {l : Launch} {e : Env} {s : State} {m : MethodId} {below : List Frame} {meth : Method} {cd : Code} {D : va_G} {a b : Nat → Nat} {c : Nat → ClassId} {bs L : Nat} {xs : Nat → Int32} (C0 : lw_At p s m meth cd bs L xs) (hK : KK D c s) {N : Nat} {R : St → St → Prop} (hsim : S_tidy N R) {i : Nat} (hi : i + 6 ≤ L) (hL : L ≤ 3072) (cont : ∀ (σ τ : St) (H : Heap) (locs : List Loc) (ls : Array Slot), R σ τ → lv_has ls 4 [(3, .int (nI i)), (2, .ref (b 0)), (1, .ref (a 0)), (0, .ref bs)] → va_P D vwCl (cW a c σ ++ mW b c τ) H → va_D (fun q : Nat => s.heap.size ≤ q) (cW a c σ ++ mW b c τ) → va_S (fun q : Nat => s.heap.size ≤ q) s.heap H locs → W p l e room_1 s m #[Value.ref bs] below meth cd H locs 42 49418 (lw_Z below #[Value.ref bs] s) (F0 m 1080 ls [])) : ∀ (σ τ : St) (H : Heap) (locs : List Loc) (ls : Array Slot), R σ τ → lv_has ls 4 [(3, .int (nI i)), (2, .ref (b 0)), (1, .ref (a 0)), (0, .ref bs)] → va_P D vwCl (cW a c σ ++ mW b c τ) H → va_D (fun q : Nat => s.heap.size ≤ q) (cW a c σ ++ mW b c τ) → va_S (fun q : Nat => s.heap.size ≤ q) s.heap H locs → W p l e room_1 s m #[Value.ref bs] below meth cd H locs 42 49418 (lw_Z below #[Value.ref bs] s) (F0 m 541 ls []) := by
  intro σ τ H locs ls hRl hl hP hD hS
  obtain ⟨hx, hb, hr, hml, hown, hts, hX, hbl, hlocks, hgv⟩ := id C0
  have ht : ∀ w ∈ gW, w.before #[Value.ref bs] s = true := fun w h => hts w (gW_tbl w h)
  have S : CallFix p m cd code 4 s #[Value.ref bs] gW RL := ⟨hx, hb, hml, hown, ht⟩
  have hA : ∀ q : Nat, s.heap.size ≤ q → (fun q : Nat => s.heap.size ≤ q) q := fun _ h => h
  have hbA : ¬ (fun q : Nat => s.heap.size ≤ q) bs := Nat.not_le.mpr hbl
  have i1 : vp_in (nI i + (1 : Int32)) L := by rw [show nI i + (1 : Int32) = nI (i + 1) from nI_add i 1]; exact vp_in_nI (by omega) (by omega)
  obtain ⟨r, τ1, h5, h6, hR1⟩ := hsim (xs (Int32.toNatClampNeg (nI i + (1 : Int32)))) σ τ hRl
  refine lv_aload_n hx hb dL_law_541 rfl (lv_at hl 2 rfl) ?_
  refine lv_aload_n hx hb dL_law_542 rfl (lv_at hl 3 rfl) ?_
  refine lv_iload_n hx hb dL_law_543 rfl (lv_at hl 0 rfl) ?_
  refine lv_iconst (v := (1 : Int32)) hx hb dL_law_544 (by decide) ?_
  refine lv_iadd hx hb dL_law_545 ?_
  refine va_sld hx hb hX hbl hbA hS i1 dL_law_546 ?_
  refine xl_I (wf := cW a c) (As := [.int (xs (Int32.toNatClampNeg (nI i + (1 : Int32))))]) (rest := []) S k_X5_tidy q503 q504 q505 ⟨(Nat.le_of_ble_eq_true rfl), (Nat.le_of_ble_eq_true rfl)⟩ ⟨rfl, rfl⟩ (fun A hD => c_X5_tidy l D a c A hD N (xs (Int32.toNatClampNeg (nI i + (1 : Int32)))) σ r h5) (fun _ _ => rfl) hK hP hD hS hA (va_recv hK.1 (va_P_left hP) (rfl : vwCl[3]? = some (RX5, TX5, 12)) (cw0 a c σ)) rfl hl.1 rfl (Nat.le_of_ble_eq_true rfl) dL_law_547 ⟨(Nat.le_of_ble_eq_true rfl), (Nat.le_of_ble_eq_true rfl)⟩ (fun H locs hP hD hS => ?_)
  refine lv_aload_n hx hb dL_law_550 rfl (lv_at hl 1 rfl) ?_
  refine lv_aload_n hx hb dL_law_551 rfl (lv_at hl 3 rfl) ?_
  refine lv_iload_n hx hb dL_law_552 rfl (lv_at hl 0 rfl) ?_
  refine lv_iconst (v := (1 : Int32)) hx hb dL_law_553 (by decide) ?_
  refine lv_iadd hx hb dL_law_554 ?_
  refine va_sld hx hb hX hbl hbA hS i1 dL_law_555 ?_
  refine xl_I (wf := mW b c) (As := [.int (xs (Int32.toNatClampNeg (nI i + (1 : Int32))))]) (rest := [.int r]) S k_X6_tidy q524 q525 q526 ⟨(Nat.le_of_ble_eq_true rfl), (Nat.le_of_ble_eq_true rfl)⟩ ⟨rfl, rfl⟩ (fun A hD => c_X6_tidy l D b c A hD N (xs (Int32.toNatClampNeg (nI i + (1 : Int32)))) τ r τ1 h6) (fun _ _ => rfl) hK hP hD hS hA (va_recv hK.1 (va_P_left hP) (rfl : vwCl[4]? = some (RX6, TX6, 27)) (mw0 b c τ)) rfl hl.1 rfl (Nat.le_of_ble_eq_true rfl) dL_law_556 ⟨(Nat.le_of_ble_eq_true rfl), (Nat.le_of_ble_eq_true rfl)⟩ (fun H locs hP hD hS => ?_)
  refine lv_icmp_eq (tgt := 1080) hx hb dL_law_559 (by decide) (fun _ => ?_) (fun c1 => absurd rfl c1)
  exact cont σ τ1 H locs ls hR1 hl hP hD hS
set_option maxRecDepth 100000 in
set_option maxHeartbeats 4000000 in
theorem lw_case12 {p : Program} {l : Launch} {e : Env} {s : State} {m : MethodId} {below : List Frame} {meth : Method} {cd : Code} {D : va_G} {a b : Nat → Nat} {c : Nat → ClassId} {bs L : Nat} {xs : Nat → Int32} (C0 : lw_At p s m meth cd bs L xs) (hK : KK D c s) {N : Nat} {R : St → St → Prop} (hsim : S_chain N R) {i : Nat} (hi : i + 6 ≤ L) (hL : L ≤ 3072) (cont : ∀ (σ τ : St) (H : Heap) (locs : List Loc) (ls : Array Slot), R σ τ → lv_has ls 4 [(3, .int (nI i)), (2, .ref (b 0)), (1, .ref (a 0)), (0, .ref bs)] → va_P D vwCl (cW a c σ ++ mW b c τ) H → va_D (fun q : Nat => s.heap.size ≤ q) (cW a c σ ++ mW b c τ) → va_S (fun q : Nat => s.heap.size ≤ q) s.heap H locs → W p l e room_1 s m #[Value.ref bs] below meth cd H locs 42 49418 (lw_Z below #[Value.ref bs] s) (F0 m 1080 ls [])) : ∀ (σ τ : St) (H : Heap) (locs : List Loc) (ls : Array Slot), R σ τ → lv_has ls 4 [(3, .int (nI i)), (2, .ref (b 0)), (1, .ref (a 0)), (0, .ref bs)] → va_P D vwCl (cW a c σ ++ mW b c τ) H → va_D (fun q : Nat => s.heap.size ≤ q) (cW a c σ ++ mW b c τ) → va_S (fun q : Nat => s.heap.size ≤ q) s.heap H locs → W p l e room_1 s m #[Value.ref bs] below meth cd H locs 42 49418 (lw_Z below #[Value.ref bs] s) (F0 m 564 ls []) := by
  intro σ τ H locs ls hRl hl hP hD hS
  obtain ⟨hx, hb, hr, hml, hown, hts, hX, hbl, hlocks, hgv⟩ := id C0
  have ht : ∀ w ∈ gW, w.before #[Value.ref bs] s = true := fun w h => hts w (gW_tbl w h)
  have S : CallFix p m cd code 4 s #[Value.ref bs] gW RL := ⟨hx, hb, hml, hown, ht⟩
  have hA : ∀ q : Nat, s.heap.size ≤ q → (fun q : Nat => s.heap.size ≤ q) q := fun _ h => h
  have hbA : ¬ (fun q : Nat => s.heap.size ≤ q) bs := Nat.not_le.mpr hbl
  obtain ⟨r, τ1, h5, h6, hR1⟩ := hsim σ τ hRl
  refine lv_aload_n hx hb dL_law_564 rfl (lv_at hl 2 rfl) ?_
  refine xl_I (wf := cW a c) (As := []) (rest := []) S k_X5_chain q532 q533 q534 ⟨(Nat.le_of_ble_eq_true rfl), (Nat.le_of_ble_eq_true rfl)⟩ ⟨rfl, rfl⟩ (fun A hD => c_X5_chain l D a c A hD N  σ r h5) (fun _ _ => rfl) hK hP hD hS hA (va_recv hK.1 (va_P_left hP) (rfl : vwCl[3]? = some (RX5, TX5, 12)) (cw0 a c σ)) rfl hl.1 rfl (Nat.le_of_ble_eq_true rfl) dL_law_565 ⟨(Nat.le_of_ble_eq_true rfl), (Nat.le_of_ble_eq_true rfl)⟩ (fun H locs hP hD hS => ?_)
  refine lv_aload_n hx hb dL_law_568 rfl (lv_at hl 1 rfl) ?_
  refine xl_I (wf := mW b c) (As := []) (rest := [.int r]) S k_X6_chain q540 q541 q542 ⟨(Nat.le_of_ble_eq_true rfl), (Nat.le_of_ble_eq_true rfl)⟩ ⟨rfl, rfl⟩ (fun A hD => c_X6_chain l D b c A hD N  τ r τ1 h6) (fun _ _ => rfl) hK hP hD hS hA (va_recv hK.1 (va_P_left hP) (rfl : vwCl[4]? = some (RX6, TX6, 27)) (mw0 b c τ)) rfl hl.1 rfl (Nat.le_of_ble_eq_true rfl) dL_law_569 ⟨(Nat.le_of_ble_eq_true rfl), (Nat.le_of_ble_eq_true rfl)⟩ (fun H locs hP hD hS => ?_)
  refine lv_icmp_eq (tgt := 1080) hx hb dL_law_572 (by decide) (fun _ => ?_) (fun c1 => absurd rfl c1)
  exact cont σ τ1 H locs ls hR1 hl hP hD hS
set_option maxRecDepth 100000 in
set_option maxHeartbeats 4000000 in
theorem lw_case13 {p : Program} {l : Launch} {e : Env} {s : State} {m : MethodId} {below : List Frame} {meth : Method} {cd : Code} {D : va_G} {a b : Nat → Nat} {c : Nat → ClassId} {bs L : Nat} {xs : Nat → Int32} (C0 : lw_At p s m meth cd bs L xs) (hK : KK D c s) {N : Nat} {R : St → St → Prop} (hsim : S_reading N R) {i : Nat} (hi : i + 6 ≤ L) (hL : L ≤ 3072) (cont : ∀ (σ τ : St) (H : Heap) (locs : List Loc) (ls : Array Slot), R σ τ → lv_has ls 4 [(3, .int (nI i)), (2, .ref (b 0)), (1, .ref (a 0)), (0, .ref bs)] → va_P D vwCl (cW a c σ ++ mW b c τ) H → va_D (fun q : Nat => s.heap.size ≤ q) (cW a c σ ++ mW b c τ) → va_S (fun q : Nat => s.heap.size ≤ q) s.heap H locs → W p l e room_1 s m #[Value.ref bs] below meth cd H locs 42 49418 (lw_Z below #[Value.ref bs] s) (F0 m 1080 ls [])) : ∀ (σ τ : St) (H : Heap) (locs : List Loc) (ls : Array Slot), R σ τ → lv_has ls 4 [(3, .int (nI i)), (2, .ref (b 0)), (1, .ref (a 0)), (0, .ref bs)] → va_P D vwCl (cW a c σ ++ mW b c τ) H → va_D (fun q : Nat => s.heap.size ≤ q) (cW a c σ ++ mW b c τ) → va_S (fun q : Nat => s.heap.size ≤ q) s.heap H locs → W p l e room_1 s m #[Value.ref bs] below meth cd H locs 42 49418 (lw_Z below #[Value.ref bs] s) (F0 m 577 ls []) := by
  intro σ τ H locs ls hRl hl hP hD hS
  obtain ⟨hx, hb, hr, hml, hown, hts, hX, hbl, hlocks, hgv⟩ := id C0
  have ht : ∀ w ∈ gW, w.before #[Value.ref bs] s = true := fun w h => hts w (gW_tbl w h)
  have S : CallFix p m cd code 4 s #[Value.ref bs] gW RL := ⟨hx, hb, hml, hown, ht⟩
  have hA : ∀ q : Nat, s.heap.size ≤ q → (fun q : Nat => s.heap.size ≤ q) q := fun _ h => h
  have hbA : ¬ (fun q : Nat => s.heap.size ≤ q) bs := Nat.not_le.mpr hbl
  have i1 : vp_in (nI i + (1 : Int32)) L := by rw [show nI i + (1 : Int32) = nI (i + 1) from nI_add i 1]; exact vp_in_nI (by omega) (by omega)
  have i2 : vp_in (nI i + (2 : Int32)) L := by rw [show nI i + (2 : Int32) = nI (i + 2) from nI_add i 2]; exact vp_in_nI (by omega) (by omega)
  have i3 : vp_in (nI i + (3 : Int32)) L := by rw [show nI i + (3 : Int32) = nI (i + 3) from nI_add i 3]; exact vp_in_nI (by omega) (by omega)
  obtain ⟨r, σ1, τ1, h5, h6, hR1⟩ := hsim (xs (Int32.toNatClampNeg (nI i + (1 : Int32)))) (xs (Int32.toNatClampNeg (nI i + (2 : Int32)))) (xs (Int32.toNatClampNeg (nI i + (3 : Int32)))) σ τ hRl
  refine lv_aload_n hx hb dL_law_577 rfl (lv_at hl 2 rfl) ?_
  refine lv_aload_n hx hb dL_law_578 rfl (lv_at hl 3 rfl) ?_
  refine lv_iload_n hx hb dL_law_579 rfl (lv_at hl 0 rfl) ?_
  refine lv_iconst (v := (1 : Int32)) hx hb dL_law_580 (by decide) ?_
  refine lv_iadd hx hb dL_law_581 ?_
  refine va_sld hx hb hX hbl hbA hS i1 dL_law_582 ?_
  refine lv_aload_n hx hb dL_law_583 rfl (lv_at hl 3 rfl) ?_
  refine lv_iload_n hx hb dL_law_584 rfl (lv_at hl 0 rfl) ?_
  refine lv_iconst (v := (2 : Int32)) hx hb dL_law_585 (by decide) ?_
  refine lv_iadd hx hb dL_law_586 ?_
  refine va_sld hx hb hX hbl hbA hS i2 dL_law_587 ?_
  refine lv_aload_n hx hb dL_law_588 rfl (lv_at hl 3 rfl) ?_
  refine lv_iload_n hx hb dL_law_589 rfl (lv_at hl 0 rfl) ?_
  refine lv_iconst (v := (3 : Int32)) hx hb dL_law_590 (by decide) ?_
  refine lv_iadd hx hb dL_law_591 ?_
  refine va_sld hx hb hX hbl hbA hS i3 dL_law_592 ?_
  refine xl_I (wf := cW a c) (As := [.int (xs (Int32.toNatClampNeg (nI i + (1 : Int32)))), .int (xs (Int32.toNatClampNeg (nI i + (2 : Int32)))), .int (xs (Int32.toNatClampNeg (nI i + (3 : Int32))))]) (rest := []) S k_X5_reading q544 q545 q546 ⟨(Nat.le_of_ble_eq_true rfl), (Nat.le_of_ble_eq_true rfl)⟩ ⟨rfl, rfl⟩ (fun A hD => c_X5_reading l D a c A hD (xs (Int32.toNatClampNeg (nI i + (1 : Int32)))) (xs (Int32.toNatClampNeg (nI i + (2 : Int32)))) (xs (Int32.toNatClampNeg (nI i + (3 : Int32)))) σ r σ1 h5) (fun _ _ => rfl) hK hP hD hS hA (va_recv hK.1 (va_P_left hP) (rfl : vwCl[3]? = some (RX5, TX5, 12)) (cw0 a c σ)) rfl hl.1 rfl (Nat.le_of_ble_eq_true rfl) dL_law_593 ⟨(Nat.le_of_ble_eq_true rfl), (Nat.le_of_ble_eq_true rfl)⟩ (fun H locs hP hD hS => ?_)
  refine lv_aload_n hx hb dL_law_596 rfl (lv_at hl 1 rfl) ?_
  refine lv_aload_n hx hb dL_law_597 rfl (lv_at hl 3 rfl) ?_
  refine lv_iload_n hx hb dL_law_598 rfl (lv_at hl 0 rfl) ?_
  refine lv_iconst (v := (1 : Int32)) hx hb dL_law_599 (by decide) ?_
  refine lv_iadd hx hb dL_law_600 ?_
  refine va_sld hx hb hX hbl hbA hS i1 dL_law_601 ?_
  refine lv_aload_n hx hb dL_law_602 rfl (lv_at hl 3 rfl) ?_
  refine lv_iload_n hx hb dL_law_603 rfl (lv_at hl 0 rfl) ?_
  refine lv_iconst (v := (2 : Int32)) hx hb dL_law_604 (by decide) ?_
  refine lv_iadd hx hb dL_law_605 ?_
  refine va_sld hx hb hX hbl hbA hS i2 dL_law_606 ?_
  refine lv_aload_n hx hb dL_law_607 rfl (lv_at hl 3 rfl) ?_
  refine lv_iload_n hx hb dL_law_608 rfl (lv_at hl 0 rfl) ?_
  refine lv_iconst (v := (3 : Int32)) hx hb dL_law_609 (by decide) ?_
  refine lv_iadd hx hb dL_law_610 ?_
  refine va_sld hx hb hX hbl hbA hS i3 dL_law_611 ?_
  refine xl_I (wf := mW b c) (As := [.int (xs (Int32.toNatClampNeg (nI i + (1 : Int32)))), .int (xs (Int32.toNatClampNeg (nI i + (2 : Int32)))), .int (xs (Int32.toNatClampNeg (nI i + (3 : Int32))))]) (rest := [.int r]) S k_X6_reading q548 q549 q550 ⟨(Nat.le_of_ble_eq_true rfl), (Nat.le_of_ble_eq_true rfl)⟩ ⟨rfl, rfl⟩ (fun A hD => c_X6_reading l D b c A hD (xs (Int32.toNatClampNeg (nI i + (1 : Int32)))) (xs (Int32.toNatClampNeg (nI i + (2 : Int32)))) (xs (Int32.toNatClampNeg (nI i + (3 : Int32)))) τ r τ1 h6) (fun _ _ => rfl) hK hP hD hS hA (va_recv hK.1 (va_P_left hP) (rfl : vwCl[4]? = some (RX6, TX6, 27)) (mw0 b c τ)) rfl hl.1 rfl (Nat.le_of_ble_eq_true rfl) dL_law_612 ⟨(Nat.le_of_ble_eq_true rfl), (Nat.le_of_ble_eq_true rfl)⟩ (fun H locs hP hD hS => ?_)
  refine lv_icmp_eq (tgt := 1080) hx hb dL_law_615 (by decide) (fun _ => ?_) (fun c1 => absurd rfl c1)
  exact cont σ1 τ1 H locs ls hR1 hl hP hD hS
set_option maxRecDepth 100000 in
set_option maxHeartbeats 4000000 in
theorem lw_case14 {p : Program} {l : Launch} {e : Env} {s : State} {m : MethodId} {below : List Frame} {meth : Method} {cd : Code} {D : va_G} {a b : Nat → Nat} {c : Nat → ClassId} {bs L : Nat} {xs : Nat → Int32} (C0 : lw_At p s m meth cd bs L xs) (hK : KK D c s) {N : Nat} {R : St → St → Prop} (hsim : S_back N R) {i : Nat} (hi : i + 6 ≤ L) (hL : L ≤ 3072) (cont : ∀ (σ τ : St) (H : Heap) (locs : List Loc) (ls : Array Slot), R σ τ → lv_has ls 4 [(3, .int (nI i)), (2, .ref (b 0)), (1, .ref (a 0)), (0, .ref bs)] → va_P D vwCl (cW a c σ ++ mW b c τ) H → va_D (fun q : Nat => s.heap.size ≤ q) (cW a c σ ++ mW b c τ) → va_S (fun q : Nat => s.heap.size ≤ q) s.heap H locs → W p l e room_1 s m #[Value.ref bs] below meth cd H locs 42 49418 (lw_Z below #[Value.ref bs] s) (F0 m 1080 ls [])) : ∀ (σ τ : St) (H : Heap) (locs : List Loc) (ls : Array Slot), R σ τ → lv_has ls 4 [(3, .int (nI i)), (2, .ref (b 0)), (1, .ref (a 0)), (0, .ref bs)] → va_P D vwCl (cW a c σ ++ mW b c τ) H → va_D (fun q : Nat => s.heap.size ≤ q) (cW a c σ ++ mW b c τ) → va_S (fun q : Nat => s.heap.size ≤ q) s.heap H locs → W p l e room_1 s m #[Value.ref bs] below meth cd H locs 42 49418 (lw_Z below #[Value.ref bs] s) (F0 m 620 ls []) := by
  intro σ τ H locs ls hRl hl hP hD hS
  obtain ⟨hx, hb, hr, hml, hown, hts, hX, hbl, hlocks, hgv⟩ := id C0
  have ht : ∀ w ∈ gW, w.before #[Value.ref bs] s = true := fun w h => hts w (gW_tbl w h)
  have S : CallFix p m cd code 4 s #[Value.ref bs] gW RL := ⟨hx, hb, hml, hown, ht⟩
  have hA : ∀ q : Nat, s.heap.size ≤ q → (fun q : Nat => s.heap.size ≤ q) q := fun _ h => h
  have hbA : ¬ (fun q : Nat => s.heap.size ≤ q) bs := Nat.not_le.mpr hbl
  have i1 : vp_in (nI i + (1 : Int32)) L := by rw [show nI i + (1 : Int32) = nI (i + 1) from nI_add i 1]; exact vp_in_nI (by omega) (by omega)
  obtain ⟨r, σ1, τ1, h5, h6, hR1⟩ := hsim (xs (Int32.toNatClampNeg (nI i + (1 : Int32)))) σ τ hRl
  refine lv_aload_n hx hb dL_law_620 rfl (lv_at hl 2 rfl) ?_
  refine lv_aload_n hx hb dL_law_621 rfl (lv_at hl 3 rfl) ?_
  refine lv_iload_n hx hb dL_law_622 rfl (lv_at hl 0 rfl) ?_
  refine lv_iconst (v := (1 : Int32)) hx hb dL_law_623 (by decide) ?_
  refine lv_iadd hx hb dL_law_624 ?_
  refine va_sld hx hb hX hbl hbA hS i1 dL_law_625 ?_
  refine xl_I (wf := cW a c) (As := [.int (xs (Int32.toNatClampNeg (nI i + (1 : Int32))))]) (rest := []) S k_X5_back q552 q553 q554 ⟨(Nat.le_of_ble_eq_true rfl), (Nat.le_of_ble_eq_true rfl)⟩ ⟨rfl, rfl⟩ (fun A hD => c_X5_back l D a c A hD (xs (Int32.toNatClampNeg (nI i + (1 : Int32)))) σ r σ1 h5) (fun _ _ => rfl) hK hP hD hS hA (va_recv hK.1 (va_P_left hP) (rfl : vwCl[3]? = some (RX5, TX5, 12)) (cw0 a c σ)) rfl hl.1 rfl (Nat.le_of_ble_eq_true rfl) dL_law_626 ⟨(Nat.le_of_ble_eq_true rfl), (Nat.le_of_ble_eq_true rfl)⟩ (fun H locs hP hD hS => ?_)
  refine lv_aload_n hx hb dL_law_629 rfl (lv_at hl 1 rfl) ?_
  refine lv_aload_n hx hb dL_law_630 rfl (lv_at hl 3 rfl) ?_
  refine lv_iload_n hx hb dL_law_631 rfl (lv_at hl 0 rfl) ?_
  refine lv_iconst (v := (1 : Int32)) hx hb dL_law_632 (by decide) ?_
  refine lv_iadd hx hb dL_law_633 ?_
  refine va_sld hx hb hX hbl hbA hS i1 dL_law_634 ?_
  refine xl_I (wf := mW b c) (As := [.int (xs (Int32.toNatClampNeg (nI i + (1 : Int32))))]) (rest := [.int r]) S k_X6_back q556 q557 q558 ⟨(Nat.le_of_ble_eq_true rfl), (Nat.le_of_ble_eq_true rfl)⟩ ⟨rfl, rfl⟩ (fun A hD => c_X6_back l D b c A hD (xs (Int32.toNatClampNeg (nI i + (1 : Int32)))) τ r τ1 h6) (fun _ _ => rfl) hK hP hD hS hA (va_recv hK.1 (va_P_left hP) (rfl : vwCl[4]? = some (RX6, TX6, 27)) (mw0 b c τ)) rfl hl.1 rfl (Nat.le_of_ble_eq_true rfl) dL_law_635 ⟨(Nat.le_of_ble_eq_true rfl), (Nat.le_of_ble_eq_true rfl)⟩ (fun H locs hP hD hS => ?_)
  refine lv_icmp_eq (tgt := 1080) hx hb dL_law_638 (by decide) (fun _ => ?_) (fun c1 => absurd rfl c1)
  exact cont σ1 τ1 H locs ls hR1 hl hP hD hS
set_option maxRecDepth 100000 in
set_option maxHeartbeats 4000000 in
theorem lw_case15 {p : Program} {l : Launch} {e : Env} {s : State} {m : MethodId} {below : List Frame} {meth : Method} {cd : Code} {D : va_G} {a b : Nat → Nat} {c : Nat → ClassId} {bs L : Nat} {xs : Nat → Int32} (C0 : lw_At p s m meth cd bs L xs) (hK : KK D c s) {N : Nat} {R : St → St → Prop} (hsim : S_girths N R) {i : Nat} (hi : i + 6 ≤ L) (hL : L ≤ 3072) (cont : ∀ (σ τ : St) (H : Heap) (locs : List Loc) (ls : Array Slot), R σ τ → lv_has ls 4 [(3, .int (nI i)), (2, .ref (b 0)), (1, .ref (a 0)), (0, .ref bs)] → va_P D vwCl (cW a c σ ++ mW b c τ) H → va_D (fun q : Nat => s.heap.size ≤ q) (cW a c σ ++ mW b c τ) → va_S (fun q : Nat => s.heap.size ≤ q) s.heap H locs → W p l e room_1 s m #[Value.ref bs] below meth cd H locs 42 49418 (lw_Z below #[Value.ref bs] s) (F0 m 1080 ls [])) : ∀ (σ τ : St) (H : Heap) (locs : List Loc) (ls : Array Slot), R σ τ → lv_has ls 4 [(3, .int (nI i)), (2, .ref (b 0)), (1, .ref (a 0)), (0, .ref bs)] → va_P D vwCl (cW a c σ ++ mW b c τ) H → va_D (fun q : Nat => s.heap.size ≤ q) (cW a c σ ++ mW b c τ) → va_S (fun q : Nat => s.heap.size ≤ q) s.heap H locs → W p l e room_1 s m #[Value.ref bs] below meth cd H locs 42 49418 (lw_Z below #[Value.ref bs] s) (F0 m 643 ls []) := by
  intro σ τ H locs ls hRl hl hP hD hS
  obtain ⟨hx, hb, hr, hml, hown, hts, hX, hbl, hlocks, hgv⟩ := id C0
  have ht : ∀ w ∈ gW, w.before #[Value.ref bs] s = true := fun w h => hts w (gW_tbl w h)
  have S : CallFix p m cd code 4 s #[Value.ref bs] gW RL := ⟨hx, hb, hml, hown, ht⟩
  have hA : ∀ q : Nat, s.heap.size ≤ q → (fun q : Nat => s.heap.size ≤ q) q := fun _ h => h
  have hbA : ¬ (fun q : Nat => s.heap.size ≤ q) bs := Nat.not_le.mpr hbl
  have i1 : vp_in (nI i + (1 : Int32)) L := by rw [show nI i + (1 : Int32) = nI (i + 1) from nI_add i 1]; exact vp_in_nI (by omega) (by omega)
  obtain ⟨r, σ1, τ1, h5, h6, hR1⟩ := hsim (xs (Int32.toNatClampNeg (nI i + (1 : Int32)))) σ τ hRl
  refine lv_aload_n hx hb dL_law_643 rfl (lv_at hl 2 rfl) ?_
  refine lv_aload_n hx hb dL_law_644 rfl (lv_at hl 3 rfl) ?_
  refine lv_iload_n hx hb dL_law_645 rfl (lv_at hl 0 rfl) ?_
  refine lv_iconst (v := (1 : Int32)) hx hb dL_law_646 (by decide) ?_
  refine lv_iadd hx hb dL_law_647 ?_
  refine va_sld hx hb hX hbl hbA hS i1 dL_law_648 ?_
  refine xl_I (wf := cW a c) (As := [.int (xs (Int32.toNatClampNeg (nI i + (1 : Int32))))]) (rest := []) S k_X5_girths q560 q561 q562 ⟨(Nat.le_of_ble_eq_true rfl), (Nat.le_of_ble_eq_true rfl)⟩ ⟨rfl, rfl⟩ (fun A hD => c_X5_girths l D a c A hD N (xs (Int32.toNatClampNeg (nI i + (1 : Int32)))) σ r σ1 h5) (fun _ _ => rfl) hK hP hD hS hA (va_recv hK.1 (va_P_left hP) (rfl : vwCl[3]? = some (RX5, TX5, 12)) (cw0 a c σ)) rfl hl.1 rfl (Nat.le_of_ble_eq_true rfl) dL_law_649 ⟨(Nat.le_of_ble_eq_true rfl), (Nat.le_of_ble_eq_true rfl)⟩ (fun H locs hP hD hS => ?_)
  refine lv_aload_n hx hb dL_law_652 rfl (lv_at hl 1 rfl) ?_
  refine lv_aload_n hx hb dL_law_653 rfl (lv_at hl 3 rfl) ?_
  refine lv_iload_n hx hb dL_law_654 rfl (lv_at hl 0 rfl) ?_
  refine lv_iconst (v := (1 : Int32)) hx hb dL_law_655 (by decide) ?_
  refine lv_iadd hx hb dL_law_656 ?_
  refine va_sld hx hb hX hbl hbA hS i1 dL_law_657 ?_
  refine xl_I (wf := mW b c) (As := [.int (xs (Int32.toNatClampNeg (nI i + (1 : Int32))))]) (rest := [.int r]) S k_X6_girths q568 q569 q570 ⟨(Nat.le_of_ble_eq_true rfl), (Nat.le_of_ble_eq_true rfl)⟩ ⟨rfl, rfl⟩ (fun A hD => c_X6_girths l D b c A hD N (xs (Int32.toNatClampNeg (nI i + (1 : Int32)))) τ r τ1 h6) (fun _ _ => rfl) hK hP hD hS hA (va_recv hK.1 (va_P_left hP) (rfl : vwCl[4]? = some (RX6, TX6, 27)) (mw0 b c τ)) rfl hl.1 rfl (Nat.le_of_ble_eq_true rfl) dL_law_658 ⟨(Nat.le_of_ble_eq_true rfl), (Nat.le_of_ble_eq_true rfl)⟩ (fun H locs hP hD hS => ?_)
  refine lv_icmp_eq (tgt := 1080) hx hb dL_law_661 (by decide) (fun _ => ?_) (fun c1 => absurd rfl c1)
  exact cont σ1 τ1 H locs ls hR1 hl hP hD hS
set_option maxRecDepth 100000 in
set_option maxHeartbeats 4000000 in
theorem lw_case16 {p : Program} {l : Launch} {e : Env} {s : State} {m : MethodId} {below : List Frame} {meth : Method} {cd : Code} {D : va_G} {a b : Nat → Nat} {c : Nat → ClassId} {bs L : Nat} {xs : Nat → Int32} (C0 : lw_At p s m meth cd bs L xs) (hK : KK D c s) {N : Nat} {R : St → St → Prop} (hsim : S_rooms N R) {i : Nat} (hi : i + 6 ≤ L) (hL : L ≤ 3072) (cont : ∀ (σ τ : St) (H : Heap) (locs : List Loc) (ls : Array Slot), R σ τ → lv_has ls 4 [(3, .int (nI i)), (2, .ref (b 0)), (1, .ref (a 0)), (0, .ref bs)] → va_P D vwCl (cW a c σ ++ mW b c τ) H → va_D (fun q : Nat => s.heap.size ≤ q) (cW a c σ ++ mW b c τ) → va_S (fun q : Nat => s.heap.size ≤ q) s.heap H locs → W p l e room_1 s m #[Value.ref bs] below meth cd H locs 42 49418 (lw_Z below #[Value.ref bs] s) (F0 m 1080 ls [])) : ∀ (σ τ : St) (H : Heap) (locs : List Loc) (ls : Array Slot), R σ τ → lv_has ls 4 [(3, .int (nI i)), (2, .ref (b 0)), (1, .ref (a 0)), (0, .ref bs)] → va_P D vwCl (cW a c σ ++ mW b c τ) H → va_D (fun q : Nat => s.heap.size ≤ q) (cW a c σ ++ mW b c τ) → va_S (fun q : Nat => s.heap.size ≤ q) s.heap H locs → W p l e room_1 s m #[Value.ref bs] below meth cd H locs 42 49418 (lw_Z below #[Value.ref bs] s) (F0 m 666 ls []) := by
  intro σ τ H locs ls hRl hl hP hD hS
  obtain ⟨hx, hb, hr, hml, hown, hts, hX, hbl, hlocks, hgv⟩ := id C0
  have ht : ∀ w ∈ gW, w.before #[Value.ref bs] s = true := fun w h => hts w (gW_tbl w h)
  have S : CallFix p m cd code 4 s #[Value.ref bs] gW RL := ⟨hx, hb, hml, hown, ht⟩
  have hA : ∀ q : Nat, s.heap.size ≤ q → (fun q : Nat => s.heap.size ≤ q) q := fun _ h => h
  have hbA : ¬ (fun q : Nat => s.heap.size ≤ q) bs := Nat.not_le.mpr hbl
  have i1 : vp_in (nI i + (1 : Int32)) L := by rw [show nI i + (1 : Int32) = nI (i + 1) from nI_add i 1]; exact vp_in_nI (by omega) (by omega)
  obtain ⟨r, σ1, τ1, h5, h6, hR1⟩ := hsim (xs (Int32.toNatClampNeg (nI i + (1 : Int32)))) σ τ hRl
  refine lv_aload_n hx hb dL_law_666 rfl (lv_at hl 2 rfl) ?_
  refine lv_aload_n hx hb dL_law_667 rfl (lv_at hl 3 rfl) ?_
  refine lv_iload_n hx hb dL_law_668 rfl (lv_at hl 0 rfl) ?_
  refine lv_iconst (v := (1 : Int32)) hx hb dL_law_669 (by decide) ?_
  refine lv_iadd hx hb dL_law_670 ?_
  refine va_sld hx hb hX hbl hbA hS i1 dL_law_671 ?_
  refine xl_I (wf := cW a c) (As := [.int (xs (Int32.toNatClampNeg (nI i + (1 : Int32))))]) (rest := []) S k_X5_rooms q576 q577 q578 ⟨(Nat.le_of_ble_eq_true rfl), (Nat.le_of_ble_eq_true rfl)⟩ ⟨rfl, rfl⟩ (fun A hD => c_X5_rooms l D a c A hD N (xs (Int32.toNatClampNeg (nI i + (1 : Int32)))) σ r σ1 h5) (fun _ _ => rfl) hK hP hD hS hA (va_recv hK.1 (va_P_left hP) (rfl : vwCl[3]? = some (RX5, TX5, 12)) (cw0 a c σ)) rfl hl.1 rfl (Nat.le_of_ble_eq_true rfl) dL_law_672 ⟨(Nat.le_of_ble_eq_true rfl), (Nat.le_of_ble_eq_true rfl)⟩ (fun H locs hP hD hS => ?_)
  refine lv_aload_n hx hb dL_law_675 rfl (lv_at hl 1 rfl) ?_
  refine lv_aload_n hx hb dL_law_676 rfl (lv_at hl 3 rfl) ?_
  refine lv_iload_n hx hb dL_law_677 rfl (lv_at hl 0 rfl) ?_
  refine lv_iconst (v := (1 : Int32)) hx hb dL_law_678 (by decide) ?_
  refine lv_iadd hx hb dL_law_679 ?_
  refine va_sld hx hb hX hbl hbA hS i1 dL_law_680 ?_
  refine xl_I (wf := mW b c) (As := [.int (xs (Int32.toNatClampNeg (nI i + (1 : Int32))))]) (rest := [.int r]) S k_X6_rooms q580 q581 q582 ⟨(Nat.le_of_ble_eq_true rfl), (Nat.le_of_ble_eq_true rfl)⟩ ⟨rfl, rfl⟩ (fun A hD => c_X6_rooms l D b c A hD N (xs (Int32.toNatClampNeg (nI i + (1 : Int32)))) τ r τ1 h6) (fun _ _ => rfl) hK hP hD hS hA (va_recv hK.1 (va_P_left hP) (rfl : vwCl[4]? = some (RX6, TX6, 27)) (mw0 b c τ)) rfl hl.1 rfl (Nat.le_of_ble_eq_true rfl) dL_law_681 ⟨(Nat.le_of_ble_eq_true rfl), (Nat.le_of_ble_eq_true rfl)⟩ (fun H locs hP hD hS => ?_)
  refine lv_icmp_eq (tgt := 1080) hx hb dL_law_684 (by decide) (fun _ => ?_) (fun c1 => absurd rfl c1)
  exact cont σ1 τ1 H locs ls hR1 hl hP hD hS
set_option maxRecDepth 100000 in
set_option maxHeartbeats 4000000 in
theorem lw_case17 {p : Program} {l : Launch} {e : Env} {s : State} {m : MethodId} {below : List Frame} {meth : Method} {cd : Code} {D : va_G} {a b : Nat → Nat} {c : Nat → ClassId} {bs L : Nat} {xs : Nat → Int32} (C0 : lw_At p s m meth cd bs L xs) (hK : KK D c s) {N : Nat} {R : St → St → Prop} (hsim : S_kinds N R) {i : Nat} (hi : i + 6 ≤ L) (hL : L ≤ 3072) (cont : ∀ (σ τ : St) (H : Heap) (locs : List Loc) (ls : Array Slot), R σ τ → lv_has ls 4 [(3, .int (nI i)), (2, .ref (b 0)), (1, .ref (a 0)), (0, .ref bs)] → va_P D vwCl (cW a c σ ++ mW b c τ) H → va_D (fun q : Nat => s.heap.size ≤ q) (cW a c σ ++ mW b c τ) → va_S (fun q : Nat => s.heap.size ≤ q) s.heap H locs → W p l e room_1 s m #[Value.ref bs] below meth cd H locs 42 49418 (lw_Z below #[Value.ref bs] s) (F0 m 1080 ls [])) : ∀ (σ τ : St) (H : Heap) (locs : List Loc) (ls : Array Slot), R σ τ → lv_has ls 4 [(3, .int (nI i)), (2, .ref (b 0)), (1, .ref (a 0)), (0, .ref bs)] → va_P D vwCl (cW a c σ ++ mW b c τ) H → va_D (fun q : Nat => s.heap.size ≤ q) (cW a c σ ++ mW b c τ) → va_S (fun q : Nat => s.heap.size ≤ q) s.heap H locs → W p l e room_1 s m #[Value.ref bs] below meth cd H locs 42 49418 (lw_Z below #[Value.ref bs] s) (F0 m 689 ls []) := by
  intro σ τ H locs ls hRl hl hP hD hS
  obtain ⟨hx, hb, hr, hml, hown, hts, hX, hbl, hlocks, hgv⟩ := id C0
  have ht : ∀ w ∈ gW, w.before #[Value.ref bs] s = true := fun w h => hts w (gW_tbl w h)
  have S : CallFix p m cd code 4 s #[Value.ref bs] gW RL := ⟨hx, hb, hml, hown, ht⟩
  have hA : ∀ q : Nat, s.heap.size ≤ q → (fun q : Nat => s.heap.size ≤ q) q := fun _ h => h
  have hbA : ¬ (fun q : Nat => s.heap.size ≤ q) bs := Nat.not_le.mpr hbl
  have i1 : vp_in (nI i + (1 : Int32)) L := by rw [show nI i + (1 : Int32) = nI (i + 1) from nI_add i 1]; exact vp_in_nI (by omega) (by omega)
  obtain ⟨r, σ1, τ1, h5, h6, hR1⟩ := hsim (xs (Int32.toNatClampNeg (nI i + (1 : Int32)))) σ τ hRl
  refine lv_aload_n hx hb dL_law_689 rfl (lv_at hl 2 rfl) ?_
  refine lv_aload_n hx hb dL_law_690 rfl (lv_at hl 3 rfl) ?_
  refine lv_iload_n hx hb dL_law_691 rfl (lv_at hl 0 rfl) ?_
  refine lv_iconst (v := (1 : Int32)) hx hb dL_law_692 (by decide) ?_
  refine lv_iadd hx hb dL_law_693 ?_
  refine va_sld hx hb hX hbl hbA hS i1 dL_law_694 ?_
  refine xl_I (wf := cW a c) (As := [.int (xs (Int32.toNatClampNeg (nI i + (1 : Int32))))]) (rest := []) S k_X5_kinds q584 q585 q586 ⟨(Nat.le_of_ble_eq_true rfl), (Nat.le_of_ble_eq_true rfl)⟩ ⟨rfl, rfl⟩ (fun A hD => c_X5_kinds l D a c A hD N (xs (Int32.toNatClampNeg (nI i + (1 : Int32)))) σ r σ1 h5) (fun _ _ => rfl) hK hP hD hS hA (va_recv hK.1 (va_P_left hP) (rfl : vwCl[3]? = some (RX5, TX5, 12)) (cw0 a c σ)) rfl hl.1 rfl (Nat.le_of_ble_eq_true rfl) dL_law_695 ⟨(Nat.le_of_ble_eq_true rfl), (Nat.le_of_ble_eq_true rfl)⟩ (fun H locs hP hD hS => ?_)
  refine lv_aload_n hx hb dL_law_698 rfl (lv_at hl 1 rfl) ?_
  refine lv_aload_n hx hb dL_law_699 rfl (lv_at hl 3 rfl) ?_
  refine lv_iload_n hx hb dL_law_700 rfl (lv_at hl 0 rfl) ?_
  refine lv_iconst (v := (1 : Int32)) hx hb dL_law_701 (by decide) ?_
  refine lv_iadd hx hb dL_law_702 ?_
  refine va_sld hx hb hX hbl hbA hS i1 dL_law_703 ?_
  refine xl_I (wf := mW b c) (As := [.int (xs (Int32.toNatClampNeg (nI i + (1 : Int32))))]) (rest := [.int r]) S k_X6_kinds q588 q589 q590 ⟨(Nat.le_of_ble_eq_true rfl), (Nat.le_of_ble_eq_true rfl)⟩ ⟨rfl, rfl⟩ (fun A hD => c_X6_kinds l D b c A hD N (xs (Int32.toNatClampNeg (nI i + (1 : Int32)))) τ r τ1 h6) (fun _ _ => rfl) hK hP hD hS hA (va_recv hK.1 (va_P_left hP) (rfl : vwCl[4]? = some (RX6, TX6, 27)) (mw0 b c τ)) rfl hl.1 rfl (Nat.le_of_ble_eq_true rfl) dL_law_704 ⟨(Nat.le_of_ble_eq_true rfl), (Nat.le_of_ble_eq_true rfl)⟩ (fun H locs hP hD hS => ?_)
  refine lv_icmp_eq (tgt := 1080) hx hb dL_law_707 (by decide) (fun _ => ?_) (fun c1 => absurd rfl c1)
  exact cont σ1 τ1 H locs ls hR1 hl hP hD hS
set_option maxRecDepth 100000 in
set_option maxHeartbeats 4000000 in
theorem lw_case18 {p : Program} {l : Launch} {e : Env} {s : State} {m : MethodId} {below : List Frame} {meth : Method} {cd : Code} {D : va_G} {a b : Nat → Nat} {c : Nat → ClassId} {bs L : Nat} {xs : Nat → Int32} (C0 : lw_At p s m meth cd bs L xs) (hK : KK D c s) {N : Nat} {R : St → St → Prop} (hsim : S_odds N R) {i : Nat} (hi : i + 6 ≤ L) (hL : L ≤ 3072) (cont : ∀ (σ τ : St) (H : Heap) (locs : List Loc) (ls : Array Slot), R σ τ → lv_has ls 4 [(3, .int (nI i)), (2, .ref (b 0)), (1, .ref (a 0)), (0, .ref bs)] → va_P D vwCl (cW a c σ ++ mW b c τ) H → va_D (fun q : Nat => s.heap.size ≤ q) (cW a c σ ++ mW b c τ) → va_S (fun q : Nat => s.heap.size ≤ q) s.heap H locs → W p l e room_1 s m #[Value.ref bs] below meth cd H locs 42 49418 (lw_Z below #[Value.ref bs] s) (F0 m 1080 ls [])) : ∀ (σ τ : St) (H : Heap) (locs : List Loc) (ls : Array Slot), R σ τ → lv_has ls 4 [(3, .int (nI i)), (2, .ref (b 0)), (1, .ref (a 0)), (0, .ref bs)] → va_P D vwCl (cW a c σ ++ mW b c τ) H → va_D (fun q : Nat => s.heap.size ≤ q) (cW a c σ ++ mW b c τ) → va_S (fun q : Nat => s.heap.size ≤ q) s.heap H locs → W p l e room_1 s m #[Value.ref bs] below meth cd H locs 42 49418 (lw_Z below #[Value.ref bs] s) (F0 m 712 ls []) := by
  intro σ τ H locs ls hRl hl hP hD hS
  obtain ⟨hx, hb, hr, hml, hown, hts, hX, hbl, hlocks, hgv⟩ := id C0
  have ht : ∀ w ∈ gW, w.before #[Value.ref bs] s = true := fun w h => hts w (gW_tbl w h)
  have S : CallFix p m cd code 4 s #[Value.ref bs] gW RL := ⟨hx, hb, hml, hown, ht⟩
  have hA : ∀ q : Nat, s.heap.size ≤ q → (fun q : Nat => s.heap.size ≤ q) q := fun _ h => h
  have hbA : ¬ (fun q : Nat => s.heap.size ≤ q) bs := Nat.not_le.mpr hbl
  have i1 : vp_in (nI i + (1 : Int32)) L := by rw [show nI i + (1 : Int32) = nI (i + 1) from nI_add i 1]; exact vp_in_nI (by omega) (by omega)
  obtain ⟨r, h5, h6⟩ := hsim (xs (Int32.toNatClampNeg (nI i + (1 : Int32)))) σ τ hRl
  refine lv_aload_n hx hb dL_law_712 rfl (lv_at hl 2 rfl) ?_
  refine lv_aload_n hx hb dL_law_713 rfl (lv_at hl 3 rfl) ?_
  refine lv_iload_n hx hb dL_law_714 rfl (lv_at hl 0 rfl) ?_
  refine lv_iconst (v := (1 : Int32)) hx hb dL_law_715 (by decide) ?_
  refine lv_iadd hx hb dL_law_716 ?_
  refine va_sld hx hb hX hbl hbA hS i1 dL_law_717 ?_
  refine xl_L (wf := cW a c) (As := [.int (xs (Int32.toNatClampNeg (nI i + (1 : Int32))))]) (rest := []) S k_X5_odds q592 q593 q594 ⟨(Nat.le_of_ble_eq_true rfl), (Nat.le_of_ble_eq_true rfl)⟩ ⟨rfl, rfl⟩ (fun A hD => c_X5_odds l D a c A hD N (xs (Int32.toNatClampNeg (nI i + (1 : Int32)))) σ r h5) (fun _ _ => rfl) hK hP hD hS hA (va_recv hK.1 (va_P_left hP) (rfl : vwCl[3]? = some (RX5, TX5, 12)) (cw0 a c σ)) rfl hl.1 rfl (Nat.le_of_ble_eq_true rfl) dL_law_718 ⟨(Nat.le_of_ble_eq_true rfl), (Nat.le_of_ble_eq_true rfl)⟩ (fun H locs hP hD hS => ?_)
  refine lv_aload_n hx hb dL_law_721 rfl (lv_at hl 1 rfl) ?_
  refine lv_aload_n hx hb dL_law_722 rfl (lv_at hl 3 rfl) ?_
  refine lv_iload_n hx hb dL_law_723 rfl (lv_at hl 0 rfl) ?_
  refine lv_iconst (v := (1 : Int32)) hx hb dL_law_724 (by decide) ?_
  refine lv_iadd hx hb dL_law_725 ?_
  refine va_sld hx hb hX hbl hbA hS i1 dL_law_726 ?_
  refine xl_L (wf := mW b c) (As := [.int (xs (Int32.toNatClampNeg (nI i + (1 : Int32))))]) (rest := [.long r]) S k_X6_odds q600 q601 q602 ⟨(Nat.le_of_ble_eq_true rfl), (Nat.le_of_ble_eq_true rfl)⟩ ⟨rfl, rfl⟩ (fun A hD => c_X6_odds l D b c A hD N (xs (Int32.toNatClampNeg (nI i + (1 : Int32)))) τ r h6) (fun _ _ => rfl) hK hP hD hS hA (va_recv hK.1 (va_P_left hP) (rfl : vwCl[4]? = some (RX6, TX6, 27)) (mw0 b c τ)) rfl hl.1 rfl (Nat.le_of_ble_eq_true rfl) dL_law_727 ⟨(Nat.le_of_ble_eq_true rfl), (Nat.le_of_ble_eq_true rfl)⟩ (fun H locs hP hD hS => ?_)
  refine W.lcmp hx hb dL_law_730 ?_
  refine lv_if_eq (tgt := 1080) hx hb dL_law_731 (by decide) (fun _ => ?_) (fun c1 => absurd (lg_cmp_self r) c1)
  exact cont σ τ H locs ls hRl hl hP hD hS
set_option maxRecDepth 100000 in
set_option maxHeartbeats 4000000 in
theorem lw_case19 {p : Program} {l : Launch} {e : Env} {s : State} {m : MethodId} {below : List Frame} {meth : Method} {cd : Code} {D : va_G} {a b : Nat → Nat} {c : Nat → ClassId} {bs L : Nat} {xs : Nat → Int32} (C0 : lw_At p s m meth cd bs L xs) (hK : KK D c s) {N : Nat} {R : St → St → Prop} (hsim : S_sheet N R) {i : Nat} (hi : i + 6 ≤ L) (hL : L ≤ 3072) (cont : ∀ (σ τ : St) (H : Heap) (locs : List Loc) (ls : Array Slot), R σ τ → lv_has ls 4 [(3, .int (nI i)), (2, .ref (b 0)), (1, .ref (a 0)), (0, .ref bs)] → va_P D vwCl (cW a c σ ++ mW b c τ) H → va_D (fun q : Nat => s.heap.size ≤ q) (cW a c σ ++ mW b c τ) → va_S (fun q : Nat => s.heap.size ≤ q) s.heap H locs → W p l e room_1 s m #[Value.ref bs] below meth cd H locs 42 49418 (lw_Z below #[Value.ref bs] s) (F0 m 1080 ls [])) : ∀ (σ τ : St) (H : Heap) (locs : List Loc) (ls : Array Slot), R σ τ → lv_has ls 4 [(3, .int (nI i)), (2, .ref (b 0)), (1, .ref (a 0)), (0, .ref bs)] → va_P D vwCl (cW a c σ ++ mW b c τ) H → va_D (fun q : Nat => s.heap.size ≤ q) (cW a c σ ++ mW b c τ) → va_S (fun q : Nat => s.heap.size ≤ q) s.heap H locs → W p l e room_1 s m #[Value.ref bs] below meth cd H locs 42 49418 (lw_Z below #[Value.ref bs] s) (F0 m 736 ls []) := by
  intro σ τ H locs ls hRl hl hP hD hS
  obtain ⟨hx, hb, hr, hml, hown, hts, hX, hbl, hlocks, hgv⟩ := id C0
  have ht : ∀ w ∈ gW, w.before #[Value.ref bs] s = true := fun w h => hts w (gW_tbl w h)
  have S : CallFix p m cd code 4 s #[Value.ref bs] gW RL := ⟨hx, hb, hml, hown, ht⟩
  have hA : ∀ q : Nat, s.heap.size ≤ q → (fun q : Nat => s.heap.size ≤ q) q := fun _ h => h
  have hbA : ¬ (fun q : Nat => s.heap.size ≤ q) bs := Nat.not_le.mpr hbl
  have i1 : vp_in (nI i + (1 : Int32)) L := by rw [show nI i + (1 : Int32) = nI (i + 1) from nI_add i 1]; exact vp_in_nI (by omega) (by omega)
  have i2 : vp_in (nI i + (2 : Int32)) L := by rw [show nI i + (2 : Int32) = nI (i + 2) from nI_add i 2]; exact vp_in_nI (by omega) (by omega)
  have i3 : vp_in (nI i + (3 : Int32)) L := by rw [show nI i + (3 : Int32) = nI (i + 3) from nI_add i 3]; exact vp_in_nI (by omega) (by omega)
  obtain ⟨r, σ1, τ1, h5, h6, hR1⟩ := hsim (xs (Int32.toNatClampNeg (nI i + (1 : Int32)))) (xs (Int32.toNatClampNeg (nI i + (2 : Int32)))) (xs (Int32.toNatClampNeg (nI i + (3 : Int32)))) σ τ hRl
  refine lv_aload_n hx hb dL_law_736 rfl (lv_at hl 2 rfl) ?_
  refine lv_aload_n hx hb dL_law_737 rfl (lv_at hl 3 rfl) ?_
  refine lv_iload_n hx hb dL_law_738 rfl (lv_at hl 0 rfl) ?_
  refine lv_iconst (v := (1 : Int32)) hx hb dL_law_739 (by decide) ?_
  refine lv_iadd hx hb dL_law_740 ?_
  refine va_sld hx hb hX hbl hbA hS i1 dL_law_741 ?_
  refine lv_aload_n hx hb dL_law_742 rfl (lv_at hl 3 rfl) ?_
  refine lv_iload_n hx hb dL_law_743 rfl (lv_at hl 0 rfl) ?_
  refine lv_iconst (v := (2 : Int32)) hx hb dL_law_744 (by decide) ?_
  refine lv_iadd hx hb dL_law_745 ?_
  refine va_sld hx hb hX hbl hbA hS i2 dL_law_746 ?_
  refine lv_aload_n hx hb dL_law_747 rfl (lv_at hl 3 rfl) ?_
  refine lv_iload_n hx hb dL_law_748 rfl (lv_at hl 0 rfl) ?_
  refine lv_iconst (v := (3 : Int32)) hx hb dL_law_749 (by decide) ?_
  refine lv_iadd hx hb dL_law_750 ?_
  refine va_sld hx hb hX hbl hbA hS i3 dL_law_751 ?_
  refine xl_I (wf := cW a c) (As := [.int (xs (Int32.toNatClampNeg (nI i + (1 : Int32)))), .int (xs (Int32.toNatClampNeg (nI i + (2 : Int32)))), .int (xs (Int32.toNatClampNeg (nI i + (3 : Int32))))]) (rest := []) S k_X5_sheet q608 q609 q610 ⟨(Nat.le_of_ble_eq_true rfl), (Nat.le_of_ble_eq_true rfl)⟩ ⟨rfl, rfl⟩ (fun A hD => c_X5_sheet l D a c A hD (xs (Int32.toNatClampNeg (nI i + (1 : Int32)))) (xs (Int32.toNatClampNeg (nI i + (2 : Int32)))) (xs (Int32.toNatClampNeg (nI i + (3 : Int32)))) σ r σ1 h5) (fun _ _ => rfl) hK hP hD hS hA (va_recv hK.1 (va_P_left hP) (rfl : vwCl[3]? = some (RX5, TX5, 12)) (cw0 a c σ)) rfl hl.1 rfl (Nat.le_of_ble_eq_true rfl) dL_law_752 ⟨(Nat.le_of_ble_eq_true rfl), (Nat.le_of_ble_eq_true rfl)⟩ (fun H locs hP hD hS => ?_)
  refine lv_aload_n hx hb dL_law_755 rfl (lv_at hl 1 rfl) ?_
  refine lv_aload_n hx hb dL_law_756 rfl (lv_at hl 3 rfl) ?_
  refine lv_iload_n hx hb dL_law_757 rfl (lv_at hl 0 rfl) ?_
  refine lv_iconst (v := (1 : Int32)) hx hb dL_law_758 (by decide) ?_
  refine lv_iadd hx hb dL_law_759 ?_
  refine va_sld hx hb hX hbl hbA hS i1 dL_law_760 ?_
  refine lv_aload_n hx hb dL_law_761 rfl (lv_at hl 3 rfl) ?_
  refine lv_iload_n hx hb dL_law_762 rfl (lv_at hl 0 rfl) ?_
  refine lv_iconst (v := (2 : Int32)) hx hb dL_law_763 (by decide) ?_
  refine lv_iadd hx hb dL_law_764 ?_
  refine va_sld hx hb hX hbl hbA hS i2 dL_law_765 ?_
  refine lv_aload_n hx hb dL_law_766 rfl (lv_at hl 3 rfl) ?_
  refine lv_iload_n hx hb dL_law_767 rfl (lv_at hl 0 rfl) ?_
  refine lv_iconst (v := (3 : Int32)) hx hb dL_law_768 (by decide) ?_
  refine lv_iadd hx hb dL_law_769 ?_
  refine va_sld hx hb hX hbl hbA hS i3 dL_law_770 ?_
  refine xl_I (wf := mW b c) (As := [.int (xs (Int32.toNatClampNeg (nI i + (1 : Int32)))), .int (xs (Int32.toNatClampNeg (nI i + (2 : Int32)))), .int (xs (Int32.toNatClampNeg (nI i + (3 : Int32))))]) (rest := [.int r]) S k_X6_sheet q621 q622 q623 ⟨(Nat.le_of_ble_eq_true rfl), (Nat.le_of_ble_eq_true rfl)⟩ ⟨rfl, rfl⟩ (fun A hD => c_X6_sheet l D b c A hD N (xs (Int32.toNatClampNeg (nI i + (1 : Int32)))) (xs (Int32.toNatClampNeg (nI i + (2 : Int32)))) (xs (Int32.toNatClampNeg (nI i + (3 : Int32)))) τ r τ1 h6) (fun _ _ => rfl) hK hP hD hS hA (va_recv hK.1 (va_P_left hP) (rfl : vwCl[4]? = some (RX6, TX6, 27)) (mw0 b c τ)) rfl hl.1 rfl (Nat.le_of_ble_eq_true rfl) dL_law_771 ⟨(Nat.le_of_ble_eq_true rfl), (Nat.le_of_ble_eq_true rfl)⟩ (fun H locs hP hD hS => ?_)
  refine lv_icmp_eq (tgt := 1080) hx hb dL_law_774 (by decide) (fun _ => ?_) (fun c1 => absurd rfl c1)
  exact cont σ1 τ1 H locs ls hR1 hl hP hD hS
set_option maxRecDepth 100000 in
set_option maxHeartbeats 4000000 in
theorem lw_case20 {p : Program} {l : Launch} {e : Env} {s : State} {m : MethodId} {below : List Frame} {meth : Method} {cd : Code} {D : va_G} {a b : Nat → Nat} {c : Nat → ClassId} {bs L : Nat} {xs : Nat → Int32} (C0 : lw_At p s m meth cd bs L xs) (hK : KK D c s) {N : Nat} {R : St → St → Prop} (hsim : S_lose N R) {i : Nat} (hi : i + 6 ≤ L) (hL : L ≤ 3072) (cont : ∀ (σ τ : St) (H : Heap) (locs : List Loc) (ls : Array Slot), R σ τ → lv_has ls 4 [(3, .int (nI i)), (2, .ref (b 0)), (1, .ref (a 0)), (0, .ref bs)] → va_P D vwCl (cW a c σ ++ mW b c τ) H → va_D (fun q : Nat => s.heap.size ≤ q) (cW a c σ ++ mW b c τ) → va_S (fun q : Nat => s.heap.size ≤ q) s.heap H locs → W p l e room_1 s m #[Value.ref bs] below meth cd H locs 42 49418 (lw_Z below #[Value.ref bs] s) (F0 m 1080 ls [])) : ∀ (σ τ : St) (H : Heap) (locs : List Loc) (ls : Array Slot), R σ τ → lv_has ls 4 [(3, .int (nI i)), (2, .ref (b 0)), (1, .ref (a 0)), (0, .ref bs)] → va_P D vwCl (cW a c σ ++ mW b c τ) H → va_D (fun q : Nat => s.heap.size ≤ q) (cW a c σ ++ mW b c τ) → va_S (fun q : Nat => s.heap.size ≤ q) s.heap H locs → W p l e room_1 s m #[Value.ref bs] below meth cd H locs 42 49418 (lw_Z below #[Value.ref bs] s) (F0 m 779 ls []) := by
  intro σ τ H locs ls hRl hl hP hD hS
  obtain ⟨hx, hb, hr, hml, hown, hts, hX, hbl, hlocks, hgv⟩ := id C0
  have ht : ∀ w ∈ gW, w.before #[Value.ref bs] s = true := fun w h => hts w (gW_tbl w h)
  have S : CallFix p m cd code 4 s #[Value.ref bs] gW RL := ⟨hx, hb, hml, hown, ht⟩
  have hA : ∀ q : Nat, s.heap.size ≤ q → (fun q : Nat => s.heap.size ≤ q) q := fun _ h => h
  have hbA : ¬ (fun q : Nat => s.heap.size ≤ q) bs := Nat.not_le.mpr hbl
  have i1 : vp_in (nI i + (1 : Int32)) L := by rw [show nI i + (1 : Int32) = nI (i + 1) from nI_add i 1]; exact vp_in_nI (by omega) (by omega)
  obtain ⟨r, σ1, τ1, h5, h6, hR1⟩ := hsim (xs (Int32.toNatClampNeg (nI i + (1 : Int32)))) σ τ hRl
  refine lv_aload_n hx hb dL_law_779 rfl (lv_at hl 2 rfl) ?_
  refine lv_aload_n hx hb dL_law_780 rfl (lv_at hl 3 rfl) ?_
  refine lv_iload_n hx hb dL_law_781 rfl (lv_at hl 0 rfl) ?_
  refine lv_iconst (v := (1 : Int32)) hx hb dL_law_782 (by decide) ?_
  refine lv_iadd hx hb dL_law_783 ?_
  refine va_sld hx hb hX hbl hbA hS i1 dL_law_784 ?_
  refine xl_I (wf := cW a c) (As := [.int (xs (Int32.toNatClampNeg (nI i + (1 : Int32))))]) (rest := []) S k_X5_lose q625 q626 q627 ⟨(Nat.le_of_ble_eq_true rfl), (Nat.le_of_ble_eq_true rfl)⟩ ⟨rfl, rfl⟩ (fun A hD => c_X5_lose l D a c A hD (xs (Int32.toNatClampNeg (nI i + (1 : Int32)))) σ r σ1 h5) (fun _ _ => rfl) hK hP hD hS hA (va_recv hK.1 (va_P_left hP) (rfl : vwCl[3]? = some (RX5, TX5, 12)) (cw0 a c σ)) rfl hl.1 rfl (Nat.le_of_ble_eq_true rfl) dL_law_785 ⟨(Nat.le_of_ble_eq_true rfl), (Nat.le_of_ble_eq_true rfl)⟩ (fun H locs hP hD hS => ?_)
  refine lv_aload_n hx hb dL_law_788 rfl (lv_at hl 1 rfl) ?_
  refine lv_aload_n hx hb dL_law_789 rfl (lv_at hl 3 rfl) ?_
  refine lv_iload_n hx hb dL_law_790 rfl (lv_at hl 0 rfl) ?_
  refine lv_iconst (v := (1 : Int32)) hx hb dL_law_791 (by decide) ?_
  refine lv_iadd hx hb dL_law_792 ?_
  refine va_sld hx hb hX hbl hbA hS i1 dL_law_793 ?_
  refine xl_I (wf := mW b c) (As := [.int (xs (Int32.toNatClampNeg (nI i + (1 : Int32))))]) (rest := [.int r]) S k_X6_lose q634 q635 q636 ⟨(Nat.le_of_ble_eq_true rfl), (Nat.le_of_ble_eq_true rfl)⟩ ⟨rfl, rfl⟩ (fun A hD => c_X6_lose l D b c A hD (xs (Int32.toNatClampNeg (nI i + (1 : Int32)))) τ r τ1 h6) (fun _ _ => rfl) hK hP hD hS hA (va_recv hK.1 (va_P_left hP) (rfl : vwCl[4]? = some (RX6, TX6, 27)) (mw0 b c τ)) rfl hl.1 rfl (Nat.le_of_ble_eq_true rfl) dL_law_794 ⟨(Nat.le_of_ble_eq_true rfl), (Nat.le_of_ble_eq_true rfl)⟩ (fun H locs hP hD hS => ?_)
  refine lv_icmp_eq (tgt := 1080) hx hb dL_law_797 (by decide) (fun _ => ?_) (fun c1 => absurd rfl c1)
  exact cont σ1 τ1 H locs ls hR1 hl hP hD hS
set_option maxRecDepth 100000 in
set_option maxHeartbeats 4000000 in
theorem lw_case21 {p : Program} {l : Launch} {e : Env} {s : State} {m : MethodId} {below : List Frame} {meth : Method} {cd : Code} {D : va_G} {a b : Nat → Nat} {c : Nat → ClassId} {bs L : Nat} {xs : Nat → Int32} (C0 : lw_At p s m meth cd bs L xs) (hK : KK D c s) {N : Nat} {R : St → St → Prop} (hsim : S_put N R) {i : Nat} (hi : i + 6 ≤ L) (hL : L ≤ 3072) (cont : ∀ (σ τ : St) (H : Heap) (locs : List Loc) (ls : Array Slot), R σ τ → lv_has ls 4 [(3, .int (nI i)), (2, .ref (b 0)), (1, .ref (a 0)), (0, .ref bs)] → va_P D vwCl (cW a c σ ++ mW b c τ) H → va_D (fun q : Nat => s.heap.size ≤ q) (cW a c σ ++ mW b c τ) → va_S (fun q : Nat => s.heap.size ≤ q) s.heap H locs → W p l e room_1 s m #[Value.ref bs] below meth cd H locs 42 49418 (lw_Z below #[Value.ref bs] s) (F0 m 1080 ls [])) : ∀ (σ τ : St) (H : Heap) (locs : List Loc) (ls : Array Slot), R σ τ → lv_has ls 4 [(3, .int (nI i)), (2, .ref (b 0)), (1, .ref (a 0)), (0, .ref bs)] → va_P D vwCl (cW a c σ ++ mW b c τ) H → va_D (fun q : Nat => s.heap.size ≤ q) (cW a c σ ++ mW b c τ) → va_S (fun q : Nat => s.heap.size ≤ q) s.heap H locs → W p l e room_1 s m #[Value.ref bs] below meth cd H locs 42 49418 (lw_Z below #[Value.ref bs] s) (F0 m 802 ls []) := by
  intro σ τ H locs ls hRl hl hP hD hS
  obtain ⟨hx, hb, hr, hml, hown, hts, hX, hbl, hlocks, hgv⟩ := id C0
  have ht : ∀ w ∈ gW, w.before #[Value.ref bs] s = true := fun w h => hts w (gW_tbl w h)
  have S : CallFix p m cd code 4 s #[Value.ref bs] gW RL := ⟨hx, hb, hml, hown, ht⟩
  have hA : ∀ q : Nat, s.heap.size ≤ q → (fun q : Nat => s.heap.size ≤ q) q := fun _ h => h
  have hbA : ¬ (fun q : Nat => s.heap.size ≤ q) bs := Nat.not_le.mpr hbl
  have i1 : vp_in (nI i + (1 : Int32)) L := by rw [show nI i + (1 : Int32) = nI (i + 1) from nI_add i 1]; exact vp_in_nI (by omega) (by omega)
  have i2 : vp_in (nI i + (2 : Int32)) L := by rw [show nI i + (2 : Int32) = nI (i + 2) from nI_add i 2]; exact vp_in_nI (by omega) (by omega)
  have i3 : vp_in (nI i + (3 : Int32)) L := by rw [show nI i + (3 : Int32) = nI (i + 3) from nI_add i 3]; exact vp_in_nI (by omega) (by omega)
  obtain ⟨r, σ1, τ1, h5, h6, hR1⟩ := hsim (xs (Int32.toNatClampNeg (nI i + (1 : Int32)))) (xs (Int32.toNatClampNeg (nI i + (2 : Int32)))) (xs (Int32.toNatClampNeg (nI i + (3 : Int32)))) σ τ hRl
  refine lv_aload_n hx hb dL_law_802 rfl (lv_at hl 2 rfl) ?_
  refine lv_aload_n hx hb dL_law_803 rfl (lv_at hl 3 rfl) ?_
  refine lv_iload_n hx hb dL_law_804 rfl (lv_at hl 0 rfl) ?_
  refine lv_iconst (v := (1 : Int32)) hx hb dL_law_805 (by decide) ?_
  refine lv_iadd hx hb dL_law_806 ?_
  refine va_sld hx hb hX hbl hbA hS i1 dL_law_807 ?_
  refine lv_aload_n hx hb dL_law_808 rfl (lv_at hl 3 rfl) ?_
  refine lv_iload_n hx hb dL_law_809 rfl (lv_at hl 0 rfl) ?_
  refine lv_iconst (v := (2 : Int32)) hx hb dL_law_810 (by decide) ?_
  refine lv_iadd hx hb dL_law_811 ?_
  refine va_sld hx hb hX hbl hbA hS i2 dL_law_812 ?_
  refine lv_aload_n hx hb dL_law_813 rfl (lv_at hl 3 rfl) ?_
  refine lv_iload_n hx hb dL_law_814 rfl (lv_at hl 0 rfl) ?_
  refine lv_iconst (v := (3 : Int32)) hx hb dL_law_815 (by decide) ?_
  refine lv_iadd hx hb dL_law_816 ?_
  refine va_sld hx hb hX hbl hbA hS i3 dL_law_817 ?_
  refine xl_I (wf := cW a c) (As := [.int (xs (Int32.toNatClampNeg (nI i + (1 : Int32)))), .int (xs (Int32.toNatClampNeg (nI i + (2 : Int32)))), .int (xs (Int32.toNatClampNeg (nI i + (3 : Int32))))]) (rest := []) S k_X5_put q638 q639 q640 ⟨(Nat.le_of_ble_eq_true rfl), (Nat.le_of_ble_eq_true rfl)⟩ ⟨rfl, rfl⟩ (fun A hD => c_X5_put l D a c A hD (xs (Int32.toNatClampNeg (nI i + (1 : Int32)))) (xs (Int32.toNatClampNeg (nI i + (2 : Int32)))) (xs (Int32.toNatClampNeg (nI i + (3 : Int32)))) σ r σ1 h5) (fun _ _ => rfl) hK hP hD hS hA (va_recv hK.1 (va_P_left hP) (rfl : vwCl[3]? = some (RX5, TX5, 12)) (cw0 a c σ)) rfl hl.1 rfl (Nat.le_of_ble_eq_true rfl) dL_law_818 ⟨(Nat.le_of_ble_eq_true rfl), (Nat.le_of_ble_eq_true rfl)⟩ (fun H locs hP hD hS => ?_)
  refine lv_aload_n hx hb dL_law_821 rfl (lv_at hl 1 rfl) ?_
  refine lv_aload_n hx hb dL_law_822 rfl (lv_at hl 3 rfl) ?_
  refine lv_iload_n hx hb dL_law_823 rfl (lv_at hl 0 rfl) ?_
  refine lv_iconst (v := (1 : Int32)) hx hb dL_law_824 (by decide) ?_
  refine lv_iadd hx hb dL_law_825 ?_
  refine va_sld hx hb hX hbl hbA hS i1 dL_law_826 ?_
  refine lv_aload_n hx hb dL_law_827 rfl (lv_at hl 3 rfl) ?_
  refine lv_iload_n hx hb dL_law_828 rfl (lv_at hl 0 rfl) ?_
  refine lv_iconst (v := (2 : Int32)) hx hb dL_law_829 (by decide) ?_
  refine lv_iadd hx hb dL_law_830 ?_
  refine va_sld hx hb hX hbl hbA hS i2 dL_law_831 ?_
  refine lv_aload_n hx hb dL_law_832 rfl (lv_at hl 3 rfl) ?_
  refine lv_iload_n hx hb dL_law_833 rfl (lv_at hl 0 rfl) ?_
  refine lv_iconst (v := (3 : Int32)) hx hb dL_law_834 (by decide) ?_
  refine lv_iadd hx hb dL_law_835 ?_
  refine va_sld hx hb hX hbl hbA hS i3 dL_law_836 ?_
  refine xl_I (wf := mW b c) (As := [.int (xs (Int32.toNatClampNeg (nI i + (1 : Int32)))), .int (xs (Int32.toNatClampNeg (nI i + (2 : Int32)))), .int (xs (Int32.toNatClampNeg (nI i + (3 : Int32))))]) (rest := [.int r]) S k_X6_put q651 q652 q653 ⟨(Nat.le_of_ble_eq_true rfl), (Nat.le_of_ble_eq_true rfl)⟩ ⟨rfl, rfl⟩ (fun A hD => c_X6_put l D b c A hD (xs (Int32.toNatClampNeg (nI i + (1 : Int32)))) (xs (Int32.toNatClampNeg (nI i + (2 : Int32)))) (xs (Int32.toNatClampNeg (nI i + (3 : Int32)))) τ r τ1 h6) (fun _ _ => rfl) hK hP hD hS hA (va_recv hK.1 (va_P_left hP) (rfl : vwCl[4]? = some (RX6, TX6, 27)) (mw0 b c τ)) rfl hl.1 rfl (Nat.le_of_ble_eq_true rfl) dL_law_837 ⟨(Nat.le_of_ble_eq_true rfl), (Nat.le_of_ble_eq_true rfl)⟩ (fun H locs hP hD hS => ?_)
  refine lv_icmp_eq (tgt := 1080) hx hb dL_law_840 (by decide) (fun _ => ?_) (fun c1 => absurd rfl c1)
  exact cont σ1 τ1 H locs ls hR1 hl hP hD hS
set_option maxRecDepth 100000 in
set_option maxHeartbeats 4000000 in
theorem lw_case22 {p : Program} {l : Launch} {e : Env} {s : State} {m : MethodId} {below : List Frame} {meth : Method} {cd : Code} {D : va_G} {a b : Nat → Nat} {c : Nat → ClassId} {bs L : Nat} {xs : Nat → Int32} (C0 : lw_At p s m meth cd bs L xs) (hK : KK D c s) {N : Nat} {R : St → St → Prop} (hsim : S_cell N R) {i : Nat} (hi : i + 6 ≤ L) (hL : L ≤ 3072) (cont : ∀ (σ τ : St) (H : Heap) (locs : List Loc) (ls : Array Slot), R σ τ → lv_has ls 4 [(3, .int (nI i)), (2, .ref (b 0)), (1, .ref (a 0)), (0, .ref bs)] → va_P D vwCl (cW a c σ ++ mW b c τ) H → va_D (fun q : Nat => s.heap.size ≤ q) (cW a c σ ++ mW b c τ) → va_S (fun q : Nat => s.heap.size ≤ q) s.heap H locs → W p l e room_1 s m #[Value.ref bs] below meth cd H locs 42 49418 (lw_Z below #[Value.ref bs] s) (F0 m 1080 ls [])) : ∀ (σ τ : St) (H : Heap) (locs : List Loc) (ls : Array Slot), R σ τ → lv_has ls 4 [(3, .int (nI i)), (2, .ref (b 0)), (1, .ref (a 0)), (0, .ref bs)] → va_P D vwCl (cW a c σ ++ mW b c τ) H → va_D (fun q : Nat => s.heap.size ≤ q) (cW a c σ ++ mW b c τ) → va_S (fun q : Nat => s.heap.size ≤ q) s.heap H locs → W p l e room_1 s m #[Value.ref bs] below meth cd H locs 42 49418 (lw_Z below #[Value.ref bs] s) (F0 m 845 ls []) := by
  intro σ τ H locs ls hRl hl hP hD hS
  obtain ⟨hx, hb, hr, hml, hown, hts, hX, hbl, hlocks, hgv⟩ := id C0
  have ht : ∀ w ∈ gW, w.before #[Value.ref bs] s = true := fun w h => hts w (gW_tbl w h)
  have S : CallFix p m cd code 4 s #[Value.ref bs] gW RL := ⟨hx, hb, hml, hown, ht⟩
  have hA : ∀ q : Nat, s.heap.size ≤ q → (fun q : Nat => s.heap.size ≤ q) q := fun _ h => h
  have hbA : ¬ (fun q : Nat => s.heap.size ≤ q) bs := Nat.not_le.mpr hbl
  have i1 : vp_in (nI i + (1 : Int32)) L := by rw [show nI i + (1 : Int32) = nI (i + 1) from nI_add i 1]; exact vp_in_nI (by omega) (by omega)
  have i2 : vp_in (nI i + (2 : Int32)) L := by rw [show nI i + (2 : Int32) = nI (i + 2) from nI_add i 2]; exact vp_in_nI (by omega) (by omega)
  have i3 : vp_in (nI i + (3 : Int32)) L := by rw [show nI i + (3 : Int32) = nI (i + 3) from nI_add i 3]; exact vp_in_nI (by omega) (by omega)
  obtain ⟨r, σ1, τ1, h5, h6, hR1⟩ := hsim (xs (Int32.toNatClampNeg (nI i + (1 : Int32)))) (xs (Int32.toNatClampNeg (nI i + (2 : Int32)))) (xs (Int32.toNatClampNeg (nI i + (3 : Int32)))) σ τ hRl
  refine lv_aload_n hx hb dL_law_845 rfl (lv_at hl 2 rfl) ?_
  refine lv_aload_n hx hb dL_law_846 rfl (lv_at hl 3 rfl) ?_
  refine lv_iload_n hx hb dL_law_847 rfl (lv_at hl 0 rfl) ?_
  refine lv_iconst (v := (1 : Int32)) hx hb dL_law_848 (by decide) ?_
  refine lv_iadd hx hb dL_law_849 ?_
  refine va_sld hx hb hX hbl hbA hS i1 dL_law_850 ?_
  refine lv_aload_n hx hb dL_law_851 rfl (lv_at hl 3 rfl) ?_
  refine lv_iload_n hx hb dL_law_852 rfl (lv_at hl 0 rfl) ?_
  refine lv_iconst (v := (2 : Int32)) hx hb dL_law_853 (by decide) ?_
  refine lv_iadd hx hb dL_law_854 ?_
  refine va_sld hx hb hX hbl hbA hS i2 dL_law_855 ?_
  refine lv_aload_n hx hb dL_law_856 rfl (lv_at hl 3 rfl) ?_
  refine lv_iload_n hx hb dL_law_857 rfl (lv_at hl 0 rfl) ?_
  refine lv_iconst (v := (3 : Int32)) hx hb dL_law_858 (by decide) ?_
  refine lv_iadd hx hb dL_law_859 ?_
  refine va_sld hx hb hX hbl hbA hS i3 dL_law_860 ?_
  refine xl_L (wf := cW a c) (As := [.int (xs (Int32.toNatClampNeg (nI i + (1 : Int32)))), .int (xs (Int32.toNatClampNeg (nI i + (2 : Int32)))), .int (xs (Int32.toNatClampNeg (nI i + (3 : Int32))))]) (rest := []) S k_X5_cell q655 q656 q657 ⟨(Nat.le_of_ble_eq_true rfl), (Nat.le_of_ble_eq_true rfl)⟩ ⟨rfl, rfl⟩ (fun A hD => c_X5_cell l D a c A hD (xs (Int32.toNatClampNeg (nI i + (1 : Int32)))) (xs (Int32.toNatClampNeg (nI i + (2 : Int32)))) (xs (Int32.toNatClampNeg (nI i + (3 : Int32)))) σ r σ1 h5) (fun _ _ => rfl) hK hP hD hS hA (va_recv hK.1 (va_P_left hP) (rfl : vwCl[3]? = some (RX5, TX5, 12)) (cw0 a c σ)) rfl hl.1 rfl (Nat.le_of_ble_eq_true rfl) dL_law_861 ⟨(Nat.le_of_ble_eq_true rfl), (Nat.le_of_ble_eq_true rfl)⟩ (fun H locs hP hD hS => ?_)
  refine lv_aload_n hx hb dL_law_864 rfl (lv_at hl 1 rfl) ?_
  refine lv_aload_n hx hb dL_law_865 rfl (lv_at hl 3 rfl) ?_
  refine lv_iload_n hx hb dL_law_866 rfl (lv_at hl 0 rfl) ?_
  refine lv_iconst (v := (1 : Int32)) hx hb dL_law_867 (by decide) ?_
  refine lv_iadd hx hb dL_law_868 ?_
  refine va_sld hx hb hX hbl hbA hS i1 dL_law_869 ?_
  refine lv_aload_n hx hb dL_law_870 rfl (lv_at hl 3 rfl) ?_
  refine lv_iload_n hx hb dL_law_871 rfl (lv_at hl 0 rfl) ?_
  refine lv_iconst (v := (2 : Int32)) hx hb dL_law_872 (by decide) ?_
  refine lv_iadd hx hb dL_law_873 ?_
  refine va_sld hx hb hX hbl hbA hS i2 dL_law_874 ?_
  refine lv_aload_n hx hb dL_law_875 rfl (lv_at hl 3 rfl) ?_
  refine lv_iload_n hx hb dL_law_876 rfl (lv_at hl 0 rfl) ?_
  refine lv_iconst (v := (3 : Int32)) hx hb dL_law_877 (by decide) ?_
  refine lv_iadd hx hb dL_law_878 ?_
  refine va_sld hx hb hX hbl hbA hS i3 dL_law_879 ?_
  refine xl_L (wf := mW b c) (As := [.int (xs (Int32.toNatClampNeg (nI i + (1 : Int32)))), .int (xs (Int32.toNatClampNeg (nI i + (2 : Int32)))), .int (xs (Int32.toNatClampNeg (nI i + (3 : Int32))))]) (rest := [.long r]) S k_X6_cell q659 q660 q661 ⟨(Nat.le_of_ble_eq_true rfl), (Nat.le_of_ble_eq_true rfl)⟩ ⟨rfl, rfl⟩ (fun A hD => c_X6_cell l D b c A hD (xs (Int32.toNatClampNeg (nI i + (1 : Int32)))) (xs (Int32.toNatClampNeg (nI i + (2 : Int32)))) (xs (Int32.toNatClampNeg (nI i + (3 : Int32)))) τ r τ1 h6) (fun _ _ => rfl) hK hP hD hS hA (va_recv hK.1 (va_P_left hP) (rfl : vwCl[4]? = some (RX6, TX6, 27)) (mw0 b c τ)) rfl hl.1 rfl (Nat.le_of_ble_eq_true rfl) dL_law_880 ⟨(Nat.le_of_ble_eq_true rfl), (Nat.le_of_ble_eq_true rfl)⟩ (fun H locs hP hD hS => ?_)
  refine W.lcmp hx hb dL_law_883 ?_
  refine lv_if_eq (tgt := 1080) hx hb dL_law_884 (by decide) (fun _ => ?_) (fun c1 => absurd (lg_cmp_self r) c1)
  exact cont σ1 τ1 H locs ls hR1 hl hP hD hS
set_option maxRecDepth 100000 in
set_option maxHeartbeats 4000000 in
theorem lw_case23 {p : Program} {l : Launch} {e : Env} {s : State} {m : MethodId} {below : List Frame} {meth : Method} {cd : Code} {D : va_G} {a b : Nat → Nat} {c : Nat → ClassId} {bs L : Nat} {xs : Nat → Int32} (C0 : lw_At p s m meth cd bs L xs) (hK : KK D c s) {N : Nat} {R : St → St → Prop} (hsim : S_copy N R) {i : Nat} (hi : i + 6 ≤ L) (hL : L ≤ 3072) (cont : ∀ (σ τ : St) (H : Heap) (locs : List Loc) (ls : Array Slot), R σ τ → lv_has ls 4 [(3, .int (nI i)), (2, .ref (b 0)), (1, .ref (a 0)), (0, .ref bs)] → va_P D vwCl (cW a c σ ++ mW b c τ) H → va_D (fun q : Nat => s.heap.size ≤ q) (cW a c σ ++ mW b c τ) → va_S (fun q : Nat => s.heap.size ≤ q) s.heap H locs → W p l e room_1 s m #[Value.ref bs] below meth cd H locs 42 49418 (lw_Z below #[Value.ref bs] s) (F0 m 1080 ls [])) : ∀ (σ τ : St) (H : Heap) (locs : List Loc) (ls : Array Slot), R σ τ → lv_has ls 4 [(3, .int (nI i)), (2, .ref (b 0)), (1, .ref (a 0)), (0, .ref bs)] → va_P D vwCl (cW a c σ ++ mW b c τ) H → va_D (fun q : Nat => s.heap.size ≤ q) (cW a c σ ++ mW b c τ) → va_S (fun q : Nat => s.heap.size ≤ q) s.heap H locs → W p l e room_1 s m #[Value.ref bs] below meth cd H locs 42 49418 (lw_Z below #[Value.ref bs] s) (F0 m 889 ls []) := by
  intro σ τ H locs ls hRl hl hP hD hS
  obtain ⟨hx, hb, hr, hml, hown, hts, hX, hbl, hlocks, hgv⟩ := id C0
  have ht : ∀ w ∈ gW, w.before #[Value.ref bs] s = true := fun w h => hts w (gW_tbl w h)
  have S : CallFix p m cd code 4 s #[Value.ref bs] gW RL := ⟨hx, hb, hml, hown, ht⟩
  have hA : ∀ q : Nat, s.heap.size ≤ q → (fun q : Nat => s.heap.size ≤ q) q := fun _ h => h
  have hbA : ¬ (fun q : Nat => s.heap.size ≤ q) bs := Nat.not_le.mpr hbl
  have i1 : vp_in (nI i + (1 : Int32)) L := by rw [show nI i + (1 : Int32) = nI (i + 1) from nI_add i 1]; exact vp_in_nI (by omega) (by omega)
  have i2 : vp_in (nI i + (2 : Int32)) L := by rw [show nI i + (2 : Int32) = nI (i + 2) from nI_add i 2]; exact vp_in_nI (by omega) (by omega)
  have i3 : vp_in (nI i + (3 : Int32)) L := by rw [show nI i + (3 : Int32) = nI (i + 3) from nI_add i 3]; exact vp_in_nI (by omega) (by omega)
  have i4 : vp_in (nI i + (4 : Int32)) L := by rw [show nI i + (4 : Int32) = nI (i + 4) from nI_add i 4]; exact vp_in_nI (by omega) (by omega)
  have i5 : vp_in (nI i + (5 : Int32)) L := by rw [show nI i + (5 : Int32) = nI (i + 5) from nI_add i 5]; exact vp_in_nI (by omega) (by omega)
  obtain ⟨r, σ1, τ1, h5, h6, hR1⟩ := hsim (xs (Int32.toNatClampNeg (nI i + (1 : Int32)))) (xs (Int32.toNatClampNeg (nI i + (2 : Int32)))) (xs (Int32.toNatClampNeg (nI i + (3 : Int32)))) (xs (Int32.toNatClampNeg (nI i + (4 : Int32)))) (xs (Int32.toNatClampNeg (nI i + (5 : Int32)))) σ τ hRl
  refine lv_aload_n hx hb dL_law_889 rfl (lv_at hl 2 rfl) ?_
  refine lv_aload_n hx hb dL_law_890 rfl (lv_at hl 3 rfl) ?_
  refine lv_iload_n hx hb dL_law_891 rfl (lv_at hl 0 rfl) ?_
  refine lv_iconst (v := (1 : Int32)) hx hb dL_law_892 (by decide) ?_
  refine lv_iadd hx hb dL_law_893 ?_
  refine va_sld hx hb hX hbl hbA hS i1 dL_law_894 ?_
  refine lv_aload_n hx hb dL_law_895 rfl (lv_at hl 3 rfl) ?_
  refine lv_iload_n hx hb dL_law_896 rfl (lv_at hl 0 rfl) ?_
  refine lv_iconst (v := (2 : Int32)) hx hb dL_law_897 (by decide) ?_
  refine lv_iadd hx hb dL_law_898 ?_
  refine va_sld hx hb hX hbl hbA hS i2 dL_law_899 ?_
  refine lv_aload_n hx hb dL_law_900 rfl (lv_at hl 3 rfl) ?_
  refine lv_iload_n hx hb dL_law_901 rfl (lv_at hl 0 rfl) ?_
  refine lv_iconst (v := (3 : Int32)) hx hb dL_law_902 (by decide) ?_
  refine lv_iadd hx hb dL_law_903 ?_
  refine va_sld hx hb hX hbl hbA hS i3 dL_law_904 ?_
  refine lv_aload_n hx hb dL_law_905 rfl (lv_at hl 3 rfl) ?_
  refine lv_iload_n hx hb dL_law_906 rfl (lv_at hl 0 rfl) ?_
  refine lv_iconst (v := (4 : Int32)) hx hb dL_law_907 (by decide) ?_
  refine lv_iadd hx hb dL_law_908 ?_
  refine va_sld hx hb hX hbl hbA hS i4 dL_law_909 ?_
  refine lv_aload_n hx hb dL_law_910 rfl (lv_at hl 3 rfl) ?_
  refine lv_iload_n hx hb dL_law_911 rfl (lv_at hl 0 rfl) ?_
  refine lv_iconst (v := (5 : Int32)) hx hb dL_law_912 (by decide) ?_
  refine lv_iadd hx hb dL_law_913 ?_
  refine va_sld hx hb hX hbl hbA hS i5 dL_law_914 ?_
  refine xl_I (wf := cW a c) (As := [.int (xs (Int32.toNatClampNeg (nI i + (1 : Int32)))), .int (xs (Int32.toNatClampNeg (nI i + (2 : Int32)))), .int (xs (Int32.toNatClampNeg (nI i + (3 : Int32)))), .int (xs (Int32.toNatClampNeg (nI i + (4 : Int32)))), .int (xs (Int32.toNatClampNeg (nI i + (5 : Int32))))]) (rest := []) S k_X5_copy q667 q668 q669 ⟨(Nat.le_of_ble_eq_true rfl), (Nat.le_of_ble_eq_true rfl)⟩ ⟨rfl, rfl⟩ (fun A hD => c_X5_copy l D a c A hD (xs (Int32.toNatClampNeg (nI i + (1 : Int32)))) (xs (Int32.toNatClampNeg (nI i + (2 : Int32)))) (xs (Int32.toNatClampNeg (nI i + (3 : Int32)))) (xs (Int32.toNatClampNeg (nI i + (4 : Int32)))) (xs (Int32.toNatClampNeg (nI i + (5 : Int32)))) σ r σ1 h5) (fun _ _ => rfl) hK hP hD hS hA (va_recv hK.1 (va_P_left hP) (rfl : vwCl[3]? = some (RX5, TX5, 12)) (cw0 a c σ)) rfl hl.1 rfl (Nat.le_of_ble_eq_true rfl) dL_law_915 ⟨(Nat.le_of_ble_eq_true rfl), (Nat.le_of_ble_eq_true rfl)⟩ (fun H locs hP hD hS => ?_)
  refine lv_aload_n hx hb dL_law_918 rfl (lv_at hl 1 rfl) ?_
  refine lv_aload_n hx hb dL_law_919 rfl (lv_at hl 3 rfl) ?_
  refine lv_iload_n hx hb dL_law_920 rfl (lv_at hl 0 rfl) ?_
  refine lv_iconst (v := (1 : Int32)) hx hb dL_law_921 (by decide) ?_
  refine lv_iadd hx hb dL_law_922 ?_
  refine va_sld hx hb hX hbl hbA hS i1 dL_law_923 ?_
  refine lv_aload_n hx hb dL_law_924 rfl (lv_at hl 3 rfl) ?_
  refine lv_iload_n hx hb dL_law_925 rfl (lv_at hl 0 rfl) ?_
  refine lv_iconst (v := (2 : Int32)) hx hb dL_law_926 (by decide) ?_
  refine lv_iadd hx hb dL_law_927 ?_
  refine va_sld hx hb hX hbl hbA hS i2 dL_law_928 ?_
  refine lv_aload_n hx hb dL_law_929 rfl (lv_at hl 3 rfl) ?_
  refine lv_iload_n hx hb dL_law_930 rfl (lv_at hl 0 rfl) ?_
  refine lv_iconst (v := (3 : Int32)) hx hb dL_law_931 (by decide) ?_
  refine lv_iadd hx hb dL_law_932 ?_
  refine va_sld hx hb hX hbl hbA hS i3 dL_law_933 ?_
  refine lv_aload_n hx hb dL_law_934 rfl (lv_at hl 3 rfl) ?_
  refine lv_iload_n hx hb dL_law_935 rfl (lv_at hl 0 rfl) ?_
  refine lv_iconst (v := (4 : Int32)) hx hb dL_law_936 (by decide) ?_
  refine lv_iadd hx hb dL_law_937 ?_
  refine va_sld hx hb hX hbl hbA hS i4 dL_law_938 ?_
  refine lv_aload_n hx hb dL_law_939 rfl (lv_at hl 3 rfl) ?_
  refine lv_iload_n hx hb dL_law_940 rfl (lv_at hl 0 rfl) ?_
  refine lv_iconst (v := (5 : Int32)) hx hb dL_law_941 (by decide) ?_
  refine lv_iadd hx hb dL_law_942 ?_
  refine va_sld hx hb hX hbl hbA hS i5 dL_law_943 ?_
  refine xl_I (wf := mW b c) (As := [.int (xs (Int32.toNatClampNeg (nI i + (1 : Int32)))), .int (xs (Int32.toNatClampNeg (nI i + (2 : Int32)))), .int (xs (Int32.toNatClampNeg (nI i + (3 : Int32)))), .int (xs (Int32.toNatClampNeg (nI i + (4 : Int32)))), .int (xs (Int32.toNatClampNeg (nI i + (5 : Int32))))]) (rest := [.int r]) S k_X6_copy q683 q684 q685 ⟨(Nat.le_of_ble_eq_true rfl), (Nat.le_of_ble_eq_true rfl)⟩ ⟨rfl, rfl⟩ (fun A hD => c_X6_copy l D b c A hD N (xs (Int32.toNatClampNeg (nI i + (1 : Int32)))) (xs (Int32.toNatClampNeg (nI i + (2 : Int32)))) (xs (Int32.toNatClampNeg (nI i + (3 : Int32)))) (xs (Int32.toNatClampNeg (nI i + (4 : Int32)))) (xs (Int32.toNatClampNeg (nI i + (5 : Int32)))) τ r τ1 h6) (fun _ _ => rfl) hK hP hD hS hA (va_recv hK.1 (va_P_left hP) (rfl : vwCl[4]? = some (RX6, TX6, 27)) (mw0 b c τ)) rfl hl.1 rfl (Nat.le_of_ble_eq_true rfl) dL_law_944 ⟨(Nat.le_of_ble_eq_true rfl), (Nat.le_of_ble_eq_true rfl)⟩ (fun H locs hP hD hS => ?_)
  refine lv_icmp_eq (tgt := 1080) hx hb dL_law_947 (by decide) (fun _ => ?_) (fun c1 => absurd rfl c1)
  exact cont σ1 τ1 H locs ls hR1 hl hP hD hS
set_option maxRecDepth 100000 in
set_option maxHeartbeats 4000000 in
theorem lw_case24 {p : Program} {l : Launch} {e : Env} {s : State} {m : MethodId} {below : List Frame} {meth : Method} {cd : Code} {D : va_G} {a b : Nat → Nat} {c : Nat → ClassId} {bs L : Nat} {xs : Nat → Int32} (C0 : lw_At p s m meth cd bs L xs) (hK : KK D c s) {N : Nat} {R : St → St → Prop} (hsim : S_tell N R) {i : Nat} (hi : i + 6 ≤ L) (hL : L ≤ 3072) (cont : ∀ (σ τ : St) (H : Heap) (locs : List Loc) (ls : Array Slot), R σ τ → lv_has ls 4 [(3, .int (nI i)), (2, .ref (b 0)), (1, .ref (a 0)), (0, .ref bs)] → va_P D vwCl (cW a c σ ++ mW b c τ) H → va_D (fun q : Nat => s.heap.size ≤ q) (cW a c σ ++ mW b c τ) → va_S (fun q : Nat => s.heap.size ≤ q) s.heap H locs → W p l e room_1 s m #[Value.ref bs] below meth cd H locs 42 49418 (lw_Z below #[Value.ref bs] s) (F0 m 1080 ls [])) : ∀ (σ τ : St) (H : Heap) (locs : List Loc) (ls : Array Slot), R σ τ → lv_has ls 4 [(3, .int (nI i)), (2, .ref (b 0)), (1, .ref (a 0)), (0, .ref bs)] → va_P D vwCl (cW a c σ ++ mW b c τ) H → va_D (fun q : Nat => s.heap.size ≤ q) (cW a c σ ++ mW b c τ) → va_S (fun q : Nat => s.heap.size ≤ q) s.heap H locs → W p l e room_1 s m #[Value.ref bs] below meth cd H locs 42 49418 (lw_Z below #[Value.ref bs] s) (F0 m 952 ls []) := by
  intro σ τ H locs ls hRl hl hP hD hS
  obtain ⟨hx, hb, hr, hml, hown, hts, hX, hbl, hlocks, hgv⟩ := id C0
  have ht : ∀ w ∈ gW, w.before #[Value.ref bs] s = true := fun w h => hts w (gW_tbl w h)
  have S : CallFix p m cd code 4 s #[Value.ref bs] gW RL := ⟨hx, hb, hml, hown, ht⟩
  have hA : ∀ q : Nat, s.heap.size ≤ q → (fun q : Nat => s.heap.size ≤ q) q := fun _ h => h
  have hbA : ¬ (fun q : Nat => s.heap.size ≤ q) bs := Nat.not_le.mpr hbl
  have i1 : vp_in (nI i + (1 : Int32)) L := by rw [show nI i + (1 : Int32) = nI (i + 1) from nI_add i 1]; exact vp_in_nI (by omega) (by omega)
  obtain ⟨r, σ1, τ1, h5, h6, hR1⟩ := hsim (xs (Int32.toNatClampNeg (nI i + (1 : Int32)))) σ τ hRl
  refine lv_aload_n hx hb dL_law_952 rfl (lv_at hl 2 rfl) ?_
  refine lv_aload_n hx hb dL_law_953 rfl (lv_at hl 3 rfl) ?_
  refine lv_iload_n hx hb dL_law_954 rfl (lv_at hl 0 rfl) ?_
  refine lv_iconst (v := (1 : Int32)) hx hb dL_law_955 (by decide) ?_
  refine lv_iadd hx hb dL_law_956 ?_
  refine va_sld hx hb hX hbl hbA hS i1 dL_law_957 ?_
  refine xl_I (wf := cW a c) (As := [.int (xs (Int32.toNatClampNeg (nI i + (1 : Int32))))]) (rest := []) S k_X5_tell q687 q688 q689 ⟨(Nat.le_of_ble_eq_true rfl), (Nat.le_of_ble_eq_true rfl)⟩ ⟨rfl, rfl⟩ (fun A hD => c_X5_tell l D a c A hD (xs (Int32.toNatClampNeg (nI i + (1 : Int32)))) σ r σ1 h5) (fun _ _ => rfl) hK hP hD hS hA (va_recv hK.1 (va_P_left hP) (rfl : vwCl[3]? = some (RX5, TX5, 12)) (cw0 a c σ)) rfl hl.1 rfl (Nat.le_of_ble_eq_true rfl) dL_law_958 ⟨(Nat.le_of_ble_eq_true rfl), (Nat.le_of_ble_eq_true rfl)⟩ (fun H locs hP hD hS => ?_)
  refine lv_aload_n hx hb dL_law_961 rfl (lv_at hl 1 rfl) ?_
  refine lv_aload_n hx hb dL_law_962 rfl (lv_at hl 3 rfl) ?_
  refine lv_iload_n hx hb dL_law_963 rfl (lv_at hl 0 rfl) ?_
  refine lv_iconst (v := (1 : Int32)) hx hb dL_law_964 (by decide) ?_
  refine lv_iadd hx hb dL_law_965 ?_
  refine va_sld hx hb hX hbl hbA hS i1 dL_law_966 ?_
  refine xl_I (wf := mW b c) (As := [.int (xs (Int32.toNatClampNeg (nI i + (1 : Int32))))]) (rest := [.int r]) S k_X6_tell q708 q709 q710 ⟨(Nat.le_of_ble_eq_true rfl), (Nat.le_of_ble_eq_true rfl)⟩ ⟨rfl, rfl⟩ (fun A hD => c_X6_tell l D b c A hD (xs (Int32.toNatClampNeg (nI i + (1 : Int32)))) τ r τ1 h6) (fun _ _ => rfl) hK hP hD hS hA (va_recv hK.1 (va_P_left hP) (rfl : vwCl[4]? = some (RX6, TX6, 27)) (mw0 b c τ)) rfl hl.1 rfl (Nat.le_of_ble_eq_true rfl) dL_law_967 ⟨(Nat.le_of_ble_eq_true rfl), (Nat.le_of_ble_eq_true rfl)⟩ (fun H locs hP hD hS => ?_)
  refine lv_icmp_eq (tgt := 1080) hx hb dL_law_970 (by decide) (fun _ => ?_) (fun c1 => absurd rfl c1)
  exact cont σ1 τ1 H locs ls hR1 hl hP hD hS
set_option maxRecDepth 100000 in
set_option maxHeartbeats 4000000 in
theorem lw_case25 {p : Program} {l : Launch} {e : Env} {s : State} {m : MethodId} {below : List Frame} {meth : Method} {cd : Code} {D : va_G} {a b : Nat → Nat} {c : Nat → ClassId} {bs L : Nat} {xs : Nat → Int32} (C0 : lw_At p s m meth cd bs L xs) (hK : KK D c s) {N : Nat} {R : St → St → Prop} (hsim : S_shake N R) {i : Nat} (hi : i + 6 ≤ L) (hL : L ≤ 3072) (cont : ∀ (σ τ : St) (H : Heap) (locs : List Loc) (ls : Array Slot), R σ τ → lv_has ls 4 [(3, .int (nI i)), (2, .ref (b 0)), (1, .ref (a 0)), (0, .ref bs)] → va_P D vwCl (cW a c σ ++ mW b c τ) H → va_D (fun q : Nat => s.heap.size ≤ q) (cW a c σ ++ mW b c τ) → va_S (fun q : Nat => s.heap.size ≤ q) s.heap H locs → W p l e room_1 s m #[Value.ref bs] below meth cd H locs 42 49418 (lw_Z below #[Value.ref bs] s) (F0 m 1080 ls [])) : ∀ (σ τ : St) (H : Heap) (locs : List Loc) (ls : Array Slot), R σ τ → lv_has ls 4 [(3, .int (nI i)), (2, .ref (b 0)), (1, .ref (a 0)), (0, .ref bs)] → va_P D vwCl (cW a c σ ++ mW b c τ) H → va_D (fun q : Nat => s.heap.size ≤ q) (cW a c σ ++ mW b c τ) → va_S (fun q : Nat => s.heap.size ≤ q) s.heap H locs → W p l e room_1 s m #[Value.ref bs] below meth cd H locs 42 49418 (lw_Z below #[Value.ref bs] s) (F0 m 975 ls []) := by
  intro σ τ H locs ls hRl hl hP hD hS
  obtain ⟨hx, hb, hr, hml, hown, hts, hX, hbl, hlocks, hgv⟩ := id C0
  have ht : ∀ w ∈ gW, w.before #[Value.ref bs] s = true := fun w h => hts w (gW_tbl w h)
  have S : CallFix p m cd code 4 s #[Value.ref bs] gW RL := ⟨hx, hb, hml, hown, ht⟩
  have hA : ∀ q : Nat, s.heap.size ≤ q → (fun q : Nat => s.heap.size ≤ q) q := fun _ h => h
  have hbA : ¬ (fun q : Nat => s.heap.size ≤ q) bs := Nat.not_le.mpr hbl
  have i1 : vp_in (nI i + (1 : Int32)) L := by rw [show nI i + (1 : Int32) = nI (i + 1) from nI_add i 1]; exact vp_in_nI (by omega) (by omega)
  obtain ⟨r, σ1, τ1, h5, h6, hR1⟩ := hsim (xs (Int32.toNatClampNeg (nI i + (1 : Int32)))) σ τ hRl
  refine lv_aload_n hx hb dL_law_975 rfl (lv_at hl 2 rfl) ?_
  refine lv_aload_n hx hb dL_law_976 rfl (lv_at hl 3 rfl) ?_
  refine lv_iload_n hx hb dL_law_977 rfl (lv_at hl 0 rfl) ?_
  refine lv_iconst (v := (1 : Int32)) hx hb dL_law_978 (by decide) ?_
  refine lv_iadd hx hb dL_law_979 ?_
  refine va_sld hx hb hX hbl hbA hS i1 dL_law_980 ?_
  refine xl_I (wf := cW a c) (As := [.int (xs (Int32.toNatClampNeg (nI i + (1 : Int32))))]) (rest := []) S k_X5_shake q717 q718 q719 ⟨(Nat.le_of_ble_eq_true rfl), (Nat.le_of_ble_eq_true rfl)⟩ ⟨rfl, rfl⟩ (fun A hD => c_X5_shake l D a c A hD (xs (Int32.toNatClampNeg (nI i + (1 : Int32)))) σ r σ1 h5) (fun _ _ => rfl) hK hP hD hS hA (va_recv hK.1 (va_P_left hP) (rfl : vwCl[3]? = some (RX5, TX5, 12)) (cw0 a c σ)) rfl hl.1 rfl (Nat.le_of_ble_eq_true rfl) dL_law_981 ⟨(Nat.le_of_ble_eq_true rfl), (Nat.le_of_ble_eq_true rfl)⟩ (fun H locs hP hD hS => ?_)
  refine lv_aload_n hx hb dL_law_984 rfl (lv_at hl 1 rfl) ?_
  refine lv_aload_n hx hb dL_law_985 rfl (lv_at hl 3 rfl) ?_
  refine lv_iload_n hx hb dL_law_986 rfl (lv_at hl 0 rfl) ?_
  refine lv_iconst (v := (1 : Int32)) hx hb dL_law_987 (by decide) ?_
  refine lv_iadd hx hb dL_law_988 ?_
  refine va_sld hx hb hX hbl hbA hS i1 dL_law_989 ?_
  refine xl_I (wf := mW b c) (As := [.int (xs (Int32.toNatClampNeg (nI i + (1 : Int32))))]) (rest := [.int r]) S k_X6_shake q721 q722 q723 ⟨(Nat.le_of_ble_eq_true rfl), (Nat.le_of_ble_eq_true rfl)⟩ ⟨rfl, rfl⟩ (fun A hD => c_X6_shake l D b c A hD (xs (Int32.toNatClampNeg (nI i + (1 : Int32)))) τ r τ1 h6) (fun _ _ => rfl) hK hP hD hS hA (va_recv hK.1 (va_P_left hP) (rfl : vwCl[4]? = some (RX6, TX6, 27)) (mw0 b c τ)) rfl hl.1 rfl (Nat.le_of_ble_eq_true rfl) dL_law_990 ⟨(Nat.le_of_ble_eq_true rfl), (Nat.le_of_ble_eq_true rfl)⟩ (fun H locs hP hD hS => ?_)
  refine lv_icmp_eq (tgt := 1080) hx hb dL_law_993 (by decide) (fun _ => ?_) (fun c1 => absurd rfl c1)
  exact cont σ1 τ1 H locs ls hR1 hl hP hD hS
set_option maxRecDepth 100000 in
set_option maxHeartbeats 4000000 in
theorem lw_case26 {p : Program} {l : Launch} {e : Env} {s : State} {m : MethodId} {below : List Frame} {meth : Method} {cd : Code} {D : va_G} {a b : Nat → Nat} {c : Nat → ClassId} {bs L : Nat} {xs : Nat → Int32} (C0 : lw_At p s m meth cd bs L xs) (hK : KK D c s) {N : Nat} {R : St → St → Prop} (hsim : S_as N R) {i : Nat} (hi : i + 6 ≤ L) (hL : L ≤ 3072) (cont : ∀ (σ τ : St) (H : Heap) (locs : List Loc) (ls : Array Slot), R σ τ → lv_has ls 4 [(3, .int (nI i)), (2, .ref (b 0)), (1, .ref (a 0)), (0, .ref bs)] → va_P D vwCl (cW a c σ ++ mW b c τ) H → va_D (fun q : Nat => s.heap.size ≤ q) (cW a c σ ++ mW b c τ) → va_S (fun q : Nat => s.heap.size ≤ q) s.heap H locs → W p l e room_1 s m #[Value.ref bs] below meth cd H locs 42 49418 (lw_Z below #[Value.ref bs] s) (F0 m 1080 ls [])) : ∀ (σ τ : St) (H : Heap) (locs : List Loc) (ls : Array Slot), R σ τ → lv_has ls 4 [(3, .int (nI i)), (2, .ref (b 0)), (1, .ref (a 0)), (0, .ref bs)] → va_P D vwCl (cW a c σ ++ mW b c τ) H → va_D (fun q : Nat => s.heap.size ≤ q) (cW a c σ ++ mW b c τ) → va_S (fun q : Nat => s.heap.size ≤ q) s.heap H locs → W p l e room_1 s m #[Value.ref bs] below meth cd H locs 42 49418 (lw_Z below #[Value.ref bs] s) (F0 m 998 ls []) := by
  intro σ τ H locs ls hRl hl hP hD hS
  obtain ⟨hx, hb, hr, hml, hown, hts, hX, hbl, hlocks, hgv⟩ := id C0
  have ht : ∀ w ∈ gW, w.before #[Value.ref bs] s = true := fun w h => hts w (gW_tbl w h)
  have S : CallFix p m cd code 4 s #[Value.ref bs] gW RL := ⟨hx, hb, hml, hown, ht⟩
  have hA : ∀ q : Nat, s.heap.size ≤ q → (fun q : Nat => s.heap.size ≤ q) q := fun _ h => h
  have hbA : ¬ (fun q : Nat => s.heap.size ≤ q) bs := Nat.not_le.mpr hbl
  have i1 : vp_in (nI i + (1 : Int32)) L := by rw [show nI i + (1 : Int32) = nI (i + 1) from nI_add i 1]; exact vp_in_nI (by omega) (by omega)
  have i2 : vp_in (nI i + (2 : Int32)) L := by rw [show nI i + (2 : Int32) = nI (i + 2) from nI_add i 2]; exact vp_in_nI (by omega) (by omega)
  obtain ⟨r, σ1, τ1, h5, h6, hR1⟩ := hsim (xs (Int32.toNatClampNeg (nI i + (1 : Int32)))) (xs (Int32.toNatClampNeg (nI i + (2 : Int32)))) σ τ hRl
  refine lv_aload_n hx hb dL_law_998 rfl (lv_at hl 2 rfl) ?_
  refine lv_aload_n hx hb dL_law_999 rfl (lv_at hl 3 rfl) ?_
  refine lv_iload_n hx hb dL_law_1000 rfl (lv_at hl 0 rfl) ?_
  refine lv_iconst (v := (1 : Int32)) hx hb dL_law_1001 (by decide) ?_
  refine lv_iadd hx hb dL_law_1002 ?_
  refine va_sld hx hb hX hbl hbA hS i1 dL_law_1003 ?_
  refine lv_aload_n hx hb dL_law_1004 rfl (lv_at hl 3 rfl) ?_
  refine lv_iload_n hx hb dL_law_1005 rfl (lv_at hl 0 rfl) ?_
  refine lv_iconst (v := (2 : Int32)) hx hb dL_law_1006 (by decide) ?_
  refine lv_iadd hx hb dL_law_1007 ?_
  refine va_sld hx hb hX hbl hbA hS i2 dL_law_1008 ?_
  refine xl_I (wf := cW a c) (As := [.int (xs (Int32.toNatClampNeg (nI i + (1 : Int32)))), .int (xs (Int32.toNatClampNeg (nI i + (2 : Int32))))]) (rest := []) S k_X5_as q725 q726 q727 ⟨(Nat.le_of_ble_eq_true rfl), (Nat.le_of_ble_eq_true rfl)⟩ ⟨rfl, rfl⟩ (fun A hD => c_X5_as l D a c A hD (xs (Int32.toNatClampNeg (nI i + (1 : Int32)))) (xs (Int32.toNatClampNeg (nI i + (2 : Int32)))) σ r σ1 h5) (fun _ _ => rfl) hK hP hD hS hA (va_recv hK.1 (va_P_left hP) (rfl : vwCl[3]? = some (RX5, TX5, 12)) (cw0 a c σ)) rfl hl.1 rfl (Nat.le_of_ble_eq_true rfl) dL_law_1009 ⟨(Nat.le_of_ble_eq_true rfl), (Nat.le_of_ble_eq_true rfl)⟩ (fun H locs hP hD hS => ?_)
  refine lv_aload_n hx hb dL_law_1012 rfl (lv_at hl 1 rfl) ?_
  refine lv_aload_n hx hb dL_law_1013 rfl (lv_at hl 3 rfl) ?_
  refine lv_iload_n hx hb dL_law_1014 rfl (lv_at hl 0 rfl) ?_
  refine lv_iconst (v := (1 : Int32)) hx hb dL_law_1015 (by decide) ?_
  refine lv_iadd hx hb dL_law_1016 ?_
  refine va_sld hx hb hX hbl hbA hS i1 dL_law_1017 ?_
  refine lv_aload_n hx hb dL_law_1018 rfl (lv_at hl 3 rfl) ?_
  refine lv_iload_n hx hb dL_law_1019 rfl (lv_at hl 0 rfl) ?_
  refine lv_iconst (v := (2 : Int32)) hx hb dL_law_1020 (by decide) ?_
  refine lv_iadd hx hb dL_law_1021 ?_
  refine va_sld hx hb hX hbl hbA hS i2 dL_law_1022 ?_
  refine xl_I (wf := mW b c) (As := [.int (xs (Int32.toNatClampNeg (nI i + (1 : Int32)))), .int (xs (Int32.toNatClampNeg (nI i + (2 : Int32))))]) (rest := [.int r]) S k_X6_as q729 q730 q731 ⟨(Nat.le_of_ble_eq_true rfl), (Nat.le_of_ble_eq_true rfl)⟩ ⟨rfl, rfl⟩ (fun A hD => c_X6_as l D b c A hD (xs (Int32.toNatClampNeg (nI i + (1 : Int32)))) (xs (Int32.toNatClampNeg (nI i + (2 : Int32)))) τ r τ1 h6) (fun _ _ => rfl) hK hP hD hS hA (va_recv hK.1 (va_P_left hP) (rfl : vwCl[4]? = some (RX6, TX6, 27)) (mw0 b c τ)) rfl hl.1 rfl (Nat.le_of_ble_eq_true rfl) dL_law_1023 ⟨(Nat.le_of_ble_eq_true rfl), (Nat.le_of_ble_eq_true rfl)⟩ (fun H locs hP hD hS => ?_)
  refine lv_icmp_eq (tgt := 1080) hx hb dL_law_1026 (by decide) (fun _ => ?_) (fun c1 => absurd rfl c1)
  exact cont σ1 τ1 H locs ls hR1 hl hP hD hS
set_option maxRecDepth 100000 in
set_option maxHeartbeats 4000000 in
theorem lw_case27 {p : Program} {l : Launch} {e : Env} {s : State} {m : MethodId} {below : List Frame} {meth : Method} {cd : Code} {D : va_G} {a b : Nat → Nat} {c : Nat → ClassId} {bs L : Nat} {xs : Nat → Int32} (C0 : lw_At p s m meth cd bs L xs) (hK : KK D c s) {N : Nat} {R : St → St → Prop} (hsim : S_trace N R) {i : Nat} (hi : i + 6 ≤ L) (hL : L ≤ 3072) (cont : ∀ (σ τ : St) (H : Heap) (locs : List Loc) (ls : Array Slot), R σ τ → lv_has ls 4 [(3, .int (nI i)), (2, .ref (b 0)), (1, .ref (a 0)), (0, .ref bs)] → va_P D vwCl (cW a c σ ++ mW b c τ) H → va_D (fun q : Nat => s.heap.size ≤ q) (cW a c σ ++ mW b c τ) → va_S (fun q : Nat => s.heap.size ≤ q) s.heap H locs → W p l e room_1 s m #[Value.ref bs] below meth cd H locs 42 49418 (lw_Z below #[Value.ref bs] s) (F0 m 1080 ls [])) : ∀ (σ τ : St) (H : Heap) (locs : List Loc) (ls : Array Slot), R σ τ → lv_has ls 4 [(3, .int (nI i)), (2, .ref (b 0)), (1, .ref (a 0)), (0, .ref bs)] → va_P D vwCl (cW a c σ ++ mW b c τ) H → va_D (fun q : Nat => s.heap.size ≤ q) (cW a c σ ++ mW b c τ) → va_S (fun q : Nat => s.heap.size ≤ q) s.heap H locs → W p l e room_1 s m #[Value.ref bs] below meth cd H locs 42 49418 (lw_Z below #[Value.ref bs] s) (F0 m 1031 ls []) := by
  intro σ τ H locs ls hRl hl hP hD hS
  obtain ⟨hx, hb, hr, hml, hown, hts, hX, hbl, hlocks, hgv⟩ := id C0
  have ht : ∀ w ∈ gW, w.before #[Value.ref bs] s = true := fun w h => hts w (gW_tbl w h)
  have S : CallFix p m cd code 4 s #[Value.ref bs] gW RL := ⟨hx, hb, hml, hown, ht⟩
  have hA : ∀ q : Nat, s.heap.size ≤ q → (fun q : Nat => s.heap.size ≤ q) q := fun _ h => h
  have hbA : ¬ (fun q : Nat => s.heap.size ≤ q) bs := Nat.not_le.mpr hbl
  obtain ⟨r, h5, h6⟩ := hsim σ τ hRl
  refine lv_aload_n hx hb dL_law_1031 rfl (lv_at hl 2 rfl) ?_
  refine xl_I (wf := cW a c) (As := []) (rest := []) S k_X5_trace q733 q734 q735 ⟨(Nat.le_of_ble_eq_true rfl), (Nat.le_of_ble_eq_true rfl)⟩ ⟨rfl, rfl⟩ (fun A hD => c_X5_trace l D a c A hD  σ r h5) (fun _ _ => rfl) hK hP hD hS hA (va_recv hK.1 (va_P_left hP) (rfl : vwCl[3]? = some (RX5, TX5, 12)) (cw0 a c σ)) rfl hl.1 rfl (Nat.le_of_ble_eq_true rfl) dL_law_1032 ⟨(Nat.le_of_ble_eq_true rfl), (Nat.le_of_ble_eq_true rfl)⟩ (fun H locs hP hD hS => ?_)
  refine lv_aload_n hx hb dL_law_1035 rfl (lv_at hl 1 rfl) ?_
  refine xl_I (wf := mW b c) (As := []) (rest := [.int r]) S k_X6_trace q737 q738 q739 ⟨(Nat.le_of_ble_eq_true rfl), (Nat.le_of_ble_eq_true rfl)⟩ ⟨rfl, rfl⟩ (fun A hD => c_X6_trace l D b c A hD  τ r h6) (fun _ _ => rfl) hK hP hD hS hA (va_recv hK.1 (va_P_left hP) (rfl : vwCl[4]? = some (RX6, TX6, 27)) (mw0 b c τ)) rfl hl.1 rfl (Nat.le_of_ble_eq_true rfl) dL_law_1036 ⟨(Nat.le_of_ble_eq_true rfl), (Nat.le_of_ble_eq_true rfl)⟩ (fun H locs hP hD hS => ?_)
  refine lv_icmp_eq (tgt := 1080) hx hb dL_law_1039 (by decide) (fun _ => ?_) (fun c1 => absurd rfl c1)
  exact cont σ τ H locs ls hRl hl hP hD hS
set_option maxRecDepth 100000 in
set_option maxHeartbeats 4000000 in
theorem lw_case28 {p : Program} {l : Launch} {e : Env} {s : State} {m : MethodId} {below : List Frame} {meth : Method} {cd : Code} {D : va_G} {a b : Nat → Nat} {c : Nat → ClassId} {bs L : Nat} {xs : Nat → Int32} (C0 : lw_At p s m meth cd bs L xs) (hK : KK D c s) {N : Nat} {R : St → St → Prop} (hsim : S_fault N R) {i : Nat} (hi : i + 6 ≤ L) (hL : L ≤ 3072) (cont : ∀ (σ τ : St) (H : Heap) (locs : List Loc) (ls : Array Slot), R σ τ → lv_has ls 4 [(3, .int (nI i)), (2, .ref (b 0)), (1, .ref (a 0)), (0, .ref bs)] → va_P D vwCl (cW a c σ ++ mW b c τ) H → va_D (fun q : Nat => s.heap.size ≤ q) (cW a c σ ++ mW b c τ) → va_S (fun q : Nat => s.heap.size ≤ q) s.heap H locs → W p l e room_1 s m #[Value.ref bs] below meth cd H locs 42 49418 (lw_Z below #[Value.ref bs] s) (F0 m 1080 ls [])) : ∀ (σ τ : St) (H : Heap) (locs : List Loc) (ls : Array Slot), R σ τ → lv_has ls 4 [(3, .int (nI i)), (2, .ref (b 0)), (1, .ref (a 0)), (0, .ref bs)] → va_P D vwCl (cW a c σ ++ mW b c τ) H → va_D (fun q : Nat => s.heap.size ≤ q) (cW a c σ ++ mW b c τ) → va_S (fun q : Nat => s.heap.size ≤ q) s.heap H locs → W p l e room_1 s m #[Value.ref bs] below meth cd H locs 42 49418 (lw_Z below #[Value.ref bs] s) (F0 m 1044 ls []) := by
  intro σ τ H locs ls hRl hl hP hD hS
  obtain ⟨hx, hb, hr, hml, hown, hts, hX, hbl, hlocks, hgv⟩ := id C0
  have ht : ∀ w ∈ gW, w.before #[Value.ref bs] s = true := fun w h => hts w (gW_tbl w h)
  have S : CallFix p m cd code 4 s #[Value.ref bs] gW RL := ⟨hx, hb, hml, hown, ht⟩
  have hA : ∀ q : Nat, s.heap.size ≤ q → (fun q : Nat => s.heap.size ≤ q) q := fun _ h => h
  have hbA : ¬ (fun q : Nat => s.heap.size ≤ q) bs := Nat.not_le.mpr hbl
  obtain ⟨r, h5, h6⟩ := hsim σ τ hRl
  refine lv_aload_n hx hb dL_law_1044 rfl (lv_at hl 2 rfl) ?_
  refine xl_I (wf := cW a c) (As := []) (rest := []) S k_X5_fault q741 q742 q743 ⟨(Nat.le_of_ble_eq_true rfl), (Nat.le_of_ble_eq_true rfl)⟩ ⟨rfl, rfl⟩ (fun A hD => c_X5_fault l D a c A hD  σ r h5) (fun _ _ => rfl) hK hP hD hS hA (va_recv hK.1 (va_P_left hP) (rfl : vwCl[3]? = some (RX5, TX5, 12)) (cw0 a c σ)) rfl hl.1 rfl (Nat.le_of_ble_eq_true rfl) dL_law_1045 ⟨(Nat.le_of_ble_eq_true rfl), (Nat.le_of_ble_eq_true rfl)⟩ (fun H locs hP hD hS => ?_)
  refine lv_aload_n hx hb dL_law_1048 rfl (lv_at hl 1 rfl) ?_
  refine xl_I (wf := mW b c) (As := []) (rest := [.int r]) S k_X6_fault q745 q746 q747 ⟨(Nat.le_of_ble_eq_true rfl), (Nat.le_of_ble_eq_true rfl)⟩ ⟨rfl, rfl⟩ (fun A hD => c_X6_fault l D b c A hD  τ r h6) (fun _ _ => rfl) hK hP hD hS hA (va_recv hK.1 (va_P_left hP) (rfl : vwCl[4]? = some (RX6, TX6, 27)) (mw0 b c τ)) rfl hl.1 rfl (Nat.le_of_ble_eq_true rfl) dL_law_1049 ⟨(Nat.le_of_ble_eq_true rfl), (Nat.le_of_ble_eq_true rfl)⟩ (fun H locs hP hD hS => ?_)
  refine lv_icmp_eq (tgt := 1080) hx hb dL_law_1052 (by decide) (fun _ => ?_) (fun c1 => absurd rfl c1)
  exact cont σ τ H locs ls hRl hl hP hD hS
set_option maxRecDepth 100000 in
set_option maxHeartbeats 4000000 in
theorem lw_case29 {p : Program} {l : Launch} {e : Env} {s : State} {m : MethodId} {below : List Frame} {meth : Method} {cd : Code} {D : va_G} {a b : Nat → Nat} {c : Nat → ClassId} {bs L : Nat} {xs : Nat → Int32} (C0 : lw_At p s m meth cd bs L xs) (hK : KK D c s) {N : Nat} {R : St → St → Prop} (hsim : S_many N R) {i : Nat} (hi : i + 6 ≤ L) (hL : L ≤ 3072) (cont : ∀ (σ τ : St) (H : Heap) (locs : List Loc) (ls : Array Slot), R σ τ → lv_has ls 4 [(3, .int (nI i)), (2, .ref (b 0)), (1, .ref (a 0)), (0, .ref bs)] → va_P D vwCl (cW a c σ ++ mW b c τ) H → va_D (fun q : Nat => s.heap.size ≤ q) (cW a c σ ++ mW b c τ) → va_S (fun q : Nat => s.heap.size ≤ q) s.heap H locs → W p l e room_1 s m #[Value.ref bs] below meth cd H locs 42 49418 (lw_Z below #[Value.ref bs] s) (F0 m 1080 ls [])) : ∀ (σ τ : St) (H : Heap) (locs : List Loc) (ls : Array Slot), R σ τ → lv_has ls 4 [(3, .int (nI i)), (2, .ref (b 0)), (1, .ref (a 0)), (0, .ref bs)] → va_P D vwCl (cW a c σ ++ mW b c τ) H → va_D (fun q : Nat => s.heap.size ≤ q) (cW a c σ ++ mW b c τ) → va_S (fun q : Nat => s.heap.size ≤ q) s.heap H locs → W p l e room_1 s m #[Value.ref bs] below meth cd H locs 42 49418 (lw_Z below #[Value.ref bs] s) (F0 m 1057 ls []) := by
  intro σ τ H locs ls hRl hl hP hD hS
  obtain ⟨hx, hb, hr, hml, hown, hts, hX, hbl, hlocks, hgv⟩ := id C0
  have ht : ∀ w ∈ gW, w.before #[Value.ref bs] s = true := fun w h => hts w (gW_tbl w h)
  have S : CallFix p m cd code 4 s #[Value.ref bs] gW RL := ⟨hx, hb, hml, hown, ht⟩
  have hA : ∀ q : Nat, s.heap.size ≤ q → (fun q : Nat => s.heap.size ≤ q) q := fun _ h => h
  have hbA : ¬ (fun q : Nat => s.heap.size ≤ q) bs := Nat.not_le.mpr hbl
  have i1 : vp_in (nI i + (1 : Int32)) L := by rw [show nI i + (1 : Int32) = nI (i + 1) from nI_add i 1]; exact vp_in_nI (by omega) (by omega)
  obtain ⟨r, h5, h6⟩ := hsim (xs (Int32.toNatClampNeg (nI i + (1 : Int32)))) σ τ hRl
  refine lv_aload_n hx hb dL_law_1057 rfl (lv_at hl 2 rfl) ?_
  refine lv_aload_n hx hb dL_law_1058 rfl (lv_at hl 3 rfl) ?_
  refine lv_iload_n hx hb dL_law_1059 rfl (lv_at hl 0 rfl) ?_
  refine lv_iconst (v := (1 : Int32)) hx hb dL_law_1060 (by decide) ?_
  refine lv_iadd hx hb dL_law_1061 ?_
  refine va_sld hx hb hX hbl hbA hS i1 dL_law_1062 ?_
  refine xl_I (wf := cW a c) (As := [.int (xs (Int32.toNatClampNeg (nI i + (1 : Int32))))]) (rest := []) S k_X5_many q749 q750 q751 ⟨(Nat.le_of_ble_eq_true rfl), (Nat.le_of_ble_eq_true rfl)⟩ ⟨rfl, rfl⟩ (fun A hD => c_X5_many l D a c A hD N (xs (Int32.toNatClampNeg (nI i + (1 : Int32)))) σ r h5) (fun _ _ => rfl) hK hP hD hS hA (va_recv hK.1 (va_P_left hP) (rfl : vwCl[3]? = some (RX5, TX5, 12)) (cw0 a c σ)) rfl hl.1 rfl (Nat.le_of_ble_eq_true rfl) dL_law_1063 ⟨(Nat.le_of_ble_eq_true rfl), (Nat.le_of_ble_eq_true rfl)⟩ (fun H locs hP hD hS => ?_)
  refine lv_aload_n hx hb dL_law_1066 rfl (lv_at hl 1 rfl) ?_
  refine lv_aload_n hx hb dL_law_1067 rfl (lv_at hl 3 rfl) ?_
  refine lv_iload_n hx hb dL_law_1068 rfl (lv_at hl 0 rfl) ?_
  refine lv_iconst (v := (1 : Int32)) hx hb dL_law_1069 (by decide) ?_
  refine lv_iadd hx hb dL_law_1070 ?_
  refine va_sld hx hb hX hbl hbA hS i1 dL_law_1071 ?_
  refine xl_I (wf := mW b c) (As := [.int (xs (Int32.toNatClampNeg (nI i + (1 : Int32))))]) (rest := [.int r]) S k_X6_many q753 q754 q755 ⟨(Nat.le_of_ble_eq_true rfl), (Nat.le_of_ble_eq_true rfl)⟩ ⟨rfl, rfl⟩ (fun A hD => c_X6_many l D b c A hD N (xs (Int32.toNatClampNeg (nI i + (1 : Int32)))) τ r h6) (fun _ _ => rfl) hK hP hD hS hA (va_recv hK.1 (va_P_left hP) (rfl : vwCl[4]? = some (RX6, TX6, 27)) (mw0 b c τ)) rfl hl.1 rfl (Nat.le_of_ble_eq_true rfl) dL_law_1072 ⟨(Nat.le_of_ble_eq_true rfl), (Nat.le_of_ble_eq_true rfl)⟩ (fun H locs hP hD hS => ?_)
  refine lv_icmp_eq (tgt := 1080) hx hb dL_law_1075 (by decide) (fun _ => ?_) (fun c1 => absurd rfl c1)
  exact cont σ τ H locs ls hRl hl hP hD hS
