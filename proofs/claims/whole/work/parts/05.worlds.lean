def cW (a : Nat → Nat) (c : Nat → ClassId) (σ : St) : va_W := [
  (a 0, .inr (3, [.ref (a 1), .ref (a 2), .ref (a 3), .ref (a 4), .ref (a 5), .ref (a 6), .int (σ.1 0 0), .int (σ.1 0 1), .int (σ.1 0 2), .int (σ.1 0 3), .int (σ.1 0 4), .int (σ.1 0 5)])),
  (a 1, .inl (c 3, 4, .inr (.inr (.inr (.inr (fun d => some (a (11 + d)))))))),
  (a 2, .inl (c 4, 4, .inr (.inr (.inr (.inr (fun d => some (a (15 + d)))))))),
  (a 3, .inl (c 0, 8, .inl (σ.1 6))),
  (a 4, .inl (c 0, 8, .inl (σ.1 7))),
  (a 5, .inl (c 2, 8, .inl (σ.1 8))),
  (a 6, .inr (1, [.ref (a 7), .ref (a 8), .ref (a 9), .ref (a 10), .int (σ.1 0 6), .int (σ.1 0 7), .int (σ.1 0 8)])),
  (a 7, .inl (c 0, 580, .inl (σ.1 9))),
  (a 8, .inl (c 0, 580, .inl (σ.1 10))),
  (a 9, .inl (c 0, 580, .inl (σ.1 11))),
  (a 10, .inl (c 1, 1024, .inr (.inl σ.2))),
  (a 11, .inr (0, [.int (σ.1 1 0), .int (σ.1 2 0), .int (σ.1 3 0)])),
  (a 12, .inr (0, [.int (σ.1 1 1), .int (σ.1 2 1), .int (σ.1 3 1)])),
  (a 13, .inr (0, [.int (σ.1 1 2), .int (σ.1 2 2), .int (σ.1 3 2)])),
  (a 14, .inr (0, [.int (σ.1 1 3), .int (σ.1 2 3), .int (σ.1 3 3)])),
  (a 15, .inr (2, [.ref (a (19 + 0)), .int (σ.1 4 0), .int (σ.1 5 0)])),
  (a 16, .inr (2, [.ref (a (19 + 1)), .int (σ.1 4 1), .int (σ.1 5 1)])),
  (a 17, .inr (2, [.ref (a (19 + 2)), .int (σ.1 4 2), .int (σ.1 5 2)])),
  (a 18, .inr (2, [.ref (a (19 + 3)), .int (σ.1 4 3), .int (σ.1 5 3)])),
  (a 19, .inl (c 0, 60, .inl (σ.1 12))),
  (a 20, .inl (c 0, 60, .inl (σ.1 13))),
  (a 21, .inl (c 0, 60, .inl (σ.1 14))),
  (a 22, .inl (c 0, 60, .inl (σ.1 15)))]
theorem cw0 (a : Nat → Nat) (c : Nat → ClassId) (σ : St) : (cW a c σ)[0]? = some (a 0, .inr (3, [.ref (a 1), .ref (a 2), .ref (a 3), .ref (a 4), .ref (a 5), .ref (a 6), .int (σ.1 0 0), .int (σ.1 0 1), .int (σ.1 0 2), .int (σ.1 0 3), .int (σ.1 0 4), .int (σ.1 0 5)])) := rfl
theorem cw1 (a : Nat → Nat) (c : Nat → ClassId) (σ : St) : (cW a c σ)[1]? = some (a 1, .inl (c 3, 4, .inr (.inr (.inr (.inr (fun d => some (a (11 + d)))))))) := rfl
theorem cw2 (a : Nat → Nat) (c : Nat → ClassId) (σ : St) : (cW a c σ)[2]? = some (a 2, .inl (c 4, 4, .inr (.inr (.inr (.inr (fun d => some (a (15 + d)))))))) := rfl
theorem cw3 (a : Nat → Nat) (c : Nat → ClassId) (σ : St) : (cW a c σ)[3]? = some (a 3, .inl (c 0, 8, .inl (σ.1 6))) := rfl
theorem cw4 (a : Nat → Nat) (c : Nat → ClassId) (σ : St) : (cW a c σ)[4]? = some (a 4, .inl (c 0, 8, .inl (σ.1 7))) := rfl
theorem cw5 (a : Nat → Nat) (c : Nat → ClassId) (σ : St) : (cW a c σ)[5]? = some (a 5, .inl (c 2, 8, .inl (σ.1 8))) := rfl
theorem cw6 (a : Nat → Nat) (c : Nat → ClassId) (σ : St) : (cW a c σ)[6]? = some (a 6, .inr (1, [.ref (a 7), .ref (a 8), .ref (a 9), .ref (a 10), .int (σ.1 0 6), .int (σ.1 0 7), .int (σ.1 0 8)])) := rfl
theorem cw7 (a : Nat → Nat) (c : Nat → ClassId) (σ : St) : (cW a c σ)[7]? = some (a 7, .inl (c 0, 580, .inl (σ.1 9))) := rfl
theorem cw8 (a : Nat → Nat) (c : Nat → ClassId) (σ : St) : (cW a c σ)[8]? = some (a 8, .inl (c 0, 580, .inl (σ.1 10))) := rfl
theorem cw9 (a : Nat → Nat) (c : Nat → ClassId) (σ : St) : (cW a c σ)[9]? = some (a 9, .inl (c 0, 580, .inl (σ.1 11))) := rfl
theorem cw10 (a : Nat → Nat) (c : Nat → ClassId) (σ : St) : (cW a c σ)[10]? = some (a 10, .inl (c 1, 1024, .inr (.inl σ.2))) := rfl
theorem cwX0 (a : Nat → Nat) (c : Nat → ClassId) (σ : St) (d : Nat) (h : d < 4) : (cW a c σ)[11 + d]? = some (a (11 + d), .inr (0, [.int (σ.1 1 d), .int (σ.1 2 d), .int (σ.1 3 d)])) := by
  match d, h with
  | 0, _ => rfl
  | 1, _ => rfl
  | 2, _ => rfl
  | 3, _ => rfl
  | d + 4, h => exact absurd h (by omega)
theorem cwX2 (a : Nat → Nat) (c : Nat → ClassId) (σ : St) (d : Nat) (h : d < 4) : (cW a c σ)[15 + d]? = some (a (15 + d), .inr (2, [.ref (a (19 + d)), .int (σ.1 4 d), .int (σ.1 5 d)])) := by
  match d, h with
  | 0, _ => rfl
  | 1, _ => rfl
  | 2, _ => rfl
  | 3, _ => rfl
  | d + 4, h => exact absurd h (by omega)
theorem cwcells (a : Nat → Nat) (c : Nat → ClassId) (σ : St) (d : Nat) (h : d < 4) : (cW a c σ)[19 + d]? = some (a (19 + d), .inl (c 0, 60, .inl (σ.1 (12 + d)))) := by
  match d, h with
  | 0, _ => rfl
  | 1, _ => rfl
  | 2, _ => rfl
  | 3, _ => rfl
  | d + 4, h => exact absurd h (by omega)
theorem cpX5_count (a : Nat → Nat) (c : Nat → ClassId) (σ : St) (v : Int32) : (cW a c σ).set 0 (a 0, .inr (3, List.set [.ref (a 1), .ref (a 2), .ref (a 3), .ref (a 4), .ref (a 5), .ref (a 6), .int (σ.1 0 0), .int (σ.1 0 1), .int (σ.1 0 2), .int (σ.1 0 3), .int (σ.1 0 4), .int (σ.1 0 5)] 6 (.int v))) = cW a c (wS σ 0 0 v) := rfl
theorem cpX5_stand (a : Nat → Nat) (c : Nat → ClassId) (σ : St) (v : Int32) : (cW a c σ).set 0 (a 0, .inr (3, List.set [.ref (a 1), .ref (a 2), .ref (a 3), .ref (a 4), .ref (a 5), .ref (a 6), .int (σ.1 0 0), .int (σ.1 0 1), .int (σ.1 0 2), .int (σ.1 0 3), .int (σ.1 0 4), .int (σ.1 0 5)] 7 (.int v))) = cW a c (wS σ 0 1 v) := rfl
theorem cpX5_acts (a : Nat → Nat) (c : Nat → ClassId) (σ : St) (v : Int32) : (cW a c σ).set 0 (a 0, .inr (3, List.set [.ref (a 1), .ref (a 2), .ref (a 3), .ref (a 4), .ref (a 5), .ref (a 6), .int (σ.1 0 0), .int (σ.1 0 1), .int (σ.1 0 2), .int (σ.1 0 3), .int (σ.1 0 4), .int (σ.1 0 5)] 8 (.int v))) = cW a c (wS σ 0 2 v) := rfl
theorem cpX5_readings (a : Nat → Nat) (c : Nat → ClassId) (σ : St) (v : Int32) : (cW a c σ).set 0 (a 0, .inr (3, List.set [.ref (a 1), .ref (a 2), .ref (a 3), .ref (a 4), .ref (a 5), .ref (a 6), .int (σ.1 0 0), .int (σ.1 0 1), .int (σ.1 0 2), .int (σ.1 0 3), .int (σ.1 0 4), .int (σ.1 0 5)] 9 (.int v))) = cW a c (wS σ 0 3 v) := rfl
theorem cpX5_traced (a : Nat → Nat) (c : Nat → ClassId) (σ : St) (v : Int32) : (cW a c σ).set 0 (a 0, .inr (3, List.set [.ref (a 1), .ref (a 2), .ref (a 3), .ref (a 4), .ref (a 5), .ref (a 6), .int (σ.1 0 0), .int (σ.1 0 1), .int (σ.1 0 2), .int (σ.1 0 3), .int (σ.1 0 4), .int (σ.1 0 5)] 10 (.int v))) = cW a c (wS σ 0 4 v) := rfl
theorem cpX5_latestFault (a : Nat → Nat) (c : Nat → ClassId) (σ : St) (v : Int32) : (cW a c σ).set 0 (a 0, .inr (3, List.set [.ref (a 1), .ref (a 2), .ref (a 3), .ref (a 4), .ref (a 5), .ref (a 6), .int (σ.1 0 0), .int (σ.1 0 1), .int (σ.1 0 2), .int (σ.1 0 3), .int (σ.1 0 4), .int (σ.1 0 5)] 11 (.int v))) = cW a c (wS σ 0 5 v) := rfl
theorem cpX1_many (a : Nat → Nat) (c : Nat → ClassId) (σ : St) (v : Int32) : (cW a c σ).set 6 (a 6, .inr (1, List.set [.ref (a 7), .ref (a 8), .ref (a 9), .ref (a 10), .int (σ.1 0 6), .int (σ.1 0 7), .int (σ.1 0 8)] 4 (.int v))) = cW a c (wS σ 0 6 v) := rfl
theorem cpX1_count (a : Nat → Nat) (c : Nat → ClassId) (σ : St) (v : Int32) : (cW a c σ).set 6 (a 6, .inr (1, List.set [.ref (a 7), .ref (a 8), .ref (a 9), .ref (a 10), .int (σ.1 0 6), .int (σ.1 0 7), .int (σ.1 0 8)] 5 (.int v))) = cW a c (wS σ 0 7 v) := rfl
theorem cpX1_fitting (a : Nat → Nat) (c : Nat → ClassId) (σ : St) (v : Int32) : (cW a c σ).set 6 (a 6, .inr (1, List.set [.ref (a 7), .ref (a 8), .ref (a 9), .ref (a 10), .int (σ.1 0 6), .int (σ.1 0 7), .int (σ.1 0 8)] 6 (.int v))) = cW a c (wS σ 0 8 v) := rfl
theorem cpX0_kind (a : Nat → Nat) (c : Nat → ClassId) (σ : St) (d : Nat) (h : d < 4) (v : Int32) : (cW a c σ).set (11 + d) (a (11 + d), .inr (0, List.set [.int (σ.1 1 d), .int (σ.1 2 d), .int (σ.1 3 d)] 0 (.int v))) = cW a c (wS σ 1 d v) := by
  match d, h with
  | 0, _ => rfl
  | 1, _ => rfl
  | 2, _ => rfl
  | 3, _ => rfl
  | d + 4, h => exact absurd h (by omega)
theorem cpX0_girth (a : Nat → Nat) (c : Nat → ClassId) (σ : St) (d : Nat) (h : d < 4) (v : Int32) : (cW a c σ).set (11 + d) (a (11 + d), .inr (0, List.set [.int (σ.1 1 d), .int (σ.1 2 d), .int (σ.1 3 d)] 1 (.int v))) = cW a c (wS σ 2 d v) := by
  match d, h with
  | 0, _ => rfl
  | 1, _ => rfl
  | 2, _ => rfl
  | 3, _ => rfl
  | d + 4, h => exact absurd h (by omega)
theorem cpX0_room (a : Nat → Nat) (c : Nat → ClassId) (σ : St) (d : Nat) (h : d < 4) (v : Int32) : (cW a c σ).set (11 + d) (a (11 + d), .inr (0, List.set [.int (σ.1 1 d), .int (σ.1 2 d), .int (σ.1 3 d)] 2 (.int v))) = cW a c (wS σ 3 d v) := by
  match d, h with
  | 0, _ => rfl
  | 1, _ => rfl
  | 2, _ => rfl
  | 3, _ => rfl
  | d + 4, h => exact absurd h (by omega)
theorem cpX2_laneOfRow (a : Nat → Nat) (c : Nat → ClassId) (σ : St) (d : Nat) (h : d < 4) (v : Int32) : (cW a c σ).set (15 + d) (a (15 + d), .inr (2, List.set [.ref (a (19 + d)), .int (σ.1 4 d), .int (σ.1 5 d)] 1 (.int v))) = cW a c (wS σ 4 d v) := by
  match d, h with
  | 0, _ => rfl
  | 1, _ => rfl
  | 2, _ => rfl
  | 3, _ => rfl
  | d + 4, h => exact absurd h (by omega)
theorem cpX2_size (a : Nat → Nat) (c : Nat → ClassId) (σ : St) (d : Nat) (h : d < 4) (v : Int32) : (cW a c σ).set (15 + d) (a (15 + d), .inr (2, List.set [.ref (a (19 + d)), .int (σ.1 4 d), .int (σ.1 5 d)] 2 (.int v))) = cW a c (wS σ 5 d v) := by
  match d, h with
  | 0, _ => rfl
  | 1, _ => rfl
  | 2, _ => rfl
  | 3, _ => rfl
  | d + 4, h => exact absurd h (by omega)
theorem cpA_readFirst (a : Nat → Nat) (c : Nat → ClassId) (σ : St) (j : Nat) (v : Int32) : (cW a c σ).set 3 (a 3, .inl (c 0, 8, .inl (upd (σ.1 6) j v))) = cW a c (wS σ 6 j v) := rfl
theorem cpA_readSecond (a : Nat → Nat) (c : Nat → ClassId) (σ : St) (j : Nat) (v : Int32) : (cW a c σ).set 4 (a 4, .inl (c 0, 8, .inl (upd (σ.1 7) j v))) = cW a c (wS σ 7 j v) := rfl
theorem cpA_readFits (a : Nat → Nat) (c : Nat → ClassId) (σ : St) (j : Nat) (v : Int32) : (cW a c σ).set 5 (a 5, .inl (c 2, 8, .inl (upd (σ.1 8) j v))) = cW a c (wS σ 8 j v) := rfl
theorem cpA_reached (a : Nat → Nat) (c : Nat → ClassId) (σ : St) (j : Nat) (v : Int32) : (cW a c σ).set 7 (a 7, .inl (c 0, 580, .inl (upd (σ.1 9) j v))) = cW a c (wS σ 9 j v) := rfl
theorem cpA_from (a : Nat → Nat) (c : Nat → ClassId) (σ : St) (j : Nat) (v : Int32) : (cW a c σ).set 8 (a 8, .inl (c 0, 580, .inl (upd (σ.1 10) j v))) = cW a c (wS σ 10 j v) := rfl
theorem cpA_by (a : Nat → Nat) (c : Nat → ClassId) (σ : St) (j : Nat) (v : Int32) : (cW a c σ).set 9 (a 9, .inl (c 0, 580, .inl (upd (σ.1 11) j v))) = cW a c (wS σ 11 j v) := rfl
theorem cpA_seen (a : Nat → Nat) (c : Nat → ClassId) (σ : St) (j : Nat) (v : Int64) : (cW a c σ).set 10 (a 10, .inl (c 1, 1024, .inr (.inl (vp_updL σ.2 j v)))) = cW a c (wL σ j v) := rfl
theorem cpLs_seen (a : Nat → Nat) (c : Nat → ClassId) (σ : St) (f : Nat → Int64) : (cW a c σ).set 10 (a 10, .inl (c 1, 1024, .inr (.inl f))) = cW a c (wLs σ f) := rfl
theorem cpA_cells (a : Nat → Nat) (c : Nat → ClassId) (σ : St) (d : Nat) (h : d < 4) (j : Nat) (v : Int32) : (cW a c σ).set (19 + d) (a (19 + d), .inl (c 0, 60, .inl (upd (σ.1 (12 + d)) j v))) = cW a c (wS σ (12 + d) j v) := by
  match d, h with
  | 0, _ => rfl
  | 1, _ => rfl
  | 2, _ => rfl
  | 3, _ => rfl
  | d + 4, h => exact absurd h (by omega)
theorem cpG_cells (a : Nat → Nat) (c : Nat → ClassId) (σ : St) (d : Nat) (h : d < 4) (f : Nat → Int32) : (cW a c σ).set (19 + d) (a (19 + d), .inl (c 0, 60, .inl f)) = cW a c (wG σ (12 + d) f) := by
  match d, h with
  | 0, _ => rfl
  | 1, _ => rfl
  | 2, _ => rfl
  | 3, _ => rfl
  | d + 4, h => exact absurd h (by omega)
def mW (a : Nat → Nat) (c : Nat → ClassId) (σ : St) : va_W := [
  (a 0, .inr (4, [.int (σ.1 0 0), .int (σ.1 0 1), .ref (a 1), .ref (a 2), .ref (a 3), .int (σ.1 0 2), .int (σ.1 0 3), .ref (a 4), .ref (a 5), .ref (a 6), .ref (a 7), .int (σ.1 0 4), .int (σ.1 0 5), .int (σ.1 0 6), .ref (a 8), .ref (a 9), .ref (a 10), .ref (a 11), .ref (a 12), .int (σ.1 0 7), .ref (a 13), .ref (a 14), .ref (a 15), .int (σ.1 0 8), .ref (a 16), .ref (a 17), .ref (a 18)])),
  (a 1, .inl (c 0, 4, .inl (σ.1 1))),
  (a 2, .inl (c 0, 4, .inl (σ.1 2))),
  (a 3, .inl (c 0, 240, .inl (σ.1 3))),
  (a 4, .inl (c 0, 4, .inl (σ.1 4))),
  (a 5, .inl (c 0, 4, .inl (σ.1 5))),
  (a 6, .inl (c 0, 4, .inl (σ.1 6))),
  (a 7, .inl (c 0, 4, .inl (σ.1 7))),
  (a 8, .inl (c 0, 12, .inl (σ.1 8))),
  (a 9, .inl (c 0, 10000, .inl (σ.1 9))),
  (a 10, .inl (c 0, 1200, .inl (σ.1 10))),
  (a 11, .inl (c 0, 33600, .inl (σ.1 11))),
  (a 12, .inl (c 0, 1200, .inl (σ.1 12))),
  (a 13, .inl (c 0, 4, .inl (σ.1 13))),
  (a 14, .inl (c 0, 4, .inl (σ.1 14))),
  (a 15, .inl (c 0, 4, .inl (σ.1 15))),
  (a 16, .inl (c 0, 8, .inl (σ.1 16))),
  (a 17, .inl (c 0, 8, .inl (σ.1 17))),
  (a 18, .inl (c 0, 8, .inl (σ.1 18)))]
theorem mw0 (a : Nat → Nat) (c : Nat → ClassId) (σ : St) : (mW a c σ)[0]? = some (a 0, .inr (4, [.int (σ.1 0 0), .int (σ.1 0 1), .ref (a 1), .ref (a 2), .ref (a 3), .int (σ.1 0 2), .int (σ.1 0 3), .ref (a 4), .ref (a 5), .ref (a 6), .ref (a 7), .int (σ.1 0 4), .int (σ.1 0 5), .int (σ.1 0 6), .ref (a 8), .ref (a 9), .ref (a 10), .ref (a 11), .ref (a 12), .int (σ.1 0 7), .ref (a 13), .ref (a 14), .ref (a 15), .int (σ.1 0 8), .ref (a 16), .ref (a 17), .ref (a 18)])) := rfl
theorem mw1 (a : Nat → Nat) (c : Nat → ClassId) (σ : St) : (mW a c σ)[1]? = some (a 1, .inl (c 0, 4, .inl (σ.1 1))) := rfl
theorem mpA_m1 (a : Nat → Nat) (c : Nat → ClassId) (σ : St) (j : Nat) (v : Int32) : (mW a c σ).set 1 (a 1, .inl (c 0, 4, .inl (upd (σ.1 1) j v))) = mW a c (wS σ 1 j v) := rfl
theorem mw2 (a : Nat → Nat) (c : Nat → ClassId) (σ : St) : (mW a c σ)[2]? = some (a 2, .inl (c 0, 4, .inl (σ.1 2))) := rfl
theorem mpA_m2 (a : Nat → Nat) (c : Nat → ClassId) (σ : St) (j : Nat) (v : Int32) : (mW a c σ).set 2 (a 2, .inl (c 0, 4, .inl (upd (σ.1 2) j v))) = mW a c (wS σ 2 j v) := rfl
theorem mw3 (a : Nat → Nat) (c : Nat → ClassId) (σ : St) : (mW a c σ)[3]? = some (a 3, .inl (c 0, 240, .inl (σ.1 3))) := rfl
theorem mpA_m3 (a : Nat → Nat) (c : Nat → ClassId) (σ : St) (j : Nat) (v : Int32) : (mW a c σ).set 3 (a 3, .inl (c 0, 240, .inl (upd (σ.1 3) j v))) = mW a c (wS σ 3 j v) := rfl
theorem mw4 (a : Nat → Nat) (c : Nat → ClassId) (σ : St) : (mW a c σ)[4]? = some (a 4, .inl (c 0, 4, .inl (σ.1 4))) := rfl
theorem mpA_m4 (a : Nat → Nat) (c : Nat → ClassId) (σ : St) (j : Nat) (v : Int32) : (mW a c σ).set 4 (a 4, .inl (c 0, 4, .inl (upd (σ.1 4) j v))) = mW a c (wS σ 4 j v) := rfl
theorem mw5 (a : Nat → Nat) (c : Nat → ClassId) (σ : St) : (mW a c σ)[5]? = some (a 5, .inl (c 0, 4, .inl (σ.1 5))) := rfl
theorem mpA_m5 (a : Nat → Nat) (c : Nat → ClassId) (σ : St) (j : Nat) (v : Int32) : (mW a c σ).set 5 (a 5, .inl (c 0, 4, .inl (upd (σ.1 5) j v))) = mW a c (wS σ 5 j v) := rfl
theorem mw6 (a : Nat → Nat) (c : Nat → ClassId) (σ : St) : (mW a c σ)[6]? = some (a 6, .inl (c 0, 4, .inl (σ.1 6))) := rfl
theorem mpA_m6 (a : Nat → Nat) (c : Nat → ClassId) (σ : St) (j : Nat) (v : Int32) : (mW a c σ).set 6 (a 6, .inl (c 0, 4, .inl (upd (σ.1 6) j v))) = mW a c (wS σ 6 j v) := rfl
theorem mw7 (a : Nat → Nat) (c : Nat → ClassId) (σ : St) : (mW a c σ)[7]? = some (a 7, .inl (c 0, 4, .inl (σ.1 7))) := rfl
theorem mpA_m7 (a : Nat → Nat) (c : Nat → ClassId) (σ : St) (j : Nat) (v : Int32) : (mW a c σ).set 7 (a 7, .inl (c 0, 4, .inl (upd (σ.1 7) j v))) = mW a c (wS σ 7 j v) := rfl
theorem mw8 (a : Nat → Nat) (c : Nat → ClassId) (σ : St) : (mW a c σ)[8]? = some (a 8, .inl (c 0, 12, .inl (σ.1 8))) := rfl
theorem mpA_m8 (a : Nat → Nat) (c : Nat → ClassId) (σ : St) (j : Nat) (v : Int32) : (mW a c σ).set 8 (a 8, .inl (c 0, 12, .inl (upd (σ.1 8) j v))) = mW a c (wS σ 8 j v) := rfl
theorem mw9 (a : Nat → Nat) (c : Nat → ClassId) (σ : St) : (mW a c σ)[9]? = some (a 9, .inl (c 0, 10000, .inl (σ.1 9))) := rfl
theorem mpA_m9 (a : Nat → Nat) (c : Nat → ClassId) (σ : St) (j : Nat) (v : Int32) : (mW a c σ).set 9 (a 9, .inl (c 0, 10000, .inl (upd (σ.1 9) j v))) = mW a c (wS σ 9 j v) := rfl
theorem mw10 (a : Nat → Nat) (c : Nat → ClassId) (σ : St) : (mW a c σ)[10]? = some (a 10, .inl (c 0, 1200, .inl (σ.1 10))) := rfl
theorem mpA_m10 (a : Nat → Nat) (c : Nat → ClassId) (σ : St) (j : Nat) (v : Int32) : (mW a c σ).set 10 (a 10, .inl (c 0, 1200, .inl (upd (σ.1 10) j v))) = mW a c (wS σ 10 j v) := rfl
theorem mw11 (a : Nat → Nat) (c : Nat → ClassId) (σ : St) : (mW a c σ)[11]? = some (a 11, .inl (c 0, 33600, .inl (σ.1 11))) := rfl
theorem mpA_m11 (a : Nat → Nat) (c : Nat → ClassId) (σ : St) (j : Nat) (v : Int32) : (mW a c σ).set 11 (a 11, .inl (c 0, 33600, .inl (upd (σ.1 11) j v))) = mW a c (wS σ 11 j v) := rfl
theorem mw12 (a : Nat → Nat) (c : Nat → ClassId) (σ : St) : (mW a c σ)[12]? = some (a 12, .inl (c 0, 1200, .inl (σ.1 12))) := rfl
theorem mpA_m12 (a : Nat → Nat) (c : Nat → ClassId) (σ : St) (j : Nat) (v : Int32) : (mW a c σ).set 12 (a 12, .inl (c 0, 1200, .inl (upd (σ.1 12) j v))) = mW a c (wS σ 12 j v) := rfl
theorem mw13 (a : Nat → Nat) (c : Nat → ClassId) (σ : St) : (mW a c σ)[13]? = some (a 13, .inl (c 0, 4, .inl (σ.1 13))) := rfl
theorem mpA_m13 (a : Nat → Nat) (c : Nat → ClassId) (σ : St) (j : Nat) (v : Int32) : (mW a c σ).set 13 (a 13, .inl (c 0, 4, .inl (upd (σ.1 13) j v))) = mW a c (wS σ 13 j v) := rfl
theorem mw14 (a : Nat → Nat) (c : Nat → ClassId) (σ : St) : (mW a c σ)[14]? = some (a 14, .inl (c 0, 4, .inl (σ.1 14))) := rfl
theorem mpA_m14 (a : Nat → Nat) (c : Nat → ClassId) (σ : St) (j : Nat) (v : Int32) : (mW a c σ).set 14 (a 14, .inl (c 0, 4, .inl (upd (σ.1 14) j v))) = mW a c (wS σ 14 j v) := rfl
theorem mw15 (a : Nat → Nat) (c : Nat → ClassId) (σ : St) : (mW a c σ)[15]? = some (a 15, .inl (c 0, 4, .inl (σ.1 15))) := rfl
theorem mpA_m15 (a : Nat → Nat) (c : Nat → ClassId) (σ : St) (j : Nat) (v : Int32) : (mW a c σ).set 15 (a 15, .inl (c 0, 4, .inl (upd (σ.1 15) j v))) = mW a c (wS σ 15 j v) := rfl
theorem mw16 (a : Nat → Nat) (c : Nat → ClassId) (σ : St) : (mW a c σ)[16]? = some (a 16, .inl (c 0, 8, .inl (σ.1 16))) := rfl
theorem mpA_m16 (a : Nat → Nat) (c : Nat → ClassId) (σ : St) (j : Nat) (v : Int32) : (mW a c σ).set 16 (a 16, .inl (c 0, 8, .inl (upd (σ.1 16) j v))) = mW a c (wS σ 16 j v) := rfl
theorem mw17 (a : Nat → Nat) (c : Nat → ClassId) (σ : St) : (mW a c σ)[17]? = some (a 17, .inl (c 0, 8, .inl (σ.1 17))) := rfl
theorem mpA_m17 (a : Nat → Nat) (c : Nat → ClassId) (σ : St) (j : Nat) (v : Int32) : (mW a c σ).set 17 (a 17, .inl (c 0, 8, .inl (upd (σ.1 17) j v))) = mW a c (wS σ 17 j v) := rfl
theorem mw18 (a : Nat → Nat) (c : Nat → ClassId) (σ : St) : (mW a c σ)[18]? = some (a 18, .inl (c 0, 8, .inl (σ.1 18))) := rfl
theorem mpA_m18 (a : Nat → Nat) (c : Nat → ClassId) (σ : St) (j : Nat) (v : Int32) : (mW a c σ).set 18 (a 18, .inl (c 0, 8, .inl (upd (σ.1 18) j v))) = mW a c (wS σ 18 j v) := rfl
theorem mpX6_fault (a : Nat → Nat) (c : Nat → ClassId) (σ : St) (v : Int32) : (mW a c σ).set 0 (a 0, .inr (4, List.set [.int (σ.1 0 0), .int (σ.1 0 1), .ref (a 1), .ref (a 2), .ref (a 3), .int (σ.1 0 2), .int (σ.1 0 3), .ref (a 4), .ref (a 5), .ref (a 6), .ref (a 7), .int (σ.1 0 4), .int (σ.1 0 5), .int (σ.1 0 6), .ref (a 8), .ref (a 9), .ref (a 10), .ref (a 11), .ref (a 12), .int (σ.1 0 7), .ref (a 13), .ref (a 14), .ref (a 15), .int (σ.1 0 8), .ref (a 16), .ref (a 17), .ref (a 18)] 0 (.int v))) = mW a c (wS σ 0 0 v) := rfl
theorem mpX6_trace (a : Nat → Nat) (c : Nat → ClassId) (σ : St) (v : Int32) : (mW a c σ).set 0 (a 0, .inr (4, List.set [.int (σ.1 0 0), .int (σ.1 0 1), .ref (a 1), .ref (a 2), .ref (a 3), .int (σ.1 0 2), .int (σ.1 0 3), .ref (a 4), .ref (a 5), .ref (a 6), .ref (a 7), .int (σ.1 0 4), .int (σ.1 0 5), .int (σ.1 0 6), .ref (a 8), .ref (a 9), .ref (a 10), .ref (a 11), .ref (a 12), .int (σ.1 0 7), .ref (a 13), .ref (a 14), .ref (a 15), .int (σ.1 0 8), .ref (a 16), .ref (a 17), .ref (a 18)] 1 (.int v))) = mW a c (wS σ 0 1 v) := rfl
theorem mpX6_dolls (a : Nat → Nat) (c : Nat → ClassId) (σ : St) (v : Int32) : (mW a c σ).set 0 (a 0, .inr (4, List.set [.int (σ.1 0 0), .int (σ.1 0 1), .ref (a 1), .ref (a 2), .ref (a 3), .int (σ.1 0 2), .int (σ.1 0 3), .ref (a 4), .ref (a 5), .ref (a 6), .ref (a 7), .int (σ.1 0 4), .int (σ.1 0 5), .int (σ.1 0 6), .ref (a 8), .ref (a 9), .ref (a 10), .ref (a 11), .ref (a 12), .int (σ.1 0 7), .ref (a 13), .ref (a 14), .ref (a 15), .int (σ.1 0 8), .ref (a 16), .ref (a 17), .ref (a 18)] 5 (.int v))) = mW a c (wS σ 0 2 v) := rfl
theorem mpX6_done (a : Nat → Nat) (c : Nat → ClassId) (σ : St) (v : Int32) : (mW a c σ).set 0 (a 0, .inr (4, List.set [.int (σ.1 0 0), .int (σ.1 0 1), .ref (a 1), .ref (a 2), .ref (a 3), .int (σ.1 0 2), .int (σ.1 0 3), .ref (a 4), .ref (a 5), .ref (a 6), .ref (a 7), .int (σ.1 0 4), .int (σ.1 0 5), .int (σ.1 0 6), .ref (a 8), .ref (a 9), .ref (a 10), .ref (a 11), .ref (a 12), .int (σ.1 0 7), .ref (a 13), .ref (a 14), .ref (a 15), .int (σ.1 0 8), .ref (a 16), .ref (a 17), .ref (a 18)] 6 (.int v))) = mW a c (wS σ 0 3 v) := rfl
theorem mpX6_open (a : Nat → Nat) (c : Nat → ClassId) (σ : St) (v : Int32) : (mW a c σ).set 0 (a 0, .inr (4, List.set [.int (σ.1 0 0), .int (σ.1 0 1), .ref (a 1), .ref (a 2), .ref (a 3), .int (σ.1 0 2), .int (σ.1 0 3), .ref (a 4), .ref (a 5), .ref (a 6), .ref (a 7), .int (σ.1 0 4), .int (σ.1 0 5), .int (σ.1 0 6), .ref (a 8), .ref (a 9), .ref (a 10), .ref (a 11), .ref (a 12), .int (σ.1 0 7), .ref (a 13), .ref (a 14), .ref (a 15), .int (σ.1 0 8), .ref (a 16), .ref (a 17), .ref (a 18)] 11 (.int v))) = mW a c (wS σ 0 4 v) := rfl
theorem mpX6_at (a : Nat → Nat) (c : Nat → ClassId) (σ : St) (v : Int32) : (mW a c σ).set 0 (a 0, .inr (4, List.set [.int (σ.1 0 0), .int (σ.1 0 1), .ref (a 1), .ref (a 2), .ref (a 3), .int (σ.1 0 2), .int (σ.1 0 3), .ref (a 4), .ref (a 5), .ref (a 6), .ref (a 7), .int (σ.1 0 4), .int (σ.1 0 5), .int (σ.1 0 6), .ref (a 8), .ref (a 9), .ref (a 10), .ref (a 11), .ref (a 12), .int (σ.1 0 7), .ref (a 13), .ref (a 14), .ref (a 15), .int (σ.1 0 8), .ref (a 16), .ref (a 17), .ref (a 18)] 12 (.int v))) = mW a c (wS σ 0 5 v) := rfl
theorem mpX6_readDolls (a : Nat → Nat) (c : Nat → ClassId) (σ : St) (v : Int32) : (mW a c σ).set 0 (a 0, .inr (4, List.set [.int (σ.1 0 0), .int (σ.1 0 1), .ref (a 1), .ref (a 2), .ref (a 3), .int (σ.1 0 2), .int (σ.1 0 3), .ref (a 4), .ref (a 5), .ref (a 6), .ref (a 7), .int (σ.1 0 4), .int (σ.1 0 5), .int (σ.1 0 6), .ref (a 8), .ref (a 9), .ref (a 10), .ref (a 11), .ref (a 12), .int (σ.1 0 7), .ref (a 13), .ref (a 14), .ref (a 15), .int (σ.1 0 8), .ref (a 16), .ref (a 17), .ref (a 18)] 13 (.int v))) = mW a c (wS σ 0 6 v) := rfl
theorem mpX6_come (a : Nat → Nat) (c : Nat → ClassId) (σ : St) (v : Int32) : (mW a c σ).set 0 (a 0, .inr (4, List.set [.int (σ.1 0 0), .int (σ.1 0 1), .ref (a 1), .ref (a 2), .ref (a 3), .int (σ.1 0 2), .int (σ.1 0 3), .ref (a 4), .ref (a 5), .ref (a 6), .ref (a 7), .int (σ.1 0 4), .int (σ.1 0 5), .int (σ.1 0 6), .ref (a 8), .ref (a 9), .ref (a 10), .ref (a 11), .ref (a 12), .int (σ.1 0 7), .ref (a 13), .ref (a 14), .ref (a 15), .int (σ.1 0 8), .ref (a 16), .ref (a 17), .ref (a 18)] 19 (.int v))) = mW a c (wS σ 0 7 v) := rfl
theorem mpX6_readings (a : Nat → Nat) (c : Nat → ClassId) (σ : St) (v : Int32) : (mW a c σ).set 0 (a 0, .inr (4, List.set [.int (σ.1 0 0), .int (σ.1 0 1), .ref (a 1), .ref (a 2), .ref (a 3), .int (σ.1 0 2), .int (σ.1 0 3), .ref (a 4), .ref (a 5), .ref (a 6), .ref (a 7), .int (σ.1 0 4), .int (σ.1 0 5), .int (σ.1 0 6), .ref (a 8), .ref (a 9), .ref (a 10), .ref (a 11), .ref (a 12), .int (σ.1 0 7), .ref (a 13), .ref (a 14), .ref (a 15), .int (σ.1 0 8), .ref (a 16), .ref (a 17), .ref (a 18)] 23 (.int v))) = mW a c (wS σ 0 8 v) := rfl
