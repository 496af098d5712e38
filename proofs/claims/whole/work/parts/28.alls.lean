def vl4a : List Nat := [0, 2, 3, 4, 8, 11, 12, 24, 26, 28, 32, 34, 35, 64, 66, 68, 88, 92, 96, 98, 128, 131, 132, 136, 140, 160, 163, 256, 258, 259, 264, 267, 280, 282, 512, 514, 515, 536, 538, 544, 547, 640, 643, 672, 768, 770, 792, 1024, 1027, 1028, 1032, 1035, 1048, 1052, 1088, 1092, 1112, 1280, 1283, 1288, 1536, 1538, 1540, 1544, 1548, 1568, 1570, 1600, 1602, 1632, 1664, 1668, 1672, 4096, 4104, 4120, 4128, 4160, 4184, 4192, 4224, 4232, 4256, 4352, 4360, 4376, 4608, 4632, 4640, 4736, 4768, 4864, 4888, 5120, 5128, 5144, 5184, 5208, 5376, 5384]
def vl4b : List Nat := [5632, 5640, 5664, 5696, 5728, 5760, 5768, 8192, 8194, 8195, 8196, 8256, 8258, 8260, 8320, 8323, 8324, 8448, 8450, 8451, 8704, 8706, 8707, 8832, 8835, 8960, 8962, 9216, 9219, 9220, 9280, 9284, 9472, 9475, 9728, 9730, 9732, 9792, 9794, 9856, 9860, 12288, 12290, 12296, 12352, 12354, 12416, 12424, 12544, 12546, 12552, 12800, 12802, 12928, 13056, 13058, 13312, 13320, 13376, 13568, 13576, 13824, 13826, 13832, 13888, 13890, 13952, 13960, 16384, 16386, 16387, 16388, 16392, 16395, 16396, 16408, 16410, 16412, 16416, 16418, 16419, 16896, 16898, 16899, 16920, 16922, 16928, 16931, 17408, 17411, 17412, 17416, 17419, 17432, 17436, 17920, 17922, 17924, 17928, 17932]
def vl4c : List Nat := [17952, 17954, 20480, 20483, 20488, 20491, 20504, 20512, 20515, 20544, 20568, 20576, 20992, 20995, 21016, 21024, 21027, 21504, 21507, 21512, 21515, 21528, 21568, 21592, 22016, 22024, 22048, 22080, 22112, 24576, 24578, 24579, 24580, 24600, 24602, 24604, 24704, 24707, 24708, 25088, 25090, 25091, 25112, 25114, 25216, 25219, 25600, 25603, 25604, 25624, 25628, 26112, 26114, 26116, 26240, 26244, 28672, 28674, 28675, 28680, 28683, 28696, 28698, 28736, 28738, 28760, 28800, 28803, 28808, 29184, 29186, 29187, 29208, 29210, 29312, 29315, 29696, 29699, 29704, 29707, 29720, 29760, 29784, 30208, 30210, 30216, 30272, 30274, 30336, 30344, 32768, 32770, 32771, 32772, 32776, 32779, 32780, 32792, 32794, 32796]
def vl4d : List Nat := [32800, 32802, 32803, 32832, 32834, 32836, 32856, 32860, 32864, 32866, 32896, 32899, 32900, 32904, 32908, 32928, 32931, 33024, 33026, 33027, 33032, 33035, 33048, 33050, 36864, 36868, 36872, 36876, 36888, 36892, 36896, 36928, 36932, 36952, 36956, 36960, 36992, 36996, 37000, 37004, 37024, 37120, 37128, 37144, 37376, 37400, 37408, 37504, 37536, 37632, 37656, 40960, 40962, 40963, 40964, 40992, 40994, 40995, 41024, 41026, 41028, 41056, 41058, 41088, 41091, 41092, 41120, 41123, 41216, 41218, 41219, 41984, 41987, 41988, 42048, 42052, 42240, 42243, 45056, 45058, 45060, 45064, 45068, 45088, 45090, 45120, 45122, 45124, 45152, 45154, 45184, 45188, 45192, 45196, 45216, 45312, 45314, 45320, 45568, 45570]
def vl4e : List Nat := [45600, 45696, 45728, 45824, 45826, 46080, 46084, 46088, 46144, 46148, 46336, 46344, 49152, 49154, 49155, 49156, 49160, 49163, 49164, 49176, 49178, 49180, 49184, 49186, 49187, 49408, 49410, 49411, 49416, 49419, 49432, 49434, 50688, 50690, 50692, 50696, 50700, 50720, 50722, 53248, 53251, 53252, 53256, 53259, 53260, 53272, 53276, 53280, 53283, 53312, 53316, 53336, 53340, 53344, 53504, 53507, 53512, 53515, 53528, 53760, 53763, 53784, 53792, 53795, 54016, 54040, 54784, 54788, 54792, 54796, 54816, 54848, 54880, 57344, 57346, 57347, 57348, 57368, 57370, 57372, 57376, 57378, 57379, 57472, 57475, 57476, 57504, 57507, 57600, 57602, 57603, 57624, 57626, 58368, 58371, 58372, 58392, 58396, 58624, 58627]
def vl4f : List Nat := [58880, 58882, 58884, 58912, 58914, 59008, 59012, 61440, 61442, 61443, 61444, 61448, 61451, 61452, 61464, 61466, 61468, 61472, 61474, 61475, 61504, 61506, 61508, 61528, 61532, 61536, 61538, 61568, 61571, 61572, 61576, 61580, 61600, 61603, 61696, 61698, 61699, 61704, 61707, 61720, 61722, 61952, 61954, 61955, 61976, 61978, 61984, 61987, 62080, 62083, 62112, 62208, 62210, 62232, 62464, 62467, 62468, 62472, 62475, 62488, 62492, 62528, 62532, 62552, 62720, 62723, 62728, 62976, 62978, 62980, 62984, 62988, 63008, 63010, 63040, 63042, 63072, 63104, 63108, 63112]
/-! the stands that can be, by the number of dolls -/
def vls : Nat → List Nat
  | 0 => [0]
  | 1 => [0, 4096]
  | 2 => [0, 2, 8, 4096, 4104, 8192, 8194, 12288, 12290, 12296]
  | 3 => [0, 2, 3, 8, 11, 24, 26, 64, 66, 88, 128, 131, 136, 4096, 4104, 4120, 4160, 4184, 4224, 4232, 8192, 8194, 8195, 8256, 8258, 8320, 8323, 12288, 12290, 12296, 12352, 12354, 12416, 12424, 16384, 16386, 16387, 16392, 16395, 16408, 16410, 20480, 20483, 20488, 20491, 20504, 20544, 20568, 24576, 24578, 24579, 24600, 24602, 24704, 24707, 28672, 28674, 28675, 28680, 28683, 28696, 28698, 28736, 28738, 28760, 28800, 28803, 28808]
  | _ => vl4a ++ (vl4b ++ (vl4c ++ (vl4d ++ (vl4e ++ vl4f))))
section AllRows
variable {n s : Nat}
def mk_S (p0 p1 p2 p3 o : Nat) : Nat := p0 + 8 * p1 + 64 * p2 + 512 * p3 + 4096 * o
def chkV : Bool := (List.range 5).all fun n => (List.range (n + 1)).all fun p0 => (List.range (n + 1)).all fun p1 => (List.range (n + 1)).all fun p2 => (List.range (n + 1)).all fun p3 => (List.range 16).all fun o => !(vld n (mk_S p0 p1 p2 p3 o)) || (vls n).any (fun x => Nat.beq x (mk_S p0 p1 p2 p3 o))
set_option maxRecDepth 100000 in
set_option maxHeartbeats 4000000 in
theorem chkV_t : chkV = true := by decide +kernel
theorem vls_mem (hn : n ≤ 4) (hv : vld n s = true) : s ∈ vls n := by
  obtain ⟨v1, v2, v3, -, -, -⟩ := vl hv
  have hp : ∀ d, d < 4 → pl s d < n + 1 := by
    intro d hd
    by_cases q : d < n
    · exact Nat.lt_succ_of_le (v2 d hd q)
    · rw [(v3 d hd (by omega)).1]; omega
  have e : s = mk_S (pl s 0) (pl s 1) (pl s 2) (pl s 3) (s / 4096) := by
    unfold mk_S pl
    omega
  have h := chkV_t
  unfold chkV at h
  have h1 := List.all_eq_true.mp h n (List.mem_range.mpr (by omega))
  have h2 := List.all_eq_true.mp h1 _ (List.mem_range.mpr (hp 0 (by omega)))
  have h3 := List.all_eq_true.mp h2 _ (List.mem_range.mpr (hp 1 (by omega)))
  have h4 := List.all_eq_true.mp h3 _ (List.mem_range.mpr (hp 2 (by omega)))
  have h5 := List.all_eq_true.mp h4 _ (List.mem_range.mpr (hp 3 (by omega)))
  have h6 := List.all_eq_true.mp h5 (s / 4096) (List.mem_range.mpr (by omega))
  rw [← e, hv] at h6
  obtain ⟨x, hx, hb⟩ := List.any_eq_true.mp h6
  exact Nat.eq_of_beq_eq_true hb ▸ hx
/-- what is so of each stand that can be is so -/
theorem brute (P : Nat → Nat → Bool) (h : (List.range 5).all (fun n => (vls n).all (P n)) = true) (hn : n ≤ 4) (hv : vld n s = true) : P n s = true :=
  List.all_eq_true.mp (List.all_eq_true.mp h n (List.mem_range.mpr (by omega))) s (vls_mem hn hv)
/-- the first from i on, of k -/
def ff (P : Nat → Bool) : Nat → Nat → Option Nat
  | 0 => fun _ => none
  | k + 1 => fun i => if P i = true then some i else ff P k (i + 1)
def o9 : Option Nat → Int32
  | none => -9
  | some e => nI e
def ffo : Option Nat → Int32 ⊕ Unit
  | none => .inr ()
  | some e => .inl (nI e)
theorem lp_ff (f : Int32 → Option (Int32 ⊕ (Int32 ⊕ Unit))) (P : Nat → Bool) (n : Nat) (hs : ∀ i, i < n → f (nI i) = some (if P i = true then .inr (.inl (nI i)) else .inl (nI (i + 1)))) (he : f (nI n) = some (.inr (.inr ()))) : ∀ k i, i + k = n → ∀ N, k < N → lpF f N (nI i) = some (ffo (ff P k i)) := by
  intro k
  induction k with
  | zero =>
    intro i hi N hN
    obtain ⟨a, rfl⟩ : ∃ a, N = a + 1 := ⟨N - 1, by omega⟩
    have : i = n := by omega
    subst this
    rw [lp_s, he]
    rfl
  | succ k ih =>
    intro i hi N hN
    obtain ⟨a, rfl⟩ : ∃ a, N = a + 1 := ⟨N - 1, by omega⟩
    rw [lp_s, hs i (by omega)]
    show _ = some (ffo (if P i = true then some i else ff P k (i + 1)))
    by_cases q : P i = true
    · rw [if_pos q, if_pos q]
      rfl
    · rw [if_neg q, if_neg q]
      exact ih (i + 1) (by omega) a (by omega)
theorem ff_lt (P : Nat → Bool) : ∀ k i e, ff P k i = some e → i ≤ e ∧ e < i + k ∧ P e = true := by
  intro k
  induction k with
  | zero => intro i e h; exact absurd h (by show ¬ none = some e; intro q; cases q)
  | succ k ih =>
    intro i e h
    have h : (if P i = true then some i else ff P k (i + 1)) = some e := h
    by_cases q : P i = true
    · rw [if_pos q] at h
      injection h with h
      subst h
      exact ⟨Nat.le_refl _, by omega, q⟩
    · rw [if_neg q] at h
      have := ih (i + 1) e h
      exact ⟨by omega, by omega, this.2.2⟩
/-- what is right in doll d -/
def inn (n s d : Nat) : Option Nat := ff (fun e => Nat.beq (pl s e) (d + 1)) n 0
theorem inn_lt {d e : Nat} (h : inn n s d = some e) : e < n := by
  have := ff_lt _ _ _ _ h
  omega
/-- how many are in it, from x on -/
def wi (n s : Nat) : Nat → Option Nat → Nat
  | 0 => fun _ => 0
  | k + 1 => fun x => match x with
    | none => 0
    | some e => wi n s k (inn n s e) + 1
def en (n s : Nat) : Nat → Option Nat → Bool
  | 0 => fun x => x.isNone
  | k + 1 => fun x => match x with
    | none => true
    | some e => en n s k (inn n s e)
set_option maxRecDepth 100000 in
set_option maxHeartbeats 4000000 in
theorem en_b : (List.range 5).all (fun n => (vls n).all (fun s => (List.range n).all (fun d => en n s 3 (inn n s d)))) = true := by decide +kernel
theorem en3 (hn : n ≤ 4) (hv : vld n s = true) {d : Nat} (hd : d < n) : en n s 3 (inn n s d) = true :=
  List.all_eq_true.mp (brute (fun n s => (List.range n).all (fun d => en n s 3 (inn n s d))) en_b hn hv) d (List.mem_range.mpr hd)
theorem vld0 : ∀ n, n < 5 → vld n 0 = true := by decide +kernel
/-- the open ones -/
def oN (s d : Nat) : Bool := bi (s / 4096) d
set_option maxRecDepth 100000 in
set_option maxHeartbeats 4000000 in
theorem op_b : (List.range 5).all (fun n => (vls n).all (fun s => Nat.beq (ss (oN s) n) (s / 4096))) = true := by decide +kernel
theorem op_ss (hn : n ≤ 4) (hv : vld n s = true) : s / 4096 = ss (oN s) n :=
  (Nat.eq_of_beq_eq_true (brute (fun n s => Nat.beq (ss (oN s) n) (s / 4096)) op_b hn hv)).symm
end AllRows
