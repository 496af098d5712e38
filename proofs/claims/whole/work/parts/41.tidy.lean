section TidyRows
variable {C : CaT} {N : Nat} {n s : Nat} {K G M : Nat → Nat} {σ τ τ' : St}
/-- the place that row r gives to doll d -/
def dg (n r d : Nat) : Nat := r / (n + 1) ^ (n - 1 - d) % (n + 1)
def okd (n f r d : Nat) : Bool := Nat.beq (dg n r d) 0 || ((!Nat.beq (dg n r d) (d + 1) && bi f (4 * d + (dg n r d - 1))) && !anyU (fun e => Nat.beq (dg n r e) (dg n r d)) d)
def okr (n f r : Nat) : Nat → Bool
  | 0 => true
  | d + 1 => okr n f r d && okd n f r d
def zr (n r : Nat) : Nat := cnt (fun d => Nat.beq (dg n r d) 0) n
/-- the best row so far, and the next row -/
def bst (n f r : Nat) (b : Option (Nat × Nat)) : Option (Nat × Nat) :=
  match b with
  | none => if okr n f r n = true then some (zr n r, r) else none
  | some (c, q) => if (okr n f r n && Nat.blt (zr n r) c) = true then some (zr n r, r) else some (c, q)
def bsA (n f : Nat) : Nat → Nat → Option (Nat × Nat) → Option (Nat × Nat)
  | 0 => fun _ b => b
  | k + 1 => fun r b =>
    match b with
    | none => if okr n f r n = true then bsA n f k (r + 1) (some (zr n r, r)) else bsA n f k (r + 1) none
    | some (c, q) => if (okr n f r n && Nat.blt (zr n r) c) = true then bsA n f k (r + 1) (some (zr n r, r)) else bsA n f k (r + 1) (some (c, q))
def tdB (n f : Nat) : Bool := match bsA n f ((n + 1) ^ n) 0 none with
  | none => false
  | some (c, q) => decide (f_X5_leastOnTable NN 6 (0 : Int32) (0 : Int32) (nI n) (nI f) = some (nI c)) && (List.range n).all (fun v => decide (f_X5_tidyPlace NN (nI v) (nI f) (sgc n) = some (nI (dg n q v))))
set_option maxRecDepth 100000 in
set_option maxHeartbeats 4000000 in
theorem td_b1 : [1, 2, 3].all (fun n => (pos_ n).all (fun f => tdB n f)) = true := by decide +kernel
end TidyRows
