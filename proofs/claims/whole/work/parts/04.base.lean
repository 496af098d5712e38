/-! ===== the pure side: words of the lifted methods ===== -/
abbrev St : Type := (Nat → Nat → Int32) × (Nat → Int64)
/-- an index is within a row of n places -/
def ck (i : Int32) (n : Nat) : Bool := !(decide (i < 0) || decide (n ≤ i.toNatClampNeg))
theorem ck_in {i : Int32} {n : Nat} (h : ck i n = true) : vp_in i n := by
  unfold vp_in
  intro q
  unfold ck at h
  rcases q with q | q
  · simp [q] at h
  · simp [q] at h
theorem ck_lt {i : Int32} {n : Nat} (h : ck i n = true) : i.toNatClampNeg < n := Nat.not_le.mp fun q => ck_in h (Or.inr q)
/-- a guard -/
def gd {α : Type} (b : Bool) (x : Option α) : Option α := if b = true then x else none
/-- a name for a value -/
def nm {α β : Type} (e : α) (f : α → Option β) : Option β := f e
def bd {α β : Type} (x : Option α) (f : α → Option β) : Option β := x.bind f
def bd2 {α γ β : Type} (x : Option (α × γ)) (f : α → γ → Option β) : Option β := x.bind fun p => f p.1 p.2
/-- a loop, at most k times: the body goes on (inl) or ends it (inr) -/
def lpF {S O : Type} (f : S → Option (S ⊕ O)) : Nat → S → Option O
  | 0 => fun _ => none
  | k + 1 => fun s => (f s).bind (Sum.elim (lpF f k) some)
/-- one place of one group is written -/
def wS (σ : St) (g j : Nat) (v : Int32) : St := (va_up σ.1 g (upd (σ.1 g) j v), σ.2)
/-- a whole group is written -/
def wG (σ : St) (g : Nat) (f : Nat → Int32) : St := (va_up σ.1 g f, σ.2)
def wL (σ : St) (j : Nat) (v : Int64) : St := (σ.1, vp_updL σ.2 j v)
def wLs (σ : St) (f : Nat → Int64) : St := (σ.1, f)
def isB (v : Int32) : Bool := decide (v &&& 1 = v)
theorem isB_n {v : Int32} (h : isB v = true) : narrow .boolean (.int v) = .int v := by
  show Value.int (v &&& 1) = .int v
  rw [of_decide_eq_true h]
section ORows
variable {α β γ δ : Type} {K : β → Option γ} {out : γ}
theorem obs {x : Option γ} (h : x = some out) : x.bind some = some out := by rw [h]; rfl
theorem obd {x : Option α} {f : α → Option β} (h : (bd x f).bind K = some out) : ∃ a, x = some a ∧ (f a).bind K = some out := by
  cases x with
  | none => cases h
  | some a => exact ⟨a, rfl, h⟩
theorem obd2 {x : Option (α × δ)} {f : α → δ → Option β} (h : (bd2 x f).bind K = some out) : ∃ a d, x = some (a, d) ∧ (f a d).bind K = some out := by
  cases x with
  | none => cases h
  | some a => exact ⟨a.1, a.2, rfl, h⟩
theorem onm {e : α} {f : α → Option β} (h : (nm e f).bind K = some out) : ∃ x, e = x ∧ (f x).bind K = some out := ⟨e, rfl, h⟩
theorem ogd {b : Bool} {x : Option β} (h : (gd b x).bind K = some out) : b = true ∧ x.bind K = some out := by
  cases b with
  | false => cases h
  | true => exact ⟨rfl, h⟩
theorem oit {c : Prop} {_ : Decidable c} {x y : Option β} (hc : c) (h : (if c then x else y).bind K = some out) : x.bind K = some out := by
  rw [if_pos hc] at h
  exact h
theorem oif {c : Prop} {_ : Decidable c} {x y : Option β} (hc : ¬ c) (h : (if c then x else y).bind K = some out) : y.bind K = some out := by
  rw [if_neg hc] at h
  exact h
theorem oun {x y : Option β} (e : x = y) (h : x.bind K = some out) : y.bind K = some out := e ▸ h
theorem ol0 {S O : Type} {f : S → Option (S ⊕ O)} {s : S} {F : O → Option β} (h : (bd (lpF f 0 s) F).bind K = some out) : False := by
  cases h
theorem ol1 {S O : Type} {f : S → Option (S ⊕ O)} {k : Nat} {s : S} {F : O → Option β} (h : (bd (lpF f (k + 1) s) F).bind K = some out) : ∃ K1 : S ⊕ O → Option γ, (f s).bind K1 = some out ∧ (∀ s', K1 (.inl s') = (bd (lpF f k s') F).bind K) ∧ ∀ o, K1 (.inr o) = (F o).bind K := by
  refine ⟨fun x => (bd (Sum.elim (lpF f k) some x) F).bind K, ?_, fun _ => rfl, fun _ => rfl⟩
  have h' : (((f s).bind (Sum.elim (lpF f k) some)).bind F).bind K = some out := h
  cases hx : f s with
  | none => rw [hx] at h'; cases h'
  | some x => rw [hx] at h'; exact h'
theorem okx {ε : Type} {K1 : ε → Option γ} {x : ε} {y : Option γ} (h : (some x).bind K1 = some out) (e : K1 x = y) : y = some out := e.symm.trans h
theorem oret {v r : α} {σ u : β} (h : (some (v, σ)).bind some = some (r, u)) : v = r ∧ σ = u := by
  cases h
  exact ⟨rfl, rfl⟩
end ORows
/-- the room of a recursion of depth k -/
def rrF (k : Nat) : Room := { frames := k, cells := 0, slots := 0, locals := 60 * k + 60 }
theorem rr_a {k f : Nat} (h : f + 1 ≤ k) : f + 1 ≤ (rrF k).frames := h
theorem rr_b {k x : Nat} (h : x ≤ 60 * k + 60) : x ≤ (rrF k).locals := h
/-! ===== the machine side: worlds, contracts, calls ===== -/
theorem wsL_in {y : MethodName} {bytes : ByteArray} {maxL : Nat} {ret : Option FieldType} (h : Cond.code y bytes maxL ret ∈ gW) : GoodIn gW (Cond.code y bytes maxL ret :: gW) := by
  intro w hw
  have hm : w ∈ gW := by
    rcases List.mem_cons.mp hw with e | e
    · rw [e]; exact h
    · exact e
  exact ⟨hm, good_of_word (gW_good w hm)⟩
abbrev nwA : Cond := .methodLinkNest RX3 15 yX5_has "NestedDolls"
abbrev nwB : Cond := .methodLinkNest RX1 55 yX5_has "NestedDolls"
def KN (U : State) : Prop := va_Nw nwA U ∧ va_Nw nwB U
theorem KN.warm {s U : State} (hW : s.WarmedH U.vm) (h : KN s) : KN U := ⟨va_Nw.warmM hW h.1, va_Nw.warmM hW h.2⟩
theorem KN.same {u U : State} (e : u.vm = U.vm) (h : KN u) : KN U := ⟨va_Nw.same rfl e h.1, va_Nw.same rfl e h.2⟩
abbrev tyW (c : Nat → ClassId) : List (ClassId × FieldType) := [(c 0, .int), (c 1, .long), (c 2, .boolean), (c 3, .object "NestedDolls$Doll"), (c 4, .object "NestedDolls$Sheet")]
def KK (D : va_G) (c : Nat → ClassId) (U : State) : Prop := va_K D vwCl (tyW c) U ∧ KN U
theorem KK.warm {D : va_G} {c : Nat → ClassId} {s U : State} (hW : s.WarmedH U.vm) (h : KK D c s) : KK D c U := ⟨va_K.moved hW.alike h.1, h.2.warm hW⟩
theorem KK.same {D : va_G} {c : Nat → ClassId} {u U : State} (e : u.vm = U.vm) (h : KK D c u) : KK D c U := ⟨va_K.moved (by rw [e]; exact Vm.Alike.refl U.vm) h.1, h.2.same e⟩
/-- the world of a system: a list of cells by its state -/
def Pw (wf : St → va_W) (D : va_G) (c : Nat → ClassId) (σ : St) : State → Prop := fun U => va_P D vwCl (wf σ) U.heap ∧ KK D c U
def Bw (wf : St → va_W) (D : va_G) : St → State → Prop := fun u t => va_P D vwCl (wf u) t.heap
theorem blP {wf : St → va_W} {D : va_G} {c : Nat → ClassId} {σ : St} {As : List Value} : FrameBlind (va_Pc As (Pw wf D c σ)) := fun _ _ _ _ q => ⟨q.1, q.2.1, q.2.2.same rfl⟩
theorem blS {As : List Value} : FrameBlind (va_Pc As KN) := fun _ _ _ _ q => ⟨q.1, q.2.same rfl⟩
theorem vP_eq {D : va_G} {cl : List vw_C} {ws ws' : va_W} {H : Heap} (e : ws = ws') (h : va_P D cl ws H) : va_P D cl ws' H := e ▸ h
abbrev MetI (l : Launch) (y : MethodName) (bytes : ByteArray) (maxL : Nat) (ret : Option FieldType) (rm : Room) (wf : St → va_W) (D : va_G) (c : Nat → ClassId) (A : Nat → Prop) (As : List Value) (σ : St) (r : Int32) (u : St) : Prop :=
  Met l y (Cond.code y bytes maxL ret :: gW) rm (va_Pc As (Pw wf D c σ)) (va_Qi (fun r' u' => r' = r ∧ u' = u) (Bw wf D) A) 0 0 A
abbrev MetL (l : Launch) (y : MethodName) (bytes : ByteArray) (maxL : Nat) (ret : Option FieldType) (rm : Room) (wf : St → va_W) (D : va_G) (c : Nat → ClassId) (A : Nat → Prop) (As : List Value) (σ : St) (r : Int64) (u : St) : Prop :=
  Met l y (Cond.code y bytes maxL ret :: gW) rm (va_Pc As (Pw wf D c σ)) (va_Ql (fun r' u' => r' = r ∧ u' = u) (Bw wf D) A) 0 0 A
abbrev MetV (l : Launch) (y : MethodName) (bytes : ByteArray) (maxL : Nat) (ret : Option FieldType) (rm : Room) (wf : St → va_W) (D : va_G) (c : Nat → ClassId) (A : Nat → Prop) (As : List Value) (σ : St) (u : St) : Prop :=
  Met l y (Cond.code y bytes maxL ret :: gW) rm (va_Pc As (Pw wf D c σ)) (va_Qv (fun u' => u' = u) (Bw wf D) A) 0 0 A
abbrev MetS (l : Launch) (y : MethodName) (bytes : ByteArray) (maxL : Nat) (ret : Option FieldType) (rm : Room) (As : List Value) (r : Int32) : Prop :=
  Met l y (Cond.code y bytes maxL ret :: gW) rm (va_Pc As KN) (vp_Si (fun r' => r' = r)) 0 0 (fun _ => False)
abbrev MetSl (l : Launch) (y : MethodName) (bytes : ByteArray) (maxL : Nat) (ret : Option FieldType) (rm : Room) (As : List Value) (r : Int64) : Prop :=
  Met l y (Cond.code y bytes maxL ret :: gW) rm (va_Pc As KN) (vp_Sl (fun r' => r' = r)) 0 0 (fun _ => False)
section Mk
variable {l : Launch} {y : MethodName} {bytes : ByteArray} {maxL : Nat} {ret : Option FieldType} {rm : Room} {wf : St → va_W} {D : va_G} {c : Nat → ClassId} {A : Nat → Prop} {As : List Value} {σ u : St}
/-- the start of a walk: what holds at the entry -/
abbrev At0 (p : Program) (s : State) (m : MethodId) (args : Array Value) (meth : Method) (cd : Code) (y : MethodName) (bytes : ByteArray) (maxL : Nat) (ret : Option FieldType) : Prop :=
  CallFix p m cd bytes maxL s args gW y.cls ∧ meth.sig.returnType = ret ∧ meth.locks = false
theorem at0_of {p : Program} {e : Env} {s s₁ : State} {m : MethodId} {args : Array Value} {below : List Frame} {meth : Method} {cd : Code} (B : BodyLoose p l y (headSpec (Cond.code y bytes maxL ret :: gW) rm) bytes maxL ret e s m args below meth cd s₁) (hml : cd.maxLocals = maxL) : At0 p s m args meth cd y bytes maxL ret := by
  have hts := atoms_spec (ws := Cond.code y bytes maxL ret :: gW) B.pre
  exact ⟨⟨B.exec, B.bytes, hml, findClass_of_methodNamed B.named, fun w h => hts w (List.mem_cons_of_mem _ h)⟩, B.returns, B.notSynchronized⟩
theorem mkI {r : Int32} (hy : plainName y.cls = true) (hlen : (lg_sl As).length ≤ maxL) {ty : FieldType} (hty : ret = some ty)
    (body : ∀ (p : Program) (e : Env) (s : State) (m : MethodId) (args : Array Value) (below : List Frame) (meth : Method) (cd : Code) (Q : State → Prop) (ls : Array Slot), At0 p s m args meth cd y bytes maxL ret → KK D c s → va_P D vwCl (wf σ) s.heap →
      (∀ (H : Heap) (locs : List Loc) (pc : Nat) (ls : Array Slot) (v : Int32) (σ' : St), decode bytes pc = .ok (.ireturn, 1) → narrow ty (.int v) = .int v → va_P D vwCl (wf σ') H → va_S A s.heap H locs → v = r ∧ σ' = u → W p l e rm s m args below meth cd H locs 0 0 Q (F0 m pc ls [.int v])) →
      lv_has ls maxL (lv_args 0 As) → W p l e rm s m args below meth cd s.heap [] 0 0 Q (F0 m 0 ls [])) : MetI l y bytes maxL ret rm wf D c A As σ r u := by
  refine Met.ofW (cc := bytes) (maxL := maxL) (ret := ret) hy rfl ?_
  intro p e s m args below meth cd s₁ B hml hv
  obtain ⟨rfl, hP, hK⟩ := hv
  have h0 := at0_of B hml
  rw [lg_entry_eq]
  refine body p e s m _ below meth cd _ _ h0 hK hP ?_ (lv_entry As hlen)
  intro H locs pc ls v σ' hdg hn hP hS hvu
  exact W.zret h0.1.1 h0.1.2.1 (h0.2.1.trans hty) hn (fun t ht hW => ⟨⟨v, σ', rfl, hvu, by show va_P D vwCl (wf σ') t.heap; rw [ht]; exact hP⟩, hS.F ht⟩) hS.2.2 hdg h0.2.2
theorem mkL {r : Int64} (hy : plainName y.cls = true) (hlen : (lg_sl As).length ≤ maxL) (hty : ret = some .long)
    (body : ∀ (p : Program) (e : Env) (s : State) (m : MethodId) (args : Array Value) (below : List Frame) (meth : Method) (cd : Code) (Q : State → Prop) (ls : Array Slot), At0 p s m args meth cd y bytes maxL ret → KK D c s → va_P D vwCl (wf σ) s.heap →
      (∀ (H : Heap) (locs : List Loc) (pc : Nat) (ls : Array Slot) (v : Int64) (σ' : St), decode bytes pc = .ok (.lreturn, 1) → va_P D vwCl (wf σ') H → va_S A s.heap H locs → v = r ∧ σ' = u → W p l e rm s m args below meth cd H locs 0 0 Q (F0 m pc ls [.long v])) →
      lv_has ls maxL (lv_args 0 As) → W p l e rm s m args below meth cd s.heap [] 0 0 Q (F0 m 0 ls [])) : MetL l y bytes maxL ret rm wf D c A As σ r u := by
  refine Met.ofW (cc := bytes) (maxL := maxL) (ret := ret) hy rfl ?_
  intro p e s m args below meth cd s₁ B hml hv
  obtain ⟨rfl, hP, hK⟩ := hv
  have h0 := at0_of B hml
  rw [lg_entry_eq]
  refine body p e s m _ below meth cd _ _ h0 hK hP ?_ (lv_entry As hlen)
  intro H locs pc ls v σ' hdg hP hS hvu
  exact W.lret h0.1.1 h0.1.2.1 (h0.2.1.trans hty) (fun t ht hW => ⟨⟨v, σ', rfl, hvu, by show va_P D vwCl (wf σ') t.heap; rw [ht]; exact hP⟩, hS.F ht⟩) hS.2.2 hdg h0.2.2
theorem mkV (hy : plainName y.cls = true) (hlen : (lg_sl As).length ≤ maxL) (hty : ret = none)
    (body : ∀ (p : Program) (e : Env) (s : State) (m : MethodId) (args : Array Value) (below : List Frame) (meth : Method) (cd : Code) (Q : State → Prop) (ls : Array Slot), At0 p s m args meth cd y bytes maxL ret → KK D c s → va_P D vwCl (wf σ) s.heap →
      (∀ (H : Heap) (locs : List Loc) (pc : Nat) (ls : Array Slot) (σ' : St), decode bytes pc = .ok (.return_, 1) → va_P D vwCl (wf σ') H → va_S A s.heap H locs → σ' = u → W p l e rm s m args below meth cd H locs 0 0 Q (F0 m pc ls [])) →
      lv_has ls maxL (lv_args 0 As) → W p l e rm s m args below meth cd s.heap [] 0 0 Q (F0 m 0 ls [])) : MetV l y bytes maxL ret rm wf D c A As σ u := by
  refine Met.ofW (cc := bytes) (maxL := maxL) (ret := ret) hy rfl ?_
  intro p e s m args below meth cd s₁ B hml hv
  obtain ⟨rfl, hP, hK⟩ := hv
  have h0 := at0_of B hml
  rw [lg_entry_eq]
  refine body p e s m _ below meth cd _ _ h0 hK hP ?_ (lv_entry As hlen)
  intro H locs pc ls σ' hdg hP hS hvu
  exact W.vret h0.1.1 h0.1.2.1 (h0.2.1.trans hty) (fun t ht hW => ⟨⟨σ', rfl, hvu, by show va_P D vwCl (wf σ') t.heap; rw [ht]; exact hP⟩, hS.F ht⟩) hS.2.2 hdg h0.2.2
theorem mkS {r : Int32} (hy : plainName y.cls = true) (hlen : (lg_sl As).length ≤ maxL) {ty : FieldType} (hty : ret = some ty)
    (body : ∀ (p : Program) (e : Env) (s : State) (m : MethodId) (args : Array Value) (below : List Frame) (meth : Method) (cd : Code) (Q : State → Prop) (ls : Array Slot), At0 p s m args meth cd y bytes maxL ret → KN s →
      (∀ (pc : Nat) (ls : Array Slot) (v : Int32), decode bytes pc = .ok (.ireturn, 1) → narrow ty (.int v) = .int v → v = r → W p l e rm s m args below meth cd s.heap [] 0 0 Q (F0 m pc ls [.int v])) →
      lv_has ls maxL (lv_args 0 As) → W p l e rm s m args below meth cd s.heap [] 0 0 Q (F0 m 0 ls [])) : MetS l y bytes maxL ret rm As r := by
  refine Met.ofW (cc := bytes) (maxL := maxL) (ret := ret) hy rfl ?_
  intro p e s m args below meth cd s₁ B hml hv
  obtain ⟨rfl, hK⟩ := hv
  have h0 := at0_of B hml
  rw [lg_entry_eq]
  refine body p e s m _ below meth cd _ _ h0 hK ?_ (lv_entry As hlen)
  intro pc ls v hdg hn hvu
  exact W.zret h0.1.1 h0.1.2.1 (h0.2.1.trans hty) hn (fun t ht hW => ⟨v, rfl, hvu, ht⟩) (fun q h => by cases h) hdg h0.2.2
theorem mkSl {r : Int64} (hy : plainName y.cls = true) (hlen : (lg_sl As).length ≤ maxL) (hty : ret = some .long)
    (body : ∀ (p : Program) (e : Env) (s : State) (m : MethodId) (args : Array Value) (below : List Frame) (meth : Method) (cd : Code) (Q : State → Prop) (ls : Array Slot), At0 p s m args meth cd y bytes maxL ret → KN s →
      (∀ (pc : Nat) (ls : Array Slot) (v : Int64), decode bytes pc = .ok (.lreturn, 1) → v = r → W p l e rm s m args below meth cd s.heap [] 0 0 Q (F0 m pc ls [.long v])) →
      lv_has ls maxL (lv_args 0 As) → W p l e rm s m args below meth cd s.heap [] 0 0 Q (F0 m 0 ls [])) : MetSl l y bytes maxL ret rm As r := by
  refine Met.ofW (cc := bytes) (maxL := maxL) (ret := ret) hy rfl ?_
  intro p e s m args below meth cd s₁ B hml hv
  obtain ⟨rfl, hK⟩ := hv
  have h0 := at0_of B hml
  rw [lg_entry_eq]
  refine body p e s m _ below meth cd _ _ h0 hK ?_ (lv_entry As hlen)
  intro pc ls v hdg hvu
  exact W.lret h0.1.1 h0.1.2.1 (h0.2.1.trans hty) (fun t ht hW => ⟨v, rfl, hvu, ht⟩) (fun q h => by cases h) hdg h0.2.2
end Mk
section Rows
variable {p : Program} {l : Launch} {e : Env} {R : Room} {s : State} {m : MethodId} {args : Array Value} {below : List Frame} {meth : Method} {c : Code} {H : Heap} {locs : List Loc} {cells slots : Nat} {Q : State → Prop} {pc : Nat} {ls : Array Slot} {rest : List Value}
theorem lv_nm {x z : Int32} (h : x = z) (k : W p l e R s m args below meth c H locs cells slots Q (F0 m pc ls (.int z :: rest))) : W p l e R s m args below meth c H locs cells slots Q (F0 m pc ls (.int x :: rest)) := by rw [h]; exact k
theorem lv_nml {x z : Int64} (h : x = z) (k : W p l e R s m args below meth c H locs cells slots Q (F0 m pc ls (.long z :: rest))) : W p l e R s m args below meth c H locs cells slots Q (F0 m pc ls (.long x :: rest)) := by rw [h]; exact k
variable {y : MethodName} {bytes cc : ByteArray} {maxL nL n idx : Nat} {ret : Option FieldType} {rm : Room} {own C : String} {As st0 : List Value}
variable {wf : St → va_W} {D : va_G} {cA : Nat → ClassId} {A : Nat → Prop} {σ u : St} {b : Nat}
/-- what a callee is: its code among the words, initialised, its name, how many arguments -/
abbrev Cal (y : MethodName) (bytes : ByteArray) (maxL : Nat) (ret : Option FieldType) (n : Nat) : Prop :=
  Cond.code y bytes maxL ret ∈ gW ∧ Cond.initialized y.cls ∈ gW ∧ (y.cls ≠ "java/lang/invoke/MethodHandle" ∧ y.cls ≠ "java/lang/invoke/VarHandle" ∧ (parseMethodDescriptor y.desc).map (fun d => d.parameters.length) = some n)
theorem cal_B (S : CallFix p m c cc nL s args gW own) (hc : Cal y bytes maxL ret n) (hl : Cond.methodLink own idx y ∈ gW) (hR : rm.frames + 1 ≤ R.frames ∧ 8 + (maxL + 11) + rm.locals ≤ R.locals) (h0 : rm.cells = 0 ∧ rm.slots = 0) : CallB R s args own idx y bytes maxL ret (Cond.code y bytes maxL ret :: gW) rm 0 0 n :=
  callB_of n S.2.2.2.2 (wsL_in hc.1) rfl h0.1 h0.2 (S.2.2.2.2 _ hc.2.1) (S.2.2.2.2 _ hl) hc.2.2 hR
variable (S : CallFix p m c cc nL s args gW own) (hc : Cal y bytes maxL ret n)
/-- static, whole numbers alone -/
theorem xs_S (S : CallFix p m c cc nL s args gW own) (hc : Cal y bytes maxL ret n) (hl : Cond.methodLink own idx y ∈ gW) (hst : Cond.static y ∈ gW) (hR : rm.frames + 1 ≤ R.frames ∧ 8 + (maxL + 11) + rm.locals ≤ R.locals) (h0 : rm.cells = 0 ∧ rm.slots = 0) {r : Int32} (hM : MetS l y bytes maxL ret rm As r) (hK : KN s) (hn : As.length = n) (hsz : ls.size = nL) (he : st0 = As.reverse ++ rest) (hro : (rest.map fun v => v.category).sum ≤ 8) (hdg : decode cc pc = .ok (.invokestatic idx, 3)) (hcs : cells ≤ R.cells ∧ slots ≤ R.slots)
    (kk : W p l e R s m args below meth c H locs cells slots Q (F0 m (pc + 3) ls (.int r :: rest))) : W p l e R s m args below meth c H locs cells slots Q (F0 m pc ls st0) := by
  refine vp_callSi (rest := rest) (W.runS (g := F0 m pc ls st0) (As := As) S hM ⟨cal_B S hc hl hR h0, S.2.2.2.2 _ hst⟩ ⟨blS, fun U hU hW => ⟨rfl, hK.warm hW⟩⟩ rfl hn hsz he (lv_room hro) hdg hcs) (fun r' hr => ?_)
  rw [hr]; exact kk
theorem xs_Sl (S : CallFix p m c cc nL s args gW own) (hc : Cal y bytes maxL ret n) (hl : Cond.methodLink own idx y ∈ gW) (hst : Cond.static y ∈ gW) (hR : rm.frames + 1 ≤ R.frames ∧ 8 + (maxL + 11) + rm.locals ≤ R.locals) (h0 : rm.cells = 0 ∧ rm.slots = 0) {r : Int64} (hM : MetSl l y bytes maxL ret rm As r) (hK : KN s) (hn : As.length = n) (hsz : ls.size = nL) (he : st0 = As.reverse ++ rest) (hro : (rest.map fun v => v.category).sum ≤ 8) (hdg : decode cc pc = .ok (.invokestatic idx, 3)) (hcs : cells ≤ R.cells ∧ slots ≤ R.slots)
    (kk : W p l e R s m args below meth c H locs cells slots Q (F0 m (pc + 3) ls (.long r :: rest))) : W p l e R s m args below meth c H locs cells slots Q (F0 m pc ls st0) := by
  refine vp_callSl (rest := rest) (W.runS (g := F0 m pc ls st0) (As := As) S hM ⟨cal_B S hc hl hR h0, S.2.2.2.2 _ hst⟩ ⟨blS, fun U hU hW => ⟨rfl, hK.warm hW⟩⟩ rfl hn hsz he (lv_room hro) hdg hcs) (fun r' hr => ?_)
  rw [hr]; exact kk
/-- static of a nest mate, whole numbers alone -/
theorem xn_S {host : String} (S : CallFix p m c cc nL s args gW own) (hc : Cal y bytes maxL ret n) (hl : va_Nw (.methodLinkNest own idx y host) s) (hst : Cond.static y ∈ gW) (hR : rm.frames + 1 ≤ R.frames ∧ 8 + (maxL + 11) + rm.locals ≤ R.locals) (h0 : rm.cells = 0 ∧ rm.slots = 0) {r : Int32} (hM : MetS l y bytes maxL ret rm As r) (hK : KN s) (hn : As.length = n) (hsz : ls.size = nL) (he : st0 = As.reverse ++ rest) (hro : (rest.map fun v => v.category).sum ≤ 8) (hdg : decode cc pc = .ok (.invokestatic idx, 3)) (hcs : cells ≤ R.cells ∧ slots ≤ R.slots)
    (kk : W p l e R s m args below meth c H locs cells slots Q (F0 m (pc + 3) ls (.int r :: rest))) : W p l e R s m args below meth c H locs cells slots Q (F0 m pc ls st0) := by
  have hr := va_runSN (locs := locs) (cells := cells) (slots := slots) (below := below) (meth := meth) (H := H) (e := e) (R := R) (g := F0 m pc ls st0) (rest := rest) (As := As) S hM ⟨va_cnB n S.2.2.2.2 (wsL_in hc.1) rfl h0.1 h0.2 hl (S.2.2.2.2 _ hc.2.1) hc.2.2 hR, S.2.2.2.2 _ hst, trivial⟩ ⟨blS, fun U hU hW => ⟨rfl, hK.warm hW⟩⟩ rfl hn hsz he (lv_room hro) hdg hcs
  refine vp_callSi (rest := rest) (post := fun r' => r' = r) (a := As.toArray) (fun T hT X => ?_) (fun r' hr => ?_)
  · obtain ⟨v, st₀, t, T', L, h1, h2, h3, h4, -, h5, h6⟩ := hr T hT X
    exact ⟨v, st₀, t, T', L, h1, h2, h3, h4, h5, h6⟩
  · rw [hr]; exact kk
/-- a call over the whole world -/
theorem xv_I (S : CallFix p m c cc nL s args gW own) (hc : Cal y bytes maxL ret n) (hl : Cond.methodLink own idx y ∈ gW) (hin : Cond.instanceMethod y ∈ gW) (hse : Cond.selects C y y ∈ gW) (hR : rm.frames + 1 ≤ R.frames ∧ 8 + (maxL + 11) + rm.locals ≤ R.locals) (h0 : rm.cells = 0 ∧ rm.slots = 0) {r : Int32} (hM : MetI l y bytes maxL ret rm wf D cA A (.ref b :: As) σ r u) (hK : KK D cA s) (hP : va_P D vwCl (wf σ) H) (hS : va_S A s.heap H locs) (hrec : ∃ cell : Cell, H[b]? = some cell ∧ cell.vm.isStatics = false ∧ s.vm.findClass C = some cell.cls) (hn : As.length = n) (hsz : ls.size = nL) (he : st0 = As.reverse ++ .ref b :: rest) (hro : (rest.map fun v => v.category).sum ≤ 8) (hdg : decode cc pc = .ok (.invokevirtual idx, 3)) (hcs : cells ≤ R.cells ∧ slots ≤ R.slots)
    (kk : ∀ (H : Heap) (locs : List Loc), va_P D vwCl (wf u) H → va_S A s.heap H locs → W p l e R s m args below meth c H locs cells slots Q (F0 m (pc + 3) ls (.int r :: rest))) : W p l e R s m args below meth c H locs cells slots Q (F0 m pc ls st0) := by
  refine va_calli (rest := rest) (va_runV (g := F0 m pc ls st0) (As := As) S hM ⟨cal_B S hc hl hR h0, S.2.2.2.2 _ hin, S.2.2.2.2 _ hse⟩ ⟨blP, hrec, fun U hU hW => ⟨rfl, by rw [hU]; exact hP, hK.warm hW⟩⟩ rfl hn hsz he (lv_room hro) hdg hcs) hS (fun _ _ h => h) (fun _ h => h) (fun r' u' t H1 locs1 ht hvm hw hB hz1 hk1 hS1 => ?_)
  obtain ⟨rfl, rfl⟩ := hw
  exact kk H1 locs1 (by rw [← ht]; exact hB) hS1
theorem xv_L (S : CallFix p m c cc nL s args gW own) (hc : Cal y bytes maxL ret n) (hl : Cond.methodLink own idx y ∈ gW) (hin : Cond.instanceMethod y ∈ gW) (hse : Cond.selects C y y ∈ gW) (hR : rm.frames + 1 ≤ R.frames ∧ 8 + (maxL + 11) + rm.locals ≤ R.locals) (h0 : rm.cells = 0 ∧ rm.slots = 0) {r : Int64} (hM : MetL l y bytes maxL ret rm wf D cA A (.ref b :: As) σ r u) (hK : KK D cA s) (hP : va_P D vwCl (wf σ) H) (hS : va_S A s.heap H locs) (hrec : ∃ cell : Cell, H[b]? = some cell ∧ cell.vm.isStatics = false ∧ s.vm.findClass C = some cell.cls) (hn : As.length = n) (hsz : ls.size = nL) (he : st0 = As.reverse ++ .ref b :: rest) (hro : (rest.map fun v => v.category).sum ≤ 8) (hdg : decode cc pc = .ok (.invokevirtual idx, 3)) (hcs : cells ≤ R.cells ∧ slots ≤ R.slots)
    (kk : ∀ (H : Heap) (locs : List Loc), va_P D vwCl (wf u) H → va_S A s.heap H locs → W p l e R s m args below meth c H locs cells slots Q (F0 m (pc + 3) ls (.long r :: rest))) : W p l e R s m args below meth c H locs cells slots Q (F0 m pc ls st0) := by
  refine va_calll (rest := rest) (va_runV (g := F0 m pc ls st0) (As := As) S hM ⟨cal_B S hc hl hR h0, S.2.2.2.2 _ hin, S.2.2.2.2 _ hse⟩ ⟨blP, hrec, fun U hU hW => ⟨rfl, by rw [hU]; exact hP, hK.warm hW⟩⟩ rfl hn hsz he (lv_room hro) hdg hcs) hS (fun _ _ h => h) (fun _ h => h) (fun r' u' t H1 locs1 ht hvm hw hB hz1 hk1 hS1 => ?_)
  obtain ⟨rfl, rfl⟩ := hw
  exact kk H1 locs1 (by rw [← ht]; exact hB) hS1
theorem xv_V (S : CallFix p m c cc nL s args gW own) (hc : Cal y bytes maxL ret n) (hl : Cond.methodLink own idx y ∈ gW) (hin : Cond.instanceMethod y ∈ gW) (hse : Cond.selects C y y ∈ gW) (hR : rm.frames + 1 ≤ R.frames ∧ 8 + (maxL + 11) + rm.locals ≤ R.locals) (h0 : rm.cells = 0 ∧ rm.slots = 0) (hM : MetV l y bytes maxL ret rm wf D cA A (.ref b :: As) σ u) (hK : KK D cA s) (hP : va_P D vwCl (wf σ) H) (hS : va_S A s.heap H locs) (hrec : ∃ cell : Cell, H[b]? = some cell ∧ cell.vm.isStatics = false ∧ s.vm.findClass C = some cell.cls) (hn : As.length = n) (hsz : ls.size = nL) (he : st0 = As.reverse ++ .ref b :: rest) (hro : (rest.map fun v => v.category).sum ≤ 8) (hdg : decode cc pc = .ok (.invokevirtual idx, 3)) (hcs : cells ≤ R.cells ∧ slots ≤ R.slots)
    (kk : ∀ (H : Heap) (locs : List Loc), va_P D vwCl (wf u) H → va_S A s.heap H locs → W p l e R s m args below meth c H locs cells slots Q (F0 m (pc + 3) ls rest)) : W p l e R s m args below meth c H locs cells slots Q (F0 m pc ls st0) := by
  refine va_callv (rest := rest) (va_runV (g := F0 m pc ls st0) (As := As) S hM ⟨cal_B S hc hl hR h0, S.2.2.2.2 _ hin, S.2.2.2.2 _ hse⟩ ⟨blP, hrec, fun U hU hW => ⟨rfl, by rw [hU]; exact hP, hK.warm hW⟩⟩ rfl hn hsz he (lv_room hro) hdg hcs) hS (fun _ _ h => h) (fun _ h => h) (fun u' t H1 locs1 ht hvm hw hB hz1 hk1 hS1 => ?_)
  subst hw
  exact kk H1 locs1 (by rw [← ht]; exact hB) hS1
/-- static over the whole world -/
theorem xs_I (S : CallFix p m c cc nL s args gW own) (hc : Cal y bytes maxL ret n) (hl : Cond.methodLink own idx y ∈ gW) (hst : Cond.static y ∈ gW) (hR : rm.frames + 1 ≤ R.frames ∧ 8 + (maxL + 11) + rm.locals ≤ R.locals) (h0 : rm.cells = 0 ∧ rm.slots = 0) {r : Int32} (hM : MetI l y bytes maxL ret rm wf D cA A As σ r u) (hK : KK D cA s) (hP : va_P D vwCl (wf σ) H) (hS : va_S A s.heap H locs) (hn : As.length = n) (hsz : ls.size = nL) (he : st0 = As.reverse ++ rest) (hro : (rest.map fun v => v.category).sum ≤ 8) (hdg : decode cc pc = .ok (.invokestatic idx, 3)) (hcs : cells ≤ R.cells ∧ slots ≤ R.slots)
    (kk : ∀ (H : Heap) (locs : List Loc), va_P D vwCl (wf u) H → va_S A s.heap H locs → W p l e R s m args below meth c H locs cells slots Q (F0 m (pc + 3) ls (.int r :: rest))) : W p l e R s m args below meth c H locs cells slots Q (F0 m pc ls st0) := by
  refine va_calli (rest := rest) (va_runS (g := F0 m pc ls st0) (As := As) S hM ⟨cal_B S hc hl hR h0, S.2.2.2.2 _ hst⟩ ⟨blP, fun U hU hW => ⟨rfl, by rw [hU]; exact hP, hK.warm hW⟩⟩ rfl hn hsz he (lv_room hro) hdg hcs) hS (fun _ _ h => h) (fun _ h => h) (fun r' u' t H1 locs1 ht hvm hw hB hz1 hk1 hS1 => ?_)
  obtain ⟨rfl, rfl⟩ := hw
  exact kk H1 locs1 (by rw [← ht]; exact hB) hS1
theorem xs_V (S : CallFix p m c cc nL s args gW own) (hc : Cal y bytes maxL ret n) (hl : Cond.methodLink own idx y ∈ gW) (hst : Cond.static y ∈ gW) (hR : rm.frames + 1 ≤ R.frames ∧ 8 + (maxL + 11) + rm.locals ≤ R.locals) (h0 : rm.cells = 0 ∧ rm.slots = 0) (hM : MetV l y bytes maxL ret rm wf D cA A As σ u) (hK : KK D cA s) (hP : va_P D vwCl (wf σ) H) (hS : va_S A s.heap H locs) (hn : As.length = n) (hsz : ls.size = nL) (he : st0 = As.reverse ++ rest) (hro : (rest.map fun v => v.category).sum ≤ 8) (hdg : decode cc pc = .ok (.invokestatic idx, 3)) (hcs : cells ≤ R.cells ∧ slots ≤ R.slots)
    (kk : ∀ (H : Heap) (locs : List Loc), va_P D vwCl (wf u) H → va_S A s.heap H locs → W p l e R s m args below meth c H locs cells slots Q (F0 m (pc + 3) ls rest)) : W p l e R s m args below meth c H locs cells slots Q (F0 m pc ls st0) := by
  refine va_callv (rest := rest) (va_runS (g := F0 m pc ls st0) (As := As) S hM ⟨cal_B S hc hl hR h0, S.2.2.2.2 _ hst⟩ ⟨blP, fun U hU hW => ⟨rfl, by rw [hU]; exact hP, hK.warm hW⟩⟩ rfl hn hsz he (lv_room hro) hdg hcs) hS (fun _ _ h => h) (fun _ h => h) (fun u' t H1 locs1 ht hvm hw hB hz1 hk1 hS1 => ?_)
  subst hw
  exact kk H1 locs1 (by rw [← ht]; exact hB) hS1
end Rows
