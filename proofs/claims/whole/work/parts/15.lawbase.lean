/-! ===== the law: two worlds side by side ===== -/
theorem va_D_cong {A : Nat → Prop} {w w' : va_W} (h : w.map Prod.fst = w'.map Prod.fst) (hD : va_D A w) : va_D A w' := by
  have key : ∀ (k : Nat) (q : Nat × va_E), w'[k]? = some q → ∃ q0, w[k]? = some q0 ∧ q0.1 = q.1 := by
    intro k q hk
    have h1 : (w'.map Prod.fst)[k]? = some q.1 := by rw [List.getElem?_map, hk]; rfl
    rw [← h, List.getElem?_map] at h1
    cases hw : w[k]? with
    | none => rw [hw] at h1; cases h1
    | some q0 => rw [hw] at h1; exact ⟨q0, rfl, Option.some.inj h1⟩
  refine ⟨fun i j x y hi hj hxy => ?_, fun k q hk => ?_⟩
  · obtain ⟨x0, h1, h2⟩ := key i x hi
    obtain ⟨y0, h3, h4⟩ := key j y hj
    exact hD.1 i j x0 y0 h1 h3 (h2.trans (hxy.trans h4.symm))
  · obtain ⟨q0, h1, h2⟩ := key k q hk
    rw [← h2]
    exact hD.2 k q0 h1
theorem va_D_left {A : Nat → Prop} {w1 w2 : va_W} (h : va_D A (w1 ++ w2)) : va_D A w1 := by
  have key : ∀ (k : Nat) (q : Nat × va_E), w1[k]? = some q → (w1 ++ w2)[k]? = some q := fun k q hk => by
    rw [List.getElem?_append_left (List.getElem?_eq_some_iff.mp hk).1]; exact hk
  exact ⟨fun i j x y hi hj e => h.1 i j x y (key i x hi) (key j y hj) e, fun k q hk => h.2 k q (key k q hk)⟩
theorem va_D_right {A : Nat → Prop} {w1 w2 : va_W} (h : va_D A (w1 ++ w2)) : va_D A w2 := by
  have key : ∀ (k : Nat) (q : Nat × va_E), w2[k]? = some q → (w1 ++ w2)[w1.length + k]? = some q := fun k q hk => by
    rw [List.getElem?_append_right (by omega), Nat.add_sub_cancel_left]; exact hk
  refine ⟨fun i j x y hi hj e => ?_, fun k q hk => h.2 _ q (key k q hk)⟩
  have := h.1 _ _ x y (key i x hi) (key j y hj) e
  omega
theorem va_P_left {D : va_G} {cl : List vw_C} {w1 w2 : va_W} {H : Heap} (h : va_P D cl (w1 ++ w2) H) : va_P D cl w1 H := fun k q hk => h k q (by rw [List.getElem?_append_left (List.getElem?_eq_some_iff.mp hk).1]; exact hk)
theorem va_P_right {D : va_G} {cl : List vw_C} {w1 w2 : va_W} {H : Heap} (h : va_P D cl (w1 ++ w2) H) : va_P D cl w2 H := fun k q hk => h (w1.length + k) q (by rw [List.getElem?_append_right (by omega), Nat.add_sub_cancel_left]; exact hk)
/-- behind a call over the first world: the second is as it was -/
theorem va_joinA {A0 : Nat → Prop} {D : va_G} {cl : List vw_C} {w1 w2 w3 : va_W} {H H1 : Heap} (hP : va_P D cl (w1 ++ w2) H) (hD : va_D A0 (w1 ++ w2)) (hk : ∀ q : Nat, q < H.size → ¬ va_A w1 H.size q → H1[q]? = H[q]?) (hF : ∀ q, va_A w1 H.size q → A0 q) (hP1 : va_P D cl w3 H1) (hD1 : va_D (va_A w1 H.size) w3) : va_P D cl (w2 ++ w3) H1 ∧ va_D A0 (w2 ++ w3) := by
  have apart : ∀ (k : Nat) (q : Nat × va_E), w2[k]? = some q → q.1 < H.size ∧ ¬ va_A w1 H.size q.1 := by
    intro k q hq
    have h2 : (w1 ++ w2)[w1.length + k]? = some q := by rw [List.getElem?_append_right (by omega), Nat.add_sub_cancel_left]; exact hq
    have hl := (hP _ q h2).lt
    refine ⟨hl, fun h => ?_⟩
    rcases h with ⟨k2, e, h⟩ | h
    · have h3 : (w1 ++ w2)[k2]? = some (q.1, e) := by rw [List.getElem?_append_left (List.getElem?_eq_some_iff.mp h).1]; exact h
      have hij := hD.1 _ _ q (q.1, e) h2 h3 rfl
      have := (List.getElem?_eq_some_iff.mp h).1
      omega
    · omega
  refine ⟨va_P.app (fun k q hq => ?_) hP1, va_D.app (va_D_right hD) (hD1.weaken (fun k q _ h => hF q.1 h)) (fun i j x y hx hy hxy => ?_)⟩
  · obtain ⟨g1, g2⟩ := apart k q hq
    exact (va_P_right hP k q hq).kept (hk q.1 g1 g2)
  · exact (apart i x hx).2 (by rw [hxy]; exact hD1.2 j y hy)
section LawRows
variable {p : Program} {l : Launch} {e : Env} {R : Room} {s : State} {m : MethodId} {args : Array Value} {below : List Frame} {meth : Method} {c : Code} {H : Heap} {locs : List Loc} {cells slots : Nat} {Q : State → Prop} {pc : Nat} {ls : Array Slot} {rest : List Value}
variable {y : MethodName} {bytes cc : ByteArray} {maxL nL n idx : Nat} {ret : Option FieldType} {rm : Room} {own C : String} {As st0 : List Value}
variable {wf : St → va_W} {w2 : va_W} {D : va_G} {cA : Nat → ClassId} {A : Nat → Prop} {σ u : St} {b : Nat}
theorem law_free (hD : va_D A (wf σ ++ w2)) (hS : va_S A s.heap H locs) (hA : ∀ q, s.heap.size ≤ q → A q) : ∀ q, va_A (wf σ) H.size q → A q := by
  intro q h
  rcases h with ⟨k, e, h⟩ | h
  · exact (va_D_left hD).2 k (q, e) h
  · exact hA q (Nat.le_trans hS.1 h)
theorem xl_I (S : CallFix p m c cc nL s args gW own) (hc : Cal y bytes maxL ret n) (hl : Cond.methodLink own idx y ∈ gW) (hin : Cond.instanceMethod y ∈ gW) (hse : Cond.selects C y y ∈ gW) (hR : rm.frames + 1 ≤ R.frames ∧ 8 + (maxL + 11) + rm.locals ≤ R.locals) (h0 : rm.cells = 0 ∧ rm.slots = 0) {r : Int32} (hM : ∀ A : Nat → Prop, (∀ σ, va_D A (wf σ)) → MetI l y bytes maxL ret rm wf D cA A (.ref b :: As) σ r u) (hcg : ∀ σ σ', (wf σ).map Prod.fst = (wf σ').map Prod.fst) (hK : KK D cA s) (hP : va_P D vwCl (wf σ ++ w2) H) (hD : va_D A (wf σ ++ w2)) (hS : va_S A s.heap H locs) (hA : ∀ q, s.heap.size ≤ q → A q) (hrec : ∃ cell : Cell, H[b]? = some cell ∧ cell.vm.isStatics = false ∧ s.vm.findClass C = some cell.cls) (hn : As.length = n) (hsz : ls.size = nL) (he : st0 = As.reverse ++ .ref b :: rest) (hro : (rest.map fun v => v.category).sum ≤ 8) (hdg : decode cc pc = .ok (.invokevirtual idx, 3)) (hcs : cells ≤ R.cells ∧ slots ≤ R.slots)
    (kk : ∀ (H : Heap) (locs : List Loc), va_P D vwCl (w2 ++ wf u) H → va_D A (w2 ++ wf u) → va_S A s.heap H locs → W p l e R s m args below meth c H locs cells slots Q (F0 m (pc + 3) ls (.int r :: rest))) : W p l e R s m args below meth c H locs cells slots Q (F0 m pc ls st0) := by
  have hF := law_free hD hS hA
  have hDs : ∀ σ', va_D (va_A (wf σ) H.size) (wf σ') := fun σ' => va_D_cong (hcg σ σ') ((va_D_left hD).self)
  refine va_calli (rest := rest) (va_runV (g := F0 m pc ls st0) (As := As) S (hM _ hDs) ⟨cal_B S hc hl hR h0, S.2.2.2.2 _ hin, S.2.2.2.2 _ hse⟩ ⟨blP, hrec, fun U hU hW => ⟨rfl, by rw [hU]; exact va_P_left hP, hK.warm hW⟩⟩ rfl hn hsz he (lv_room hro) hdg hcs) hS (fun q _ h => hF q h) hF (fun r' u' t H1 locs1 ht hvm hw hB hz1 hk1 hS1 => ?_)
  obtain ⟨rfl, rfl⟩ := hw
  obtain ⟨h1, h2⟩ := va_joinA hP hD hk1 hF (show va_P D vwCl (wf u') H1 by rw [← ht]; exact hB) (hDs u')
  exact kk H1 locs1 h1 h2 hS1
theorem xl_L (S : CallFix p m c cc nL s args gW own) (hc : Cal y bytes maxL ret n) (hl : Cond.methodLink own idx y ∈ gW) (hin : Cond.instanceMethod y ∈ gW) (hse : Cond.selects C y y ∈ gW) (hR : rm.frames + 1 ≤ R.frames ∧ 8 + (maxL + 11) + rm.locals ≤ R.locals) (h0 : rm.cells = 0 ∧ rm.slots = 0) {r : Int64} (hM : ∀ A : Nat → Prop, (∀ σ, va_D A (wf σ)) → MetL l y bytes maxL ret rm wf D cA A (.ref b :: As) σ r u) (hcg : ∀ σ σ', (wf σ).map Prod.fst = (wf σ').map Prod.fst) (hK : KK D cA s) (hP : va_P D vwCl (wf σ ++ w2) H) (hD : va_D A (wf σ ++ w2)) (hS : va_S A s.heap H locs) (hA : ∀ q, s.heap.size ≤ q → A q) (hrec : ∃ cell : Cell, H[b]? = some cell ∧ cell.vm.isStatics = false ∧ s.vm.findClass C = some cell.cls) (hn : As.length = n) (hsz : ls.size = nL) (he : st0 = As.reverse ++ .ref b :: rest) (hro : (rest.map fun v => v.category).sum ≤ 8) (hdg : decode cc pc = .ok (.invokevirtual idx, 3)) (hcs : cells ≤ R.cells ∧ slots ≤ R.slots)
    (kk : ∀ (H : Heap) (locs : List Loc), va_P D vwCl (w2 ++ wf u) H → va_D A (w2 ++ wf u) → va_S A s.heap H locs → W p l e R s m args below meth c H locs cells slots Q (F0 m (pc + 3) ls (.long r :: rest))) : W p l e R s m args below meth c H locs cells slots Q (F0 m pc ls st0) := by
  have hF := law_free hD hS hA
  have hDs : ∀ σ', va_D (va_A (wf σ) H.size) (wf σ') := fun σ' => va_D_cong (hcg σ σ') ((va_D_left hD).self)
  refine va_calll (rest := rest) (va_runV (g := F0 m pc ls st0) (As := As) S (hM _ hDs) ⟨cal_B S hc hl hR h0, S.2.2.2.2 _ hin, S.2.2.2.2 _ hse⟩ ⟨blP, hrec, fun U hU hW => ⟨rfl, by rw [hU]; exact va_P_left hP, hK.warm hW⟩⟩ rfl hn hsz he (lv_room hro) hdg hcs) hS (fun q _ h => hF q h) hF (fun r' u' t H1 locs1 ht hvm hw hB hz1 hk1 hS1 => ?_)
  obtain ⟨rfl, rfl⟩ := hw
  obtain ⟨h1, h2⟩ := va_joinA hP hD hk1 hF (show va_P D vwCl (wf u') H1 by rw [← ht]; exact hB) (hDs u')
  exact kk H1 locs1 h1 h2 hS1
end LawRows
/-! the two systems answer alike: by a relation between their states -/
def SimWW {ρ : Type} (R : St → St → Prop) (f g : St → Option (ρ × St)) : Prop := ∀ σ τ, R σ τ → ∃ r σ' τ', f σ = some (r, σ') ∧ g τ = some (r, τ') ∧ R σ' τ'
def SimRW {ρ : Type} (R : St → St → Prop) (f : St → Option ρ) (g : St → Option (ρ × St)) : Prop := ∀ σ τ, R σ τ → ∃ r τ', f σ = some r ∧ g τ = some (r, τ') ∧ R σ τ'
def SimRR {ρ : Type} (R : St → St → Prop) (f : St → Option ρ) (g : St → Option ρ) : Prop := ∀ σ τ, R σ τ → ∃ r, f σ = some r ∧ g τ = some r
theorem law_ge {i L : Nat} (hi : i < 1000000) (hL : L < 1000000) (h : ¬ nI L - 6 < nI i) : i + 6 ≤ L := by
  have e : (nI L - nI 6).toInt = (L : Int) - 6 := pk_sub_toInt (by omega) (by omega)
  have e2 : (nI i).toInt = (i : Int) := nI_toInt (by omega)
  have h' : ¬ (nI L - nI 6).toInt < (nI i).toInt := fun q => h (Int32.lt_iff_toInt_lt.mpr q)
  rw [e, e2] at h'
  omega
theorem law_6 (i : Nat) : nI i + (6 : Int32) = nI (i + 6) := nI_add i 6

theorem lg_cmp_self (x : Int64) : lg_cmp x x = 0 := by simp [lg_cmp]
/-! THE CLAIM OUT OF ONE WALK OF THE LAW'S BODY. Your part is whole_start (and what it stands on); all else here is the same for every law, but numbers. -/
def R_law : String := "NestedDollsLaw"
def lw_P (b : Addr) (xs : List Int32) (args : Array Value) (s : State) : Prop := args = #[.ref b] ∧ s.IntsAt b xs ∧ xs.length ≤ 3072 ∧ (Jvm.Cond.and given_1 narrow_1).before args s = true
def lw_Q (_ : Array Value) (s : State) (o : Outcome) (t : State) : Prop := o = .returned (some (.int 1)) ∧ Framed s o t [] 600000 7302250
def lw_Z (below : List Frame) (a : Array Value) (s : State) : State → Prop := fun t => ∃ o, t.status = .running ∧ Ended t below o ∧ lw_Q a s o t
/-- the law's own end, with 1 on the stack, nothing written that was there before, its room as the claim has it -/
theorem lw_ret {p : Program} {l : Launch} {e : Env} {s : State} {m : MethodId} {below : List Frame} {meth : Method} {c : Code} {b : Nat} (hx : p.tables.exec = Jvm.exec) (hb : c.code = code) (hr : meth.sig.returnType = ret) (hlocks : meth.locks = false) {pc : Nat} {H : Heap} {ls : Array Slot} (hdg : decode code pc = .ok (.ireturn, 1)) : W p l e room_1 s m #[Value.ref b] below meth c H [] 600000 7302250 (lw_Z below #[Value.ref b] s) (F0 m pc ls [.int 1]) := by
  intro T hT X
  obtain ⟨fs, hret, hrun, hended, hW, hframe⟩ := X.leave (v := some (.int 1)) (hlocks := hlocks) (fun h => by rw [hr] at h; cases h)
  have hmeth' : T.vm.method? m = some meth := X.method'
  refine ⟨T.setFrames fs, ?_, .returned (some (.int 1)), hrun, hended, rfl, ⟨_, rfl⟩, hW, hframe⟩
  jvm_step X.here [X.here.top, hx, hb, hdg, hmeth', hr, ret, narrow_b1]
  (try refine ⟨rfl, ?_⟩); (try refine ⟨rfl, ?_⟩)
  first | (intro acts; rw [hret _ acts rfl rfl rfl]) | rw [hret _ _ rfl rfl rfl]
  exact Steps.refl _
/-- what holds at the law's entry: the machine, the code, the tables' words (any of lw_tbl by 'hts w (by decide +kernel)'), the script of L ints xs at the cell b, what the Statement gives of the start (any of its parts by flat_of_before) -/
def lw_At (p : Program) (s : State) (m : MethodId) (meth : Method) (c : Code) (b L : Nat) (xs : Nat → Int32) : Prop :=
  p.tables.exec = Jvm.exec ∧ c.code = code ∧ meth.sig.returnType = ret ∧ c.maxLocals = 4 ∧ s.vm.findClass R_law = some m.cls ∧ (∀ w ∈ lw_tbl, w.before #[Value.ref b] s = true) ∧ va_X b L xs s s.heap ∧ b < s.heap.size ∧ meth.locks = false ∧ (Jvm.Cond.and given_1 narrow_1).before #[Value.ref b] s = true

def S_dolls (N : Nat) (R : St → St → Prop) : Prop := (∀ (v1 v2 v3 v4 : Int32), SimWW R (f_X5_dolls N v1 v2 v3 v4) (f_X6_dolls N v1 v2 v3 v4))
def S_ofDoll (N : Nat) (R : St → St → Prop) : Prop := (∀ (v1 v2 : Int32), SimRR R (f_X5_ofDoll N v1 v2) (f_X6_ofDoll N v1 v2))
def S_girth (N : Nat) (R : St → St → Prop) : Prop := (∀ (v1 v2 : Int32), SimWW R (f_X5_girth v1 v2) (f_X6_girth v1 v2))
def S_room (N : Nat) (R : St → St → Prop) : Prop := (∀ (v1 v2 : Int32), SimWW R (f_X5_room v1 v2) (f_X6_room v1 v2))
def S_fits (N : Nat) (R : St → St → Prop) : Prop := (∀ (v1 v2 : Int32), SimRR R (f_X5_fits v1 v2) (f_X6_fits v1 v2))
def S_act (N : Nat) (R : St → St → Prop) : Prop := (∀ (v1 : Int32), SimWW R (f_X5_act N v1) (f_X6_act N v1))
def S_anew (N : Nat) (R : St → St → Prop) : Prop := (SimWW R (f_X5_anew N) (f_X6_anew N))
def S_can (N : Nat) (R : St → St → Prop) : Prop := (SimRR R (f_X5_can N) (f_X6_can N))
def S_day (N : Nat) (R : St → St → Prop) : Prop := (∀ (v1 v2 v3 v4 v5 : Int32), SimWW R (f_X5_day N v1 v2 v3 v4 v5) (f_X6_day N v1 v2 v3 v4 v5))
def S_fewest (N : Nat) (R : St → St → Prop) : Prop := (∀ (v1 v2 v3 v4 : Int32), SimWW R (f_X5_fewest N v1 v2 v3 v4) (f_X6_fewest N v1 v2 v3 v4))
def S_stands (N : Nat) (R : St → St → Prop) : Prop := (∀ (v1 : Int32), SimWW R (f_X5_stands N v1) (f_X6_stands N v1))
def S_tidy (N : Nat) (R : St → St → Prop) : Prop := (∀ (v1 : Int32), SimRW R (f_X5_tidy N v1) (f_X6_tidy N v1))
def S_chain (N : Nat) (R : St → St → Prop) : Prop := (SimRW R (f_X5_chain N) (f_X6_chain N))
def S_reading (N : Nat) (R : St → St → Prop) : Prop := (∀ (v1 v2 v3 : Int32), SimWW R (f_X5_reading v1 v2 v3) (f_X6_reading v1 v2 v3))
def S_back (N : Nat) (R : St → St → Prop) : Prop := (∀ (v1 : Int32), SimWW R (f_X5_back v1) (f_X6_back v1))
def S_girths (N : Nat) (R : St → St → Prop) : Prop := (∀ (v1 : Int32), SimWW R (f_X5_girths N v1) (f_X6_girths N v1))
def S_rooms (N : Nat) (R : St → St → Prop) : Prop := (∀ (v1 : Int32), SimWW R (f_X5_rooms N v1) (f_X6_rooms N v1))
def S_kinds (N : Nat) (R : St → St → Prop) : Prop := (∀ (v1 : Int32), SimWW R (f_X5_kinds N v1) (f_X6_kinds N v1))
def S_odds (N : Nat) (R : St → St → Prop) : Prop := (∀ (v1 : Int32), SimRR R (f_X5_odds N v1) (f_X6_odds N v1))
def S_sheet (N : Nat) (R : St → St → Prop) : Prop := (∀ (v1 v2 v3 : Int32), SimWW R (f_X5_sheet v1 v2 v3) (f_X6_sheet N v1 v2 v3))
def S_lose (N : Nat) (R : St → St → Prop) : Prop := (∀ (v1 : Int32), SimWW R (f_X5_lose v1) (f_X6_lose v1))
def S_put (N : Nat) (R : St → St → Prop) : Prop := (∀ (v1 v2 v3 : Int32), SimWW R (f_X5_put v1 v2 v3) (f_X6_put v1 v2 v3))
def S_cell (N : Nat) (R : St → St → Prop) : Prop := (∀ (v1 v2 v3 : Int32), SimWW R (f_X5_cell v1 v2 v3) (f_X6_cell v1 v2 v3))
def S_copy (N : Nat) (R : St → St → Prop) : Prop := (∀ (v1 v2 v3 v4 v5 : Int32), SimWW R (f_X5_copy v1 v2 v3 v4 v5) (f_X6_copy N v1 v2 v3 v4 v5))
def S_tell (N : Nat) (R : St → St → Prop) : Prop := (∀ (v1 : Int32), SimWW R (f_X5_tell v1) (f_X6_tell v1))
def S_shake (N : Nat) (R : St → St → Prop) : Prop := (∀ (v1 : Int32), SimWW R (f_X5_shake v1) (f_X6_shake v1))
def S_as (N : Nat) (R : St → St → Prop) : Prop := (∀ (v1 v2 : Int32), SimWW R (f_X5_as v1 v2) (f_X6_as v1 v2))
def S_trace (N : Nat) (R : St → St → Prop) : Prop := (SimRR R (f_X5_trace) (f_X6_trace))
def S_fault (N : Nat) (R : St → St → Prop) : Prop := (SimRR R (f_X5_fault) (f_X6_fault))
def S_many (N : Nat) (R : St → St → Prop) : Prop := (∀ (v1 : Int32), SimRR R (f_X5_many N v1) (f_X6_many N v1))
def Sims (N : Nat) (R : St → St → Prop) : Prop := S_dolls N R ∧ S_ofDoll N R ∧ S_girth N R ∧ S_room N R ∧ S_fits N R ∧ S_act N R ∧ S_anew N R ∧ S_can N R ∧ S_day N R ∧ S_fewest N R ∧ S_stands N R ∧ S_tidy N R ∧ S_chain N R ∧ S_reading N R ∧ S_back N R ∧ S_girths N R ∧ S_rooms N R ∧ S_kinds N R ∧ S_odds N R ∧ S_sheet N R ∧ S_lose N R ∧ S_put N R ∧ S_cell N R ∧ S_copy N R ∧ S_tell N R ∧ S_shake N R ∧ S_as N R ∧ S_trace N R ∧ S_fault N R ∧ S_many N R
