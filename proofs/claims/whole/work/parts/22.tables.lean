/-! THE CLAIM OUT OF ONE WALK OF THE LAW'S BODY. Your part is whole_start (and what it stands on); all else here is the same for every law, but numbers. -/
def R_law : String := "FixedPlaneLaw"
def lw_P (b : Addr) (xs : List Int32) (args : Array Value) (s : State) : Prop := args = #[.ref b] ∧ s.IntsAt b xs ∧ xs.length ≤ 3584 ∧ (Jvm.Cond.and given_1 narrow_1).before args s = true
def lw_Q (_ : Array Value) (s : State) (o : Outcome) (t : State) : Prop := o = .returned (some (.int 1)) ∧ Framed s o t [] 4 29
def lw_Z (below : List Frame) (a : Array Value) (s : State) : State → Prop := fun t => ∃ o, t.status = .running ∧ Ended t below o ∧ lw_Q a s o t
/-- the law's own end, with 1 on the stack, nothing written that was there before, its room as the claim has it -/
theorem lw_ret {p : Program} {l : Launch} {e : Env} {s : State} {m : MethodId} {below : List Frame} {meth : Method} {c : Code} {b : Nat} (hx : p.tables.exec = Jvm.exec) (hb : c.code = code) (hr : meth.sig.returnType = ret) (hlocks : meth.locks = false) {pc : Nat} {H : Heap} {ls : Array Slot} (hdg : decode code pc = .ok (.ireturn, 1)) : W p l e room_1 s m #[Value.ref b] below meth c H [] 4 29 (lw_Z below #[Value.ref b] s) (F0 m pc ls [.int 1]) := by
  intro T hT X
  obtain ⟨fs, hret, hrun, hended, hW, hframe⟩ := X.leave (v := some (.int 1)) (hlocks := hlocks) (fun h => by rw [hr] at h; cases h)
  have hmeth' : T.vm.method? m = some meth := X.method'
  refine ⟨T.setFrames fs, ?_, .returned (some (.int 1)), hrun, hended, rfl, ⟨_, rfl⟩, hW, hframe⟩
  jvm_step X.here [X.here.top, hx, hb, hdg, hmeth', hr, ret, narrow_b1]
  (try refine ⟨rfl, ?_⟩); (try refine ⟨rfl, ?_⟩)
  first | (intro acts; rw [hret _ acts rfl rfl rfl]) | rw [hret _ _ rfl rfl rfl]
  exact Steps.refl _
/-- what holds at the law's entry: the machine, the code, the tables' words (any of lw_tbl by 'hts w (by decide +kernel)'), the script of L ints xs at the cell b, what the Statement gives of the start (any of its parts by flat_of_before) -/
def lw_At (p : Program) (s : State) (m : MethodId) (meth : Method) (c : Code) (b L : Nat) (xs : Nat → Int32) : Prop :=
  p.tables.exec = Jvm.exec ∧ c.code = code ∧ meth.sig.returnType = ret ∧ c.maxLocals = 4 ∧ s.vm.findClass R_law = some m.cls ∧ (∀ w ∈ lw_tbl, w.before #[Value.ref b] s = true) ∧ va_X b L xs s s.heap ∧ b < s.heap.size ∧ meth.locks = false ∧ (Jvm.Cond.and given_1 narrow_1).before #[Value.ref b] s = true
/-! The two tables of sines, out of what is given of the start. -/
def gvL : List Cond := flatC (Jvm.Cond.and given_1 narrow_1)
set_option maxRecDepth 100000 in
theorem gv_x : ∀ j : Nat, j < 91 → gvL[7 + j]? = some (Cond.eq (Term.elem (Term.static "FixedPlane" "SINES" "[I") (Term.int (Int32.ofNat j))) (Term.int (sinV j))) := by decide +kernel
set_option maxRecDepth 100000 in
theorem gv_m : ∀ j : Nat, j < 91 → gvL[101 + j]? = some (Cond.eq (Term.elem (Term.static "FixedPlaneModel" "SINES" "[I") (Term.int (Int32.ofNat j))) (Term.int (sinV j))) := by decide +kernel
set_option maxRecDepth 100000 in
theorem gv_xa : gvL[5]? = some (Cond.arrayOf (Term.static "FixedPlane" "SINES" "[I") .int) ∧ gvL[6]? = some (Cond.eq (Term.length (Term.static "FixedPlane" "SINES" "[I")) (Term.int 91)) := by decide +kernel
set_option maxRecDepth 100000 in
theorem gv_ma : gvL[99]? = some (Cond.arrayOf (Term.static "FixedPlaneModel" "SINES" "[I") .int) ∧ gvL[100]? = some (Cond.eq (Term.length (Term.static "FixedPlaneModel" "SINES" "[I")) (Term.int 91)) := by decide +kernel
set_option maxRecDepth 100000 in
theorem tb_x {s : State} {b : Nat} (hgv : (Jvm.Cond.and given_1 narrow_1).before #[Value.ref b] s = true) (hts : ∀ w ∈ lw_tbl, w.before #[Value.ref b] s = true) : tbS "FixedPlane" (fun q => s.heap.size ≤ q) s s.heap := by
  have hs : ∀ w ∈ gvL, w.before #[Value.ref b] s = true := flat_of_before _ hgv
  have hA : ∀ a : Nat, a < s.heap.size → ¬ (fun q : Nat => s.heap.size ≤ q) a := fun a h => Nat.not_le.mpr h
  obtain ⟨t, ht, hT⟩ := va_Tof (f := fun j => .int (sinV j)) (A := fun q : Nat => s.heap.size ≤ q) (N := 91) (by decide) (hs _ (List.mem_of_getElem? gv_xa.1)) (va_eqt (hs _ (List.mem_of_getElem? gv_xa.2))) (fun j hj => va_eqt (hs _ (List.mem_of_getElem? (gv_x j hj)))) hA
  exact ⟨t, va_Zref (hts (.laysStatic "FixedPlane" "SINES" "[I") (by decide +kernel)) (hts (.initialized "FixedPlane") (by decide +kernel)) ht hA, hT⟩
set_option maxRecDepth 100000 in
theorem tb_m {s : State} {b : Nat} (hgv : (Jvm.Cond.and given_1 narrow_1).before #[Value.ref b] s = true) (hts : ∀ w ∈ lw_tbl, w.before #[Value.ref b] s = true) : tbS "FixedPlaneModel" (fun q => s.heap.size ≤ q) s s.heap := by
  have hs : ∀ w ∈ gvL, w.before #[Value.ref b] s = true := flat_of_before _ hgv
  have hA : ∀ a : Nat, a < s.heap.size → ¬ (fun q : Nat => s.heap.size ≤ q) a := fun a h => Nat.not_le.mpr h
  obtain ⟨t, ht, hT⟩ := va_Tof (f := fun j => .int (sinV j)) (A := fun q : Nat => s.heap.size ≤ q) (N := 91) (by decide) (hs _ (List.mem_of_getElem? gv_ma.1)) (va_eqt (hs _ (List.mem_of_getElem? gv_ma.2))) (fun j hj => va_eqt (hs _ (List.mem_of_getElem? (gv_m j hj)))) hA
  exact ⟨t, va_Zref (hts (.laysStatic "FixedPlaneModel" "SINES" "[I") (by decide +kernel)) (hts (.initialized "FixedPlaneModel") (by decide +kernel)) ht hA, hT⟩
