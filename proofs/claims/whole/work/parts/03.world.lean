/-! The two worlds: the class's one object; the reference's object with its two rows. -/
abbrev XS : Type := Int32 × Int32 × Int32 × Int32 × Int32 × Int32 × Int32 × Int32 × Int32 × Int32
abbrev MS : Type := Int32 × Int32 × (Nat → Int32) × (Nat → Int64) × Int32 × Int32 × Int32
abbrev xW (h0 : Nat) (u : XS) : va_W := [(h0, .inr (0, [.int u.1, .int u.2.1, .int u.2.2.1, .int u.2.2.2.1, .int u.2.2.2.2.1, .int u.2.2.2.2.2.1, .int u.2.2.2.2.2.2.1, .int u.2.2.2.2.2.2.2.1, .int u.2.2.2.2.2.2.2.2.1, .int u.2.2.2.2.2.2.2.2.2]))]
abbrev mW (h0 h1 h2 : Nat) (cI cL : ClassId) (v : MS) : va_W := [(h0, .inr (1, [.int v.1, .int v.2.1, .ref h1, .ref h2, .int v.2.2.2.2.1, .int v.2.2.2.2.2.1, .int v.2.2.2.2.2.2])), (h1, .inl (cI, 6, .inl v.2.2.1)), (h2, .inl (cL, 6, .inr (.inl v.2.2.2.1)))]
abbrev mT (cI cL : ClassId) : List (ClassId × FieldType) := [(cI, .int), (cL, .long)]
def xPre (dC : Nat → ClassId) (dI : Nat → Nat → Nat) (h0 sz : Nat) (u : XS) : State → Prop := fun U => U.heap.size = sz ∧ va_P (dC, dI) vwCl (xW h0 u) U.heap ∧ va_K (dC, dI) vwCl [] U ∧ va_D (fun _ => True) (xW h0 u) ∧ tbS "FixedPlane" (va_A (xW h0 u) sz) U U.heap
def mPre (dC : Nat → ClassId) (dI : Nat → Nat → Nat) (h0 h1 h2 : Nat) (cI cL : ClassId) (sz : Nat) (v : MS) : State → Prop := fun U => U.heap.size = sz ∧ va_P (dC, dI) vwCl (mW h0 h1 h2 cI cL v) U.heap ∧ va_K (dC, dI) vwCl (mT cI cL) U ∧ va_D (fun _ => True) (mW h0 h1 h2 cI cL v) ∧ tbS "FixedPlaneModel" (va_A (mW h0 h1 h2 cI cL v) sz) U U.heap
def at_X (dC : Nat → ClassId) (dI : Nat → Nat → Nat) (h0 : Nat) (A : Nat → Prop) (z : XS) (t : State) : Prop := va_P (dC, dI) vwCl (xW h0 z) t.heap ∧ va_K (dC, dI) vwCl [] t ∧ va_D A (xW h0 z)
def at_M (dC : Nat → ClassId) (dI : Nat → Nat → Nat) (h0 h1 h2 : Nat) (cI cL : ClassId) (A : Nat → Prop) (z : MS) (t : State) : Prop := va_P (dC, dI) vwCl (mW h0 h1 h2 cI cL z) t.heap ∧ va_K (dC, dI) vwCl (mT cI cL) t ∧ va_D A (mW h0 h1 h2 cI cL z)
abbrev xQi (dC : Nat → ClassId) (dI : Nat → Nat → Nat) (h0 : Nat) (A : Nat → Prop) (v : Int32) (w : XS) := va_Qi (fun (r : Int32) (z : XS) => r = v ∧ z = w) (at_X dC dI h0 A) A
abbrev xQl (dC : Nat → ClassId) (dI : Nat → Nat → Nat) (h0 : Nat) (A : Nat → Prop) (v : Int64) (w : XS) := va_Ql (fun (r : Int64) (z : XS) => r = v ∧ z = w) (at_X dC dI h0 A) A
abbrev mQi (dC : Nat → ClassId) (dI : Nat → Nat → Nat) (h0 h1 h2 : Nat) (cI cL : ClassId) (A : Nat → Prop) (v : Int32) (w : MS) := va_Qi (fun (r : Int32) (z : MS) => r = v ∧ z = w) (at_M dC dI h0 h1 h2 cI cL A) A
abbrev mQl (dC : Nat → ClassId) (dI : Nat → Nat → Nat) (h0 h1 h2 : Nat) (cI cL : ClassId) (A : Nat → Prop) (v : Int64) (w : MS) := va_Ql (fun (r : Int64) (z : MS) => r = v ∧ z = w) (at_M dC dI h0 h1 h2 cI cL A) A
theorem x_headi {l : Launch} {y : MethodName} {ws ws' : List Cond} {rm : Room} {cc : ByteArray} {maxL : Nat} {ret : Option FieldType} {as : List Value} {dC : Nat → ClassId} {dI : Nat → Nat → Nat} {h0 : Nat} {sz : Nat} {u w : XS} {v : Int32} (hy : plainName y.cls = true) (hyc : y.cls = RX0) (hw : ws = Cond.code y cc maxL ret :: ws') (hlen : (lg_sl (.ref h0 :: as)).length ≤ maxL)
    (body : ∀ (p : Program) (e : Env) (s : State) (m : MethodId) (below : List Frame) (meth : Method) (c : Code) (ls : Array Slot) (A : Nat → Prop), p.tables.exec = Jvm.exec → c.code = cc → meth.sig.returnType = ret → meth.locks = false → c.maxLocals = maxL → s.vm.findClass RX0 = some m.cls → (∀ w ∈ ws, w.before (Value.ref h0 :: as).toArray s = true) → (∀ q, s.heap.size ≤ q → A q) → va_P (dC, dI) vwCl (xW h0 u) s.heap → va_D A (xW h0 u) → va_K (dC, dI) vwCl ([]) s → tbS "FixedPlane" A s s.heap → va_S A s.heap s.heap [] → lv_has ls maxL (lv_args 0 (.ref h0 :: as)) →
      W p l e (headSpec ws rm).room s m (Value.ref h0 :: as).toArray below meth c s.heap [] 0 0 (MQ below (xQi dC dI h0 A v w) (Value.ref h0 :: as).toArray s 0 0 A) (F0 m 0 ls [])) : Met l y ws rm (va_Pc (.ref h0 :: as) (xPre dC dI h0 sz u)) (xQi dC dI h0 (va_A (xW h0 u) sz) v w) 0 0 (va_A (xW h0 u) sz) := by
  refine Met.ofW (cc := cc) (maxL := maxL) (ret := ret) hy hw ?_
  intro p e s m args below meth c s₁ B hml hv
  obtain ⟨rfl, hsz, hP, hK, hD0, htb⟩ := hv
  have hts := atoms_spec (ws := ws) B.pre
  have hown : s.vm.findClass RX0 = some m.cls := hyc ▸ findClass_of_methodNamed B.named
  subst hsz
  have hD := hD0.self (sz := s.heap.size)
  have hl := lv_entry (.ref h0 :: as) hlen
  have hA : ∀ q : Nat, s.heap.size ≤ q → va_A (xW h0 u) s.heap.size q := fun q h => Or.inr h
  have k := body p e s m below meth c _ (va_A (xW h0 u) s.heap.size) B.exec B.bytes B.returns B.notSynchronized hml hown hts hA hP hD hK htb va_S.rf hl
  rw [lg_entry_eq]
  exact k
theorem xg_i {p : Program} {l : Launch} {e : Env} {R : Room} {s : State} {m : MethodId} {args : Array Value} {below : List Frame} {meth : Method} {c : Code} {H : Heap} {locs : List Loc} {cells slots : Nat} {Q : State → Prop} {dC : Nat → ClassId} {dI : Nat → Nat → Nat} {h0 : Nat} {A : Nat → Prop}
    {y : MethodName} {bytes cc : ByteArray} {maxL nL index : Nat} {ret : Option FieldType} {ws ws' : List Cond} {rm : Room} {Ts : List Cond} {own : String} {As rest : List Value} {pc : Nat} {ls : Array Slot} {st0 : List Value} {u w : XS} {v : Int32} {ws0 wr : va_W}
    (S : CallFix p m c cc nL s args Ts own) (hM : Met l y ws rm (va_Pc (.ref h0 :: As) (xPre dC dI h0 H.size u)) (xQi dC dI h0 (va_A (xW h0 u) H.size) v w) 0 0 (va_A (xW h0 u) H.size)) (n : Nat) (hT : GoodIn Ts (wsV own index RX0 y ws)) (hw : ws = Cond.code y bytes maxL ret :: ws') (hrc : rm.cells = 0) (hrs : rm.slots = 0)
    (hd : y.cls = RX0 ∧ y.cls ≠ "java/lang/invoke/MethodHandle" ∧ y.cls ≠ "java/lang/invoke/VarHandle" ∧ (parseMethodDescriptor y.desc).map (fun d => d.parameters.length) = some n) (hR : rm.frames + 1 ≤ R.frames ∧ 24 + (maxL + 11) + rm.locals ≤ R.locals)
    (hP : va_P (dC, dI) vwCl ws0 H) (hD : va_D A ws0) (hK : va_K (dC, dI) vwCl ([]) s) (hS : va_S A s.heap H locs) (hA : ∀ q, s.heap.size ≤ q → A q) (htb : tbS "FixedPlane" A s s.heap)
    (isC isR : List Nat) (hC : isC.map (fun i => ws0[i]?) = (xW h0 u).map some) (hC2 : isC.filterMap (fun i => ws0[i]?) = xW h0 u) (hnC : va_nd isC = true) (hRr : isR.map (fun i => ws0[i]?) = wr.map some) (hnd : va_nd isR = true) (hdis : ∀ i ∈ isR, i ∉ isC)
    (hn : As.length = n) (hsize : ls.size = nL) (hstack : st0 = As.reverse ++ .ref h0 :: rest) (hW : (rest.map fun v => v.category).sum ≤ 24) (hdg : decode cc pc = .ok (.invokevirtual index, 3)) (hf : cells ≤ R.cells ∧ slots ≤ R.slots)
    (kk : ∀ (H1 : Heap) (locs1 : List Loc), va_P (dC, dI) vwCl (wr ++ xW h0 w) H1 → va_D A (wr ++ xW h0 w) → va_S A s.heap H1 locs1 → W p l e R s m args below meth c H1 locs1 cells slots Q (F0 m (pc + 3) ls (.int v :: rest))) : W p l e R s m args below meth c H locs cells slots Q (F0 m pc ls st0) := by
  have hFc := va_free (wc := xW h0 u) hD hS hA isC hC
  have hPc := hP.sub (ws' := xW h0 u) isC hC2
  have hDc := hD.sub (ws' := xW h0 u) isC hnC hC
  refine va_calli (pu_runV S hM n hT hw hrc hrs hd hR ⟨fun a U g mk q => ⟨q.1, q.2.1, q.2.2.1, va_K.moved (u := U) (U := U.calling g mk a) (Vm.Alike.refl U.vm) q.2.2.2.1, q.2.2.2.2.1, tbS.moved (u := U) (U := U.calling g mk a) (Vm.Alike.refl U.vm) q.2.2.2.2.2⟩, va_recv hK hPc (ci := 0) (q0 := 0) rfl rfl, fun U hU hWm => ⟨rfl, by rw [hU], by rw [hU]; exact hPc, va_K.moved hWm.alike hK, hDc.weaken (fun _ _ _ _ => trivial), by rw [hU]; exact ((htb.kept (fun a h1 h2 => hS.2.1 a h1 h2)).moved hWm.alike).narrow hFc⟩⟩ (g := F0 m pc ls st0) rfl hn hsize hstack (by show 2 * 0 + _ ≤ 24; omega) hdg hf) hS (fun q _ h => hFc q h) hFc (fun r z t H1 locs1 ht hvm hw2 hB hz1 hk1 hS1 => ?_)
  obtain ⟨rfl, rfl⟩ := hw2
  obtain ⟨hP1, hK1, hD1⟩ := hB
  rw [ht] at hP1
  obtain ⟨hP2, hD2⟩ := va_join (wr := wr) (w1 := xW h0 z) hP hD isC isR hC hRr hnd hdis hk1 hFc hP1 hD1
  exact kk H1 locs1 hP2 hD2 hS1
theorem xc_i {p : Program} {l : Launch} {e : Env} {R : Room} {s : State} {m : MethodId} {args : Array Value} {below : List Frame} {meth : Method} {c : Code} {H : Heap} {locs : List Loc} {cells slots : Nat} {Q : State → Prop} {dC : Nat → ClassId} {dI : Nat → Nat → Nat} {h0 : Nat} {A : Nat → Prop}
    {y : MethodName} {bytes cc : ByteArray} {maxL nL index : Nat} {ret : Option FieldType} {ws ws' : List Cond} {rm : Room} {Ts : List Cond} {own : String} {As rest : List Value} {pc : Nat} {ls : Array Slot} {st0 : List Value} {u w : XS} {v : Int32}
    (S : CallFix p m c cc nL s args Ts own) (hM : Met l y ws rm (va_Pc (.ref h0 :: As) (xPre dC dI h0 H.size u)) (xQi dC dI h0 (va_A (xW h0 u) H.size) v w) 0 0 (va_A (xW h0 u) H.size)) (n : Nat) (hT : GoodIn Ts (wsV own index RX0 y ws)) (hw : ws = Cond.code y bytes maxL ret :: ws') (hrc : rm.cells = 0) (hrs : rm.slots = 0)
    (hd : y.cls = RX0 ∧ y.cls ≠ "java/lang/invoke/MethodHandle" ∧ y.cls ≠ "java/lang/invoke/VarHandle" ∧ (parseMethodDescriptor y.desc).map (fun d => d.parameters.length) = some n) (hR : rm.frames + 1 ≤ R.frames ∧ 24 + (maxL + 11) + rm.locals ≤ R.locals)
    (hP : va_P (dC, dI) vwCl (xW h0 u) H) (hD : va_D A (xW h0 u)) (hK : va_K (dC, dI) vwCl ([]) s) (hS : va_S A s.heap H locs) (hA : ∀ q, s.heap.size ≤ q → A q) (htb : tbS "FixedPlane" A s s.heap)
    (hn : As.length = n) (hsize : ls.size = nL) (hstack : st0 = As.reverse ++ .ref h0 :: rest) (hW : (rest.map fun v => v.category).sum ≤ 24) (hdg : decode cc pc = .ok (.invokevirtual index, 3)) (hf : cells ≤ R.cells ∧ slots ≤ R.slots)
    (kk : ∀ (H1 : Heap) (locs1 : List Loc), va_P (dC, dI) vwCl (xW h0 w) H1 → va_D A (xW h0 w) → va_S A s.heap H1 locs1 → W p l e R s m args below meth c H1 locs1 cells slots Q (F0 m (pc + 3) ls (.int v :: rest))) : W p l e R s m args below meth c H locs cells slots Q (F0 m pc ls st0) :=
  xg_i (wr := []) S hM n hT hw hrc hrs hd hR hP hD hK hS hA htb [0] [] rfl rfl rfl rfl rfl (fun i h => by cases h) hn hsize hstack hW hdg hf kk
theorem x_headl {l : Launch} {y : MethodName} {ws ws' : List Cond} {rm : Room} {cc : ByteArray} {maxL : Nat} {ret : Option FieldType} {as : List Value} {dC : Nat → ClassId} {dI : Nat → Nat → Nat} {h0 : Nat} {sz : Nat} {u w : XS} {v : Int64} (hy : plainName y.cls = true) (hyc : y.cls = RX0) (hw : ws = Cond.code y cc maxL ret :: ws') (hlen : (lg_sl (.ref h0 :: as)).length ≤ maxL)
    (body : ∀ (p : Program) (e : Env) (s : State) (m : MethodId) (below : List Frame) (meth : Method) (c : Code) (ls : Array Slot) (A : Nat → Prop), p.tables.exec = Jvm.exec → c.code = cc → meth.sig.returnType = ret → meth.locks = false → c.maxLocals = maxL → s.vm.findClass RX0 = some m.cls → (∀ w ∈ ws, w.before (Value.ref h0 :: as).toArray s = true) → (∀ q, s.heap.size ≤ q → A q) → va_P (dC, dI) vwCl (xW h0 u) s.heap → va_D A (xW h0 u) → va_K (dC, dI) vwCl ([]) s → tbS "FixedPlane" A s s.heap → va_S A s.heap s.heap [] → lv_has ls maxL (lv_args 0 (.ref h0 :: as)) →
      W p l e (headSpec ws rm).room s m (Value.ref h0 :: as).toArray below meth c s.heap [] 0 0 (MQ below (xQl dC dI h0 A v w) (Value.ref h0 :: as).toArray s 0 0 A) (F0 m 0 ls [])) : Met l y ws rm (va_Pc (.ref h0 :: as) (xPre dC dI h0 sz u)) (xQl dC dI h0 (va_A (xW h0 u) sz) v w) 0 0 (va_A (xW h0 u) sz) := by
  refine Met.ofW (cc := cc) (maxL := maxL) (ret := ret) hy hw ?_
  intro p e s m args below meth c s₁ B hml hv
  obtain ⟨rfl, hsz, hP, hK, hD0, htb⟩ := hv
  have hts := atoms_spec (ws := ws) B.pre
  have hown : s.vm.findClass RX0 = some m.cls := hyc ▸ findClass_of_methodNamed B.named
  subst hsz
  have hD := hD0.self (sz := s.heap.size)
  have hl := lv_entry (.ref h0 :: as) hlen
  have hA : ∀ q : Nat, s.heap.size ≤ q → va_A (xW h0 u) s.heap.size q := fun q h => Or.inr h
  have k := body p e s m below meth c _ (va_A (xW h0 u) s.heap.size) B.exec B.bytes B.returns B.notSynchronized hml hown hts hA hP hD hK htb va_S.rf hl
  rw [lg_entry_eq]
  exact k
theorem xg_l {p : Program} {l : Launch} {e : Env} {R : Room} {s : State} {m : MethodId} {args : Array Value} {below : List Frame} {meth : Method} {c : Code} {H : Heap} {locs : List Loc} {cells slots : Nat} {Q : State → Prop} {dC : Nat → ClassId} {dI : Nat → Nat → Nat} {h0 : Nat} {A : Nat → Prop}
    {y : MethodName} {bytes cc : ByteArray} {maxL nL index : Nat} {ret : Option FieldType} {ws ws' : List Cond} {rm : Room} {Ts : List Cond} {own : String} {As rest : List Value} {pc : Nat} {ls : Array Slot} {st0 : List Value} {u w : XS} {v : Int64} {ws0 wr : va_W}
    (S : CallFix p m c cc nL s args Ts own) (hM : Met l y ws rm (va_Pc (.ref h0 :: As) (xPre dC dI h0 H.size u)) (xQl dC dI h0 (va_A (xW h0 u) H.size) v w) 0 0 (va_A (xW h0 u) H.size)) (n : Nat) (hT : GoodIn Ts (wsV own index RX0 y ws)) (hw : ws = Cond.code y bytes maxL ret :: ws') (hrc : rm.cells = 0) (hrs : rm.slots = 0)
    (hd : y.cls = RX0 ∧ y.cls ≠ "java/lang/invoke/MethodHandle" ∧ y.cls ≠ "java/lang/invoke/VarHandle" ∧ (parseMethodDescriptor y.desc).map (fun d => d.parameters.length) = some n) (hR : rm.frames + 1 ≤ R.frames ∧ 24 + (maxL + 11) + rm.locals ≤ R.locals)
    (hP : va_P (dC, dI) vwCl ws0 H) (hD : va_D A ws0) (hK : va_K (dC, dI) vwCl ([]) s) (hS : va_S A s.heap H locs) (hA : ∀ q, s.heap.size ≤ q → A q) (htb : tbS "FixedPlane" A s s.heap)
    (isC isR : List Nat) (hC : isC.map (fun i => ws0[i]?) = (xW h0 u).map some) (hC2 : isC.filterMap (fun i => ws0[i]?) = xW h0 u) (hnC : va_nd isC = true) (hRr : isR.map (fun i => ws0[i]?) = wr.map some) (hnd : va_nd isR = true) (hdis : ∀ i ∈ isR, i ∉ isC)
    (hn : As.length = n) (hsize : ls.size = nL) (hstack : st0 = As.reverse ++ .ref h0 :: rest) (hW : (rest.map fun v => v.category).sum ≤ 24) (hdg : decode cc pc = .ok (.invokevirtual index, 3)) (hf : cells ≤ R.cells ∧ slots ≤ R.slots)
    (kk : ∀ (H1 : Heap) (locs1 : List Loc), va_P (dC, dI) vwCl (wr ++ xW h0 w) H1 → va_D A (wr ++ xW h0 w) → va_S A s.heap H1 locs1 → W p l e R s m args below meth c H1 locs1 cells slots Q (F0 m (pc + 3) ls (.long v :: rest))) : W p l e R s m args below meth c H locs cells slots Q (F0 m pc ls st0) := by
  have hFc := va_free (wc := xW h0 u) hD hS hA isC hC
  have hPc := hP.sub (ws' := xW h0 u) isC hC2
  have hDc := hD.sub (ws' := xW h0 u) isC hnC hC
  refine va_calll (pu_runV S hM n hT hw hrc hrs hd hR ⟨fun a U g mk q => ⟨q.1, q.2.1, q.2.2.1, va_K.moved (u := U) (U := U.calling g mk a) (Vm.Alike.refl U.vm) q.2.2.2.1, q.2.2.2.2.1, tbS.moved (u := U) (U := U.calling g mk a) (Vm.Alike.refl U.vm) q.2.2.2.2.2⟩, va_recv hK hPc (ci := 0) (q0 := 0) rfl rfl, fun U hU hWm => ⟨rfl, by rw [hU], by rw [hU]; exact hPc, va_K.moved hWm.alike hK, hDc.weaken (fun _ _ _ _ => trivial), by rw [hU]; exact ((htb.kept (fun a h1 h2 => hS.2.1 a h1 h2)).moved hWm.alike).narrow hFc⟩⟩ (g := F0 m pc ls st0) rfl hn hsize hstack (by show 2 * 0 + _ ≤ 24; omega) hdg hf) hS (fun q _ h => hFc q h) hFc (fun r z t H1 locs1 ht hvm hw2 hB hz1 hk1 hS1 => ?_)
  obtain ⟨rfl, rfl⟩ := hw2
  obtain ⟨hP1, hK1, hD1⟩ := hB
  rw [ht] at hP1
  obtain ⟨hP2, hD2⟩ := va_join (wr := wr) (w1 := xW h0 z) hP hD isC isR hC hRr hnd hdis hk1 hFc hP1 hD1
  exact kk H1 locs1 hP2 hD2 hS1
theorem xc_l {p : Program} {l : Launch} {e : Env} {R : Room} {s : State} {m : MethodId} {args : Array Value} {below : List Frame} {meth : Method} {c : Code} {H : Heap} {locs : List Loc} {cells slots : Nat} {Q : State → Prop} {dC : Nat → ClassId} {dI : Nat → Nat → Nat} {h0 : Nat} {A : Nat → Prop}
    {y : MethodName} {bytes cc : ByteArray} {maxL nL index : Nat} {ret : Option FieldType} {ws ws' : List Cond} {rm : Room} {Ts : List Cond} {own : String} {As rest : List Value} {pc : Nat} {ls : Array Slot} {st0 : List Value} {u w : XS} {v : Int64}
    (S : CallFix p m c cc nL s args Ts own) (hM : Met l y ws rm (va_Pc (.ref h0 :: As) (xPre dC dI h0 H.size u)) (xQl dC dI h0 (va_A (xW h0 u) H.size) v w) 0 0 (va_A (xW h0 u) H.size)) (n : Nat) (hT : GoodIn Ts (wsV own index RX0 y ws)) (hw : ws = Cond.code y bytes maxL ret :: ws') (hrc : rm.cells = 0) (hrs : rm.slots = 0)
    (hd : y.cls = RX0 ∧ y.cls ≠ "java/lang/invoke/MethodHandle" ∧ y.cls ≠ "java/lang/invoke/VarHandle" ∧ (parseMethodDescriptor y.desc).map (fun d => d.parameters.length) = some n) (hR : rm.frames + 1 ≤ R.frames ∧ 24 + (maxL + 11) + rm.locals ≤ R.locals)
    (hP : va_P (dC, dI) vwCl (xW h0 u) H) (hD : va_D A (xW h0 u)) (hK : va_K (dC, dI) vwCl ([]) s) (hS : va_S A s.heap H locs) (hA : ∀ q, s.heap.size ≤ q → A q) (htb : tbS "FixedPlane" A s s.heap)
    (hn : As.length = n) (hsize : ls.size = nL) (hstack : st0 = As.reverse ++ .ref h0 :: rest) (hW : (rest.map fun v => v.category).sum ≤ 24) (hdg : decode cc pc = .ok (.invokevirtual index, 3)) (hf : cells ≤ R.cells ∧ slots ≤ R.slots)
    (kk : ∀ (H1 : Heap) (locs1 : List Loc), va_P (dC, dI) vwCl (xW h0 w) H1 → va_D A (xW h0 w) → va_S A s.heap H1 locs1 → W p l e R s m args below meth c H1 locs1 cells slots Q (F0 m (pc + 3) ls (.long v :: rest))) : W p l e R s m args below meth c H locs cells slots Q (F0 m pc ls st0) :=
  xg_l (wr := []) S hM n hT hw hrc hrs hd hR hP hD hK hS hA htb [0] [] rfl rfl rfl rfl rfl (fun i h => by cases h) hn hsize hstack hW hdg hf kk
theorem x_iret {p : Program} {l : Launch} {e : Env} {R : Room} {s : State} {m : MethodId} {args : Array Value} {below : List Frame} {meth : Method} {c : Code} {H : Heap} {locs : List Loc} {dC : Nat → ClassId} {dI : Nat → Nat → Nat} {h0 : Nat} {A : Nat → Prop} {cc : ByteArray} {v v' : Int32} {w w' : XS} (hexec : p.tables.exec = Jvm.exec) (hb : c.code = cc) (hr : meth.sig.returnType = some .int) (hlocks : meth.locks = false) (hP : va_P (dC, dI) vwCl (xW h0 w') H) (hD : va_D A (xW h0 w')) (hK : va_K (dC, dI) vwCl ([]) s) (hS : va_S A s.heap H locs) {pc : Nat} {ls : Array Slot} (hdg : decode cc pc = .ok (.ireturn, 1)) (he : v' = v ∧ w' = w) : W p l e R s m args below meth c H locs 0 0 (MQ below (xQi dC dI h0 A v w) args s 0 0 A) (F0 m pc ls [.int v']) :=
  W.iret (v := v') hexec hb hr (fun t ht hW => ⟨⟨v', w', rfl, he, by rw [ht]; exact hP, va_K.moved hW.alike hK, hD⟩, hS.F ht⟩) hS.2.2 hdg hlocks
theorem x_lret {p : Program} {l : Launch} {e : Env} {R : Room} {s : State} {m : MethodId} {args : Array Value} {below : List Frame} {meth : Method} {c : Code} {H : Heap} {locs : List Loc} {dC : Nat → ClassId} {dI : Nat → Nat → Nat} {h0 : Nat} {A : Nat → Prop} {cc : ByteArray} {v v' : Int64} {w w' : XS} (hexec : p.tables.exec = Jvm.exec) (hb : c.code = cc) (hr : meth.sig.returnType = some .long) (hlocks : meth.locks = false) (hP : va_P (dC, dI) vwCl (xW h0 w') H) (hD : va_D A (xW h0 w')) (hK : va_K (dC, dI) vwCl ([]) s) (hS : va_S A s.heap H locs) {pc : Nat} {ls : Array Slot} (hdg : decode cc pc = .ok (.lreturn, 1)) (he : v' = v ∧ w' = w) : W p l e R s m args below meth c H locs 0 0 (MQ below (xQl dC dI h0 A v w) args s 0 0 A) (F0 m pc ls [.long v']) :=
  W.lret (v := v') hexec hb hr (fun t ht hW => ⟨⟨v', w', rfl, he, by rw [ht]; exact hP, va_K.moved hW.alike hK, hD⟩, hS.F ht⟩) hS.2.2 hdg hlocks
theorem x_zret {p : Program} {l : Launch} {e : Env} {R : Room} {s : State} {m : MethodId} {args : Array Value} {below : List Frame} {meth : Method} {c : Code} {H : Heap} {locs : List Loc} {dC : Nat → ClassId} {dI : Nat → Nat → Nat} {h0 : Nat} {A : Nat → Prop} {cc : ByteArray} {v v' : Int32} {w w' : XS} (hexec : p.tables.exec = Jvm.exec) (hb : c.code = cc) (hr : meth.sig.returnType = some .boolean) (hlocks : meth.locks = false) (hP : va_P (dC, dI) vwCl (xW h0 w') H) (hD : va_D A (xW h0 w')) (hK : va_K (dC, dI) vwCl ([]) s) (hS : va_S A s.heap H locs) {pc : Nat} {ls : Array Slot} (hdg : decode cc pc = .ok (.ireturn, 1)) (hn : narrow .boolean (.int v') = .int v') (he : v' = v ∧ w' = w) : W p l e R s m args below meth c H locs 0 0 (MQ below (xQi dC dI h0 A v w) args s 0 0 A) (F0 m pc ls [.int v']) :=
  W.zret (v := v') (ty := .boolean) hexec hb hr hn (fun t ht hW => ⟨⟨v', w', rfl, he, by rw [ht]; exact hP, va_K.moved hW.alike hK, hD⟩, hS.F ht⟩) hS.2.2 hdg hlocks
theorem m_headi {l : Launch} {y : MethodName} {ws ws' : List Cond} {rm : Room} {cc : ByteArray} {maxL : Nat} {ret : Option FieldType} {as : List Value} {dC : Nat → ClassId} {dI : Nat → Nat → Nat} {h0 h1 h2 : Nat} {cI cL : ClassId} {sz : Nat} {u w : MS} {v : Int32} (hy : plainName y.cls = true) (hyc : y.cls = RX1) (hw : ws = Cond.code y cc maxL ret :: ws') (hlen : (lg_sl (.ref h0 :: as)).length ≤ maxL)
    (body : ∀ (p : Program) (e : Env) (s : State) (m : MethodId) (below : List Frame) (meth : Method) (c : Code) (ls : Array Slot) (A : Nat → Prop), p.tables.exec = Jvm.exec → c.code = cc → meth.sig.returnType = ret → meth.locks = false → c.maxLocals = maxL → s.vm.findClass RX1 = some m.cls → (∀ w ∈ ws, w.before (Value.ref h0 :: as).toArray s = true) → (∀ q, s.heap.size ≤ q → A q) → va_P (dC, dI) vwCl (mW h0 h1 h2 cI cL u) s.heap → va_D A (mW h0 h1 h2 cI cL u) → va_K (dC, dI) vwCl (mT cI cL) s → tbS "FixedPlaneModel" A s s.heap → va_S A s.heap s.heap [] → lv_has ls maxL (lv_args 0 (.ref h0 :: as)) →
      W p l e (headSpec ws rm).room s m (Value.ref h0 :: as).toArray below meth c s.heap [] 0 0 (MQ below (mQi dC dI h0 h1 h2 cI cL A v w) (Value.ref h0 :: as).toArray s 0 0 A) (F0 m 0 ls [])) : Met l y ws rm (va_Pc (.ref h0 :: as) (mPre dC dI h0 h1 h2 cI cL sz u)) (mQi dC dI h0 h1 h2 cI cL (va_A (mW h0 h1 h2 cI cL u) sz) v w) 0 0 (va_A (mW h0 h1 h2 cI cL u) sz) := by
  refine Met.ofW (cc := cc) (maxL := maxL) (ret := ret) hy hw ?_
  intro p e s m args below meth c s₁ B hml hv
  obtain ⟨rfl, hsz, hP, hK, hD0, htb⟩ := hv
  have hts := atoms_spec (ws := ws) B.pre
  have hown : s.vm.findClass RX1 = some m.cls := hyc ▸ findClass_of_methodNamed B.named
  subst hsz
  have hD := hD0.self (sz := s.heap.size)
  have hl := lv_entry (.ref h0 :: as) hlen
  have hA : ∀ q : Nat, s.heap.size ≤ q → va_A (mW h0 h1 h2 cI cL u) s.heap.size q := fun q h => Or.inr h
  have k := body p e s m below meth c _ (va_A (mW h0 h1 h2 cI cL u) s.heap.size) B.exec B.bytes B.returns B.notSynchronized hml hown hts hA hP hD hK htb va_S.rf hl
  rw [lg_entry_eq]
  exact k
theorem mg_i {p : Program} {l : Launch} {e : Env} {R : Room} {s : State} {m : MethodId} {args : Array Value} {below : List Frame} {meth : Method} {c : Code} {H : Heap} {locs : List Loc} {cells slots : Nat} {Q : State → Prop} {dC : Nat → ClassId} {dI : Nat → Nat → Nat} {h0 h1 h2 : Nat} {cI cL : ClassId} {A : Nat → Prop}
    {y : MethodName} {bytes cc : ByteArray} {maxL nL index : Nat} {ret : Option FieldType} {ws ws' : List Cond} {rm : Room} {Ts : List Cond} {own : String} {As rest : List Value} {pc : Nat} {ls : Array Slot} {st0 : List Value} {u w : MS} {v : Int32} {ws0 wr : va_W}
    (S : CallFix p m c cc nL s args Ts own) (hM : Met l y ws rm (va_Pc (.ref h0 :: As) (mPre dC dI h0 h1 h2 cI cL H.size u)) (mQi dC dI h0 h1 h2 cI cL (va_A (mW h0 h1 h2 cI cL u) H.size) v w) 0 0 (va_A (mW h0 h1 h2 cI cL u) H.size)) (n : Nat) (hT : GoodIn Ts (wsV own index RX1 y ws)) (hw : ws = Cond.code y bytes maxL ret :: ws') (hrc : rm.cells = 0) (hrs : rm.slots = 0)
    (hd : y.cls = RX1 ∧ y.cls ≠ "java/lang/invoke/MethodHandle" ∧ y.cls ≠ "java/lang/invoke/VarHandle" ∧ (parseMethodDescriptor y.desc).map (fun d => d.parameters.length) = some n) (hR : rm.frames + 1 ≤ R.frames ∧ 24 + (maxL + 11) + rm.locals ≤ R.locals)
    (hP : va_P (dC, dI) vwCl ws0 H) (hD : va_D A ws0) (hK : va_K (dC, dI) vwCl (mT cI cL) s) (hS : va_S A s.heap H locs) (hA : ∀ q, s.heap.size ≤ q → A q) (htb : tbS "FixedPlaneModel" A s s.heap)
    (isC isR : List Nat) (hC : isC.map (fun i => ws0[i]?) = (mW h0 h1 h2 cI cL u).map some) (hC2 : isC.filterMap (fun i => ws0[i]?) = mW h0 h1 h2 cI cL u) (hnC : va_nd isC = true) (hRr : isR.map (fun i => ws0[i]?) = wr.map some) (hnd : va_nd isR = true) (hdis : ∀ i ∈ isR, i ∉ isC)
    (hn : As.length = n) (hsize : ls.size = nL) (hstack : st0 = As.reverse ++ .ref h0 :: rest) (hW : (rest.map fun v => v.category).sum ≤ 24) (hdg : decode cc pc = .ok (.invokevirtual index, 3)) (hf : cells ≤ R.cells ∧ slots ≤ R.slots)
    (kk : ∀ (H1 : Heap) (locs1 : List Loc), va_P (dC, dI) vwCl (wr ++ mW h0 h1 h2 cI cL w) H1 → va_D A (wr ++ mW h0 h1 h2 cI cL w) → va_S A s.heap H1 locs1 → W p l e R s m args below meth c H1 locs1 cells slots Q (F0 m (pc + 3) ls (.int v :: rest))) : W p l e R s m args below meth c H locs cells slots Q (F0 m pc ls st0) := by
  have hFc := va_free (wc := mW h0 h1 h2 cI cL u) hD hS hA isC hC
  have hPc := hP.sub (ws' := mW h0 h1 h2 cI cL u) isC hC2
  have hDc := hD.sub (ws' := mW h0 h1 h2 cI cL u) isC hnC hC
  refine va_calli (pu_runV S hM n hT hw hrc hrs hd hR ⟨fun a U g mk q => ⟨q.1, q.2.1, q.2.2.1, va_K.moved (u := U) (U := U.calling g mk a) (Vm.Alike.refl U.vm) q.2.2.2.1, q.2.2.2.2.1, tbS.moved (u := U) (U := U.calling g mk a) (Vm.Alike.refl U.vm) q.2.2.2.2.2⟩, va_recv hK hPc (ci := 1) (q0 := 0) rfl rfl, fun U hU hWm => ⟨rfl, by rw [hU], by rw [hU]; exact hPc, va_K.moved hWm.alike hK, hDc.weaken (fun _ _ _ _ => trivial), by rw [hU]; exact ((htb.kept (fun a h1 h2 => hS.2.1 a h1 h2)).moved hWm.alike).narrow hFc⟩⟩ (g := F0 m pc ls st0) rfl hn hsize hstack (by show 2 * 0 + _ ≤ 24; omega) hdg hf) hS (fun q _ h => hFc q h) hFc (fun r z t H1 locs1 ht hvm hw2 hB hz1 hk1 hS1 => ?_)
  obtain ⟨rfl, rfl⟩ := hw2
  obtain ⟨hP1, hK1, hD1⟩ := hB
  rw [ht] at hP1
  obtain ⟨hP2, hD2⟩ := va_join (wr := wr) (w1 := mW h0 h1 h2 cI cL z) hP hD isC isR hC hRr hnd hdis hk1 hFc hP1 hD1
  exact kk H1 locs1 hP2 hD2 hS1
theorem mc_i {p : Program} {l : Launch} {e : Env} {R : Room} {s : State} {m : MethodId} {args : Array Value} {below : List Frame} {meth : Method} {c : Code} {H : Heap} {locs : List Loc} {cells slots : Nat} {Q : State → Prop} {dC : Nat → ClassId} {dI : Nat → Nat → Nat} {h0 h1 h2 : Nat} {cI cL : ClassId} {A : Nat → Prop}
    {y : MethodName} {bytes cc : ByteArray} {maxL nL index : Nat} {ret : Option FieldType} {ws ws' : List Cond} {rm : Room} {Ts : List Cond} {own : String} {As rest : List Value} {pc : Nat} {ls : Array Slot} {st0 : List Value} {u w : MS} {v : Int32}
    (S : CallFix p m c cc nL s args Ts own) (hM : Met l y ws rm (va_Pc (.ref h0 :: As) (mPre dC dI h0 h1 h2 cI cL H.size u)) (mQi dC dI h0 h1 h2 cI cL (va_A (mW h0 h1 h2 cI cL u) H.size) v w) 0 0 (va_A (mW h0 h1 h2 cI cL u) H.size)) (n : Nat) (hT : GoodIn Ts (wsV own index RX1 y ws)) (hw : ws = Cond.code y bytes maxL ret :: ws') (hrc : rm.cells = 0) (hrs : rm.slots = 0)
    (hd : y.cls = RX1 ∧ y.cls ≠ "java/lang/invoke/MethodHandle" ∧ y.cls ≠ "java/lang/invoke/VarHandle" ∧ (parseMethodDescriptor y.desc).map (fun d => d.parameters.length) = some n) (hR : rm.frames + 1 ≤ R.frames ∧ 24 + (maxL + 11) + rm.locals ≤ R.locals)
    (hP : va_P (dC, dI) vwCl (mW h0 h1 h2 cI cL u) H) (hD : va_D A (mW h0 h1 h2 cI cL u)) (hK : va_K (dC, dI) vwCl (mT cI cL) s) (hS : va_S A s.heap H locs) (hA : ∀ q, s.heap.size ≤ q → A q) (htb : tbS "FixedPlaneModel" A s s.heap)
    (hn : As.length = n) (hsize : ls.size = nL) (hstack : st0 = As.reverse ++ .ref h0 :: rest) (hW : (rest.map fun v => v.category).sum ≤ 24) (hdg : decode cc pc = .ok (.invokevirtual index, 3)) (hf : cells ≤ R.cells ∧ slots ≤ R.slots)
    (kk : ∀ (H1 : Heap) (locs1 : List Loc), va_P (dC, dI) vwCl (mW h0 h1 h2 cI cL w) H1 → va_D A (mW h0 h1 h2 cI cL w) → va_S A s.heap H1 locs1 → W p l e R s m args below meth c H1 locs1 cells slots Q (F0 m (pc + 3) ls (.int v :: rest))) : W p l e R s m args below meth c H locs cells slots Q (F0 m pc ls st0) :=
  mg_i (wr := []) S hM n hT hw hrc hrs hd hR hP hD hK hS hA htb [0, 1, 2] [] rfl rfl rfl rfl rfl (fun i h => by cases h) hn hsize hstack hW hdg hf kk
theorem m_headl {l : Launch} {y : MethodName} {ws ws' : List Cond} {rm : Room} {cc : ByteArray} {maxL : Nat} {ret : Option FieldType} {as : List Value} {dC : Nat → ClassId} {dI : Nat → Nat → Nat} {h0 h1 h2 : Nat} {cI cL : ClassId} {sz : Nat} {u w : MS} {v : Int64} (hy : plainName y.cls = true) (hyc : y.cls = RX1) (hw : ws = Cond.code y cc maxL ret :: ws') (hlen : (lg_sl (.ref h0 :: as)).length ≤ maxL)
    (body : ∀ (p : Program) (e : Env) (s : State) (m : MethodId) (below : List Frame) (meth : Method) (c : Code) (ls : Array Slot) (A : Nat → Prop), p.tables.exec = Jvm.exec → c.code = cc → meth.sig.returnType = ret → meth.locks = false → c.maxLocals = maxL → s.vm.findClass RX1 = some m.cls → (∀ w ∈ ws, w.before (Value.ref h0 :: as).toArray s = true) → (∀ q, s.heap.size ≤ q → A q) → va_P (dC, dI) vwCl (mW h0 h1 h2 cI cL u) s.heap → va_D A (mW h0 h1 h2 cI cL u) → va_K (dC, dI) vwCl (mT cI cL) s → tbS "FixedPlaneModel" A s s.heap → va_S A s.heap s.heap [] → lv_has ls maxL (lv_args 0 (.ref h0 :: as)) →
      W p l e (headSpec ws rm).room s m (Value.ref h0 :: as).toArray below meth c s.heap [] 0 0 (MQ below (mQl dC dI h0 h1 h2 cI cL A v w) (Value.ref h0 :: as).toArray s 0 0 A) (F0 m 0 ls [])) : Met l y ws rm (va_Pc (.ref h0 :: as) (mPre dC dI h0 h1 h2 cI cL sz u)) (mQl dC dI h0 h1 h2 cI cL (va_A (mW h0 h1 h2 cI cL u) sz) v w) 0 0 (va_A (mW h0 h1 h2 cI cL u) sz) := by
  refine Met.ofW (cc := cc) (maxL := maxL) (ret := ret) hy hw ?_
  intro p e s m args below meth c s₁ B hml hv
  obtain ⟨rfl, hsz, hP, hK, hD0, htb⟩ := hv
  have hts := atoms_spec (ws := ws) B.pre
  have hown : s.vm.findClass RX1 = some m.cls := hyc ▸ findClass_of_methodNamed B.named
  subst hsz
  have hD := hD0.self (sz := s.heap.size)
  have hl := lv_entry (.ref h0 :: as) hlen
  have hA : ∀ q : Nat, s.heap.size ≤ q → va_A (mW h0 h1 h2 cI cL u) s.heap.size q := fun q h => Or.inr h
  have k := body p e s m below meth c _ (va_A (mW h0 h1 h2 cI cL u) s.heap.size) B.exec B.bytes B.returns B.notSynchronized hml hown hts hA hP hD hK htb va_S.rf hl
  rw [lg_entry_eq]
  exact k
theorem mg_l {p : Program} {l : Launch} {e : Env} {R : Room} {s : State} {m : MethodId} {args : Array Value} {below : List Frame} {meth : Method} {c : Code} {H : Heap} {locs : List Loc} {cells slots : Nat} {Q : State → Prop} {dC : Nat → ClassId} {dI : Nat → Nat → Nat} {h0 h1 h2 : Nat} {cI cL : ClassId} {A : Nat → Prop}
    {y : MethodName} {bytes cc : ByteArray} {maxL nL index : Nat} {ret : Option FieldType} {ws ws' : List Cond} {rm : Room} {Ts : List Cond} {own : String} {As rest : List Value} {pc : Nat} {ls : Array Slot} {st0 : List Value} {u w : MS} {v : Int64} {ws0 wr : va_W}
    (S : CallFix p m c cc nL s args Ts own) (hM : Met l y ws rm (va_Pc (.ref h0 :: As) (mPre dC dI h0 h1 h2 cI cL H.size u)) (mQl dC dI h0 h1 h2 cI cL (va_A (mW h0 h1 h2 cI cL u) H.size) v w) 0 0 (va_A (mW h0 h1 h2 cI cL u) H.size)) (n : Nat) (hT : GoodIn Ts (wsV own index RX1 y ws)) (hw : ws = Cond.code y bytes maxL ret :: ws') (hrc : rm.cells = 0) (hrs : rm.slots = 0)
    (hd : y.cls = RX1 ∧ y.cls ≠ "java/lang/invoke/MethodHandle" ∧ y.cls ≠ "java/lang/invoke/VarHandle" ∧ (parseMethodDescriptor y.desc).map (fun d => d.parameters.length) = some n) (hR : rm.frames + 1 ≤ R.frames ∧ 24 + (maxL + 11) + rm.locals ≤ R.locals)
    (hP : va_P (dC, dI) vwCl ws0 H) (hD : va_D A ws0) (hK : va_K (dC, dI) vwCl (mT cI cL) s) (hS : va_S A s.heap H locs) (hA : ∀ q, s.heap.size ≤ q → A q) (htb : tbS "FixedPlaneModel" A s s.heap)
    (isC isR : List Nat) (hC : isC.map (fun i => ws0[i]?) = (mW h0 h1 h2 cI cL u).map some) (hC2 : isC.filterMap (fun i => ws0[i]?) = mW h0 h1 h2 cI cL u) (hnC : va_nd isC = true) (hRr : isR.map (fun i => ws0[i]?) = wr.map some) (hnd : va_nd isR = true) (hdis : ∀ i ∈ isR, i ∉ isC)
    (hn : As.length = n) (hsize : ls.size = nL) (hstack : st0 = As.reverse ++ .ref h0 :: rest) (hW : (rest.map fun v => v.category).sum ≤ 24) (hdg : decode cc pc = .ok (.invokevirtual index, 3)) (hf : cells ≤ R.cells ∧ slots ≤ R.slots)
    (kk : ∀ (H1 : Heap) (locs1 : List Loc), va_P (dC, dI) vwCl (wr ++ mW h0 h1 h2 cI cL w) H1 → va_D A (wr ++ mW h0 h1 h2 cI cL w) → va_S A s.heap H1 locs1 → W p l e R s m args below meth c H1 locs1 cells slots Q (F0 m (pc + 3) ls (.long v :: rest))) : W p l e R s m args below meth c H locs cells slots Q (F0 m pc ls st0) := by
  have hFc := va_free (wc := mW h0 h1 h2 cI cL u) hD hS hA isC hC
  have hPc := hP.sub (ws' := mW h0 h1 h2 cI cL u) isC hC2
  have hDc := hD.sub (ws' := mW h0 h1 h2 cI cL u) isC hnC hC
  refine va_calll (pu_runV S hM n hT hw hrc hrs hd hR ⟨fun a U g mk q => ⟨q.1, q.2.1, q.2.2.1, va_K.moved (u := U) (U := U.calling g mk a) (Vm.Alike.refl U.vm) q.2.2.2.1, q.2.2.2.2.1, tbS.moved (u := U) (U := U.calling g mk a) (Vm.Alike.refl U.vm) q.2.2.2.2.2⟩, va_recv hK hPc (ci := 1) (q0 := 0) rfl rfl, fun U hU hWm => ⟨rfl, by rw [hU], by rw [hU]; exact hPc, va_K.moved hWm.alike hK, hDc.weaken (fun _ _ _ _ => trivial), by rw [hU]; exact ((htb.kept (fun a h1 h2 => hS.2.1 a h1 h2)).moved hWm.alike).narrow hFc⟩⟩ (g := F0 m pc ls st0) rfl hn hsize hstack (by show 2 * 0 + _ ≤ 24; omega) hdg hf) hS (fun q _ h => hFc q h) hFc (fun r z t H1 locs1 ht hvm hw2 hB hz1 hk1 hS1 => ?_)
  obtain ⟨rfl, rfl⟩ := hw2
  obtain ⟨hP1, hK1, hD1⟩ := hB
  rw [ht] at hP1
  obtain ⟨hP2, hD2⟩ := va_join (wr := wr) (w1 := mW h0 h1 h2 cI cL z) hP hD isC isR hC hRr hnd hdis hk1 hFc hP1 hD1
  exact kk H1 locs1 hP2 hD2 hS1
theorem mc_l {p : Program} {l : Launch} {e : Env} {R : Room} {s : State} {m : MethodId} {args : Array Value} {below : List Frame} {meth : Method} {c : Code} {H : Heap} {locs : List Loc} {cells slots : Nat} {Q : State → Prop} {dC : Nat → ClassId} {dI : Nat → Nat → Nat} {h0 h1 h2 : Nat} {cI cL : ClassId} {A : Nat → Prop}
    {y : MethodName} {bytes cc : ByteArray} {maxL nL index : Nat} {ret : Option FieldType} {ws ws' : List Cond} {rm : Room} {Ts : List Cond} {own : String} {As rest : List Value} {pc : Nat} {ls : Array Slot} {st0 : List Value} {u w : MS} {v : Int64}
    (S : CallFix p m c cc nL s args Ts own) (hM : Met l y ws rm (va_Pc (.ref h0 :: As) (mPre dC dI h0 h1 h2 cI cL H.size u)) (mQl dC dI h0 h1 h2 cI cL (va_A (mW h0 h1 h2 cI cL u) H.size) v w) 0 0 (va_A (mW h0 h1 h2 cI cL u) H.size)) (n : Nat) (hT : GoodIn Ts (wsV own index RX1 y ws)) (hw : ws = Cond.code y bytes maxL ret :: ws') (hrc : rm.cells = 0) (hrs : rm.slots = 0)
    (hd : y.cls = RX1 ∧ y.cls ≠ "java/lang/invoke/MethodHandle" ∧ y.cls ≠ "java/lang/invoke/VarHandle" ∧ (parseMethodDescriptor y.desc).map (fun d => d.parameters.length) = some n) (hR : rm.frames + 1 ≤ R.frames ∧ 24 + (maxL + 11) + rm.locals ≤ R.locals)
    (hP : va_P (dC, dI) vwCl (mW h0 h1 h2 cI cL u) H) (hD : va_D A (mW h0 h1 h2 cI cL u)) (hK : va_K (dC, dI) vwCl (mT cI cL) s) (hS : va_S A s.heap H locs) (hA : ∀ q, s.heap.size ≤ q → A q) (htb : tbS "FixedPlaneModel" A s s.heap)
    (hn : As.length = n) (hsize : ls.size = nL) (hstack : st0 = As.reverse ++ .ref h0 :: rest) (hW : (rest.map fun v => v.category).sum ≤ 24) (hdg : decode cc pc = .ok (.invokevirtual index, 3)) (hf : cells ≤ R.cells ∧ slots ≤ R.slots)
    (kk : ∀ (H1 : Heap) (locs1 : List Loc), va_P (dC, dI) vwCl (mW h0 h1 h2 cI cL w) H1 → va_D A (mW h0 h1 h2 cI cL w) → va_S A s.heap H1 locs1 → W p l e R s m args below meth c H1 locs1 cells slots Q (F0 m (pc + 3) ls (.long v :: rest))) : W p l e R s m args below meth c H locs cells slots Q (F0 m pc ls st0) :=
  mg_l (wr := []) S hM n hT hw hrc hrs hd hR hP hD hK hS hA htb [0, 1, 2] [] rfl rfl rfl rfl rfl (fun i h => by cases h) hn hsize hstack hW hdg hf kk
theorem m_iret {p : Program} {l : Launch} {e : Env} {R : Room} {s : State} {m : MethodId} {args : Array Value} {below : List Frame} {meth : Method} {c : Code} {H : Heap} {locs : List Loc} {dC : Nat → ClassId} {dI : Nat → Nat → Nat} {h0 h1 h2 : Nat} {cI cL : ClassId} {A : Nat → Prop} {cc : ByteArray} {v v' : Int32} {w w' : MS} (hexec : p.tables.exec = Jvm.exec) (hb : c.code = cc) (hr : meth.sig.returnType = some .int) (hlocks : meth.locks = false) (hP : va_P (dC, dI) vwCl (mW h0 h1 h2 cI cL w') H) (hD : va_D A (mW h0 h1 h2 cI cL w')) (hK : va_K (dC, dI) vwCl (mT cI cL) s) (hS : va_S A s.heap H locs) {pc : Nat} {ls : Array Slot} (hdg : decode cc pc = .ok (.ireturn, 1)) (he : v' = v ∧ w' = w) : W p l e R s m args below meth c H locs 0 0 (MQ below (mQi dC dI h0 h1 h2 cI cL A v w) args s 0 0 A) (F0 m pc ls [.int v']) :=
  W.iret (v := v') hexec hb hr (fun t ht hW => ⟨⟨v', w', rfl, he, by rw [ht]; exact hP, va_K.moved hW.alike hK, hD⟩, hS.F ht⟩) hS.2.2 hdg hlocks
theorem m_lret {p : Program} {l : Launch} {e : Env} {R : Room} {s : State} {m : MethodId} {args : Array Value} {below : List Frame} {meth : Method} {c : Code} {H : Heap} {locs : List Loc} {dC : Nat → ClassId} {dI : Nat → Nat → Nat} {h0 h1 h2 : Nat} {cI cL : ClassId} {A : Nat → Prop} {cc : ByteArray} {v v' : Int64} {w w' : MS} (hexec : p.tables.exec = Jvm.exec) (hb : c.code = cc) (hr : meth.sig.returnType = some .long) (hlocks : meth.locks = false) (hP : va_P (dC, dI) vwCl (mW h0 h1 h2 cI cL w') H) (hD : va_D A (mW h0 h1 h2 cI cL w')) (hK : va_K (dC, dI) vwCl (mT cI cL) s) (hS : va_S A s.heap H locs) {pc : Nat} {ls : Array Slot} (hdg : decode cc pc = .ok (.lreturn, 1)) (he : v' = v ∧ w' = w) : W p l e R s m args below meth c H locs 0 0 (MQ below (mQl dC dI h0 h1 h2 cI cL A v w) args s 0 0 A) (F0 m pc ls [.long v']) :=
  W.lret (v := v') hexec hb hr (fun t ht hW => ⟨⟨v', w', rfl, he, by rw [ht]; exact hP, va_K.moved hW.alike hK, hD⟩, hS.F ht⟩) hS.2.2 hdg hlocks
theorem m_zret {p : Program} {l : Launch} {e : Env} {R : Room} {s : State} {m : MethodId} {args : Array Value} {below : List Frame} {meth : Method} {c : Code} {H : Heap} {locs : List Loc} {dC : Nat → ClassId} {dI : Nat → Nat → Nat} {h0 h1 h2 : Nat} {cI cL : ClassId} {A : Nat → Prop} {cc : ByteArray} {v v' : Int32} {w w' : MS} (hexec : p.tables.exec = Jvm.exec) (hb : c.code = cc) (hr : meth.sig.returnType = some .boolean) (hlocks : meth.locks = false) (hP : va_P (dC, dI) vwCl (mW h0 h1 h2 cI cL w') H) (hD : va_D A (mW h0 h1 h2 cI cL w')) (hK : va_K (dC, dI) vwCl (mT cI cL) s) (hS : va_S A s.heap H locs) {pc : Nat} {ls : Array Slot} (hdg : decode cc pc = .ok (.ireturn, 1)) (hn : narrow .boolean (.int v') = .int v') (he : v' = v ∧ w' = w) : W p l e R s m args below meth c H locs 0 0 (MQ below (mQi dC dI h0 h1 h2 cI cL A v w) args s 0 0 A) (F0 m pc ls [.int v']) :=
  W.zret (v := v') (ty := .boolean) hexec hb hr hn (fun t ht hW => ⟨⟨v', w', rfl, he, by rw [ht]; exact hP, va_K.moved hW.alike hK, hD⟩, hS.F ht⟩) hS.2.2 hdg hlocks
section PM1
variable {p : Program} {l : Launch} {e : Env} {R : Room} {s : State} {m : MethodId} {args : Array Value} {below : List Frame} {meth : Method} {c : Code} {H : Heap} {locs : List Loc} {cells slots : Nat} {Q : State → Prop}
variable {cc : ByteArray} {pc : Nat} {ls : Array Slot} {rest : List Value} {D : va_G} {cl : List vw_C} {a : Nat} {tys : List (ClassId × FieldType)} {ws : va_W}
theorem pm_iald (hexec : p.tables.exec = Jvm.exec) (hb : c.code = cc) (hK : va_K D cl tys s) (hP : va_P D cl ws H) (q0 t0 : Nat) {cA : ClassId} {n : Nat} {f : Nat → Int32} (ha : ws[q0]? = some (a, .inl (cA, n, .inl f))) (ht : tys[t0]? = some (cA, .int)) {i v : Int32} (hin : vp_in i n) (hv : f i.toNatClampNeg = v) (hdg : decode cc pc = .ok (.iaload, 1))
    (kk : W p l e R s m args below meth c H locs cells slots Q (F0 m (pc + 1) ls (.int v :: rest))) : W p l e R s m args below meth c H locs cells slots Q (F0 m pc ls (.int i :: .ref a :: rest)) := by
  subst hv
  exact va_iald hexec hb hK hP q0 t0 ha ht hin hdg kk
theorem pm_lald (hexec : p.tables.exec = Jvm.exec) (hb : c.code = cc) (hK : va_K D cl tys s) (hP : va_P D cl ws H) (q0 t0 : Nat) {cA : ClassId} {n : Nat} {f : Nat → Int64} (ha : ws[q0]? = some (a, .inl (cA, n, .inr (.inl f)))) (ht : tys[t0]? = some (cA, .long)) {i : Int32} {v : Int64} (hin : vp_in i n) (hv : f i.toNatClampNeg = v) (hdg : decode cc pc = .ok (.laload, 1))
    (kk : W p l e R s m args below meth c H locs cells slots Q (F0 m (pc + 1) ls (.long v :: rest))) : W p l e R s m args below meth c H locs cells slots Q (F0 m pc ls (.int i :: .ref a :: rest)) := by
  subst hv
  exact va_lald hexec hb hK hP q0 t0 ha ht hin hdg kk
end PM1
