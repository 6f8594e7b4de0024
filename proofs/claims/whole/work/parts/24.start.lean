set_option maxHeartbeats 4000000 in
set_option maxRecDepth 100000 in
/-- every turn of the loop, in the order of the script -/
theorem law_loop {p : Program} {e : Env} {s : State} {m : MethodId} {below : List Frame} {meth : Method} {c : Code} {dC : Nat → ClassId} {dI : Nat → Nat → Nat} {b L : Nat} {xs : Nat → Int32} {hx m0 m1 m2 : Nat} {cI cL : ClassId} (l : Launch) (hL : L ≤ 3584) (C0 : lw_At p s m meth c b L xs) (hK : va_K (dC, dI) vwCl (mT cI cL) s) (hT0 : tbS "FixedPlane" (fun q => s.heap.size ≤ q) s s.heap) (hT1 : tbS "FixedPlaneModel" (fun q => s.heap.size ≤ q) s s.heap) : ∀ (n i : Nat), i ≤ L → L + 1 ≤ i + n → ∀ (rk rn mx my vb : Int32) (en : Nat → Int32) (nx : Nat → Int64), okE en → ∀ (H : Heap) (locs : List Loc), va_P (dC, dI) vwCl (lwS hx m0 m1 m2 cI cL rk rn en nx mx my vb) H → va_D (fun q : Nat => s.heap.size ≤ q) (lwS hx m0 m1 m2 cI cL rk rn en nx mx my vb) → va_S (fun q : Nat => s.heap.size ≤ q) s.heap H locs → ∀ (ls : Array Slot), lv_has ls 4 [(0, .ref b), (1, .ref hx), (2, .ref m0), (3, .int (nI i))] → W p l e room_1 s m #[Value.ref b] below meth c H locs 4 29 (lw_Z below #[Value.ref b] s) (F0 m 18 ls []) := by
  obtain ⟨hx9, hb0, hr, hml, hown, hts, hX, hbl, hlocks, hgv⟩ := id C0
  have hbA : ¬ (fun q : Nat => s.heap.size ≤ q) b := Nat.not_le.mpr hbl
  have hb : c.code = cL_law := hb0
  intro n
  induction n with
  | zero =>
    intro i h1 h2
    exact absurd h2 (by omega)
  | succ n ih =>
    intro i hi9 hin rk rn mx my vb en nx hok H locs hP hD hS ls hl
    refine lv_iload_n hx9 hb dL_law_18 rfl (lv_at hl 3 rfl) ?_
    refine lv_aload_n hx9 hb dL_law_19 rfl (lv_at hl 0 rfl) ?_
    refine va_slen hx9 hb hX hbl hbA hS dL_law_20 ?_
    refine lv_bipush (v := 7) hx9 hb dL_law_21 (by decide) ?_
    refine lv_isub hx9 hb dL_law_23 ?_
    refine pi_gt (tgt := 551) hx9 hb dL_law_24 (by decide) (fun _ => ?_) (fun hc => ?_)
    · refine lv_iconst (v := 1) hx9 hb dL_law_551 (by decide) ?_
      refine va_forget (fun q hq => hS.2.2 q hq) ?_
      exact lw_ret hx9 hb0 hr hlocks dL_law_552
    · have hi : i + 7 ≤ L := lw_end hi9 hL hc
      have kk : lwK p l e s m below meth c dC dI b hx m0 m1 m2 cI cL 545 ls := by
        intro rk rn mx my vb en nx hok H locs hP hD hS
        refine lv_iinc (v := nI (i + 7)) (lv' := [(3, .int (nI (i + 7))), (0, .ref b), (1, .ref hx), (2, .ref m0)]) hx9 hb dL_law_545 hl (k := 3) rfl (nI_add i 7) (by decide) rfl (fun ls hl => ?_)
        refine lv_goto (tgt := 18) hx9 hb dL_law_548 (by decide) ?_
        exact ih (i + 7) hi (by omega) rk rn mx my vb en nx hok H locs hP hD hS ls (lv_sub hl [1, 2, 3, 0] rfl)
      refine lv_aload_n hx9 hb dL_law_27 rfl (lv_at hl 0 rfl) ?_
      refine lv_iload_n hx9 hb dL_law_28 rfl (lv_at hl 3 rfl) ?_
      refine va_sld hx9 hb hX hbl hbA hS (vp_in_nI (by omega) (by omega)) dL_law_29 ?_
      refine lv_bipush (v := 15) hx9 hb dL_law_30 (by decide) ?_
      refine lv_iand hx9 hb dL_law_32 ?_
      obtain ⟨j, hj, ej⟩ := vp_in_of (pk_andIn (xs (nI i).toNatClampNeg) (m := 15) 4 (by decide) (by decide)) (by decide)
      rw [ej]
      match j, hj with
      | 0, _ => exact lv_tableIn (off := 59) (tgt := 92) hx9 hb dL_law_33 (by decide +kernel) (by decide +kernel) (by decide +kernel) (by decide) (lc_two l hL C0 hK hT0 hT1 hi hok hP hD hS hl kk)
      | 1, _ => exact lv_tableIn (off := 122) (tgt := 155) hx9 hb dL_law_33 (by decide +kernel) (by decide +kernel) (by decide +kernel) (by decide) (lc_one l hL C0 hK hT0 hT1 hi hok hP hD hS hl kk)
      | 2, _ => exact lv_tableIn (off := 165) (tgt := 198) hx9 hb dL_law_33 (by decide +kernel) (by decide +kernel) (by decide +kernel) (by decide) (lc_kind l hL C0 hK hT0 hT1 hi hok hP hD hS hl kk)
      | 3, _ => exact lv_tableIn (off := 178) (tgt := 211) hx9 hb dL_law_33 (by decide +kernel) (by decide +kernel) (by decide +kernel) (by decide) (lc_number l hL C0 hK hT0 hT1 hi hok hP hD hS hl kk)
      | 4, _ => exact lv_tableIn (off := 191) (tgt := 224) hx9 hb dL_law_33 (by decide +kernel) (by decide +kernel) (by decide +kernel) (by decide) (lc_compare l hL C0 hK hT0 hT1 hi hok hP hD hS hl kk)
      | 5, _ => exact lv_tableIn (off := 244) (tgt := 277) hx9 hb dL_law_33 (by decide +kernel) (by decide +kernel) (by decide +kernel) (by decide) (lc_matrix l hL C0 hK hT0 hT1 hi hok hP hD hS hl kk)
      | 6, _ => exact lv_tableIn (off := 319) (tgt := 352) hx9 hb dL_law_33 (by decide +kernel) (by decide +kernel) (by decide +kernel) (by decide) (lc_entry l hL C0 hK hT0 hT1 hi hok hP hD hS hl kk)
      | 7, _ => exact lv_tableIn (off := 342) (tgt := 375) hx9 hb dL_law_33 (by decide +kernel) (by decide +kernel) (by decide +kernel) (by decide) (lc_before l hL C0 hK hT0 hT1 hi hok hP hD hS hl kk)
      | 8, _ => exact lv_tableIn (off := 417) (tgt := 450) hx9 hb dL_law_33 (by decide +kernel) (by decide +kernel) (by decide +kernel) (by decide) (lc_invert l hL C0 hK hT0 hT1 hi hok hP hD hS hl kk)
      | 9, _ => exact lv_tableIn (off := 430) (tgt := 463) hx9 hb dL_law_33 (by decide +kernel) (by decide +kernel) (by decide +kernel) (by decide) (lc_move l hL C0 hK hT0 hT1 hi hok hP hD hS hl kk)
      | 10, _ => exact lv_tableIn (off := 489) (tgt := 522) hx9 hb dL_law_33 (by decide +kernel) (by decide +kernel) (by decide +kernel) (by decide) (lc_moved l hL C0 hK hT0 hT1 hi hok hP hD hS hl kk)
      | j + 11, hj =>
        refine lv_tableOut (tgt := 545) hx9 hb dL_law_33 (Or.inr ?_) (by decide) (kk rk rn mx my vb en nx hok H locs hP hD hS)
        rw [nI_toInt (by omega)]
        omega
theorem ok_en0 : okE en0 := by
  intro k hk
  match k, hk with
  | 0, _ => decide +kernel
  | 1, _ => decide +kernel
  | 2, _ => decide +kernel
  | 3, _ => decide +kernel
  | 4, _ => decide +kernel
  | 5, _ => decide +kernel
  | k + 6, hk => exact absurd hk (by omega)
theorem lw_x01 : x01 = lwX 1 0 en0 0 0 := rfl
set_option maxHeartbeats 4000000 in
set_option maxRecDepth 100000 in
/-- THE LAW, from its entry -/
theorem whole_start {p : Program} {e : Env} {s : State} {m : MethodId} {below : List Frame} {meth : Method} {c : Code} (l : Launch) (hflags : l.flags = flags0) {b L : Nat} {xs : Nat → Int32} (hL : L ≤ 3584) (C0 : lw_At p s m meth c b L xs) : W p l e room_1 s m #[Value.ref b] below meth c s.heap [] 0 0 (lw_Z below #[Value.ref b] s) (entryFrame m ([Value.ref b] : List Value).toArray 4) := by
  obtain ⟨hx9, hb0, hr, hml, hown0, hts, hX, hbl, hlocks, hgv⟩ := id C0
  have hb : c.code = cL_law := hb0
  have hown : s.vm.findClass RL = some m.cls := hown0
  have hT0 := tb_x hgv hts
  have hT1 := tb_m hgv hts
  have htl : ∀ w ∈ wsL_law, w.before #[Value.ref b] s = true := fun w h => hts w (wsL_law_in w h)
  have hA : ∀ q : Nat, s.heap.size ≤ q → (fun q : Nat => s.heap.size ≤ q) q := fun _ h => h
  have hbA : ¬ (fun q : Nat => s.heap.size ≤ q) b := Nat.not_le.mpr hbl
  obtain ⟨c0, iS0, hKn0⟩ := u_known (C := RX0) (T := TX0) (N := 10) (n := 10) hts inX0 (hts (.instantiable RX0 10) (by decide +kernel))
  obtain ⟨c1, iS1, hKn1⟩ := u_known (C := RX1) (T := TX1) (N := 7) (n := 7) hts inX1 (hts (.instantiable RX1 7) (by decide +kernel))
  obtain ⟨dC, dI, hKc⟩ : ∃ (dC : Nat → ClassId) (dI : Nat → Nat → Nat), ∀ (k : Nat) (q : vw_C), vwCl[k]? = some q → u_Kn s q.1 q.2.1 q.2.2 (dC k) (dI k) := by
    refine ⟨fun k => if k = 0 then c0 else c1, fun k => if k = 0 then iS0 else iS1, ?_⟩
    intro k q hq
    match k, hq with
    | 0, hq => cases hq; exact hKn0
    | 1, hq => cases hq; exact hKn1
    | k + 2, hq => simp [vwCl] at hq
  have hS : va_S (fun q : Nat => s.heap.size ≤ q) s.heap s.heap [] := va_S.rf
  have hK : va_K (dC, dI) vwCl [] s := ⟨hKc, fun k q h => by simp at h⟩
  have hP : va_P (dC, dI) vwCl [] s.heap := fun k q h => by simp at h
  have hD : va_D (fun q : Nat => s.heap.size ≤ q) [] := ⟨fun i j p q h => by simp at h, fun k q h => by simp at h⟩
  have hl := lv_entry ([.ref b]) (n := 4) (Nat.le_of_ble_eq_true rfl)
  rw [lg_entry_eq]
  generalize (lg_sl ([.ref b]) ++ List.replicate (4 - (lg_sl ([.ref b])).length) Slot.unset).toArray = ls at hl ⊢
  have hl : lv_has ls 4 [(0, .ref b)] := hl
  refine va_new (ci := 0) (fs := [.int 0, .int 0, .int 0, .int 0, .int 0, .int 0, .int 0, .int 0, .int 0, .int 0]) (C := RX0) (T := TX0) (N := 10) hx9 hb hts inX0 tyX0 tyX0_ok hown (hts (.classLink RL 7 RX0) (by decide +kernel)) (hts (.instantiable RX0 10) (by decide +kernel)) (hts (.initialized RX0) (by decide +kernel)) hK hP hD hS hA rfl (fun j hj => by match j, hj with | 0, _ => rfl | 1, _ => rfl | 2, _ => rfl | 3, _ => rfl | 4, _ => rfl | 5, _ => rfl | 6, _ => rfl | 7, _ => rfl | 8, _ => rfl | 9, _ => rfl | j + 10, hj => exact absurd hj (by omega)) (Nat.le_of_ble_eq_true rfl) (Nat.le_of_ble_eq_true rfl) dL_law_0 (fun hx H hP hD hS => ?_)
  have hP : va_P (dC, dI) vwCl (xW hx x00) H := hP
  have hD : va_D (fun q : Nat => s.heap.size ≤ q) (xW hx x00) := hD
  refine W.widen (k := 1) (n := 10) (by omega) (by omega) ?_
  refine lv_dup hx9 hb dL_law_3 rfl ?_
  have hFc := va_free (wc := xW hx x00) hD hS hA [0] rfl
  have hDc := hD.sub (ws' := xW hx x00) [0] (by decide) rfl
  refine va_callv (va_runI (As := []) (rest := [.ref hx]) ⟨hx9, hb, hml, hown, htl⟩ (cc_X0_init l dC dI hx H.size) (cwI 0 htl gL_law_X0_init rfl rfl rfl (hts (.initialized RX0) (by decide +kernel)) (hts (.methodLink RL 9 yX0_init) (by decide +kernel)) (hts (.instanceMethod yX0_init) (by decide +kernel)) rfl (by decide +kernel) ⟨Nat.le_of_ble_eq_true rfl, Nat.le_of_ble_eq_true rfl⟩) ⟨fun a U g mk q => by obtain ⟨q0, q1, qP, qK, qD⟩ := q; exact ⟨q0, q1, qP, va_K.moved (u := U) (U := U.calling g mk a) (Vm.Alike.refl U.vm) qK, qD⟩, fun U hU hW => ⟨rfl, by rw [hU], by rw [hU]; exact hP, va_K.moved hW.alike hK, hDc.weaken (fun _ _ _ _ => trivial)⟩⟩ rfl rfl hl.1 rfl (lv_room (Nat.le_of_ble_eq_true rfl)) dL_law_4 ⟨Nat.le_of_ble_eq_true rfl, Nat.le_of_ble_eq_true rfl⟩) hS (fun q _ h => hFc q h) hFc (fun u t H1 locs ht hvm hw hB hz1 hk1 hS => ?_)
  subst hw
  obtain ⟨hP1, hK1, hD1⟩ := hB
  rw [ht] at hP1
  obtain ⟨hP, hD⟩ := va_join (wr := []) (w1 := xW hx x01) hP hD [0] [] rfl rfl (by decide) (by decide) hk1 hFc hP1 hD1
  generalize H1 = H at hP hS ⊢
  have hP : va_P (dC, dI) vwCl (xW hx x01) H := hP
  have hD : va_D (fun q : Nat => s.heap.size ≤ q) (xW hx x01) := hD
  refine W.widen (k := 1) (n := 10) (by omega) (by omega) ?_
  refine lv_astore_n (lv' := [(1, .ref hx), (0, .ref b)]) hx9 hb dL_law_7 rfl hl (by decide) rfl (fun ls hl => ?_)
  refine va_new (ci := 1) (fs := [.int 0, .int 0, .null, .null, .int 0, .int 0, .int 0]) (C := RX1) (T := TX1) (N := 7) hx9 hb hts inX1 tyX1 tyX1_ok hown (hts (.classLink RL 10 RX1) (by decide +kernel)) (hts (.instantiable RX1 7) (by decide +kernel)) (hts (.initialized RX1) (by decide +kernel)) hK hP hD hS hA rfl (fun j hj => by match j, hj with | 0, _ => rfl | 1, _ => rfl | 2, _ => rfl | 3, _ => rfl | 4, _ => rfl | 5, _ => rfl | 6, _ => rfl | j + 7, hj => exact absurd hj (by omega)) (Nat.le_of_ble_eq_true rfl) (Nat.le_of_ble_eq_true rfl) dL_law_8 (fun m0 H hP hD hS => ?_)
  have hP : va_P (dC, dI) vwCl (xW hx x01 ++ nW m0) H := hP
  have hD : va_D (fun q : Nat => s.heap.size ≤ q) (xW hx x01 ++ nW m0) := hD
  refine W.widen (k := 2) (n := 17) (by omega) (by omega) ?_
  refine lv_dup hx9 hb dL_law_11 rfl ?_
  have hFc := va_free (wc := nW m0) hD hS hA [1] rfl
  have hPc := hP.sub (ws' := nW m0) [1] rfl
  have hDc := hD.sub (ws' := nW m0) [1] (by decide) rfl
  refine va_callv (va_runI (As := []) (rest := [.ref m0]) ⟨hx9, hb, hml, hown, htl⟩ (cc_X1_init l dC dI m0 H.size) (cwI 0 htl gL_law_X1_init rfl rfl rfl (hts (.initialized RX1) (by decide +kernel)) (hts (.methodLink RL 12 yX1_init) (by decide +kernel)) (hts (.instanceMethod yX1_init) (by decide +kernel)) rfl (by decide +kernel) ⟨Nat.le_of_ble_eq_true rfl, Nat.le_of_ble_eq_true rfl⟩) ⟨fun a U g mk q => by obtain ⟨q0, q1, qP, qK, qD⟩ := q; exact ⟨q0, q1, qP, va_K.moved (u := U) (U := U.calling g mk a) (Vm.Alike.refl U.vm) qK, qD⟩, fun U hU hW => ⟨rfl, by rw [hU], by rw [hU]; exact hPc, va_K.moved hW.alike hK, hDc.weaken (fun _ _ _ _ => trivial)⟩⟩ rfl rfl hl.1 rfl (lv_room (Nat.le_of_ble_eq_true rfl)) dL_law_12 ⟨Nat.le_of_ble_eq_true rfl, Nat.le_of_ble_eq_true rfl⟩) hS (fun q _ h => hFc q h) hFc (fun u t H1 locs ht hvm hw hB hz1 hk1 hS => ?_)
  subst hw
  obtain ⟨m1, m2, cI, cL, hP1, hK1, hD1⟩ := hB
  rw [ht] at hP1
  have hK1 := va_K.moved hvm.symm hK1
  obtain ⟨hP, hD⟩ := va_join (wr := xW hx x01) (w1 := mW m0 m1 m2 cI cL m01) hP hD [1] [0] rfl rfl (by decide) (by decide) hk1 hFc hP1 hD1
  generalize H1 = H at hP hS ⊢
  rw [lw_x01] at hP hD
  refine W.widen (k := 4) (n := 29) (by omega) (by omega) ?_
  refine lv_astore_n (lv' := [(2, .ref m0), (1, .ref hx), (0, .ref b)]) hx9 hb dL_law_15 rfl hl (by decide) rfl (fun ls hl => ?_)
  refine lv_iconst (v := 0) hx9 hb dL_law_16 (by decide) ?_
  refine lv_istore_n (lv' := [(3, .int 0), (2, .ref m0), (1, .ref hx), (0, .ref b)]) hx9 hb dL_law_17 rfl hl (by decide) rfl (fun ls hl => ?_)
  exact law_loop l hL C0 hK1 hT0 hT1 (L + 1) 0 (Nat.zero_le L) (by omega) 1 0 0 0 0 en0 (fun _ => 0) ok_en0 H _ hP hD hS ls (lv_sub hl [3, 2, 1, 0] rfl)
