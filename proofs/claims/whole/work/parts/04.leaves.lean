theorem hdS_X0_isReal : yX0_isReal.cls ≠ "java/lang/invoke/MethodHandle" ∧ yX0_isReal.cls ≠ "java/lang/invoke/VarHandle" ∧ (parseMethodDescriptor yX0_isReal.desc).map (fun d => d.parameters.length) = some 1 := by decide +kernel
def f_X0_isReal (p0 : Int64) : Int32 := if p0 < (-2147483647) then (0) else (if 2147483647 < p0 then (0) else (1))
abbrev rm_X0_isReal : Room := { frames := 0, cells := 0, slots := 0, locals := 0 }
set_option maxHeartbeats 4000000 in
set_option maxRecDepth 100000 in
theorem cc_X0_isReal (l : Launch) (H0 : Heap) (p0 : Int64)   : Met l yX0_isReal wsX0_isReal rm_X0_isReal (pPc [.long p0] H0 (kN)) (pQi H0 (f_X0_isReal p0)) 0 0 (fun _ => False) := by
  refine pu_head (cc := cX0_isReal) (maxL := 2) (ret := some .boolean) (by decide +kernel) rfl (Nat.le_of_ble_eq_true rfl) ?_
  intro p e s m below meth c ls hx hb hr hlocks hml hown hts hs hk hl
  have hown : s.vm.findClass RX0 = some m.cls := hown
  have hl : lv_has ls 2 [(0, .long p0)] := hl
  refine lv_lload_n hx hb dX0_isReal_0 rfl (lv_at hl 0 rfl) ?_
  refine lv_ldc2 (v := (-2147483647)) hx hb hown (hts (.constantLong RX0 103 (-2147483647)) (by decide +kernel)) dX0_isReal_1 ?_
  refine pl_lt (tgt := 20) hx hb dX0_isReal_4 dX0_isReal_5 (by decide) (fun c_1 => ?_) (fun c_1 => ?_)
  · skip
    refine lv_iconst (v := 0) hx hb dX0_isReal_20 (by decide) ?_
    exact pu_zret hx hb hr hlocks hs dX0_isReal_21 rfl (by rw [f_X0_isReal, if_pos c_1])
  · skip
    refine lv_lload_n hx hb dX0_isReal_8 rfl (lv_at hl 0 rfl) ?_
    refine lv_ldc2 (v := 2147483647) hx hb hown (hts (.constantLong RX0 105 (2147483647)) (by decide +kernel)) dX0_isReal_9 ?_
    refine pl_gt (tgt := 20) hx hb dX0_isReal_12 dX0_isReal_13 (by decide) (fun c_2 => ?_) (fun c_2 => ?_)
    · skip
      refine lv_iconst (v := 0) hx hb dX0_isReal_20 (by decide) ?_
      exact pu_zret hx hb hr hlocks hs dX0_isReal_21 rfl (by rw [f_X0_isReal, if_neg c_1, if_pos c_2])
    · skip
      refine lv_iconst (v := 1) hx hb dX0_isReal_16 (by decide) ?_
      refine lv_goto (tgt := 21) hx hb dX0_isReal_17 (by decide) ?_
      exact pu_zret hx hb hr hlocks hs dX0_isReal_21 rfl (by rw [f_X0_isReal, if_neg c_1, if_neg c_2])
theorem hdS_X0_isValue : yX0_isValue.cls ≠ "java/lang/invoke/MethodHandle" ∧ yX0_isValue.cls ≠ "java/lang/invoke/VarHandle" ∧ (parseMethodDescriptor yX0_isValue.desc).map (fun d => d.parameters.length) = some 2 := by decide +kernel
def f_X0_isValue (p0 : Int32) (p1 : Int32) : Int32 := if p0 = 1 then (1) else (if p0 = 2 then (if (f_X0_isReal ((p1).toInt64)) = 0 then (0) else (1)) else (0))
abbrev rm_X0_isValue : Room := { frames := 1, cells := 0, slots := 0, locals := 37 }
set_option maxHeartbeats 4000000 in
set_option maxRecDepth 100000 in
theorem cc_X0_isValue (l : Launch) (H0 : Heap) (p0 : Int32) (p1 : Int32)   : Met l yX0_isValue wsX0_isValue rm_X0_isValue (pPc [.int p0, .int p1] H0 (kN)) (pQi H0 (f_X0_isValue p0 p1)) 0 0 (fun _ => False) := by
  refine pu_head (cc := cX0_isValue) (maxL := 2) (ret := some .boolean) (by decide +kernel) rfl (Nat.le_of_ble_eq_true rfl) ?_
  intro p e s m below meth c ls hx hb hr hlocks hml hown hts hs hk hl
  have hown : s.vm.findClass RX0 = some m.cls := hown
  have hl : lv_has ls 2 [(0, .int p0), (1, .int p1)] := hl
  refine lv_iload_n hx hb dX0_isValue_0 rfl (lv_at hl 0 rfl) ?_
  refine lv_iconst (v := 1) hx hb dX0_isValue_1 (by decide) ?_
  refine lv_icmp_eq (tgt := 18) hx hb dX0_isValue_2 (by decide) (fun c_1 => ?_) (fun c_1 => ?_)
  · skip
    refine lv_iconst (v := 1) hx hb dX0_isValue_18 (by decide) ?_
    refine lv_goto (tgt := 23) hx hb dX0_isValue_19 (by decide) ?_
    exact pu_zret hx hb hr hlocks hs dX0_isValue_23 rfl (by rw [f_X0_isValue, if_pos c_1])
  · skip
    refine lv_iload_n hx hb dX0_isValue_5 rfl (lv_at hl 0 rfl) ?_
    refine lv_iconst (v := 2) hx hb dX0_isValue_6 (by decide) ?_
    refine lv_icmp_ne (tgt := 22) hx hb dX0_isValue_7 (by decide) (fun c_2 => ?_) (fun c_2 => ?_)
    · skip
      refine lv_iconst (v := 0) hx hb dX0_isValue_22 (by decide) ?_
      exact pu_zret hx hb hr hlocks hs dX0_isValue_23 rfl (by rw [f_X0_isValue, if_neg c_1, if_neg c_2])
    · skip
      refine lv_iload_n hx hb dX0_isValue_10 rfl (lv_at hl 1 rfl) ?_
      refine lv_i2l (v := (p1).toInt64) hx hb dX0_isValue_11 rfl ?_
      refine pu_Si (As := [.long (p1).toInt64]) (rest := []) ⟨hx, hb, hml, hown, hts⟩ (cc_X0_isReal l H0 ((p1).toInt64)) 1 gX0_isValue_X0_isReal rfl rfl rfl hdS_X0_isReal ⟨Nat.le_of_ble_eq_true rfl, Nat.le_of_ble_eq_true rfl⟩ kN_ok kN_at rfl hl.1 rfl (Nat.le_of_ble_eq_true rfl) dX0_isValue_12 ⟨Nat.zero_le _, Nat.zero_le _⟩ ?_
      refine lv_if_eq (tgt := 22) hx hb dX0_isValue_15 (by decide) (fun c_3 => ?_) (fun c_3 => ?_)
      · skip
        refine lv_iconst (v := 0) hx hb dX0_isValue_22 (by decide) ?_
        exact pu_zret hx hb hr hlocks hs dX0_isValue_23 rfl (by rw [f_X0_isValue, if_neg c_1, if_pos c_2, if_pos c_3])
      · skip
        refine lv_iconst (v := 1) hx hb dX0_isValue_18 (by decide) ?_
        refine lv_goto (tgt := 23) hx hb dX0_isValue_19 (by decide) ?_
        exact pu_zret hx hb hr hlocks hs dX0_isValue_23 rfl (by rw [f_X0_isValue, if_neg c_1, if_pos c_2, if_neg c_3])
theorem hdS_X0_areReals : yX0_areReals.cls ≠ "java/lang/invoke/MethodHandle" ∧ yX0_areReals.cls ≠ "java/lang/invoke/VarHandle" ∧ (parseMethodDescriptor yX0_areReals.desc).map (fun d => d.parameters.length) = some 6 := by decide +kernel
def f_X0_areReals (p0 : Int64) (p1 : Int64) (p2 : Int64) (p3 : Int64) (p4 : Int64) (p5 : Int64) : Int32 := if (f_X0_isReal (p0)) = 0 then (0) else (if (f_X0_isReal (p1)) = 0 then (0) else (if (f_X0_isReal (p2)) = 0 then (0) else (if (f_X0_isReal (p3)) = 0 then (0) else (if (f_X0_isReal (p4)) = 0 then (0) else (if (f_X0_isReal (p5)) = 0 then (0) else (1))))))
abbrev rm_X0_areReals : Room := { frames := 1, cells := 0, slots := 0, locals := 37 }
set_option maxHeartbeats 4000000 in
set_option maxRecDepth 100000 in
theorem cc_X0_areReals (l : Launch) (H0 : Heap) (p0 : Int64) (p1 : Int64) (p2 : Int64) (p3 : Int64) (p4 : Int64) (p5 : Int64)   : Met l yX0_areReals wsX0_areReals rm_X0_areReals (pPc [.long p0, .long p1, .long p2, .long p3, .long p4, .long p5] H0 (kN)) (pQi H0 (f_X0_areReals p0 p1 p2 p3 p4 p5)) 0 0 (fun _ => False) := by
  refine pu_head (cc := cX0_areReals) (maxL := 12) (ret := some .boolean) (by decide +kernel) rfl (Nat.le_of_ble_eq_true rfl) ?_
  intro p e s m below meth c ls hx hb hr hlocks hml hown hts hs hk hl
  have hown : s.vm.findClass RX0 = some m.cls := hown
  have hl : lv_has ls 12 [(0, .long p0), (2, .long p1), (4, .long p2), (6, .long p3), (8, .long p4), (10, .long p5)] := hl
  refine lv_lload_n hx hb dX0_areReals_0 rfl (lv_at hl 0 rfl) ?_
  refine pu_Si (As := [.long p0]) (rest := []) ⟨hx, hb, hml, hown, hts⟩ (cc_X0_isReal l H0 (p0)) 1 gX0_areReals_X0_isReal rfl rfl rfl hdS_X0_isReal ⟨Nat.le_of_ble_eq_true rfl, Nat.le_of_ble_eq_true rfl⟩ kN_ok kN_at rfl hl.1 rfl (Nat.le_of_ble_eq_true rfl) dX0_areReals_1 ⟨Nat.zero_le _, Nat.zero_le _⟩ ?_
  refine lv_if_eq (tgt := 50) hx hb dX0_areReals_4 (by decide) (fun c_1 => ?_) (fun c_1 => ?_)
  · skip
    refine lv_iconst (v := 0) hx hb dX0_areReals_50 (by decide) ?_
    exact pu_zret hx hb hr hlocks hs dX0_areReals_51 rfl (by rw [f_X0_areReals, if_pos c_1])
  · skip
    refine lv_lload_n hx hb dX0_areReals_7 rfl (lv_at hl 1 rfl) ?_
    refine pu_Si (As := [.long p1]) (rest := []) ⟨hx, hb, hml, hown, hts⟩ (cc_X0_isReal l H0 (p1)) 1 gX0_areReals_X0_isReal rfl rfl rfl hdS_X0_isReal ⟨Nat.le_of_ble_eq_true rfl, Nat.le_of_ble_eq_true rfl⟩ kN_ok kN_at rfl hl.1 rfl (Nat.le_of_ble_eq_true rfl) dX0_areReals_8 ⟨Nat.zero_le _, Nat.zero_le _⟩ ?_
    refine lv_if_eq (tgt := 50) hx hb dX0_areReals_11 (by decide) (fun c_2 => ?_) (fun c_2 => ?_)
    · skip
      refine lv_iconst (v := 0) hx hb dX0_areReals_50 (by decide) ?_
      exact pu_zret hx hb hr hlocks hs dX0_areReals_51 rfl (by rw [f_X0_areReals, if_neg c_1, if_pos c_2])
    · skip
      refine lv_lload hx hb dX0_areReals_14 (lv_at hl 2 rfl) ?_
      refine pu_Si (As := [.long p2]) (rest := []) ⟨hx, hb, hml, hown, hts⟩ (cc_X0_isReal l H0 (p2)) 1 gX0_areReals_X0_isReal rfl rfl rfl hdS_X0_isReal ⟨Nat.le_of_ble_eq_true rfl, Nat.le_of_ble_eq_true rfl⟩ kN_ok kN_at rfl hl.1 rfl (Nat.le_of_ble_eq_true rfl) dX0_areReals_16 ⟨Nat.zero_le _, Nat.zero_le _⟩ ?_
      refine lv_if_eq (tgt := 50) hx hb dX0_areReals_19 (by decide) (fun c_3 => ?_) (fun c_3 => ?_)
      · skip
        refine lv_iconst (v := 0) hx hb dX0_areReals_50 (by decide) ?_
        exact pu_zret hx hb hr hlocks hs dX0_areReals_51 rfl (by rw [f_X0_areReals, if_neg c_1, if_neg c_2, if_pos c_3])
      · skip
        refine lv_lload hx hb dX0_areReals_22 (lv_at hl 3 rfl) ?_
        refine pu_Si (As := [.long p3]) (rest := []) ⟨hx, hb, hml, hown, hts⟩ (cc_X0_isReal l H0 (p3)) 1 gX0_areReals_X0_isReal rfl rfl rfl hdS_X0_isReal ⟨Nat.le_of_ble_eq_true rfl, Nat.le_of_ble_eq_true rfl⟩ kN_ok kN_at rfl hl.1 rfl (Nat.le_of_ble_eq_true rfl) dX0_areReals_24 ⟨Nat.zero_le _, Nat.zero_le _⟩ ?_
        refine lv_if_eq (tgt := 50) hx hb dX0_areReals_27 (by decide) (fun c_4 => ?_) (fun c_4 => ?_)
        · skip
          refine lv_iconst (v := 0) hx hb dX0_areReals_50 (by decide) ?_
          exact pu_zret hx hb hr hlocks hs dX0_areReals_51 rfl (by rw [f_X0_areReals, if_neg c_1, if_neg c_2, if_neg c_3, if_pos c_4])
        · skip
          refine lv_lload hx hb dX0_areReals_30 (lv_at hl 4 rfl) ?_
          refine pu_Si (As := [.long p4]) (rest := []) ⟨hx, hb, hml, hown, hts⟩ (cc_X0_isReal l H0 (p4)) 1 gX0_areReals_X0_isReal rfl rfl rfl hdS_X0_isReal ⟨Nat.le_of_ble_eq_true rfl, Nat.le_of_ble_eq_true rfl⟩ kN_ok kN_at rfl hl.1 rfl (Nat.le_of_ble_eq_true rfl) dX0_areReals_32 ⟨Nat.zero_le _, Nat.zero_le _⟩ ?_
          refine lv_if_eq (tgt := 50) hx hb dX0_areReals_35 (by decide) (fun c_5 => ?_) (fun c_5 => ?_)
          · skip
            refine lv_iconst (v := 0) hx hb dX0_areReals_50 (by decide) ?_
            exact pu_zret hx hb hr hlocks hs dX0_areReals_51 rfl (by rw [f_X0_areReals, if_neg c_1, if_neg c_2, if_neg c_3, if_neg c_4, if_pos c_5])
          · skip
            refine lv_lload hx hb dX0_areReals_38 (lv_at hl 5 rfl) ?_
            refine pu_Si (As := [.long p5]) (rest := []) ⟨hx, hb, hml, hown, hts⟩ (cc_X0_isReal l H0 (p5)) 1 gX0_areReals_X0_isReal rfl rfl rfl hdS_X0_isReal ⟨Nat.le_of_ble_eq_true rfl, Nat.le_of_ble_eq_true rfl⟩ kN_ok kN_at rfl hl.1 rfl (Nat.le_of_ble_eq_true rfl) dX0_areReals_40 ⟨Nat.zero_le _, Nat.zero_le _⟩ ?_
            refine lv_if_eq (tgt := 50) hx hb dX0_areReals_43 (by decide) (fun c_6 => ?_) (fun c_6 => ?_)
            · skip
              refine lv_iconst (v := 0) hx hb dX0_areReals_50 (by decide) ?_
              exact pu_zret hx hb hr hlocks hs dX0_areReals_51 rfl (by rw [f_X0_areReals, if_neg c_1, if_neg c_2, if_neg c_3, if_neg c_4, if_neg c_5, if_pos c_6])
            · skip
              refine lv_iconst (v := 1) hx hb dX0_areReals_46 (by decide) ?_
              refine lv_goto (tgt := 51) hx hb dX0_areReals_47 (by decide) ?_
              exact pu_zret hx hb hr hlocks hs dX0_areReals_51 rfl (by rw [f_X0_areReals, if_neg c_1, if_neg c_2, if_neg c_3, if_neg c_4, if_neg c_5, if_neg c_6])
theorem hdS_X0_units : yX0_units.cls ≠ "java/lang/invoke/MethodHandle" ∧ yX0_units.cls ≠ "java/lang/invoke/VarHandle" ∧ (parseMethodDescriptor yX0_units.desc).map (fun d => d.parameters.length) = some 2 := by decide +kernel
def f_X0_units (p0 : Int32) (p1 : Int32) : Int64 := if p0 = 1 then (((p1).toInt64 * 65536)) else ((p1).toInt64)
abbrev rm_X0_units : Room := { frames := 0, cells := 0, slots := 0, locals := 0 }
set_option maxHeartbeats 4000000 in
set_option maxRecDepth 100000 in
theorem cc_X0_units (l : Launch) (H0 : Heap) (p0 : Int32) (p1 : Int32)   : Met l yX0_units wsX0_units rm_X0_units (pPc [.int p0, .int p1] H0 (kN)) (pQl H0 (f_X0_units p0 p1)) 0 0 (fun _ => False) := by
  refine pu_head (cc := cX0_units) (maxL := 2) (ret := some .long) (by decide +kernel) rfl (Nat.le_of_ble_eq_true rfl) ?_
  intro p e s m below meth c ls hx hb hr hlocks hml hown hts hs hk hl
  have hown : s.vm.findClass RX0 = some m.cls := hown
  have hl : lv_has ls 2 [(0, .int p0), (1, .int p1)] := hl
  refine lv_iload_n hx hb dX0_units_0 rfl (lv_at hl 0 rfl) ?_
  refine lv_iconst (v := 1) hx hb dX0_units_1 (by decide) ?_
  refine lv_icmp_ne (tgt := 14) hx hb dX0_units_2 (by decide) (fun c_1 => ?_) (fun c_1 => ?_)
  · skip
    refine lv_iload_n hx hb dX0_units_14 rfl (lv_at hl 1 rfl) ?_
    refine lv_i2l (v := (p1).toInt64) hx hb dX0_units_15 rfl ?_
    exact pu_lret hx hb hr hlocks hs dX0_units_16 (by rw [f_X0_units, if_neg c_1])
  · skip
    refine lv_iload_n hx hb dX0_units_5 rfl (lv_at hl 1 rfl) ?_
    refine lv_i2l (v := (p1).toInt64) hx hb dX0_units_6 rfl ?_
    refine lv_ldc2 (v := 65536) hx hb hown (hts (.constantLong RX0 91 (65536)) (by decide +kernel)) dX0_units_7 ?_
    refine lv_lmul hx hb dX0_units_10 ?_
    refine lv_goto (tgt := 16) hx hb dX0_units_11 (by decide) ?_
    exact pu_lret hx hb hr hlocks hs dX0_units_16 (by rw [f_X0_units, if_pos c_1])
theorem hdS_X0_isForWholesAlone : yX0_isForWholesAlone.cls ≠ "java/lang/invoke/MethodHandle" ∧ yX0_isForWholesAlone.cls ≠ "java/lang/invoke/VarHandle" ∧ (parseMethodDescriptor yX0_isForWholesAlone.desc).map (fun d => d.parameters.length) = some 1 := by decide +kernel
def f_X0_isForWholesAlone (p0 : Int32) : Int32 := if p0 = 4 then (1) else (if p0 = 5 then (1) else (if p0 < 7 then (0) else (1)))
abbrev rm_X0_isForWholesAlone : Room := { frames := 0, cells := 0, slots := 0, locals := 0 }
set_option maxHeartbeats 4000000 in
set_option maxRecDepth 100000 in
theorem cc_X0_isForWholesAlone (l : Launch) (H0 : Heap) (p0 : Int32)   : Met l yX0_isForWholesAlone wsX0_isForWholesAlone rm_X0_isForWholesAlone (pPc [.int p0] H0 (kN)) (pQi H0 (f_X0_isForWholesAlone p0)) 0 0 (fun _ => False) := by
  refine pu_head (cc := cX0_isForWholesAlone) (maxL := 1) (ret := some .boolean) (by decide +kernel) rfl (Nat.le_of_ble_eq_true rfl) ?_
  intro p e s m below meth c ls hx hb hr hlocks hml hown hts hs hk hl
  have hown : s.vm.findClass RX0 = some m.cls := hown
  have hl : lv_has ls 1 [(0, .int p0)] := hl
  refine lv_iload_n hx hb dX0_isForWholesAlone_0 rfl (lv_at hl 0 rfl) ?_
  refine lv_iconst (v := 4) hx hb dX0_isForWholesAlone_1 (by decide) ?_
  refine lv_icmp_eq (tgt := 16) hx hb dX0_isForWholesAlone_2 (by decide) (fun c_1 => ?_) (fun c_1 => ?_)
  · skip
    refine lv_iconst (v := 1) hx hb dX0_isForWholesAlone_16 (by decide) ?_
    refine lv_goto (tgt := 21) hx hb dX0_isForWholesAlone_17 (by decide) ?_
    exact pu_zret hx hb hr hlocks hs dX0_isForWholesAlone_21 rfl (by rw [f_X0_isForWholesAlone, if_pos c_1])
  · skip
    refine lv_iload_n hx hb dX0_isForWholesAlone_5 rfl (lv_at hl 0 rfl) ?_
    refine lv_iconst (v := 5) hx hb dX0_isForWholesAlone_6 (by decide) ?_
    refine lv_icmp_eq (tgt := 16) hx hb dX0_isForWholesAlone_7 (by decide) (fun c_2 => ?_) (fun c_2 => ?_)
    · skip
      refine lv_iconst (v := 1) hx hb dX0_isForWholesAlone_16 (by decide) ?_
      refine lv_goto (tgt := 21) hx hb dX0_isForWholesAlone_17 (by decide) ?_
      exact pu_zret hx hb hr hlocks hs dX0_isForWholesAlone_21 rfl (by rw [f_X0_isForWholesAlone, if_neg c_1, if_pos c_2])
    · skip
      refine lv_iload_n hx hb dX0_isForWholesAlone_10 rfl (lv_at hl 0 rfl) ?_
      refine lv_bipush (v := 7) hx hb dX0_isForWholesAlone_11 (by decide) ?_
      refine lv_icmp_lt (tgt := 20) hx hb dX0_isForWholesAlone_13 (by decide) (fun c_3 => ?_) (fun c_3 => ?_)
      · skip
        refine lv_iconst (v := 0) hx hb dX0_isForWholesAlone_20 (by decide) ?_
        exact pu_zret hx hb hr hlocks hs dX0_isForWholesAlone_21 rfl (by rw [f_X0_isForWholesAlone, if_neg c_1, if_neg c_2, if_pos c_3])
      · skip
        refine lv_iconst (v := 1) hx hb dX0_isForWholesAlone_16 (by decide) ?_
        refine lv_goto (tgt := 21) hx hb dX0_isForWholesAlone_17 (by decide) ?_
        exact pu_zret hx hb hr hlocks hs dX0_isForWholesAlone_21 rfl (by rw [f_X0_isForWholesAlone, if_neg c_1, if_neg c_2, if_neg c_3])
theorem hdS_X0_isAsAReal : yX0_isAsAReal.cls ≠ "java/lang/invoke/MethodHandle" ∧ yX0_isAsAReal.cls ≠ "java/lang/invoke/VarHandle" ∧ (parseMethodDescriptor yX0_isAsAReal.desc).map (fun d => d.parameters.length) = some 1 := by decide +kernel
def f_X0_isAsAReal (p0 : Int32) : Int32 := if p0 = 6 then (1) else (if p0 = 7 then (1) else (if p0 = 8 then (1) else (if p0 = 10 then (1) else (0))))
abbrev rm_X0_isAsAReal : Room := { frames := 0, cells := 0, slots := 0, locals := 0 }
set_option maxHeartbeats 4000000 in
set_option maxRecDepth 100000 in
theorem cc_X0_isAsAReal (l : Launch) (H0 : Heap) (p0 : Int32)   : Met l yX0_isAsAReal wsX0_isAsAReal rm_X0_isAsAReal (pPc [.int p0] H0 (kN)) (pQi H0 (f_X0_isAsAReal p0)) 0 0 (fun _ => False) := by
  refine pu_head (cc := cX0_isAsAReal) (maxL := 1) (ret := some .boolean) (by decide +kernel) rfl (Nat.le_of_ble_eq_true rfl) ?_
  intro p e s m below meth c ls hx hb hr hlocks hml hown hts hs hk hl
  have hown : s.vm.findClass RX0 = some m.cls := hown
  have hl : lv_has ls 1 [(0, .int p0)] := hl
  refine lv_iload_n hx hb dX0_isAsAReal_0 rfl (lv_at hl 0 rfl) ?_
  refine lv_bipush (v := 6) hx hb dX0_isAsAReal_1 (by decide) ?_
  refine lv_icmp_eq (tgt := 24) hx hb dX0_isAsAReal_3 (by decide) (fun c_1 => ?_) (fun c_1 => ?_)
  · skip
    refine lv_iconst (v := 1) hx hb dX0_isAsAReal_24 (by decide) ?_
    refine lv_goto (tgt := 29) hx hb dX0_isAsAReal_25 (by decide) ?_
    exact pu_zret hx hb hr hlocks hs dX0_isAsAReal_29 rfl (by rw [f_X0_isAsAReal, if_pos c_1])
  · skip
    refine lv_iload_n hx hb dX0_isAsAReal_6 rfl (lv_at hl 0 rfl) ?_
    refine lv_bipush (v := 7) hx hb dX0_isAsAReal_7 (by decide) ?_
    refine lv_icmp_eq (tgt := 24) hx hb dX0_isAsAReal_9 (by decide) (fun c_2 => ?_) (fun c_2 => ?_)
    · skip
      refine lv_iconst (v := 1) hx hb dX0_isAsAReal_24 (by decide) ?_
      refine lv_goto (tgt := 29) hx hb dX0_isAsAReal_25 (by decide) ?_
      exact pu_zret hx hb hr hlocks hs dX0_isAsAReal_29 rfl (by rw [f_X0_isAsAReal, if_neg c_1, if_pos c_2])
    · skip
      refine lv_iload_n hx hb dX0_isAsAReal_12 rfl (lv_at hl 0 rfl) ?_
      refine lv_bipush (v := 8) hx hb dX0_isAsAReal_13 (by decide) ?_
      refine lv_icmp_eq (tgt := 24) hx hb dX0_isAsAReal_15 (by decide) (fun c_3 => ?_) (fun c_3 => ?_)
      · skip
        refine lv_iconst (v := 1) hx hb dX0_isAsAReal_24 (by decide) ?_
        refine lv_goto (tgt := 29) hx hb dX0_isAsAReal_25 (by decide) ?_
        exact pu_zret hx hb hr hlocks hs dX0_isAsAReal_29 rfl (by rw [f_X0_isAsAReal, if_neg c_1, if_neg c_2, if_pos c_3])
      · skip
        refine lv_iload_n hx hb dX0_isAsAReal_18 rfl (lv_at hl 0 rfl) ?_
        refine lv_bipush (v := 10) hx hb dX0_isAsAReal_19 (by decide) ?_
        refine lv_icmp_ne (tgt := 28) hx hb dX0_isAsAReal_21 (by decide) (fun c_4 => ?_) (fun c_4 => ?_)
        · skip
          refine lv_iconst (v := 0) hx hb dX0_isAsAReal_28 (by decide) ?_
          exact pu_zret hx hb hr hlocks hs dX0_isAsAReal_29 rfl (by rw [f_X0_isAsAReal, if_neg c_1, if_neg c_2, if_neg c_3, if_neg c_4])
        · skip
          refine lv_iconst (v := 1) hx hb dX0_isAsAReal_24 (by decide) ?_
          refine lv_goto (tgt := 29) hx hb dX0_isAsAReal_25 (by decide) ?_
          exact pu_zret hx hb hr hlocks hs dX0_isAsAReal_29 rfl (by rw [f_X0_isAsAReal, if_neg c_1, if_neg c_2, if_neg c_3, if_pos c_4])
theorem hdS_X0_shifted : yX0_shifted.cls ≠ "java/lang/invoke/MethodHandle" ∧ yX0_shifted.cls ≠ "java/lang/invoke/VarHandle" ∧ (parseMethodDescriptor yX0_shifted.desc).map (fun d => d.parameters.length) = some 2 := by decide +kernel
def f_X0_shifted (p0 : Int32) (p1 : Int32) : Int32 := if (-32) < p1 then (if p1 < 32 then (if p1 < 0 then (((p0).toUInt32 >>> (((-p1)).toUInt32 &&& Int32.toUInt32 31)).toInt32) else ((p0 <<< (p1 &&& 31)))) else (0)) else (0)
abbrev rm_X0_shifted : Room := { frames := 0, cells := 0, slots := 0, locals := 0 }
set_option maxHeartbeats 4000000 in
set_option maxRecDepth 100000 in
theorem cc_X0_shifted (l : Launch) (H0 : Heap) (p0 : Int32) (p1 : Int32)   : Met l yX0_shifted wsX0_shifted rm_X0_shifted (pPc [.int p0, .int p1] H0 (kN)) (pQi H0 (f_X0_shifted p0 p1)) 0 0 (fun _ => False) := by
  refine pu_head (cc := cX0_shifted) (maxL := 2) (ret := some .int) (by decide +kernel) rfl (Nat.le_of_ble_eq_true rfl) ?_
  intro p e s m below meth c ls hx hb hr hlocks hml hown hts hs hk hl
  have hown : s.vm.findClass RX0 = some m.cls := hown
  have hl : lv_has ls 2 [(0, .int p0), (1, .int p1)] := hl
  refine lv_iload_n hx hb dX0_shifted_0 rfl (lv_at hl 1 rfl) ?_
  refine lv_bipush (v := (-32)) hx hb dX0_shifted_1 (by decide) ?_
  refine pi_le (tgt := 12) hx hb dX0_shifted_3 (by decide) (fun c_1 => ?_) (fun c_1 => ?_)
  · skip
    refine lv_iconst (v := 0) hx hb dX0_shifted_12 (by decide) ?_
    exact pu_iret hx hb hr hlocks hs dX0_shifted_13 (by rw [f_X0_shifted, if_neg c_1])
  · skip
    refine lv_iload_n hx hb dX0_shifted_6 rfl (lv_at hl 1 rfl) ?_
    refine lv_bipush (v := 32) hx hb dX0_shifted_7 (by decide) ?_
    refine lv_icmp_lt (tgt := 14) hx hb dX0_shifted_9 (by decide) (fun c_2 => ?_) (fun c_2 => ?_)
    · skip
      refine lv_iload_n hx hb dX0_shifted_14 rfl (lv_at hl 1 rfl) ?_
      refine lv_if_lt (tgt := 24) hx hb dX0_shifted_15 (by decide) (fun c_3 => ?_) (fun c_3 => ?_)
      · skip
        refine lv_iload_n hx hb dX0_shifted_24 rfl (lv_at hl 0 rfl) ?_
        refine lv_iload_n hx hb dX0_shifted_25 rfl (lv_at hl 1 rfl) ?_
        refine lv_ineg hx hb dX0_shifted_26 ?_
        refine lv_iushr (v := ((p0).toUInt32 >>> (((-p1)).toUInt32 &&& Int32.toUInt32 31)).toInt32) hx hb dX0_shifted_27 rfl ?_
        exact pu_iret hx hb hr hlocks hs dX0_shifted_28 (by rw [f_X0_shifted, if_pos c_1, if_pos c_2, if_pos c_3])
      · skip
        refine lv_iload_n hx hb dX0_shifted_18 rfl (lv_at hl 0 rfl) ?_
        refine lv_iload_n hx hb dX0_shifted_19 rfl (lv_at hl 1 rfl) ?_
        refine lv_ishl hx hb dX0_shifted_20 ?_
        refine lv_goto (tgt := 28) hx hb dX0_shifted_21 (by decide) ?_
        exact pu_iret hx hb hr hlocks hs dX0_shifted_28 (by rw [f_X0_shifted, if_pos c_1, if_pos c_2, if_neg c_3])
    · skip
      refine lv_iconst (v := 0) hx hb dX0_shifted_12 (by decide) ?_
      exact pu_iret hx hb hr hlocks hs dX0_shifted_13 (by rw [f_X0_shifted, if_pos c_1, if_neg c_2])
theorem hdS_X0_floor : yX0_floor.cls ≠ "java/lang/invoke/MethodHandle" ∧ yX0_floor.cls ≠ "java/lang/invoke/VarHandle" ∧ (parseMethodDescriptor yX0_floor.desc).map (fun d => d.parameters.length) = some 1 := by decide +kernel
def f_X0_floor (p0 : Int64) : Int64 := ((p0 >>> ((16 : Int32).toInt64 &&& 63)) <<< ((16 : Int32).toInt64 &&& 63))
abbrev rm_X0_floor : Room := { frames := 0, cells := 0, slots := 0, locals := 0 }
set_option maxHeartbeats 4000000 in
set_option maxRecDepth 100000 in
theorem cc_X0_floor (l : Launch) (H0 : Heap) (p0 : Int64)   : Met l yX0_floor wsX0_floor rm_X0_floor (pPc [.long p0] H0 (kN)) (pQl H0 (f_X0_floor p0)) 0 0 (fun _ => False) := by
  refine pu_head (cc := cX0_floor) (maxL := 2) (ret := some .long) (by decide +kernel) rfl (Nat.le_of_ble_eq_true rfl) ?_
  intro p e s m below meth c ls hx hb hr hlocks hml hown hts hs hk hl
  have hown : s.vm.findClass RX0 = some m.cls := hown
  have hl : lv_has ls 2 [(0, .long p0)] := hl
  refine lv_lload_n hx hb dX0_floor_0 rfl (lv_at hl 0 rfl) ?_
  refine lv_bipush (v := 16) hx hb dX0_floor_1 (by decide) ?_
  refine lv_lshr (v := (p0 >>> ((16 : Int32).toInt64 &&& 63))) hx hb dX0_floor_3 rfl ?_
  refine lv_bipush (v := 16) hx hb dX0_floor_4 (by decide) ?_
  refine lv_lshl (v := ((p0 >>> ((16 : Int32).toInt64 &&& 63)) <<< ((16 : Int32).toInt64 &&& 63))) hx hb dX0_floor_6 rfl ?_
  exact pu_lret hx hb hr hlocks hs dX0_floor_7 (by rw [f_X0_floor])
theorem hdS_X0_cut : yX0_cut.cls ≠ "java/lang/invoke/MethodHandle" ∧ yX0_cut.cls ≠ "java/lang/invoke/VarHandle" ∧ (parseMethodDescriptor yX0_cut.desc).map (fun d => d.parameters.length) = some 2 := by decide +kernel
def f_X0_cut (p0 : Int32) (p1 : Int64) : Int64 := if p0 = 2 then ((f_X0_floor ((p1 + 65535)))) else (if p0 = 3 then ((f_X0_floor (p1))) else (if p0 = 4 then ((f_X0_floor ((p1 + 32768)))) else (((p1 / 65536) * 65536))))
abbrev rm_X0_cut : Room := { frames := 1, cells := 0, slots := 0, locals := 37 }
set_option maxHeartbeats 4000000 in
set_option maxRecDepth 100000 in
theorem cc_X0_cut (l : Launch) (H0 : Heap) (p0 : Int32) (p1 : Int64)   : Met l yX0_cut wsX0_cut rm_X0_cut (pPc [.int p0, .long p1] H0 (kN)) (pQl H0 (f_X0_cut p0 p1)) 0 0 (fun _ => False) := by
  refine pu_head (cc := cX0_cut) (maxL := 3) (ret := some .long) (by decide +kernel) rfl (Nat.le_of_ble_eq_true rfl) ?_
  intro p e s m below meth c ls hx hb hr hlocks hml hown hts hs hk hl
  have hown : s.vm.findClass RX0 = some m.cls := hown
  have hl : lv_has ls 3 [(0, .int p0), (1, .long p1)] := hl
  refine lv_iload_n hx hb dX0_cut_0 rfl (lv_at hl 0 rfl) ?_
  by_cases c_1 : p0 = 2
  · skip
    refine lv_tableIn (tgt := 28) (off := 27) hx hb dX0_cut_1 (by rw [c_1]; decide) (by rw [c_1]; decide) (by rw [c_1]; decide) (by decide) ?_
    refine lv_lload_n hx hb dX0_cut_28 rfl (lv_at hl 1 rfl) ?_
    refine lv_ldc2 (v := 65535) hx hb hown (hts (.constantLong RX0 135 (65535)) (by decide +kernel)) dX0_cut_29 ?_
    refine lv_ladd hx hb dX0_cut_32 ?_
    refine pu_Sl (As := [.long (p1 + 65535)]) (rest := []) ⟨hx, hb, hml, hown, hts⟩ (cc_X0_floor l H0 ((p1 + 65535))) 1 gX0_cut_X0_floor rfl rfl rfl hdS_X0_floor ⟨Nat.le_of_ble_eq_true rfl, Nat.le_of_ble_eq_true rfl⟩ kN_ok kN_at rfl hl.1 rfl (Nat.le_of_ble_eq_true rfl) dX0_cut_33 ⟨Nat.zero_le _, Nat.zero_le _⟩ ?_
    exact pu_lret hx hb hr hlocks hs dX0_cut_36 (by rw [f_X0_cut, if_pos c_1])
  by_cases c_2 : p0 = 3
  · skip
    refine lv_tableIn (tgt := 37) (off := 36) hx hb dX0_cut_1 (by rw [c_2]; decide) (by rw [c_2]; decide) (by rw [c_2]; decide) (by decide) ?_
    refine lv_lload_n hx hb dX0_cut_37 rfl (lv_at hl 1 rfl) ?_
    refine pu_Sl (As := [.long p1]) (rest := []) ⟨hx, hb, hml, hown, hts⟩ (cc_X0_floor l H0 (p1)) 1 gX0_cut_X0_floor rfl rfl rfl hdS_X0_floor ⟨Nat.le_of_ble_eq_true rfl, Nat.le_of_ble_eq_true rfl⟩ kN_ok kN_at rfl hl.1 rfl (Nat.le_of_ble_eq_true rfl) dX0_cut_38 ⟨Nat.zero_le _, Nat.zero_le _⟩ ?_
    exact pu_lret hx hb hr hlocks hs dX0_cut_41 (by rw [f_X0_cut, if_neg c_1, if_pos c_2])
  by_cases c_3 : p0 = 4
  · skip
    refine lv_tableIn (tgt := 42) (off := 41) hx hb dX0_cut_1 (by rw [c_3]; decide) (by rw [c_3]; decide) (by rw [c_3]; decide) (by decide) ?_
    refine lv_lload_n hx hb dX0_cut_42 rfl (lv_at hl 1 rfl) ?_
    refine lv_ldc2 (v := 32768) hx hb hown (hts (.constantLong RX0 140 (32768)) (by decide +kernel)) dX0_cut_43 ?_
    refine lv_ladd hx hb dX0_cut_46 ?_
    refine pu_Sl (As := [.long (p1 + 32768)]) (rest := []) ⟨hx, hb, hml, hown, hts⟩ (cc_X0_floor l H0 ((p1 + 32768))) 1 gX0_cut_X0_floor rfl rfl rfl hdS_X0_floor ⟨Nat.le_of_ble_eq_true rfl, Nat.le_of_ble_eq_true rfl⟩ kN_ok kN_at rfl hl.1 rfl (Nat.le_of_ble_eq_true rfl) dX0_cut_47 ⟨Nat.zero_le _, Nat.zero_le _⟩ ?_
    exact pu_lret hx hb hr hlocks hs dX0_cut_50 (by rw [f_X0_cut, if_neg c_1, if_neg c_2, if_pos c_3])
  refine lv_tableOut (tgt := 51) hx hb dX0_cut_1 (by have q2 : p0.toInt ≠ 2 := fun q => c_1 (Int32.toInt_inj.mp (q.trans (by decide))); have q3 : p0.toInt ≠ 3 := fun q => c_2 (Int32.toInt_inj.mp (q.trans (by decide))); have q4 : p0.toInt ≠ 4 := fun q => c_3 (Int32.toInt_inj.mp (q.trans (by decide))); omega) (by decide) ?_
  refine lv_lload_n hx hb dX0_cut_51 rfl (lv_at hl 1 rfl) ?_
  refine lv_ldc2 (v := 65536) hx hb hown (hts (.constantLong RX0 91 (65536)) (by decide +kernel)) dX0_cut_52 ?_
  refine lv_ldiv hx hb dX0_cut_55 (by decide) ?_
  refine lv_ldc2 (v := 65536) hx hb hown (hts (.constantLong RX0 91 (65536)) (by decide +kernel)) dX0_cut_56 ?_
  refine lv_lmul hx hb dX0_cut_59 ?_
  exact pu_lret hx hb hr hlocks hs dX0_cut_60 (by rw [f_X0_cut, if_neg c_1, if_neg c_2, if_neg c_3])
theorem hdS_X0_withoutPlaces : yX0_withoutPlaces.cls ≠ "java/lang/invoke/MethodHandle" ∧ yX0_withoutPlaces.cls ≠ "java/lang/invoke/VarHandle" ∧ (parseMethodDescriptor yX0_withoutPlaces.desc).map (fun d => d.parameters.length) = some 1 := by decide +kernel
def f_X0_withoutPlaces (p0 : Int64) : Int64 := ((p0 + 32768) >>> ((16 : Int32).toInt64 &&& 63))
abbrev rm_X0_withoutPlaces : Room := { frames := 0, cells := 0, slots := 0, locals := 0 }
set_option maxHeartbeats 4000000 in
set_option maxRecDepth 100000 in
theorem cc_X0_withoutPlaces (l : Launch) (H0 : Heap) (p0 : Int64)   : Met l yX0_withoutPlaces wsX0_withoutPlaces rm_X0_withoutPlaces (pPc [.long p0] H0 (kN)) (pQl H0 (f_X0_withoutPlaces p0)) 0 0 (fun _ => False) := by
  refine pu_head (cc := cX0_withoutPlaces) (maxL := 2) (ret := some .long) (by decide +kernel) rfl (Nat.le_of_ble_eq_true rfl) ?_
  intro p e s m below meth c ls hx hb hr hlocks hml hown hts hs hk hl
  have hown : s.vm.findClass RX0 = some m.cls := hown
  have hl : lv_has ls 2 [(0, .long p0)] := hl
  refine lv_lload_n hx hb dX0_withoutPlaces_0 rfl (lv_at hl 0 rfl) ?_
  refine lv_ldc2 (v := 32768) hx hb hown (hts (.constantLong RX0 140 (32768)) (by decide +kernel)) dX0_withoutPlaces_1 ?_
  refine lv_ladd hx hb dX0_withoutPlaces_4 ?_
  refine lv_bipush (v := 16) hx hb dX0_withoutPlaces_5 (by decide) ?_
  refine lv_lshr (v := ((p0 + 32768) >>> ((16 : Int32).toInt64 &&& 63))) hx hb dX0_withoutPlaces_7 rfl ?_
  exact pu_lret hx hb hr hlocks hs dX0_withoutPlaces_8 (by rw [f_X0_withoutPlaces])
theorem hdS_X0_cross : yX0_cross.cls ≠ "java/lang/invoke/MethodHandle" ∧ yX0_cross.cls ≠ "java/lang/invoke/VarHandle" ∧ (parseMethodDescriptor yX0_cross.desc).map (fun d => d.parameters.length) = some 4 := by decide +kernel
def f_X0_cross (p0 : Int32) (p1 : Int32) (p2 : Int32) (p3 : Int32) : Int64 := (((p0).toInt64 * (p1).toInt64) - ((p2).toInt64 * (p3).toInt64))
abbrev rm_X0_cross : Room := { frames := 0, cells := 0, slots := 0, locals := 0 }
set_option maxHeartbeats 4000000 in
set_option maxRecDepth 100000 in
theorem cc_X0_cross (l : Launch) (H0 : Heap) (p0 : Int32) (p1 : Int32) (p2 : Int32) (p3 : Int32)   : Met l yX0_cross wsX0_cross rm_X0_cross (pPc [.int p0, .int p1, .int p2, .int p3] H0 (kN)) (pQl H0 (f_X0_cross p0 p1 p2 p3)) 0 0 (fun _ => False) := by
  refine pu_head (cc := cX0_cross) (maxL := 4) (ret := some .long) (by decide +kernel) rfl (Nat.le_of_ble_eq_true rfl) ?_
  intro p e s m below meth c ls hx hb hr hlocks hml hown hts hs hk hl
  have hown : s.vm.findClass RX0 = some m.cls := hown
  have hl : lv_has ls 4 [(0, .int p0), (1, .int p1), (2, .int p2), (3, .int p3)] := hl
  refine lv_iload_n hx hb dX0_cross_0 rfl (lv_at hl 0 rfl) ?_
  refine lv_i2l (v := (p0).toInt64) hx hb dX0_cross_1 rfl ?_
  refine lv_iload_n hx hb dX0_cross_2 rfl (lv_at hl 1 rfl) ?_
  refine lv_i2l (v := (p1).toInt64) hx hb dX0_cross_3 rfl ?_
  refine lv_lmul hx hb dX0_cross_4 ?_
  refine lv_iload_n hx hb dX0_cross_5 rfl (lv_at hl 2 rfl) ?_
  refine lv_i2l (v := (p2).toInt64) hx hb dX0_cross_6 rfl ?_
  refine lv_iload_n hx hb dX0_cross_7 rfl (lv_at hl 3 rfl) ?_
  refine lv_i2l (v := (p3).toInt64) hx hb dX0_cross_8 rfl ?_
  refine lv_lmul hx hb dX0_cross_9 ?_
  refine lv_lsub hx hb dX0_cross_10 ?_
  exact pu_lret hx hb hr hlocks hs dX0_cross_11 (by rw [f_X0_cross])
theorem hdS_J9_floorDiv_f86c9 : yJ9_floorDiv_f86c9.cls ≠ "java/lang/invoke/MethodHandle" ∧ yJ9_floorDiv_f86c9.cls ≠ "java/lang/invoke/VarHandle" ∧ (parseMethodDescriptor yJ9_floorDiv_f86c9.desc).map (fun d => d.parameters.length) = some 2 := by decide +kernel
def f_J9_floorDiv_f86c9 (p0 : Int64) (p1 : Int64) : Int64 := if (p0 ^^^ p1) < 0 then (if ((p0 / p1) * p1) = p0 then ((p0 / p1)) else (((p0 / p1) - 1))) else ((p0 / p1))
abbrev rm_J9_floorDiv_f86c9 : Room := { frames := 0, cells := 0, slots := 0, locals := 0 }
set_option maxHeartbeats 4000000 in
set_option maxRecDepth 100000 in
theorem cc_J9_floorDiv_f86c9 (l : Launch) (H0 : Heap) (p0 : Int64) (p1 : Int64)  (hb0 : ¬ p1 = 0) : Met l yJ9_floorDiv_f86c9 wsJ9_floorDiv_f86c9 rm_J9_floorDiv_f86c9 (pPc [.long p0, .long p1] H0 (kN)) (pQl H0 (f_J9_floorDiv_f86c9 p0 p1)) 0 0 (fun _ => False) := by
  refine pu_headF (cc := cJ9_floorDiv_f86c9) (maxL := 6) (ret := some .long) (by decide +kernel) rfl (Nat.le_of_ble_eq_true rfl) ?_
  intro p e s m below meth c ls hx hb hr hlocks hml hown hts hs hk hl
  have hown : s.vm.findClass RJ9 = some m.cls := hown
  have hl : lv_has ls 6 [(0, .long p0), (2, .long p1)] := hl
  refine lv_lload_n hx hb dJ9_floorDiv_f86c9_0 rfl (lv_at hl 0 rfl) ?_
  refine lv_lload_n hx hb dJ9_floorDiv_f86c9_1 rfl (lv_at hl 1 rfl) ?_
  refine lv_ldiv hx hb dJ9_floorDiv_f86c9_2 (hb0) ?_
  refine lv_lstore (lv' := [(4, .long (p0 / p1)), (0, .long p0), (2, .long p1)]) hx hb dJ9_floorDiv_f86c9_3 hl (by decide) rfl (fun ls hl => ?_)
  refine lv_lload_n hx hb dJ9_floorDiv_f86c9_5 rfl (lv_at hl 1 rfl) ?_
  refine lv_lload_n hx hb dJ9_floorDiv_f86c9_6 rfl (lv_at hl 2 rfl) ?_
  refine lv_lxor hx hb dJ9_floorDiv_f86c9_7 ?_
  refine lv_lconst (v := 0) hx hb dJ9_floorDiv_f86c9_8 (by decide) ?_
  refine pl_ge (tgt := 27) hx hb dJ9_floorDiv_f86c9_9 dJ9_floorDiv_f86c9_10 (by decide) (fun c_1 => ?_) (fun c_1 => ?_)
  · skip
    refine lv_lload hx hb dJ9_floorDiv_f86c9_27 (lv_at hl 0 rfl) ?_
    exact pu_lret hx hb hr hlocks hs dJ9_floorDiv_f86c9_29 (by rw [f_J9_floorDiv_f86c9, if_neg c_1])
  · skip
    refine lv_lload hx hb dJ9_floorDiv_f86c9_13 (lv_at hl 0 rfl) ?_
    refine lv_lload_n hx hb dJ9_floorDiv_f86c9_15 rfl (lv_at hl 2 rfl) ?_
    refine lv_lmul hx hb dJ9_floorDiv_f86c9_16 ?_
    refine lv_lload_n hx hb dJ9_floorDiv_f86c9_17 rfl (lv_at hl 1 rfl) ?_
    refine pl_eq (tgt := 27) hx hb dJ9_floorDiv_f86c9_18 dJ9_floorDiv_f86c9_19 (by decide) (fun c_2 => ?_) (fun c_2 => ?_)
    · skip
      refine lv_lload hx hb dJ9_floorDiv_f86c9_27 (lv_at hl 0 rfl) ?_
      exact pu_lret hx hb hr hlocks hs dJ9_floorDiv_f86c9_29 (by rw [f_J9_floorDiv_f86c9, if_pos c_1, if_pos c_2])
    · skip
      refine lv_lload hx hb dJ9_floorDiv_f86c9_22 (lv_at hl 0 rfl) ?_
      refine lv_lconst (v := 1) hx hb dJ9_floorDiv_f86c9_24 (by decide) ?_
      refine lv_lsub hx hb dJ9_floorDiv_f86c9_25 ?_
      exact pu_lret hx hb hr hlocks hs dJ9_floorDiv_f86c9_26 (by rw [f_J9_floorDiv_f86c9, if_pos c_1, if_neg c_2])
theorem hdS_J9_floorMod_f86c9 : yJ9_floorMod_f86c9.cls ≠ "java/lang/invoke/MethodHandle" ∧ yJ9_floorMod_f86c9.cls ≠ "java/lang/invoke/VarHandle" ∧ (parseMethodDescriptor yJ9_floorMod_f86c9.desc).map (fun d => d.parameters.length) = some 2 := by decide +kernel
def f_J9_floorMod_f86c9 (p0 : Int64) (p1 : Int64) : Int64 := if (p0 ^^^ p1) < 0 then (if (p0 - p0 / p1 * p1) = 0 then ((p0 - p0 / p1 * p1)) else (((p0 - p0 / p1 * p1) + p1))) else ((p0 - p0 / p1 * p1))
abbrev rm_J9_floorMod_f86c9 : Room := { frames := 0, cells := 0, slots := 0, locals := 0 }
set_option maxHeartbeats 4000000 in
set_option maxRecDepth 100000 in
theorem cc_J9_floorMod_f86c9 (l : Launch) (H0 : Heap) (p0 : Int64) (p1 : Int64)  (hb0 : ¬ p1 = 0) : Met l yJ9_floorMod_f86c9 wsJ9_floorMod_f86c9 rm_J9_floorMod_f86c9 (pPc [.long p0, .long p1] H0 (kN)) (pQl H0 (f_J9_floorMod_f86c9 p0 p1)) 0 0 (fun _ => False) := by
  refine pu_headF (cc := cJ9_floorMod_f86c9) (maxL := 6) (ret := some .long) (by decide +kernel) rfl (Nat.le_of_ble_eq_true rfl) ?_
  intro p e s m below meth c ls hx hb hr hlocks hml hown hts hs hk hl
  have hown : s.vm.findClass RJ9 = some m.cls := hown
  have hl : lv_has ls 6 [(0, .long p0), (2, .long p1)] := hl
  refine lv_lload_n hx hb dJ9_floorMod_f86c9_0 rfl (lv_at hl 0 rfl) ?_
  refine lv_lload_n hx hb dJ9_floorMod_f86c9_1 rfl (lv_at hl 1 rfl) ?_
  refine lv_lrem hx hb dJ9_floorMod_f86c9_2 (hb0) ?_
  refine lv_lstore (lv' := [(4, .long (p0 - p0 / p1 * p1)), (0, .long p0), (2, .long p1)]) hx hb dJ9_floorMod_f86c9_3 hl (by decide) rfl (fun ls hl => ?_)
  refine lv_lload_n hx hb dJ9_floorMod_f86c9_5 rfl (lv_at hl 1 rfl) ?_
  refine lv_lload_n hx hb dJ9_floorMod_f86c9_6 rfl (lv_at hl 2 rfl) ?_
  refine lv_lxor hx hb dJ9_floorMod_f86c9_7 ?_
  refine lv_lconst (v := 0) hx hb dJ9_floorMod_f86c9_8 (by decide) ?_
  refine pl_ge (tgt := 25) hx hb dJ9_floorMod_f86c9_9 dJ9_floorMod_f86c9_10 (by decide) (fun c_1 => ?_) (fun c_1 => ?_)
  · skip
    refine lv_lload hx hb dJ9_floorMod_f86c9_25 (lv_at hl 0 rfl) ?_
    exact pu_lret hx hb hr hlocks hs dJ9_floorMod_f86c9_27 (by rw [f_J9_floorMod_f86c9, if_neg c_1])
  · skip
    refine lv_lload hx hb dJ9_floorMod_f86c9_13 (lv_at hl 0 rfl) ?_
    refine lv_lconst (v := 0) hx hb dJ9_floorMod_f86c9_15 (by decide) ?_
    refine pl_eq (tgt := 25) hx hb dJ9_floorMod_f86c9_16 dJ9_floorMod_f86c9_17 (by decide) (fun c_2 => ?_) (fun c_2 => ?_)
    · skip
      refine lv_lload hx hb dJ9_floorMod_f86c9_25 (lv_at hl 0 rfl) ?_
      exact pu_lret hx hb hr hlocks hs dJ9_floorMod_f86c9_27 (by rw [f_J9_floorMod_f86c9, if_pos c_1, if_pos c_2])
    · skip
      refine lv_lload hx hb dJ9_floorMod_f86c9_20 (lv_at hl 0 rfl) ?_
      refine lv_lload_n hx hb dJ9_floorMod_f86c9_22 rfl (lv_at hl 2 rfl) ?_
      refine lv_ladd hx hb dJ9_floorMod_f86c9_23 ?_
      exact pu_lret hx hb hr hlocks hs dJ9_floorMod_f86c9_24 (by rw [f_J9_floorMod_f86c9, if_pos c_1, if_neg c_2])
theorem hdS_X1_isValue : yX1_isValue.cls ≠ "java/lang/invoke/MethodHandle" ∧ yX1_isValue.cls ≠ "java/lang/invoke/VarHandle" ∧ (parseMethodDescriptor yX1_isValue.desc).map (fun d => d.parameters.length) = some 2 := by decide +kernel
def f_X1_isValue (p0 : Int32) (p1 : Int32) : Int32 := if p0 = 1 then (1) else (if p0 = 2 then (if p1 = (-2147483648) then (0) else (1)) else (0))
abbrev rm_X1_isValue : Room := { frames := 0, cells := 0, slots := 0, locals := 0 }
set_option maxHeartbeats 4000000 in
set_option maxRecDepth 100000 in
theorem cc_X1_isValue (l : Launch) (H0 : Heap) (p0 : Int32) (p1 : Int32)   : Met l yX1_isValue wsX1_isValue rm_X1_isValue (pPc [.int p0, .int p1] H0 (kN)) (pQi H0 (f_X1_isValue p0 p1)) 0 0 (fun _ => False) := by
  refine pu_head (cc := cX1_isValue) (maxL := 2) (ret := some .boolean) (by decide +kernel) rfl (Nat.le_of_ble_eq_true rfl) ?_
  intro p e s m below meth c ls hx hb hr hlocks hml hown hts hs hk hl
  have hown : s.vm.findClass RX1 = some m.cls := hown
  have hl : lv_has ls 2 [(0, .int p0), (1, .int p1)] := hl
  refine lv_iload_n hx hb dX1_isValue_0 rfl (lv_at hl 0 rfl) ?_
  refine lv_iconst (v := 1) hx hb dX1_isValue_1 (by decide) ?_
  refine lv_icmp_eq (tgt := 16) hx hb dX1_isValue_2 (by decide) (fun c_1 => ?_) (fun c_1 => ?_)
  · skip
    refine lv_iconst (v := 1) hx hb dX1_isValue_16 (by decide) ?_
    refine lv_goto (tgt := 21) hx hb dX1_isValue_17 (by decide) ?_
    exact pu_zret hx hb hr hlocks hs dX1_isValue_21 rfl (by rw [f_X1_isValue, if_pos c_1])
  · skip
    refine lv_iload_n hx hb dX1_isValue_5 rfl (lv_at hl 0 rfl) ?_
    refine lv_iconst (v := 2) hx hb dX1_isValue_6 (by decide) ?_
    refine lv_icmp_ne (tgt := 20) hx hb dX1_isValue_7 (by decide) (fun c_2 => ?_) (fun c_2 => ?_)
    · skip
      refine lv_iconst (v := 0) hx hb dX1_isValue_20 (by decide) ?_
      exact pu_zret hx hb hr hlocks hs dX1_isValue_21 rfl (by rw [f_X1_isValue, if_neg c_1, if_neg c_2])
    · skip
      refine lv_iload_n hx hb dX1_isValue_10 rfl (lv_at hl 1 rfl) ?_
      refine lv_ldc (v := (-2147483648)) hx hb hown (hts (.constant RX1 22 (-2147483648)) (by decide +kernel)) dX1_isValue_11 ?_
      refine lv_icmp_eq (tgt := 20) hx hb dX1_isValue_13 (by decide) (fun c_3 => ?_) (fun c_3 => ?_)
      · skip
        refine lv_iconst (v := 0) hx hb dX1_isValue_20 (by decide) ?_
        exact pu_zret hx hb hr hlocks hs dX1_isValue_21 rfl (by rw [f_X1_isValue, if_neg c_1, if_pos c_2, if_pos c_3])
      · skip
        refine lv_iconst (v := 1) hx hb dX1_isValue_16 (by decide) ?_
        refine lv_goto (tgt := 21) hx hb dX1_isValue_17 (by decide) ?_
        exact pu_zret hx hb hr hlocks hs dX1_isValue_21 rfl (by rw [f_X1_isValue, if_neg c_1, if_pos c_2, if_neg c_3])
theorem hdS_X1_hasUnits : yX1_hasUnits.cls ≠ "java/lang/invoke/MethodHandle" ∧ yX1_hasUnits.cls ≠ "java/lang/invoke/VarHandle" ∧ (parseMethodDescriptor yX1_hasUnits.desc).map (fun d => d.parameters.length) = some 2 := by decide +kernel
def f_X1_hasUnits (p0 : Int32) (p1 : Int32) : Int32 := if p0 = 2 then (1) else (if p1 < (-32767) then (0) else (if 32767 < p1 then (0) else (1)))
abbrev rm_X1_hasUnits : Room := { frames := 0, cells := 0, slots := 0, locals := 0 }
set_option maxHeartbeats 4000000 in
set_option maxRecDepth 100000 in
theorem cc_X1_hasUnits (l : Launch) (H0 : Heap) (p0 : Int32) (p1 : Int32)   : Met l yX1_hasUnits wsX1_hasUnits rm_X1_hasUnits (pPc [.int p0, .int p1] H0 (kN)) (pQi H0 (f_X1_hasUnits p0 p1)) 0 0 (fun _ => False) := by
  refine pu_head (cc := cX1_hasUnits) (maxL := 2) (ret := some .boolean) (by decide +kernel) rfl (Nat.le_of_ble_eq_true rfl) ?_
  intro p e s m below meth c ls hx hb hr hlocks hml hown hts hs hk hl
  have hown : s.vm.findClass RX1 = some m.cls := hown
  have hl : lv_has ls 2 [(0, .int p0), (1, .int p1)] := hl
  refine lv_iload_n hx hb dX1_hasUnits_0 rfl (lv_at hl 0 rfl) ?_
  refine lv_iconst (v := 2) hx hb dX1_hasUnits_1 (by decide) ?_
  refine lv_icmp_eq (tgt := 19) hx hb dX1_hasUnits_2 (by decide) (fun c_1 => ?_) (fun c_1 => ?_)
  · skip
    refine lv_iconst (v := 1) hx hb dX1_hasUnits_19 (by decide) ?_
    refine lv_goto (tgt := 24) hx hb dX1_hasUnits_20 (by decide) ?_
    exact pu_zret hx hb hr hlocks hs dX1_hasUnits_24 rfl (by rw [f_X1_hasUnits, if_pos c_1])
  · skip
    refine lv_iload_n hx hb dX1_hasUnits_5 rfl (lv_at hl 1 rfl) ?_
    refine lv_sipush (v := (-32767)) hx hb dX1_hasUnits_6 (by decide) ?_
    refine lv_icmp_lt (tgt := 23) hx hb dX1_hasUnits_9 (by decide) (fun c_2 => ?_) (fun c_2 => ?_)
    · skip
      refine lv_iconst (v := 0) hx hb dX1_hasUnits_23 (by decide) ?_
      exact pu_zret hx hb hr hlocks hs dX1_hasUnits_24 rfl (by rw [f_X1_hasUnits, if_neg c_1, if_pos c_2])
    · skip
      refine lv_iload_n hx hb dX1_hasUnits_12 rfl (lv_at hl 1 rfl) ?_
      refine lv_sipush (v := 32767) hx hb dX1_hasUnits_13 (by decide) ?_
      refine pi_gt (tgt := 23) hx hb dX1_hasUnits_16 (by decide) (fun c_3 => ?_) (fun c_3 => ?_)
      · skip
        refine lv_iconst (v := 0) hx hb dX1_hasUnits_23 (by decide) ?_
        exact pu_zret hx hb hr hlocks hs dX1_hasUnits_24 rfl (by rw [f_X1_hasUnits, if_neg c_1, if_neg c_2, if_pos c_3])
      · skip
        refine lv_iconst (v := 1) hx hb dX1_hasUnits_19 (by decide) ?_
        refine lv_goto (tgt := 24) hx hb dX1_hasUnits_20 (by decide) ?_
        exact pu_zret hx hb hr hlocks hs dX1_hasUnits_24 rfl (by rw [f_X1_hasUnits, if_neg c_1, if_neg c_2, if_neg c_3])
theorem hdS_X1_units : yX1_units.cls ≠ "java/lang/invoke/MethodHandle" ∧ yX1_units.cls ≠ "java/lang/invoke/VarHandle" ∧ (parseMethodDescriptor yX1_units.desc).map (fun d => d.parameters.length) = some 2 := by decide +kernel
def f_X1_units (p0 : Int32) (p1 : Int32) : Int64 := if p0 = 2 then ((p1).toInt64) else ((65536 * (p1).toInt64))
abbrev rm_X1_units : Room := { frames := 0, cells := 0, slots := 0, locals := 0 }
set_option maxHeartbeats 4000000 in
set_option maxRecDepth 100000 in
theorem cc_X1_units (l : Launch) (H0 : Heap) (p0 : Int32) (p1 : Int32)   : Met l yX1_units wsX1_units rm_X1_units (pPc [.int p0, .int p1] H0 (kN)) (pQl H0 (f_X1_units p0 p1)) 0 0 (fun _ => False) := by
  refine pu_head (cc := cX1_units) (maxL := 2) (ret := some .long) (by decide +kernel) rfl (Nat.le_of_ble_eq_true rfl) ?_
  intro p e s m below meth c ls hx hb hr hlocks hml hown hts hs hk hl
  have hown : s.vm.findClass RX1 = some m.cls := hown
  have hl : lv_has ls 2 [(0, .int p0), (1, .int p1)] := hl
  refine lv_iload_n hx hb dX1_units_0 rfl (lv_at hl 0 rfl) ?_
  refine lv_iconst (v := 2) hx hb dX1_units_1 (by decide) ?_
  refine lv_icmp_ne (tgt := 10) hx hb dX1_units_2 (by decide) (fun c_1 => ?_) (fun c_1 => ?_)
  · skip
    refine lv_ldc2 (v := 65536) hx hb hown (hts (.constantLong RX1 23 (65536)) (by decide +kernel)) dX1_units_10 ?_
    refine lv_iload_n hx hb dX1_units_13 rfl (lv_at hl 1 rfl) ?_
    refine lv_i2l (v := (p1).toInt64) hx hb dX1_units_14 rfl ?_
    refine lv_lmul hx hb dX1_units_15 ?_
    exact pu_lret hx hb hr hlocks hs dX1_units_16 (by rw [f_X1_units, if_neg c_1])
  · skip
    refine lv_iload_n hx hb dX1_units_5 rfl (lv_at hl 1 rfl) ?_
    refine lv_i2l (v := (p1).toInt64) hx hb dX1_units_6 rfl ?_
    refine lv_goto (tgt := 16) hx hb dX1_units_7 (by decide) ?_
    exact pu_lret hx hb hr hlocks hs dX1_units_16 (by rw [f_X1_units, if_pos c_1])
theorem hdS_X1_isBad : yX1_isBad.cls ≠ "java/lang/invoke/MethodHandle" ∧ yX1_isBad.cls ≠ "java/lang/invoke/VarHandle" ∧ (parseMethodDescriptor yX1_isBad.desc).map (fun d => d.parameters.length) = some 1 := by decide +kernel
def f_X1_isBad (p0 : Int32) : Int32 := if p0 = (-2147483648) then (1) else (0)
abbrev rm_X1_isBad : Room := { frames := 0, cells := 0, slots := 0, locals := 0 }
set_option maxHeartbeats 4000000 in
set_option maxRecDepth 100000 in
theorem cc_X1_isBad (l : Launch) (H0 : Heap) (p0 : Int32)   : Met l yX1_isBad wsX1_isBad rm_X1_isBad (pPc [.int p0] H0 (kN)) (pQi H0 (f_X1_isBad p0)) 0 0 (fun _ => False) := by
  refine pu_head (cc := cX1_isBad) (maxL := 1) (ret := some .boolean) (by decide +kernel) rfl (Nat.le_of_ble_eq_true rfl) ?_
  intro p e s m below meth c ls hx hb hr hlocks hml hown hts hs hk hl
  have hown : s.vm.findClass RX1 = some m.cls := hown
  have hl : lv_has ls 1 [(0, .int p0)] := hl
  refine lv_iload_n hx hb dX1_isBad_0 rfl (lv_at hl 0 rfl) ?_
  refine lv_ldc (v := (-2147483648)) hx hb hown (hts (.constant RX1 22 (-2147483648)) (by decide +kernel)) dX1_isBad_1 ?_
  refine lv_icmp_ne (tgt := 10) hx hb dX1_isBad_3 (by decide) (fun c_1 => ?_) (fun c_1 => ?_)
  · skip
    refine lv_iconst (v := 0) hx hb dX1_isBad_10 (by decide) ?_
    exact pu_zret hx hb hr hlocks hs dX1_isBad_11 rfl (by rw [f_X1_isBad, if_neg c_1])
  · skip
    refine lv_iconst (v := 1) hx hb dX1_isBad_6 (by decide) ?_
    refine lv_goto (tgt := 11) hx hb dX1_isBad_7 (by decide) ?_
    exact pu_zret hx hb hr hlocks hs dX1_isBad_11 rfl (by rw [f_X1_isBad, if_pos c_1])
theorem hdS_X1_areBad : yX1_areBad.cls ≠ "java/lang/invoke/MethodHandle" ∧ yX1_areBad.cls ≠ "java/lang/invoke/VarHandle" ∧ (parseMethodDescriptor yX1_areBad.desc).map (fun d => d.parameters.length) = some 6 := by decide +kernel
def f_X1_areBad (p0 : Int32) (p1 : Int32) (p2 : Int32) (p3 : Int32) (p4 : Int32) (p5 : Int32) : Int32 := if (f_X1_isBad (p0)) = 0 then (if (f_X1_isBad (p1)) = 0 then (if (f_X1_isBad (p2)) = 0 then (if (f_X1_isBad (p3)) = 0 then (if (f_X1_isBad (p4)) = 0 then (if (f_X1_isBad (p5)) = 0 then (0) else (1)) else (1)) else (1)) else (1)) else (1)) else (1)
abbrev rm_X1_areBad : Room := { frames := 1, cells := 0, slots := 0, locals := 36 }
set_option maxHeartbeats 4000000 in
set_option maxRecDepth 100000 in
theorem cc_X1_areBad (l : Launch) (H0 : Heap) (p0 : Int32) (p1 : Int32) (p2 : Int32) (p3 : Int32) (p4 : Int32) (p5 : Int32)   : Met l yX1_areBad wsX1_areBad rm_X1_areBad (pPc [.int p0, .int p1, .int p2, .int p3, .int p4, .int p5] H0 (kN)) (pQi H0 (f_X1_areBad p0 p1 p2 p3 p4 p5)) 0 0 (fun _ => False) := by
  refine pu_head (cc := cX1_areBad) (maxL := 6) (ret := some .boolean) (by decide +kernel) rfl (Nat.le_of_ble_eq_true rfl) ?_
  intro p e s m below meth c ls hx hb hr hlocks hml hown hts hs hk hl
  have hown : s.vm.findClass RX1 = some m.cls := hown
  have hl : lv_has ls 6 [(0, .int p0), (1, .int p1), (2, .int p2), (3, .int p3), (4, .int p4), (5, .int p5)] := hl
  refine lv_iload_n hx hb dX1_areBad_0 rfl (lv_at hl 0 rfl) ?_
  refine pu_Si (As := [.int p0]) (rest := []) ⟨hx, hb, hml, hown, hts⟩ (cc_X1_isBad l H0 (p0)) 1 gX1_areBad_X1_isBad rfl rfl rfl hdS_X1_isBad ⟨Nat.le_of_ble_eq_true rfl, Nat.le_of_ble_eq_true rfl⟩ kN_ok kN_at rfl hl.1 rfl (Nat.le_of_ble_eq_true rfl) dX1_areBad_1 ⟨Nat.zero_le _, Nat.zero_le _⟩ ?_
  refine lv_if_ne (tgt := 44) hx hb dX1_areBad_4 (by decide) (fun c_1 => ?_) (fun c_1 => ?_)
  · skip
    refine lv_iconst (v := 1) hx hb dX1_areBad_44 (by decide) ?_
    refine lv_goto (tgt := 49) hx hb dX1_areBad_45 (by decide) ?_
    exact pu_zret hx hb hr hlocks hs dX1_areBad_49 rfl (by rw [f_X1_areBad, if_neg c_1])
  · skip
    refine lv_iload_n hx hb dX1_areBad_7 rfl (lv_at hl 1 rfl) ?_
    refine pu_Si (As := [.int p1]) (rest := []) ⟨hx, hb, hml, hown, hts⟩ (cc_X1_isBad l H0 (p1)) 1 gX1_areBad_X1_isBad rfl rfl rfl hdS_X1_isBad ⟨Nat.le_of_ble_eq_true rfl, Nat.le_of_ble_eq_true rfl⟩ kN_ok kN_at rfl hl.1 rfl (Nat.le_of_ble_eq_true rfl) dX1_areBad_8 ⟨Nat.zero_le _, Nat.zero_le _⟩ ?_
    refine lv_if_ne (tgt := 44) hx hb dX1_areBad_11 (by decide) (fun c_2 => ?_) (fun c_2 => ?_)
    · skip
      refine lv_iconst (v := 1) hx hb dX1_areBad_44 (by decide) ?_
      refine lv_goto (tgt := 49) hx hb dX1_areBad_45 (by decide) ?_
      exact pu_zret hx hb hr hlocks hs dX1_areBad_49 rfl (by rw [f_X1_areBad, if_pos c_1, if_neg c_2])
    · skip
      refine lv_iload_n hx hb dX1_areBad_14 rfl (lv_at hl 2 rfl) ?_
      refine pu_Si (As := [.int p2]) (rest := []) ⟨hx, hb, hml, hown, hts⟩ (cc_X1_isBad l H0 (p2)) 1 gX1_areBad_X1_isBad rfl rfl rfl hdS_X1_isBad ⟨Nat.le_of_ble_eq_true rfl, Nat.le_of_ble_eq_true rfl⟩ kN_ok kN_at rfl hl.1 rfl (Nat.le_of_ble_eq_true rfl) dX1_areBad_15 ⟨Nat.zero_le _, Nat.zero_le _⟩ ?_
      refine lv_if_ne (tgt := 44) hx hb dX1_areBad_18 (by decide) (fun c_3 => ?_) (fun c_3 => ?_)
      · skip
        refine lv_iconst (v := 1) hx hb dX1_areBad_44 (by decide) ?_
        refine lv_goto (tgt := 49) hx hb dX1_areBad_45 (by decide) ?_
        exact pu_zret hx hb hr hlocks hs dX1_areBad_49 rfl (by rw [f_X1_areBad, if_pos c_1, if_pos c_2, if_neg c_3])
      · skip
        refine lv_iload_n hx hb dX1_areBad_21 rfl (lv_at hl 3 rfl) ?_
        refine pu_Si (As := [.int p3]) (rest := []) ⟨hx, hb, hml, hown, hts⟩ (cc_X1_isBad l H0 (p3)) 1 gX1_areBad_X1_isBad rfl rfl rfl hdS_X1_isBad ⟨Nat.le_of_ble_eq_true rfl, Nat.le_of_ble_eq_true rfl⟩ kN_ok kN_at rfl hl.1 rfl (Nat.le_of_ble_eq_true rfl) dX1_areBad_22 ⟨Nat.zero_le _, Nat.zero_le _⟩ ?_
        refine lv_if_ne (tgt := 44) hx hb dX1_areBad_25 (by decide) (fun c_4 => ?_) (fun c_4 => ?_)
        · skip
          refine lv_iconst (v := 1) hx hb dX1_areBad_44 (by decide) ?_
          refine lv_goto (tgt := 49) hx hb dX1_areBad_45 (by decide) ?_
          exact pu_zret hx hb hr hlocks hs dX1_areBad_49 rfl (by rw [f_X1_areBad, if_pos c_1, if_pos c_2, if_pos c_3, if_neg c_4])
        · skip
          refine lv_iload hx hb dX1_areBad_28 (lv_at hl 4 rfl) ?_
          refine pu_Si (As := [.int p4]) (rest := []) ⟨hx, hb, hml, hown, hts⟩ (cc_X1_isBad l H0 (p4)) 1 gX1_areBad_X1_isBad rfl rfl rfl hdS_X1_isBad ⟨Nat.le_of_ble_eq_true rfl, Nat.le_of_ble_eq_true rfl⟩ kN_ok kN_at rfl hl.1 rfl (Nat.le_of_ble_eq_true rfl) dX1_areBad_30 ⟨Nat.zero_le _, Nat.zero_le _⟩ ?_
          refine lv_if_ne (tgt := 44) hx hb dX1_areBad_33 (by decide) (fun c_5 => ?_) (fun c_5 => ?_)
          · skip
            refine lv_iconst (v := 1) hx hb dX1_areBad_44 (by decide) ?_
            refine lv_goto (tgt := 49) hx hb dX1_areBad_45 (by decide) ?_
            exact pu_zret hx hb hr hlocks hs dX1_areBad_49 rfl (by rw [f_X1_areBad, if_pos c_1, if_pos c_2, if_pos c_3, if_pos c_4, if_neg c_5])
          · skip
            refine lv_iload hx hb dX1_areBad_36 (lv_at hl 5 rfl) ?_
            refine pu_Si (As := [.int p5]) (rest := []) ⟨hx, hb, hml, hown, hts⟩ (cc_X1_isBad l H0 (p5)) 1 gX1_areBad_X1_isBad rfl rfl rfl hdS_X1_isBad ⟨Nat.le_of_ble_eq_true rfl, Nat.le_of_ble_eq_true rfl⟩ kN_ok kN_at rfl hl.1 rfl (Nat.le_of_ble_eq_true rfl) dX1_areBad_38 ⟨Nat.zero_le _, Nat.zero_le _⟩ ?_
            refine lv_if_eq (tgt := 48) hx hb dX1_areBad_41 (by decide) (fun c_6 => ?_) (fun c_6 => ?_)
            · skip
              refine lv_iconst (v := 0) hx hb dX1_areBad_48 (by decide) ?_
              exact pu_zret hx hb hr hlocks hs dX1_areBad_49 rfl (by rw [f_X1_areBad, if_pos c_1, if_pos c_2, if_pos c_3, if_pos c_4, if_pos c_5, if_pos c_6])
            · skip
              refine lv_iconst (v := 1) hx hb dX1_areBad_44 (by decide) ?_
              refine lv_goto (tgt := 49) hx hb dX1_areBad_45 (by decide) ?_
              exact pu_zret hx hb hr hlocks hs dX1_areBad_49 rfl (by rw [f_X1_areBad, if_pos c_1, if_pos c_2, if_pos c_3, if_pos c_4, if_pos c_5, if_neg c_6])
theorem hdS_X1_down : yX1_down.cls ≠ "java/lang/invoke/MethodHandle" ∧ yX1_down.cls ≠ "java/lang/invoke/VarHandle" ∧ (parseMethodDescriptor yX1_down.desc).map (fun d => d.parameters.length) = some 2 := by decide +kernel
def f_X1_down (p0 : Int64) (p1 : Int64) : Int64 := if (p0 - p0 / p1 * p1) = 0 then ((p0 / p1)) else (if p0 < 0 then (if p1 < 0 then ((p0 / p1)) else (((p0 / p1) - 1))) else (if p1 < 0 then (((p0 / p1) - 1)) else ((p0 / p1))))
abbrev rm_X1_down : Room := { frames := 0, cells := 0, slots := 0, locals := 0 }
set_option maxHeartbeats 4000000 in
set_option maxRecDepth 100000 in
theorem cc_X1_down (l : Launch) (H0 : Heap) (p0 : Int64) (p1 : Int64)  (hb0 : ¬ p1 = 0) : Met l yX1_down wsX1_down rm_X1_down (pPc [.long p0, .long p1] H0 (kN)) (pQl H0 (f_X1_down p0 p1)) 0 0 (fun _ => False) := by
  refine pu_head (cc := cX1_down) (maxL := 6) (ret := some .long) (by decide +kernel) rfl (Nat.le_of_ble_eq_true rfl) ?_
  intro p e s m below meth c ls hx hb hr hlocks hml hown hts hs hk hl
  have hown : s.vm.findClass RX1 = some m.cls := hown
  have hl : lv_has ls 6 [(0, .long p0), (2, .long p1)] := hl
  refine lv_lload_n hx hb dX1_down_0 rfl (lv_at hl 0 rfl) ?_
  refine lv_lload_n hx hb dX1_down_1 rfl (lv_at hl 1 rfl) ?_
  refine lv_ldiv hx hb dX1_down_2 (hb0) ?_
  refine lv_lstore (lv' := [(4, .long (p0 / p1)), (0, .long p0), (2, .long p1)]) hx hb dX1_down_3 hl (by decide) rfl (fun ls hl => ?_)
  refine lv_lload_n hx hb dX1_down_5 rfl (lv_at hl 1 rfl) ?_
  refine lv_lload_n hx hb dX1_down_6 rfl (lv_at hl 2 rfl) ?_
  refine lv_lrem hx hb dX1_down_7 (hb0) ?_
  refine lv_lconst (v := 0) hx hb dX1_down_8 (by decide) ?_
  refine pl_eq (tgt := 45) hx hb dX1_down_9 dX1_down_10 (by decide) (fun c_1 => ?_) (fun c_1 => ?_)
  · skip
    refine lv_lload hx hb dX1_down_45 (lv_at hl 0 rfl) ?_
    exact pu_lret hx hb hr hlocks hs dX1_down_47 (by rw [f_X1_down, if_pos c_1])
  · skip
    refine lv_lload_n hx hb dX1_down_13 rfl (lv_at hl 1 rfl) ?_
    refine lv_lconst (v := 0) hx hb dX1_down_14 (by decide) ?_
    refine pl_ge (tgt := 23) hx hb dX1_down_15 dX1_down_16 (by decide) (fun c_2 => ?_) (fun c_2 => ?_)
    · skip
      refine lv_iconst (v := 0) hx hb dX1_down_23 (by decide) ?_
      refine lv_lload_n hx hb dX1_down_24 rfl (lv_at hl 2 rfl) ?_
      refine lv_lconst (v := 0) hx hb dX1_down_25 (by decide) ?_
      refine pl_ge (tgt := 34) hx hb dX1_down_26 dX1_down_27 (by decide) (fun c_3 => ?_) (fun c_3 => ?_)
      · skip
        refine lv_iconst (v := 0) hx hb dX1_down_34 (by decide) ?_
        refine lv_icmp_eq (tgt := 45) hx hb dX1_down_35 (by decide) (fun _ => ?_) (fun q => absurd (by decide) q)
        refine lv_lload hx hb dX1_down_45 (lv_at hl 0 rfl) ?_
        exact pu_lret hx hb hr hlocks hs dX1_down_47 (by rw [f_X1_down, if_neg c_1, if_neg c_2, if_neg c_3])
      · skip
        refine lv_iconst (v := 1) hx hb dX1_down_30 (by decide) ?_
        refine lv_goto (tgt := 35) hx hb dX1_down_31 (by decide) ?_
        refine lv_icmp_eq (tgt := 45) hx hb dX1_down_35 (by decide) (fun q => absurd q (by decide)) (fun _ => ?_)
        refine lv_lload hx hb dX1_down_38 (lv_at hl 0 rfl) ?_
        refine lv_lconst (v := 1) hx hb dX1_down_40 (by decide) ?_
        refine lv_lsub hx hb dX1_down_41 ?_
        refine lv_goto (tgt := 47) hx hb dX1_down_42 (by decide) ?_
        exact pu_lret hx hb hr hlocks hs dX1_down_47 (by rw [f_X1_down, if_neg c_1, if_neg c_2, if_pos c_3])
    · skip
      refine lv_iconst (v := 1) hx hb dX1_down_19 (by decide) ?_
      refine lv_goto (tgt := 24) hx hb dX1_down_20 (by decide) ?_
      refine lv_lload_n hx hb dX1_down_24 rfl (lv_at hl 2 rfl) ?_
      refine lv_lconst (v := 0) hx hb dX1_down_25 (by decide) ?_
      refine pl_ge (tgt := 34) hx hb dX1_down_26 dX1_down_27 (by decide) (fun c_6 => ?_) (fun c_6 => ?_)
      · skip
        refine lv_iconst (v := 0) hx hb dX1_down_34 (by decide) ?_
        refine lv_icmp_eq (tgt := 45) hx hb dX1_down_35 (by decide) (fun q => absurd q (by decide)) (fun _ => ?_)
        refine lv_lload hx hb dX1_down_38 (lv_at hl 0 rfl) ?_
        refine lv_lconst (v := 1) hx hb dX1_down_40 (by decide) ?_
        refine lv_lsub hx hb dX1_down_41 ?_
        refine lv_goto (tgt := 47) hx hb dX1_down_42 (by decide) ?_
        exact pu_lret hx hb hr hlocks hs dX1_down_47 (by rw [f_X1_down, if_neg c_1, if_pos c_2, if_neg c_6])
      · skip
        refine lv_iconst (v := 1) hx hb dX1_down_30 (by decide) ?_
        refine lv_goto (tgt := 35) hx hb dX1_down_31 (by decide) ?_
        refine lv_icmp_eq (tgt := 45) hx hb dX1_down_35 (by decide) (fun _ => ?_) (fun q => absurd (by decide) q)
        refine lv_lload hx hb dX1_down_45 (lv_at hl 0 rfl) ?_
        exact pu_lret hx hb hr hlocks hs dX1_down_47 (by rw [f_X1_down, if_neg c_1, if_pos c_2, if_pos c_6])
theorem hdS_X1_rounded : yX1_rounded.cls ≠ "java/lang/invoke/MethodHandle" ∧ yX1_rounded.cls ≠ "java/lang/invoke/VarHandle" ∧ (parseMethodDescriptor yX1_rounded.desc).map (fun d => d.parameters.length) = some 1 := by decide +kernel
def f_X1_rounded (p0 : Int64) : Int64 := (f_X1_down ((p0 + 32768)) (65536))
abbrev rm_X1_rounded : Room := { frames := 1, cells := 0, slots := 0, locals := 41 }
set_option maxHeartbeats 4000000 in
set_option maxRecDepth 100000 in
theorem cc_X1_rounded (l : Launch) (H0 : Heap) (p0 : Int64)   : Met l yX1_rounded wsX1_rounded rm_X1_rounded (pPc [.long p0] H0 (kN)) (pQl H0 (f_X1_rounded p0)) 0 0 (fun _ => False) := by
  refine pu_head (cc := cX1_rounded) (maxL := 2) (ret := some .long) (by decide +kernel) rfl (Nat.le_of_ble_eq_true rfl) ?_
  intro p e s m below meth c ls hx hb hr hlocks hml hown hts hs hk hl
  have hown : s.vm.findClass RX1 = some m.cls := hown
  have hl : lv_has ls 2 [(0, .long p0)] := hl
  refine lv_lload_n hx hb dX1_rounded_0 rfl (lv_at hl 0 rfl) ?_
  refine lv_ldc2 (v := 32768) hx hb hown (hts (.constantLong RX1 34 (32768)) (by decide +kernel)) dX1_rounded_1 ?_
  refine lv_ladd hx hb dX1_rounded_4 ?_
  refine lv_ldc2 (v := 65536) hx hb hown (hts (.constantLong RX1 23 (65536)) (by decide +kernel)) dX1_rounded_5 ?_
  refine pu_Sl (As := [.long (p0 + 32768), .long 65536]) (rest := []) ⟨hx, hb, hml, hown, hts⟩ (cc_X1_down l H0 ((p0 + 32768)) (65536) (by decide)) 2 gX1_rounded_X1_down rfl rfl rfl hdS_X1_down ⟨Nat.le_of_ble_eq_true rfl, Nat.le_of_ble_eq_true rfl⟩ kN_ok kN_at rfl hl.1 rfl (Nat.le_of_ble_eq_true rfl) dX1_rounded_8 ⟨Nat.zero_le _, Nat.zero_le _⟩ ?_
  exact pu_lret hx hb hr hlocks hs dX1_rounded_11 (by rw [f_X1_rounded])
