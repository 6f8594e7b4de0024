theorem hdS_X1_root : yX1_root.cls ≠ "java/lang/invoke/MethodHandle" ∧ yX1_root.cls ≠ "java/lang/invoke/VarHandle" ∧ (parseMethodDescriptor yX1_root.desc).map (fun d => d.parameters.length) = some 1 := by decide +kernel
def f_X1_root_L13 (p0 : Int64) : Nat → Int64 → Int64 → Int64
  | 0, sq, rt => rt
  | n + 1, sq, rt => if sq < ((rt + ((1 : Int64) <<< ((nI n).toInt64 &&& 63))) * (rt + ((1 : Int64) <<< ((nI n).toInt64 &&& 63)))) then (f_X1_root_L13 p0 n (sq) (rt)) else (f_X1_root_L13 p0 n (sq) ((rt + ((1 : Int64) <<< ((nI n).toInt64 &&& 63)))))
def f_X1_root (p0 : Int64) : Int64 := f_X1_root_L13 p0 (25) ((p0 * 65536)) (0)
abbrev rm_X1_root : Room := { frames := 0, cells := 0, slots := 0, locals := 0 }
set_option maxHeartbeats 4000000 in
set_option maxRecDepth 100000 in
theorem cc_X1_root (l : Launch) (H0 : Heap) (p0 : Int64)   : Met l yX1_root wsX1_root rm_X1_root (pPc [.long p0] H0 (kN)) (pQl H0 (f_X1_root p0)) 0 0 (fun _ => False) := by
  refine pu_head (cc := cX1_root) (maxL := 9) (ret := some .long) (by decide +kernel) rfl (Nat.le_of_ble_eq_true rfl) ?_
  intro p e s m below meth c ls hx hb hr hlocks hml hown hts hs hk hl
  have hown : s.vm.findClass RX1 = some m.cls := hown
  have hl : lv_has ls 9 [(0, .long p0)] := hl
  have hL13 : ∀ (n : Nat) (sq : Int64) (rt : Int64), n ≤ 25 → (f_X1_root p0 = f_X1_root_L13 p0 n sq rt) → ∀ (ls : Array Slot), lv_has ls 9 [(2, .long sq), (4, .long rt), (6, .int (nI n - 1))] → W p l e (headSpec wsX1_root rm_X1_root).room s m ([.long p0] : List Value).toArray below meth c H0 [] 0 0 (MQ below (pQl H0 (f_X1_root p0)) ([.long p0] : List Value).toArray s 0 0 (fun _ => False)) (F0 m 13 ls []) := by
    intro n
    induction n with
    | zero =>
      intro sq rt hI hF ls hl
      refine lv_iload hx hb dX1_root_13 (lv_at hl 2 rfl) ?_
      refine lv_if_lt (tgt := 47) hx hb dX1_root_15 (by decide) (fun _ => ?_) (fun q => absurd (by decide) q)
      refine lv_lload hx hb dX1_root_47 (lv_at hl 1 rfl) ?_
      exact pu_lret hx hb hr hlocks hs dX1_root_49 (by rw [hF, f_X1_root_L13])
    | succ n ih =>
      intro sq rt hI hF ls hl
      rw [nI_pred] at hl
      refine lv_iload hx hb dX1_root_13 (lv_at hl 2 rfl) ?_
      refine lv_if_lt (tgt := 47) hx hb dX1_root_15 (by decide) (fun q => absurd q (nI_pos (by omega))) (fun _ => ?_)
      refine lv_lload hx hb dX1_root_18 (lv_at hl 1 rfl) ?_
      refine lv_lconst (v := 1) hx hb dX1_root_20 (by decide) ?_
      refine lv_iload hx hb dX1_root_21 (lv_at hl 2 rfl) ?_
      refine lv_lshl (v := ((1 : Int64) <<< ((nI n).toInt64 &&& 63))) hx hb dX1_root_23 rfl ?_
      refine lv_ladd hx hb dX1_root_24 ?_
      refine lv_lstore (lv' := [(7, .long (rt + ((1 : Int64) <<< ((nI n).toInt64 &&& 63)))), (2, .long sq), (4, .long rt), (6, .int (nI n))]) hx hb dX1_root_25 hl (by decide) rfl (fun ls hl => ?_)
      refine lv_lload hx hb dX1_root_27 (lv_at hl 0 rfl) ?_
      refine lv_lload hx hb dX1_root_29 (lv_at hl 0 rfl) ?_
      refine lv_lmul hx hb dX1_root_31 ?_
      refine lv_lload_n hx hb dX1_root_32 rfl (lv_at hl 1 rfl) ?_
      refine pl_gt (tgt := 41) hx hb dX1_root_33 dX1_root_34 (by decide) (fun c_3 => ?_) (fun c_3 => ?_)
      · skip
        refine lv_iinc (v := (nI n - 1)) (lv' := [(6, .int (nI n - 1)), (7, .long (rt + ((1 : Int64) <<< ((nI n).toInt64 &&& 63)))), (2, .long sq), (4, .long rt)]) (k := 3) hx hb dX1_root_41 hl rfl (by rw [Int32.sub_eq_add_neg]; rfl) (by decide) rfl (fun ls hl => ?_)
        refine lv_goto (tgt := 13) hx hb dX1_root_44 (by decide) ?_
        exact ih (sq) (rt) (by omega) (hF.trans (by rw [f_X1_root_L13, if_pos c_3])) ls (lv_sub hl [2, 3, 0] rfl)
      · skip
        refine lv_lload hx hb dX1_root_37 (lv_at hl 0 rfl) ?_
        refine lv_lstore (lv' := [(4, .long (rt + ((1 : Int64) <<< ((nI n).toInt64 &&& 63)))), (7, .long (rt + ((1 : Int64) <<< ((nI n).toInt64 &&& 63)))), (2, .long sq), (6, .int (nI n))]) hx hb dX1_root_39 hl (by decide) rfl (fun ls hl => ?_)
        refine lv_iinc (v := (nI n - 1)) (lv' := [(6, .int (nI n - 1)), (4, .long (rt + ((1 : Int64) <<< ((nI n).toInt64 &&& 63)))), (7, .long (rt + ((1 : Int64) <<< ((nI n).toInt64 &&& 63)))), (2, .long sq)]) (k := 3) hx hb dX1_root_41 hl rfl (by rw [Int32.sub_eq_add_neg]; rfl) (by decide) rfl (fun ls hl => ?_)
        refine lv_goto (tgt := 13) hx hb dX1_root_44 (by decide) ?_
        exact ih (sq) ((rt + ((1 : Int64) <<< ((nI n).toInt64 &&& 63)))) (by omega) (hF.trans (by rw [f_X1_root_L13, if_neg c_3])) ls (lv_sub hl [3, 1, 0] rfl)
  refine lv_lload_n hx hb dX1_root_0 rfl (lv_at hl 0 rfl) ?_
  refine lv_ldc2 (v := 65536) hx hb hown (hts (.constantLong RX1 23 (65536)) (by decide +kernel)) dX1_root_1 ?_
  refine lv_lmul hx hb dX1_root_4 ?_
  refine lv_lstore_n (lv' := [(2, .long (p0 * 65536)), (0, .long p0)]) hx hb dX1_root_5 rfl hl (by decide) rfl (fun ls hl => ?_)
  refine lv_lconst (v := 0) hx hb dX1_root_6 (by decide) ?_
  refine lv_lstore (lv' := [(4, .long 0), (2, .long (p0 * 65536)), (0, .long p0)]) hx hb dX1_root_7 hl (by decide) rfl (fun ls hl => ?_)
  refine lv_bipush (v := 24) hx hb dX1_root_9 (by decide) ?_
  refine lv_istore (lv' := [(6, .int 24), (4, .long 0), (2, .long (p0 * 65536)), (0, .long p0)]) hx hb dX1_root_11 hl (by decide) rfl (fun ls hl => ?_)
  exact hL13 (25) ((p0 * 65536)) (0) (by omega) (by rw [f_X1_root]) ls (lv_sub hl [2, 1, 0] rfl)
theorem hdS_X1_quarter : yX1_quarter.cls ≠ "java/lang/invoke/MethodHandle" ∧ yX1_quarter.cls ≠ "java/lang/invoke/VarHandle" ∧ (parseMethodDescriptor yX1_quarter.desc).map (fun d => d.parameters.length) = some 1 := by decide +kernel
def f_X1_quarter (p0 : Int64) : Int64 := if (p0 - ((((p0 / 65536)).toInt32).toInt64 * 65536)) = 0 then (((sinV (((p0 / 65536)).toInt32).toNatClampNeg)).toInt64) else ((((sinV (((p0 / 65536)).toInt32).toNatClampNeg)).toInt64 + (f_X1_rounded (((((sinV ((((p0 / 65536)).toInt32 + 1)).toNatClampNeg) - (sinV (((p0 / 65536)).toInt32).toNatClampNeg))).toInt64 * (p0 - ((((p0 / 65536)).toInt32).toInt64 * 65536)))))))
abbrev rm_X1_quarter : Room := { frames := 2, cells := 0, slots := 0, locals := 78 }
set_option maxHeartbeats 4000000 in
set_option maxRecDepth 100000 in
theorem cc_X1_quarter (l : Launch) (H0 : Heap) (p0 : Int64)  (hq : 0 ≤ p0.toInt ∧ p0.toInt ≤ 5898240) : Met l yX1_quarter wsX1_quarter rm_X1_quarter (pPc [.long p0] H0 (kT "FixedPlaneModel")) (pQl H0 (f_X1_quarter p0)) 0 0 (fun _ => False) := by
  refine pu_head (cc := cX1_quarter) (maxL := 5) (ret := some .long) (by decide +kernel) rfl (Nat.le_of_ble_eq_true rfl) ?_
  intro p e s m below meth c ls hx hb hr hlocks hml hown hts hs hk hl
  have hown : s.vm.findClass RX1 = some m.cls := hown
  have hl : lv_has ls 5 [(0, .long p0)] := hl
  have hkat : ∀ U : State, U.heap = H0 → s.WarmedH U.vm → kT "FixedPlaneModel" U := by rw [← hs]; exact kT_at hk
  have hSt : va_S (fun _ => False) s.heap H0 [] := by rw [hs]; exact va_S.rf
  obtain ⟨tt, hZ, hTt⟩ := hk
  refine lv_lload_n hx hb dX1_quarter_0 rfl (lv_at hl 0 rfl) ?_
  refine lv_ldc2 (v := 65536) hx hb hown (hts (.constantLong RX1 23 (65536)) (by decide +kernel)) dX1_quarter_1 ?_
  refine lv_ldiv hx hb dX1_quarter_4 (by decide) ?_
  refine lv_l2i (v := ((p0 / 65536)).toInt32) hx hb dX1_quarter_5 rfl ?_
  refine lv_istore_n (lv' := [(2, .int ((p0 / 65536)).toInt32), (0, .long p0)]) hx hb dX1_quarter_6 rfl hl (by decide) rfl (fun ls hl => ?_)
  refine lv_lload_n hx hb dX1_quarter_7 rfl (lv_at hl 1 rfl) ?_
  refine lv_iload_n hx hb dX1_quarter_8 rfl (lv_at hl 0 rfl) ?_
  refine lv_i2l (v := (((p0 / 65536)).toInt32).toInt64) hx hb dX1_quarter_9 rfl ?_
  refine lv_ldc2 (v := 65536) hx hb hown (hts (.constantLong RX1 23 (65536)) (by decide +kernel)) dX1_quarter_10 ?_
  refine lv_lmul hx hb dX1_quarter_13 ?_
  refine lv_lsub hx hb dX1_quarter_14 ?_
  refine lv_lstore_n (lv' := [(3, .long (p0 - ((((p0 / 65536)).toInt32).toInt64 * 65536))), (2, .int ((p0 / 65536)).toInt32), (0, .long p0)]) hx hb dX1_quarter_15 rfl hl (by decide) rfl (fun ls hl => ?_)
  refine lv_lload_n hx hb dX1_quarter_16 rfl (lv_at hl 0 rfl) ?_
  refine lv_lconst (v := 0) hx hb dX1_quarter_17 (by decide) ?_
  refine pl_ne (tgt := 29) hx hb dX1_quarter_18 dX1_quarter_19 (by decide) (fun c_1 => ?_) (fun c_1 => ?_)
  · skip
    refine va_gets (C := "FixedPlaneModel") (ref := "FixedPlaneModel") (own := RX1) hx hb hZ hSt hown (hts (.fieldLink RX1 102 "FixedPlaneModel" "SINES" "[I") (by decide +kernel)) (fun _ h9 => h9) dX1_quarter_29 ?_
    refine lv_iload_n hx hb dX1_quarter_32 rfl (lv_at hl 1 rfl) ?_
    refine va_ti hx hb hTt hSt (v := .int (sinV (((p0 / 65536)).toInt32).toNatClampNeg)) (qt_ix hq) rfl dX1_quarter_33 ?_
    refine lv_i2l (v := ((sinV (((p0 / 65536)).toInt32).toNatClampNeg)).toInt64) hx hb dX1_quarter_34 rfl ?_
    refine va_gets (C := "FixedPlaneModel") (ref := "FixedPlaneModel") (own := RX1) hx hb hZ hSt hown (hts (.fieldLink RX1 102 "FixedPlaneModel" "SINES" "[I") (by decide +kernel)) (fun _ h9 => h9) dX1_quarter_35 ?_
    refine lv_iload_n hx hb dX1_quarter_38 rfl (lv_at hl 1 rfl) ?_
    refine lv_iconst (v := 1) hx hb dX1_quarter_39 (by decide) ?_
    refine lv_iadd hx hb dX1_quarter_40 ?_
    refine va_ti hx hb hTt hSt (v := .int (sinV ((((p0 / 65536)).toInt32 + 1)).toNatClampNeg)) (qt_ix1 hq c_1) rfl dX1_quarter_41 ?_
    refine va_gets (C := "FixedPlaneModel") (ref := "FixedPlaneModel") (own := RX1) hx hb hZ hSt hown (hts (.fieldLink RX1 102 "FixedPlaneModel" "SINES" "[I") (by decide +kernel)) (fun _ h9 => h9) dX1_quarter_42 ?_
    refine lv_iload_n hx hb dX1_quarter_45 rfl (lv_at hl 1 rfl) ?_
    refine va_ti hx hb hTt hSt (v := .int (sinV (((p0 / 65536)).toInt32).toNatClampNeg)) (qt_ix hq) rfl dX1_quarter_46 ?_
    refine lv_isub hx hb dX1_quarter_47 ?_
    refine lv_i2l (v := (((sinV ((((p0 / 65536)).toInt32 + 1)).toNatClampNeg) - (sinV (((p0 / 65536)).toInt32).toNatClampNeg))).toInt64) hx hb dX1_quarter_48 rfl ?_
    refine lv_lload_n hx hb dX1_quarter_49 rfl (lv_at hl 0 rfl) ?_
    refine lv_lmul hx hb dX1_quarter_50 ?_
    refine pu_Sl (As := [.long ((((sinV ((((p0 / 65536)).toInt32 + 1)).toNatClampNeg) - (sinV (((p0 / 65536)).toInt32).toNatClampNeg))).toInt64 * (p0 - ((((p0 / 65536)).toInt32).toInt64 * 65536)))]) (rest := [.long ((sinV (((p0 / 65536)).toInt32).toNatClampNeg)).toInt64]) ⟨hx, hb, hml, hown, hts⟩ (cc_X1_rounded l H0 (((((sinV ((((p0 / 65536)).toInt32 + 1)).toNatClampNeg) - (sinV (((p0 / 65536)).toInt32).toNatClampNeg))).toInt64 * (p0 - ((((p0 / 65536)).toInt32).toInt64 * 65536))))) 1 gX1_quarter_X1_rounded rfl rfl rfl hdS_X1_rounded ⟨Nat.le_of_ble_eq_true rfl, Nat.le_of_ble_eq_true rfl⟩ kN_ok kN_at rfl hl.1 rfl (Nat.le_of_ble_eq_true rfl) dX1_quarter_51 ⟨Nat.zero_le _, Nat.zero_le _⟩ ?_
    refine lv_ladd hx hb dX1_quarter_54 ?_
    exact pu_lret hx hb hr hlocks hs dX1_quarter_55 (by rw [f_X1_quarter, if_neg c_1])
  · skip
    refine va_gets (C := "FixedPlaneModel") (ref := "FixedPlaneModel") (own := RX1) hx hb hZ hSt hown (hts (.fieldLink RX1 102 "FixedPlaneModel" "SINES" "[I") (by decide +kernel)) (fun _ h9 => h9) dX1_quarter_22 ?_
    refine lv_iload_n hx hb dX1_quarter_25 rfl (lv_at hl 1 rfl) ?_
    refine va_ti hx hb hTt hSt (v := .int (sinV (((p0 / 65536)).toInt32).toNatClampNeg)) (qt_ix hq) rfl dX1_quarter_26 ?_
    refine lv_i2l (v := ((sinV (((p0 / 65536)).toInt32).toNatClampNeg)).toInt64) hx hb dX1_quarter_27 rfl ?_
    exact pu_lret hx hb hr hlocks hs dX1_quarter_28 (by rw [f_X1_quarter, if_pos c_1])
theorem hdS_X1_sine : yX1_sine.cls ≠ "java/lang/invoke/MethodHandle" ∧ yX1_sine.cls ≠ "java/lang/invoke/VarHandle" ∧ (parseMethodDescriptor yX1_sine.desc).map (fun d => d.parameters.length) = some 1 := by decide +kernel
def f_X1_sine (p0 : Int64) : Int64 := if (p0 - ((f_X1_down (p0) (23592960)) * 23592960)) < 11796480 then (if 5898240 < (p0 - ((f_X1_down (p0) (23592960)) * 23592960)) then ((f_X1_quarter ((11796480 - (p0 - ((f_X1_down (p0) (23592960)) * 23592960)))))) else ((f_X1_quarter ((p0 - ((f_X1_down (p0) (23592960)) * 23592960)))))) else (if 5898240 < ((p0 - ((f_X1_down (p0) (23592960)) * 23592960)) - 11796480) then ((-(f_X1_quarter ((11796480 - ((p0 - ((f_X1_down (p0) (23592960)) * 23592960)) - 11796480)))))) else ((-(f_X1_quarter (((p0 - ((f_X1_down (p0) (23592960)) * 23592960)) - 11796480))))))
abbrev rm_X1_sine : Room := { frames := 3, cells := 0, slots := 0, locals := 118 }
set_option maxHeartbeats 4000000 in
set_option maxRecDepth 100000 in
theorem cc_X1_sine (l : Launch) (H0 : Heap) (p0 : Int64)   : Met l yX1_sine wsX1_sine rm_X1_sine (pPc [.long p0] H0 (kT "FixedPlaneModel")) (pQl H0 (f_X1_sine p0)) 0 0 (fun _ => False) := by
  refine pu_head (cc := cX1_sine) (maxL := 9) (ret := some .long) (by decide +kernel) rfl (Nat.le_of_ble_eq_true rfl) ?_
  intro p e s m below meth c ls hx hb hr hlocks hml hown hts hs hk hl
  have hown : s.vm.findClass RX1 = some m.cls := hown
  have hl : lv_has ls 9 [(0, .long p0)] := hl
  have hkat : ∀ U : State, U.heap = H0 → s.WarmedH U.vm → kT "FixedPlaneModel" U := by rw [← hs]; exact kT_at hk
  refine lv_ldc2 (v := 23592960) hx hb hown (hts (.constantLong RX1 105 (23592960)) (by decide +kernel)) dX1_sine_0 ?_
  refine lv_lstore_n (lv' := [(2, .long 23592960), (0, .long p0)]) hx hb dX1_sine_3 rfl hl (by decide) rfl (fun ls hl => ?_)
  refine lv_lload_n hx hb dX1_sine_4 rfl (lv_at hl 1 rfl) ?_
  refine lv_lload_n hx hb dX1_sine_5 rfl (lv_at hl 1 rfl) ?_
  refine lv_lload_n hx hb dX1_sine_6 rfl (lv_at hl 0 rfl) ?_
  refine pu_Sl (As := [.long p0, .long 23592960]) (rest := [.long p0]) ⟨hx, hb, hml, hown, hts⟩ (cc_X1_down l H0 (p0) (23592960) (by decide)) 2 gX1_sine_X1_down rfl rfl rfl hdS_X1_down ⟨Nat.le_of_ble_eq_true rfl, Nat.le_of_ble_eq_true rfl⟩ kN_ok kN_at rfl hl.1 rfl (Nat.le_of_ble_eq_true rfl) dX1_sine_7 ⟨Nat.zero_le _, Nat.zero_le _⟩ ?_
  refine lv_lload_n hx hb dX1_sine_10 rfl (lv_at hl 0 rfl) ?_
  refine lv_lmul hx hb dX1_sine_11 ?_
  refine lv_lsub hx hb dX1_sine_12 ?_
  refine lv_lstore (lv' := [(4, .long (p0 - ((f_X1_down (p0) (23592960)) * 23592960))), (2, .long 23592960), (0, .long p0)]) hx hb dX1_sine_13 hl (by decide) rfl (fun ls hl => ?_)
  refine lv_lload hx hb dX1_sine_15 (lv_at hl 0 rfl) ?_
  refine lv_ldc2 (v := 11796480) hx hb hown (hts (.constantLong RX1 107 (11796480)) (by decide +kernel)) dX1_sine_17 ?_
  refine pl_lt (tgt := 28) hx hb dX1_sine_20 dX1_sine_21 (by decide) (fun c_1 => ?_) (fun c_1 => ?_)
  · skip
    refine lv_iconst (v := 0) hx hb dX1_sine_28 (by decide) ?_
    refine lv_istore (lv' := [(6, .int 0), (4, .long (p0 - ((f_X1_down (p0) (23592960)) * 23592960))), (2, .long 23592960), (0, .long p0)]) hx hb dX1_sine_29 hl (by decide) rfl (fun ls hl => ?_)
    refine lv_iload hx hb dX1_sine_31 (lv_at hl 0 rfl) ?_
    refine lv_if_eq (tgt := 45) hx hb dX1_sine_33 (by decide) (fun _ => ?_) (fun q => absurd (by decide) q)
    refine lv_lload hx hb dX1_sine_45 (lv_at hl 1 rfl) ?_
    refine lv_lstore (lv' := [(4, .long (p0 - ((f_X1_down (p0) (23592960)) * 23592960))), (6, .int 0), (2, .long 23592960), (0, .long p0)]) hx hb dX1_sine_47 hl (by decide) rfl (fun ls hl => ?_)
    refine lv_lload hx hb dX1_sine_49 (lv_at hl 0 rfl) ?_
    refine lv_ldc2 (v := 5898240) hx hb hown (hts (.constantLong RX1 100 (5898240)) (by decide +kernel)) dX1_sine_51 ?_
    refine pl_le (tgt := 67) hx hb dX1_sine_54 dX1_sine_55 (by decide) (fun c_3 => ?_) (fun c_3 => ?_)
    · skip
      refine lv_lload hx hb dX1_sine_67 (lv_at hl 0 rfl) ?_
      refine pu_Sl (As := [.long (p0 - ((f_X1_down (p0) (23592960)) * 23592960))]) (rest := []) ⟨hx, hb, hml, hown, hts⟩ (cc_X1_quarter l H0 ((p0 - ((f_X1_down (p0) (23592960)) * 23592960))) (sn_tf (sn_r p0) c_1 c_3)) 1 gX1_sine_X1_quarter rfl rfl rfl hdS_X1_quarter ⟨Nat.le_of_ble_eq_true rfl, Nat.le_of_ble_eq_true rfl⟩ (kT_ok _) (hkat) rfl hl.1 rfl (Nat.le_of_ble_eq_true rfl) dX1_sine_69 ⟨Nat.zero_le _, Nat.zero_le _⟩ ?_
      refine lv_lstore (lv' := [(7, .long (f_X1_quarter ((p0 - ((f_X1_down (p0) (23592960)) * 23592960))))), (4, .long (p0 - ((f_X1_down (p0) (23592960)) * 23592960))), (6, .int 0), (2, .long 23592960), (0, .long p0)]) hx hb dX1_sine_72 hl (by decide) rfl (fun ls hl => ?_)
      refine lv_iload hx hb dX1_sine_74 (lv_at hl 2 rfl) ?_
      refine lv_if_eq (tgt := 85) hx hb dX1_sine_76 (by decide) (fun _ => ?_) (fun q => absurd (by decide) q)
      refine lv_lload hx hb dX1_sine_85 (lv_at hl 0 rfl) ?_
      exact pu_lret hx hb hr hlocks hs dX1_sine_87 (by rw [f_X1_sine, if_pos c_1, if_neg c_3])
    · skip
      refine lv_ldc2 (v := 11796480) hx hb hown (hts (.constantLong RX1 107 (11796480)) (by decide +kernel)) dX1_sine_58 ?_
      refine lv_lload hx hb dX1_sine_61 (lv_at hl 0 rfl) ?_
      refine lv_lsub hx hb dX1_sine_63 ?_
      refine lv_goto (tgt := 69) hx hb dX1_sine_64 (by decide) ?_
      refine pu_Sl (As := [.long (11796480 - (p0 - ((f_X1_down (p0) (23592960)) * 23592960)))]) (rest := []) ⟨hx, hb, hml, hown, hts⟩ (cc_X1_quarter l H0 ((11796480 - (p0 - ((f_X1_down (p0) (23592960)) * 23592960)))) (sn_tt (sn_r p0) c_1 c_3)) 1 gX1_sine_X1_quarter rfl rfl rfl hdS_X1_quarter ⟨Nat.le_of_ble_eq_true rfl, Nat.le_of_ble_eq_true rfl⟩ (kT_ok _) (hkat) rfl hl.1 rfl (Nat.le_of_ble_eq_true rfl) dX1_sine_69 ⟨Nat.zero_le _, Nat.zero_le _⟩ ?_
      refine lv_lstore (lv' := [(7, .long (f_X1_quarter ((11796480 - (p0 - ((f_X1_down (p0) (23592960)) * 23592960)))))), (4, .long (p0 - ((f_X1_down (p0) (23592960)) * 23592960))), (6, .int 0), (2, .long 23592960), (0, .long p0)]) hx hb dX1_sine_72 hl (by decide) rfl (fun ls hl => ?_)
      refine lv_iload hx hb dX1_sine_74 (lv_at hl 2 rfl) ?_
      refine lv_if_eq (tgt := 85) hx hb dX1_sine_76 (by decide) (fun _ => ?_) (fun q => absurd (by decide) q)
      refine lv_lload hx hb dX1_sine_85 (lv_at hl 0 rfl) ?_
      exact pu_lret hx hb hr hlocks hs dX1_sine_87 (by rw [f_X1_sine, if_pos c_1, if_pos c_3])
  · skip
    refine lv_iconst (v := 1) hx hb dX1_sine_24 (by decide) ?_
    refine lv_goto (tgt := 29) hx hb dX1_sine_25 (by decide) ?_
    refine lv_istore (lv' := [(6, .int 1), (4, .long (p0 - ((f_X1_down (p0) (23592960)) * 23592960))), (2, .long 23592960), (0, .long p0)]) hx hb dX1_sine_29 hl (by decide) rfl (fun ls hl => ?_)
    refine lv_iload hx hb dX1_sine_31 (lv_at hl 0 rfl) ?_
    refine lv_if_eq (tgt := 45) hx hb dX1_sine_33 (by decide) (fun q => absurd q (by decide)) (fun _ => ?_)
    refine lv_lload hx hb dX1_sine_36 (lv_at hl 1 rfl) ?_
    refine lv_ldc2 (v := 11796480) hx hb hown (hts (.constantLong RX1 107 (11796480)) (by decide +kernel)) dX1_sine_38 ?_
    refine lv_lsub hx hb dX1_sine_41 ?_
    refine lv_goto (tgt := 47) hx hb dX1_sine_42 (by decide) ?_
    refine lv_lstore (lv' := [(4, .long ((p0 - ((f_X1_down (p0) (23592960)) * 23592960)) - 11796480)), (6, .int 1), (2, .long 23592960), (0, .long p0)]) hx hb dX1_sine_47 hl (by decide) rfl (fun ls hl => ?_)
    refine lv_lload hx hb dX1_sine_49 (lv_at hl 0 rfl) ?_
    refine lv_ldc2 (v := 5898240) hx hb hown (hts (.constantLong RX1 100 (5898240)) (by decide +kernel)) dX1_sine_51 ?_
    refine pl_le (tgt := 67) hx hb dX1_sine_54 dX1_sine_55 (by decide) (fun c_7 => ?_) (fun c_7 => ?_)
    · skip
      refine lv_lload hx hb dX1_sine_67 (lv_at hl 0 rfl) ?_
      refine pu_Sl (As := [.long ((p0 - ((f_X1_down (p0) (23592960)) * 23592960)) - 11796480)]) (rest := []) ⟨hx, hb, hml, hown, hts⟩ (cc_X1_quarter l H0 (((p0 - ((f_X1_down (p0) (23592960)) * 23592960)) - 11796480)) (sn_ff (sn_r p0) c_1 c_7)) 1 gX1_sine_X1_quarter rfl rfl rfl hdS_X1_quarter ⟨Nat.le_of_ble_eq_true rfl, Nat.le_of_ble_eq_true rfl⟩ (kT_ok _) (hkat) rfl hl.1 rfl (Nat.le_of_ble_eq_true rfl) dX1_sine_69 ⟨Nat.zero_le _, Nat.zero_le _⟩ ?_
      refine lv_lstore (lv' := [(7, .long (f_X1_quarter (((p0 - ((f_X1_down (p0) (23592960)) * 23592960)) - 11796480)))), (4, .long ((p0 - ((f_X1_down (p0) (23592960)) * 23592960)) - 11796480)), (6, .int 1), (2, .long 23592960), (0, .long p0)]) hx hb dX1_sine_72 hl (by decide) rfl (fun ls hl => ?_)
      refine lv_iload hx hb dX1_sine_74 (lv_at hl 2 rfl) ?_
      refine lv_if_eq (tgt := 85) hx hb dX1_sine_76 (by decide) (fun q => absurd q (by decide)) (fun _ => ?_)
      refine lv_lload hx hb dX1_sine_79 (lv_at hl 0 rfl) ?_
      refine lv_lneg hx hb dX1_sine_81 ?_
      refine lv_goto (tgt := 87) hx hb dX1_sine_82 (by decide) ?_
      exact pu_lret hx hb hr hlocks hs dX1_sine_87 (by rw [f_X1_sine, if_neg c_1, if_neg c_7])
    · skip
      refine lv_ldc2 (v := 11796480) hx hb hown (hts (.constantLong RX1 107 (11796480)) (by decide +kernel)) dX1_sine_58 ?_
      refine lv_lload hx hb dX1_sine_61 (lv_at hl 0 rfl) ?_
      refine lv_lsub hx hb dX1_sine_63 ?_
      refine lv_goto (tgt := 69) hx hb dX1_sine_64 (by decide) ?_
      refine pu_Sl (As := [.long (11796480 - ((p0 - ((f_X1_down (p0) (23592960)) * 23592960)) - 11796480))]) (rest := []) ⟨hx, hb, hml, hown, hts⟩ (cc_X1_quarter l H0 ((11796480 - ((p0 - ((f_X1_down (p0) (23592960)) * 23592960)) - 11796480))) (sn_ft (sn_r p0) c_1 c_7)) 1 gX1_sine_X1_quarter rfl rfl rfl hdS_X1_quarter ⟨Nat.le_of_ble_eq_true rfl, Nat.le_of_ble_eq_true rfl⟩ (kT_ok _) (hkat) rfl hl.1 rfl (Nat.le_of_ble_eq_true rfl) dX1_sine_69 ⟨Nat.zero_le _, Nat.zero_le _⟩ ?_
      refine lv_lstore (lv' := [(7, .long (f_X1_quarter ((11796480 - ((p0 - ((f_X1_down (p0) (23592960)) * 23592960)) - 11796480))))), (4, .long ((p0 - ((f_X1_down (p0) (23592960)) * 23592960)) - 11796480)), (6, .int 1), (2, .long 23592960), (0, .long p0)]) hx hb dX1_sine_72 hl (by decide) rfl (fun ls hl => ?_)
      refine lv_iload hx hb dX1_sine_74 (lv_at hl 2 rfl) ?_
      refine lv_if_eq (tgt := 85) hx hb dX1_sine_76 (by decide) (fun q => absurd q (by decide)) (fun _ => ?_)
      refine lv_lload hx hb dX1_sine_79 (lv_at hl 0 rfl) ?_
      refine lv_lneg hx hb dX1_sine_81 ?_
      refine lv_goto (tgt := 87) hx hb dX1_sine_82 (by decide) ?_
      exact pu_lret hx hb hr hlocks hs dX1_sine_87 (by rw [f_X1_sine, if_neg c_1, if_pos c_7])
theorem hdS_X1_against : yX1_against.cls ≠ "java/lang/invoke/MethodHandle" ∧ yX1_against.cls ≠ "java/lang/invoke/VarHandle" ∧ (parseMethodDescriptor yX1_against.desc).map (fun d => d.parameters.length) = some 3 := by decide +kernel
def f_X1_against (p0 : Int64) (p1 : Int64) (p2 : Int64) : Int32 := if (p0 * (f_X1_sine (p2))) < (p1 * (f_X1_sine ((p2 + 5898240)))) then ((-1)) else (if (p1 * (f_X1_sine ((p2 + 5898240)))) < (p0 * (f_X1_sine (p2))) then (1) else (0))
abbrev rm_X1_against : Room := { frames := 4, cells := 0, slots := 0, locals := 162 }
set_option maxHeartbeats 4000000 in
set_option maxRecDepth 100000 in
theorem cc_X1_against (l : Launch) (H0 : Heap) (p0 : Int64) (p1 : Int64) (p2 : Int64)   : Met l yX1_against wsX1_against rm_X1_against (pPc [.long p0, .long p1, .long p2] H0 (kT "FixedPlaneModel")) (pQi H0 (f_X1_against p0 p1 p2)) 0 0 (fun _ => False) := by
  refine pu_head (cc := cX1_against) (maxL := 10) (ret := some .int) (by decide +kernel) rfl (Nat.le_of_ble_eq_true rfl) ?_
  intro p e s m below meth c ls hx hb hr hlocks hml hown hts hs hk hl
  have hown : s.vm.findClass RX1 = some m.cls := hown
  have hl : lv_has ls 10 [(0, .long p0), (2, .long p1), (4, .long p2)] := hl
  have hkat : ∀ U : State, U.heap = H0 → s.WarmedH U.vm → kT "FixedPlaneModel" U := by rw [← hs]; exact kT_at hk
  refine lv_lload_n hx hb dX1_against_0 rfl (lv_at hl 0 rfl) ?_
  refine lv_lload hx hb dX1_against_1 (lv_at hl 2 rfl) ?_
  refine pu_Sl (As := [.long p2]) (rest := [.long p0]) ⟨hx, hb, hml, hown, hts⟩ (cc_X1_sine l H0 (p2)) 1 gX1_against_X1_sine rfl rfl rfl hdS_X1_sine ⟨Nat.le_of_ble_eq_true rfl, Nat.le_of_ble_eq_true rfl⟩ (kT_ok _) (hkat) rfl hl.1 rfl (Nat.le_of_ble_eq_true rfl) dX1_against_3 ⟨Nat.zero_le _, Nat.zero_le _⟩ ?_
  refine lv_lmul hx hb dX1_against_6 ?_
  refine lv_lstore (lv' := [(6, .long (p0 * (f_X1_sine (p2)))), (0, .long p0), (2, .long p1), (4, .long p2)]) hx hb dX1_against_7 hl (by decide) rfl (fun ls hl => ?_)
  refine lv_lload_n hx hb dX1_against_9 rfl (lv_at hl 2 rfl) ?_
  refine lv_lload hx hb dX1_against_10 (lv_at hl 3 rfl) ?_
  refine lv_ldc2 (v := 5898240) hx hb hown (hts (.constantLong RX1 100 (5898240)) (by decide +kernel)) dX1_against_12 ?_
  refine lv_ladd hx hb dX1_against_15 ?_
  refine pu_Sl (As := [.long (p2 + 5898240)]) (rest := [.long p1]) ⟨hx, hb, hml, hown, hts⟩ (cc_X1_sine l H0 ((p2 + 5898240))) 1 gX1_against_X1_sine rfl rfl rfl hdS_X1_sine ⟨Nat.le_of_ble_eq_true rfl, Nat.le_of_ble_eq_true rfl⟩ (kT_ok _) (hkat) rfl hl.1 rfl (Nat.le_of_ble_eq_true rfl) dX1_against_16 ⟨Nat.zero_le _, Nat.zero_le _⟩ ?_
  refine lv_lmul hx hb dX1_against_19 ?_
  refine lv_lstore (lv' := [(8, .long (p1 * (f_X1_sine ((p2 + 5898240))))), (6, .long (p0 * (f_X1_sine (p2)))), (0, .long p0), (2, .long p1), (4, .long p2)]) hx hb dX1_against_20 hl (by decide) rfl (fun ls hl => ?_)
  refine lv_lload hx hb dX1_against_22 (lv_at hl 1 rfl) ?_
  refine lv_lload hx hb dX1_against_24 (lv_at hl 0 rfl) ?_
  refine pl_ge (tgt := 34) hx hb dX1_against_26 dX1_against_27 (by decide) (fun c_1 => ?_) (fun c_1 => ?_)
  · skip
    refine lv_lload hx hb dX1_against_34 (lv_at hl 1 rfl) ?_
    refine lv_lload hx hb dX1_against_36 (lv_at hl 0 rfl) ?_
    refine pl_le (tgt := 46) hx hb dX1_against_38 dX1_against_39 (by decide) (fun c_2 => ?_) (fun c_2 => ?_)
    · skip
      refine lv_iconst (v := 0) hx hb dX1_against_46 (by decide) ?_
      exact pu_iret hx hb hr hlocks hs dX1_against_47 (by rw [f_X1_against, if_neg c_1, if_neg c_2])
    · skip
      refine lv_iconst (v := 1) hx hb dX1_against_42 (by decide) ?_
      refine lv_goto (tgt := 47) hx hb dX1_against_43 (by decide) ?_
      exact pu_iret hx hb hr hlocks hs dX1_against_47 (by rw [f_X1_against, if_neg c_1, if_pos c_2])
  · skip
    refine lv_iconst (v := (-1)) hx hb dX1_against_30 (by decide) ?_
    refine lv_goto (tgt := 47) hx hb dX1_against_31 (by decide) ?_
    exact pu_iret hx hb hr hlocks hs dX1_against_47 (by rw [f_X1_against, if_pos c_1])
theorem hdS_X1_first : yX1_first.cls ≠ "java/lang/invoke/MethodHandle" ∧ yX1_first.cls ≠ "java/lang/invoke/VarHandle" ∧ (parseMethodDescriptor yX1_first.desc).map (fun d => d.parameters.length) = some 3 := by decide +kernel
def f_X1_first_L67 (p0 : Int64) (p1 : Int64) (p2 : Int32) : Nat → Int64 → Int64 → Int64
  | 0, lo, hi => hi
  | n + 1, lo, hi => if 1 < (hi - lo) then (if (f_X1_against (p0) (p1) (((lo + hi) / 2))) < p2 then (f_X1_first_L67 p0 p1 p2 n (((lo + hi) / 2)) (hi)) else (f_X1_first_L67 p0 p1 p2 n (lo) (((lo + hi) / 2)))) else (hi)
def f_X1_first_L3 (p0 : Int64) (p1 : Int64) (p2 : Int32) : Nat → Int64
  | 0 => if (f_X1_against (p0) (p1) ((((nI (90 - 0))).toInt64 * 65536))) < p2 then (f_X1_first_L67 p0 p1 p2 (16) ((((nI (90 - 0))).toInt64 * 65536)) (((((nI (90 - 0))).toInt64 * 65536) + 65536))) else ((((nI (90 - 0))).toInt64 * 65536))
  | n + 1 => if (f_X1_against (p0) (p1) (((((nI (90 - (n + 1))) + 1)).toInt64 * 65536))) < p2 then (f_X1_first_L3 p0 p1 p2 n ) else (if (f_X1_against (p0) (p1) ((((nI (90 - (n + 1)))).toInt64 * 65536))) < p2 then (f_X1_first_L67 p0 p1 p2 (16) ((((nI (90 - (n + 1)))).toInt64 * 65536)) (((((nI (90 - (n + 1)))).toInt64 * 65536) + 65536))) else ((((nI (90 - (n + 1)))).toInt64 * 65536)))
def f_X1_first (p0 : Int64) (p1 : Int64) (p2 : Int32) : Int64 := f_X1_first_L3 p0 p1 p2 (90) 
abbrev rm_X1_first : Room := { frames := 5, cells := 0, slots := 0, locals := 207 }
set_option maxHeartbeats 4000000 in
set_option maxRecDepth 100000 in
theorem cc_X1_first (l : Launch) (H0 : Heap) (p0 : Int64) (p1 : Int64) (p2 : Int32)   : Met l yX1_first wsX1_first rm_X1_first (pPc [.long p0, .long p1, .int p2] H0 (kT "FixedPlaneModel")) (pQl H0 (f_X1_first p0 p1 p2)) 0 0 (fun _ => False) := by
  refine pu_head (cc := cX1_first) (maxL := 12) (ret := some .long) (by decide +kernel) rfl (Nat.le_of_ble_eq_true rfl) ?_
  intro p e s m below meth c ls hx hb hr hlocks hml hown hts hs hk hl
  have hown : s.vm.findClass RX1 = some m.cls := hown
  have hl : lv_has ls 12 [(0, .long p0), (2, .long p1), (4, .int p2)] := hl
  have hkat : ∀ U : State, U.heap = H0 → s.WarmedH U.vm → kT "FixedPlaneModel" U := by rw [← hs]; exact kT_at hk
  have hL67 : ∀ (n : Nat) (lo : Int64) (hi : Int64), frI n lo hi → (f_X1_first p0 p1 p2 = f_X1_first_L67 p0 p1 p2 n lo hi) → ∀ (ls : Array Slot), lv_has ls 12 [(0, .long p0), (2, .long p1), (4, .int p2), (6, .long lo), (8, .long hi)] → W p l e (headSpec wsX1_first rm_X1_first).room s m ([.long p0, .long p1, .int p2] : List Value).toArray below meth c H0 [] 0 0 (MQ below (pQl H0 (f_X1_first p0 p1 p2)) ([.long p0, .long p1, .int p2] : List Value).toArray s 0 0 (fun _ => False)) (F0 m 67 ls []) := by
    intro n
    induction n with
    | zero =>
      intro lo hi hI hF ls hl
      refine lv_lload hx hb dX1_first_67 (lv_at hl 4 rfl) ?_
      refine lv_lload hx hb dX1_first_69 (lv_at hl 3 rfl) ?_
      refine lv_lsub hx hb dX1_first_71 ?_
      refine lv_lconst (v := 1) hx hb dX1_first_72 (by decide) ?_
      refine pl_le (tgt := 114) hx hb dX1_first_73 dX1_first_74 (by decide) (fun _ => ?_) (fun q => absurd q (frI_z hI))
      refine lv_lload hx hb dX1_first_114 (lv_at hl 4 rfl) ?_
      exact pu_lret hx hb hr hlocks hs dX1_first_116 (by rw [hF, f_X1_first_L67])
    | succ n ih =>
      intro lo hi hI hF ls hl
      refine lv_lload hx hb dX1_first_67 (lv_at hl 4 rfl) ?_
      refine lv_lload hx hb dX1_first_69 (lv_at hl 3 rfl) ?_
      refine lv_lsub hx hb dX1_first_71 ?_
      refine lv_lconst (v := 1) hx hb dX1_first_72 (by decide) ?_
      refine pl_le (tgt := 114) hx hb dX1_first_73 dX1_first_74 (by decide) (fun c_2 => ?_) (fun c_2 => ?_)
      · skip
        refine lv_lload hx hb dX1_first_114 (lv_at hl 4 rfl) ?_
        exact pu_lret hx hb hr hlocks hs dX1_first_116 (by rw [hF, f_X1_first_L67, if_neg c_2])
      · skip
        refine lv_lload hx hb dX1_first_77 (lv_at hl 3 rfl) ?_
        refine lv_lload hx hb dX1_first_79 (lv_at hl 4 rfl) ?_
        refine lv_ladd hx hb dX1_first_81 ?_
        refine lv_ldc2 (v := 2) hx hb hown (hts (.constantLong RX1 48 (2)) (by decide +kernel)) dX1_first_82 ?_
        refine lv_ldiv hx hb dX1_first_85 (by decide) ?_
        refine lv_lstore (lv' := [(10, .long ((lo + hi) / 2)), (0, .long p0), (2, .long p1), (4, .int p2), (6, .long lo), (8, .long hi)]) hx hb dX1_first_86 hl (by decide) rfl (fun ls hl => ?_)
        refine lv_lload_n hx hb dX1_first_88 rfl (lv_at hl 1 rfl) ?_
        refine lv_lload_n hx hb dX1_first_89 rfl (lv_at hl 2 rfl) ?_
        refine lv_lload hx hb dX1_first_90 (lv_at hl 0 rfl) ?_
        refine pu_Si (As := [.long p0, .long p1, .long ((lo + hi) / 2)]) (rest := []) ⟨hx, hb, hml, hown, hts⟩ (cc_X1_against l H0 (p0) (p1) (((lo + hi) / 2))) 3 gX1_first_X1_against rfl rfl rfl hdS_X1_against ⟨Nat.le_of_ble_eq_true rfl, Nat.le_of_ble_eq_true rfl⟩ (kT_ok _) (hkat) rfl hl.1 rfl (Nat.le_of_ble_eq_true rfl) dX1_first_92 ⟨Nat.zero_le _, Nat.zero_le _⟩ ?_
        refine lv_iload hx hb dX1_first_95 (lv_at hl 3 rfl) ?_
        refine pi_ge (tgt := 107) hx hb dX1_first_97 (by decide) (fun c_3 => ?_) (fun c_3 => ?_)
        · skip
          refine lv_lload hx hb dX1_first_107 (lv_at hl 0 rfl) ?_
          refine lv_lstore (lv' := [(8, .long ((lo + hi) / 2)), (10, .long ((lo + hi) / 2)), (0, .long p0), (2, .long p1), (4, .int p2), (6, .long lo)]) hx hb dX1_first_109 hl (by decide) rfl (fun ls hl => ?_)
          refine lv_goto (tgt := 67) hx hb dX1_first_111 (by decide) ?_
          exact ih (lo) (((lo + hi) / 2)) (frI_hi hI c_2) (hF.trans (by rw [f_X1_first_L67, if_pos c_2, if_neg c_3])) ls (lv_sub hl [2, 3, 4, 5, 0] rfl)
        · skip
          refine lv_lload hx hb dX1_first_100 (lv_at hl 0 rfl) ?_
          refine lv_lstore (lv' := [(6, .long ((lo + hi) / 2)), (10, .long ((lo + hi) / 2)), (0, .long p0), (2, .long p1), (4, .int p2), (8, .long hi)]) hx hb dX1_first_102 hl (by decide) rfl (fun ls hl => ?_)
          refine lv_goto (tgt := 111) hx hb dX1_first_104 (by decide) ?_
          refine lv_goto (tgt := 67) hx hb dX1_first_111 (by decide) ?_
          exact ih (((lo + hi) / 2)) (hi) (frI_lo hI c_2) (hF.trans (by rw [f_X1_first_L67, if_pos c_2, if_pos c_3])) ls (lv_sub hl [2, 3, 4, 0, 5] rfl)
  have hL3 : ∀ (n : Nat) , n ≤ 90 → (f_X1_first p0 p1 p2 = f_X1_first_L3 p0 p1 p2 n ) → ∀ (ls : Array Slot), lv_has ls 12 [(0, .long p0), (2, .long p1), (4, .int p2), (5, .int (nI (90 - n)))] → W p l e (headSpec wsX1_first rm_X1_first).room s m ([.long p0, .long p1, .int p2] : List Value).toArray below meth c H0 [] 0 0 (MQ below (pQl H0 (f_X1_first p0 p1 p2)) ([.long p0, .long p1, .int p2] : List Value).toArray s 0 0 (fun _ => False)) (F0 m 3 ls []) := by
    intro n
    induction n with
    | zero =>
      intro  hI hF ls hl
      refine lv_iload hx hb dX1_first_3 (lv_at hl 3 rfl) ?_
      refine lv_bipush (v := 90) hx hb dX1_first_5 (by decide) ?_
      refine pi_ge (tgt := 35) hx hb dX1_first_7 (by decide) (fun _ => ?_) (fun q => absurd q (by decide))
      refine lv_iload hx hb dX1_first_35 (lv_at hl 3 rfl) ?_
      refine lv_i2l (v := ((nI (90 - 0))).toInt64) hx hb dX1_first_37 rfl ?_
      refine lv_ldc2 (v := 65536) hx hb hown (hts (.constantLong RX1 23 (65536)) (by decide +kernel)) dX1_first_38 ?_
      refine lv_lmul hx hb dX1_first_41 ?_
      refine lv_lstore (lv' := [(6, .long (((nI (90 - 0))).toInt64 * 65536)), (0, .long p0), (2, .long p1), (4, .int p2), (5, .int (nI (90 - 0)))]) hx hb dX1_first_42 hl (by decide) rfl (fun ls hl => ?_)
      refine lv_lload_n hx hb dX1_first_44 rfl (lv_at hl 1 rfl) ?_
      refine lv_lload_n hx hb dX1_first_45 rfl (lv_at hl 2 rfl) ?_
      refine lv_lload hx hb dX1_first_46 (lv_at hl 0 rfl) ?_
      refine pu_Si (As := [.long p0, .long p1, .long (((nI (90 - 0))).toInt64 * 65536)]) (rest := []) ⟨hx, hb, hml, hown, hts⟩ (cc_X1_against l H0 (p0) (p1) ((((nI (90 - 0))).toInt64 * 65536))) 3 gX1_first_X1_against rfl rfl rfl hdS_X1_against ⟨Nat.le_of_ble_eq_true rfl, Nat.le_of_ble_eq_true rfl⟩ (kT_ok _) (hkat) rfl hl.1 rfl (Nat.le_of_ble_eq_true rfl) dX1_first_48 ⟨Nat.zero_le _, Nat.zero_le _⟩ ?_
      refine lv_iload hx hb dX1_first_51 (lv_at hl 3 rfl) ?_
      refine lv_icmp_lt (tgt := 59) hx hb dX1_first_53 (by decide) (fun c_5 => ?_) (fun c_5 => ?_)
      · skip
        refine lv_lload hx hb dX1_first_59 (lv_at hl 0 rfl) ?_
        refine lv_ldc2 (v := 65536) hx hb hown (hts (.constantLong RX1 23 (65536)) (by decide +kernel)) dX1_first_61 ?_
        refine lv_ladd hx hb dX1_first_64 ?_
        refine lv_lstore (lv' := [(8, .long ((((nI (90 - 0))).toInt64 * 65536) + 65536)), (6, .long (((nI (90 - 0))).toInt64 * 65536)), (0, .long p0), (2, .long p1), (4, .int p2), (5, .int (nI (90 - 0)))]) hx hb dX1_first_65 hl (by decide) rfl (fun ls hl => ?_)
        exact hL67 (16) ((((nI (90 - 0))).toInt64 * 65536)) (((((nI (90 - 0))).toInt64 * 65536) + 65536)) (frI_0 (90 - 0) (by omega)) (hF.trans (by rw [f_X1_first_L3, if_pos c_5])) ls (lv_sub hl [2, 3, 4, 1, 0] rfl)
      · skip
        refine lv_lload hx hb dX1_first_56 (lv_at hl 0 rfl) ?_
        exact pu_lret hx hb hr hlocks hs dX1_first_58 (by rw [hF, f_X1_first_L3, if_neg c_5])
    | succ n ih =>
      intro  hI hF ls hl
      refine lv_iload hx hb dX1_first_3 (lv_at hl 3 rfl) ?_
      refine lv_bipush (v := 90) hx hb dX1_first_5 (by decide) ?_
      refine pi_ge (tgt := 35) hx hb dX1_first_7 (by decide) (fun q => absurd (cn_lt (N := 90) rfl (by decide) hI) q) (fun _ => ?_)
      refine lv_lload_n hx hb dX1_first_10 rfl (lv_at hl 0 rfl) ?_
      refine lv_lload_n hx hb dX1_first_11 rfl (lv_at hl 1 rfl) ?_
      refine lv_iload hx hb dX1_first_12 (lv_at hl 3 rfl) ?_
      refine lv_iconst (v := 1) hx hb dX1_first_14 (by decide) ?_
      refine lv_iadd hx hb dX1_first_15 ?_
      refine lv_i2l (v := (((nI (90 - (n + 1))) + 1)).toInt64) hx hb dX1_first_16 rfl ?_
      refine lv_ldc2 (v := 65536) hx hb hown (hts (.constantLong RX1 23 (65536)) (by decide +kernel)) dX1_first_17 ?_
      refine lv_lmul hx hb dX1_first_20 ?_
      refine pu_Si (As := [.long p0, .long p1, .long ((((nI (90 - (n + 1))) + 1)).toInt64 * 65536)]) (rest := []) ⟨hx, hb, hml, hown, hts⟩ (cc_X1_against l H0 (p0) (p1) (((((nI (90 - (n + 1))) + 1)).toInt64 * 65536))) 3 gX1_first_X1_against rfl rfl rfl hdS_X1_against ⟨Nat.le_of_ble_eq_true rfl, Nat.le_of_ble_eq_true rfl⟩ (kT_ok _) (hkat) rfl hl.1 rfl (Nat.le_of_ble_eq_true rfl) dX1_first_21 ⟨Nat.zero_le _, Nat.zero_le _⟩ ?_
      refine lv_iload hx hb dX1_first_24 (lv_at hl 2 rfl) ?_
      refine pi_ge (tgt := 35) hx hb dX1_first_26 (by decide) (fun c_7 => ?_) (fun c_7 => ?_)
      · skip
        refine lv_iload hx hb dX1_first_35 (lv_at hl 3 rfl) ?_
        refine lv_i2l (v := ((nI (90 - (n + 1)))).toInt64) hx hb dX1_first_37 rfl ?_
        refine lv_ldc2 (v := 65536) hx hb hown (hts (.constantLong RX1 23 (65536)) (by decide +kernel)) dX1_first_38 ?_
        refine lv_lmul hx hb dX1_first_41 ?_
        refine lv_lstore (lv' := [(6, .long (((nI (90 - (n + 1)))).toInt64 * 65536)), (0, .long p0), (2, .long p1), (4, .int p2), (5, .int (nI (90 - (n + 1))))]) hx hb dX1_first_42 hl (by decide) rfl (fun ls hl => ?_)
        refine lv_lload_n hx hb dX1_first_44 rfl (lv_at hl 1 rfl) ?_
        refine lv_lload_n hx hb dX1_first_45 rfl (lv_at hl 2 rfl) ?_
        refine lv_lload hx hb dX1_first_46 (lv_at hl 0 rfl) ?_
        refine pu_Si (As := [.long p0, .long p1, .long (((nI (90 - (n + 1)))).toInt64 * 65536)]) (rest := []) ⟨hx, hb, hml, hown, hts⟩ (cc_X1_against l H0 (p0) (p1) ((((nI (90 - (n + 1)))).toInt64 * 65536))) 3 gX1_first_X1_against rfl rfl rfl hdS_X1_against ⟨Nat.le_of_ble_eq_true rfl, Nat.le_of_ble_eq_true rfl⟩ (kT_ok _) (hkat) rfl hl.1 rfl (Nat.le_of_ble_eq_true rfl) dX1_first_48 ⟨Nat.zero_le _, Nat.zero_le _⟩ ?_
        refine lv_iload hx hb dX1_first_51 (lv_at hl 3 rfl) ?_
        refine lv_icmp_lt (tgt := 59) hx hb dX1_first_53 (by decide) (fun c_8 => ?_) (fun c_8 => ?_)
        · skip
          refine lv_lload hx hb dX1_first_59 (lv_at hl 0 rfl) ?_
          refine lv_ldc2 (v := 65536) hx hb hown (hts (.constantLong RX1 23 (65536)) (by decide +kernel)) dX1_first_61 ?_
          refine lv_ladd hx hb dX1_first_64 ?_
          refine lv_lstore (lv' := [(8, .long ((((nI (90 - (n + 1)))).toInt64 * 65536) + 65536)), (6, .long (((nI (90 - (n + 1)))).toInt64 * 65536)), (0, .long p0), (2, .long p1), (4, .int p2), (5, .int (nI (90 - (n + 1))))]) hx hb dX1_first_65 hl (by decide) rfl (fun ls hl => ?_)
          exact hL67 (16) ((((nI (90 - (n + 1)))).toInt64 * 65536)) (((((nI (90 - (n + 1)))).toInt64 * 65536) + 65536)) (frI_0 (90 - (n + 1)) (by omega)) (hF.trans (by rw [f_X1_first_L3, if_neg c_7, if_pos c_8])) ls (lv_sub hl [2, 3, 4, 1, 0] rfl)
        · skip
          refine lv_lload hx hb dX1_first_56 (lv_at hl 0 rfl) ?_
          exact pu_lret hx hb hr hlocks hs dX1_first_58 (by rw [hF, f_X1_first_L3, if_neg c_7, if_neg c_8])
      · skip
        refine lv_iinc (v := (nI (90 - n))) (lv' := [(5, .int (nI (90 - n))), (0, .long p0), (2, .long p1), (4, .int p2)]) (k := 3) hx hb dX1_first_29 hl rfl (cn_st hI) (by decide) rfl (fun ls hl => ?_)
        refine lv_goto (tgt := 3) hx hb dX1_first_32 (by decide) ?_
        exact ih  (by omega) (hF.trans (by rw [f_X1_first_L3, if_pos c_7])) ls (lv_sub hl [1, 2, 3, 0] rfl)
  refine lv_iconst (v := 0) hx hb dX1_first_0 (by decide) ?_
  refine lv_istore (lv' := [(5, .int 0), (0, .long p0), (2, .long p1), (4, .int p2)]) hx hb dX1_first_1 hl (by decide) rfl (fun ls hl => ?_)
  exact hL3 (90)  (by omega) (by rw [f_X1_first]) ls (lv_sub hl [1, 2, 3, 0] rfl)
theorem hdS_X1_angle : yX1_angle.cls ≠ "java/lang/invoke/MethodHandle" ∧ yX1_angle.cls ≠ "java/lang/invoke/VarHandle" ∧ (parseMethodDescriptor yX1_angle.desc).map (fun d => d.parameters.length) = some 2 := by decide +kernel
def f_X1_angle (p0 : Int64) (p1 : Int64) : Int64 := if p0 < 0 then (if p1 < 0 then (if (-p1) = 0 then (11796480) else (if (-p0) = 0 then (17694720) else (if (11796480 - (f_X1_down (((f_X1_first ((-p0)) ((-p1)) (0)) + ((f_X1_first ((-p0)) ((-p1)) (1)) - 1))) (2))) = 0 then ((11796480 - (f_X1_down (((f_X1_first ((-p0)) ((-p1)) (0)) + ((f_X1_first ((-p0)) ((-p1)) (1)) - 1))) (2)))) else ((23592960 - (11796480 - (f_X1_down (((f_X1_first ((-p0)) ((-p1)) (0)) + ((f_X1_first ((-p0)) ((-p1)) (1)) - 1))) (2)))))))) else (if p1 = 0 then (11796480) else (if (-p0) = 0 then (5898240) else ((11796480 - (f_X1_down (((f_X1_first ((-p0)) (p1) (0)) + ((f_X1_first ((-p0)) (p1) (1)) - 1))) (2))))))) else (if p1 < 0 then (if (-p1) = 0 then (0) else (if p0 = 0 then (17694720) else (if (f_X1_down (((f_X1_first (p0) ((-p1)) (0)) + ((f_X1_first (p0) ((-p1)) (1)) - 1))) (2)) = 0 then ((f_X1_down (((f_X1_first (p0) ((-p1)) (0)) + ((f_X1_first (p0) ((-p1)) (1)) - 1))) (2))) else ((23592960 - (f_X1_down (((f_X1_first (p0) ((-p1)) (0)) + ((f_X1_first (p0) ((-p1)) (1)) - 1))) (2))))))) else (if p1 = 0 then (0) else (if p0 = 0 then (5898240) else ((f_X1_down (((f_X1_first (p0) (p1) (0)) + ((f_X1_first (p0) (p1) (1)) - 1))) (2))))))
abbrev rm_X1_angle : Room := { frames := 6, cells := 0, slots := 0, locals := 254 }
set_option maxHeartbeats 4000000 in
set_option maxRecDepth 100000 in
theorem cc_X1_angle (l : Launch) (H0 : Heap) (p0 : Int64) (p1 : Int64)   : Met l yX1_angle wsX1_angle rm_X1_angle (pPc [.long p0, .long p1] H0 (kT "FixedPlaneModel")) (pQl H0 (f_X1_angle p0 p1)) 0 0 (fun _ => False) := by
  refine pu_head (cc := cX1_angle) (maxL := 14) (ret := some .long) (by decide +kernel) rfl (Nat.le_of_ble_eq_true rfl) ?_
  intro p e s m below meth c ls hx hb hr hlocks hml hown hts hs hk hl
  have hown : s.vm.findClass RX1 = some m.cls := hown
  have hl : lv_has ls 14 [(0, .long p0), (2, .long p1)] := hl
  have hkat : ∀ U : State, U.heap = H0 → s.WarmedH U.vm → kT "FixedPlaneModel" U := by rw [← hs]; exact kT_at hk
  refine lv_lload_n hx hb dX1_angle_0 rfl (lv_at hl 0 rfl) ?_
  refine lv_lconst (v := 0) hx hb dX1_angle_1 (by decide) ?_
  refine pl_ge (tgt := 11) hx hb dX1_angle_2 dX1_angle_3 (by decide) (fun c_1 => ?_) (fun c_1 => ?_)
  · skip
    refine lv_lload_n hx hb dX1_angle_11 rfl (lv_at hl 0 rfl) ?_
    refine lv_lstore (lv' := [(4, .long p0), (0, .long p0), (2, .long p1)]) hx hb dX1_angle_12 hl (by decide) rfl (fun ls hl => ?_)
    refine lv_lload_n hx hb dX1_angle_14 rfl (lv_at hl 2 rfl) ?_
    refine lv_lconst (v := 0) hx hb dX1_angle_15 (by decide) ?_
    refine pl_ge (tgt := 25) hx hb dX1_angle_16 dX1_angle_17 (by decide) (fun c_2 => ?_) (fun c_2 => ?_)
    · skip
      refine lv_lload_n hx hb dX1_angle_25 rfl (lv_at hl 2 rfl) ?_
      refine lv_lstore (lv' := [(6, .long p1), (4, .long p0), (0, .long p0), (2, .long p1)]) hx hb dX1_angle_26 hl (by decide) rfl (fun ls hl => ?_)
      refine lv_lconst (v := 0) hx hb dX1_angle_28 (by decide) ?_
      refine lv_lstore (lv' := [(8, .long 0), (6, .long p1), (4, .long p0), (0, .long p0), (2, .long p1)]) hx hb dX1_angle_29 hl (by decide) rfl (fun ls hl => ?_)
      refine lv_lload hx hb dX1_angle_31 (lv_at hl 1 rfl) ?_
      refine lv_lconst (v := 0) hx hb dX1_angle_33 (by decide) ?_
      refine pl_eq (tgt := 50) hx hb dX1_angle_34 dX1_angle_35 (by decide) (fun c_3 => ?_) (fun c_3 => ?_)
      · skip
        refine lv_lload hx hb dX1_angle_50 (lv_at hl 1 rfl) ?_
        refine lv_lconst (v := 0) hx hb dX1_angle_52 (by decide) ?_
        refine pl_eq (tgt := 99) hx hb dX1_angle_53 dX1_angle_54 (by decide) (fun _ => ?_) (fun q => absurd (c_3) q)
        refine lv_lload_n hx hb dX1_angle_99 rfl (lv_at hl 3 rfl) ?_
        refine lv_lconst (v := 0) hx hb dX1_angle_100 (by decide) ?_
        refine pl_ge (tgt := 114) hx hb dX1_angle_101 dX1_angle_102 (by decide) (fun _ => ?_) (fun q => absurd q (c_1))
        refine lv_lload hx hb dX1_angle_114 (lv_at hl 0 rfl) ?_
        refine lv_lstore (lv' := [(8, .long 0), (6, .long p1), (4, .long p0), (0, .long p0), (2, .long p1)]) hx hb dX1_angle_116 hl (by decide) rfl (fun ls hl => ?_)
        refine lv_lload_n hx hb dX1_angle_118 rfl (lv_at hl 4 rfl) ?_
        refine lv_lconst (v := 0) hx hb dX1_angle_119 (by decide) ?_
        refine pl_ge (tgt := 140) hx hb dX1_angle_120 dX1_angle_121 (by decide) (fun _ => ?_) (fun q => absurd q (c_2))
        refine lv_lload hx hb dX1_angle_140 (lv_at hl 0 rfl) ?_
        exact pu_lret hx hb hr hlocks hs dX1_angle_142 (by rw [f_X1_angle, if_neg c_1, if_neg c_2, if_pos c_3])
      · skip
        refine lv_lload hx hb dX1_angle_38 (lv_at hl 2 rfl) ?_
        refine lv_lconst (v := 0) hx hb dX1_angle_40 (by decide) ?_
        refine pl_ne (tgt := 50) hx hb dX1_angle_41 dX1_angle_42 (by decide) (fun c_7 => ?_) (fun c_7 => ?_)
        · skip
          refine lv_lload hx hb dX1_angle_50 (lv_at hl 1 rfl) ?_
          refine lv_lconst (v := 0) hx hb dX1_angle_52 (by decide) ?_
          refine pl_eq (tgt := 99) hx hb dX1_angle_53 dX1_angle_54 (by decide) (fun q => absurd q (c_3)) (fun _ => ?_)
          refine lv_lload hx hb dX1_angle_57 (lv_at hl 2 rfl) ?_
          refine lv_lconst (v := 0) hx hb dX1_angle_59 (by decide) ?_
          refine pl_eq (tgt := 99) hx hb dX1_angle_60 dX1_angle_61 (by decide) (fun q => absurd q (c_7)) (fun _ => ?_)
          refine lv_lload hx hb dX1_angle_64 (lv_at hl 2 rfl) ?_
          refine lv_lload hx hb dX1_angle_66 (lv_at hl 1 rfl) ?_
          refine lv_iconst (v := 0) hx hb dX1_angle_68 (by decide) ?_
          refine pu_Sl (As := [.long p0, .long p1, .int 0]) (rest := []) ⟨hx, hb, hml, hown, hts⟩ (cc_X1_first l H0 (p0) (p1) (0)) 3 gX1_angle_X1_first rfl rfl rfl hdS_X1_first ⟨Nat.le_of_ble_eq_true rfl, Nat.le_of_ble_eq_true rfl⟩ (kT_ok _) (hkat) rfl hl.1 rfl (Nat.le_of_ble_eq_true rfl) dX1_angle_69 ⟨Nat.zero_le _, Nat.zero_le _⟩ ?_
          refine lv_lstore (lv' := [(10, .long (f_X1_first (p0) (p1) (0))), (8, .long 0), (6, .long p1), (4, .long p0), (0, .long p0), (2, .long p1)]) hx hb dX1_angle_72 hl (by decide) rfl (fun ls hl => ?_)
          refine lv_lload hx hb dX1_angle_74 (lv_at hl 3 rfl) ?_
          refine lv_lload hx hb dX1_angle_76 (lv_at hl 2 rfl) ?_
          refine lv_iconst (v := 1) hx hb dX1_angle_78 (by decide) ?_
          refine pu_Sl (As := [.long p0, .long p1, .int 1]) (rest := []) ⟨hx, hb, hml, hown, hts⟩ (cc_X1_first l H0 (p0) (p1) (1)) 3 gX1_angle_X1_first rfl rfl rfl hdS_X1_first ⟨Nat.le_of_ble_eq_true rfl, Nat.le_of_ble_eq_true rfl⟩ (kT_ok _) (hkat) rfl hl.1 rfl (Nat.le_of_ble_eq_true rfl) dX1_angle_79 ⟨Nat.zero_le _, Nat.zero_le _⟩ ?_
          refine lv_lconst (v := 1) hx hb dX1_angle_82 (by decide) ?_
          refine lv_lsub hx hb dX1_angle_83 ?_
          refine lv_lstore (lv' := [(12, .long ((f_X1_first (p0) (p1) (1)) - 1)), (10, .long (f_X1_first (p0) (p1) (0))), (8, .long 0), (6, .long p1), (4, .long p0), (0, .long p0), (2, .long p1)]) hx hb dX1_angle_84 hl (by decide) rfl (fun ls hl => ?_)
          refine lv_lload hx hb dX1_angle_86 (lv_at hl 1 rfl) ?_
          refine lv_lload hx hb dX1_angle_88 (lv_at hl 0 rfl) ?_
          refine lv_ladd hx hb dX1_angle_90 ?_
          refine lv_ldc2 (v := 2) hx hb hown (hts (.constantLong RX1 48 (2)) (by decide +kernel)) dX1_angle_91 ?_
          refine pu_Sl (As := [.long ((f_X1_first (p0) (p1) (0)) + ((f_X1_first (p0) (p1) (1)) - 1)), .long 2]) (rest := []) ⟨hx, hb, hml, hown, hts⟩ (cc_X1_down l H0 (((f_X1_first (p0) (p1) (0)) + ((f_X1_first (p0) (p1) (1)) - 1))) (2) (by decide)) 2 gX1_angle_X1_down rfl rfl rfl hdS_X1_down ⟨Nat.le_of_ble_eq_true rfl, Nat.le_of_ble_eq_true rfl⟩ kN_ok kN_at rfl hl.1 rfl (Nat.le_of_ble_eq_true rfl) dX1_angle_94 ⟨Nat.zero_le _, Nat.zero_le _⟩ ?_
          refine lv_lstore (lv' := [(8, .long (f_X1_down (((f_X1_first (p0) (p1) (0)) + ((f_X1_first (p0) (p1) (1)) - 1))) (2))), (12, .long ((f_X1_first (p0) (p1) (1)) - 1)), (10, .long (f_X1_first (p0) (p1) (0))), (6, .long p1), (4, .long p0), (0, .long p0), (2, .long p1)]) hx hb dX1_angle_97 hl (by decide) rfl (fun ls hl => ?_)
          refine lv_lload_n hx hb dX1_angle_99 rfl (lv_at hl 5 rfl) ?_
          refine lv_lconst (v := 0) hx hb dX1_angle_100 (by decide) ?_
          refine pl_ge (tgt := 114) hx hb dX1_angle_101 dX1_angle_102 (by decide) (fun _ => ?_) (fun q => absurd q (c_1))
          refine lv_lload hx hb dX1_angle_114 (lv_at hl 0 rfl) ?_
          refine lv_lstore (lv' := [(8, .long (f_X1_down (((f_X1_first (p0) (p1) (0)) + ((f_X1_first (p0) (p1) (1)) - 1))) (2))), (12, .long ((f_X1_first (p0) (p1) (1)) - 1)), (10, .long (f_X1_first (p0) (p1) (0))), (6, .long p1), (4, .long p0), (0, .long p0), (2, .long p1)]) hx hb dX1_angle_116 hl (by decide) rfl (fun ls hl => ?_)
          refine lv_lload_n hx hb dX1_angle_118 rfl (lv_at hl 6 rfl) ?_
          refine lv_lconst (v := 0) hx hb dX1_angle_119 (by decide) ?_
          refine pl_ge (tgt := 140) hx hb dX1_angle_120 dX1_angle_121 (by decide) (fun _ => ?_) (fun q => absurd q (c_2))
          refine lv_lload hx hb dX1_angle_140 (lv_at hl 0 rfl) ?_
          exact pu_lret hx hb hr hlocks hs dX1_angle_142 (by rw [f_X1_angle, if_neg c_1, if_neg c_2, if_neg c_3, if_neg c_7])
        · skip
          refine lv_ldc2 (v := 5898240) hx hb hown (hts (.constantLong RX1 100 (5898240)) (by decide +kernel)) dX1_angle_45 ?_
          refine lv_lstore (lv' := [(8, .long 5898240), (6, .long p1), (4, .long p0), (0, .long p0), (2, .long p1)]) hx hb dX1_angle_48 hl (by decide) rfl (fun ls hl => ?_)
          refine lv_lload hx hb dX1_angle_50 (lv_at hl 1 rfl) ?_
          refine lv_lconst (v := 0) hx hb dX1_angle_52 (by decide) ?_
          refine pl_eq (tgt := 99) hx hb dX1_angle_53 dX1_angle_54 (by decide) (fun q => absurd q (c_3)) (fun _ => ?_)
          refine lv_lload hx hb dX1_angle_57 (lv_at hl 2 rfl) ?_
          refine lv_lconst (v := 0) hx hb dX1_angle_59 (by decide) ?_
          refine pl_eq (tgt := 99) hx hb dX1_angle_60 dX1_angle_61 (by decide) (fun _ => ?_) (fun q => absurd (c_7) q)
          refine lv_lload_n hx hb dX1_angle_99 rfl (lv_at hl 3 rfl) ?_
          refine lv_lconst (v := 0) hx hb dX1_angle_100 (by decide) ?_
          refine pl_ge (tgt := 114) hx hb dX1_angle_101 dX1_angle_102 (by decide) (fun _ => ?_) (fun q => absurd q (c_1))
          refine lv_lload hx hb dX1_angle_114 (lv_at hl 0 rfl) ?_
          refine lv_lstore (lv' := [(8, .long 5898240), (6, .long p1), (4, .long p0), (0, .long p0), (2, .long p1)]) hx hb dX1_angle_116 hl (by decide) rfl (fun ls hl => ?_)
          refine lv_lload_n hx hb dX1_angle_118 rfl (lv_at hl 4 rfl) ?_
          refine lv_lconst (v := 0) hx hb dX1_angle_119 (by decide) ?_
          refine pl_ge (tgt := 140) hx hb dX1_angle_120 dX1_angle_121 (by decide) (fun _ => ?_) (fun q => absurd q (c_2))
          refine lv_lload hx hb dX1_angle_140 (lv_at hl 0 rfl) ?_
          exact pu_lret hx hb hr hlocks hs dX1_angle_142 (by rw [f_X1_angle, if_neg c_1, if_neg c_2, if_neg c_3, if_pos c_7])
    · skip
      refine lv_lload_n hx hb dX1_angle_20 rfl (lv_at hl 2 rfl) ?_
      refine lv_lneg hx hb dX1_angle_21 ?_
      refine lv_goto (tgt := 26) hx hb dX1_angle_22 (by decide) ?_
      refine lv_lstore (lv' := [(6, .long (-p1)), (4, .long p0), (0, .long p0), (2, .long p1)]) hx hb dX1_angle_26 hl (by decide) rfl (fun ls hl => ?_)
      refine lv_lconst (v := 0) hx hb dX1_angle_28 (by decide) ?_
      refine lv_lstore (lv' := [(8, .long 0), (6, .long (-p1)), (4, .long p0), (0, .long p0), (2, .long p1)]) hx hb dX1_angle_29 hl (by decide) rfl (fun ls hl => ?_)
      refine lv_lload hx hb dX1_angle_31 (lv_at hl 1 rfl) ?_
      refine lv_lconst (v := 0) hx hb dX1_angle_33 (by decide) ?_
      refine pl_eq (tgt := 50) hx hb dX1_angle_34 dX1_angle_35 (by decide) (fun c_16 => ?_) (fun c_16 => ?_)
      · skip
        refine lv_lload hx hb dX1_angle_50 (lv_at hl 1 rfl) ?_
        refine lv_lconst (v := 0) hx hb dX1_angle_52 (by decide) ?_
        refine pl_eq (tgt := 99) hx hb dX1_angle_53 dX1_angle_54 (by decide) (fun _ => ?_) (fun q => absurd (c_16) q)
        refine lv_lload_n hx hb dX1_angle_99 rfl (lv_at hl 3 rfl) ?_
        refine lv_lconst (v := 0) hx hb dX1_angle_100 (by decide) ?_
        refine pl_ge (tgt := 114) hx hb dX1_angle_101 dX1_angle_102 (by decide) (fun _ => ?_) (fun q => absurd q (c_1))
        refine lv_lload hx hb dX1_angle_114 (lv_at hl 0 rfl) ?_
        refine lv_lstore (lv' := [(8, .long 0), (6, .long (-p1)), (4, .long p0), (0, .long p0), (2, .long p1)]) hx hb dX1_angle_116 hl (by decide) rfl (fun ls hl => ?_)
        refine lv_lload_n hx hb dX1_angle_118 rfl (lv_at hl 4 rfl) ?_
        refine lv_lconst (v := 0) hx hb dX1_angle_119 (by decide) ?_
        refine pl_ge (tgt := 140) hx hb dX1_angle_120 dX1_angle_121 (by decide) (fun q => absurd (c_2) q) (fun _ => ?_)
        refine lv_lload hx hb dX1_angle_124 (lv_at hl 0 rfl) ?_
        refine lv_lconst (v := 0) hx hb dX1_angle_126 (by decide) ?_
        refine pl_eq (tgt := 140) hx hb dX1_angle_127 dX1_angle_128 (by decide) (fun _ => ?_) (fun q => absurd (by decide) q)
        refine lv_lload hx hb dX1_angle_140 (lv_at hl 0 rfl) ?_
        exact pu_lret hx hb hr hlocks hs dX1_angle_142 (by rw [f_X1_angle, if_neg c_1, if_pos c_2, if_pos c_16])
      · skip
        refine lv_lload hx hb dX1_angle_38 (lv_at hl 2 rfl) ?_
        refine lv_lconst (v := 0) hx hb dX1_angle_40 (by decide) ?_
        refine pl_ne (tgt := 50) hx hb dX1_angle_41 dX1_angle_42 (by decide) (fun c_21 => ?_) (fun c_21 => ?_)
        · skip
          refine lv_lload hx hb dX1_angle_50 (lv_at hl 1 rfl) ?_
          refine lv_lconst (v := 0) hx hb dX1_angle_52 (by decide) ?_
          refine pl_eq (tgt := 99) hx hb dX1_angle_53 dX1_angle_54 (by decide) (fun q => absurd q (c_16)) (fun _ => ?_)
          refine lv_lload hx hb dX1_angle_57 (lv_at hl 2 rfl) ?_
          refine lv_lconst (v := 0) hx hb dX1_angle_59 (by decide) ?_
          refine pl_eq (tgt := 99) hx hb dX1_angle_60 dX1_angle_61 (by decide) (fun q => absurd q (c_21)) (fun _ => ?_)
          refine lv_lload hx hb dX1_angle_64 (lv_at hl 2 rfl) ?_
          refine lv_lload hx hb dX1_angle_66 (lv_at hl 1 rfl) ?_
          refine lv_iconst (v := 0) hx hb dX1_angle_68 (by decide) ?_
          refine pu_Sl (As := [.long p0, .long (-p1), .int 0]) (rest := []) ⟨hx, hb, hml, hown, hts⟩ (cc_X1_first l H0 (p0) ((-p1)) (0)) 3 gX1_angle_X1_first rfl rfl rfl hdS_X1_first ⟨Nat.le_of_ble_eq_true rfl, Nat.le_of_ble_eq_true rfl⟩ (kT_ok _) (hkat) rfl hl.1 rfl (Nat.le_of_ble_eq_true rfl) dX1_angle_69 ⟨Nat.zero_le _, Nat.zero_le _⟩ ?_
          refine lv_lstore (lv' := [(10, .long (f_X1_first (p0) ((-p1)) (0))), (8, .long 0), (6, .long (-p1)), (4, .long p0), (0, .long p0), (2, .long p1)]) hx hb dX1_angle_72 hl (by decide) rfl (fun ls hl => ?_)
          refine lv_lload hx hb dX1_angle_74 (lv_at hl 3 rfl) ?_
          refine lv_lload hx hb dX1_angle_76 (lv_at hl 2 rfl) ?_
          refine lv_iconst (v := 1) hx hb dX1_angle_78 (by decide) ?_
          refine pu_Sl (As := [.long p0, .long (-p1), .int 1]) (rest := []) ⟨hx, hb, hml, hown, hts⟩ (cc_X1_first l H0 (p0) ((-p1)) (1)) 3 gX1_angle_X1_first rfl rfl rfl hdS_X1_first ⟨Nat.le_of_ble_eq_true rfl, Nat.le_of_ble_eq_true rfl⟩ (kT_ok _) (hkat) rfl hl.1 rfl (Nat.le_of_ble_eq_true rfl) dX1_angle_79 ⟨Nat.zero_le _, Nat.zero_le _⟩ ?_
          refine lv_lconst (v := 1) hx hb dX1_angle_82 (by decide) ?_
          refine lv_lsub hx hb dX1_angle_83 ?_
          refine lv_lstore (lv' := [(12, .long ((f_X1_first (p0) ((-p1)) (1)) - 1)), (10, .long (f_X1_first (p0) ((-p1)) (0))), (8, .long 0), (6, .long (-p1)), (4, .long p0), (0, .long p0), (2, .long p1)]) hx hb dX1_angle_84 hl (by decide) rfl (fun ls hl => ?_)
          refine lv_lload hx hb dX1_angle_86 (lv_at hl 1 rfl) ?_
          refine lv_lload hx hb dX1_angle_88 (lv_at hl 0 rfl) ?_
          refine lv_ladd hx hb dX1_angle_90 ?_
          refine lv_ldc2 (v := 2) hx hb hown (hts (.constantLong RX1 48 (2)) (by decide +kernel)) dX1_angle_91 ?_
          refine pu_Sl (As := [.long ((f_X1_first (p0) ((-p1)) (0)) + ((f_X1_first (p0) ((-p1)) (1)) - 1)), .long 2]) (rest := []) ⟨hx, hb, hml, hown, hts⟩ (cc_X1_down l H0 (((f_X1_first (p0) ((-p1)) (0)) + ((f_X1_first (p0) ((-p1)) (1)) - 1))) (2) (by decide)) 2 gX1_angle_X1_down rfl rfl rfl hdS_X1_down ⟨Nat.le_of_ble_eq_true rfl, Nat.le_of_ble_eq_true rfl⟩ kN_ok kN_at rfl hl.1 rfl (Nat.le_of_ble_eq_true rfl) dX1_angle_94 ⟨Nat.zero_le _, Nat.zero_le _⟩ ?_
          refine lv_lstore (lv' := [(8, .long (f_X1_down (((f_X1_first (p0) ((-p1)) (0)) + ((f_X1_first (p0) ((-p1)) (1)) - 1))) (2))), (12, .long ((f_X1_first (p0) ((-p1)) (1)) - 1)), (10, .long (f_X1_first (p0) ((-p1)) (0))), (6, .long (-p1)), (4, .long p0), (0, .long p0), (2, .long p1)]) hx hb dX1_angle_97 hl (by decide) rfl (fun ls hl => ?_)
          refine lv_lload_n hx hb dX1_angle_99 rfl (lv_at hl 5 rfl) ?_
          refine lv_lconst (v := 0) hx hb dX1_angle_100 (by decide) ?_
          refine pl_ge (tgt := 114) hx hb dX1_angle_101 dX1_angle_102 (by decide) (fun _ => ?_) (fun q => absurd q (c_1))
          refine lv_lload hx hb dX1_angle_114 (lv_at hl 0 rfl) ?_
          refine lv_lstore (lv' := [(8, .long (f_X1_down (((f_X1_first (p0) ((-p1)) (0)) + ((f_X1_first (p0) ((-p1)) (1)) - 1))) (2))), (12, .long ((f_X1_first (p0) ((-p1)) (1)) - 1)), (10, .long (f_X1_first (p0) ((-p1)) (0))), (6, .long (-p1)), (4, .long p0), (0, .long p0), (2, .long p1)]) hx hb dX1_angle_116 hl (by decide) rfl (fun ls hl => ?_)
          refine lv_lload_n hx hb dX1_angle_118 rfl (lv_at hl 6 rfl) ?_
          refine lv_lconst (v := 0) hx hb dX1_angle_119 (by decide) ?_
          refine pl_ge (tgt := 140) hx hb dX1_angle_120 dX1_angle_121 (by decide) (fun q => absurd (c_2) q) (fun _ => ?_)
          refine lv_lload hx hb dX1_angle_124 (lv_at hl 0 rfl) ?_
          refine lv_lconst (v := 0) hx hb dX1_angle_126 (by decide) ?_
          refine pl_eq (tgt := 140) hx hb dX1_angle_127 dX1_angle_128 (by decide) (fun c_26 => ?_) (fun c_26 => ?_)
          · skip
            refine lv_lload hx hb dX1_angle_140 (lv_at hl 0 rfl) ?_
            exact pu_lret hx hb hr hlocks hs dX1_angle_142 (by rw [f_X1_angle, if_neg c_1, if_pos c_2, if_neg c_16, if_neg c_21, if_pos c_26])
          · skip
            refine lv_ldc2 (v := 23592960) hx hb hown (hts (.constantLong RX1 105 (23592960)) (by decide +kernel)) dX1_angle_131 ?_
            refine lv_lload hx hb dX1_angle_134 (lv_at hl 0 rfl) ?_
            refine lv_lsub hx hb dX1_angle_136 ?_
            refine lv_goto (tgt := 142) hx hb dX1_angle_137 (by decide) ?_
            exact pu_lret hx hb hr hlocks hs dX1_angle_142 (by rw [f_X1_angle, if_neg c_1, if_pos c_2, if_neg c_16, if_neg c_21, if_neg c_26])
        · skip
          refine lv_ldc2 (v := 5898240) hx hb hown (hts (.constantLong RX1 100 (5898240)) (by decide +kernel)) dX1_angle_45 ?_
          refine lv_lstore (lv' := [(8, .long 5898240), (6, .long (-p1)), (4, .long p0), (0, .long p0), (2, .long p1)]) hx hb dX1_angle_48 hl (by decide) rfl (fun ls hl => ?_)
          refine lv_lload hx hb dX1_angle_50 (lv_at hl 1 rfl) ?_
          refine lv_lconst (v := 0) hx hb dX1_angle_52 (by decide) ?_
          refine pl_eq (tgt := 99) hx hb dX1_angle_53 dX1_angle_54 (by decide) (fun q => absurd q (c_16)) (fun _ => ?_)
          refine lv_lload hx hb dX1_angle_57 (lv_at hl 2 rfl) ?_
          refine lv_lconst (v := 0) hx hb dX1_angle_59 (by decide) ?_
          refine pl_eq (tgt := 99) hx hb dX1_angle_60 dX1_angle_61 (by decide) (fun _ => ?_) (fun q => absurd (c_21) q)
          refine lv_lload_n hx hb dX1_angle_99 rfl (lv_at hl 3 rfl) ?_
          refine lv_lconst (v := 0) hx hb dX1_angle_100 (by decide) ?_
          refine pl_ge (tgt := 114) hx hb dX1_angle_101 dX1_angle_102 (by decide) (fun _ => ?_) (fun q => absurd q (c_1))
          refine lv_lload hx hb dX1_angle_114 (lv_at hl 0 rfl) ?_
          refine lv_lstore (lv' := [(8, .long 5898240), (6, .long (-p1)), (4, .long p0), (0, .long p0), (2, .long p1)]) hx hb dX1_angle_116 hl (by decide) rfl (fun ls hl => ?_)
          refine lv_lload_n hx hb dX1_angle_118 rfl (lv_at hl 4 rfl) ?_
          refine lv_lconst (v := 0) hx hb dX1_angle_119 (by decide) ?_
          refine pl_ge (tgt := 140) hx hb dX1_angle_120 dX1_angle_121 (by decide) (fun q => absurd (c_2) q) (fun _ => ?_)
          refine lv_lload hx hb dX1_angle_124 (lv_at hl 0 rfl) ?_
          refine lv_lconst (v := 0) hx hb dX1_angle_126 (by decide) ?_
          refine pl_eq (tgt := 140) hx hb dX1_angle_127 dX1_angle_128 (by decide) (fun q => absurd q (by decide)) (fun _ => ?_)
          refine lv_ldc2 (v := 23592960) hx hb hown (hts (.constantLong RX1 105 (23592960)) (by decide +kernel)) dX1_angle_131 ?_
          refine lv_lload hx hb dX1_angle_134 (lv_at hl 0 rfl) ?_
          refine lv_lsub hx hb dX1_angle_136 ?_
          refine lv_topl (fun v_32 e_33 => ?_)
          have e_33 : v_32 = (17694720 : Int64) := e_33.trans (by decide)
          subst e_33
          refine lv_goto (tgt := 142) hx hb dX1_angle_137 (by decide) ?_
          exact pu_lret hx hb hr hlocks hs dX1_angle_142 (by rw [f_X1_angle, if_neg c_1, if_pos c_2, if_neg c_16, if_pos c_21])
  · skip
    refine lv_lload_n hx hb dX1_angle_6 rfl (lv_at hl 0 rfl) ?_
    refine lv_lneg hx hb dX1_angle_7 ?_
    refine lv_goto (tgt := 12) hx hb dX1_angle_8 (by decide) ?_
    refine lv_lstore (lv' := [(4, .long (-p0)), (0, .long p0), (2, .long p1)]) hx hb dX1_angle_12 hl (by decide) rfl (fun ls hl => ?_)
    refine lv_lload_n hx hb dX1_angle_14 rfl (lv_at hl 2 rfl) ?_
    refine lv_lconst (v := 0) hx hb dX1_angle_15 (by decide) ?_
    refine pl_ge (tgt := 25) hx hb dX1_angle_16 dX1_angle_17 (by decide) (fun c_34 => ?_) (fun c_34 => ?_)
    · skip
      refine lv_lload_n hx hb dX1_angle_25 rfl (lv_at hl 2 rfl) ?_
      refine lv_lstore (lv' := [(6, .long p1), (4, .long (-p0)), (0, .long p0), (2, .long p1)]) hx hb dX1_angle_26 hl (by decide) rfl (fun ls hl => ?_)
      refine lv_lconst (v := 0) hx hb dX1_angle_28 (by decide) ?_
      refine lv_lstore (lv' := [(8, .long 0), (6, .long p1), (4, .long (-p0)), (0, .long p0), (2, .long p1)]) hx hb dX1_angle_29 hl (by decide) rfl (fun ls hl => ?_)
      refine lv_lload hx hb dX1_angle_31 (lv_at hl 1 rfl) ?_
      refine lv_lconst (v := 0) hx hb dX1_angle_33 (by decide) ?_
      refine pl_eq (tgt := 50) hx hb dX1_angle_34 dX1_angle_35 (by decide) (fun c_35 => ?_) (fun c_35 => ?_)
      · skip
        refine lv_lload hx hb dX1_angle_50 (lv_at hl 1 rfl) ?_
        refine lv_lconst (v := 0) hx hb dX1_angle_52 (by decide) ?_
        refine pl_eq (tgt := 99) hx hb dX1_angle_53 dX1_angle_54 (by decide) (fun _ => ?_) (fun q => absurd (c_35) q)
        refine lv_lload_n hx hb dX1_angle_99 rfl (lv_at hl 3 rfl) ?_
        refine lv_lconst (v := 0) hx hb dX1_angle_100 (by decide) ?_
        refine pl_ge (tgt := 114) hx hb dX1_angle_101 dX1_angle_102 (by decide) (fun q => absurd (c_1) q) (fun _ => ?_)
        refine lv_ldc2 (v := 11796480) hx hb hown (hts (.constantLong RX1 107 (11796480)) (by decide +kernel)) dX1_angle_105 ?_
        refine lv_lload hx hb dX1_angle_108 (lv_at hl 0 rfl) ?_
        refine lv_lsub hx hb dX1_angle_110 ?_
        refine lv_topl (fun v_38 e_39 => ?_)
        have e_39 : v_38 = (11796480 : Int64) := e_39.trans (by decide)
        subst e_39
        refine lv_goto (tgt := 116) hx hb dX1_angle_111 (by decide) ?_
        refine lv_lstore (lv' := [(8, .long 11796480), (6, .long p1), (4, .long (-p0)), (0, .long p0), (2, .long p1)]) hx hb dX1_angle_116 hl (by decide) rfl (fun ls hl => ?_)
        refine lv_lload_n hx hb dX1_angle_118 rfl (lv_at hl 4 rfl) ?_
        refine lv_lconst (v := 0) hx hb dX1_angle_119 (by decide) ?_
        refine pl_ge (tgt := 140) hx hb dX1_angle_120 dX1_angle_121 (by decide) (fun _ => ?_) (fun q => absurd q (c_34))
        refine lv_lload hx hb dX1_angle_140 (lv_at hl 0 rfl) ?_
        exact pu_lret hx hb hr hlocks hs dX1_angle_142 (by rw [f_X1_angle, if_pos c_1, if_neg c_34, if_pos c_35])
      · skip
        refine lv_lload hx hb dX1_angle_38 (lv_at hl 2 rfl) ?_
        refine lv_lconst (v := 0) hx hb dX1_angle_40 (by decide) ?_
        refine pl_ne (tgt := 50) hx hb dX1_angle_41 dX1_angle_42 (by decide) (fun c_41 => ?_) (fun c_41 => ?_)
        · skip
          refine lv_lload hx hb dX1_angle_50 (lv_at hl 1 rfl) ?_
          refine lv_lconst (v := 0) hx hb dX1_angle_52 (by decide) ?_
          refine pl_eq (tgt := 99) hx hb dX1_angle_53 dX1_angle_54 (by decide) (fun q => absurd q (c_35)) (fun _ => ?_)
          refine lv_lload hx hb dX1_angle_57 (lv_at hl 2 rfl) ?_
          refine lv_lconst (v := 0) hx hb dX1_angle_59 (by decide) ?_
          refine pl_eq (tgt := 99) hx hb dX1_angle_60 dX1_angle_61 (by decide) (fun q => absurd q (c_41)) (fun _ => ?_)
          refine lv_lload hx hb dX1_angle_64 (lv_at hl 2 rfl) ?_
          refine lv_lload hx hb dX1_angle_66 (lv_at hl 1 rfl) ?_
          refine lv_iconst (v := 0) hx hb dX1_angle_68 (by decide) ?_
          refine pu_Sl (As := [.long (-p0), .long p1, .int 0]) (rest := []) ⟨hx, hb, hml, hown, hts⟩ (cc_X1_first l H0 ((-p0)) (p1) (0)) 3 gX1_angle_X1_first rfl rfl rfl hdS_X1_first ⟨Nat.le_of_ble_eq_true rfl, Nat.le_of_ble_eq_true rfl⟩ (kT_ok _) (hkat) rfl hl.1 rfl (Nat.le_of_ble_eq_true rfl) dX1_angle_69 ⟨Nat.zero_le _, Nat.zero_le _⟩ ?_
          refine lv_lstore (lv' := [(10, .long (f_X1_first ((-p0)) (p1) (0))), (8, .long 0), (6, .long p1), (4, .long (-p0)), (0, .long p0), (2, .long p1)]) hx hb dX1_angle_72 hl (by decide) rfl (fun ls hl => ?_)
          refine lv_lload hx hb dX1_angle_74 (lv_at hl 3 rfl) ?_
          refine lv_lload hx hb dX1_angle_76 (lv_at hl 2 rfl) ?_
          refine lv_iconst (v := 1) hx hb dX1_angle_78 (by decide) ?_
          refine pu_Sl (As := [.long (-p0), .long p1, .int 1]) (rest := []) ⟨hx, hb, hml, hown, hts⟩ (cc_X1_first l H0 ((-p0)) (p1) (1)) 3 gX1_angle_X1_first rfl rfl rfl hdS_X1_first ⟨Nat.le_of_ble_eq_true rfl, Nat.le_of_ble_eq_true rfl⟩ (kT_ok _) (hkat) rfl hl.1 rfl (Nat.le_of_ble_eq_true rfl) dX1_angle_79 ⟨Nat.zero_le _, Nat.zero_le _⟩ ?_
          refine lv_lconst (v := 1) hx hb dX1_angle_82 (by decide) ?_
          refine lv_lsub hx hb dX1_angle_83 ?_
          refine lv_lstore (lv' := [(12, .long ((f_X1_first ((-p0)) (p1) (1)) - 1)), (10, .long (f_X1_first ((-p0)) (p1) (0))), (8, .long 0), (6, .long p1), (4, .long (-p0)), (0, .long p0), (2, .long p1)]) hx hb dX1_angle_84 hl (by decide) rfl (fun ls hl => ?_)
          refine lv_lload hx hb dX1_angle_86 (lv_at hl 1 rfl) ?_
          refine lv_lload hx hb dX1_angle_88 (lv_at hl 0 rfl) ?_
          refine lv_ladd hx hb dX1_angle_90 ?_
          refine lv_ldc2 (v := 2) hx hb hown (hts (.constantLong RX1 48 (2)) (by decide +kernel)) dX1_angle_91 ?_
          refine pu_Sl (As := [.long ((f_X1_first ((-p0)) (p1) (0)) + ((f_X1_first ((-p0)) (p1) (1)) - 1)), .long 2]) (rest := []) ⟨hx, hb, hml, hown, hts⟩ (cc_X1_down l H0 (((f_X1_first ((-p0)) (p1) (0)) + ((f_X1_first ((-p0)) (p1) (1)) - 1))) (2) (by decide)) 2 gX1_angle_X1_down rfl rfl rfl hdS_X1_down ⟨Nat.le_of_ble_eq_true rfl, Nat.le_of_ble_eq_true rfl⟩ kN_ok kN_at rfl hl.1 rfl (Nat.le_of_ble_eq_true rfl) dX1_angle_94 ⟨Nat.zero_le _, Nat.zero_le _⟩ ?_
          refine lv_lstore (lv' := [(8, .long (f_X1_down (((f_X1_first ((-p0)) (p1) (0)) + ((f_X1_first ((-p0)) (p1) (1)) - 1))) (2))), (12, .long ((f_X1_first ((-p0)) (p1) (1)) - 1)), (10, .long (f_X1_first ((-p0)) (p1) (0))), (6, .long p1), (4, .long (-p0)), (0, .long p0), (2, .long p1)]) hx hb dX1_angle_97 hl (by decide) rfl (fun ls hl => ?_)
          refine lv_lload_n hx hb dX1_angle_99 rfl (lv_at hl 5 rfl) ?_
          refine lv_lconst (v := 0) hx hb dX1_angle_100 (by decide) ?_
          refine pl_ge (tgt := 114) hx hb dX1_angle_101 dX1_angle_102 (by decide) (fun q => absurd (c_1) q) (fun _ => ?_)
          refine lv_ldc2 (v := 11796480) hx hb hown (hts (.constantLong RX1 107 (11796480)) (by decide +kernel)) dX1_angle_105 ?_
          refine lv_lload hx hb dX1_angle_108 (lv_at hl 0 rfl) ?_
          refine lv_lsub hx hb dX1_angle_110 ?_
          refine lv_goto (tgt := 116) hx hb dX1_angle_111 (by decide) ?_
          refine lv_lstore (lv' := [(8, .long (11796480 - (f_X1_down (((f_X1_first ((-p0)) (p1) (0)) + ((f_X1_first ((-p0)) (p1) (1)) - 1))) (2)))), (12, .long ((f_X1_first ((-p0)) (p1) (1)) - 1)), (10, .long (f_X1_first ((-p0)) (p1) (0))), (6, .long p1), (4, .long (-p0)), (0, .long p0), (2, .long p1)]) hx hb dX1_angle_116 hl (by decide) rfl (fun ls hl => ?_)
          refine lv_lload_n hx hb dX1_angle_118 rfl (lv_at hl 6 rfl) ?_
          refine lv_lconst (v := 0) hx hb dX1_angle_119 (by decide) ?_
          refine pl_ge (tgt := 140) hx hb dX1_angle_120 dX1_angle_121 (by decide) (fun _ => ?_) (fun q => absurd q (c_34))
          refine lv_lload hx hb dX1_angle_140 (lv_at hl 0 rfl) ?_
          exact pu_lret hx hb hr hlocks hs dX1_angle_142 (by rw [f_X1_angle, if_pos c_1, if_neg c_34, if_neg c_35, if_neg c_41])
        · skip
          refine lv_ldc2 (v := 5898240) hx hb hown (hts (.constantLong RX1 100 (5898240)) (by decide +kernel)) dX1_angle_45 ?_
          refine lv_lstore (lv' := [(8, .long 5898240), (6, .long p1), (4, .long (-p0)), (0, .long p0), (2, .long p1)]) hx hb dX1_angle_48 hl (by decide) rfl (fun ls hl => ?_)
          refine lv_lload hx hb dX1_angle_50 (lv_at hl 1 rfl) ?_
          refine lv_lconst (v := 0) hx hb dX1_angle_52 (by decide) ?_
          refine pl_eq (tgt := 99) hx hb dX1_angle_53 dX1_angle_54 (by decide) (fun q => absurd q (c_35)) (fun _ => ?_)
          refine lv_lload hx hb dX1_angle_57 (lv_at hl 2 rfl) ?_
          refine lv_lconst (v := 0) hx hb dX1_angle_59 (by decide) ?_
          refine pl_eq (tgt := 99) hx hb dX1_angle_60 dX1_angle_61 (by decide) (fun _ => ?_) (fun q => absurd (c_41) q)
          refine lv_lload_n hx hb dX1_angle_99 rfl (lv_at hl 3 rfl) ?_
          refine lv_lconst (v := 0) hx hb dX1_angle_100 (by decide) ?_
          refine pl_ge (tgt := 114) hx hb dX1_angle_101 dX1_angle_102 (by decide) (fun q => absurd (c_1) q) (fun _ => ?_)
          refine lv_ldc2 (v := 11796480) hx hb hown (hts (.constantLong RX1 107 (11796480)) (by decide +kernel)) dX1_angle_105 ?_
          refine lv_lload hx hb dX1_angle_108 (lv_at hl 0 rfl) ?_
          refine lv_lsub hx hb dX1_angle_110 ?_
          refine lv_topl (fun v_49 e_50 => ?_)
          have e_50 : v_49 = (5898240 : Int64) := e_50.trans (by decide)
          subst e_50
          refine lv_goto (tgt := 116) hx hb dX1_angle_111 (by decide) ?_
          refine lv_lstore (lv' := [(8, .long 5898240), (6, .long p1), (4, .long (-p0)), (0, .long p0), (2, .long p1)]) hx hb dX1_angle_116 hl (by decide) rfl (fun ls hl => ?_)
          refine lv_lload_n hx hb dX1_angle_118 rfl (lv_at hl 4 rfl) ?_
          refine lv_lconst (v := 0) hx hb dX1_angle_119 (by decide) ?_
          refine pl_ge (tgt := 140) hx hb dX1_angle_120 dX1_angle_121 (by decide) (fun _ => ?_) (fun q => absurd q (c_34))
          refine lv_lload hx hb dX1_angle_140 (lv_at hl 0 rfl) ?_
          exact pu_lret hx hb hr hlocks hs dX1_angle_142 (by rw [f_X1_angle, if_pos c_1, if_neg c_34, if_neg c_35, if_pos c_41])
    · skip
      refine lv_lload_n hx hb dX1_angle_20 rfl (lv_at hl 2 rfl) ?_
      refine lv_lneg hx hb dX1_angle_21 ?_
      refine lv_goto (tgt := 26) hx hb dX1_angle_22 (by decide) ?_
      refine lv_lstore (lv' := [(6, .long (-p1)), (4, .long (-p0)), (0, .long p0), (2, .long p1)]) hx hb dX1_angle_26 hl (by decide) rfl (fun ls hl => ?_)
      refine lv_lconst (v := 0) hx hb dX1_angle_28 (by decide) ?_
      refine lv_lstore (lv' := [(8, .long 0), (6, .long (-p1)), (4, .long (-p0)), (0, .long p0), (2, .long p1)]) hx hb dX1_angle_29 hl (by decide) rfl (fun ls hl => ?_)
      refine lv_lload hx hb dX1_angle_31 (lv_at hl 1 rfl) ?_
      refine lv_lconst (v := 0) hx hb dX1_angle_33 (by decide) ?_
      refine pl_eq (tgt := 50) hx hb dX1_angle_34 dX1_angle_35 (by decide) (fun c_52 => ?_) (fun c_52 => ?_)
      · skip
        refine lv_lload hx hb dX1_angle_50 (lv_at hl 1 rfl) ?_
        refine lv_lconst (v := 0) hx hb dX1_angle_52 (by decide) ?_
        refine pl_eq (tgt := 99) hx hb dX1_angle_53 dX1_angle_54 (by decide) (fun _ => ?_) (fun q => absurd (c_52) q)
        refine lv_lload_n hx hb dX1_angle_99 rfl (lv_at hl 3 rfl) ?_
        refine lv_lconst (v := 0) hx hb dX1_angle_100 (by decide) ?_
        refine pl_ge (tgt := 114) hx hb dX1_angle_101 dX1_angle_102 (by decide) (fun q => absurd (c_1) q) (fun _ => ?_)
        refine lv_ldc2 (v := 11796480) hx hb hown (hts (.constantLong RX1 107 (11796480)) (by decide +kernel)) dX1_angle_105 ?_
        refine lv_lload hx hb dX1_angle_108 (lv_at hl 0 rfl) ?_
        refine lv_lsub hx hb dX1_angle_110 ?_
        refine lv_topl (fun v_55 e_56 => ?_)
        have e_56 : v_55 = (11796480 : Int64) := e_56.trans (by decide)
        subst e_56
        refine lv_goto (tgt := 116) hx hb dX1_angle_111 (by decide) ?_
        refine lv_lstore (lv' := [(8, .long 11796480), (6, .long (-p1)), (4, .long (-p0)), (0, .long p0), (2, .long p1)]) hx hb dX1_angle_116 hl (by decide) rfl (fun ls hl => ?_)
        refine lv_lload_n hx hb dX1_angle_118 rfl (lv_at hl 4 rfl) ?_
        refine lv_lconst (v := 0) hx hb dX1_angle_119 (by decide) ?_
        refine pl_ge (tgt := 140) hx hb dX1_angle_120 dX1_angle_121 (by decide) (fun q => absurd (c_34) q) (fun _ => ?_)
        refine lv_lload hx hb dX1_angle_124 (lv_at hl 0 rfl) ?_
        refine lv_lconst (v := 0) hx hb dX1_angle_126 (by decide) ?_
        refine pl_eq (tgt := 140) hx hb dX1_angle_127 dX1_angle_128 (by decide) (fun q => absurd q (by decide)) (fun _ => ?_)
        refine lv_ldc2 (v := 23592960) hx hb hown (hts (.constantLong RX1 105 (23592960)) (by decide +kernel)) dX1_angle_131 ?_
        refine lv_lload hx hb dX1_angle_134 (lv_at hl 0 rfl) ?_
        refine lv_lsub hx hb dX1_angle_136 ?_
        refine lv_topl (fun v_59 e_60 => ?_)
        have e_60 : v_59 = (11796480 : Int64) := e_60.trans (by decide)
        subst e_60
        refine lv_goto (tgt := 142) hx hb dX1_angle_137 (by decide) ?_
        exact pu_lret hx hb hr hlocks hs dX1_angle_142 (by rw [f_X1_angle, if_pos c_1, if_pos c_34, if_pos c_52])
      · skip
        refine lv_lload hx hb dX1_angle_38 (lv_at hl 2 rfl) ?_
        refine lv_lconst (v := 0) hx hb dX1_angle_40 (by decide) ?_
        refine pl_ne (tgt := 50) hx hb dX1_angle_41 dX1_angle_42 (by decide) (fun c_61 => ?_) (fun c_61 => ?_)
        · skip
          refine lv_lload hx hb dX1_angle_50 (lv_at hl 1 rfl) ?_
          refine lv_lconst (v := 0) hx hb dX1_angle_52 (by decide) ?_
          refine pl_eq (tgt := 99) hx hb dX1_angle_53 dX1_angle_54 (by decide) (fun q => absurd q (c_52)) (fun _ => ?_)
          refine lv_lload hx hb dX1_angle_57 (lv_at hl 2 rfl) ?_
          refine lv_lconst (v := 0) hx hb dX1_angle_59 (by decide) ?_
          refine pl_eq (tgt := 99) hx hb dX1_angle_60 dX1_angle_61 (by decide) (fun q => absurd q (c_61)) (fun _ => ?_)
          refine lv_lload hx hb dX1_angle_64 (lv_at hl 2 rfl) ?_
          refine lv_lload hx hb dX1_angle_66 (lv_at hl 1 rfl) ?_
          refine lv_iconst (v := 0) hx hb dX1_angle_68 (by decide) ?_
          refine pu_Sl (As := [.long (-p0), .long (-p1), .int 0]) (rest := []) ⟨hx, hb, hml, hown, hts⟩ (cc_X1_first l H0 ((-p0)) ((-p1)) (0)) 3 gX1_angle_X1_first rfl rfl rfl hdS_X1_first ⟨Nat.le_of_ble_eq_true rfl, Nat.le_of_ble_eq_true rfl⟩ (kT_ok _) (hkat) rfl hl.1 rfl (Nat.le_of_ble_eq_true rfl) dX1_angle_69 ⟨Nat.zero_le _, Nat.zero_le _⟩ ?_
          refine lv_lstore (lv' := [(10, .long (f_X1_first ((-p0)) ((-p1)) (0))), (8, .long 0), (6, .long (-p1)), (4, .long (-p0)), (0, .long p0), (2, .long p1)]) hx hb dX1_angle_72 hl (by decide) rfl (fun ls hl => ?_)
          refine lv_lload hx hb dX1_angle_74 (lv_at hl 3 rfl) ?_
          refine lv_lload hx hb dX1_angle_76 (lv_at hl 2 rfl) ?_
          refine lv_iconst (v := 1) hx hb dX1_angle_78 (by decide) ?_
          refine pu_Sl (As := [.long (-p0), .long (-p1), .int 1]) (rest := []) ⟨hx, hb, hml, hown, hts⟩ (cc_X1_first l H0 ((-p0)) ((-p1)) (1)) 3 gX1_angle_X1_first rfl rfl rfl hdS_X1_first ⟨Nat.le_of_ble_eq_true rfl, Nat.le_of_ble_eq_true rfl⟩ (kT_ok _) (hkat) rfl hl.1 rfl (Nat.le_of_ble_eq_true rfl) dX1_angle_79 ⟨Nat.zero_le _, Nat.zero_le _⟩ ?_
          refine lv_lconst (v := 1) hx hb dX1_angle_82 (by decide) ?_
          refine lv_lsub hx hb dX1_angle_83 ?_
          refine lv_lstore (lv' := [(12, .long ((f_X1_first ((-p0)) ((-p1)) (1)) - 1)), (10, .long (f_X1_first ((-p0)) ((-p1)) (0))), (8, .long 0), (6, .long (-p1)), (4, .long (-p0)), (0, .long p0), (2, .long p1)]) hx hb dX1_angle_84 hl (by decide) rfl (fun ls hl => ?_)
          refine lv_lload hx hb dX1_angle_86 (lv_at hl 1 rfl) ?_
          refine lv_lload hx hb dX1_angle_88 (lv_at hl 0 rfl) ?_
          refine lv_ladd hx hb dX1_angle_90 ?_
          refine lv_ldc2 (v := 2) hx hb hown (hts (.constantLong RX1 48 (2)) (by decide +kernel)) dX1_angle_91 ?_
          refine pu_Sl (As := [.long ((f_X1_first ((-p0)) ((-p1)) (0)) + ((f_X1_first ((-p0)) ((-p1)) (1)) - 1)), .long 2]) (rest := []) ⟨hx, hb, hml, hown, hts⟩ (cc_X1_down l H0 (((f_X1_first ((-p0)) ((-p1)) (0)) + ((f_X1_first ((-p0)) ((-p1)) (1)) - 1))) (2) (by decide)) 2 gX1_angle_X1_down rfl rfl rfl hdS_X1_down ⟨Nat.le_of_ble_eq_true rfl, Nat.le_of_ble_eq_true rfl⟩ kN_ok kN_at rfl hl.1 rfl (Nat.le_of_ble_eq_true rfl) dX1_angle_94 ⟨Nat.zero_le _, Nat.zero_le _⟩ ?_
          refine lv_lstore (lv' := [(8, .long (f_X1_down (((f_X1_first ((-p0)) ((-p1)) (0)) + ((f_X1_first ((-p0)) ((-p1)) (1)) - 1))) (2))), (12, .long ((f_X1_first ((-p0)) ((-p1)) (1)) - 1)), (10, .long (f_X1_first ((-p0)) ((-p1)) (0))), (6, .long (-p1)), (4, .long (-p0)), (0, .long p0), (2, .long p1)]) hx hb dX1_angle_97 hl (by decide) rfl (fun ls hl => ?_)
          refine lv_lload_n hx hb dX1_angle_99 rfl (lv_at hl 5 rfl) ?_
          refine lv_lconst (v := 0) hx hb dX1_angle_100 (by decide) ?_
          refine pl_ge (tgt := 114) hx hb dX1_angle_101 dX1_angle_102 (by decide) (fun q => absurd (c_1) q) (fun _ => ?_)
          refine lv_ldc2 (v := 11796480) hx hb hown (hts (.constantLong RX1 107 (11796480)) (by decide +kernel)) dX1_angle_105 ?_
          refine lv_lload hx hb dX1_angle_108 (lv_at hl 0 rfl) ?_
          refine lv_lsub hx hb dX1_angle_110 ?_
          refine lv_goto (tgt := 116) hx hb dX1_angle_111 (by decide) ?_
          refine lv_lstore (lv' := [(8, .long (11796480 - (f_X1_down (((f_X1_first ((-p0)) ((-p1)) (0)) + ((f_X1_first ((-p0)) ((-p1)) (1)) - 1))) (2)))), (12, .long ((f_X1_first ((-p0)) ((-p1)) (1)) - 1)), (10, .long (f_X1_first ((-p0)) ((-p1)) (0))), (6, .long (-p1)), (4, .long (-p0)), (0, .long p0), (2, .long p1)]) hx hb dX1_angle_116 hl (by decide) rfl (fun ls hl => ?_)
          refine lv_lload_n hx hb dX1_angle_118 rfl (lv_at hl 6 rfl) ?_
          refine lv_lconst (v := 0) hx hb dX1_angle_119 (by decide) ?_
          refine pl_ge (tgt := 140) hx hb dX1_angle_120 dX1_angle_121 (by decide) (fun q => absurd (c_34) q) (fun _ => ?_)
          refine lv_lload hx hb dX1_angle_124 (lv_at hl 0 rfl) ?_
          refine lv_lconst (v := 0) hx hb dX1_angle_126 (by decide) ?_
          refine pl_eq (tgt := 140) hx hb dX1_angle_127 dX1_angle_128 (by decide) (fun c_66 => ?_) (fun c_66 => ?_)
          · skip
            refine lv_lload hx hb dX1_angle_140 (lv_at hl 0 rfl) ?_
            exact pu_lret hx hb hr hlocks hs dX1_angle_142 (by rw [f_X1_angle, if_pos c_1, if_pos c_34, if_neg c_52, if_neg c_61, if_pos c_66])
          · skip
            refine lv_ldc2 (v := 23592960) hx hb hown (hts (.constantLong RX1 105 (23592960)) (by decide +kernel)) dX1_angle_131 ?_
            refine lv_lload hx hb dX1_angle_134 (lv_at hl 0 rfl) ?_
            refine lv_lsub hx hb dX1_angle_136 ?_
            refine lv_goto (tgt := 142) hx hb dX1_angle_137 (by decide) ?_
            exact pu_lret hx hb hr hlocks hs dX1_angle_142 (by rw [f_X1_angle, if_pos c_1, if_pos c_34, if_neg c_52, if_neg c_61, if_neg c_66])
        · skip
          refine lv_ldc2 (v := 5898240) hx hb hown (hts (.constantLong RX1 100 (5898240)) (by decide +kernel)) dX1_angle_45 ?_
          refine lv_lstore (lv' := [(8, .long 5898240), (6, .long (-p1)), (4, .long (-p0)), (0, .long p0), (2, .long p1)]) hx hb dX1_angle_48 hl (by decide) rfl (fun ls hl => ?_)
          refine lv_lload hx hb dX1_angle_50 (lv_at hl 1 rfl) ?_
          refine lv_lconst (v := 0) hx hb dX1_angle_52 (by decide) ?_
          refine pl_eq (tgt := 99) hx hb dX1_angle_53 dX1_angle_54 (by decide) (fun q => absurd q (c_52)) (fun _ => ?_)
          refine lv_lload hx hb dX1_angle_57 (lv_at hl 2 rfl) ?_
          refine lv_lconst (v := 0) hx hb dX1_angle_59 (by decide) ?_
          refine pl_eq (tgt := 99) hx hb dX1_angle_60 dX1_angle_61 (by decide) (fun _ => ?_) (fun q => absurd (c_61) q)
          refine lv_lload_n hx hb dX1_angle_99 rfl (lv_at hl 3 rfl) ?_
          refine lv_lconst (v := 0) hx hb dX1_angle_100 (by decide) ?_
          refine pl_ge (tgt := 114) hx hb dX1_angle_101 dX1_angle_102 (by decide) (fun q => absurd (c_1) q) (fun _ => ?_)
          refine lv_ldc2 (v := 11796480) hx hb hown (hts (.constantLong RX1 107 (11796480)) (by decide +kernel)) dX1_angle_105 ?_
          refine lv_lload hx hb dX1_angle_108 (lv_at hl 0 rfl) ?_
          refine lv_lsub hx hb dX1_angle_110 ?_
          refine lv_topl (fun v_70 e_71 => ?_)
          have e_71 : v_70 = (5898240 : Int64) := e_71.trans (by decide)
          subst e_71
          refine lv_goto (tgt := 116) hx hb dX1_angle_111 (by decide) ?_
          refine lv_lstore (lv' := [(8, .long 5898240), (6, .long (-p1)), (4, .long (-p0)), (0, .long p0), (2, .long p1)]) hx hb dX1_angle_116 hl (by decide) rfl (fun ls hl => ?_)
          refine lv_lload_n hx hb dX1_angle_118 rfl (lv_at hl 4 rfl) ?_
          refine lv_lconst (v := 0) hx hb dX1_angle_119 (by decide) ?_
          refine pl_ge (tgt := 140) hx hb dX1_angle_120 dX1_angle_121 (by decide) (fun q => absurd (c_34) q) (fun _ => ?_)
          refine lv_lload hx hb dX1_angle_124 (lv_at hl 0 rfl) ?_
          refine lv_lconst (v := 0) hx hb dX1_angle_126 (by decide) ?_
          refine pl_eq (tgt := 140) hx hb dX1_angle_127 dX1_angle_128 (by decide) (fun q => absurd q (by decide)) (fun _ => ?_)
          refine lv_ldc2 (v := 23592960) hx hb hown (hts (.constantLong RX1 105 (23592960)) (by decide +kernel)) dX1_angle_131 ?_
          refine lv_lload hx hb dX1_angle_134 (lv_at hl 0 rfl) ?_
          refine lv_lsub hx hb dX1_angle_136 ?_
          refine lv_topl (fun v_74 e_75 => ?_)
          have e_75 : v_74 = (17694720 : Int64) := e_75.trans (by decide)
          subst e_75
          refine lv_goto (tgt := 142) hx hb dX1_angle_137 (by decide) ?_
          exact pu_lret hx hb hr hlocks hs dX1_angle_142 (by rw [f_X1_angle, if_pos c_1, if_pos c_34, if_neg c_52, if_pos c_61])
theorem hdS_X1_shifted : yX1_shifted.cls ≠ "java/lang/invoke/MethodHandle" ∧ yX1_shifted.cls ≠ "java/lang/invoke/VarHandle" ∧ (parseMethodDescriptor yX1_shifted.desc).map (fun d => d.parameters.length) = some 2 := by decide +kernel
def f_X1_shifted_L35 (p0 : Int32) (p1 : Int32) : Nat → Int32 → Int32
  | 0, v => v
  | n + 1, v => f_X1_shifted_L35 p0 p1 n (((v).toUInt32 >>> (((1 : Int32)).toUInt32 &&& Int32.toUInt32 31)).toInt32)
def f_X1_shifted_L18 (p0 : Int32) (p1 : Int32) : Nat → Int32 → Int32
  | 0, v => f_X1_shifted_L35 p0 p1 ((-p1.toInt).toNat) (v)
  | n + 1, v => f_X1_shifted_L18 p0 p1 n ((v + v))
def f_X1_shifted (p0 : Int32) (p1 : Int32) : Int32 := if 31 < p1 then (0) else (if p1 < (-31) then (0) else (f_X1_shifted_L18 p0 p1 (p1.toInt.toNat) (p0)))
abbrev rm_X1_shifted : Room := { frames := 0, cells := 0, slots := 0, locals := 0 }
set_option maxHeartbeats 4000000 in
set_option maxRecDepth 100000 in
theorem cc_X1_shifted (l : Launch) (H0 : Heap) (p0 : Int32) (p1 : Int32)   : Met l yX1_shifted wsX1_shifted rm_X1_shifted (pPc [.int p0, .int p1] H0 (kN)) (pQi H0 (f_X1_shifted p0 p1)) 0 0 (fun _ => False) := by
  refine pu_head (cc := cX1_shifted) (maxL := 4) (ret := some .int) (by decide +kernel) rfl (Nat.le_of_ble_eq_true rfl) ?_
  intro p e s m below meth c ls hx hb hr hlocks hml hown hts hs hk hl
  have hown : s.vm.findClass RX1 = some m.cls := hown
  have hl : lv_has ls 4 [(0, .int p0), (1, .int p1)] := hl
  have hL35 : ∀ (n : Nat) (v : Int32), n ≤ (-p1.toInt).toNat ∧ p1.toInt ≤ 31 ∧ -31 ≤ p1.toInt → (f_X1_shifted p0 p1 = f_X1_shifted_L35 p0 p1 n v) → ∀ (ls : Array Slot), lv_has ls 4 [(1, .int p1), (2, .int v), (3, .int (-(nI ((-p1.toInt).toNat - n))))] → W p l e (headSpec wsX1_shifted rm_X1_shifted).room s m ([.int p0, .int p1] : List Value).toArray below meth c H0 [] 0 0 (MQ below (pQi H0 (f_X1_shifted p0 p1)) ([.int p0, .int p1] : List Value).toArray s 0 0 (fun _ => False)) (F0 m 35 ls []) := by
    intro n
    induction n with
    | zero =>
      intro v hI hF ls hl
      refine lv_iload_n hx hb dX1_shifted_35 rfl (lv_at hl 2 rfl) ?_
      refine lv_iload_n hx hb dX1_shifted_36 rfl (lv_at hl 0 rfl) ?_
      refine pi_le (tgt := 50) hx hb dX1_shifted_37 (by decide) (fun _ => ?_) (fun q => absurd q (sh2_z hI))
      refine lv_iload_n hx hb dX1_shifted_50 rfl (lv_at hl 1 rfl) ?_
      exact pu_iret hx hb hr hlocks hs dX1_shifted_51 (by rw [hF, f_X1_shifted_L35])
    | succ n ih =>
      intro v hI hF ls hl
      refine lv_iload_n hx hb dX1_shifted_35 rfl (lv_at hl 2 rfl) ?_
      refine lv_iload_n hx hb dX1_shifted_36 rfl (lv_at hl 0 rfl) ?_
      refine pi_le (tgt := 50) hx hb dX1_shifted_37 (by decide) (fun q => absurd (sh2_s hI) q) (fun _ => ?_)
      refine lv_iload_n hx hb dX1_shifted_40 rfl (lv_at hl 1 rfl) ?_
      refine lv_iconst (v := 1) hx hb dX1_shifted_41 (by decide) ?_
      refine lv_iushr (v := ((v).toUInt32 >>> (((1 : Int32)).toUInt32 &&& Int32.toUInt32 31)).toInt32) hx hb dX1_shifted_42 rfl ?_
      refine lv_istore_n (lv' := [(2, .int ((v).toUInt32 >>> (((1 : Int32)).toUInt32 &&& Int32.toUInt32 31)).toInt32), (1, .int p1), (3, .int (-(nI ((-p1.toInt).toNat - (n + 1)))))]) hx hb dX1_shifted_43 rfl hl (by decide) rfl (fun ls hl => ?_)
      refine lv_iinc (v := (-(nI ((-p1.toInt).toNat - n)))) (lv' := [(3, .int (-(nI ((-p1.toInt).toNat - n)))), (2, .int ((v).toUInt32 >>> (((1 : Int32)).toUInt32 &&& Int32.toUInt32 31)).toInt32), (1, .int p1)]) (k := 2) hx hb dX1_shifted_44 hl rfl (sh2_i hI) (by decide) rfl (fun ls hl => ?_)
      refine lv_goto (tgt := 35) hx hb dX1_shifted_47 (by decide) ?_
      exact ih (((v).toUInt32 >>> (((1 : Int32)).toUInt32 &&& Int32.toUInt32 31)).toInt32) (⟨by omega, hI.2⟩) (hF.trans (by rw [f_X1_shifted_L35])) ls (lv_sub hl [2, 1, 0] rfl)
  have hL18 : ∀ (n : Nat) (v : Int32), n ≤ p1.toInt.toNat ∧ p1.toInt ≤ 31 ∧ -31 ≤ p1.toInt → (f_X1_shifted p0 p1 = f_X1_shifted_L18 p0 p1 n v) → ∀ (ls : Array Slot), lv_has ls 4 [(1, .int p1), (2, .int v), (3, .int (nI (p1.toInt.toNat - n)))] → W p l e (headSpec wsX1_shifted rm_X1_shifted).room s m ([.int p0, .int p1] : List Value).toArray below meth c H0 [] 0 0 (MQ below (pQi H0 (f_X1_shifted p0 p1)) ([.int p0, .int p1] : List Value).toArray s 0 0 (fun _ => False)) (F0 m 18 ls []) := by
    intro n
    induction n with
    | zero =>
      intro v hI hF ls hl
      refine lv_iload_n hx hb dX1_shifted_18 rfl (lv_at hl 2 rfl) ?_
      refine lv_iload_n hx hb dX1_shifted_19 rfl (lv_at hl 0 rfl) ?_
      refine pi_ge (tgt := 33) hx hb dX1_shifted_20 (by decide) (fun _ => ?_) (fun q => absurd q (sh1_z hI))
      refine lv_iconst (v := 0) hx hb dX1_shifted_33 (by decide) ?_
      refine lv_istore_n (lv' := [(3, .int 0), (1, .int p1), (2, .int v)]) hx hb dX1_shifted_34 rfl hl (by decide) rfl (fun ls hl => ?_)
      exact hL35 ((-p1.toInt).toNat) (v) (⟨Nat.le_refl _, hI.2⟩) (hF.trans (by rw [f_X1_shifted_L18])) ls (lv_sub hl [1, 2, 0] (by rw [Nat.sub_self]; rfl))
    | succ n ih =>
      intro v hI hF ls hl
      refine lv_iload_n hx hb dX1_shifted_18 rfl (lv_at hl 2 rfl) ?_
      refine lv_iload_n hx hb dX1_shifted_19 rfl (lv_at hl 0 rfl) ?_
      refine pi_ge (tgt := 33) hx hb dX1_shifted_20 (by decide) (fun q => absurd (sh1_s hI) q) (fun _ => ?_)
      refine lv_iload_n hx hb dX1_shifted_23 rfl (lv_at hl 1 rfl) ?_
      refine lv_iload_n hx hb dX1_shifted_24 rfl (lv_at hl 1 rfl) ?_
      refine lv_iadd hx hb dX1_shifted_25 ?_
      refine lv_istore_n (lv' := [(2, .int (v + v)), (1, .int p1), (3, .int (nI (p1.toInt.toNat - (n + 1))))]) hx hb dX1_shifted_26 rfl hl (by decide) rfl (fun ls hl => ?_)
      refine lv_iinc (v := (nI (p1.toInt.toNat - n))) (lv' := [(3, .int (nI (p1.toInt.toNat - n))), (2, .int (v + v)), (1, .int p1)]) (k := 2) hx hb dX1_shifted_27 hl rfl (cn_st hI.1) (by decide) rfl (fun ls hl => ?_)
      refine lv_goto (tgt := 18) hx hb dX1_shifted_30 (by decide) ?_
      exact ih ((v + v)) (⟨by omega, hI.2⟩) (hF.trans (by rw [f_X1_shifted_L18])) ls (lv_sub hl [2, 1, 0] rfl)
  refine lv_iload_n hx hb dX1_shifted_0 rfl (lv_at hl 0 rfl) ?_
  refine lv_istore_n (lv' := [(2, .int p0), (0, .int p0), (1, .int p1)]) hx hb dX1_shifted_1 rfl hl (by decide) rfl (fun ls hl => ?_)
  refine lv_iload_n hx hb dX1_shifted_2 rfl (lv_at hl 2 rfl) ?_
  refine lv_bipush (v := 31) hx hb dX1_shifted_3 (by decide) ?_
  refine pi_gt (tgt := 14) hx hb dX1_shifted_5 (by decide) (fun c_5 => ?_) (fun c_5 => ?_)
  · skip
    refine lv_iconst (v := 0) hx hb dX1_shifted_14 (by decide) ?_
    exact pu_iret hx hb hr hlocks hs dX1_shifted_15 (by rw [f_X1_shifted, if_pos c_5])
  · skip
    refine lv_iload_n hx hb dX1_shifted_8 rfl (lv_at hl 2 rfl) ?_
    refine lv_bipush (v := (-31)) hx hb dX1_shifted_9 (by decide) ?_
    refine pi_ge (tgt := 16) hx hb dX1_shifted_11 (by decide) (fun c_6 => ?_) (fun c_6 => ?_)
    · skip
      refine lv_iconst (v := 0) hx hb dX1_shifted_16 (by decide) ?_
      refine lv_istore_n (lv' := [(3, .int 0), (2, .int p0), (0, .int p0), (1, .int p1)]) hx hb dX1_shifted_17 rfl hl (by decide) rfl (fun ls hl => ?_)
      exact hL18 (p1.toInt.toNat) (p0) (sh_e c_5 c_6) (by rw [f_X1_shifted, if_neg c_5, if_neg c_6]) ls (lv_sub hl [3, 1, 0] (by rw [Nat.sub_self]; rfl))
    · skip
      refine lv_iconst (v := 0) hx hb dX1_shifted_14 (by decide) ?_
      exact pu_iret hx hb hr hlocks hs dX1_shifted_15 (by rw [f_X1_shifted, if_neg c_5, if_pos c_6])
