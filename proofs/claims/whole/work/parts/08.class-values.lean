theorem hdV_X0_keep : yX0_keep.cls = RX0 ∧ yX0_keep.cls ≠ "java/lang/invoke/MethodHandle" ∧ yX0_keep.cls ≠ "java/lang/invoke/VarHandle" ∧ (parseMethodDescriptor yX0_keep.desc).map (fun d => d.parameters.length) = some 2 := by decide +kernel
theorem fi_X0_keep : ∀ w ∈ wsX00, w ∈ wsX0_keep := fun _ h => List.mem_cons_of_mem _ (List.mem_append_right _ h)
def f_X0_keep (rk : Int32) (rn : Int32) (p0 : Int32) (p1 : Int64) : Int32 × Int32 × Int32 := if p0 = 1 then (if p1 = ((p1).toInt32).toInt64 then ((p0, p0, (p1).toInt32)) else (((-2), rk, rn))) else (if (f_X0_isReal (p1)) = 0 then (((-2), rk, rn)) else ((p0, p0, (p1).toInt32)))
abbrev rm_X0_keep : Room := { frames := 1, cells := 0, slots := 0, locals := 37 }
set_option maxHeartbeats 4000000 in
set_option maxRecDepth 100000 in
theorem cc_X0_keep (l : Launch) (dC : Nat → ClassId) (dI : Nat → Nat → Nat) (h0 sz : Nat) (rk rn ma mb mc md me mf mx my : Int32) (p0 : Int32) (p1 : Int64)   : Met l yX0_keep wsX0_keep rm_X0_keep (va_Pc [.ref h0, .int p0, .long p1] (xPre dC dI h0 sz (rk, rn, ma, mb, mc, md, me, mf, mx, my))) (xQi dC dI h0 (va_A (xW h0 (rk, rn, ma, mb, mc, md, me, mf, mx, my)) sz) ((f_X0_keep rk rn p0 p1).1) ((f_X0_keep rk rn p0 p1).2.1, (f_X0_keep rk rn p0 p1).2.2, ma, mb, mc, md, me, mf, mx, my)) 0 0 (va_A (xW h0 (rk, rn, ma, mb, mc, md, me, mf, mx, my)) sz) := by
  refine x_headi (cc := cX0_keep) (maxL := 5) (ret := some .int) (by decide) rfl rfl (Nat.le_of_ble_eq_true rfl) ?_
  intro p e s m below meth c ls A hx hb hr hlocks hml hown hts hA hP hD hK htb hS hl
  have hl : lv_has ls 5 [(0, .ref h0), (1, .int p0), (2, .long p1)] := hl
  refine lv_iload_n hx hb dX0_keep_0 rfl (lv_at hl 1 rfl) ?_
  refine lv_iconst (v := 1) hx hb dX0_keep_1 (by decide) ?_
  refine lv_icmp_ne (tgt := 21) hx hb dX0_keep_2 (by decide) (fun c_1 => ?_) (fun c_1 => ?_)
  · skip
    refine lv_lload_n hx hb dX0_keep_21 rfl (lv_at hl 2 rfl) ?_
    refine pu_Si (As := [.long p1]) (rest := []) ⟨hx, hb, hml, hown, hts⟩ (cc_X0_isReal l _ (p1)) 1 gX0_keep_X0_isReal rfl rfl rfl hdS_X0_isReal ⟨Nat.le_of_ble_eq_true rfl, Nat.le_of_ble_eq_true rfl⟩ kN_ok kN_at rfl hl.1 rfl (Nat.le_of_ble_eq_true rfl) dX0_keep_22 ⟨Nat.zero_le _, Nat.zero_le _⟩ ?_
    refine lv_istore (lv' := [(4, .int (f_X0_isReal (p1))), (0, .ref h0), (1, .int p0), (2, .long p1)]) hx hb dX0_keep_25 hl (by decide) rfl (fun ls hl => ?_)
    refine lv_iload hx hb dX0_keep_27 (lv_at hl 0 rfl) ?_
    refine lv_if_ne (tgt := 35) hx hb dX0_keep_29 (by decide) (fun c_2 => ?_) (fun c_2 => ?_)
    · skip
      refine lv_aload_n hx hb dX0_keep_35 rfl (lv_at hl 1 rfl) ?_
      refine lv_iload_n hx hb dX0_keep_36 rfl (lv_at hl 2 rfl) ?_
      refine va_put (D := (dC, dI)) (ci := 0) (v := .int p0) (ty := .int) (C := RX0) (T := TX0) (N := 10) hx hb hts fi_X0_keep tyX0 tyX0_ok nmX0 hown hK hP hD hS 0 rfl rfl 0 (by decide) (hts (.fieldLink RX0 11 "FixedPlane" "resultKind" "I") (by decide +kernel)) (fun _ h9 => h9) rfl (by decide +kernel) rfl rfl (Nat.le_of_ble_eq_true rfl) dX0_keep_37 (fun H locs hP hD hS => ?_)
      have hP : va_P (dC, dI) vwCl (xW h0 (p0, rn, ma, mb, mc, md, me, mf, mx, my)) H := hP
      have hD : va_D A (xW h0 (p0, rn, ma, mb, mc, md, me, mf, mx, my)) := hD
      refine lv_aload_n hx hb dX0_keep_40 rfl (lv_at hl 1 rfl) ?_
      refine lv_lload_n hx hb dX0_keep_41 rfl (lv_at hl 3 rfl) ?_
      refine lv_l2i (v := (p1).toInt32) hx hb dX0_keep_42 rfl ?_
      refine va_put (D := (dC, dI)) (ci := 0) (v := .int (p1).toInt32) (ty := .int) (C := RX0) (T := TX0) (N := 10) hx hb hts fi_X0_keep tyX0 tyX0_ok nmX0 hown hK hP hD hS 0 rfl rfl 1 (by decide) (hts (.fieldLink RX0 59 "FixedPlane" "resultNumber" "I") (by decide +kernel)) (fun _ h9 => h9) rfl (by decide +kernel) rfl rfl (Nat.le_of_ble_eq_true rfl) dX0_keep_43 (fun H locs hP hD hS => ?_)
      have hP : va_P (dC, dI) vwCl (xW h0 (p0, (p1).toInt32, ma, mb, mc, md, me, mf, mx, my)) H := hP
      have hD : va_D A (xW h0 (p0, (p1).toInt32, ma, mb, mc, md, me, mf, mx, my)) := hD
      refine lv_iload_n hx hb dX0_keep_46 rfl (lv_at hl 2 rfl) ?_
      have hE : f_X0_keep rk rn p0 p1 = (p0, p0, (p1).toInt32) := (by rw [f_X0_keep, if_neg c_1, if_neg c_2])
      exact x_iret hx hb hr hlocks hP hD hK hS dX0_keep_47 ⟨by rw [hE], by rw [hE]⟩
    · skip
      refine lv_bipush (v := (-2)) hx hb dX0_keep_32 (by decide) ?_
      have hE : f_X0_keep rk rn p0 p1 = ((-2), rk, rn) := (by rw [f_X0_keep, if_neg c_1, if_pos c_2])
      exact x_iret hx hb hr hlocks hP hD hK hS dX0_keep_34 ⟨by rw [hE], by rw [hE]⟩
  · skip
    refine lv_lload_n hx hb dX0_keep_5 rfl (lv_at hl 2 rfl) ?_
    refine lv_lload_n hx hb dX0_keep_6 rfl (lv_at hl 2 rfl) ?_
    refine lv_l2i (v := (p1).toInt32) hx hb dX0_keep_7 rfl ?_
    refine lv_i2l (v := ((p1).toInt32).toInt64) hx hb dX0_keep_8 rfl ?_
    refine pl_ne (tgt := 17) hx hb dX0_keep_9 dX0_keep_10 (by decide) (fun c_3 => ?_) (fun c_3 => ?_)
    · skip
      refine lv_iconst (v := 0) hx hb dX0_keep_17 (by decide) ?_
      refine lv_goto (tgt := 25) hx hb dX0_keep_18 (by decide) ?_
      refine lv_istore (lv' := [(4, .int 0), (0, .ref h0), (1, .int p0), (2, .long p1)]) hx hb dX0_keep_25 hl (by decide) rfl (fun ls hl => ?_)
      refine lv_iload hx hb dX0_keep_27 (lv_at hl 0 rfl) ?_
      refine lv_if_ne (tgt := 35) hx hb dX0_keep_29 (by decide) (fun q => absurd (by decide) q) (fun _ => ?_)
      refine lv_bipush (v := (-2)) hx hb dX0_keep_32 (by decide) ?_
      have hE : f_X0_keep rk rn p0 p1 = ((-2), rk, rn) := (by rw [f_X0_keep, if_pos c_1, if_neg c_3])
      exact x_iret hx hb hr hlocks hP hD hK hS dX0_keep_34 ⟨by rw [hE], by rw [hE]⟩
    · skip
      refine lv_iconst (v := 1) hx hb dX0_keep_13 (by decide) ?_
      refine lv_goto (tgt := 25) hx hb dX0_keep_14 (by decide) ?_
      refine lv_istore (lv' := [(4, .int 1), (0, .ref h0), (1, .int p0), (2, .long p1)]) hx hb dX0_keep_25 hl (by decide) rfl (fun ls hl => ?_)
      refine lv_iload hx hb dX0_keep_27 (lv_at hl 0 rfl) ?_
      refine lv_if_ne (tgt := 35) hx hb dX0_keep_29 (by decide) (fun _ => ?_) (fun q => absurd q (by decide))
      refine lv_aload_n hx hb dX0_keep_35 rfl (lv_at hl 1 rfl) ?_
      refine lv_iload_n hx hb dX0_keep_36 rfl (lv_at hl 2 rfl) ?_
      refine va_put (D := (dC, dI)) (ci := 0) (v := .int p0) (ty := .int) (C := RX0) (T := TX0) (N := 10) hx hb hts fi_X0_keep tyX0 tyX0_ok nmX0 hown hK hP hD hS 0 rfl rfl 0 (by decide) (hts (.fieldLink RX0 11 "FixedPlane" "resultKind" "I") (by decide +kernel)) (fun _ h9 => h9) rfl (by decide +kernel) rfl rfl (Nat.le_of_ble_eq_true rfl) dX0_keep_37 (fun H locs hP hD hS => ?_)
      have hP : va_P (dC, dI) vwCl (xW h0 (p0, rn, ma, mb, mc, md, me, mf, mx, my)) H := hP
      have hD : va_D A (xW h0 (p0, rn, ma, mb, mc, md, me, mf, mx, my)) := hD
      refine lv_aload_n hx hb dX0_keep_40 rfl (lv_at hl 1 rfl) ?_
      refine lv_lload_n hx hb dX0_keep_41 rfl (lv_at hl 3 rfl) ?_
      refine lv_l2i (v := (p1).toInt32) hx hb dX0_keep_42 rfl ?_
      refine va_put (D := (dC, dI)) (ci := 0) (v := .int (p1).toInt32) (ty := .int) (C := RX0) (T := TX0) (N := 10) hx hb hts fi_X0_keep tyX0 tyX0_ok nmX0 hown hK hP hD hS 0 rfl rfl 1 (by decide) (hts (.fieldLink RX0 59 "FixedPlane" "resultNumber" "I") (by decide +kernel)) (fun _ h9 => h9) rfl (by decide +kernel) rfl rfl (Nat.le_of_ble_eq_true rfl) dX0_keep_43 (fun H locs hP hD hS => ?_)
      have hP : va_P (dC, dI) vwCl (xW h0 (p0, (p1).toInt32, ma, mb, mc, md, me, mf, mx, my)) H := hP
      have hD : va_D A (xW h0 (p0, (p1).toInt32, ma, mb, mc, md, me, mf, mx, my)) := hD
      refine lv_iload_n hx hb dX0_keep_46 rfl (lv_at hl 2 rfl) ?_
      have hE : f_X0_keep rk rn p0 p1 = (p0, p0, (p1).toInt32) := (by rw [f_X0_keep, if_pos c_1, if_pos c_3])
      exact x_iret hx hb hr hlocks hP hD hK hS dX0_keep_47 ⟨by rw [hE], by rw [hE]⟩
theorem hdV_X0_ofWholes : yX0_ofWholes.cls = RX0 ∧ yX0_ofWholes.cls ≠ "java/lang/invoke/MethodHandle" ∧ yX0_ofWholes.cls ≠ "java/lang/invoke/VarHandle" ∧ (parseMethodDescriptor yX0_ofWholes.desc).map (fun d => d.parameters.length) = some 3 := by decide +kernel
theorem fi_X0_ofWholes : ∀ w ∈ wsX00, w ∈ wsX0_ofWholes := fun _ h => List.mem_cons_of_mem _ (List.mem_append_right _ h)
def f_X0_ofWholes (rk : Int32) (rn : Int32) (p0 : Int32) (p1 : Int32) (p2 : Int32) : Int32 × Int32 × Int32 := if p0 = 0 then ((f_X0_keep (rk) (rn) (1) (((p1).toInt64 + (p2).toInt64)))) else (if p0 = 1 then ((f_X0_keep (rk) (rn) (1) (((p1).toInt64 - (p2).toInt64)))) else (if p0 = 2 then ((f_X0_keep (rk) (rn) (1) (((p1).toInt64 * (p2).toInt64)))) else (if p0 = 4 then (if p2 = 0 then (((-3), rk, rn)) else ((f_X0_keep (rk) (rn) (1) (((p1).toInt64 / (p2).toInt64))))) else (if p0 = 5 then (if p2 = 0 then (((-3), rk, rn)) else ((f_X0_keep (rk) (rn) (1) (((p1).toInt64 - (p1).toInt64 / (p2).toInt64 * (p2).toInt64))))) else (if p0 = 7 then ((f_X0_keep (rk) (rn) (1) (((p1 &&& p2)).toInt64))) else (if p0 = 8 then ((f_X0_keep (rk) (rn) (1) (((p1 ||| p2)).toInt64))) else (if p0 = 9 then ((f_X0_keep (rk) (rn) (1) (((p1 ^^^ p2)).toInt64))) else ((f_X0_keep (rk) (rn) (1) (((f_X0_shifted (p1) (p2))).toInt64))))))))))
abbrev rm_X0_ofWholes : Room := { frames := 2, cells := 0, slots := 0, locals := 77 }
set_option maxHeartbeats 4000000 in
set_option maxRecDepth 100000 in
theorem cc_X0_ofWholes (l : Launch) (dC : Nat → ClassId) (dI : Nat → Nat → Nat) (h0 sz : Nat) (rk rn ma mb mc md me mf mx my : Int32) (p0 : Int32) (p1 : Int32) (p2 : Int32)   : Met l yX0_ofWholes wsX0_ofWholes rm_X0_ofWholes (va_Pc [.ref h0, .int p0, .int p1, .int p2] (xPre dC dI h0 sz (rk, rn, ma, mb, mc, md, me, mf, mx, my))) (xQi dC dI h0 (va_A (xW h0 (rk, rn, ma, mb, mc, md, me, mf, mx, my)) sz) ((f_X0_ofWholes rk rn p0 p1 p2).1) ((f_X0_ofWholes rk rn p0 p1 p2).2.1, (f_X0_ofWholes rk rn p0 p1 p2).2.2, ma, mb, mc, md, me, mf, mx, my)) 0 0 (va_A (xW h0 (rk, rn, ma, mb, mc, md, me, mf, mx, my)) sz) := by
  refine x_headi (cc := cX0_ofWholes) (maxL := 4) (ret := some .int) (by decide) rfl rfl (Nat.le_of_ble_eq_true rfl) ?_
  intro p e s m below meth c ls A hx hb hr hlocks hml hown hts hA hP hD hK htb hS hl
  have hl : lv_has ls 4 [(0, .ref h0), (1, .int p0), (2, .int p1), (3, .int p2)] := hl
  refine lv_iload_n hx hb dX0_ofWholes_0 rfl (lv_at hl 1 rfl) ?_
  by_cases c_1 : p0 = 0
  · skip
    refine lv_tableIn (tgt := 56) (off := 55) hx hb dX0_ofWholes_1 (by rw [c_1]; decide) (by rw [c_1]; decide) (by rw [c_1]; decide) (by decide) ?_
    refine lv_aload_n hx hb dX0_ofWholes_56 rfl (lv_at hl 0 rfl) ?_
    refine lv_iconst (v := 1) hx hb dX0_ofWholes_57 (by decide) ?_
    refine lv_iload_n hx hb dX0_ofWholes_58 rfl (lv_at hl 2 rfl) ?_
    refine lv_i2l (v := (p1).toInt64) hx hb dX0_ofWholes_59 rfl ?_
    refine lv_iload_n hx hb dX0_ofWholes_60 rfl (lv_at hl 3 rfl) ?_
    refine lv_i2l (v := (p2).toInt64) hx hb dX0_ofWholes_61 rfl ?_
    refine lv_ladd hx hb dX0_ofWholes_62 ?_
    refine xc_i (As := [.int 1, .long ((p1).toInt64 + (p2).toInt64)]) (rest := []) ⟨hx, hb, hml, hown, hts⟩ (cc_X0_keep l dC dI h0 _ (rk) (rn) (ma) (mb) (mc) (md) (me) (mf) (mx) (my) (1) (((p1).toInt64 + (p2).toInt64))) 2 gX0_ofWholes_X0_keep rfl rfl rfl hdV_X0_keep ⟨Nat.le_of_ble_eq_true rfl, Nat.le_of_ble_eq_true rfl⟩ hP hD hK hS hA htb rfl hl.1 rfl (Nat.le_of_ble_eq_true rfl) dX0_ofWholes_63 ⟨Nat.zero_le _, Nat.zero_le _⟩ (fun H locs hP hD hS => ?_)
    have hP : va_P (dC, dI) vwCl (xW h0 ((f_X0_keep (rk) (rn) (1) (((p1).toInt64 + (p2).toInt64))).2.1, (f_X0_keep (rk) (rn) (1) (((p1).toInt64 + (p2).toInt64))).2.2, ma, mb, mc, md, me, mf, mx, my)) H := hP
    have hD : va_D A (xW h0 ((f_X0_keep (rk) (rn) (1) (((p1).toInt64 + (p2).toInt64))).2.1, (f_X0_keep (rk) (rn) (1) (((p1).toInt64 + (p2).toInt64))).2.2, ma, mb, mc, md, me, mf, mx, my)) := hD
    have hE : f_X0_ofWholes rk rn p0 p1 p2 = (f_X0_keep (rk) (rn) (1) (((p1).toInt64 + (p2).toInt64))) := (by rw [f_X0_ofWholes, if_pos c_1])
    exact x_iret hx hb hr hlocks hP hD hK hS dX0_ofWholes_66 ⟨by rw [hE], by rw [hE]⟩
  by_cases c_2 : p0 = 1
  · skip
    refine lv_tableIn (tgt := 67) (off := 66) hx hb dX0_ofWholes_1 (by rw [c_2]; decide) (by rw [c_2]; decide) (by rw [c_2]; decide) (by decide) ?_
    refine lv_aload_n hx hb dX0_ofWholes_67 rfl (lv_at hl 0 rfl) ?_
    refine lv_iconst (v := 1) hx hb dX0_ofWholes_68 (by decide) ?_
    refine lv_iload_n hx hb dX0_ofWholes_69 rfl (lv_at hl 2 rfl) ?_
    refine lv_i2l (v := (p1).toInt64) hx hb dX0_ofWholes_70 rfl ?_
    refine lv_iload_n hx hb dX0_ofWholes_71 rfl (lv_at hl 3 rfl) ?_
    refine lv_i2l (v := (p2).toInt64) hx hb dX0_ofWholes_72 rfl ?_
    refine lv_lsub hx hb dX0_ofWholes_73 ?_
    refine xc_i (As := [.int 1, .long ((p1).toInt64 - (p2).toInt64)]) (rest := []) ⟨hx, hb, hml, hown, hts⟩ (cc_X0_keep l dC dI h0 _ (rk) (rn) (ma) (mb) (mc) (md) (me) (mf) (mx) (my) (1) (((p1).toInt64 - (p2).toInt64))) 2 gX0_ofWholes_X0_keep rfl rfl rfl hdV_X0_keep ⟨Nat.le_of_ble_eq_true rfl, Nat.le_of_ble_eq_true rfl⟩ hP hD hK hS hA htb rfl hl.1 rfl (Nat.le_of_ble_eq_true rfl) dX0_ofWholes_74 ⟨Nat.zero_le _, Nat.zero_le _⟩ (fun H locs hP hD hS => ?_)
    have hP : va_P (dC, dI) vwCl (xW h0 ((f_X0_keep (rk) (rn) (1) (((p1).toInt64 - (p2).toInt64))).2.1, (f_X0_keep (rk) (rn) (1) (((p1).toInt64 - (p2).toInt64))).2.2, ma, mb, mc, md, me, mf, mx, my)) H := hP
    have hD : va_D A (xW h0 ((f_X0_keep (rk) (rn) (1) (((p1).toInt64 - (p2).toInt64))).2.1, (f_X0_keep (rk) (rn) (1) (((p1).toInt64 - (p2).toInt64))).2.2, ma, mb, mc, md, me, mf, mx, my)) := hD
    have hE : f_X0_ofWholes rk rn p0 p1 p2 = (f_X0_keep (rk) (rn) (1) (((p1).toInt64 - (p2).toInt64))) := (by rw [f_X0_ofWholes, if_neg c_1, if_pos c_2])
    exact x_iret hx hb hr hlocks hP hD hK hS dX0_ofWholes_77 ⟨by rw [hE], by rw [hE]⟩
  by_cases c_3 : p0 = 2
  · skip
    refine lv_tableIn (tgt := 78) (off := 77) hx hb dX0_ofWholes_1 (by rw [c_3]; decide) (by rw [c_3]; decide) (by rw [c_3]; decide) (by decide) ?_
    refine lv_aload_n hx hb dX0_ofWholes_78 rfl (lv_at hl 0 rfl) ?_
    refine lv_iconst (v := 1) hx hb dX0_ofWholes_79 (by decide) ?_
    refine lv_iload_n hx hb dX0_ofWholes_80 rfl (lv_at hl 2 rfl) ?_
    refine lv_i2l (v := (p1).toInt64) hx hb dX0_ofWholes_81 rfl ?_
    refine lv_iload_n hx hb dX0_ofWholes_82 rfl (lv_at hl 3 rfl) ?_
    refine lv_i2l (v := (p2).toInt64) hx hb dX0_ofWholes_83 rfl ?_
    refine lv_lmul hx hb dX0_ofWholes_84 ?_
    refine xc_i (As := [.int 1, .long ((p1).toInt64 * (p2).toInt64)]) (rest := []) ⟨hx, hb, hml, hown, hts⟩ (cc_X0_keep l dC dI h0 _ (rk) (rn) (ma) (mb) (mc) (md) (me) (mf) (mx) (my) (1) (((p1).toInt64 * (p2).toInt64))) 2 gX0_ofWholes_X0_keep rfl rfl rfl hdV_X0_keep ⟨Nat.le_of_ble_eq_true rfl, Nat.le_of_ble_eq_true rfl⟩ hP hD hK hS hA htb rfl hl.1 rfl (Nat.le_of_ble_eq_true rfl) dX0_ofWholes_85 ⟨Nat.zero_le _, Nat.zero_le _⟩ (fun H locs hP hD hS => ?_)
    have hP : va_P (dC, dI) vwCl (xW h0 ((f_X0_keep (rk) (rn) (1) (((p1).toInt64 * (p2).toInt64))).2.1, (f_X0_keep (rk) (rn) (1) (((p1).toInt64 * (p2).toInt64))).2.2, ma, mb, mc, md, me, mf, mx, my)) H := hP
    have hD : va_D A (xW h0 ((f_X0_keep (rk) (rn) (1) (((p1).toInt64 * (p2).toInt64))).2.1, (f_X0_keep (rk) (rn) (1) (((p1).toInt64 * (p2).toInt64))).2.2, ma, mb, mc, md, me, mf, mx, my)) := hD
    have hE : f_X0_ofWholes rk rn p0 p1 p2 = (f_X0_keep (rk) (rn) (1) (((p1).toInt64 * (p2).toInt64))) := (by rw [f_X0_ofWholes, if_neg c_1, if_neg c_2, if_pos c_3])
    exact x_iret hx hb hr hlocks hP hD hK hS dX0_ofWholes_88 ⟨by rw [hE], by rw [hE]⟩
  by_cases c_4 : p0 = 4
  · skip
    refine lv_tableIn (tgt := 89) (off := 88) hx hb dX0_ofWholes_1 (by rw [c_4]; decide) (by rw [c_4]; decide) (by rw [c_4]; decide) (by decide) ?_
    refine lv_iload_n hx hb dX0_ofWholes_89 rfl (lv_at hl 3 rfl) ?_
    refine lv_if_ne (tgt := 98) hx hb dX0_ofWholes_90 (by decide) (fun c_5 => ?_) (fun c_5 => ?_)
    · skip
      refine lv_aload_n hx hb dX0_ofWholes_98 rfl (lv_at hl 0 rfl) ?_
      refine lv_iconst (v := 1) hx hb dX0_ofWholes_99 (by decide) ?_
      refine lv_iload_n hx hb dX0_ofWholes_100 rfl (lv_at hl 2 rfl) ?_
      refine lv_i2l (v := (p1).toInt64) hx hb dX0_ofWholes_101 rfl ?_
      refine lv_iload_n hx hb dX0_ofWholes_102 rfl (lv_at hl 3 rfl) ?_
      refine lv_i2l (v := (p2).toInt64) hx hb dX0_ofWholes_103 rfl ?_
      refine lv_ldiv hx hb dX0_ofWholes_104 (i64_0 c_5) ?_
      refine xc_i (As := [.int 1, .long ((p1).toInt64 / (p2).toInt64)]) (rest := []) ⟨hx, hb, hml, hown, hts⟩ (cc_X0_keep l dC dI h0 _ (rk) (rn) (ma) (mb) (mc) (md) (me) (mf) (mx) (my) (1) (((p1).toInt64 / (p2).toInt64))) 2 gX0_ofWholes_X0_keep rfl rfl rfl hdV_X0_keep ⟨Nat.le_of_ble_eq_true rfl, Nat.le_of_ble_eq_true rfl⟩ hP hD hK hS hA htb rfl hl.1 rfl (Nat.le_of_ble_eq_true rfl) dX0_ofWholes_105 ⟨Nat.zero_le _, Nat.zero_le _⟩ (fun H locs hP hD hS => ?_)
      have hP : va_P (dC, dI) vwCl (xW h0 ((f_X0_keep (rk) (rn) (1) (((p1).toInt64 / (p2).toInt64))).2.1, (f_X0_keep (rk) (rn) (1) (((p1).toInt64 / (p2).toInt64))).2.2, ma, mb, mc, md, me, mf, mx, my)) H := hP
      have hD : va_D A (xW h0 ((f_X0_keep (rk) (rn) (1) (((p1).toInt64 / (p2).toInt64))).2.1, (f_X0_keep (rk) (rn) (1) (((p1).toInt64 / (p2).toInt64))).2.2, ma, mb, mc, md, me, mf, mx, my)) := hD
      have hE : f_X0_ofWholes rk rn p0 p1 p2 = (f_X0_keep (rk) (rn) (1) (((p1).toInt64 / (p2).toInt64))) := (by rw [f_X0_ofWholes, if_neg c_1, if_neg c_2, if_neg c_3, if_pos c_4, if_neg c_5])
      exact x_iret hx hb hr hlocks hP hD hK hS dX0_ofWholes_108 ⟨by rw [hE], by rw [hE]⟩
    · skip
      refine lv_bipush (v := (-3)) hx hb dX0_ofWholes_93 (by decide) ?_
      refine lv_goto (tgt := 108) hx hb dX0_ofWholes_95 (by decide) ?_
      have hE : f_X0_ofWholes rk rn p0 p1 p2 = ((-3), rk, rn) := (by rw [f_X0_ofWholes, if_neg c_1, if_neg c_2, if_neg c_3, if_pos c_4, if_pos c_5])
      exact x_iret hx hb hr hlocks hP hD hK hS dX0_ofWholes_108 ⟨by rw [hE], by rw [hE]⟩
  by_cases c_6 : p0 = 5
  · skip
    refine lv_tableIn (tgt := 109) (off := 108) hx hb dX0_ofWholes_1 (by rw [c_6]; decide) (by rw [c_6]; decide) (by rw [c_6]; decide) (by decide) ?_
    refine lv_iload_n hx hb dX0_ofWholes_109 rfl (lv_at hl 3 rfl) ?_
    refine lv_if_ne (tgt := 118) hx hb dX0_ofWholes_110 (by decide) (fun c_7 => ?_) (fun c_7 => ?_)
    · skip
      refine lv_aload_n hx hb dX0_ofWholes_118 rfl (lv_at hl 0 rfl) ?_
      refine lv_iconst (v := 1) hx hb dX0_ofWholes_119 (by decide) ?_
      refine lv_iload_n hx hb dX0_ofWholes_120 rfl (lv_at hl 2 rfl) ?_
      refine lv_i2l (v := (p1).toInt64) hx hb dX0_ofWholes_121 rfl ?_
      refine lv_iload_n hx hb dX0_ofWholes_122 rfl (lv_at hl 3 rfl) ?_
      refine lv_i2l (v := (p2).toInt64) hx hb dX0_ofWholes_123 rfl ?_
      refine lv_lrem hx hb dX0_ofWholes_124 (i64_0 c_7) ?_
      refine xc_i (As := [.int 1, .long ((p1).toInt64 - (p1).toInt64 / (p2).toInt64 * (p2).toInt64)]) (rest := []) ⟨hx, hb, hml, hown, hts⟩ (cc_X0_keep l dC dI h0 _ (rk) (rn) (ma) (mb) (mc) (md) (me) (mf) (mx) (my) (1) (((p1).toInt64 - (p1).toInt64 / (p2).toInt64 * (p2).toInt64))) 2 gX0_ofWholes_X0_keep rfl rfl rfl hdV_X0_keep ⟨Nat.le_of_ble_eq_true rfl, Nat.le_of_ble_eq_true rfl⟩ hP hD hK hS hA htb rfl hl.1 rfl (Nat.le_of_ble_eq_true rfl) dX0_ofWholes_125 ⟨Nat.zero_le _, Nat.zero_le _⟩ (fun H locs hP hD hS => ?_)
      have hP : va_P (dC, dI) vwCl (xW h0 ((f_X0_keep (rk) (rn) (1) (((p1).toInt64 - (p1).toInt64 / (p2).toInt64 * (p2).toInt64))).2.1, (f_X0_keep (rk) (rn) (1) (((p1).toInt64 - (p1).toInt64 / (p2).toInt64 * (p2).toInt64))).2.2, ma, mb, mc, md, me, mf, mx, my)) H := hP
      have hD : va_D A (xW h0 ((f_X0_keep (rk) (rn) (1) (((p1).toInt64 - (p1).toInt64 / (p2).toInt64 * (p2).toInt64))).2.1, (f_X0_keep (rk) (rn) (1) (((p1).toInt64 - (p1).toInt64 / (p2).toInt64 * (p2).toInt64))).2.2, ma, mb, mc, md, me, mf, mx, my)) := hD
      have hE : f_X0_ofWholes rk rn p0 p1 p2 = (f_X0_keep (rk) (rn) (1) (((p1).toInt64 - (p1).toInt64 / (p2).toInt64 * (p2).toInt64))) := (by rw [f_X0_ofWholes, if_neg c_1, if_neg c_2, if_neg c_3, if_neg c_4, if_pos c_6, if_neg c_7])
      exact x_iret hx hb hr hlocks hP hD hK hS dX0_ofWholes_128 ⟨by rw [hE], by rw [hE]⟩
    · skip
      refine lv_bipush (v := (-3)) hx hb dX0_ofWholes_113 (by decide) ?_
      refine lv_goto (tgt := 128) hx hb dX0_ofWholes_115 (by decide) ?_
      have hE : f_X0_ofWholes rk rn p0 p1 p2 = ((-3), rk, rn) := (by rw [f_X0_ofWholes, if_neg c_1, if_neg c_2, if_neg c_3, if_neg c_4, if_pos c_6, if_pos c_7])
      exact x_iret hx hb hr hlocks hP hD hK hS dX0_ofWholes_128 ⟨by rw [hE], by rw [hE]⟩
  by_cases c_8 : p0 = 7
  · skip
    refine lv_tableIn (tgt := 129) (off := 128) hx hb dX0_ofWholes_1 (by rw [c_8]; decide) (by rw [c_8]; decide) (by rw [c_8]; decide) (by decide) ?_
    refine lv_aload_n hx hb dX0_ofWholes_129 rfl (lv_at hl 0 rfl) ?_
    refine lv_iconst (v := 1) hx hb dX0_ofWholes_130 (by decide) ?_
    refine lv_iload_n hx hb dX0_ofWholes_131 rfl (lv_at hl 2 rfl) ?_
    refine lv_iload_n hx hb dX0_ofWholes_132 rfl (lv_at hl 3 rfl) ?_
    refine lv_iand hx hb dX0_ofWholes_133 ?_
    refine lv_i2l (v := ((p1 &&& p2)).toInt64) hx hb dX0_ofWholes_134 rfl ?_
    refine xc_i (As := [.int 1, .long ((p1 &&& p2)).toInt64]) (rest := []) ⟨hx, hb, hml, hown, hts⟩ (cc_X0_keep l dC dI h0 _ (rk) (rn) (ma) (mb) (mc) (md) (me) (mf) (mx) (my) (1) (((p1 &&& p2)).toInt64)) 2 gX0_ofWholes_X0_keep rfl rfl rfl hdV_X0_keep ⟨Nat.le_of_ble_eq_true rfl, Nat.le_of_ble_eq_true rfl⟩ hP hD hK hS hA htb rfl hl.1 rfl (Nat.le_of_ble_eq_true rfl) dX0_ofWholes_135 ⟨Nat.zero_le _, Nat.zero_le _⟩ (fun H locs hP hD hS => ?_)
    have hP : va_P (dC, dI) vwCl (xW h0 ((f_X0_keep (rk) (rn) (1) (((p1 &&& p2)).toInt64)).2.1, (f_X0_keep (rk) (rn) (1) (((p1 &&& p2)).toInt64)).2.2, ma, mb, mc, md, me, mf, mx, my)) H := hP
    have hD : va_D A (xW h0 ((f_X0_keep (rk) (rn) (1) (((p1 &&& p2)).toInt64)).2.1, (f_X0_keep (rk) (rn) (1) (((p1 &&& p2)).toInt64)).2.2, ma, mb, mc, md, me, mf, mx, my)) := hD
    have hE : f_X0_ofWholes rk rn p0 p1 p2 = (f_X0_keep (rk) (rn) (1) (((p1 &&& p2)).toInt64)) := (by rw [f_X0_ofWholes, if_neg c_1, if_neg c_2, if_neg c_3, if_neg c_4, if_neg c_6, if_pos c_8])
    exact x_iret hx hb hr hlocks hP hD hK hS dX0_ofWholes_138 ⟨by rw [hE], by rw [hE]⟩
  by_cases c_9 : p0 = 8
  · skip
    refine lv_tableIn (tgt := 139) (off := 138) hx hb dX0_ofWholes_1 (by rw [c_9]; decide) (by rw [c_9]; decide) (by rw [c_9]; decide) (by decide) ?_
    refine lv_aload_n hx hb dX0_ofWholes_139 rfl (lv_at hl 0 rfl) ?_
    refine lv_iconst (v := 1) hx hb dX0_ofWholes_140 (by decide) ?_
    refine lv_iload_n hx hb dX0_ofWholes_141 rfl (lv_at hl 2 rfl) ?_
    refine lv_iload_n hx hb dX0_ofWholes_142 rfl (lv_at hl 3 rfl) ?_
    refine lv_ior hx hb dX0_ofWholes_143 ?_
    refine lv_i2l (v := ((p1 ||| p2)).toInt64) hx hb dX0_ofWholes_144 rfl ?_
    refine xc_i (As := [.int 1, .long ((p1 ||| p2)).toInt64]) (rest := []) ⟨hx, hb, hml, hown, hts⟩ (cc_X0_keep l dC dI h0 _ (rk) (rn) (ma) (mb) (mc) (md) (me) (mf) (mx) (my) (1) (((p1 ||| p2)).toInt64)) 2 gX0_ofWholes_X0_keep rfl rfl rfl hdV_X0_keep ⟨Nat.le_of_ble_eq_true rfl, Nat.le_of_ble_eq_true rfl⟩ hP hD hK hS hA htb rfl hl.1 rfl (Nat.le_of_ble_eq_true rfl) dX0_ofWholes_145 ⟨Nat.zero_le _, Nat.zero_le _⟩ (fun H locs hP hD hS => ?_)
    have hP : va_P (dC, dI) vwCl (xW h0 ((f_X0_keep (rk) (rn) (1) (((p1 ||| p2)).toInt64)).2.1, (f_X0_keep (rk) (rn) (1) (((p1 ||| p2)).toInt64)).2.2, ma, mb, mc, md, me, mf, mx, my)) H := hP
    have hD : va_D A (xW h0 ((f_X0_keep (rk) (rn) (1) (((p1 ||| p2)).toInt64)).2.1, (f_X0_keep (rk) (rn) (1) (((p1 ||| p2)).toInt64)).2.2, ma, mb, mc, md, me, mf, mx, my)) := hD
    have hE : f_X0_ofWholes rk rn p0 p1 p2 = (f_X0_keep (rk) (rn) (1) (((p1 ||| p2)).toInt64)) := (by rw [f_X0_ofWholes, if_neg c_1, if_neg c_2, if_neg c_3, if_neg c_4, if_neg c_6, if_neg c_8, if_pos c_9])
    exact x_iret hx hb hr hlocks hP hD hK hS dX0_ofWholes_148 ⟨by rw [hE], by rw [hE]⟩
  by_cases c_10 : p0 = 9
  · skip
    refine lv_tableIn (tgt := 149) (off := 148) hx hb dX0_ofWholes_1 (by rw [c_10]; decide) (by rw [c_10]; decide) (by rw [c_10]; decide) (by decide) ?_
    refine lv_aload_n hx hb dX0_ofWholes_149 rfl (lv_at hl 0 rfl) ?_
    refine lv_iconst (v := 1) hx hb dX0_ofWholes_150 (by decide) ?_
    refine lv_iload_n hx hb dX0_ofWholes_151 rfl (lv_at hl 2 rfl) ?_
    refine lv_iload_n hx hb dX0_ofWholes_152 rfl (lv_at hl 3 rfl) ?_
    refine lv_ixor hx hb dX0_ofWholes_153 ?_
    refine lv_i2l (v := ((p1 ^^^ p2)).toInt64) hx hb dX0_ofWholes_154 rfl ?_
    refine xc_i (As := [.int 1, .long ((p1 ^^^ p2)).toInt64]) (rest := []) ⟨hx, hb, hml, hown, hts⟩ (cc_X0_keep l dC dI h0 _ (rk) (rn) (ma) (mb) (mc) (md) (me) (mf) (mx) (my) (1) (((p1 ^^^ p2)).toInt64)) 2 gX0_ofWholes_X0_keep rfl rfl rfl hdV_X0_keep ⟨Nat.le_of_ble_eq_true rfl, Nat.le_of_ble_eq_true rfl⟩ hP hD hK hS hA htb rfl hl.1 rfl (Nat.le_of_ble_eq_true rfl) dX0_ofWholes_155 ⟨Nat.zero_le _, Nat.zero_le _⟩ (fun H locs hP hD hS => ?_)
    have hP : va_P (dC, dI) vwCl (xW h0 ((f_X0_keep (rk) (rn) (1) (((p1 ^^^ p2)).toInt64)).2.1, (f_X0_keep (rk) (rn) (1) (((p1 ^^^ p2)).toInt64)).2.2, ma, mb, mc, md, me, mf, mx, my)) H := hP
    have hD : va_D A (xW h0 ((f_X0_keep (rk) (rn) (1) (((p1 ^^^ p2)).toInt64)).2.1, (f_X0_keep (rk) (rn) (1) (((p1 ^^^ p2)).toInt64)).2.2, ma, mb, mc, md, me, mf, mx, my)) := hD
    have hE : f_X0_ofWholes rk rn p0 p1 p2 = (f_X0_keep (rk) (rn) (1) (((p1 ^^^ p2)).toInt64)) := (by rw [f_X0_ofWholes, if_neg c_1, if_neg c_2, if_neg c_3, if_neg c_4, if_neg c_6, if_neg c_8, if_neg c_9, if_pos c_10])
    exact x_iret hx hb hr hlocks hP hD hK hS dX0_ofWholes_158 ⟨by rw [hE], by rw [hE]⟩
  have hsw : p0.toInt < 0 ∨ 9 < p0.toInt ∨ p0 = 3 ∨ p0 = 6 := by
    have q0 : p0.toInt ≠ 0 := fun q => c_1 (Int32.toInt_inj.mp (q.trans (by decide)))
    have q1 : p0.toInt ≠ 1 := fun q => c_2 (Int32.toInt_inj.mp (q.trans (by decide)))
    have q2 : p0.toInt ≠ 2 := fun q => c_3 (Int32.toInt_inj.mp (q.trans (by decide)))
    have q4 : p0.toInt ≠ 4 := fun q => c_4 (Int32.toInt_inj.mp (q.trans (by decide)))
    have q5 : p0.toInt ≠ 5 := fun q => c_6 (Int32.toInt_inj.mp (q.trans (by decide)))
    have q7 : p0.toInt ≠ 7 := fun q => c_8 (Int32.toInt_inj.mp (q.trans (by decide)))
    have q8 : p0.toInt ≠ 8 := fun q => c_9 (Int32.toInt_inj.mp (q.trans (by decide)))
    have q9 : p0.toInt ≠ 9 := fun q => c_10 (Int32.toInt_inj.mp (q.trans (by decide)))
    by_cases z3 : p0 = 3
    · simp [z3]
    by_cases z6 : p0 = 6
    · simp [z6]
    have w3 : p0.toInt ≠ 3 := fun q => z3 (Int32.toInt_inj.mp (q.trans (by decide)))
    have w6 : p0.toInt ≠ 6 := fun q => z6 (Int32.toInt_inj.mp (q.trans (by decide)))
    omega
  have hgo : ∀ {W1 : Prop}, W1 → W1 := fun h => h
  have hdf : W p l e (headSpec wsX0_ofWholes rm_X0_ofWholes).room s m ([.ref h0, .int p0, .int p1, .int p2] : List Value).toArray below meth c s.heap [] 0 0 (MQ below (xQi dC dI h0 A ((f_X0_ofWholes rk rn p0 p1 p2).1) ((f_X0_ofWholes rk rn p0 p1 p2).2.1, (f_X0_ofWholes rk rn p0 p1 p2).2.2, ma, mb, mc, md, me, mf, mx, my)) ([.ref h0, .int p0, .int p1, .int p2] : List Value).toArray s 0 0 A) (F0 m 159 ls []) := by
    refine lv_aload_n hx hb dX0_ofWholes_159 rfl (lv_at hl 0 rfl) ?_
    refine lv_iconst (v := 1) hx hb dX0_ofWholes_160 (by decide) ?_
    refine lv_iload_n hx hb dX0_ofWholes_161 rfl (lv_at hl 2 rfl) ?_
    refine lv_iload_n hx hb dX0_ofWholes_162 rfl (lv_at hl 3 rfl) ?_
    refine pu_Si (As := [.int p1, .int p2]) (rest := [.int 1, .ref h0]) ⟨hx, hb, hml, hown, hts⟩ (cc_X0_shifted l _ (p1) (p2)) 2 gX0_ofWholes_X0_shifted rfl rfl rfl hdS_X0_shifted ⟨Nat.le_of_ble_eq_true rfl, Nat.le_of_ble_eq_true rfl⟩ kN_ok kN_at rfl hl.1 rfl (Nat.le_of_ble_eq_true rfl) dX0_ofWholes_163 ⟨Nat.zero_le _, Nat.zero_le _⟩ ?_
    refine lv_i2l (v := ((f_X0_shifted (p1) (p2))).toInt64) hx hb dX0_ofWholes_166 rfl ?_
    refine xc_i (As := [.int 1, .long ((f_X0_shifted (p1) (p2))).toInt64]) (rest := []) ⟨hx, hb, hml, hown, hts⟩ (cc_X0_keep l dC dI h0 _ (rk) (rn) (ma) (mb) (mc) (md) (me) (mf) (mx) (my) (1) (((f_X0_shifted (p1) (p2))).toInt64)) 2 gX0_ofWholes_X0_keep rfl rfl rfl hdV_X0_keep ⟨Nat.le_of_ble_eq_true rfl, Nat.le_of_ble_eq_true rfl⟩ hP hD hK hS hA htb rfl hl.1 rfl (Nat.le_of_ble_eq_true rfl) dX0_ofWholes_167 ⟨Nat.zero_le _, Nat.zero_le _⟩ (fun H locs hP hD hS => ?_)
    have hP : va_P (dC, dI) vwCl (xW h0 ((f_X0_keep (rk) (rn) (1) (((f_X0_shifted (p1) (p2))).toInt64)).2.1, (f_X0_keep (rk) (rn) (1) (((f_X0_shifted (p1) (p2))).toInt64)).2.2, ma, mb, mc, md, me, mf, mx, my)) H := hP
    have hD : va_D A (xW h0 ((f_X0_keep (rk) (rn) (1) (((f_X0_shifted (p1) (p2))).toInt64)).2.1, (f_X0_keep (rk) (rn) (1) (((f_X0_shifted (p1) (p2))).toInt64)).2.2, ma, mb, mc, md, me, mf, mx, my)) := hD
    have hE : f_X0_ofWholes rk rn p0 p1 p2 = (f_X0_keep (rk) (rn) (1) (((f_X0_shifted (p1) (p2))).toInt64)) := (by rw [f_X0_ofWholes, if_neg c_1, if_neg c_2, if_neg c_3, if_neg c_4, if_neg c_6, if_neg c_8, if_neg c_9, if_neg c_10])
    exact x_iret hx hb hr hlocks hP hD hK hS dX0_ofWholes_170 ⟨by rw [hE], by rw [hE]⟩
  rcases hsw with hsw | hsw | hsw | hsw
  · exact lv_tableOut (tgt := 159) hx hb dX0_ofWholes_1 (Or.inl hsw) (by decide) hdf
  · exact lv_tableOut (tgt := 159) hx hb dX0_ofWholes_1 (Or.inr hsw) (by decide) hdf
  · exact lv_tableIn (tgt := 159) (off := 158) hx hb dX0_ofWholes_1 (by rw [hsw]; decide) (by rw [hsw]; decide) (by rw [hsw]; decide) (by decide) hdf
  · exact lv_tableIn (tgt := 159) (off := 158) hx hb dX0_ofWholes_1 (by rw [hsw]; decide) (by rw [hsw]; decide) (by rw [hsw]; decide) (by decide) hdf
theorem hdV_X0_ofReals : yX0_ofReals.cls = RX0 ∧ yX0_ofReals.cls ≠ "java/lang/invoke/MethodHandle" ∧ yX0_ofReals.cls ≠ "java/lang/invoke/VarHandle" ∧ (parseMethodDescriptor yX0_ofReals.desc).map (fun d => d.parameters.length) = some 3 := by decide +kernel
theorem fi_X0_ofReals : ∀ w ∈ wsX00, w ∈ wsX0_ofReals := fun _ h => List.mem_cons_of_mem _ (List.mem_append_right _ h)
def f_X0_ofReals (rk : Int32) (rn : Int32) (p0 : Int32) (p1 : Int64) (p2 : Int64) : Int32 × Int32 × Int32 := if p0 = 0 then ((f_X0_keep (rk) (rn) (2) ((p1 + p2)))) else (if p0 = 1 then ((f_X0_keep (rk) (rn) (2) ((p1 - p2)))) else (if p0 = 2 then ((f_X0_keep (rk) (rn) (2) ((f_X0_withoutPlaces ((p1 * p2)))))) else (if p0 = 3 then (if p2 = 0 then (((-3), rk, rn)) else ((f_X0_keep (rk) (rn) (2) ((f_X0_quotient (p1) (p2)))))) else (if p1 = 0 then (if p2 = 0 then (((-3), rk, rn)) else ((f_X0_keep (rk) (rn) (2) ((f_X0_angle (p2) (p1)))))) else ((f_X0_keep (rk) (rn) (2) ((f_X0_angle (p2) (p1)))))))))
abbrev rm_X0_ofReals : Room := { frames := 5, cells := 0, slots := 0, locals := 213 }
set_option maxHeartbeats 4000000 in
set_option maxRecDepth 100000 in
theorem cc_X0_ofReals (l : Launch) (dC : Nat → ClassId) (dI : Nat → Nat → Nat) (h0 sz : Nat) (rk rn ma mb mc md me mf mx my : Int32) (p0 : Int32) (p1 : Int64) (p2 : Int64)   : Met l yX0_ofReals wsX0_ofReals rm_X0_ofReals (va_Pc [.ref h0, .int p0, .long p1, .long p2] (xPre dC dI h0 sz (rk, rn, ma, mb, mc, md, me, mf, mx, my))) (xQi dC dI h0 (va_A (xW h0 (rk, rn, ma, mb, mc, md, me, mf, mx, my)) sz) ((f_X0_ofReals rk rn p0 p1 p2).1) ((f_X0_ofReals rk rn p0 p1 p2).2.1, (f_X0_ofReals rk rn p0 p1 p2).2.2, ma, mb, mc, md, me, mf, mx, my)) 0 0 (va_A (xW h0 (rk, rn, ma, mb, mc, md, me, mf, mx, my)) sz) := by
  refine x_headi (cc := cX0_ofReals) (maxL := 6) (ret := some .int) (by decide) rfl rfl (Nat.le_of_ble_eq_true rfl) ?_
  intro p e s m below meth c ls A hx hb hr hlocks hml hown hts hA hP hD hK htb hS hl
  have hl : lv_has ls 6 [(0, .ref h0), (1, .int p0), (2, .long p1), (4, .long p2)] := hl
  refine lv_iload_n hx hb dX0_ofReals_0 rfl (lv_at hl 1 rfl) ?_
  by_cases c_1 : p0 = 0
  · skip
    refine lv_tableIn (tgt := 32) (off := 31) hx hb dX0_ofReals_1 (by rw [c_1]; decide) (by rw [c_1]; decide) (by rw [c_1]; decide) (by decide) ?_
    refine lv_aload_n hx hb dX0_ofReals_32 rfl (lv_at hl 0 rfl) ?_
    refine lv_iconst (v := 2) hx hb dX0_ofReals_33 (by decide) ?_
    refine lv_lload_n hx hb dX0_ofReals_34 rfl (lv_at hl 2 rfl) ?_
    refine lv_lload hx hb dX0_ofReals_35 (lv_at hl 3 rfl) ?_
    refine lv_ladd hx hb dX0_ofReals_37 ?_
    refine xc_i (As := [.int 2, .long (p1 + p2)]) (rest := []) ⟨hx, hb, hml, hown, hts⟩ (cc_X0_keep l dC dI h0 _ (rk) (rn) (ma) (mb) (mc) (md) (me) (mf) (mx) (my) (2) ((p1 + p2))) 2 gX0_ofReals_X0_keep rfl rfl rfl hdV_X0_keep ⟨Nat.le_of_ble_eq_true rfl, Nat.le_of_ble_eq_true rfl⟩ hP hD hK hS hA htb rfl hl.1 rfl (Nat.le_of_ble_eq_true rfl) dX0_ofReals_38 ⟨Nat.zero_le _, Nat.zero_le _⟩ (fun H locs hP hD hS => ?_)
    have hP : va_P (dC, dI) vwCl (xW h0 ((f_X0_keep (rk) (rn) (2) ((p1 + p2))).2.1, (f_X0_keep (rk) (rn) (2) ((p1 + p2))).2.2, ma, mb, mc, md, me, mf, mx, my)) H := hP
    have hD : va_D A (xW h0 ((f_X0_keep (rk) (rn) (2) ((p1 + p2))).2.1, (f_X0_keep (rk) (rn) (2) ((p1 + p2))).2.2, ma, mb, mc, md, me, mf, mx, my)) := hD
    have hE : f_X0_ofReals rk rn p0 p1 p2 = (f_X0_keep (rk) (rn) (2) ((p1 + p2))) := (by rw [f_X0_ofReals, if_pos c_1])
    exact x_iret hx hb hr hlocks hP hD hK hS dX0_ofReals_41 ⟨by rw [hE], by rw [hE]⟩
  by_cases c_2 : p0 = 1
  · skip
    refine lv_tableIn (tgt := 42) (off := 41) hx hb dX0_ofReals_1 (by rw [c_2]; decide) (by rw [c_2]; decide) (by rw [c_2]; decide) (by decide) ?_
    refine lv_aload_n hx hb dX0_ofReals_42 rfl (lv_at hl 0 rfl) ?_
    refine lv_iconst (v := 2) hx hb dX0_ofReals_43 (by decide) ?_
    refine lv_lload_n hx hb dX0_ofReals_44 rfl (lv_at hl 2 rfl) ?_
    refine lv_lload hx hb dX0_ofReals_45 (lv_at hl 3 rfl) ?_
    refine lv_lsub hx hb dX0_ofReals_47 ?_
    refine xc_i (As := [.int 2, .long (p1 - p2)]) (rest := []) ⟨hx, hb, hml, hown, hts⟩ (cc_X0_keep l dC dI h0 _ (rk) (rn) (ma) (mb) (mc) (md) (me) (mf) (mx) (my) (2) ((p1 - p2))) 2 gX0_ofReals_X0_keep rfl rfl rfl hdV_X0_keep ⟨Nat.le_of_ble_eq_true rfl, Nat.le_of_ble_eq_true rfl⟩ hP hD hK hS hA htb rfl hl.1 rfl (Nat.le_of_ble_eq_true rfl) dX0_ofReals_48 ⟨Nat.zero_le _, Nat.zero_le _⟩ (fun H locs hP hD hS => ?_)
    have hP : va_P (dC, dI) vwCl (xW h0 ((f_X0_keep (rk) (rn) (2) ((p1 - p2))).2.1, (f_X0_keep (rk) (rn) (2) ((p1 - p2))).2.2, ma, mb, mc, md, me, mf, mx, my)) H := hP
    have hD : va_D A (xW h0 ((f_X0_keep (rk) (rn) (2) ((p1 - p2))).2.1, (f_X0_keep (rk) (rn) (2) ((p1 - p2))).2.2, ma, mb, mc, md, me, mf, mx, my)) := hD
    have hE : f_X0_ofReals rk rn p0 p1 p2 = (f_X0_keep (rk) (rn) (2) ((p1 - p2))) := (by rw [f_X0_ofReals, if_neg c_1, if_pos c_2])
    exact x_iret hx hb hr hlocks hP hD hK hS dX0_ofReals_51 ⟨by rw [hE], by rw [hE]⟩
  by_cases c_3 : p0 = 2
  · skip
    refine lv_tableIn (tgt := 52) (off := 51) hx hb dX0_ofReals_1 (by rw [c_3]; decide) (by rw [c_3]; decide) (by rw [c_3]; decide) (by decide) ?_
    refine lv_aload_n hx hb dX0_ofReals_52 rfl (lv_at hl 0 rfl) ?_
    refine lv_iconst (v := 2) hx hb dX0_ofReals_53 (by decide) ?_
    refine lv_lload_n hx hb dX0_ofReals_54 rfl (lv_at hl 2 rfl) ?_
    refine lv_lload hx hb dX0_ofReals_55 (lv_at hl 3 rfl) ?_
    refine lv_lmul hx hb dX0_ofReals_57 ?_
    refine pu_Sl (As := [.long (p1 * p2)]) (rest := [.int 2, .ref h0]) ⟨hx, hb, hml, hown, hts⟩ (cc_X0_withoutPlaces l _ ((p1 * p2))) 1 gX0_ofReals_X0_withoutPlaces rfl rfl rfl hdS_X0_withoutPlaces ⟨Nat.le_of_ble_eq_true rfl, Nat.le_of_ble_eq_true rfl⟩ kN_ok kN_at rfl hl.1 rfl (Nat.le_of_ble_eq_true rfl) dX0_ofReals_58 ⟨Nat.zero_le _, Nat.zero_le _⟩ ?_
    refine xc_i (As := [.int 2, .long (f_X0_withoutPlaces ((p1 * p2)))]) (rest := []) ⟨hx, hb, hml, hown, hts⟩ (cc_X0_keep l dC dI h0 _ (rk) (rn) (ma) (mb) (mc) (md) (me) (mf) (mx) (my) (2) ((f_X0_withoutPlaces ((p1 * p2))))) 2 gX0_ofReals_X0_keep rfl rfl rfl hdV_X0_keep ⟨Nat.le_of_ble_eq_true rfl, Nat.le_of_ble_eq_true rfl⟩ hP hD hK hS hA htb rfl hl.1 rfl (Nat.le_of_ble_eq_true rfl) dX0_ofReals_61 ⟨Nat.zero_le _, Nat.zero_le _⟩ (fun H locs hP hD hS => ?_)
    have hP : va_P (dC, dI) vwCl (xW h0 ((f_X0_keep (rk) (rn) (2) ((f_X0_withoutPlaces ((p1 * p2))))).2.1, (f_X0_keep (rk) (rn) (2) ((f_X0_withoutPlaces ((p1 * p2))))).2.2, ma, mb, mc, md, me, mf, mx, my)) H := hP
    have hD : va_D A (xW h0 ((f_X0_keep (rk) (rn) (2) ((f_X0_withoutPlaces ((p1 * p2))))).2.1, (f_X0_keep (rk) (rn) (2) ((f_X0_withoutPlaces ((p1 * p2))))).2.2, ma, mb, mc, md, me, mf, mx, my)) := hD
    have hE : f_X0_ofReals rk rn p0 p1 p2 = (f_X0_keep (rk) (rn) (2) ((f_X0_withoutPlaces ((p1 * p2))))) := (by rw [f_X0_ofReals, if_neg c_1, if_neg c_2, if_pos c_3])
    exact x_iret hx hb hr hlocks hP hD hK hS dX0_ofReals_64 ⟨by rw [hE], by rw [hE]⟩
  by_cases c_4 : p0 = 3
  · skip
    refine lv_tableIn (tgt := 65) (off := 64) hx hb dX0_ofReals_1 (by rw [c_4]; decide) (by rw [c_4]; decide) (by rw [c_4]; decide) (by decide) ?_
    refine lv_lload hx hb dX0_ofReals_65 (lv_at hl 3 rfl) ?_
    refine lv_lconst (v := 0) hx hb dX0_ofReals_67 (by decide) ?_
    refine pl_ne (tgt := 77) hx hb dX0_ofReals_68 dX0_ofReals_69 (by decide) (fun c_5 => ?_) (fun c_5 => ?_)
    · skip
      refine lv_aload_n hx hb dX0_ofReals_77 rfl (lv_at hl 0 rfl) ?_
      refine lv_iconst (v := 2) hx hb dX0_ofReals_78 (by decide) ?_
      refine lv_lload_n hx hb dX0_ofReals_79 rfl (lv_at hl 2 rfl) ?_
      refine lv_lload hx hb dX0_ofReals_80 (lv_at hl 3 rfl) ?_
      refine pu_Sl (As := [.long p1, .long p2]) (rest := [.int 2, .ref h0]) ⟨hx, hb, hml, hown, hts⟩ (cc_X0_quotient l _ (p1) (p2) (c_5)) 2 gX0_ofReals_X0_quotient rfl rfl rfl hdS_X0_quotient ⟨Nat.le_of_ble_eq_true rfl, Nat.le_of_ble_eq_true rfl⟩ kN_ok kN_at rfl hl.1 rfl (Nat.le_of_ble_eq_true rfl) dX0_ofReals_82 ⟨Nat.zero_le _, Nat.zero_le _⟩ ?_
      refine xc_i (As := [.int 2, .long (f_X0_quotient (p1) (p2))]) (rest := []) ⟨hx, hb, hml, hown, hts⟩ (cc_X0_keep l dC dI h0 _ (rk) (rn) (ma) (mb) (mc) (md) (me) (mf) (mx) (my) (2) ((f_X0_quotient (p1) (p2)))) 2 gX0_ofReals_X0_keep rfl rfl rfl hdV_X0_keep ⟨Nat.le_of_ble_eq_true rfl, Nat.le_of_ble_eq_true rfl⟩ hP hD hK hS hA htb rfl hl.1 rfl (Nat.le_of_ble_eq_true rfl) dX0_ofReals_85 ⟨Nat.zero_le _, Nat.zero_le _⟩ (fun H locs hP hD hS => ?_)
      have hP : va_P (dC, dI) vwCl (xW h0 ((f_X0_keep (rk) (rn) (2) ((f_X0_quotient (p1) (p2)))).2.1, (f_X0_keep (rk) (rn) (2) ((f_X0_quotient (p1) (p2)))).2.2, ma, mb, mc, md, me, mf, mx, my)) H := hP
      have hD : va_D A (xW h0 ((f_X0_keep (rk) (rn) (2) ((f_X0_quotient (p1) (p2)))).2.1, (f_X0_keep (rk) (rn) (2) ((f_X0_quotient (p1) (p2)))).2.2, ma, mb, mc, md, me, mf, mx, my)) := hD
      have hE : f_X0_ofReals rk rn p0 p1 p2 = (f_X0_keep (rk) (rn) (2) ((f_X0_quotient (p1) (p2)))) := (by rw [f_X0_ofReals, if_neg c_1, if_neg c_2, if_neg c_3, if_pos c_4, if_neg c_5])
      exact x_iret hx hb hr hlocks hP hD hK hS dX0_ofReals_88 ⟨by rw [hE], by rw [hE]⟩
    · skip
      refine lv_bipush (v := (-3)) hx hb dX0_ofReals_72 (by decide) ?_
      refine lv_goto (tgt := 88) hx hb dX0_ofReals_74 (by decide) ?_
      have hE : f_X0_ofReals rk rn p0 p1 p2 = ((-3), rk, rn) := (by rw [f_X0_ofReals, if_neg c_1, if_neg c_2, if_neg c_3, if_pos c_4, if_pos c_5])
      exact x_iret hx hb hr hlocks hP hD hK hS dX0_ofReals_88 ⟨by rw [hE], by rw [hE]⟩
  refine lv_tableOut (tgt := 89) hx hb dX0_ofReals_1 (by have q0 : p0.toInt ≠ 0 := fun q => c_1 (Int32.toInt_inj.mp (q.trans (by decide))); have q1 : p0.toInt ≠ 1 := fun q => c_2 (Int32.toInt_inj.mp (q.trans (by decide))); have q2 : p0.toInt ≠ 2 := fun q => c_3 (Int32.toInt_inj.mp (q.trans (by decide))); have q3 : p0.toInt ≠ 3 := fun q => c_4 (Int32.toInt_inj.mp (q.trans (by decide))); omega) (by decide) ?_
  refine lv_lload_n hx hb dX0_ofReals_89 rfl (lv_at hl 2 rfl) ?_
  refine lv_lconst (v := 0) hx hb dX0_ofReals_90 (by decide) ?_
  refine pl_ne (tgt := 107) hx hb dX0_ofReals_91 dX0_ofReals_92 (by decide) (fun c_6 => ?_) (fun c_6 => ?_)
  · skip
    refine lv_aload_n hx hb dX0_ofReals_107 rfl (lv_at hl 0 rfl) ?_
    refine lv_iconst (v := 2) hx hb dX0_ofReals_108 (by decide) ?_
    refine lv_lload hx hb dX0_ofReals_109 (lv_at hl 3 rfl) ?_
    refine lv_lload_n hx hb dX0_ofReals_111 rfl (lv_at hl 2 rfl) ?_
    refine pu_Sl (As := [.long p2, .long p1]) (rest := [.int 2, .ref h0]) ⟨hx, hb, hml, hown, hts⟩ (cc_X0_angle l _ (p2) (p1)) 2 gX0_ofReals_X0_angle rfl rfl rfl hdS_X0_angle ⟨Nat.le_of_ble_eq_true rfl, Nat.le_of_ble_eq_true rfl⟩ (kT_ok _) (kT_of htb hS) rfl hl.1 rfl (Nat.le_of_ble_eq_true rfl) dX0_ofReals_112 ⟨Nat.zero_le _, Nat.zero_le _⟩ ?_
    refine xc_i (As := [.int 2, .long (f_X0_angle (p2) (p1))]) (rest := []) ⟨hx, hb, hml, hown, hts⟩ (cc_X0_keep l dC dI h0 _ (rk) (rn) (ma) (mb) (mc) (md) (me) (mf) (mx) (my) (2) ((f_X0_angle (p2) (p1)))) 2 gX0_ofReals_X0_keep rfl rfl rfl hdV_X0_keep ⟨Nat.le_of_ble_eq_true rfl, Nat.le_of_ble_eq_true rfl⟩ hP hD hK hS hA htb rfl hl.1 rfl (Nat.le_of_ble_eq_true rfl) dX0_ofReals_115 ⟨Nat.zero_le _, Nat.zero_le _⟩ (fun H locs hP hD hS => ?_)
    have hP : va_P (dC, dI) vwCl (xW h0 ((f_X0_keep (rk) (rn) (2) ((f_X0_angle (p2) (p1)))).2.1, (f_X0_keep (rk) (rn) (2) ((f_X0_angle (p2) (p1)))).2.2, ma, mb, mc, md, me, mf, mx, my)) H := hP
    have hD : va_D A (xW h0 ((f_X0_keep (rk) (rn) (2) ((f_X0_angle (p2) (p1)))).2.1, (f_X0_keep (rk) (rn) (2) ((f_X0_angle (p2) (p1)))).2.2, ma, mb, mc, md, me, mf, mx, my)) := hD
    have hE : f_X0_ofReals rk rn p0 p1 p2 = (f_X0_keep (rk) (rn) (2) ((f_X0_angle (p2) (p1)))) := (by rw [f_X0_ofReals, if_neg c_1, if_neg c_2, if_neg c_3, if_neg c_4, if_neg c_6])
    exact x_iret hx hb hr hlocks hP hD hK hS dX0_ofReals_118 ⟨by rw [hE], by rw [hE]⟩
  · skip
    refine lv_lload hx hb dX0_ofReals_95 (lv_at hl 3 rfl) ?_
    refine lv_lconst (v := 0) hx hb dX0_ofReals_97 (by decide) ?_
    refine pl_ne (tgt := 107) hx hb dX0_ofReals_98 dX0_ofReals_99 (by decide) (fun c_7 => ?_) (fun c_7 => ?_)
    · skip
      refine lv_aload_n hx hb dX0_ofReals_107 rfl (lv_at hl 0 rfl) ?_
      refine lv_iconst (v := 2) hx hb dX0_ofReals_108 (by decide) ?_
      refine lv_lload hx hb dX0_ofReals_109 (lv_at hl 3 rfl) ?_
      refine lv_lload_n hx hb dX0_ofReals_111 rfl (lv_at hl 2 rfl) ?_
      refine pu_Sl (As := [.long p2, .long p1]) (rest := [.int 2, .ref h0]) ⟨hx, hb, hml, hown, hts⟩ (cc_X0_angle l _ (p2) (p1)) 2 gX0_ofReals_X0_angle rfl rfl rfl hdS_X0_angle ⟨Nat.le_of_ble_eq_true rfl, Nat.le_of_ble_eq_true rfl⟩ (kT_ok _) (kT_of htb hS) rfl hl.1 rfl (Nat.le_of_ble_eq_true rfl) dX0_ofReals_112 ⟨Nat.zero_le _, Nat.zero_le _⟩ ?_
      refine xc_i (As := [.int 2, .long (f_X0_angle (p2) (p1))]) (rest := []) ⟨hx, hb, hml, hown, hts⟩ (cc_X0_keep l dC dI h0 _ (rk) (rn) (ma) (mb) (mc) (md) (me) (mf) (mx) (my) (2) ((f_X0_angle (p2) (p1)))) 2 gX0_ofReals_X0_keep rfl rfl rfl hdV_X0_keep ⟨Nat.le_of_ble_eq_true rfl, Nat.le_of_ble_eq_true rfl⟩ hP hD hK hS hA htb rfl hl.1 rfl (Nat.le_of_ble_eq_true rfl) dX0_ofReals_115 ⟨Nat.zero_le _, Nat.zero_le _⟩ (fun H locs hP hD hS => ?_)
      have hP : va_P (dC, dI) vwCl (xW h0 ((f_X0_keep (rk) (rn) (2) ((f_X0_angle (p2) (p1)))).2.1, (f_X0_keep (rk) (rn) (2) ((f_X0_angle (p2) (p1)))).2.2, ma, mb, mc, md, me, mf, mx, my)) H := hP
      have hD : va_D A (xW h0 ((f_X0_keep (rk) (rn) (2) ((f_X0_angle (p2) (p1)))).2.1, (f_X0_keep (rk) (rn) (2) ((f_X0_angle (p2) (p1)))).2.2, ma, mb, mc, md, me, mf, mx, my)) := hD
      have hE : f_X0_ofReals rk rn p0 p1 p2 = (f_X0_keep (rk) (rn) (2) ((f_X0_angle (p2) (p1)))) := (by rw [f_X0_ofReals, if_neg c_1, if_neg c_2, if_neg c_3, if_neg c_4, if_pos c_6, if_neg c_7])
      exact x_iret hx hb hr hlocks hP hD hK hS dX0_ofReals_118 ⟨by rw [hE], by rw [hE]⟩
    · skip
      refine lv_bipush (v := (-3)) hx hb dX0_ofReals_102 (by decide) ?_
      refine lv_goto (tgt := 118) hx hb dX0_ofReals_104 (by decide) ?_
      have hE : f_X0_ofReals rk rn p0 p1 p2 = ((-3), rk, rn) := (by rw [f_X0_ofReals, if_neg c_1, if_neg c_2, if_neg c_3, if_neg c_4, if_pos c_6, if_pos c_7])
      exact x_iret hx hb hr hlocks hP hD hK hS dX0_ofReals_118 ⟨by rw [hE], by rw [hE]⟩
theorem hdV_X0_ofOne : yX0_ofOne.cls = RX0 ∧ yX0_ofOne.cls ≠ "java/lang/invoke/MethodHandle" ∧ yX0_ofOne.cls ≠ "java/lang/invoke/VarHandle" ∧ (parseMethodDescriptor yX0_ofOne.desc).map (fun d => d.parameters.length) = some 3 := by decide +kernel
theorem fi_X0_ofOne : ∀ w ∈ wsX00, w ∈ wsX0_ofOne := fun _ h => List.mem_cons_of_mem _ (List.mem_append_right _ h)
def f_X0_ofOne (rk : Int32) (rn : Int32) (p0 : Int32) (p1 : Int32) (p2 : Int32) : Int32 × Int32 × Int32 := if p0 = 0 then ((f_X0_keep (rk) (rn) (p1) ((-(p2).toInt64)))) else (if p0 = 1 then ((f_X0_keep (rk) (rn) (p1) ((if 0 < (p2).toInt64 then (p2).toInt64 else -(p2).toInt64)))) else (if p0 = 9 then (if p1 = 1 then ((f_X0_keep (rk) (rn) (1) ((p2).toInt64))) else ((f_X0_keep (rk) (rn) (1) (((p2 / 65536)).toInt64)))) else (if p1 = 1 then ((f_X0_keep (rk) (rn) (p1) ((p2).toInt64))) else ((f_X0_keep (rk) (rn) (p1) ((f_X0_cut (p0) ((p2).toInt64))))))))
abbrev rm_X0_ofOne : Room := { frames := 2, cells := 0, slots := 0, locals := 77 }
set_option maxHeartbeats 4000000 in
set_option maxRecDepth 100000 in
theorem cc_X0_ofOne (l : Launch) (dC : Nat → ClassId) (dI : Nat → Nat → Nat) (h0 sz : Nat) (rk rn ma mb mc md me mf mx my : Int32) (p0 : Int32) (p1 : Int32) (p2 : Int32)   : Met l yX0_ofOne wsX0_ofOne rm_X0_ofOne (va_Pc [.ref h0, .int p0, .int p1, .int p2] (xPre dC dI h0 sz (rk, rn, ma, mb, mc, md, me, mf, mx, my))) (xQi dC dI h0 (va_A (xW h0 (rk, rn, ma, mb, mc, md, me, mf, mx, my)) sz) ((f_X0_ofOne rk rn p0 p1 p2).1) ((f_X0_ofOne rk rn p0 p1 p2).2.1, (f_X0_ofOne rk rn p0 p1 p2).2.2, ma, mb, mc, md, me, mf, mx, my)) 0 0 (va_A (xW h0 (rk, rn, ma, mb, mc, md, me, mf, mx, my)) sz) := by
  refine x_headi (cc := cX0_ofOne) (maxL := 4) (ret := some .int) (by decide) rfl rfl (Nat.le_of_ble_eq_true rfl) ?_
  intro p e s m below meth c ls A hx hb hr hlocks hml hown hts hA hP hD hK htb hS hl
  have hl : lv_has ls 4 [(0, .ref h0), (1, .int p0), (2, .int p1), (3, .int p2)] := hl
  refine lv_iload_n hx hb dX0_ofOne_0 rfl (lv_at hl 1 rfl) ?_
  by_cases c_1 : p0 = 0
  · skip
    refine lv_lookup (tgt := 36) (off := 35) hx hb dX0_ofOne_1 (by decide) (by rw [c_1]; decide) (by decide) ?_
    refine lv_aload_n hx hb dX0_ofOne_36 rfl (lv_at hl 0 rfl) ?_
    refine lv_iload_n hx hb dX0_ofOne_37 rfl (lv_at hl 2 rfl) ?_
    refine lv_iload_n hx hb dX0_ofOne_38 rfl (lv_at hl 3 rfl) ?_
    refine lv_i2l (v := (p2).toInt64) hx hb dX0_ofOne_39 rfl ?_
    refine lv_lneg hx hb dX0_ofOne_40 ?_
    refine xc_i (As := [.int p1, .long (-(p2).toInt64)]) (rest := []) ⟨hx, hb, hml, hown, hts⟩ (cc_X0_keep l dC dI h0 _ (rk) (rn) (ma) (mb) (mc) (md) (me) (mf) (mx) (my) (p1) ((-(p2).toInt64))) 2 gX0_ofOne_X0_keep rfl rfl rfl hdV_X0_keep ⟨Nat.le_of_ble_eq_true rfl, Nat.le_of_ble_eq_true rfl⟩ hP hD hK hS hA htb rfl hl.1 rfl (Nat.le_of_ble_eq_true rfl) dX0_ofOne_41 ⟨Nat.zero_le _, Nat.zero_le _⟩ (fun H locs hP hD hS => ?_)
    have hP : va_P (dC, dI) vwCl (xW h0 ((f_X0_keep (rk) (rn) (p1) ((-(p2).toInt64))).2.1, (f_X0_keep (rk) (rn) (p1) ((-(p2).toInt64))).2.2, ma, mb, mc, md, me, mf, mx, my)) H := hP
    have hD : va_D A (xW h0 ((f_X0_keep (rk) (rn) (p1) ((-(p2).toInt64))).2.1, (f_X0_keep (rk) (rn) (p1) ((-(p2).toInt64))).2.2, ma, mb, mc, md, me, mf, mx, my)) := hD
    have hE : f_X0_ofOne rk rn p0 p1 p2 = (f_X0_keep (rk) (rn) (p1) ((-(p2).toInt64))) := (by rw [f_X0_ofOne, if_pos c_1])
    exact x_iret hx hb hr hlocks hP hD hK hS dX0_ofOne_44 ⟨by rw [hE], by rw [hE]⟩
  by_cases c_2 : p0 = 1
  · skip
    refine lv_lookup (tgt := 45) (off := 44) hx hb dX0_ofOne_1 (by decide) (by rw [c_2]; decide) (by decide) ?_
    refine lv_aload_n hx hb dX0_ofOne_45 rfl (lv_at hl 0 rfl) ?_
    refine lv_iload_n hx hb dX0_ofOne_46 rfl (lv_at hl 2 rfl) ?_
    refine lv_iload_n hx hb dX0_ofOne_47 rfl (lv_at hl 3 rfl) ?_
    refine lv_i2l (v := (p2).toInt64) hx hb dX0_ofOne_48 rfl ?_
    refine va_mabs_long (own := RX0) hx hb (hml.trans hl.1.symm) hown (hts (.methodLink RX0 118 Lib.MathLoose.abs_long.x) (by decide +kernel)) (hts (.static Lib.MathLoose.abs_long.x) (by decide +kernel)) (hts (.initialized "java/lang/Math") (by decide +kernel)) (hts (.code Lib.MathLoose.abs_long.x Lib.MathLoose.abs_long.code 2 (some .long)) (by decide +kernel)) (Nat.le_of_ble_eq_true rfl) (Nat.le_of_ble_eq_true rfl) (Nat.zero_le _) (Nat.zero_le _) dX0_ofOne_49 ?_
    refine xc_i (As := [.int p1, .long (if 0 < (p2).toInt64 then (p2).toInt64 else -(p2).toInt64)]) (rest := []) ⟨hx, hb, hml, hown, hts⟩ (cc_X0_keep l dC dI h0 _ (rk) (rn) (ma) (mb) (mc) (md) (me) (mf) (mx) (my) (p1) ((if 0 < (p2).toInt64 then (p2).toInt64 else -(p2).toInt64))) 2 gX0_ofOne_X0_keep rfl rfl rfl hdV_X0_keep ⟨Nat.le_of_ble_eq_true rfl, Nat.le_of_ble_eq_true rfl⟩ hP hD hK hS hA htb rfl hl.1 rfl (Nat.le_of_ble_eq_true rfl) dX0_ofOne_52 ⟨Nat.zero_le _, Nat.zero_le _⟩ (fun H locs hP hD hS => ?_)
    have hP : va_P (dC, dI) vwCl (xW h0 ((f_X0_keep (rk) (rn) (p1) ((if 0 < (p2).toInt64 then (p2).toInt64 else -(p2).toInt64))).2.1, (f_X0_keep (rk) (rn) (p1) ((if 0 < (p2).toInt64 then (p2).toInt64 else -(p2).toInt64))).2.2, ma, mb, mc, md, me, mf, mx, my)) H := hP
    have hD : va_D A (xW h0 ((f_X0_keep (rk) (rn) (p1) ((if 0 < (p2).toInt64 then (p2).toInt64 else -(p2).toInt64))).2.1, (f_X0_keep (rk) (rn) (p1) ((if 0 < (p2).toInt64 then (p2).toInt64 else -(p2).toInt64))).2.2, ma, mb, mc, md, me, mf, mx, my)) := hD
    have hE : f_X0_ofOne rk rn p0 p1 p2 = (f_X0_keep (rk) (rn) (p1) ((if 0 < (p2).toInt64 then (p2).toInt64 else -(p2).toInt64))) := (by rw [f_X0_ofOne, if_neg c_1, if_pos c_2])
    exact x_iret hx hb hr hlocks hP hD hK hS dX0_ofOne_55 ⟨by rw [hE], by rw [hE]⟩
  by_cases c_3 : p0 = 9
  · skip
    refine lv_lookup (tgt := 56) (off := 55) hx hb dX0_ofOne_1 (by decide) (by rw [c_3]; decide) (by decide) ?_
    refine lv_aload_n hx hb dX0_ofOne_56 rfl (lv_at hl 0 rfl) ?_
    refine lv_iconst (v := 1) hx hb dX0_ofOne_57 (by decide) ?_
    refine lv_iload_n hx hb dX0_ofOne_58 rfl (lv_at hl 2 rfl) ?_
    refine lv_iconst (v := 1) hx hb dX0_ofOne_59 (by decide) ?_
    refine lv_icmp_ne (tgt := 68) hx hb dX0_ofOne_60 (by decide) (fun c_4 => ?_) (fun c_4 => ?_)
    · skip
      refine lv_iload_n hx hb dX0_ofOne_68 rfl (lv_at hl 3 rfl) ?_
      refine lv_ldc (v := 65536) hx hb hown (hts (.constant RX0 15 (65536)) (by decide +kernel)) dX0_ofOne_69 ?_
      refine lv_idiv hx hb dX0_ofOne_71 (by decide) ?_
      refine lv_i2l (v := ((p2 / 65536)).toInt64) hx hb dX0_ofOne_72 rfl ?_
      refine xc_i (As := [.int 1, .long ((p2 / 65536)).toInt64]) (rest := []) ⟨hx, hb, hml, hown, hts⟩ (cc_X0_keep l dC dI h0 _ (rk) (rn) (ma) (mb) (mc) (md) (me) (mf) (mx) (my) (1) (((p2 / 65536)).toInt64)) 2 gX0_ofOne_X0_keep rfl rfl rfl hdV_X0_keep ⟨Nat.le_of_ble_eq_true rfl, Nat.le_of_ble_eq_true rfl⟩ hP hD hK hS hA htb rfl hl.1 rfl (Nat.le_of_ble_eq_true rfl) dX0_ofOne_73 ⟨Nat.zero_le _, Nat.zero_le _⟩ (fun H locs hP hD hS => ?_)
      have hP : va_P (dC, dI) vwCl (xW h0 ((f_X0_keep (rk) (rn) (1) (((p2 / 65536)).toInt64)).2.1, (f_X0_keep (rk) (rn) (1) (((p2 / 65536)).toInt64)).2.2, ma, mb, mc, md, me, mf, mx, my)) H := hP
      have hD : va_D A (xW h0 ((f_X0_keep (rk) (rn) (1) (((p2 / 65536)).toInt64)).2.1, (f_X0_keep (rk) (rn) (1) (((p2 / 65536)).toInt64)).2.2, ma, mb, mc, md, me, mf, mx, my)) := hD
      have hE : f_X0_ofOne rk rn p0 p1 p2 = (f_X0_keep (rk) (rn) (1) (((p2 / 65536)).toInt64)) := (by rw [f_X0_ofOne, if_neg c_1, if_neg c_2, if_pos c_3, if_neg c_4])
      exact x_iret hx hb hr hlocks hP hD hK hS dX0_ofOne_76 ⟨by rw [hE], by rw [hE]⟩
    · skip
      refine lv_iload_n hx hb dX0_ofOne_63 rfl (lv_at hl 3 rfl) ?_
      refine lv_i2l (v := (p2).toInt64) hx hb dX0_ofOne_64 rfl ?_
      refine lv_goto (tgt := 73) hx hb dX0_ofOne_65 (by decide) ?_
      refine xc_i (As := [.int 1, .long (p2).toInt64]) (rest := []) ⟨hx, hb, hml, hown, hts⟩ (cc_X0_keep l dC dI h0 _ (rk) (rn) (ma) (mb) (mc) (md) (me) (mf) (mx) (my) (1) ((p2).toInt64)) 2 gX0_ofOne_X0_keep rfl rfl rfl hdV_X0_keep ⟨Nat.le_of_ble_eq_true rfl, Nat.le_of_ble_eq_true rfl⟩ hP hD hK hS hA htb rfl hl.1 rfl (Nat.le_of_ble_eq_true rfl) dX0_ofOne_73 ⟨Nat.zero_le _, Nat.zero_le _⟩ (fun H locs hP hD hS => ?_)
      have hP : va_P (dC, dI) vwCl (xW h0 ((f_X0_keep (rk) (rn) (1) ((p2).toInt64)).2.1, (f_X0_keep (rk) (rn) (1) ((p2).toInt64)).2.2, ma, mb, mc, md, me, mf, mx, my)) H := hP
      have hD : va_D A (xW h0 ((f_X0_keep (rk) (rn) (1) ((p2).toInt64)).2.1, (f_X0_keep (rk) (rn) (1) ((p2).toInt64)).2.2, ma, mb, mc, md, me, mf, mx, my)) := hD
      have hE : f_X0_ofOne rk rn p0 p1 p2 = (f_X0_keep (rk) (rn) (1) ((p2).toInt64)) := (by rw [f_X0_ofOne, if_neg c_1, if_neg c_2, if_pos c_3, if_pos c_4])
      exact x_iret hx hb hr hlocks hP hD hK hS dX0_ofOne_76 ⟨by rw [hE], by rw [hE]⟩
  refine lv_lookup (tgt := 77) (off := 76) hx hb dX0_ofOne_1 (by decide) (by show Op.lookupswitch.offset [(0, 35), (1, 44), (9, 55)] 76 p0.toInt = 76; rw [lv_osw (k := 0) c_1 (by decide), lv_osw (k := 1) c_2 (by decide), lv_osw (k := 9) c_3 (by decide)]; rfl) (by decide) ?_
  refine lv_aload_n hx hb dX0_ofOne_77 rfl (lv_at hl 0 rfl) ?_
  refine lv_iload_n hx hb dX0_ofOne_78 rfl (lv_at hl 2 rfl) ?_
  refine lv_iload_n hx hb dX0_ofOne_79 rfl (lv_at hl 2 rfl) ?_
  refine lv_iconst (v := 1) hx hb dX0_ofOne_80 (by decide) ?_
  refine lv_icmp_ne (tgt := 89) hx hb dX0_ofOne_81 (by decide) (fun c_5 => ?_) (fun c_5 => ?_)
  · skip
    refine lv_iload_n hx hb dX0_ofOne_89 rfl (lv_at hl 1 rfl) ?_
    refine lv_iload_n hx hb dX0_ofOne_90 rfl (lv_at hl 3 rfl) ?_
    refine lv_i2l (v := (p2).toInt64) hx hb dX0_ofOne_91 rfl ?_
    refine pu_Sl (As := [.int p0, .long (p2).toInt64]) (rest := [.int p1, .ref h0]) ⟨hx, hb, hml, hown, hts⟩ (cc_X0_cut l _ (p0) ((p2).toInt64)) 2 gX0_ofOne_X0_cut rfl rfl rfl hdS_X0_cut ⟨Nat.le_of_ble_eq_true rfl, Nat.le_of_ble_eq_true rfl⟩ kN_ok kN_at rfl hl.1 rfl (Nat.le_of_ble_eq_true rfl) dX0_ofOne_92 ⟨Nat.zero_le _, Nat.zero_le _⟩ ?_
    refine xc_i (As := [.int p1, .long (f_X0_cut (p0) ((p2).toInt64))]) (rest := []) ⟨hx, hb, hml, hown, hts⟩ (cc_X0_keep l dC dI h0 _ (rk) (rn) (ma) (mb) (mc) (md) (me) (mf) (mx) (my) (p1) ((f_X0_cut (p0) ((p2).toInt64)))) 2 gX0_ofOne_X0_keep rfl rfl rfl hdV_X0_keep ⟨Nat.le_of_ble_eq_true rfl, Nat.le_of_ble_eq_true rfl⟩ hP hD hK hS hA htb rfl hl.1 rfl (Nat.le_of_ble_eq_true rfl) dX0_ofOne_95 ⟨Nat.zero_le _, Nat.zero_le _⟩ (fun H locs hP hD hS => ?_)
    have hP : va_P (dC, dI) vwCl (xW h0 ((f_X0_keep (rk) (rn) (p1) ((f_X0_cut (p0) ((p2).toInt64)))).2.1, (f_X0_keep (rk) (rn) (p1) ((f_X0_cut (p0) ((p2).toInt64)))).2.2, ma, mb, mc, md, me, mf, mx, my)) H := hP
    have hD : va_D A (xW h0 ((f_X0_keep (rk) (rn) (p1) ((f_X0_cut (p0) ((p2).toInt64)))).2.1, (f_X0_keep (rk) (rn) (p1) ((f_X0_cut (p0) ((p2).toInt64)))).2.2, ma, mb, mc, md, me, mf, mx, my)) := hD
    have hE : f_X0_ofOne rk rn p0 p1 p2 = (f_X0_keep (rk) (rn) (p1) ((f_X0_cut (p0) ((p2).toInt64)))) := (by rw [f_X0_ofOne, if_neg c_1, if_neg c_2, if_neg c_3, if_neg c_5])
    exact x_iret hx hb hr hlocks hP hD hK hS dX0_ofOne_98 ⟨by rw [hE], by rw [hE]⟩
  · skip
    refine lv_iload_n hx hb dX0_ofOne_84 rfl (lv_at hl 3 rfl) ?_
    refine lv_i2l (v := (p2).toInt64) hx hb dX0_ofOne_85 rfl ?_
    refine lv_goto (tgt := 95) hx hb dX0_ofOne_86 (by decide) ?_
    refine xc_i (As := [.int p1, .long (p2).toInt64]) (rest := []) ⟨hx, hb, hml, hown, hts⟩ (cc_X0_keep l dC dI h0 _ (rk) (rn) (ma) (mb) (mc) (md) (me) (mf) (mx) (my) (p1) ((p2).toInt64)) 2 gX0_ofOne_X0_keep rfl rfl rfl hdV_X0_keep ⟨Nat.le_of_ble_eq_true rfl, Nat.le_of_ble_eq_true rfl⟩ hP hD hK hS hA htb rfl hl.1 rfl (Nat.le_of_ble_eq_true rfl) dX0_ofOne_95 ⟨Nat.zero_le _, Nat.zero_le _⟩ (fun H locs hP hD hS => ?_)
    have hP : va_P (dC, dI) vwCl (xW h0 ((f_X0_keep (rk) (rn) (p1) ((p2).toInt64)).2.1, (f_X0_keep (rk) (rn) (p1) ((p2).toInt64)).2.2, ma, mb, mc, md, me, mf, mx, my)) H := hP
    have hD : va_D A (xW h0 ((f_X0_keep (rk) (rn) (p1) ((p2).toInt64)).2.1, (f_X0_keep (rk) (rn) (p1) ((p2).toInt64)).2.2, ma, mb, mc, md, me, mf, mx, my)) := hD
    have hE : f_X0_ofOne rk rn p0 p1 p2 = (f_X0_keep (rk) (rn) (p1) ((p2).toInt64)) := (by rw [f_X0_ofOne, if_neg c_1, if_neg c_2, if_neg c_3, if_pos c_5])
    exact x_iret hx hb hr hlocks hP hD hK hS dX0_ofOne_98 ⟨by rw [hE], by rw [hE]⟩
theorem hdV_X0_ofReal : yX0_ofReal.cls = RX0 ∧ yX0_ofReal.cls ≠ "java/lang/invoke/MethodHandle" ∧ yX0_ofReal.cls ≠ "java/lang/invoke/VarHandle" ∧ (parseMethodDescriptor yX0_ofReal.desc).map (fun d => d.parameters.length) = some 2 := by decide +kernel
theorem fi_X0_ofReal : ∀ w ∈ wsX00, w ∈ wsX0_ofReal := fun _ h => List.mem_cons_of_mem _ (List.mem_append_right _ h)
def f_X0_ofReal (rk : Int32) (rn : Int32) (p0 : Int32) (p1 : Int64) : Int32 × Int32 × Int32 := if p0 = 6 then (if p1 < 0 then (((-3), rk, rn)) else ((f_X0_keep (rk) (rn) (2) ((f_X0_root (p1)))))) else (if p0 = 7 then ((f_X0_keep (rk) (rn) (2) ((f_X0_sine (p1))))) else (if p0 = 8 then ((f_X0_keep (rk) (rn) (2) ((f_X0_sine ((p1 + 5898240)))))) else ((f_X0_keep (rk) (rn) (2) (p1)))))
abbrev rm_X0_ofReal : Room := { frames := 3, cells := 0, slots := 0, locals := 120 }
set_option maxHeartbeats 4000000 in
set_option maxRecDepth 100000 in
theorem cc_X0_ofReal (l : Launch) (dC : Nat → ClassId) (dI : Nat → Nat → Nat) (h0 sz : Nat) (rk rn ma mb mc md me mf mx my : Int32) (p0 : Int32) (p1 : Int64)   : Met l yX0_ofReal wsX0_ofReal rm_X0_ofReal (va_Pc [.ref h0, .int p0, .long p1] (xPre dC dI h0 sz (rk, rn, ma, mb, mc, md, me, mf, mx, my))) (xQi dC dI h0 (va_A (xW h0 (rk, rn, ma, mb, mc, md, me, mf, mx, my)) sz) ((f_X0_ofReal rk rn p0 p1).1) ((f_X0_ofReal rk rn p0 p1).2.1, (f_X0_ofReal rk rn p0 p1).2.2, ma, mb, mc, md, me, mf, mx, my)) 0 0 (va_A (xW h0 (rk, rn, ma, mb, mc, md, me, mf, mx, my)) sz) := by
  refine x_headi (cc := cX0_ofReal) (maxL := 4) (ret := some .int) (by decide) rfl rfl (Nat.le_of_ble_eq_true rfl) ?_
  intro p e s m below meth c ls A hx hb hr hlocks hml hown hts hA hP hD hK htb hS hl
  have hl : lv_has ls 4 [(0, .ref h0), (1, .int p0), (2, .long p1)] := hl
  refine lv_iload_n hx hb dX0_ofReal_0 rfl (lv_at hl 1 rfl) ?_
  by_cases c_1 : p0 = 6
  · skip
    refine lv_tableIn (tgt := 28) (off := 27) hx hb dX0_ofReal_1 (by rw [c_1]; decide) (by rw [c_1]; decide) (by rw [c_1]; decide) (by decide) ?_
    refine lv_lload_n hx hb dX0_ofReal_28 rfl (lv_at hl 2 rfl) ?_
    refine lv_lconst (v := 0) hx hb dX0_ofReal_29 (by decide) ?_
    refine pl_ge (tgt := 39) hx hb dX0_ofReal_30 dX0_ofReal_31 (by decide) (fun c_2 => ?_) (fun c_2 => ?_)
    · skip
      refine lv_aload_n hx hb dX0_ofReal_39 rfl (lv_at hl 0 rfl) ?_
      refine lv_iconst (v := 2) hx hb dX0_ofReal_40 (by decide) ?_
      refine lv_lload_n hx hb dX0_ofReal_41 rfl (lv_at hl 2 rfl) ?_
      refine pu_Sl (As := [.long p1]) (rest := [.int 2, .ref h0]) ⟨hx, hb, hml, hown, hts⟩ (cc_X0_root l _ (p1)) 1 gX0_ofReal_X0_root rfl rfl rfl hdS_X0_root ⟨Nat.le_of_ble_eq_true rfl, Nat.le_of_ble_eq_true rfl⟩ kN_ok kN_at rfl hl.1 rfl (Nat.le_of_ble_eq_true rfl) dX0_ofReal_42 ⟨Nat.zero_le _, Nat.zero_le _⟩ ?_
      refine xc_i (As := [.int 2, .long (f_X0_root (p1))]) (rest := []) ⟨hx, hb, hml, hown, hts⟩ (cc_X0_keep l dC dI h0 _ (rk) (rn) (ma) (mb) (mc) (md) (me) (mf) (mx) (my) (2) ((f_X0_root (p1)))) 2 gX0_ofReal_X0_keep rfl rfl rfl hdV_X0_keep ⟨Nat.le_of_ble_eq_true rfl, Nat.le_of_ble_eq_true rfl⟩ hP hD hK hS hA htb rfl hl.1 rfl (Nat.le_of_ble_eq_true rfl) dX0_ofReal_45 ⟨Nat.zero_le _, Nat.zero_le _⟩ (fun H locs hP hD hS => ?_)
      have hP : va_P (dC, dI) vwCl (xW h0 ((f_X0_keep (rk) (rn) (2) ((f_X0_root (p1)))).2.1, (f_X0_keep (rk) (rn) (2) ((f_X0_root (p1)))).2.2, ma, mb, mc, md, me, mf, mx, my)) H := hP
      have hD : va_D A (xW h0 ((f_X0_keep (rk) (rn) (2) ((f_X0_root (p1)))).2.1, (f_X0_keep (rk) (rn) (2) ((f_X0_root (p1)))).2.2, ma, mb, mc, md, me, mf, mx, my)) := hD
      have hE : f_X0_ofReal rk rn p0 p1 = (f_X0_keep (rk) (rn) (2) ((f_X0_root (p1)))) := (by rw [f_X0_ofReal, if_pos c_1, if_neg c_2])
      exact x_iret hx hb hr hlocks hP hD hK hS dX0_ofReal_48 ⟨by rw [hE], by rw [hE]⟩
    · skip
      refine lv_bipush (v := (-3)) hx hb dX0_ofReal_34 (by decide) ?_
      refine lv_goto (tgt := 48) hx hb dX0_ofReal_36 (by decide) ?_
      have hE : f_X0_ofReal rk rn p0 p1 = ((-3), rk, rn) := (by rw [f_X0_ofReal, if_pos c_1, if_pos c_2])
      exact x_iret hx hb hr hlocks hP hD hK hS dX0_ofReal_48 ⟨by rw [hE], by rw [hE]⟩
  by_cases c_3 : p0 = 7
  · skip
    refine lv_tableIn (tgt := 49) (off := 48) hx hb dX0_ofReal_1 (by rw [c_3]; decide) (by rw [c_3]; decide) (by rw [c_3]; decide) (by decide) ?_
    refine lv_aload_n hx hb dX0_ofReal_49 rfl (lv_at hl 0 rfl) ?_
    refine lv_iconst (v := 2) hx hb dX0_ofReal_50 (by decide) ?_
    refine lv_lload_n hx hb dX0_ofReal_51 rfl (lv_at hl 2 rfl) ?_
    refine pu_Sl (As := [.long p1]) (rest := [.int 2, .ref h0]) ⟨hx, hb, hml, hown, hts⟩ (cc_X0_sine l _ (p1)) 1 gX0_ofReal_X0_sine rfl rfl rfl hdS_X0_sine ⟨Nat.le_of_ble_eq_true rfl, Nat.le_of_ble_eq_true rfl⟩ (kT_ok _) (kT_of htb hS) rfl hl.1 rfl (Nat.le_of_ble_eq_true rfl) dX0_ofReal_52 ⟨Nat.zero_le _, Nat.zero_le _⟩ ?_
    refine xc_i (As := [.int 2, .long (f_X0_sine (p1))]) (rest := []) ⟨hx, hb, hml, hown, hts⟩ (cc_X0_keep l dC dI h0 _ (rk) (rn) (ma) (mb) (mc) (md) (me) (mf) (mx) (my) (2) ((f_X0_sine (p1)))) 2 gX0_ofReal_X0_keep rfl rfl rfl hdV_X0_keep ⟨Nat.le_of_ble_eq_true rfl, Nat.le_of_ble_eq_true rfl⟩ hP hD hK hS hA htb rfl hl.1 rfl (Nat.le_of_ble_eq_true rfl) dX0_ofReal_55 ⟨Nat.zero_le _, Nat.zero_le _⟩ (fun H locs hP hD hS => ?_)
    have hP : va_P (dC, dI) vwCl (xW h0 ((f_X0_keep (rk) (rn) (2) ((f_X0_sine (p1)))).2.1, (f_X0_keep (rk) (rn) (2) ((f_X0_sine (p1)))).2.2, ma, mb, mc, md, me, mf, mx, my)) H := hP
    have hD : va_D A (xW h0 ((f_X0_keep (rk) (rn) (2) ((f_X0_sine (p1)))).2.1, (f_X0_keep (rk) (rn) (2) ((f_X0_sine (p1)))).2.2, ma, mb, mc, md, me, mf, mx, my)) := hD
    have hE : f_X0_ofReal rk rn p0 p1 = (f_X0_keep (rk) (rn) (2) ((f_X0_sine (p1)))) := (by rw [f_X0_ofReal, if_neg c_1, if_pos c_3])
    exact x_iret hx hb hr hlocks hP hD hK hS dX0_ofReal_58 ⟨by rw [hE], by rw [hE]⟩
  by_cases c_4 : p0 = 8
  · skip
    refine lv_tableIn (tgt := 59) (off := 58) hx hb dX0_ofReal_1 (by rw [c_4]; decide) (by rw [c_4]; decide) (by rw [c_4]; decide) (by decide) ?_
    refine lv_aload_n hx hb dX0_ofReal_59 rfl (lv_at hl 0 rfl) ?_
    refine lv_iconst (v := 2) hx hb dX0_ofReal_60 (by decide) ?_
    refine lv_lload_n hx hb dX0_ofReal_61 rfl (lv_at hl 2 rfl) ?_
    refine lv_ldc2 (v := 5898240) hx hb hown (hts (.constantLong RX0 133 (5898240)) (by decide +kernel)) dX0_ofReal_62 ?_
    refine lv_ladd hx hb dX0_ofReal_65 ?_
    refine pu_Sl (As := [.long (p1 + 5898240)]) (rest := [.int 2, .ref h0]) ⟨hx, hb, hml, hown, hts⟩ (cc_X0_sine l _ ((p1 + 5898240))) 1 gX0_ofReal_X0_sine rfl rfl rfl hdS_X0_sine ⟨Nat.le_of_ble_eq_true rfl, Nat.le_of_ble_eq_true rfl⟩ (kT_ok _) (kT_of htb hS) rfl hl.1 rfl (Nat.le_of_ble_eq_true rfl) dX0_ofReal_66 ⟨Nat.zero_le _, Nat.zero_le _⟩ ?_
    refine xc_i (As := [.int 2, .long (f_X0_sine ((p1 + 5898240)))]) (rest := []) ⟨hx, hb, hml, hown, hts⟩ (cc_X0_keep l dC dI h0 _ (rk) (rn) (ma) (mb) (mc) (md) (me) (mf) (mx) (my) (2) ((f_X0_sine ((p1 + 5898240))))) 2 gX0_ofReal_X0_keep rfl rfl rfl hdV_X0_keep ⟨Nat.le_of_ble_eq_true rfl, Nat.le_of_ble_eq_true rfl⟩ hP hD hK hS hA htb rfl hl.1 rfl (Nat.le_of_ble_eq_true rfl) dX0_ofReal_69 ⟨Nat.zero_le _, Nat.zero_le _⟩ (fun H locs hP hD hS => ?_)
    have hP : va_P (dC, dI) vwCl (xW h0 ((f_X0_keep (rk) (rn) (2) ((f_X0_sine ((p1 + 5898240))))).2.1, (f_X0_keep (rk) (rn) (2) ((f_X0_sine ((p1 + 5898240))))).2.2, ma, mb, mc, md, me, mf, mx, my)) H := hP
    have hD : va_D A (xW h0 ((f_X0_keep (rk) (rn) (2) ((f_X0_sine ((p1 + 5898240))))).2.1, (f_X0_keep (rk) (rn) (2) ((f_X0_sine ((p1 + 5898240))))).2.2, ma, mb, mc, md, me, mf, mx, my)) := hD
    have hE : f_X0_ofReal rk rn p0 p1 = (f_X0_keep (rk) (rn) (2) ((f_X0_sine ((p1 + 5898240))))) := (by rw [f_X0_ofReal, if_neg c_1, if_neg c_3, if_pos c_4])
    exact x_iret hx hb hr hlocks hP hD hK hS dX0_ofReal_72 ⟨by rw [hE], by rw [hE]⟩
  refine lv_tableOut (tgt := 73) hx hb dX0_ofReal_1 (by have q6 : p0.toInt ≠ 6 := fun q => c_1 (Int32.toInt_inj.mp (q.trans (by decide))); have q7 : p0.toInt ≠ 7 := fun q => c_3 (Int32.toInt_inj.mp (q.trans (by decide))); have q8 : p0.toInt ≠ 8 := fun q => c_4 (Int32.toInt_inj.mp (q.trans (by decide))); omega) (by decide) ?_
  refine lv_aload_n hx hb dX0_ofReal_73 rfl (lv_at hl 0 rfl) ?_
  refine lv_iconst (v := 2) hx hb dX0_ofReal_74 (by decide) ?_
  refine lv_lload_n hx hb dX0_ofReal_75 rfl (lv_at hl 2 rfl) ?_
  refine xc_i (As := [.int 2, .long p1]) (rest := []) ⟨hx, hb, hml, hown, hts⟩ (cc_X0_keep l dC dI h0 _ (rk) (rn) (ma) (mb) (mc) (md) (me) (mf) (mx) (my) (2) (p1)) 2 gX0_ofReal_X0_keep rfl rfl rfl hdV_X0_keep ⟨Nat.le_of_ble_eq_true rfl, Nat.le_of_ble_eq_true rfl⟩ hP hD hK hS hA htb rfl hl.1 rfl (Nat.le_of_ble_eq_true rfl) dX0_ofReal_76 ⟨Nat.zero_le _, Nat.zero_le _⟩ (fun H locs hP hD hS => ?_)
  have hP : va_P (dC, dI) vwCl (xW h0 ((f_X0_keep (rk) (rn) (2) (p1)).2.1, (f_X0_keep (rk) (rn) (2) (p1)).2.2, ma, mb, mc, md, me, mf, mx, my)) H := hP
  have hD : va_D A (xW h0 ((f_X0_keep (rk) (rn) (2) (p1)).2.1, (f_X0_keep (rk) (rn) (2) (p1)).2.2, ma, mb, mc, md, me, mf, mx, my)) := hD
  have hE : f_X0_ofReal rk rn p0 p1 = (f_X0_keep (rk) (rn) (2) (p1)) := (by rw [f_X0_ofReal, if_neg c_1, if_neg c_3, if_neg c_4])
  exact x_iret hx hb hr hlocks hP hD hK hS dX0_ofReal_79 ⟨by rw [hE], by rw [hE]⟩
theorem hdV_X0_two : yX0_two.cls = RX0 ∧ yX0_two.cls ≠ "java/lang/invoke/MethodHandle" ∧ yX0_two.cls ≠ "java/lang/invoke/VarHandle" ∧ (parseMethodDescriptor yX0_two.desc).map (fun d => d.parameters.length) = some 5 := by decide +kernel
theorem fi_X0_two : ∀ w ∈ wsX00, w ∈ wsX0_two := fun _ h => List.mem_cons_of_mem _ (List.mem_append_right _ h)
def f_X0_two (rk : Int32) (rn : Int32) (p0 : Int32) (p1 : Int32) (p2 : Int32) (p3 : Int32) (p4 : Int32) : Int32 × Int32 × Int32 := if p0 < 0 then (((-1), rk, rn)) else (if 10 < p0 then (((-1), rk, rn)) else (if (f_X0_isValue (p1) (p2)) = 0 then (((-1), rk, rn)) else (if (f_X0_isValue (p3) (p4)) = 0 then (((-1), rk, rn)) else (if p1 = 1 then (if p3 = 1 then (if p0 = 3 then (if (f_X0_isReal ((f_X0_units (p1) (p2)))) = 0 then (((-2), rk, rn)) else (if (f_X0_isReal ((f_X0_units (p3) (p4)))) = 0 then (((-2), rk, rn)) else ((f_X0_ofReals (rk) (rn) (p0) ((f_X0_units (p1) (p2))) ((f_X0_units (p3) (p4))))))) else (if p0 = 6 then (if (f_X0_isReal ((f_X0_units (p1) (p2)))) = 0 then (((-2), rk, rn)) else (if (f_X0_isReal ((f_X0_units (p3) (p4)))) = 0 then (((-2), rk, rn)) else ((f_X0_ofReals (rk) (rn) (p0) ((f_X0_units (p1) (p2))) ((f_X0_units (p3) (p4))))))) else ((f_X0_ofWholes (rk) (rn) (p0) (p2) (p4))))) else (if (f_X0_isForWholesAlone (p0)) = 0 then (if (f_X0_isReal ((f_X0_units (p1) (p2)))) = 0 then (((-2), rk, rn)) else (if (f_X0_isReal ((f_X0_units (p3) (p4)))) = 0 then (((-2), rk, rn)) else ((f_X0_ofReals (rk) (rn) (p0) ((f_X0_units (p1) (p2))) ((f_X0_units (p3) (p4))))))) else (((-4), rk, rn)))) else (if (f_X0_isForWholesAlone (p0)) = 0 then (if (f_X0_isReal ((f_X0_units (p1) (p2)))) = 0 then (((-2), rk, rn)) else (if (f_X0_isReal ((f_X0_units (p3) (p4)))) = 0 then (((-2), rk, rn)) else ((f_X0_ofReals (rk) (rn) (p0) ((f_X0_units (p1) (p2))) ((f_X0_units (p3) (p4))))))) else (((-4), rk, rn)))))))
abbrev rm_X0_two : Room := { frames := 6, cells := 0, slots := 0, locals := 254 }
set_option maxHeartbeats 4000000 in
set_option maxRecDepth 100000 in
theorem cc_X0_two (l : Launch) (dC : Nat → ClassId) (dI : Nat → Nat → Nat) (h0 sz : Nat) (rk rn ma mb mc md me mf mx my : Int32) (p0 : Int32) (p1 : Int32) (p2 : Int32) (p3 : Int32) (p4 : Int32)   : Met l yX0_two wsX0_two rm_X0_two (va_Pc [.ref h0, .int p0, .int p1, .int p2, .int p3, .int p4] (xPre dC dI h0 sz (rk, rn, ma, mb, mc, md, me, mf, mx, my))) (xQi dC dI h0 (va_A (xW h0 (rk, rn, ma, mb, mc, md, me, mf, mx, my)) sz) ((f_X0_two rk rn p0 p1 p2 p3 p4).1) ((f_X0_two rk rn p0 p1 p2 p3 p4).2.1, (f_X0_two rk rn p0 p1 p2 p3 p4).2.2, ma, mb, mc, md, me, mf, mx, my)) 0 0 (va_A (xW h0 (rk, rn, ma, mb, mc, md, me, mf, mx, my)) sz) := by
  refine x_headi (cc := cX0_two) (maxL := 11) (ret := some .int) (by decide) rfl rfl (Nat.le_of_ble_eq_true rfl) ?_
  intro p e s m below meth c ls A hx hb hr hlocks hml hown hts hA hP hD hK htb hS hl
  have hl : lv_has ls 11 [(0, .ref h0), (1, .int p0), (2, .int p1), (3, .int p2), (4, .int p3), (5, .int p4)] := hl
  refine lv_iload_n hx hb dX0_two_0 rfl (lv_at hl 1 rfl) ?_
  refine lv_if_lt (tgt := 28) hx hb dX0_two_1 (by decide) (fun c_1 => ?_) (fun c_1 => ?_)
  · skip
    refine lv_iconst (v := (-1)) hx hb dX0_two_28 (by decide) ?_
    have hE : f_X0_two rk rn p0 p1 p2 p3 p4 = ((-1), rk, rn) := (by rw [f_X0_two, if_pos c_1])
    exact x_iret hx hb hr hlocks hP hD hK hS dX0_two_29 ⟨by rw [hE], by rw [hE]⟩
  · skip
    refine lv_iload_n hx hb dX0_two_4 rfl (lv_at hl 1 rfl) ?_
    refine lv_bipush (v := 10) hx hb dX0_two_5 (by decide) ?_
    refine pi_gt (tgt := 28) hx hb dX0_two_7 (by decide) (fun c_2 => ?_) (fun c_2 => ?_)
    · skip
      refine lv_iconst (v := (-1)) hx hb dX0_two_28 (by decide) ?_
      have hE : f_X0_two rk rn p0 p1 p2 p3 p4 = ((-1), rk, rn) := (by rw [f_X0_two, if_neg c_1, if_pos c_2])
      exact x_iret hx hb hr hlocks hP hD hK hS dX0_two_29 ⟨by rw [hE], by rw [hE]⟩
    · skip
      refine lv_iload_n hx hb dX0_two_10 rfl (lv_at hl 2 rfl) ?_
      refine lv_iload_n hx hb dX0_two_11 rfl (lv_at hl 3 rfl) ?_
      refine pu_Si (As := [.int p1, .int p2]) (rest := []) ⟨hx, hb, hml, hown, hts⟩ (cc_X0_isValue l _ (p1) (p2)) 2 gX0_two_X0_isValue rfl rfl rfl hdS_X0_isValue ⟨Nat.le_of_ble_eq_true rfl, Nat.le_of_ble_eq_true rfl⟩ kN_ok kN_at rfl hl.1 rfl (Nat.le_of_ble_eq_true rfl) dX0_two_12 ⟨Nat.zero_le _, Nat.zero_le _⟩ ?_
      refine lv_if_eq (tgt := 28) hx hb dX0_two_15 (by decide) (fun c_3 => ?_) (fun c_3 => ?_)
      · skip
        refine lv_iconst (v := (-1)) hx hb dX0_two_28 (by decide) ?_
        have hE : f_X0_two rk rn p0 p1 p2 p3 p4 = ((-1), rk, rn) := (by rw [f_X0_two, if_neg c_1, if_neg c_2, if_pos c_3])
        exact x_iret hx hb hr hlocks hP hD hK hS dX0_two_29 ⟨by rw [hE], by rw [hE]⟩
      · skip
        refine lv_iload hx hb dX0_two_18 (lv_at hl 4 rfl) ?_
        refine lv_iload hx hb dX0_two_20 (lv_at hl 5 rfl) ?_
        refine pu_Si (As := [.int p3, .int p4]) (rest := []) ⟨hx, hb, hml, hown, hts⟩ (cc_X0_isValue l _ (p3) (p4)) 2 gX0_two_X0_isValue rfl rfl rfl hdS_X0_isValue ⟨Nat.le_of_ble_eq_true rfl, Nat.le_of_ble_eq_true rfl⟩ kN_ok kN_at rfl hl.1 rfl (Nat.le_of_ble_eq_true rfl) dX0_two_22 ⟨Nat.zero_le _, Nat.zero_le _⟩ ?_
        refine lv_if_ne (tgt := 30) hx hb dX0_two_25 (by decide) (fun c_4 => ?_) (fun c_4 => ?_)
        · skip
          refine lv_iload_n hx hb dX0_two_30 rfl (lv_at hl 2 rfl) ?_
          refine lv_iconst (v := 1) hx hb dX0_two_31 (by decide) ?_
          refine lv_icmp_ne (tgt := 45) hx hb dX0_two_32 (by decide) (fun c_5 => ?_) (fun c_5 => ?_)
          · skip
            refine lv_iconst (v := 0) hx hb dX0_two_45 (by decide) ?_
            refine lv_istore (lv' := [(6, .int 0), (0, .ref h0), (1, .int p0), (2, .int p1), (3, .int p2), (4, .int p3), (5, .int p4)]) hx hb dX0_two_46 hl (by decide) rfl (fun ls hl => ?_)
            refine lv_iload hx hb dX0_two_48 (lv_at hl 0 rfl) ?_
            refine lv_if_ne (tgt := 63) hx hb dX0_two_50 (by decide) (fun q => absurd (by decide) q) (fun _ => ?_)
            refine lv_iload_n hx hb dX0_two_53 rfl (lv_at hl 2 rfl) ?_
            refine pu_Si (As := [.int p0]) (rest := []) ⟨hx, hb, hml, hown, hts⟩ (cc_X0_isForWholesAlone l _ (p0)) 1 gX0_two_X0_isForWholesAlone rfl rfl rfl hdS_X0_isForWholesAlone ⟨Nat.le_of_ble_eq_true rfl, Nat.le_of_ble_eq_true rfl⟩ kN_ok kN_at rfl hl.1 rfl (Nat.le_of_ble_eq_true rfl) dX0_two_54 ⟨Nat.zero_le _, Nat.zero_le _⟩ ?_
            refine lv_if_eq (tgt := 63) hx hb dX0_two_57 (by decide) (fun c_7 => ?_) (fun c_7 => ?_)
            · skip
              refine lv_iload hx hb dX0_two_63 (lv_at hl 0 rfl) ?_
              refine lv_if_eq (tgt := 88) hx hb dX0_two_65 (by decide) (fun _ => ?_) (fun q => absurd (by decide) q)
              refine lv_iload_n hx hb dX0_two_88 rfl (lv_at hl 3 rfl) ?_
              refine lv_iload_n hx hb dX0_two_89 rfl (lv_at hl 4 rfl) ?_
              refine pu_Sl (As := [.int p1, .int p2]) (rest := []) ⟨hx, hb, hml, hown, hts⟩ (cc_X0_units l _ (p1) (p2)) 2 gX0_two_X0_units rfl rfl rfl hdS_X0_units ⟨Nat.le_of_ble_eq_true rfl, Nat.le_of_ble_eq_true rfl⟩ kN_ok kN_at rfl hl.1 rfl (Nat.le_of_ble_eq_true rfl) dX0_two_90 ⟨Nat.zero_le _, Nat.zero_le _⟩ ?_
              refine lv_lstore (lv' := [(7, .long (f_X0_units (p1) (p2))), (6, .int 0), (0, .ref h0), (1, .int p0), (2, .int p1), (3, .int p2), (4, .int p3), (5, .int p4)]) hx hb dX0_two_93 hl (by decide) rfl (fun ls hl => ?_)
              refine lv_iload hx hb dX0_two_95 (lv_at hl 6 rfl) ?_
              refine lv_iload hx hb dX0_two_97 (lv_at hl 7 rfl) ?_
              refine pu_Sl (As := [.int p3, .int p4]) (rest := []) ⟨hx, hb, hml, hown, hts⟩ (cc_X0_units l _ (p3) (p4)) 2 gX0_two_X0_units rfl rfl rfl hdS_X0_units ⟨Nat.le_of_ble_eq_true rfl, Nat.le_of_ble_eq_true rfl⟩ kN_ok kN_at rfl hl.1 rfl (Nat.le_of_ble_eq_true rfl) dX0_two_99 ⟨Nat.zero_le _, Nat.zero_le _⟩ ?_
              refine lv_lstore (lv' := [(9, .long (f_X0_units (p3) (p4))), (7, .long (f_X0_units (p1) (p2))), (6, .int 0), (0, .ref h0), (1, .int p0), (2, .int p1), (3, .int p2), (4, .int p3), (5, .int p4)]) hx hb dX0_two_102 hl (by decide) rfl (fun ls hl => ?_)
              refine lv_lload hx hb dX0_two_104 (lv_at hl 1 rfl) ?_
              refine pu_Si (As := [.long (f_X0_units (p1) (p2))]) (rest := []) ⟨hx, hb, hml, hown, hts⟩ (cc_X0_isReal l _ ((f_X0_units (p1) (p2)))) 1 gX0_two_X0_isReal rfl rfl rfl hdS_X0_isReal ⟨Nat.le_of_ble_eq_true rfl, Nat.le_of_ble_eq_true rfl⟩ kN_ok kN_at rfl hl.1 rfl (Nat.le_of_ble_eq_true rfl) dX0_two_106 ⟨Nat.zero_le _, Nat.zero_le _⟩ ?_
              refine lv_if_eq (tgt := 120) hx hb dX0_two_109 (by decide) (fun c_9 => ?_) (fun c_9 => ?_)
              · skip
                refine lv_bipush (v := (-2)) hx hb dX0_two_120 (by decide) ?_
                have hE : f_X0_two rk rn p0 p1 p2 p3 p4 = ((-2), rk, rn) := (by rw [f_X0_two, if_neg c_1, if_neg c_2, if_neg c_3, if_neg c_4, if_neg c_5, if_pos c_7, if_pos c_9])
                exact x_iret hx hb hr hlocks hP hD hK hS dX0_two_122 ⟨by rw [hE], by rw [hE]⟩
              · skip
                refine lv_lload hx hb dX0_two_112 (lv_at hl 0 rfl) ?_
                refine pu_Si (As := [.long (f_X0_units (p3) (p4))]) (rest := []) ⟨hx, hb, hml, hown, hts⟩ (cc_X0_isReal l _ ((f_X0_units (p3) (p4)))) 1 gX0_two_X0_isReal rfl rfl rfl hdS_X0_isReal ⟨Nat.le_of_ble_eq_true rfl, Nat.le_of_ble_eq_true rfl⟩ kN_ok kN_at rfl hl.1 rfl (Nat.le_of_ble_eq_true rfl) dX0_two_114 ⟨Nat.zero_le _, Nat.zero_le _⟩ ?_
                refine lv_if_ne (tgt := 123) hx hb dX0_two_117 (by decide) (fun c_10 => ?_) (fun c_10 => ?_)
                · skip
                  refine lv_aload_n hx hb dX0_two_123 rfl (lv_at hl 3 rfl) ?_
                  refine lv_iload_n hx hb dX0_two_124 rfl (lv_at hl 4 rfl) ?_
                  refine lv_lload hx hb dX0_two_125 (lv_at hl 1 rfl) ?_
                  refine lv_lload hx hb dX0_two_127 (lv_at hl 0 rfl) ?_
                  refine xc_i (As := [.int p0, .long (f_X0_units (p1) (p2)), .long (f_X0_units (p3) (p4))]) (rest := []) ⟨hx, hb, hml, hown, hts⟩ (cc_X0_ofReals l dC dI h0 _ (rk) (rn) (ma) (mb) (mc) (md) (me) (mf) (mx) (my) (p0) ((f_X0_units (p1) (p2))) ((f_X0_units (p3) (p4)))) 3 gX0_two_X0_ofReals rfl rfl rfl hdV_X0_ofReals ⟨Nat.le_of_ble_eq_true rfl, Nat.le_of_ble_eq_true rfl⟩ hP hD hK hS hA htb rfl hl.1 rfl (Nat.le_of_ble_eq_true rfl) dX0_two_129 ⟨Nat.zero_le _, Nat.zero_le _⟩ (fun H locs hP hD hS => ?_)
                  have hP : va_P (dC, dI) vwCl (xW h0 ((f_X0_ofReals (rk) (rn) (p0) ((f_X0_units (p1) (p2))) ((f_X0_units (p3) (p4)))).2.1, (f_X0_ofReals (rk) (rn) (p0) ((f_X0_units (p1) (p2))) ((f_X0_units (p3) (p4)))).2.2, ma, mb, mc, md, me, mf, mx, my)) H := hP
                  have hD : va_D A (xW h0 ((f_X0_ofReals (rk) (rn) (p0) ((f_X0_units (p1) (p2))) ((f_X0_units (p3) (p4)))).2.1, (f_X0_ofReals (rk) (rn) (p0) ((f_X0_units (p1) (p2))) ((f_X0_units (p3) (p4)))).2.2, ma, mb, mc, md, me, mf, mx, my)) := hD
                  have hE : f_X0_two rk rn p0 p1 p2 p3 p4 = (f_X0_ofReals (rk) (rn) (p0) ((f_X0_units (p1) (p2))) ((f_X0_units (p3) (p4)))) := (by rw [f_X0_two, if_neg c_1, if_neg c_2, if_neg c_3, if_neg c_4, if_neg c_5, if_pos c_7, if_neg c_9, if_neg c_10])
                  exact x_iret hx hb hr hlocks hP hD hK hS dX0_two_132 ⟨by rw [hE], by rw [hE]⟩
                · skip
                  refine lv_bipush (v := (-2)) hx hb dX0_two_120 (by decide) ?_
                  have hE : f_X0_two rk rn p0 p1 p2 p3 p4 = ((-2), rk, rn) := (by rw [f_X0_two, if_neg c_1, if_neg c_2, if_neg c_3, if_neg c_4, if_neg c_5, if_pos c_7, if_neg c_9, if_pos c_10])
                  exact x_iret hx hb hr hlocks hP hD hK hS dX0_two_122 ⟨by rw [hE], by rw [hE]⟩
            · skip
              refine lv_bipush (v := (-4)) hx hb dX0_two_60 (by decide) ?_
              have hE : f_X0_two rk rn p0 p1 p2 p3 p4 = ((-4), rk, rn) := (by rw [f_X0_two, if_neg c_1, if_neg c_2, if_neg c_3, if_neg c_4, if_neg c_5, if_neg c_7])
              exact x_iret hx hb hr hlocks hP hD hK hS dX0_two_62 ⟨by rw [hE], by rw [hE]⟩
          · skip
            refine lv_iload hx hb dX0_two_35 (lv_at hl 4 rfl) ?_
            refine lv_iconst (v := 1) hx hb dX0_two_37 (by decide) ?_
            refine lv_icmp_ne (tgt := 45) hx hb dX0_two_38 (by decide) (fun c_11 => ?_) (fun c_11 => ?_)
            · skip
              refine lv_iconst (v := 0) hx hb dX0_two_45 (by decide) ?_
              refine lv_istore (lv' := [(6, .int 0), (0, .ref h0), (1, .int p0), (2, .int p1), (3, .int p2), (4, .int p3), (5, .int p4)]) hx hb dX0_two_46 hl (by decide) rfl (fun ls hl => ?_)
              refine lv_iload hx hb dX0_two_48 (lv_at hl 0 rfl) ?_
              refine lv_if_ne (tgt := 63) hx hb dX0_two_50 (by decide) (fun q => absurd (by decide) q) (fun _ => ?_)
              refine lv_iload_n hx hb dX0_two_53 rfl (lv_at hl 2 rfl) ?_
              refine pu_Si (As := [.int p0]) (rest := []) ⟨hx, hb, hml, hown, hts⟩ (cc_X0_isForWholesAlone l _ (p0)) 1 gX0_two_X0_isForWholesAlone rfl rfl rfl hdS_X0_isForWholesAlone ⟨Nat.le_of_ble_eq_true rfl, Nat.le_of_ble_eq_true rfl⟩ kN_ok kN_at rfl hl.1 rfl (Nat.le_of_ble_eq_true rfl) dX0_two_54 ⟨Nat.zero_le _, Nat.zero_le _⟩ ?_
              refine lv_if_eq (tgt := 63) hx hb dX0_two_57 (by decide) (fun c_13 => ?_) (fun c_13 => ?_)
              · skip
                refine lv_iload hx hb dX0_two_63 (lv_at hl 0 rfl) ?_
                refine lv_if_eq (tgt := 88) hx hb dX0_two_65 (by decide) (fun _ => ?_) (fun q => absurd (by decide) q)
                refine lv_iload_n hx hb dX0_two_88 rfl (lv_at hl 3 rfl) ?_
                refine lv_iload_n hx hb dX0_two_89 rfl (lv_at hl 4 rfl) ?_
                refine pu_Sl (As := [.int p1, .int p2]) (rest := []) ⟨hx, hb, hml, hown, hts⟩ (cc_X0_units l _ (p1) (p2)) 2 gX0_two_X0_units rfl rfl rfl hdS_X0_units ⟨Nat.le_of_ble_eq_true rfl, Nat.le_of_ble_eq_true rfl⟩ kN_ok kN_at rfl hl.1 rfl (Nat.le_of_ble_eq_true rfl) dX0_two_90 ⟨Nat.zero_le _, Nat.zero_le _⟩ ?_
                refine lv_lstore (lv' := [(7, .long (f_X0_units (p1) (p2))), (6, .int 0), (0, .ref h0), (1, .int p0), (2, .int p1), (3, .int p2), (4, .int p3), (5, .int p4)]) hx hb dX0_two_93 hl (by decide) rfl (fun ls hl => ?_)
                refine lv_iload hx hb dX0_two_95 (lv_at hl 6 rfl) ?_
                refine lv_iload hx hb dX0_two_97 (lv_at hl 7 rfl) ?_
                refine pu_Sl (As := [.int p3, .int p4]) (rest := []) ⟨hx, hb, hml, hown, hts⟩ (cc_X0_units l _ (p3) (p4)) 2 gX0_two_X0_units rfl rfl rfl hdS_X0_units ⟨Nat.le_of_ble_eq_true rfl, Nat.le_of_ble_eq_true rfl⟩ kN_ok kN_at rfl hl.1 rfl (Nat.le_of_ble_eq_true rfl) dX0_two_99 ⟨Nat.zero_le _, Nat.zero_le _⟩ ?_
                refine lv_lstore (lv' := [(9, .long (f_X0_units (p3) (p4))), (7, .long (f_X0_units (p1) (p2))), (6, .int 0), (0, .ref h0), (1, .int p0), (2, .int p1), (3, .int p2), (4, .int p3), (5, .int p4)]) hx hb dX0_two_102 hl (by decide) rfl (fun ls hl => ?_)
                refine lv_lload hx hb dX0_two_104 (lv_at hl 1 rfl) ?_
                refine pu_Si (As := [.long (f_X0_units (p1) (p2))]) (rest := []) ⟨hx, hb, hml, hown, hts⟩ (cc_X0_isReal l _ ((f_X0_units (p1) (p2)))) 1 gX0_two_X0_isReal rfl rfl rfl hdS_X0_isReal ⟨Nat.le_of_ble_eq_true rfl, Nat.le_of_ble_eq_true rfl⟩ kN_ok kN_at rfl hl.1 rfl (Nat.le_of_ble_eq_true rfl) dX0_two_106 ⟨Nat.zero_le _, Nat.zero_le _⟩ ?_
                refine lv_if_eq (tgt := 120) hx hb dX0_two_109 (by decide) (fun c_15 => ?_) (fun c_15 => ?_)
                · skip
                  refine lv_bipush (v := (-2)) hx hb dX0_two_120 (by decide) ?_
                  have hE : f_X0_two rk rn p0 p1 p2 p3 p4 = ((-2), rk, rn) := (by rw [f_X0_two, if_neg c_1, if_neg c_2, if_neg c_3, if_neg c_4, if_pos c_5, if_neg c_11, if_pos c_13, if_pos c_15])
                  exact x_iret hx hb hr hlocks hP hD hK hS dX0_two_122 ⟨by rw [hE], by rw [hE]⟩
                · skip
                  refine lv_lload hx hb dX0_two_112 (lv_at hl 0 rfl) ?_
                  refine pu_Si (As := [.long (f_X0_units (p3) (p4))]) (rest := []) ⟨hx, hb, hml, hown, hts⟩ (cc_X0_isReal l _ ((f_X0_units (p3) (p4)))) 1 gX0_two_X0_isReal rfl rfl rfl hdS_X0_isReal ⟨Nat.le_of_ble_eq_true rfl, Nat.le_of_ble_eq_true rfl⟩ kN_ok kN_at rfl hl.1 rfl (Nat.le_of_ble_eq_true rfl) dX0_two_114 ⟨Nat.zero_le _, Nat.zero_le _⟩ ?_
                  refine lv_if_ne (tgt := 123) hx hb dX0_two_117 (by decide) (fun c_16 => ?_) (fun c_16 => ?_)
                  · skip
                    refine lv_aload_n hx hb dX0_two_123 rfl (lv_at hl 3 rfl) ?_
                    refine lv_iload_n hx hb dX0_two_124 rfl (lv_at hl 4 rfl) ?_
                    refine lv_lload hx hb dX0_two_125 (lv_at hl 1 rfl) ?_
                    refine lv_lload hx hb dX0_two_127 (lv_at hl 0 rfl) ?_
                    refine xc_i (As := [.int p0, .long (f_X0_units (p1) (p2)), .long (f_X0_units (p3) (p4))]) (rest := []) ⟨hx, hb, hml, hown, hts⟩ (cc_X0_ofReals l dC dI h0 _ (rk) (rn) (ma) (mb) (mc) (md) (me) (mf) (mx) (my) (p0) ((f_X0_units (p1) (p2))) ((f_X0_units (p3) (p4)))) 3 gX0_two_X0_ofReals rfl rfl rfl hdV_X0_ofReals ⟨Nat.le_of_ble_eq_true rfl, Nat.le_of_ble_eq_true rfl⟩ hP hD hK hS hA htb rfl hl.1 rfl (Nat.le_of_ble_eq_true rfl) dX0_two_129 ⟨Nat.zero_le _, Nat.zero_le _⟩ (fun H locs hP hD hS => ?_)
                    have hP : va_P (dC, dI) vwCl (xW h0 ((f_X0_ofReals (rk) (rn) (p0) ((f_X0_units (p1) (p2))) ((f_X0_units (p3) (p4)))).2.1, (f_X0_ofReals (rk) (rn) (p0) ((f_X0_units (p1) (p2))) ((f_X0_units (p3) (p4)))).2.2, ma, mb, mc, md, me, mf, mx, my)) H := hP
                    have hD : va_D A (xW h0 ((f_X0_ofReals (rk) (rn) (p0) ((f_X0_units (p1) (p2))) ((f_X0_units (p3) (p4)))).2.1, (f_X0_ofReals (rk) (rn) (p0) ((f_X0_units (p1) (p2))) ((f_X0_units (p3) (p4)))).2.2, ma, mb, mc, md, me, mf, mx, my)) := hD
                    have hE : f_X0_two rk rn p0 p1 p2 p3 p4 = (f_X0_ofReals (rk) (rn) (p0) ((f_X0_units (p1) (p2))) ((f_X0_units (p3) (p4)))) := (by rw [f_X0_two, if_neg c_1, if_neg c_2, if_neg c_3, if_neg c_4, if_pos c_5, if_neg c_11, if_pos c_13, if_neg c_15, if_neg c_16])
                    exact x_iret hx hb hr hlocks hP hD hK hS dX0_two_132 ⟨by rw [hE], by rw [hE]⟩
                  · skip
                    refine lv_bipush (v := (-2)) hx hb dX0_two_120 (by decide) ?_
                    have hE : f_X0_two rk rn p0 p1 p2 p3 p4 = ((-2), rk, rn) := (by rw [f_X0_two, if_neg c_1, if_neg c_2, if_neg c_3, if_neg c_4, if_pos c_5, if_neg c_11, if_pos c_13, if_neg c_15, if_pos c_16])
                    exact x_iret hx hb hr hlocks hP hD hK hS dX0_two_122 ⟨by rw [hE], by rw [hE]⟩
              · skip
                refine lv_bipush (v := (-4)) hx hb dX0_two_60 (by decide) ?_
                have hE : f_X0_two rk rn p0 p1 p2 p3 p4 = ((-4), rk, rn) := (by rw [f_X0_two, if_neg c_1, if_neg c_2, if_neg c_3, if_neg c_4, if_pos c_5, if_neg c_11, if_neg c_13])
                exact x_iret hx hb hr hlocks hP hD hK hS dX0_two_62 ⟨by rw [hE], by rw [hE]⟩
            · skip
              refine lv_iconst (v := 1) hx hb dX0_two_41 (by decide) ?_
              refine lv_goto (tgt := 46) hx hb dX0_two_42 (by decide) ?_
              refine lv_istore (lv' := [(6, .int 1), (0, .ref h0), (1, .int p0), (2, .int p1), (3, .int p2), (4, .int p3), (5, .int p4)]) hx hb dX0_two_46 hl (by decide) rfl (fun ls hl => ?_)
              refine lv_iload hx hb dX0_two_48 (lv_at hl 0 rfl) ?_
              refine lv_if_ne (tgt := 63) hx hb dX0_two_50 (by decide) (fun _ => ?_) (fun q => absurd q (by decide))
              refine lv_iload hx hb dX0_two_63 (lv_at hl 0 rfl) ?_
              refine lv_if_eq (tgt := 88) hx hb dX0_two_65 (by decide) (fun q => absurd q (by decide)) (fun _ => ?_)
              refine lv_iload_n hx hb dX0_two_68 rfl (lv_at hl 2 rfl) ?_
              refine lv_iconst (v := 3) hx hb dX0_two_69 (by decide) ?_
              refine lv_icmp_eq (tgt := 88) hx hb dX0_two_70 (by decide) (fun c_19 => ?_) (fun c_19 => ?_)
              · skip
                refine lv_iload_n hx hb dX0_two_88 rfl (lv_at hl 3 rfl) ?_
                refine lv_iload_n hx hb dX0_two_89 rfl (lv_at hl 4 rfl) ?_
                refine pu_Sl (As := [.int p1, .int p2]) (rest := []) ⟨hx, hb, hml, hown, hts⟩ (cc_X0_units l _ (p1) (p2)) 2 gX0_two_X0_units rfl rfl rfl hdS_X0_units ⟨Nat.le_of_ble_eq_true rfl, Nat.le_of_ble_eq_true rfl⟩ kN_ok kN_at rfl hl.1 rfl (Nat.le_of_ble_eq_true rfl) dX0_two_90 ⟨Nat.zero_le _, Nat.zero_le _⟩ ?_
                refine lv_lstore (lv' := [(7, .long (f_X0_units (p1) (p2))), (6, .int 1), (0, .ref h0), (1, .int p0), (2, .int p1), (3, .int p2), (4, .int p3), (5, .int p4)]) hx hb dX0_two_93 hl (by decide) rfl (fun ls hl => ?_)
                refine lv_iload hx hb dX0_two_95 (lv_at hl 6 rfl) ?_
                refine lv_iload hx hb dX0_two_97 (lv_at hl 7 rfl) ?_
                refine pu_Sl (As := [.int p3, .int p4]) (rest := []) ⟨hx, hb, hml, hown, hts⟩ (cc_X0_units l _ (p3) (p4)) 2 gX0_two_X0_units rfl rfl rfl hdS_X0_units ⟨Nat.le_of_ble_eq_true rfl, Nat.le_of_ble_eq_true rfl⟩ kN_ok kN_at rfl hl.1 rfl (Nat.le_of_ble_eq_true rfl) dX0_two_99 ⟨Nat.zero_le _, Nat.zero_le _⟩ ?_
                refine lv_lstore (lv' := [(9, .long (f_X0_units (p3) (p4))), (7, .long (f_X0_units (p1) (p2))), (6, .int 1), (0, .ref h0), (1, .int p0), (2, .int p1), (3, .int p2), (4, .int p3), (5, .int p4)]) hx hb dX0_two_102 hl (by decide) rfl (fun ls hl => ?_)
                refine lv_lload hx hb dX0_two_104 (lv_at hl 1 rfl) ?_
                refine pu_Si (As := [.long (f_X0_units (p1) (p2))]) (rest := []) ⟨hx, hb, hml, hown, hts⟩ (cc_X0_isReal l _ ((f_X0_units (p1) (p2)))) 1 gX0_two_X0_isReal rfl rfl rfl hdS_X0_isReal ⟨Nat.le_of_ble_eq_true rfl, Nat.le_of_ble_eq_true rfl⟩ kN_ok kN_at rfl hl.1 rfl (Nat.le_of_ble_eq_true rfl) dX0_two_106 ⟨Nat.zero_le _, Nat.zero_le _⟩ ?_
                refine lv_if_eq (tgt := 120) hx hb dX0_two_109 (by decide) (fun c_20 => ?_) (fun c_20 => ?_)
                · skip
                  refine lv_bipush (v := (-2)) hx hb dX0_two_120 (by decide) ?_
                  have hE : f_X0_two rk rn p0 p1 p2 p3 p4 = ((-2), rk, rn) := (by rw [f_X0_two, if_neg c_1, if_neg c_2, if_neg c_3, if_neg c_4, if_pos c_5, if_pos c_11, if_pos c_19, if_pos c_20])
                  exact x_iret hx hb hr hlocks hP hD hK hS dX0_two_122 ⟨by rw [hE], by rw [hE]⟩
                · skip
                  refine lv_lload hx hb dX0_two_112 (lv_at hl 0 rfl) ?_
                  refine pu_Si (As := [.long (f_X0_units (p3) (p4))]) (rest := []) ⟨hx, hb, hml, hown, hts⟩ (cc_X0_isReal l _ ((f_X0_units (p3) (p4)))) 1 gX0_two_X0_isReal rfl rfl rfl hdS_X0_isReal ⟨Nat.le_of_ble_eq_true rfl, Nat.le_of_ble_eq_true rfl⟩ kN_ok kN_at rfl hl.1 rfl (Nat.le_of_ble_eq_true rfl) dX0_two_114 ⟨Nat.zero_le _, Nat.zero_le _⟩ ?_
                  refine lv_if_ne (tgt := 123) hx hb dX0_two_117 (by decide) (fun c_21 => ?_) (fun c_21 => ?_)
                  · skip
                    refine lv_aload_n hx hb dX0_two_123 rfl (lv_at hl 3 rfl) ?_
                    refine lv_iload_n hx hb dX0_two_124 rfl (lv_at hl 4 rfl) ?_
                    refine lv_lload hx hb dX0_two_125 (lv_at hl 1 rfl) ?_
                    refine lv_lload hx hb dX0_two_127 (lv_at hl 0 rfl) ?_
                    refine xc_i (As := [.int p0, .long (f_X0_units (p1) (p2)), .long (f_X0_units (p3) (p4))]) (rest := []) ⟨hx, hb, hml, hown, hts⟩ (cc_X0_ofReals l dC dI h0 _ (rk) (rn) (ma) (mb) (mc) (md) (me) (mf) (mx) (my) (p0) ((f_X0_units (p1) (p2))) ((f_X0_units (p3) (p4)))) 3 gX0_two_X0_ofReals rfl rfl rfl hdV_X0_ofReals ⟨Nat.le_of_ble_eq_true rfl, Nat.le_of_ble_eq_true rfl⟩ hP hD hK hS hA htb rfl hl.1 rfl (Nat.le_of_ble_eq_true rfl) dX0_two_129 ⟨Nat.zero_le _, Nat.zero_le _⟩ (fun H locs hP hD hS => ?_)
                    have hP : va_P (dC, dI) vwCl (xW h0 ((f_X0_ofReals (rk) (rn) (p0) ((f_X0_units (p1) (p2))) ((f_X0_units (p3) (p4)))).2.1, (f_X0_ofReals (rk) (rn) (p0) ((f_X0_units (p1) (p2))) ((f_X0_units (p3) (p4)))).2.2, ma, mb, mc, md, me, mf, mx, my)) H := hP
                    have hD : va_D A (xW h0 ((f_X0_ofReals (rk) (rn) (p0) ((f_X0_units (p1) (p2))) ((f_X0_units (p3) (p4)))).2.1, (f_X0_ofReals (rk) (rn) (p0) ((f_X0_units (p1) (p2))) ((f_X0_units (p3) (p4)))).2.2, ma, mb, mc, md, me, mf, mx, my)) := hD
                    have hE : f_X0_two rk rn p0 p1 p2 p3 p4 = (f_X0_ofReals (rk) (rn) (p0) ((f_X0_units (p1) (p2))) ((f_X0_units (p3) (p4)))) := (by rw [f_X0_two, if_neg c_1, if_neg c_2, if_neg c_3, if_neg c_4, if_pos c_5, if_pos c_11, if_pos c_19, if_neg c_20, if_neg c_21])
                    exact x_iret hx hb hr hlocks hP hD hK hS dX0_two_132 ⟨by rw [hE], by rw [hE]⟩
                  · skip
                    refine lv_bipush (v := (-2)) hx hb dX0_two_120 (by decide) ?_
                    have hE : f_X0_two rk rn p0 p1 p2 p3 p4 = ((-2), rk, rn) := (by rw [f_X0_two, if_neg c_1, if_neg c_2, if_neg c_3, if_neg c_4, if_pos c_5, if_pos c_11, if_pos c_19, if_neg c_20, if_pos c_21])
                    exact x_iret hx hb hr hlocks hP hD hK hS dX0_two_122 ⟨by rw [hE], by rw [hE]⟩
              · skip
                refine lv_iload_n hx hb dX0_two_73 rfl (lv_at hl 2 rfl) ?_
                refine lv_bipush (v := 6) hx hb dX0_two_74 (by decide) ?_
                refine lv_icmp_eq (tgt := 88) hx hb dX0_two_76 (by decide) (fun c_22 => ?_) (fun c_22 => ?_)
                · skip
                  refine lv_iload_n hx hb dX0_two_88 rfl (lv_at hl 3 rfl) ?_
                  refine lv_iload_n hx hb dX0_two_89 rfl (lv_at hl 4 rfl) ?_
                  refine pu_Sl (As := [.int p1, .int p2]) (rest := []) ⟨hx, hb, hml, hown, hts⟩ (cc_X0_units l _ (p1) (p2)) 2 gX0_two_X0_units rfl rfl rfl hdS_X0_units ⟨Nat.le_of_ble_eq_true rfl, Nat.le_of_ble_eq_true rfl⟩ kN_ok kN_at rfl hl.1 rfl (Nat.le_of_ble_eq_true rfl) dX0_two_90 ⟨Nat.zero_le _, Nat.zero_le _⟩ ?_
                  refine lv_lstore (lv' := [(7, .long (f_X0_units (p1) (p2))), (6, .int 1), (0, .ref h0), (1, .int p0), (2, .int p1), (3, .int p2), (4, .int p3), (5, .int p4)]) hx hb dX0_two_93 hl (by decide) rfl (fun ls hl => ?_)
                  refine lv_iload hx hb dX0_two_95 (lv_at hl 6 rfl) ?_
                  refine lv_iload hx hb dX0_two_97 (lv_at hl 7 rfl) ?_
                  refine pu_Sl (As := [.int p3, .int p4]) (rest := []) ⟨hx, hb, hml, hown, hts⟩ (cc_X0_units l _ (p3) (p4)) 2 gX0_two_X0_units rfl rfl rfl hdS_X0_units ⟨Nat.le_of_ble_eq_true rfl, Nat.le_of_ble_eq_true rfl⟩ kN_ok kN_at rfl hl.1 rfl (Nat.le_of_ble_eq_true rfl) dX0_two_99 ⟨Nat.zero_le _, Nat.zero_le _⟩ ?_
                  refine lv_lstore (lv' := [(9, .long (f_X0_units (p3) (p4))), (7, .long (f_X0_units (p1) (p2))), (6, .int 1), (0, .ref h0), (1, .int p0), (2, .int p1), (3, .int p2), (4, .int p3), (5, .int p4)]) hx hb dX0_two_102 hl (by decide) rfl (fun ls hl => ?_)
                  refine lv_lload hx hb dX0_two_104 (lv_at hl 1 rfl) ?_
                  refine pu_Si (As := [.long (f_X0_units (p1) (p2))]) (rest := []) ⟨hx, hb, hml, hown, hts⟩ (cc_X0_isReal l _ ((f_X0_units (p1) (p2)))) 1 gX0_two_X0_isReal rfl rfl rfl hdS_X0_isReal ⟨Nat.le_of_ble_eq_true rfl, Nat.le_of_ble_eq_true rfl⟩ kN_ok kN_at rfl hl.1 rfl (Nat.le_of_ble_eq_true rfl) dX0_two_106 ⟨Nat.zero_le _, Nat.zero_le _⟩ ?_
                  refine lv_if_eq (tgt := 120) hx hb dX0_two_109 (by decide) (fun c_23 => ?_) (fun c_23 => ?_)
                  · skip
                    refine lv_bipush (v := (-2)) hx hb dX0_two_120 (by decide) ?_
                    have hE : f_X0_two rk rn p0 p1 p2 p3 p4 = ((-2), rk, rn) := (by rw [f_X0_two, if_neg c_1, if_neg c_2, if_neg c_3, if_neg c_4, if_pos c_5, if_pos c_11, if_neg c_19, if_pos c_22, if_pos c_23])
                    exact x_iret hx hb hr hlocks hP hD hK hS dX0_two_122 ⟨by rw [hE], by rw [hE]⟩
                  · skip
                    refine lv_lload hx hb dX0_two_112 (lv_at hl 0 rfl) ?_
                    refine pu_Si (As := [.long (f_X0_units (p3) (p4))]) (rest := []) ⟨hx, hb, hml, hown, hts⟩ (cc_X0_isReal l _ ((f_X0_units (p3) (p4)))) 1 gX0_two_X0_isReal rfl rfl rfl hdS_X0_isReal ⟨Nat.le_of_ble_eq_true rfl, Nat.le_of_ble_eq_true rfl⟩ kN_ok kN_at rfl hl.1 rfl (Nat.le_of_ble_eq_true rfl) dX0_two_114 ⟨Nat.zero_le _, Nat.zero_le _⟩ ?_
                    refine lv_if_ne (tgt := 123) hx hb dX0_two_117 (by decide) (fun c_24 => ?_) (fun c_24 => ?_)
                    · skip
                      refine lv_aload_n hx hb dX0_two_123 rfl (lv_at hl 3 rfl) ?_
                      refine lv_iload_n hx hb dX0_two_124 rfl (lv_at hl 4 rfl) ?_
                      refine lv_lload hx hb dX0_two_125 (lv_at hl 1 rfl) ?_
                      refine lv_lload hx hb dX0_two_127 (lv_at hl 0 rfl) ?_
                      refine xc_i (As := [.int p0, .long (f_X0_units (p1) (p2)), .long (f_X0_units (p3) (p4))]) (rest := []) ⟨hx, hb, hml, hown, hts⟩ (cc_X0_ofReals l dC dI h0 _ (rk) (rn) (ma) (mb) (mc) (md) (me) (mf) (mx) (my) (p0) ((f_X0_units (p1) (p2))) ((f_X0_units (p3) (p4)))) 3 gX0_two_X0_ofReals rfl rfl rfl hdV_X0_ofReals ⟨Nat.le_of_ble_eq_true rfl, Nat.le_of_ble_eq_true rfl⟩ hP hD hK hS hA htb rfl hl.1 rfl (Nat.le_of_ble_eq_true rfl) dX0_two_129 ⟨Nat.zero_le _, Nat.zero_le _⟩ (fun H locs hP hD hS => ?_)
                      have hP : va_P (dC, dI) vwCl (xW h0 ((f_X0_ofReals (rk) (rn) (p0) ((f_X0_units (p1) (p2))) ((f_X0_units (p3) (p4)))).2.1, (f_X0_ofReals (rk) (rn) (p0) ((f_X0_units (p1) (p2))) ((f_X0_units (p3) (p4)))).2.2, ma, mb, mc, md, me, mf, mx, my)) H := hP
                      have hD : va_D A (xW h0 ((f_X0_ofReals (rk) (rn) (p0) ((f_X0_units (p1) (p2))) ((f_X0_units (p3) (p4)))).2.1, (f_X0_ofReals (rk) (rn) (p0) ((f_X0_units (p1) (p2))) ((f_X0_units (p3) (p4)))).2.2, ma, mb, mc, md, me, mf, mx, my)) := hD
                      have hE : f_X0_two rk rn p0 p1 p2 p3 p4 = (f_X0_ofReals (rk) (rn) (p0) ((f_X0_units (p1) (p2))) ((f_X0_units (p3) (p4)))) := (by rw [f_X0_two, if_neg c_1, if_neg c_2, if_neg c_3, if_neg c_4, if_pos c_5, if_pos c_11, if_neg c_19, if_pos c_22, if_neg c_23, if_neg c_24])
                      exact x_iret hx hb hr hlocks hP hD hK hS dX0_two_132 ⟨by rw [hE], by rw [hE]⟩
                    · skip
                      refine lv_bipush (v := (-2)) hx hb dX0_two_120 (by decide) ?_
                      have hE : f_X0_two rk rn p0 p1 p2 p3 p4 = ((-2), rk, rn) := (by rw [f_X0_two, if_neg c_1, if_neg c_2, if_neg c_3, if_neg c_4, if_pos c_5, if_pos c_11, if_neg c_19, if_pos c_22, if_neg c_23, if_pos c_24])
                      exact x_iret hx hb hr hlocks hP hD hK hS dX0_two_122 ⟨by rw [hE], by rw [hE]⟩
                · skip
                  refine lv_aload_n hx hb dX0_two_79 rfl (lv_at hl 1 rfl) ?_
                  refine lv_iload_n hx hb dX0_two_80 rfl (lv_at hl 2 rfl) ?_
                  refine lv_iload_n hx hb dX0_two_81 rfl (lv_at hl 4 rfl) ?_
                  refine lv_iload hx hb dX0_two_82 (lv_at hl 6 rfl) ?_
                  refine xc_i (As := [.int p0, .int p2, .int p4]) (rest := []) ⟨hx, hb, hml, hown, hts⟩ (cc_X0_ofWholes l dC dI h0 _ (rk) (rn) (ma) (mb) (mc) (md) (me) (mf) (mx) (my) (p0) (p2) (p4)) 3 gX0_two_X0_ofWholes rfl rfl rfl hdV_X0_ofWholes ⟨Nat.le_of_ble_eq_true rfl, Nat.le_of_ble_eq_true rfl⟩ hP hD hK hS hA htb rfl hl.1 rfl (Nat.le_of_ble_eq_true rfl) dX0_two_84 ⟨Nat.zero_le _, Nat.zero_le _⟩ (fun H locs hP hD hS => ?_)
                  have hP : va_P (dC, dI) vwCl (xW h0 ((f_X0_ofWholes (rk) (rn) (p0) (p2) (p4)).2.1, (f_X0_ofWholes (rk) (rn) (p0) (p2) (p4)).2.2, ma, mb, mc, md, me, mf, mx, my)) H := hP
                  have hD : va_D A (xW h0 ((f_X0_ofWholes (rk) (rn) (p0) (p2) (p4)).2.1, (f_X0_ofWholes (rk) (rn) (p0) (p2) (p4)).2.2, ma, mb, mc, md, me, mf, mx, my)) := hD
                  have hE : f_X0_two rk rn p0 p1 p2 p3 p4 = (f_X0_ofWholes (rk) (rn) (p0) (p2) (p4)) := (by rw [f_X0_two, if_neg c_1, if_neg c_2, if_neg c_3, if_neg c_4, if_pos c_5, if_pos c_11, if_neg c_19, if_neg c_22])
                  exact x_iret hx hb hr hlocks hP hD hK hS dX0_two_87 ⟨by rw [hE], by rw [hE]⟩
        · skip
          refine lv_iconst (v := (-1)) hx hb dX0_two_28 (by decide) ?_
          have hE : f_X0_two rk rn p0 p1 p2 p3 p4 = ((-1), rk, rn) := (by rw [f_X0_two, if_neg c_1, if_neg c_2, if_neg c_3, if_pos c_4])
          exact x_iret hx hb hr hlocks hP hD hK hS dX0_two_29 ⟨by rw [hE], by rw [hE]⟩
theorem hdV_X0_one : yX0_one.cls = RX0 ∧ yX0_one.cls ≠ "java/lang/invoke/MethodHandle" ∧ yX0_one.cls ≠ "java/lang/invoke/VarHandle" ∧ (parseMethodDescriptor yX0_one.desc).map (fun d => d.parameters.length) = some 3 := by decide +kernel
theorem fi_X0_one : ∀ w ∈ wsX00, w ∈ wsX0_one := fun _ h => List.mem_cons_of_mem _ (List.mem_append_right _ h)
def f_X0_one (rk : Int32) (rn : Int32) (p0 : Int32) (p1 : Int32) (p2 : Int32) : Int32 × Int32 × Int32 := if p0 < 0 then (((-1), rk, rn)) else (if 11 < p0 then (((-1), rk, rn)) else (if (f_X0_isValue (p1) (p2)) = 0 then (((-1), rk, rn)) else (if p0 = 11 then (if p1 = 1 then ((f_X0_keep (rk) (rn) (1) (((p2 ^^^ (-1))).toInt64))) else (((-4), rk, rn))) else (if (f_X0_isAsAReal (p0)) = 0 then ((f_X0_ofOne (rk) (rn) (p0) (p1) (p2))) else (if (f_X0_isReal ((f_X0_units (p1) (p2)))) = 0 then (((-2), rk, rn)) else ((f_X0_ofReal (rk) (rn) (p0) ((f_X0_units (p1) (p2))))))))))
abbrev rm_X0_one : Room := { frames := 4, cells := 0, slots := 0, locals := 159 }
set_option maxHeartbeats 4000000 in
set_option maxRecDepth 100000 in
theorem cc_X0_one (l : Launch) (dC : Nat → ClassId) (dI : Nat → Nat → Nat) (h0 sz : Nat) (rk rn ma mb mc md me mf mx my : Int32) (p0 : Int32) (p1 : Int32) (p2 : Int32)   : Met l yX0_one wsX0_one rm_X0_one (va_Pc [.ref h0, .int p0, .int p1, .int p2] (xPre dC dI h0 sz (rk, rn, ma, mb, mc, md, me, mf, mx, my))) (xQi dC dI h0 (va_A (xW h0 (rk, rn, ma, mb, mc, md, me, mf, mx, my)) sz) ((f_X0_one rk rn p0 p1 p2).1) ((f_X0_one rk rn p0 p1 p2).2.1, (f_X0_one rk rn p0 p1 p2).2.2, ma, mb, mc, md, me, mf, mx, my)) 0 0 (va_A (xW h0 (rk, rn, ma, mb, mc, md, me, mf, mx, my)) sz) := by
  refine x_headi (cc := cX0_one) (maxL := 6) (ret := some .int) (by decide) rfl rfl (Nat.le_of_ble_eq_true rfl) ?_
  intro p e s m below meth c ls A hx hb hr hlocks hml hown hts hA hP hD hK htb hS hl
  have hl : lv_has ls 6 [(0, .ref h0), (1, .int p0), (2, .int p1), (3, .int p2)] := hl
  refine lv_iload_n hx hb dX0_one_0 rfl (lv_at hl 1 rfl) ?_
  refine lv_if_lt (tgt := 18) hx hb dX0_one_1 (by decide) (fun c_1 => ?_) (fun c_1 => ?_)
  · skip
    refine lv_iconst (v := (-1)) hx hb dX0_one_18 (by decide) ?_
    have hE : f_X0_one rk rn p0 p1 p2 = ((-1), rk, rn) := (by rw [f_X0_one, if_pos c_1])
    exact x_iret hx hb hr hlocks hP hD hK hS dX0_one_19 ⟨by rw [hE], by rw [hE]⟩
  · skip
    refine lv_iload_n hx hb dX0_one_4 rfl (lv_at hl 1 rfl) ?_
    refine lv_bipush (v := 11) hx hb dX0_one_5 (by decide) ?_
    refine pi_gt (tgt := 18) hx hb dX0_one_7 (by decide) (fun c_2 => ?_) (fun c_2 => ?_)
    · skip
      refine lv_iconst (v := (-1)) hx hb dX0_one_18 (by decide) ?_
      have hE : f_X0_one rk rn p0 p1 p2 = ((-1), rk, rn) := (by rw [f_X0_one, if_neg c_1, if_pos c_2])
      exact x_iret hx hb hr hlocks hP hD hK hS dX0_one_19 ⟨by rw [hE], by rw [hE]⟩
    · skip
      refine lv_iload_n hx hb dX0_one_10 rfl (lv_at hl 2 rfl) ?_
      refine lv_iload_n hx hb dX0_one_11 rfl (lv_at hl 3 rfl) ?_
      refine pu_Si (As := [.int p1, .int p2]) (rest := []) ⟨hx, hb, hml, hown, hts⟩ (cc_X0_isValue l _ (p1) (p2)) 2 gX0_one_X0_isValue rfl rfl rfl hdS_X0_isValue ⟨Nat.le_of_ble_eq_true rfl, Nat.le_of_ble_eq_true rfl⟩ kN_ok kN_at rfl hl.1 rfl (Nat.le_of_ble_eq_true rfl) dX0_one_12 ⟨Nat.zero_le _, Nat.zero_le _⟩ ?_
      refine lv_if_ne (tgt := 20) hx hb dX0_one_15 (by decide) (fun c_3 => ?_) (fun c_3 => ?_)
      · skip
        refine lv_iload_n hx hb dX0_one_20 rfl (lv_at hl 1 rfl) ?_
        refine lv_bipush (v := 11) hx hb dX0_one_21 (by decide) ?_
        refine lv_icmp_ne (tgt := 46) hx hb dX0_one_23 (by decide) (fun c_4 => ?_) (fun c_4 => ?_)
        · skip
          refine lv_iload_n hx hb dX0_one_46 rfl (lv_at hl 1 rfl) ?_
          refine pu_Si (As := [.int p0]) (rest := []) ⟨hx, hb, hml, hown, hts⟩ (cc_X0_isAsAReal l _ (p0)) 1 gX0_one_X0_isAsAReal rfl rfl rfl hdS_X0_isAsAReal ⟨Nat.le_of_ble_eq_true rfl, Nat.le_of_ble_eq_true rfl⟩ kN_ok kN_at rfl hl.1 rfl (Nat.le_of_ble_eq_true rfl) dX0_one_47 ⟨Nat.zero_le _, Nat.zero_le _⟩ ?_
          refine lv_if_ne (tgt := 61) hx hb dX0_one_50 (by decide) (fun c_5 => ?_) (fun c_5 => ?_)
          · skip
            refine lv_iload_n hx hb dX0_one_61 rfl (lv_at hl 2 rfl) ?_
            refine lv_iload_n hx hb dX0_one_62 rfl (lv_at hl 3 rfl) ?_
            refine pu_Sl (As := [.int p1, .int p2]) (rest := []) ⟨hx, hb, hml, hown, hts⟩ (cc_X0_units l _ (p1) (p2)) 2 gX0_one_X0_units rfl rfl rfl hdS_X0_units ⟨Nat.le_of_ble_eq_true rfl, Nat.le_of_ble_eq_true rfl⟩ kN_ok kN_at rfl hl.1 rfl (Nat.le_of_ble_eq_true rfl) dX0_one_63 ⟨Nat.zero_le _, Nat.zero_le _⟩ ?_
            refine lv_lstore (lv' := [(4, .long (f_X0_units (p1) (p2))), (0, .ref h0), (1, .int p0), (2, .int p1), (3, .int p2)]) hx hb dX0_one_66 hl (by decide) rfl (fun ls hl => ?_)
            refine lv_lload hx hb dX0_one_68 (lv_at hl 0 rfl) ?_
            refine pu_Si (As := [.long (f_X0_units (p1) (p2))]) (rest := []) ⟨hx, hb, hml, hown, hts⟩ (cc_X0_isReal l _ ((f_X0_units (p1) (p2)))) 1 gX0_one_X0_isReal rfl rfl rfl hdS_X0_isReal ⟨Nat.le_of_ble_eq_true rfl, Nat.le_of_ble_eq_true rfl⟩ kN_ok kN_at rfl hl.1 rfl (Nat.le_of_ble_eq_true rfl) dX0_one_70 ⟨Nat.zero_le _, Nat.zero_le _⟩ ?_
            refine lv_if_eq (tgt := 86) hx hb dX0_one_73 (by decide) (fun c_6 => ?_) (fun c_6 => ?_)
            · skip
              refine lv_bipush (v := (-2)) hx hb dX0_one_86 (by decide) ?_
              have hE : f_X0_one rk rn p0 p1 p2 = ((-2), rk, rn) := (by rw [f_X0_one, if_neg c_1, if_neg c_2, if_neg c_3, if_neg c_4, if_neg c_5, if_pos c_6])
              exact x_iret hx hb hr hlocks hP hD hK hS dX0_one_88 ⟨by rw [hE], by rw [hE]⟩
            · skip
              refine lv_aload_n hx hb dX0_one_76 rfl (lv_at hl 1 rfl) ?_
              refine lv_iload_n hx hb dX0_one_77 rfl (lv_at hl 2 rfl) ?_
              refine lv_lload hx hb dX0_one_78 (lv_at hl 0 rfl) ?_
              refine xc_i (As := [.int p0, .long (f_X0_units (p1) (p2))]) (rest := []) ⟨hx, hb, hml, hown, hts⟩ (cc_X0_ofReal l dC dI h0 _ (rk) (rn) (ma) (mb) (mc) (md) (me) (mf) (mx) (my) (p0) ((f_X0_units (p1) (p2)))) 2 gX0_one_X0_ofReal rfl rfl rfl hdV_X0_ofReal ⟨Nat.le_of_ble_eq_true rfl, Nat.le_of_ble_eq_true rfl⟩ hP hD hK hS hA htb rfl hl.1 rfl (Nat.le_of_ble_eq_true rfl) dX0_one_80 ⟨Nat.zero_le _, Nat.zero_le _⟩ (fun H locs hP hD hS => ?_)
              have hP : va_P (dC, dI) vwCl (xW h0 ((f_X0_ofReal (rk) (rn) (p0) ((f_X0_units (p1) (p2)))).2.1, (f_X0_ofReal (rk) (rn) (p0) ((f_X0_units (p1) (p2)))).2.2, ma, mb, mc, md, me, mf, mx, my)) H := hP
              have hD : va_D A (xW h0 ((f_X0_ofReal (rk) (rn) (p0) ((f_X0_units (p1) (p2)))).2.1, (f_X0_ofReal (rk) (rn) (p0) ((f_X0_units (p1) (p2)))).2.2, ma, mb, mc, md, me, mf, mx, my)) := hD
              refine lv_goto (tgt := 88) hx hb dX0_one_83 (by decide) ?_
              have hE : f_X0_one rk rn p0 p1 p2 = (f_X0_ofReal (rk) (rn) (p0) ((f_X0_units (p1) (p2)))) := (by rw [f_X0_one, if_neg c_1, if_neg c_2, if_neg c_3, if_neg c_4, if_neg c_5, if_neg c_6])
              exact x_iret hx hb hr hlocks hP hD hK hS dX0_one_88 ⟨by rw [hE], by rw [hE]⟩
          · skip
            refine lv_aload_n hx hb dX0_one_53 rfl (lv_at hl 0 rfl) ?_
            refine lv_iload_n hx hb dX0_one_54 rfl (lv_at hl 1 rfl) ?_
            refine lv_iload_n hx hb dX0_one_55 rfl (lv_at hl 2 rfl) ?_
            refine lv_iload_n hx hb dX0_one_56 rfl (lv_at hl 3 rfl) ?_
            refine xc_i (As := [.int p0, .int p1, .int p2]) (rest := []) ⟨hx, hb, hml, hown, hts⟩ (cc_X0_ofOne l dC dI h0 _ (rk) (rn) (ma) (mb) (mc) (md) (me) (mf) (mx) (my) (p0) (p1) (p2)) 3 gX0_one_X0_ofOne rfl rfl rfl hdV_X0_ofOne ⟨Nat.le_of_ble_eq_true rfl, Nat.le_of_ble_eq_true rfl⟩ hP hD hK hS hA htb rfl hl.1 rfl (Nat.le_of_ble_eq_true rfl) dX0_one_57 ⟨Nat.zero_le _, Nat.zero_le _⟩ (fun H locs hP hD hS => ?_)
            have hP : va_P (dC, dI) vwCl (xW h0 ((f_X0_ofOne (rk) (rn) (p0) (p1) (p2)).2.1, (f_X0_ofOne (rk) (rn) (p0) (p1) (p2)).2.2, ma, mb, mc, md, me, mf, mx, my)) H := hP
            have hD : va_D A (xW h0 ((f_X0_ofOne (rk) (rn) (p0) (p1) (p2)).2.1, (f_X0_ofOne (rk) (rn) (p0) (p1) (p2)).2.2, ma, mb, mc, md, me, mf, mx, my)) := hD
            have hE : f_X0_one rk rn p0 p1 p2 = (f_X0_ofOne (rk) (rn) (p0) (p1) (p2)) := (by rw [f_X0_one, if_neg c_1, if_neg c_2, if_neg c_3, if_neg c_4, if_pos c_5])
            exact x_iret hx hb hr hlocks hP hD hK hS dX0_one_60 ⟨by rw [hE], by rw [hE]⟩
        · skip
          refine lv_iload_n hx hb dX0_one_26 rfl (lv_at hl 2 rfl) ?_
          refine lv_iconst (v := 1) hx hb dX0_one_27 (by decide) ?_
          refine lv_icmp_ne (tgt := 43) hx hb dX0_one_28 (by decide) (fun c_7 => ?_) (fun c_7 => ?_)
          · skip
            refine lv_bipush (v := (-4)) hx hb dX0_one_43 (by decide) ?_
            have hE : f_X0_one rk rn p0 p1 p2 = ((-4), rk, rn) := (by rw [f_X0_one, if_neg c_1, if_neg c_2, if_neg c_3, if_pos c_4, if_neg c_7])
            exact x_iret hx hb hr hlocks hP hD hK hS dX0_one_45 ⟨by rw [hE], by rw [hE]⟩
          · skip
            refine lv_aload_n hx hb dX0_one_31 rfl (lv_at hl 0 rfl) ?_
            refine lv_iconst (v := 1) hx hb dX0_one_32 (by decide) ?_
            refine lv_iload_n hx hb dX0_one_33 rfl (lv_at hl 3 rfl) ?_
            refine lv_iconst (v := (-1)) hx hb dX0_one_34 (by decide) ?_
            refine lv_ixor hx hb dX0_one_35 ?_
            refine lv_i2l (v := ((p2 ^^^ (-1))).toInt64) hx hb dX0_one_36 rfl ?_
            refine xc_i (As := [.int 1, .long ((p2 ^^^ (-1))).toInt64]) (rest := []) ⟨hx, hb, hml, hown, hts⟩ (cc_X0_keep l dC dI h0 _ (rk) (rn) (ma) (mb) (mc) (md) (me) (mf) (mx) (my) (1) (((p2 ^^^ (-1))).toInt64)) 2 gX0_one_X0_keep rfl rfl rfl hdV_X0_keep ⟨Nat.le_of_ble_eq_true rfl, Nat.le_of_ble_eq_true rfl⟩ hP hD hK hS hA htb rfl hl.1 rfl (Nat.le_of_ble_eq_true rfl) dX0_one_37 ⟨Nat.zero_le _, Nat.zero_le _⟩ (fun H locs hP hD hS => ?_)
            have hP : va_P (dC, dI) vwCl (xW h0 ((f_X0_keep (rk) (rn) (1) (((p2 ^^^ (-1))).toInt64)).2.1, (f_X0_keep (rk) (rn) (1) (((p2 ^^^ (-1))).toInt64)).2.2, ma, mb, mc, md, me, mf, mx, my)) H := hP
            have hD : va_D A (xW h0 ((f_X0_keep (rk) (rn) (1) (((p2 ^^^ (-1))).toInt64)).2.1, (f_X0_keep (rk) (rn) (1) (((p2 ^^^ (-1))).toInt64)).2.2, ma, mb, mc, md, me, mf, mx, my)) := hD
            refine lv_goto (tgt := 45) hx hb dX0_one_40 (by decide) ?_
            have hE : f_X0_one rk rn p0 p1 p2 = (f_X0_keep (rk) (rn) (1) (((p2 ^^^ (-1))).toInt64)) := (by rw [f_X0_one, if_neg c_1, if_neg c_2, if_neg c_3, if_pos c_4, if_pos c_7])
            exact x_iret hx hb hr hlocks hP hD hK hS dX0_one_45 ⟨by rw [hE], by rw [hE]⟩
      · skip
        refine lv_iconst (v := (-1)) hx hb dX0_one_18 (by decide) ?_
        have hE : f_X0_one rk rn p0 p1 p2 = ((-1), rk, rn) := (by rw [f_X0_one, if_neg c_1, if_neg c_2, if_pos c_3])
        exact x_iret hx hb hr hlocks hP hD hK hS dX0_one_19 ⟨by rw [hE], by rw [hE]⟩
theorem hdV_X0_kind : yX0_kind.cls = RX0 ∧ yX0_kind.cls ≠ "java/lang/invoke/MethodHandle" ∧ yX0_kind.cls ≠ "java/lang/invoke/VarHandle" ∧ (parseMethodDescriptor yX0_kind.desc).map (fun d => d.parameters.length) = some 0 := by decide +kernel
theorem fi_X0_kind : ∀ w ∈ wsX00, w ∈ wsX0_kind := fun _ h => List.mem_cons_of_mem _ (List.mem_append_right _ h)
def f_X0_kind (rk : Int32) : Int32 := rk
abbrev rm_X0_kind : Room := { frames := 0, cells := 0, slots := 0, locals := 0 }
set_option maxHeartbeats 4000000 in
set_option maxRecDepth 100000 in
theorem cc_X0_kind (l : Launch) (dC : Nat → ClassId) (dI : Nat → Nat → Nat) (h0 sz : Nat) (rk rn ma mb mc md me mf mx my : Int32)    : Met l yX0_kind wsX0_kind rm_X0_kind (va_Pc [.ref h0] (xPre dC dI h0 sz (rk, rn, ma, mb, mc, md, me, mf, mx, my))) (xQi dC dI h0 (va_A (xW h0 (rk, rn, ma, mb, mc, md, me, mf, mx, my)) sz) ((f_X0_kind rk)) (rk, rn, ma, mb, mc, md, me, mf, mx, my)) 0 0 (va_A (xW h0 (rk, rn, ma, mb, mc, md, me, mf, mx, my)) sz) := by
  refine x_headi (cc := cX0_kind) (maxL := 1) (ret := some .int) (by decide) rfl rfl (Nat.le_of_ble_eq_true rfl) ?_
  intro p e s m below meth c ls A hx hb hr hlocks hml hown hts hA hP hD hK htb hS hl
  have hl : lv_has ls 1 [(0, .ref h0)] := hl
  refine lv_aload_n hx hb dX0_kind_0 rfl (lv_at hl 0 rfl) ?_
  refine va_get (D := (dC, dI)) (ci := 0) (v := .int rk) (C := RX0) (T := TX0) (N := 10) hx hb hts fi_X0_kind hown hK hP 0 rfl rfl 0 (by decide) (hts (.fieldLink RX0 11 "FixedPlane" "resultKind" "I") (by decide +kernel)) (fun _ h9 => h9) rfl dX0_kind_1 ?_
  have hE : f_X0_kind rk = rk := (by rw [f_X0_kind])
  exact x_iret hx hb hr hlocks hP hD hK hS dX0_kind_4 ⟨hE.symm, rfl⟩
theorem hdV_X0_number : yX0_number.cls = RX0 ∧ yX0_number.cls ≠ "java/lang/invoke/MethodHandle" ∧ yX0_number.cls ≠ "java/lang/invoke/VarHandle" ∧ (parseMethodDescriptor yX0_number.desc).map (fun d => d.parameters.length) = some 0 := by decide +kernel
theorem fi_X0_number : ∀ w ∈ wsX00, w ∈ wsX0_number := fun _ h => List.mem_cons_of_mem _ (List.mem_append_right _ h)
def f_X0_number (rn : Int32) : Int32 := rn
abbrev rm_X0_number : Room := { frames := 0, cells := 0, slots := 0, locals := 0 }
set_option maxHeartbeats 4000000 in
set_option maxRecDepth 100000 in
theorem cc_X0_number (l : Launch) (dC : Nat → ClassId) (dI : Nat → Nat → Nat) (h0 sz : Nat) (rk rn ma mb mc md me mf mx my : Int32)    : Met l yX0_number wsX0_number rm_X0_number (va_Pc [.ref h0] (xPre dC dI h0 sz (rk, rn, ma, mb, mc, md, me, mf, mx, my))) (xQi dC dI h0 (va_A (xW h0 (rk, rn, ma, mb, mc, md, me, mf, mx, my)) sz) ((f_X0_number rn)) (rk, rn, ma, mb, mc, md, me, mf, mx, my)) 0 0 (va_A (xW h0 (rk, rn, ma, mb, mc, md, me, mf, mx, my)) sz) := by
  refine x_headi (cc := cX0_number) (maxL := 1) (ret := some .int) (by decide) rfl rfl (Nat.le_of_ble_eq_true rfl) ?_
  intro p e s m below meth c ls A hx hb hr hlocks hml hown hts hA hP hD hK htb hS hl
  have hl : lv_has ls 1 [(0, .ref h0)] := hl
  refine lv_aload_n hx hb dX0_number_0 rfl (lv_at hl 0 rfl) ?_
  refine va_get (D := (dC, dI)) (ci := 0) (v := .int rn) (C := RX0) (T := TX0) (N := 10) hx hb hts fi_X0_number hown hK hP 0 rfl rfl 1 (by decide) (hts (.fieldLink RX0 59 "FixedPlane" "resultNumber" "I") (by decide +kernel)) (fun _ h9 => h9) rfl dX0_number_1 ?_
  have hE : f_X0_number rn = rn := (by rw [f_X0_number])
  exact x_iret hx hb hr hlocks hP hD hK hS dX0_number_4 ⟨hE.symm, rfl⟩
theorem hdV_X0_compare : yX0_compare.cls = RX0 ∧ yX0_compare.cls ≠ "java/lang/invoke/MethodHandle" ∧ yX0_compare.cls ≠ "java/lang/invoke/VarHandle" ∧ (parseMethodDescriptor yX0_compare.desc).map (fun d => d.parameters.length) = some 4 := by decide +kernel
def f_X0_compare (p0 : Int32) (p1 : Int32) (p2 : Int32) (p3 : Int32) : Int32 := if (f_X0_isValue (p0) (p1)) = 0 then ((-1)) else (if (f_X0_isValue (p2) (p3)) = 0 then ((-1)) else (if (f_X0_units (p0) (p1)) = (f_X0_units (p2) (p3)) then (1) else (if (f_X0_units (p0) (p1)) < (f_X0_units (p2) (p3)) then (0) else (2))))
abbrev rm_X0_compare : Room := { frames := 2, cells := 0, slots := 0, locals := 74 }
set_option maxHeartbeats 4000000 in
set_option maxRecDepth 100000 in
theorem cc_X0_compare (l : Launch) (dC : Nat → ClassId) (dI : Nat → Nat → Nat) (h0 sz : Nat) (rk rn ma mb mc md me mf mx my : Int32) (p0 : Int32) (p1 : Int32) (p2 : Int32) (p3 : Int32)   : Met l yX0_compare wsX0_compare rm_X0_compare (va_Pc [.ref h0, .int p0, .int p1, .int p2, .int p3] (xPre dC dI h0 sz (rk, rn, ma, mb, mc, md, me, mf, mx, my))) (xQi dC dI h0 (va_A (xW h0 (rk, rn, ma, mb, mc, md, me, mf, mx, my)) sz) ((f_X0_compare p0 p1 p2 p3)) (rk, rn, ma, mb, mc, md, me, mf, mx, my)) 0 0 (va_A (xW h0 (rk, rn, ma, mb, mc, md, me, mf, mx, my)) sz) := by
  refine x_headi (cc := cX0_compare) (maxL := 9) (ret := some .int) (by decide) rfl rfl (Nat.le_of_ble_eq_true rfl) ?_
  intro p e s m below meth c ls A hx hb hr hlocks hml hown hts hA hP hD hK htb hS hl
  have hl : lv_has ls 9 [(0, .ref h0), (1, .int p0), (2, .int p1), (3, .int p2), (4, .int p3)] := hl
  refine lv_iload_n hx hb dX0_compare_0 rfl (lv_at hl 1 rfl) ?_
  refine lv_iload_n hx hb dX0_compare_1 rfl (lv_at hl 2 rfl) ?_
  refine pu_Si (As := [.int p0, .int p1]) (rest := []) ⟨hx, hb, hml, hown, hts⟩ (cc_X0_isValue l _ (p0) (p1)) 2 gX0_compare_X0_isValue rfl rfl rfl hdS_X0_isValue ⟨Nat.le_of_ble_eq_true rfl, Nat.le_of_ble_eq_true rfl⟩ kN_ok kN_at rfl hl.1 rfl (Nat.le_of_ble_eq_true rfl) dX0_compare_2 ⟨Nat.zero_le _, Nat.zero_le _⟩ ?_
  refine lv_if_eq (tgt := 17) hx hb dX0_compare_5 (by decide) (fun c_1 => ?_) (fun c_1 => ?_)
  · skip
    refine lv_iconst (v := (-1)) hx hb dX0_compare_17 (by decide) ?_
    have hE : f_X0_compare p0 p1 p2 p3 = (-1) := (by rw [f_X0_compare, if_pos c_1])
    exact x_iret hx hb hr hlocks hP hD hK hS dX0_compare_18 ⟨hE.symm, rfl⟩
  · skip
    refine lv_iload_n hx hb dX0_compare_8 rfl (lv_at hl 3 rfl) ?_
    refine lv_iload hx hb dX0_compare_9 (lv_at hl 4 rfl) ?_
    refine pu_Si (As := [.int p2, .int p3]) (rest := []) ⟨hx, hb, hml, hown, hts⟩ (cc_X0_isValue l _ (p2) (p3)) 2 gX0_compare_X0_isValue rfl rfl rfl hdS_X0_isValue ⟨Nat.le_of_ble_eq_true rfl, Nat.le_of_ble_eq_true rfl⟩ kN_ok kN_at rfl hl.1 rfl (Nat.le_of_ble_eq_true rfl) dX0_compare_11 ⟨Nat.zero_le _, Nat.zero_le _⟩ ?_
    refine lv_if_ne (tgt := 19) hx hb dX0_compare_14 (by decide) (fun c_2 => ?_) (fun c_2 => ?_)
    · skip
      refine lv_iload_n hx hb dX0_compare_19 rfl (lv_at hl 1 rfl) ?_
      refine lv_iload_n hx hb dX0_compare_20 rfl (lv_at hl 2 rfl) ?_
      refine pu_Sl (As := [.int p0, .int p1]) (rest := []) ⟨hx, hb, hml, hown, hts⟩ (cc_X0_units l _ (p0) (p1)) 2 gX0_compare_X0_units rfl rfl rfl hdS_X0_units ⟨Nat.le_of_ble_eq_true rfl, Nat.le_of_ble_eq_true rfl⟩ kN_ok kN_at rfl hl.1 rfl (Nat.le_of_ble_eq_true rfl) dX0_compare_21 ⟨Nat.zero_le _, Nat.zero_le _⟩ ?_
      refine lv_lstore (lv' := [(5, .long (f_X0_units (p0) (p1))), (0, .ref h0), (1, .int p0), (2, .int p1), (3, .int p2), (4, .int p3)]) hx hb dX0_compare_24 hl (by decide) rfl (fun ls hl => ?_)
      refine lv_iload_n hx hb dX0_compare_26 rfl (lv_at hl 4 rfl) ?_
      refine lv_iload hx hb dX0_compare_27 (lv_at hl 5 rfl) ?_
      refine pu_Sl (As := [.int p2, .int p3]) (rest := []) ⟨hx, hb, hml, hown, hts⟩ (cc_X0_units l _ (p2) (p3)) 2 gX0_compare_X0_units rfl rfl rfl hdS_X0_units ⟨Nat.le_of_ble_eq_true rfl, Nat.le_of_ble_eq_true rfl⟩ kN_ok kN_at rfl hl.1 rfl (Nat.le_of_ble_eq_true rfl) dX0_compare_29 ⟨Nat.zero_le _, Nat.zero_le _⟩ ?_
      refine lv_lstore (lv' := [(7, .long (f_X0_units (p2) (p3))), (5, .long (f_X0_units (p0) (p1))), (0, .ref h0), (1, .int p0), (2, .int p1), (3, .int p2), (4, .int p3)]) hx hb dX0_compare_32 hl (by decide) rfl (fun ls hl => ?_)
      refine lv_lload hx hb dX0_compare_34 (lv_at hl 1 rfl) ?_
      refine lv_lload hx hb dX0_compare_36 (lv_at hl 0 rfl) ?_
      refine pl_ne (tgt := 44) hx hb dX0_compare_38 dX0_compare_39 (by decide) (fun c_3 => ?_) (fun c_3 => ?_)
      · skip
        refine lv_lload hx hb dX0_compare_44 (lv_at hl 1 rfl) ?_
        refine lv_lload hx hb dX0_compare_46 (lv_at hl 0 rfl) ?_
        refine pl_ge (tgt := 56) hx hb dX0_compare_48 dX0_compare_49 (by decide) (fun c_4 => ?_) (fun c_4 => ?_)
        · skip
          refine lv_iconst (v := 2) hx hb dX0_compare_56 (by decide) ?_
          have hE : f_X0_compare p0 p1 p2 p3 = 2 := (by rw [f_X0_compare, if_neg c_1, if_neg c_2, if_neg c_3, if_neg c_4])
          exact x_iret hx hb hr hlocks hP hD hK hS dX0_compare_57 ⟨hE.symm, rfl⟩
        · skip
          refine lv_iconst (v := 0) hx hb dX0_compare_52 (by decide) ?_
          refine lv_goto (tgt := 57) hx hb dX0_compare_53 (by decide) ?_
          have hE : f_X0_compare p0 p1 p2 p3 = 0 := (by rw [f_X0_compare, if_neg c_1, if_neg c_2, if_neg c_3, if_pos c_4])
          exact x_iret hx hb hr hlocks hP hD hK hS dX0_compare_57 ⟨hE.symm, rfl⟩
      · skip
        refine lv_iconst (v := 1) hx hb dX0_compare_42 (by decide) ?_
        have hE : f_X0_compare p0 p1 p2 p3 = 1 := (by rw [f_X0_compare, if_neg c_1, if_neg c_2, if_pos c_3])
        exact x_iret hx hb hr hlocks hP hD hK hS dX0_compare_43 ⟨hE.symm, rfl⟩
    · skip
      refine lv_iconst (v := (-1)) hx hb dX0_compare_17 (by decide) ?_
      have hE : f_X0_compare p0 p1 p2 p3 = (-1) := (by rw [f_X0_compare, if_neg c_1, if_pos c_2])
      exact x_iret hx hb hr hlocks hP hD hK hS dX0_compare_18 ⟨hE.symm, rfl⟩
