theorem ng0 {x : Int64} (h : ¬ x = 0) : ¬ -x = 0 := fun q => Int64.neg_ne_zero.mpr h q
theorem en_ix {x : Int32} (h1 : ¬ x < 0) (h2 : x < 6) : vp_in x 6 := by
  rw [ltI, show (0 : Int32).toInt = 0 by decide] at h1
  rw [ltI, show (6 : Int32).toInt = 6 by decide] at h2
  rw [vp_in_iff]
  omega
theorem hdV_X1_whole : yX1_whole.cls = RX1 ∧ yX1_whole.cls ≠ "java/lang/invoke/MethodHandle" ∧ yX1_whole.cls ≠ "java/lang/invoke/VarHandle" ∧ (parseMethodDescriptor yX1_whole.desc).map (fun d => d.parameters.length) = some 1 := by decide +kernel
theorem fi_X1_whole : ∀ w ∈ wsX10, w ∈ wsX1_whole := fun _ h => List.mem_cons_of_mem _ (List.mem_append_right _ h)
def f_X1_whole (vk : Int32) (vn : Int32) (p0 : Int64) : Int32 × Int32 × Int32 := if 2147483647 < p0 then (((-2), vk, vn)) else (if p0 < (-2147483648) then (((-2), vk, vn)) else ((1, 1, (p0).toInt32)))
abbrev rm_X1_whole : Room := { frames := 0, cells := 0, slots := 0, locals := 0 }
set_option maxHeartbeats 4000000 in
set_option maxRecDepth 100000 in
theorem cc_X1_whole (l : Launch) (dC : Nat → ClassId) (dI : Nat → Nat → Nat) (h0 h1 h2 : Nat) (cI cL : ClassId) (sz : Nat) (vk vn : Int32) (en : Nat → Int32) (nx : Nat → Int64) (vx vy vb : Int32) (p0 : Int64)   : Met l yX1_whole wsX1_whole rm_X1_whole (va_Pc [.ref h0, .long p0] (mPre dC dI h0 h1 h2 cI cL sz (vk, vn, en, nx, vx, vy, vb))) (mQi dC dI h0 h1 h2 cI cL (va_A (mW h0 h1 h2 cI cL (vk, vn, en, nx, vx, vy, vb)) sz) ((f_X1_whole vk vn p0).1) ((f_X1_whole vk vn p0).2.1, (f_X1_whole vk vn p0).2.2, en, nx, vx, vy, vb)) 0 0 (va_A (mW h0 h1 h2 cI cL (vk, vn, en, nx, vx, vy, vb)) sz) := by
  refine m_headi (cc := cX1_whole) (maxL := 3) (ret := some .int) (by decide) rfl rfl (Nat.le_of_ble_eq_true rfl) ?_
  intro p e s m below meth c ls A hx hb hr hlocks hml hown hts hA hP hD hK htb hS hl
  have hl : lv_has ls 3 [(0, .ref h0), (1, .long p0)] := hl
  refine lv_lload_n hx hb dX1_whole_0 rfl (lv_at hl 1 rfl) ?_
  refine lv_ldc2 (v := 2147483647) hx hb hown (hts (.constantLong RX1 25 (2147483647)) (by decide +kernel)) dX1_whole_1 ?_
  refine pl_gt (tgt := 16) hx hb dX1_whole_4 dX1_whole_5 (by decide) (fun c_1 => ?_) (fun c_1 => ?_)
  · skip
    refine lv_bipush (v := (-2)) hx hb dX1_whole_16 (by decide) ?_
    have hE : f_X1_whole vk vn p0 = ((-2), vk, vn) := (by rw [f_X1_whole, if_pos c_1])
    exact m_iret hx hb hr hlocks hP hD hK hS dX1_whole_18 ⟨by rw [hE], by rw [hE]⟩
  · skip
    refine lv_lload_n hx hb dX1_whole_8 rfl (lv_at hl 1 rfl) ?_
    refine lv_ldc2 (v := (-2147483648)) hx hb hown (hts (.constantLong RX1 27 (-2147483648)) (by decide +kernel)) dX1_whole_9 ?_
    refine pl_ge (tgt := 19) hx hb dX1_whole_12 dX1_whole_13 (by decide) (fun c_2 => ?_) (fun c_2 => ?_)
    · skip
      refine lv_aload_n hx hb dX1_whole_19 rfl (lv_at hl 0 rfl) ?_
      refine lv_iconst (v := 1) hx hb dX1_whole_20 (by decide) ?_
      refine va_put (D := (dC, dI)) (ci := 1) (v := .int 1) (ty := .int) (C := RX1) (T := TX1) (N := 7) hx hb hts fi_X1_whole tyX1 tyX1_ok nmX1 hown hK hP hD hS 0 rfl rfl 0 (by decide) (hts (.fieldLink RX1 9 "FixedPlaneModel" "kind" "I") (by decide +kernel)) (fun _ h9 => h9) rfl (by decide +kernel) rfl rfl (Nat.le_of_ble_eq_true rfl) dX1_whole_21 (fun H locs hP hD hS => ?_)
      have hP : va_P (dC, dI) vwCl (mW h0 h1 h2 cI cL (1, vn, en, nx, vx, vy, vb)) H := hP
      have hD : va_D A (mW h0 h1 h2 cI cL (1, vn, en, nx, vx, vy, vb)) := hD
      refine lv_aload_n hx hb dX1_whole_24 rfl (lv_at hl 0 rfl) ?_
      refine lv_lload_n hx hb dX1_whole_25 rfl (lv_at hl 1 rfl) ?_
      refine lv_l2i (v := (p0).toInt32) hx hb dX1_whole_26 rfl ?_
      refine va_put (D := (dC, dI)) (ci := 1) (v := .int (p0).toInt32) (ty := .int) (C := RX1) (T := TX1) (N := 7) hx hb hts fi_X1_whole tyX1 tyX1_ok nmX1 hown hK hP hD hS 0 rfl rfl 1 (by decide) (hts (.fieldLink RX1 29 "FixedPlaneModel" "number" "I") (by decide +kernel)) (fun _ h9 => h9) rfl (by decide +kernel) rfl rfl (Nat.le_of_ble_eq_true rfl) dX1_whole_27 (fun H locs hP hD hS => ?_)
      have hP : va_P (dC, dI) vwCl (mW h0 h1 h2 cI cL (1, (p0).toInt32, en, nx, vx, vy, vb)) H := hP
      have hD : va_D A (mW h0 h1 h2 cI cL (1, (p0).toInt32, en, nx, vx, vy, vb)) := hD
      refine lv_iconst (v := 1) hx hb dX1_whole_30 (by decide) ?_
      have hE : f_X1_whole vk vn p0 = (1, 1, (p0).toInt32) := (by rw [f_X1_whole, if_neg c_1, if_neg c_2])
      exact m_iret hx hb hr hlocks hP hD hK hS dX1_whole_31 ⟨by rw [hE], by rw [hE]⟩
    · skip
      refine lv_bipush (v := (-2)) hx hb dX1_whole_16 (by decide) ?_
      have hE : f_X1_whole vk vn p0 = ((-2), vk, vn) := (by rw [f_X1_whole, if_neg c_1, if_pos c_2])
      exact m_iret hx hb hr hlocks hP hD hK hS dX1_whole_18 ⟨by rw [hE], by rw [hE]⟩
theorem hdV_X1_real : yX1_real.cls = RX1 ∧ yX1_real.cls ≠ "java/lang/invoke/MethodHandle" ∧ yX1_real.cls ≠ "java/lang/invoke/VarHandle" ∧ (parseMethodDescriptor yX1_real.desc).map (fun d => d.parameters.length) = some 1 := by decide +kernel
theorem fi_X1_real : ∀ w ∈ wsX10, w ∈ wsX1_real := fun _ h => List.mem_cons_of_mem _ (List.mem_append_right _ h)
def f_X1_real (vk : Int32) (vn : Int32) (p0 : Int64) : Int32 × Int32 × Int32 := if 2147483647 < p0 then (((-2), vk, vn)) else (if p0 < (-2147483647) then (((-2), vk, vn)) else ((2, 2, (p0).toInt32)))
abbrev rm_X1_real : Room := { frames := 0, cells := 0, slots := 0, locals := 0 }
set_option maxHeartbeats 4000000 in
set_option maxRecDepth 100000 in
theorem cc_X1_real (l : Launch) (dC : Nat → ClassId) (dI : Nat → Nat → Nat) (h0 h1 h2 : Nat) (cI cL : ClassId) (sz : Nat) (vk vn : Int32) (en : Nat → Int32) (nx : Nat → Int64) (vx vy vb : Int32) (p0 : Int64)   : Met l yX1_real wsX1_real rm_X1_real (va_Pc [.ref h0, .long p0] (mPre dC dI h0 h1 h2 cI cL sz (vk, vn, en, nx, vx, vy, vb))) (mQi dC dI h0 h1 h2 cI cL (va_A (mW h0 h1 h2 cI cL (vk, vn, en, nx, vx, vy, vb)) sz) ((f_X1_real vk vn p0).1) ((f_X1_real vk vn p0).2.1, (f_X1_real vk vn p0).2.2, en, nx, vx, vy, vb)) 0 0 (va_A (mW h0 h1 h2 cI cL (vk, vn, en, nx, vx, vy, vb)) sz) := by
  refine m_headi (cc := cX1_real) (maxL := 3) (ret := some .int) (by decide) rfl rfl (Nat.le_of_ble_eq_true rfl) ?_
  intro p e s m below meth c ls A hx hb hr hlocks hml hown hts hA hP hD hK htb hS hl
  have hl : lv_has ls 3 [(0, .ref h0), (1, .long p0)] := hl
  refine lv_lload_n hx hb dX1_real_0 rfl (lv_at hl 1 rfl) ?_
  refine lv_ldc2 (v := 2147483647) hx hb hown (hts (.constantLong RX1 25 (2147483647)) (by decide +kernel)) dX1_real_1 ?_
  refine pl_gt (tgt := 16) hx hb dX1_real_4 dX1_real_5 (by decide) (fun c_1 => ?_) (fun c_1 => ?_)
  · skip
    refine lv_bipush (v := (-2)) hx hb dX1_real_16 (by decide) ?_
    have hE : f_X1_real vk vn p0 = ((-2), vk, vn) := (by rw [f_X1_real, if_pos c_1])
    exact m_iret hx hb hr hlocks hP hD hK hS dX1_real_18 ⟨by rw [hE], by rw [hE]⟩
  · skip
    refine lv_lload_n hx hb dX1_real_8 rfl (lv_at hl 1 rfl) ?_
    refine lv_ldc2 (v := (-2147483647)) hx hb hown (hts (.constantLong RX1 32 (-2147483647)) (by decide +kernel)) dX1_real_9 ?_
    refine pl_ge (tgt := 19) hx hb dX1_real_12 dX1_real_13 (by decide) (fun c_2 => ?_) (fun c_2 => ?_)
    · skip
      refine lv_aload_n hx hb dX1_real_19 rfl (lv_at hl 0 rfl) ?_
      refine lv_iconst (v := 2) hx hb dX1_real_20 (by decide) ?_
      refine va_put (D := (dC, dI)) (ci := 1) (v := .int 2) (ty := .int) (C := RX1) (T := TX1) (N := 7) hx hb hts fi_X1_real tyX1 tyX1_ok nmX1 hown hK hP hD hS 0 rfl rfl 0 (by decide) (hts (.fieldLink RX1 9 "FixedPlaneModel" "kind" "I") (by decide +kernel)) (fun _ h9 => h9) rfl (by decide +kernel) rfl rfl (Nat.le_of_ble_eq_true rfl) dX1_real_21 (fun H locs hP hD hS => ?_)
      have hP : va_P (dC, dI) vwCl (mW h0 h1 h2 cI cL (2, vn, en, nx, vx, vy, vb)) H := hP
      have hD : va_D A (mW h0 h1 h2 cI cL (2, vn, en, nx, vx, vy, vb)) := hD
      refine lv_aload_n hx hb dX1_real_24 rfl (lv_at hl 0 rfl) ?_
      refine lv_lload_n hx hb dX1_real_25 rfl (lv_at hl 1 rfl) ?_
      refine lv_l2i (v := (p0).toInt32) hx hb dX1_real_26 rfl ?_
      refine va_put (D := (dC, dI)) (ci := 1) (v := .int (p0).toInt32) (ty := .int) (C := RX1) (T := TX1) (N := 7) hx hb hts fi_X1_real tyX1 tyX1_ok nmX1 hown hK hP hD hS 0 rfl rfl 1 (by decide) (hts (.fieldLink RX1 29 "FixedPlaneModel" "number" "I") (by decide +kernel)) (fun _ h9 => h9) rfl (by decide +kernel) rfl rfl (Nat.le_of_ble_eq_true rfl) dX1_real_27 (fun H locs hP hD hS => ?_)
      have hP : va_P (dC, dI) vwCl (mW h0 h1 h2 cI cL (2, (p0).toInt32, en, nx, vx, vy, vb)) H := hP
      have hD : va_D A (mW h0 h1 h2 cI cL (2, (p0).toInt32, en, nx, vx, vy, vb)) := hD
      refine lv_iconst (v := 2) hx hb dX1_real_30 (by decide) ?_
      have hE : f_X1_real vk vn p0 = (2, 2, (p0).toInt32) := (by rw [f_X1_real, if_neg c_1, if_neg c_2])
      exact m_iret hx hb hr hlocks hP hD hK hS dX1_real_31 ⟨by rw [hE], by rw [hE]⟩
    · skip
      refine lv_bipush (v := (-2)) hx hb dX1_real_16 (by decide) ?_
      have hE : f_X1_real vk vn p0 = ((-2), vk, vn) := (by rw [f_X1_real, if_neg c_1, if_pos c_2])
      exact m_iret hx hb hr hlocks hP hD hK hS dX1_real_18 ⟨by rw [hE], by rw [hE]⟩
theorem hdV_X1_quotient : yX1_quotient.cls = RX1 ∧ yX1_quotient.cls ≠ "java/lang/invoke/MethodHandle" ∧ yX1_quotient.cls ≠ "java/lang/invoke/VarHandle" ∧ (parseMethodDescriptor yX1_quotient.desc).map (fun d => d.parameters.length) = some 3 := by decide +kernel
theorem fi_X1_quotient : ∀ w ∈ wsX10, w ∈ wsX1_quotient := fun _ h => List.mem_cons_of_mem _ (List.mem_append_right _ h)
def f_X1_quotient_0 (p0 : Int64) (p1 : Int64) : Int64 × Int32 := if p1 < 0 then (if 4294967296 < (f_X1_down ((-p0)) ((-p1))) then ((0, 1)) else (if (f_X1_down ((-p0)) ((-p1))) < (-4294967296) then ((0, 1)) else (if ((-p0) - ((f_X1_down ((-p0)) ((-p1))) * (-p1))) < ((-p1) - ((-p0) - ((f_X1_down ((-p0)) ((-p1))) * (-p1)))) then (((f_X1_down ((-p0)) ((-p1))), 0)) else ((((f_X1_down ((-p0)) ((-p1))) + 1), 0))))) else (if 4294967296 < (f_X1_down (p0) (p1)) then ((0, 1)) else (if (f_X1_down (p0) (p1)) < (-4294967296) then ((0, 1)) else (if (p0 - ((f_X1_down (p0) (p1)) * p1)) < (p1 - (p0 - ((f_X1_down (p0) (p1)) * p1))) then (((f_X1_down (p0) (p1)), 0)) else ((((f_X1_down (p0) (p1)) + 1), 0)))))
abbrev rm_X1_quotient_0 : Room := { frames := 1, cells := 0, slots := 0, locals := 41 }
set_option maxHeartbeats 4000000 in
set_option maxRecDepth 100000 in
theorem cc_X1_quotient_0 (l : Launch) (dC : Nat → ClassId) (dI : Nat → Nat → Nat) (h0 h1 h2 : Nat) (cI cL : ClassId) (sz : Nat) (vk vn : Int32) (en : Nat → Int32) (nx : Nat → Int64) (vx vy vb : Int32) (p0 : Int64) (p1 : Int64)  (hb0 : ¬ p1 = 0) : Met l yX1_quotient wsX1_quotient rm_X1_quotient_0 (va_Pc [.ref h0, .long p0, .long p1, .int 0] (mPre dC dI h0 h1 h2 cI cL sz (vk, vn, en, nx, vx, vy, vb))) (mQl dC dI h0 h1 h2 cI cL (va_A (mW h0 h1 h2 cI cL (vk, vn, en, nx, vx, vy, vb)) sz) ((f_X1_quotient_0 p0 p1).1) (vk, vn, en, nx, vx, vy, (f_X1_quotient_0 p0 p1).2)) 0 0 (va_A (mW h0 h1 h2 cI cL (vk, vn, en, nx, vx, vy, vb)) sz) := by
  refine m_headl (cc := cX1_quotient) (maxL := 16) (ret := some .long) (by decide) rfl rfl (Nat.le_of_ble_eq_true rfl) ?_
  intro p e s m below meth c ls A hx hb hr hlocks hml hown hts hA hP hD hK htb hS hl
  have hl : lv_has ls 16 [(0, .ref h0), (1, .long p0), (3, .long p1), (5, .int 0)] := hl
  refine lv_lload_n hx hb dX1_quotient_0 rfl (lv_at hl 2 rfl) ?_
  refine lv_lconst (v := 0) hx hb dX1_quotient_1 (by decide) ?_
  refine pl_ge (tgt := 11) hx hb dX1_quotient_2 dX1_quotient_3 (by decide) (fun c_1 => ?_) (fun c_1 => ?_)
  · skip
    refine lv_lload_n hx hb dX1_quotient_11 rfl (lv_at hl 1 rfl) ?_
    refine lv_lstore (lv' := [(6, .long p0), (0, .ref h0), (1, .long p0), (3, .long p1), (5, .int 0)]) hx hb dX1_quotient_12 hl (by decide) rfl (fun ls hl => ?_)
    refine lv_lload_n hx hb dX1_quotient_14 rfl (lv_at hl 3 rfl) ?_
    refine lv_lconst (v := 0) hx hb dX1_quotient_15 (by decide) ?_
    refine pl_ge (tgt := 25) hx hb dX1_quotient_16 dX1_quotient_17 (by decide) (fun _ => ?_) (fun q => absurd q (c_1))
    refine lv_lload_n hx hb dX1_quotient_25 rfl (lv_at hl 3 rfl) ?_
    refine lv_lstore (lv' := [(8, .long p1), (6, .long p0), (0, .ref h0), (1, .long p0), (3, .long p1), (5, .int 0)]) hx hb dX1_quotient_26 hl (by decide) rfl (fun ls hl => ?_)
    refine lv_lload hx hb dX1_quotient_28 (lv_at hl 1 rfl) ?_
    refine lv_lload hx hb dX1_quotient_30 (lv_at hl 0 rfl) ?_
    refine pu_Sl (As := [.long p0, .long p1]) (rest := []) ⟨hx, hb, hml, hown, hts⟩ (cc_X1_down l _ (p0) (p1) (hb0)) 2 gX1_quotient_X1_down rfl rfl rfl hdS_X1_down ⟨Nat.le_of_ble_eq_true rfl, Nat.le_of_ble_eq_true rfl⟩ kN_ok kN_at rfl hl.1 rfl (Nat.le_of_ble_eq_true rfl) dX1_quotient_32 ⟨Nat.zero_le _, Nat.zero_le _⟩ ?_
    refine lv_lstore (lv' := [(10, .long (f_X1_down (p0) (p1))), (8, .long p1), (6, .long p0), (0, .ref h0), (1, .long p0), (3, .long p1), (5, .int 0)]) hx hb dX1_quotient_35 hl (by decide) rfl (fun ls hl => ?_)
    refine lv_lload hx hb dX1_quotient_37 (lv_at hl 2 rfl) ?_
    refine lv_lload hx hb dX1_quotient_39 (lv_at hl 0 rfl) ?_
    refine lv_lload hx hb dX1_quotient_41 (lv_at hl 1 rfl) ?_
    refine lv_lmul hx hb dX1_quotient_43 ?_
    refine lv_lsub hx hb dX1_quotient_44 ?_
    refine lv_lstore (lv' := [(12, .long (p0 - ((f_X1_down (p0) (p1)) * p1))), (10, .long (f_X1_down (p0) (p1))), (8, .long p1), (6, .long p0), (0, .ref h0), (1, .long p0), (3, .long p1), (5, .int 0)]) hx hb dX1_quotient_45 hl (by decide) rfl (fun ls hl => ?_)
    refine lv_aload_n hx hb dX1_quotient_47 rfl (lv_at hl 4 rfl) ?_
    refine lv_lload hx hb dX1_quotient_48 (lv_at hl 1 rfl) ?_
    refine lv_ldc2 (v := 4294967296) hx hb hown (hts (.constantLong RX1 40 (4294967296)) (by decide +kernel)) dX1_quotient_50 ?_
    refine pl_gt (tgt := 66) hx hb dX1_quotient_53 dX1_quotient_54 (by decide) (fun c_3 => ?_) (fun c_3 => ?_)
    · skip
      refine lv_iconst (v := 1) hx hb dX1_quotient_66 (by decide) ?_
      refine lv_goto (tgt := 71) hx hb dX1_quotient_67 (by decide) ?_
      refine va_put (D := (dC, dI)) (ci := 1) (v := .int 1) (ty := .boolean) (C := RX1) (T := TX1) (N := 7) hx hb hts fi_X1_quotient tyX1 tyX1_ok nmX1 hown hK hP hD hS 0 rfl rfl 6 (by decide) (hts (.fieldLink RX1 44 "FixedPlaneModel" "beyond" "Z") (by decide +kernel)) (fun _ h9 => h9) rfl (by decide +kernel) rfl rfl (Nat.le_of_ble_eq_true rfl) dX1_quotient_71 (fun H locs hP hD hS => ?_)
      have hP : va_P (dC, dI) vwCl (mW h0 h1 h2 cI cL (vk, vn, en, nx, vx, vy, 1)) H := hP
      have hD : va_D A (mW h0 h1 h2 cI cL (vk, vn, en, nx, vx, vy, 1)) := hD
      refine lv_aload_n hx hb dX1_quotient_74 rfl (lv_at hl 4 rfl) ?_
      refine va_get (D := (dC, dI)) (ci := 1) (v := .int 1) (C := RX1) (T := TX1) (N := 7) hx hb hts fi_X1_quotient hown hK hP 0 rfl rfl 6 (by decide) (hts (.fieldLink RX1 44 "FixedPlaneModel" "beyond" "Z") (by decide +kernel)) (fun _ h9 => h9) rfl dX1_quotient_75 ?_
      refine lv_if_eq (tgt := 83) hx hb dX1_quotient_78 (by decide) (fun q => absurd q (by decide)) (fun _ => ?_)
      refine lv_lconst (v := 0) hx hb dX1_quotient_81 (by decide) ?_
      have hE : f_X1_quotient_0 p0 p1 = (0, 1) := (by rw [f_X1_quotient_0, if_neg c_1, if_pos c_3])
      exact m_lret hx hb hr hlocks hP hD hK hS dX1_quotient_82 ⟨by rw [hE], by rw [hE]⟩
    · skip
      refine lv_lload hx hb dX1_quotient_57 (lv_at hl 1 rfl) ?_
      refine lv_ldc2 (v := (-4294967296)) hx hb hown (hts (.constantLong RX1 42 (-4294967296)) (by decide +kernel)) dX1_quotient_59 ?_
      refine pl_ge (tgt := 70) hx hb dX1_quotient_62 dX1_quotient_63 (by decide) (fun c_5 => ?_) (fun c_5 => ?_)
      · skip
        refine lv_iconst (v := 0) hx hb dX1_quotient_70 (by decide) ?_
        refine va_put (D := (dC, dI)) (ci := 1) (v := .int 0) (ty := .boolean) (C := RX1) (T := TX1) (N := 7) hx hb hts fi_X1_quotient tyX1 tyX1_ok nmX1 hown hK hP hD hS 0 rfl rfl 6 (by decide) (hts (.fieldLink RX1 44 "FixedPlaneModel" "beyond" "Z") (by decide +kernel)) (fun _ h9 => h9) rfl (by decide +kernel) rfl rfl (Nat.le_of_ble_eq_true rfl) dX1_quotient_71 (fun H locs hP hD hS => ?_)
        have hP : va_P (dC, dI) vwCl (mW h0 h1 h2 cI cL (vk, vn, en, nx, vx, vy, 0)) H := hP
        have hD : va_D A (mW h0 h1 h2 cI cL (vk, vn, en, nx, vx, vy, 0)) := hD
        refine lv_aload_n hx hb dX1_quotient_74 rfl (lv_at hl 4 rfl) ?_
        refine va_get (D := (dC, dI)) (ci := 1) (v := .int 0) (C := RX1) (T := TX1) (N := 7) hx hb hts fi_X1_quotient hown hK hP 0 rfl rfl 6 (by decide) (hts (.fieldLink RX1 44 "FixedPlaneModel" "beyond" "Z") (by decide +kernel)) (fun _ h9 => h9) rfl dX1_quotient_75 ?_
        refine lv_if_eq (tgt := 83) hx hb dX1_quotient_78 (by decide) (fun _ => ?_) (fun q => absurd (by decide) q)
        refine lv_iconst (v := 0) hx hb dX1_quotient_83 (by decide) ?_
        refine lv_istore (lv' := [(14, .int 0), (12, .long (p0 - ((f_X1_down (p0) (p1)) * p1))), (10, .long (f_X1_down (p0) (p1))), (8, .long p1), (6, .long p0), (0, .ref h0), (1, .long p0), (3, .long p1), (5, .int 0)]) hx hb dX1_quotient_84 hl (by decide) rfl (fun ls hl => ?_)
        refine lv_iload hx hb dX1_quotient_86 (lv_at hl 0 rfl) ?_
        refine lv_iload hx hb dX1_quotient_88 (lv_at hl 8 rfl) ?_
        refine pi_ge (tgt := 159) hx hb dX1_quotient_90 (by decide) (fun _ => ?_) (fun q => absurd q (by decide))
        refine lv_lload hx hb dX1_quotient_159 (lv_at hl 1 rfl) ?_
        refine lv_lload hx hb dX1_quotient_161 (lv_at hl 3 rfl) ?_
        refine lv_lload hx hb dX1_quotient_163 (lv_at hl 1 rfl) ?_
        refine lv_lsub hx hb dX1_quotient_165 ?_
        refine pl_lt (tgt := 177) hx hb dX1_quotient_166 dX1_quotient_167 (by decide) (fun c_8 => ?_) (fun c_8 => ?_)
        · skip
          refine lv_lload hx hb dX1_quotient_177 (lv_at hl 2 rfl) ?_
          have hE : f_X1_quotient_0 p0 p1 = ((f_X1_down (p0) (p1)), 0) := (by rw [f_X1_quotient_0, if_neg c_1, if_neg c_3, if_neg c_5, if_pos c_8])
          exact m_lret hx hb hr hlocks hP hD hK hS dX1_quotient_179 ⟨by rw [hE], by rw [hE]⟩
        · skip
          refine lv_lload hx hb dX1_quotient_170 (lv_at hl 2 rfl) ?_
          refine lv_lconst (v := 1) hx hb dX1_quotient_172 (by decide) ?_
          refine lv_ladd hx hb dX1_quotient_173 ?_
          refine lv_goto (tgt := 179) hx hb dX1_quotient_174 (by decide) ?_
          have hE : f_X1_quotient_0 p0 p1 = (((f_X1_down (p0) (p1)) + 1), 0) := (by rw [f_X1_quotient_0, if_neg c_1, if_neg c_3, if_neg c_5, if_neg c_8])
          exact m_lret hx hb hr hlocks hP hD hK hS dX1_quotient_179 ⟨by rw [hE], by rw [hE]⟩
      · skip
        refine lv_iconst (v := 1) hx hb dX1_quotient_66 (by decide) ?_
        refine lv_goto (tgt := 71) hx hb dX1_quotient_67 (by decide) ?_
        refine va_put (D := (dC, dI)) (ci := 1) (v := .int 1) (ty := .boolean) (C := RX1) (T := TX1) (N := 7) hx hb hts fi_X1_quotient tyX1 tyX1_ok nmX1 hown hK hP hD hS 0 rfl rfl 6 (by decide) (hts (.fieldLink RX1 44 "FixedPlaneModel" "beyond" "Z") (by decide +kernel)) (fun _ h9 => h9) rfl (by decide +kernel) rfl rfl (Nat.le_of_ble_eq_true rfl) dX1_quotient_71 (fun H locs hP hD hS => ?_)
        have hP : va_P (dC, dI) vwCl (mW h0 h1 h2 cI cL (vk, vn, en, nx, vx, vy, 1)) H := hP
        have hD : va_D A (mW h0 h1 h2 cI cL (vk, vn, en, nx, vx, vy, 1)) := hD
        refine lv_aload_n hx hb dX1_quotient_74 rfl (lv_at hl 4 rfl) ?_
        refine va_get (D := (dC, dI)) (ci := 1) (v := .int 1) (C := RX1) (T := TX1) (N := 7) hx hb hts fi_X1_quotient hown hK hP 0 rfl rfl 6 (by decide) (hts (.fieldLink RX1 44 "FixedPlaneModel" "beyond" "Z") (by decide +kernel)) (fun _ h9 => h9) rfl dX1_quotient_75 ?_
        refine lv_if_eq (tgt := 83) hx hb dX1_quotient_78 (by decide) (fun q => absurd q (by decide)) (fun _ => ?_)
        refine lv_lconst (v := 0) hx hb dX1_quotient_81 (by decide) ?_
        have hE : f_X1_quotient_0 p0 p1 = (0, 1) := (by rw [f_X1_quotient_0, if_neg c_1, if_neg c_3, if_pos c_5])
        exact m_lret hx hb hr hlocks hP hD hK hS dX1_quotient_82 ⟨by rw [hE], by rw [hE]⟩
  · skip
    refine lv_lload_n hx hb dX1_quotient_6 rfl (lv_at hl 1 rfl) ?_
    refine lv_lneg hx hb dX1_quotient_7 ?_
    refine lv_goto (tgt := 12) hx hb dX1_quotient_8 (by decide) ?_
    refine lv_lstore (lv' := [(6, .long (-p0)), (0, .ref h0), (1, .long p0), (3, .long p1), (5, .int 0)]) hx hb dX1_quotient_12 hl (by decide) rfl (fun ls hl => ?_)
    refine lv_lload_n hx hb dX1_quotient_14 rfl (lv_at hl 3 rfl) ?_
    refine lv_lconst (v := 0) hx hb dX1_quotient_15 (by decide) ?_
    refine pl_ge (tgt := 25) hx hb dX1_quotient_16 dX1_quotient_17 (by decide) (fun q => absurd (c_1) q) (fun _ => ?_)
    refine lv_lload_n hx hb dX1_quotient_20 rfl (lv_at hl 3 rfl) ?_
    refine lv_lneg hx hb dX1_quotient_21 ?_
    refine lv_goto (tgt := 26) hx hb dX1_quotient_22 (by decide) ?_
    refine lv_lstore (lv' := [(8, .long (-p1)), (6, .long (-p0)), (0, .ref h0), (1, .long p0), (3, .long p1), (5, .int 0)]) hx hb dX1_quotient_26 hl (by decide) rfl (fun ls hl => ?_)
    refine lv_lload hx hb dX1_quotient_28 (lv_at hl 1 rfl) ?_
    refine lv_lload hx hb dX1_quotient_30 (lv_at hl 0 rfl) ?_
    refine pu_Sl (As := [.long (-p0), .long (-p1)]) (rest := []) ⟨hx, hb, hml, hown, hts⟩ (cc_X1_down l _ ((-p0)) ((-p1)) (ng0 hb0)) 2 gX1_quotient_X1_down rfl rfl rfl hdS_X1_down ⟨Nat.le_of_ble_eq_true rfl, Nat.le_of_ble_eq_true rfl⟩ kN_ok kN_at rfl hl.1 rfl (Nat.le_of_ble_eq_true rfl) dX1_quotient_32 ⟨Nat.zero_le _, Nat.zero_le _⟩ ?_
    refine lv_lstore (lv' := [(10, .long (f_X1_down ((-p0)) ((-p1)))), (8, .long (-p1)), (6, .long (-p0)), (0, .ref h0), (1, .long p0), (3, .long p1), (5, .int 0)]) hx hb dX1_quotient_35 hl (by decide) rfl (fun ls hl => ?_)
    refine lv_lload hx hb dX1_quotient_37 (lv_at hl 2 rfl) ?_
    refine lv_lload hx hb dX1_quotient_39 (lv_at hl 0 rfl) ?_
    refine lv_lload hx hb dX1_quotient_41 (lv_at hl 1 rfl) ?_
    refine lv_lmul hx hb dX1_quotient_43 ?_
    refine lv_lsub hx hb dX1_quotient_44 ?_
    refine lv_lstore (lv' := [(12, .long ((-p0) - ((f_X1_down ((-p0)) ((-p1))) * (-p1)))), (10, .long (f_X1_down ((-p0)) ((-p1)))), (8, .long (-p1)), (6, .long (-p0)), (0, .ref h0), (1, .long p0), (3, .long p1), (5, .int 0)]) hx hb dX1_quotient_45 hl (by decide) rfl (fun ls hl => ?_)
    refine lv_aload_n hx hb dX1_quotient_47 rfl (lv_at hl 4 rfl) ?_
    refine lv_lload hx hb dX1_quotient_48 (lv_at hl 1 rfl) ?_
    refine lv_ldc2 (v := 4294967296) hx hb hown (hts (.constantLong RX1 40 (4294967296)) (by decide +kernel)) dX1_quotient_50 ?_
    refine pl_gt (tgt := 66) hx hb dX1_quotient_53 dX1_quotient_54 (by decide) (fun c_11 => ?_) (fun c_11 => ?_)
    · skip
      refine lv_iconst (v := 1) hx hb dX1_quotient_66 (by decide) ?_
      refine lv_goto (tgt := 71) hx hb dX1_quotient_67 (by decide) ?_
      refine va_put (D := (dC, dI)) (ci := 1) (v := .int 1) (ty := .boolean) (C := RX1) (T := TX1) (N := 7) hx hb hts fi_X1_quotient tyX1 tyX1_ok nmX1 hown hK hP hD hS 0 rfl rfl 6 (by decide) (hts (.fieldLink RX1 44 "FixedPlaneModel" "beyond" "Z") (by decide +kernel)) (fun _ h9 => h9) rfl (by decide +kernel) rfl rfl (Nat.le_of_ble_eq_true rfl) dX1_quotient_71 (fun H locs hP hD hS => ?_)
      have hP : va_P (dC, dI) vwCl (mW h0 h1 h2 cI cL (vk, vn, en, nx, vx, vy, 1)) H := hP
      have hD : va_D A (mW h0 h1 h2 cI cL (vk, vn, en, nx, vx, vy, 1)) := hD
      refine lv_aload_n hx hb dX1_quotient_74 rfl (lv_at hl 4 rfl) ?_
      refine va_get (D := (dC, dI)) (ci := 1) (v := .int 1) (C := RX1) (T := TX1) (N := 7) hx hb hts fi_X1_quotient hown hK hP 0 rfl rfl 6 (by decide) (hts (.fieldLink RX1 44 "FixedPlaneModel" "beyond" "Z") (by decide +kernel)) (fun _ h9 => h9) rfl dX1_quotient_75 ?_
      refine lv_if_eq (tgt := 83) hx hb dX1_quotient_78 (by decide) (fun q => absurd q (by decide)) (fun _ => ?_)
      refine lv_lconst (v := 0) hx hb dX1_quotient_81 (by decide) ?_
      have hE : f_X1_quotient_0 p0 p1 = (0, 1) := (by rw [f_X1_quotient_0, if_pos c_1, if_pos c_11])
      exact m_lret hx hb hr hlocks hP hD hK hS dX1_quotient_82 ⟨by rw [hE], by rw [hE]⟩
    · skip
      refine lv_lload hx hb dX1_quotient_57 (lv_at hl 1 rfl) ?_
      refine lv_ldc2 (v := (-4294967296)) hx hb hown (hts (.constantLong RX1 42 (-4294967296)) (by decide +kernel)) dX1_quotient_59 ?_
      refine pl_ge (tgt := 70) hx hb dX1_quotient_62 dX1_quotient_63 (by decide) (fun c_13 => ?_) (fun c_13 => ?_)
      · skip
        refine lv_iconst (v := 0) hx hb dX1_quotient_70 (by decide) ?_
        refine va_put (D := (dC, dI)) (ci := 1) (v := .int 0) (ty := .boolean) (C := RX1) (T := TX1) (N := 7) hx hb hts fi_X1_quotient tyX1 tyX1_ok nmX1 hown hK hP hD hS 0 rfl rfl 6 (by decide) (hts (.fieldLink RX1 44 "FixedPlaneModel" "beyond" "Z") (by decide +kernel)) (fun _ h9 => h9) rfl (by decide +kernel) rfl rfl (Nat.le_of_ble_eq_true rfl) dX1_quotient_71 (fun H locs hP hD hS => ?_)
        have hP : va_P (dC, dI) vwCl (mW h0 h1 h2 cI cL (vk, vn, en, nx, vx, vy, 0)) H := hP
        have hD : va_D A (mW h0 h1 h2 cI cL (vk, vn, en, nx, vx, vy, 0)) := hD
        refine lv_aload_n hx hb dX1_quotient_74 rfl (lv_at hl 4 rfl) ?_
        refine va_get (D := (dC, dI)) (ci := 1) (v := .int 0) (C := RX1) (T := TX1) (N := 7) hx hb hts fi_X1_quotient hown hK hP 0 rfl rfl 6 (by decide) (hts (.fieldLink RX1 44 "FixedPlaneModel" "beyond" "Z") (by decide +kernel)) (fun _ h9 => h9) rfl dX1_quotient_75 ?_
        refine lv_if_eq (tgt := 83) hx hb dX1_quotient_78 (by decide) (fun _ => ?_) (fun q => absurd (by decide) q)
        refine lv_iconst (v := 0) hx hb dX1_quotient_83 (by decide) ?_
        refine lv_istore (lv' := [(14, .int 0), (12, .long ((-p0) - ((f_X1_down ((-p0)) ((-p1))) * (-p1)))), (10, .long (f_X1_down ((-p0)) ((-p1)))), (8, .long (-p1)), (6, .long (-p0)), (0, .ref h0), (1, .long p0), (3, .long p1), (5, .int 0)]) hx hb dX1_quotient_84 hl (by decide) rfl (fun ls hl => ?_)
        refine lv_iload hx hb dX1_quotient_86 (lv_at hl 0 rfl) ?_
        refine lv_iload hx hb dX1_quotient_88 (lv_at hl 8 rfl) ?_
        refine pi_ge (tgt := 159) hx hb dX1_quotient_90 (by decide) (fun _ => ?_) (fun q => absurd q (by decide))
        refine lv_lload hx hb dX1_quotient_159 (lv_at hl 1 rfl) ?_
        refine lv_lload hx hb dX1_quotient_161 (lv_at hl 3 rfl) ?_
        refine lv_lload hx hb dX1_quotient_163 (lv_at hl 1 rfl) ?_
        refine lv_lsub hx hb dX1_quotient_165 ?_
        refine pl_lt (tgt := 177) hx hb dX1_quotient_166 dX1_quotient_167 (by decide) (fun c_16 => ?_) (fun c_16 => ?_)
        · skip
          refine lv_lload hx hb dX1_quotient_177 (lv_at hl 2 rfl) ?_
          have hE : f_X1_quotient_0 p0 p1 = ((f_X1_down ((-p0)) ((-p1))), 0) := (by rw [f_X1_quotient_0, if_pos c_1, if_neg c_11, if_neg c_13, if_pos c_16])
          exact m_lret hx hb hr hlocks hP hD hK hS dX1_quotient_179 ⟨by rw [hE], by rw [hE]⟩
        · skip
          refine lv_lload hx hb dX1_quotient_170 (lv_at hl 2 rfl) ?_
          refine lv_lconst (v := 1) hx hb dX1_quotient_172 (by decide) ?_
          refine lv_ladd hx hb dX1_quotient_173 ?_
          refine lv_goto (tgt := 179) hx hb dX1_quotient_174 (by decide) ?_
          have hE : f_X1_quotient_0 p0 p1 = (((f_X1_down ((-p0)) ((-p1))) + 1), 0) := (by rw [f_X1_quotient_0, if_pos c_1, if_neg c_11, if_neg c_13, if_neg c_16])
          exact m_lret hx hb hr hlocks hP hD hK hS dX1_quotient_179 ⟨by rw [hE], by rw [hE]⟩
      · skip
        refine lv_iconst (v := 1) hx hb dX1_quotient_66 (by decide) ?_
        refine lv_goto (tgt := 71) hx hb dX1_quotient_67 (by decide) ?_
        refine va_put (D := (dC, dI)) (ci := 1) (v := .int 1) (ty := .boolean) (C := RX1) (T := TX1) (N := 7) hx hb hts fi_X1_quotient tyX1 tyX1_ok nmX1 hown hK hP hD hS 0 rfl rfl 6 (by decide) (hts (.fieldLink RX1 44 "FixedPlaneModel" "beyond" "Z") (by decide +kernel)) (fun _ h9 => h9) rfl (by decide +kernel) rfl rfl (Nat.le_of_ble_eq_true rfl) dX1_quotient_71 (fun H locs hP hD hS => ?_)
        have hP : va_P (dC, dI) vwCl (mW h0 h1 h2 cI cL (vk, vn, en, nx, vx, vy, 1)) H := hP
        have hD : va_D A (mW h0 h1 h2 cI cL (vk, vn, en, nx, vx, vy, 1)) := hD
        refine lv_aload_n hx hb dX1_quotient_74 rfl (lv_at hl 4 rfl) ?_
        refine va_get (D := (dC, dI)) (ci := 1) (v := .int 1) (C := RX1) (T := TX1) (N := 7) hx hb hts fi_X1_quotient hown hK hP 0 rfl rfl 6 (by decide) (hts (.fieldLink RX1 44 "FixedPlaneModel" "beyond" "Z") (by decide +kernel)) (fun _ h9 => h9) rfl dX1_quotient_75 ?_
        refine lv_if_eq (tgt := 83) hx hb dX1_quotient_78 (by decide) (fun q => absurd q (by decide)) (fun _ => ?_)
        refine lv_lconst (v := 0) hx hb dX1_quotient_81 (by decide) ?_
        have hE : f_X1_quotient_0 p0 p1 = (0, 1) := (by rw [f_X1_quotient_0, if_pos c_1, if_neg c_11, if_pos c_13])
        exact m_lret hx hb hr hlocks hP hD hK hS dX1_quotient_82 ⟨by rw [hE], by rw [hE]⟩
def f_X1_quotient_16_L86 (p0 : Int64) (p1 : Int64) : Nat → Int64 → Int64 → Int64 → Int64 × Int32
  | 0, sz, q, r => if r < (sz - r) then ((q, 0)) else (((q + 1), 0))
  | n + 1, sz, q, r => if r < (sz - r) then (f_X1_quotient_16_L86 p0 p1 n (sz) (((2 * q) + 0)) ((r + r))) else (f_X1_quotient_16_L86 p0 p1 n (sz) (((2 * q) + 1)) ((r - (sz - r))))
def f_X1_quotient_16 (p0 : Int64) (p1 : Int64) : Int64 × Int32 := if p1 < 0 then (if 4294967296 < (f_X1_down ((-p0)) ((-p1))) then ((0, 1)) else (if (f_X1_down ((-p0)) ((-p1))) < (-4294967296) then ((0, 1)) else (f_X1_quotient_16_L86 p0 p1 (16) ((-p1)) ((f_X1_down ((-p0)) ((-p1)))) (((-p0) - ((f_X1_down ((-p0)) ((-p1))) * (-p1))))))) else (if 4294967296 < (f_X1_down (p0) (p1)) then ((0, 1)) else (if (f_X1_down (p0) (p1)) < (-4294967296) then ((0, 1)) else (f_X1_quotient_16_L86 p0 p1 (16) (p1) ((f_X1_down (p0) (p1))) ((p0 - ((f_X1_down (p0) (p1)) * p1))))))
abbrev rm_X1_quotient_16 : Room := { frames := 1, cells := 0, slots := 0, locals := 41 }
set_option maxHeartbeats 4000000 in
set_option maxRecDepth 100000 in
theorem cc_X1_quotient_16 (l : Launch) (dC : Nat → ClassId) (dI : Nat → Nat → Nat) (h0 h1 h2 : Nat) (cI cL : ClassId) (sz : Nat) (vk vn : Int32) (en : Nat → Int32) (nx : Nat → Int64) (vx vy vb : Int32) (p0 : Int64) (p1 : Int64)  (hb0 : ¬ p1 = 0) : Met l yX1_quotient wsX1_quotient rm_X1_quotient_16 (va_Pc [.ref h0, .long p0, .long p1, .int 16] (mPre dC dI h0 h1 h2 cI cL sz (vk, vn, en, nx, vx, vy, vb))) (mQl dC dI h0 h1 h2 cI cL (va_A (mW h0 h1 h2 cI cL (vk, vn, en, nx, vx, vy, vb)) sz) ((f_X1_quotient_16 p0 p1).1) (vk, vn, en, nx, vx, vy, (f_X1_quotient_16 p0 p1).2)) 0 0 (va_A (mW h0 h1 h2 cI cL (vk, vn, en, nx, vx, vy, vb)) sz) := by
  refine m_headl (cc := cX1_quotient) (maxL := 16) (ret := some .long) (by decide) rfl rfl (Nat.le_of_ble_eq_true rfl) ?_
  intro p e s m below meth c ls A hx hb hr hlocks hml hown hts hA hP hD hK htb hS hl
  have hl : lv_has ls 16 [(0, .ref h0), (1, .long p0), (3, .long p1), (5, .int 16)] := hl
  have hL86 : ∀ (n : Nat) (sz : Int64) (q : Int64) (r : Int64), n ≤ 16 → (f_X1_quotient_16 p0 p1 = f_X1_quotient_16_L86 p0 p1 n sz q r) → ∀ (H : Heap) (locs : List Loc), va_P (dC, dI) vwCl (mW h0 h1 h2 cI cL (vk, vn, en, nx, vx, vy, 0)) H → va_D A (mW h0 h1 h2 cI cL (vk, vn, en, nx, vx, vy, 0)) → va_S A s.heap H locs → ∀ (ls : Array Slot), lv_has ls 16 [(5, .int 16), (8, .long sz), (10, .long q), (12, .long r), (14, .int (nI (16 - n)))] → W p l e (headSpec wsX1_quotient rm_X1_quotient_16).room s m ([.ref h0, .long p0, .long p1, .int 16] : List Value).toArray below meth c H locs 0 0 (MQ below (mQl dC dI h0 h1 h2 cI cL A ((f_X1_quotient_16 p0 p1).1) (vk, vn, en, nx, vx, vy, (f_X1_quotient_16 p0 p1).2)) ([.ref h0, .long p0, .long p1, .int 16] : List Value).toArray s 0 0 A) (F0 m 86 ls []) := by
    intro n
    induction n with
    | zero =>
      intro sz q r hI hF H locs hP hD hS ls hl
      refine lv_iload hx hb dX1_quotient_86 (lv_at hl 4 rfl) ?_
      refine lv_iload hx hb dX1_quotient_88 (lv_at hl 0 rfl) ?_
      refine pi_ge (tgt := 159) hx hb dX1_quotient_90 (by decide) (fun _ => ?_) (fun q => absurd q (by decide))
      refine lv_lload hx hb dX1_quotient_159 (lv_at hl 3 rfl) ?_
      refine lv_lload hx hb dX1_quotient_161 (lv_at hl 1 rfl) ?_
      refine lv_lload hx hb dX1_quotient_163 (lv_at hl 3 rfl) ?_
      refine lv_lsub hx hb dX1_quotient_165 ?_
      refine pl_lt (tgt := 177) hx hb dX1_quotient_166 dX1_quotient_167 (by decide) (fun c_2 => ?_) (fun c_2 => ?_)
      · skip
        refine lv_lload hx hb dX1_quotient_177 (lv_at hl 2 rfl) ?_
        have hE : f_X1_quotient_16 p0 p1 = (q, 0) := (by rw [hF, f_X1_quotient_16_L86, if_pos c_2])
        exact m_lret hx hb hr hlocks hP hD hK hS dX1_quotient_179 ⟨by rw [hE], by rw [hE]⟩
      · skip
        refine lv_lload hx hb dX1_quotient_170 (lv_at hl 2 rfl) ?_
        refine lv_lconst (v := 1) hx hb dX1_quotient_172 (by decide) ?_
        refine lv_ladd hx hb dX1_quotient_173 ?_
        refine lv_goto (tgt := 179) hx hb dX1_quotient_174 (by decide) ?_
        have hE : f_X1_quotient_16 p0 p1 = ((q + 1), 0) := (by rw [hF, f_X1_quotient_16_L86, if_neg c_2])
        exact m_lret hx hb hr hlocks hP hD hK hS dX1_quotient_179 ⟨by rw [hE], by rw [hE]⟩
    | succ n ih =>
      intro sz q r hI hF H locs hP hD hS ls hl
      refine lv_iload hx hb dX1_quotient_86 (lv_at hl 4 rfl) ?_
      refine lv_iload hx hb dX1_quotient_88 (lv_at hl 0 rfl) ?_
      refine pi_ge (tgt := 159) hx hb dX1_quotient_90 (by decide) (fun q => absurd (cn_lt (N := 16) rfl (by decide) hI) q) (fun _ => ?_)
      refine lv_lload hx hb dX1_quotient_93 (lv_at hl 3 rfl) ?_
      refine lv_lload hx hb dX1_quotient_95 (lv_at hl 1 rfl) ?_
      refine lv_lload hx hb dX1_quotient_97 (lv_at hl 3 rfl) ?_
      refine lv_lsub hx hb dX1_quotient_99 ?_
      refine pl_lt (tgt := 108) hx hb dX1_quotient_100 dX1_quotient_101 (by decide) (fun c_4 => ?_) (fun c_4 => ?_)
      · skip
        refine lv_iconst (v := 0) hx hb dX1_quotient_108 (by decide) ?_
        refine lv_istore (lv' := [(15, .int 0), (5, .int 16), (8, .long sz), (10, .long q), (12, .long r), (14, .int (nI (16 - (n + 1))))]) hx hb dX1_quotient_109 hl (by decide) rfl (fun ls hl => ?_)
        refine lv_ldc2 (v := 2) hx hb hown (hts (.constantLong RX1 48 (2)) (by decide +kernel)) dX1_quotient_111 ?_
        refine lv_lload hx hb dX1_quotient_114 (lv_at hl 3 rfl) ?_
        refine lv_lmul hx hb dX1_quotient_116 ?_
        refine lv_iload hx hb dX1_quotient_117 (lv_at hl 0 rfl) ?_
        refine lv_if_eq (tgt := 126) hx hb dX1_quotient_119 (by decide) (fun _ => ?_) (fun q => absurd (by decide) q)
        refine lv_lconst (v := 0) hx hb dX1_quotient_126 (by decide) ?_
        refine lv_ladd hx hb dX1_quotient_127 ?_
        refine lv_lstore (lv' := [(10, .long ((2 * q) + 0)), (15, .int 0), (5, .int 16), (8, .long sz), (12, .long r), (14, .int (nI (16 - (n + 1))))]) hx hb dX1_quotient_128 hl (by decide) rfl (fun ls hl => ?_)
        refine lv_iload hx hb dX1_quotient_130 (lv_at hl 1 rfl) ?_
        refine lv_if_eq (tgt := 146) hx hb dX1_quotient_132 (by decide) (fun _ => ?_) (fun q => absurd (by decide) q)
        refine lv_lload hx hb dX1_quotient_146 (lv_at hl 4 rfl) ?_
        refine lv_lload hx hb dX1_quotient_148 (lv_at hl 4 rfl) ?_
        refine lv_ladd hx hb dX1_quotient_150 ?_
        refine lv_lstore (lv' := [(12, .long (r + r)), (10, .long ((2 * q) + 0)), (15, .int 0), (5, .int 16), (8, .long sz), (14, .int (nI (16 - (n + 1))))]) hx hb dX1_quotient_151 hl (by decide) rfl (fun ls hl => ?_)
        refine lv_iinc (v := (nI (16 - n))) (lv' := [(14, .int (nI (16 - n))), (12, .long (r + r)), (10, .long ((2 * q) + 0)), (15, .int 0), (5, .int 16), (8, .long sz)]) (k := 5) hx hb dX1_quotient_153 hl rfl (cn_st hI) (by decide) rfl (fun ls hl => ?_)
        refine lv_goto (tgt := 86) hx hb dX1_quotient_156 (by decide) ?_
        exact ih (sz) (((2 * q) + 0)) ((r + r)) (by omega) (hF.trans (by rw [f_X1_quotient_16_L86, if_pos c_4])) _ _ hP hD hS ls (lv_sub hl [4, 5, 2, 1, 0] rfl)
      · skip
        refine lv_iconst (v := 1) hx hb dX1_quotient_104 (by decide) ?_
        refine lv_goto (tgt := 109) hx hb dX1_quotient_105 (by decide) ?_
        refine lv_istore (lv' := [(15, .int 1), (5, .int 16), (8, .long sz), (10, .long q), (12, .long r), (14, .int (nI (16 - (n + 1))))]) hx hb dX1_quotient_109 hl (by decide) rfl (fun ls hl => ?_)
        refine lv_ldc2 (v := 2) hx hb hown (hts (.constantLong RX1 48 (2)) (by decide +kernel)) dX1_quotient_111 ?_
        refine lv_lload hx hb dX1_quotient_114 (lv_at hl 3 rfl) ?_
        refine lv_lmul hx hb dX1_quotient_116 ?_
        refine lv_iload hx hb dX1_quotient_117 (lv_at hl 0 rfl) ?_
        refine lv_if_eq (tgt := 126) hx hb dX1_quotient_119 (by decide) (fun q => absurd q (by decide)) (fun _ => ?_)
        refine lv_lconst (v := 1) hx hb dX1_quotient_122 (by decide) ?_
        refine lv_goto (tgt := 127) hx hb dX1_quotient_123 (by decide) ?_
        refine lv_ladd hx hb dX1_quotient_127 ?_
        refine lv_lstore (lv' := [(10, .long ((2 * q) + 1)), (15, .int 1), (5, .int 16), (8, .long sz), (12, .long r), (14, .int (nI (16 - (n + 1))))]) hx hb dX1_quotient_128 hl (by decide) rfl (fun ls hl => ?_)
        refine lv_iload hx hb dX1_quotient_130 (lv_at hl 1 rfl) ?_
        refine lv_if_eq (tgt := 146) hx hb dX1_quotient_132 (by decide) (fun q => absurd q (by decide)) (fun _ => ?_)
        refine lv_lload hx hb dX1_quotient_135 (lv_at hl 4 rfl) ?_
        refine lv_lload hx hb dX1_quotient_137 (lv_at hl 3 rfl) ?_
        refine lv_lload hx hb dX1_quotient_139 (lv_at hl 4 rfl) ?_
        refine lv_lsub hx hb dX1_quotient_141 ?_
        refine lv_lsub hx hb dX1_quotient_142 ?_
        refine lv_goto (tgt := 151) hx hb dX1_quotient_143 (by decide) ?_
        refine lv_lstore (lv' := [(12, .long (r - (sz - r))), (10, .long ((2 * q) + 1)), (15, .int 1), (5, .int 16), (8, .long sz), (14, .int (nI (16 - (n + 1))))]) hx hb dX1_quotient_151 hl (by decide) rfl (fun ls hl => ?_)
        refine lv_iinc (v := (nI (16 - n))) (lv' := [(14, .int (nI (16 - n))), (12, .long (r - (sz - r))), (10, .long ((2 * q) + 1)), (15, .int 1), (5, .int 16), (8, .long sz)]) (k := 5) hx hb dX1_quotient_153 hl rfl (cn_st hI) (by decide) rfl (fun ls hl => ?_)
        refine lv_goto (tgt := 86) hx hb dX1_quotient_156 (by decide) ?_
        exact ih (sz) (((2 * q) + 1)) ((r - (sz - r))) (by omega) (hF.trans (by rw [f_X1_quotient_16_L86, if_neg c_4])) _ _ hP hD hS ls (lv_sub hl [4, 5, 2, 1, 0] rfl)
  refine lv_lload_n hx hb dX1_quotient_0 rfl (lv_at hl 2 rfl) ?_
  refine lv_lconst (v := 0) hx hb dX1_quotient_1 (by decide) ?_
  refine pl_ge (tgt := 11) hx hb dX1_quotient_2 dX1_quotient_3 (by decide) (fun c_9 => ?_) (fun c_9 => ?_)
  · skip
    refine lv_lload_n hx hb dX1_quotient_11 rfl (lv_at hl 1 rfl) ?_
    refine lv_lstore (lv' := [(6, .long p0), (0, .ref h0), (1, .long p0), (3, .long p1), (5, .int 16)]) hx hb dX1_quotient_12 hl (by decide) rfl (fun ls hl => ?_)
    refine lv_lload_n hx hb dX1_quotient_14 rfl (lv_at hl 3 rfl) ?_
    refine lv_lconst (v := 0) hx hb dX1_quotient_15 (by decide) ?_
    refine pl_ge (tgt := 25) hx hb dX1_quotient_16 dX1_quotient_17 (by decide) (fun _ => ?_) (fun q => absurd q (c_9))
    refine lv_lload_n hx hb dX1_quotient_25 rfl (lv_at hl 3 rfl) ?_
    refine lv_lstore (lv' := [(8, .long p1), (6, .long p0), (0, .ref h0), (1, .long p0), (3, .long p1), (5, .int 16)]) hx hb dX1_quotient_26 hl (by decide) rfl (fun ls hl => ?_)
    refine lv_lload hx hb dX1_quotient_28 (lv_at hl 1 rfl) ?_
    refine lv_lload hx hb dX1_quotient_30 (lv_at hl 0 rfl) ?_
    refine pu_Sl (As := [.long p0, .long p1]) (rest := []) ⟨hx, hb, hml, hown, hts⟩ (cc_X1_down l _ (p0) (p1) (hb0)) 2 gX1_quotient_X1_down rfl rfl rfl hdS_X1_down ⟨Nat.le_of_ble_eq_true rfl, Nat.le_of_ble_eq_true rfl⟩ kN_ok kN_at rfl hl.1 rfl (Nat.le_of_ble_eq_true rfl) dX1_quotient_32 ⟨Nat.zero_le _, Nat.zero_le _⟩ ?_
    refine lv_lstore (lv' := [(10, .long (f_X1_down (p0) (p1))), (8, .long p1), (6, .long p0), (0, .ref h0), (1, .long p0), (3, .long p1), (5, .int 16)]) hx hb dX1_quotient_35 hl (by decide) rfl (fun ls hl => ?_)
    refine lv_lload hx hb dX1_quotient_37 (lv_at hl 2 rfl) ?_
    refine lv_lload hx hb dX1_quotient_39 (lv_at hl 0 rfl) ?_
    refine lv_lload hx hb dX1_quotient_41 (lv_at hl 1 rfl) ?_
    refine lv_lmul hx hb dX1_quotient_43 ?_
    refine lv_lsub hx hb dX1_quotient_44 ?_
    refine lv_lstore (lv' := [(12, .long (p0 - ((f_X1_down (p0) (p1)) * p1))), (10, .long (f_X1_down (p0) (p1))), (8, .long p1), (6, .long p0), (0, .ref h0), (1, .long p0), (3, .long p1), (5, .int 16)]) hx hb dX1_quotient_45 hl (by decide) rfl (fun ls hl => ?_)
    refine lv_aload_n hx hb dX1_quotient_47 rfl (lv_at hl 4 rfl) ?_
    refine lv_lload hx hb dX1_quotient_48 (lv_at hl 1 rfl) ?_
    refine lv_ldc2 (v := 4294967296) hx hb hown (hts (.constantLong RX1 40 (4294967296)) (by decide +kernel)) dX1_quotient_50 ?_
    refine pl_gt (tgt := 66) hx hb dX1_quotient_53 dX1_quotient_54 (by decide) (fun c_11 => ?_) (fun c_11 => ?_)
    · skip
      refine lv_iconst (v := 1) hx hb dX1_quotient_66 (by decide) ?_
      refine lv_goto (tgt := 71) hx hb dX1_quotient_67 (by decide) ?_
      refine va_put (D := (dC, dI)) (ci := 1) (v := .int 1) (ty := .boolean) (C := RX1) (T := TX1) (N := 7) hx hb hts fi_X1_quotient tyX1 tyX1_ok nmX1 hown hK hP hD hS 0 rfl rfl 6 (by decide) (hts (.fieldLink RX1 44 "FixedPlaneModel" "beyond" "Z") (by decide +kernel)) (fun _ h9 => h9) rfl (by decide +kernel) rfl rfl (Nat.le_of_ble_eq_true rfl) dX1_quotient_71 (fun H locs hP hD hS => ?_)
      have hP : va_P (dC, dI) vwCl (mW h0 h1 h2 cI cL (vk, vn, en, nx, vx, vy, 1)) H := hP
      have hD : va_D A (mW h0 h1 h2 cI cL (vk, vn, en, nx, vx, vy, 1)) := hD
      refine lv_aload_n hx hb dX1_quotient_74 rfl (lv_at hl 4 rfl) ?_
      refine va_get (D := (dC, dI)) (ci := 1) (v := .int 1) (C := RX1) (T := TX1) (N := 7) hx hb hts fi_X1_quotient hown hK hP 0 rfl rfl 6 (by decide) (hts (.fieldLink RX1 44 "FixedPlaneModel" "beyond" "Z") (by decide +kernel)) (fun _ h9 => h9) rfl dX1_quotient_75 ?_
      refine lv_if_eq (tgt := 83) hx hb dX1_quotient_78 (by decide) (fun q => absurd q (by decide)) (fun _ => ?_)
      refine lv_lconst (v := 0) hx hb dX1_quotient_81 (by decide) ?_
      have hE : f_X1_quotient_16 p0 p1 = (0, 1) := (by rw [f_X1_quotient_16, if_neg c_9, if_pos c_11])
      exact m_lret hx hb hr hlocks hP hD hK hS dX1_quotient_82 ⟨by rw [hE], by rw [hE]⟩
    · skip
      refine lv_lload hx hb dX1_quotient_57 (lv_at hl 1 rfl) ?_
      refine lv_ldc2 (v := (-4294967296)) hx hb hown (hts (.constantLong RX1 42 (-4294967296)) (by decide +kernel)) dX1_quotient_59 ?_
      refine pl_ge (tgt := 70) hx hb dX1_quotient_62 dX1_quotient_63 (by decide) (fun c_13 => ?_) (fun c_13 => ?_)
      · skip
        refine lv_iconst (v := 0) hx hb dX1_quotient_70 (by decide) ?_
        refine va_put (D := (dC, dI)) (ci := 1) (v := .int 0) (ty := .boolean) (C := RX1) (T := TX1) (N := 7) hx hb hts fi_X1_quotient tyX1 tyX1_ok nmX1 hown hK hP hD hS 0 rfl rfl 6 (by decide) (hts (.fieldLink RX1 44 "FixedPlaneModel" "beyond" "Z") (by decide +kernel)) (fun _ h9 => h9) rfl (by decide +kernel) rfl rfl (Nat.le_of_ble_eq_true rfl) dX1_quotient_71 (fun H locs hP hD hS => ?_)
        have hP : va_P (dC, dI) vwCl (mW h0 h1 h2 cI cL (vk, vn, en, nx, vx, vy, 0)) H := hP
        have hD : va_D A (mW h0 h1 h2 cI cL (vk, vn, en, nx, vx, vy, 0)) := hD
        refine lv_aload_n hx hb dX1_quotient_74 rfl (lv_at hl 4 rfl) ?_
        refine va_get (D := (dC, dI)) (ci := 1) (v := .int 0) (C := RX1) (T := TX1) (N := 7) hx hb hts fi_X1_quotient hown hK hP 0 rfl rfl 6 (by decide) (hts (.fieldLink RX1 44 "FixedPlaneModel" "beyond" "Z") (by decide +kernel)) (fun _ h9 => h9) rfl dX1_quotient_75 ?_
        refine lv_if_eq (tgt := 83) hx hb dX1_quotient_78 (by decide) (fun _ => ?_) (fun q => absurd (by decide) q)
        refine lv_iconst (v := 0) hx hb dX1_quotient_83 (by decide) ?_
        refine lv_istore (lv' := [(14, .int 0), (12, .long (p0 - ((f_X1_down (p0) (p1)) * p1))), (10, .long (f_X1_down (p0) (p1))), (8, .long p1), (6, .long p0), (0, .ref h0), (1, .long p0), (3, .long p1), (5, .int 16)]) hx hb dX1_quotient_84 hl (by decide) rfl (fun ls hl => ?_)
        exact hL86 (16) (p1) ((f_X1_down (p0) (p1))) ((p0 - ((f_X1_down (p0) (p1)) * p1))) (by omega) (by rw [f_X1_quotient_16, if_neg c_9, if_neg c_11, if_neg c_13]) _ _ hP hD hS ls (lv_sub hl [8, 3, 2, 1, 0] rfl)
      · skip
        refine lv_iconst (v := 1) hx hb dX1_quotient_66 (by decide) ?_
        refine lv_goto (tgt := 71) hx hb dX1_quotient_67 (by decide) ?_
        refine va_put (D := (dC, dI)) (ci := 1) (v := .int 1) (ty := .boolean) (C := RX1) (T := TX1) (N := 7) hx hb hts fi_X1_quotient tyX1 tyX1_ok nmX1 hown hK hP hD hS 0 rfl rfl 6 (by decide) (hts (.fieldLink RX1 44 "FixedPlaneModel" "beyond" "Z") (by decide +kernel)) (fun _ h9 => h9) rfl (by decide +kernel) rfl rfl (Nat.le_of_ble_eq_true rfl) dX1_quotient_71 (fun H locs hP hD hS => ?_)
        have hP : va_P (dC, dI) vwCl (mW h0 h1 h2 cI cL (vk, vn, en, nx, vx, vy, 1)) H := hP
        have hD : va_D A (mW h0 h1 h2 cI cL (vk, vn, en, nx, vx, vy, 1)) := hD
        refine lv_aload_n hx hb dX1_quotient_74 rfl (lv_at hl 4 rfl) ?_
        refine va_get (D := (dC, dI)) (ci := 1) (v := .int 1) (C := RX1) (T := TX1) (N := 7) hx hb hts fi_X1_quotient hown hK hP 0 rfl rfl 6 (by decide) (hts (.fieldLink RX1 44 "FixedPlaneModel" "beyond" "Z") (by decide +kernel)) (fun _ h9 => h9) rfl dX1_quotient_75 ?_
        refine lv_if_eq (tgt := 83) hx hb dX1_quotient_78 (by decide) (fun q => absurd q (by decide)) (fun _ => ?_)
        refine lv_lconst (v := 0) hx hb dX1_quotient_81 (by decide) ?_
        have hE : f_X1_quotient_16 p0 p1 = (0, 1) := (by rw [f_X1_quotient_16, if_neg c_9, if_neg c_11, if_pos c_13])
        exact m_lret hx hb hr hlocks hP hD hK hS dX1_quotient_82 ⟨by rw [hE], by rw [hE]⟩
  · skip
    refine lv_lload_n hx hb dX1_quotient_6 rfl (lv_at hl 1 rfl) ?_
    refine lv_lneg hx hb dX1_quotient_7 ?_
    refine lv_goto (tgt := 12) hx hb dX1_quotient_8 (by decide) ?_
    refine lv_lstore (lv' := [(6, .long (-p0)), (0, .ref h0), (1, .long p0), (3, .long p1), (5, .int 16)]) hx hb dX1_quotient_12 hl (by decide) rfl (fun ls hl => ?_)
    refine lv_lload_n hx hb dX1_quotient_14 rfl (lv_at hl 3 rfl) ?_
    refine lv_lconst (v := 0) hx hb dX1_quotient_15 (by decide) ?_
    refine pl_ge (tgt := 25) hx hb dX1_quotient_16 dX1_quotient_17 (by decide) (fun q => absurd (c_9) q) (fun _ => ?_)
    refine lv_lload_n hx hb dX1_quotient_20 rfl (lv_at hl 3 rfl) ?_
    refine lv_lneg hx hb dX1_quotient_21 ?_
    refine lv_goto (tgt := 26) hx hb dX1_quotient_22 (by decide) ?_
    refine lv_lstore (lv' := [(8, .long (-p1)), (6, .long (-p0)), (0, .ref h0), (1, .long p0), (3, .long p1), (5, .int 16)]) hx hb dX1_quotient_26 hl (by decide) rfl (fun ls hl => ?_)
    refine lv_lload hx hb dX1_quotient_28 (lv_at hl 1 rfl) ?_
    refine lv_lload hx hb dX1_quotient_30 (lv_at hl 0 rfl) ?_
    refine pu_Sl (As := [.long (-p0), .long (-p1)]) (rest := []) ⟨hx, hb, hml, hown, hts⟩ (cc_X1_down l _ ((-p0)) ((-p1)) (ng0 hb0)) 2 gX1_quotient_X1_down rfl rfl rfl hdS_X1_down ⟨Nat.le_of_ble_eq_true rfl, Nat.le_of_ble_eq_true rfl⟩ kN_ok kN_at rfl hl.1 rfl (Nat.le_of_ble_eq_true rfl) dX1_quotient_32 ⟨Nat.zero_le _, Nat.zero_le _⟩ ?_
    refine lv_lstore (lv' := [(10, .long (f_X1_down ((-p0)) ((-p1)))), (8, .long (-p1)), (6, .long (-p0)), (0, .ref h0), (1, .long p0), (3, .long p1), (5, .int 16)]) hx hb dX1_quotient_35 hl (by decide) rfl (fun ls hl => ?_)
    refine lv_lload hx hb dX1_quotient_37 (lv_at hl 2 rfl) ?_
    refine lv_lload hx hb dX1_quotient_39 (lv_at hl 0 rfl) ?_
    refine lv_lload hx hb dX1_quotient_41 (lv_at hl 1 rfl) ?_
    refine lv_lmul hx hb dX1_quotient_43 ?_
    refine lv_lsub hx hb dX1_quotient_44 ?_
    refine lv_lstore (lv' := [(12, .long ((-p0) - ((f_X1_down ((-p0)) ((-p1))) * (-p1)))), (10, .long (f_X1_down ((-p0)) ((-p1)))), (8, .long (-p1)), (6, .long (-p0)), (0, .ref h0), (1, .long p0), (3, .long p1), (5, .int 16)]) hx hb dX1_quotient_45 hl (by decide) rfl (fun ls hl => ?_)
    refine lv_aload_n hx hb dX1_quotient_47 rfl (lv_at hl 4 rfl) ?_
    refine lv_lload hx hb dX1_quotient_48 (lv_at hl 1 rfl) ?_
    refine lv_ldc2 (v := 4294967296) hx hb hown (hts (.constantLong RX1 40 (4294967296)) (by decide +kernel)) dX1_quotient_50 ?_
    refine pl_gt (tgt := 66) hx hb dX1_quotient_53 dX1_quotient_54 (by decide) (fun c_17 => ?_) (fun c_17 => ?_)
    · skip
      refine lv_iconst (v := 1) hx hb dX1_quotient_66 (by decide) ?_
      refine lv_goto (tgt := 71) hx hb dX1_quotient_67 (by decide) ?_
      refine va_put (D := (dC, dI)) (ci := 1) (v := .int 1) (ty := .boolean) (C := RX1) (T := TX1) (N := 7) hx hb hts fi_X1_quotient tyX1 tyX1_ok nmX1 hown hK hP hD hS 0 rfl rfl 6 (by decide) (hts (.fieldLink RX1 44 "FixedPlaneModel" "beyond" "Z") (by decide +kernel)) (fun _ h9 => h9) rfl (by decide +kernel) rfl rfl (Nat.le_of_ble_eq_true rfl) dX1_quotient_71 (fun H locs hP hD hS => ?_)
      have hP : va_P (dC, dI) vwCl (mW h0 h1 h2 cI cL (vk, vn, en, nx, vx, vy, 1)) H := hP
      have hD : va_D A (mW h0 h1 h2 cI cL (vk, vn, en, nx, vx, vy, 1)) := hD
      refine lv_aload_n hx hb dX1_quotient_74 rfl (lv_at hl 4 rfl) ?_
      refine va_get (D := (dC, dI)) (ci := 1) (v := .int 1) (C := RX1) (T := TX1) (N := 7) hx hb hts fi_X1_quotient hown hK hP 0 rfl rfl 6 (by decide) (hts (.fieldLink RX1 44 "FixedPlaneModel" "beyond" "Z") (by decide +kernel)) (fun _ h9 => h9) rfl dX1_quotient_75 ?_
      refine lv_if_eq (tgt := 83) hx hb dX1_quotient_78 (by decide) (fun q => absurd q (by decide)) (fun _ => ?_)
      refine lv_lconst (v := 0) hx hb dX1_quotient_81 (by decide) ?_
      have hE : f_X1_quotient_16 p0 p1 = (0, 1) := (by rw [f_X1_quotient_16, if_pos c_9, if_pos c_17])
      exact m_lret hx hb hr hlocks hP hD hK hS dX1_quotient_82 ⟨by rw [hE], by rw [hE]⟩
    · skip
      refine lv_lload hx hb dX1_quotient_57 (lv_at hl 1 rfl) ?_
      refine lv_ldc2 (v := (-4294967296)) hx hb hown (hts (.constantLong RX1 42 (-4294967296)) (by decide +kernel)) dX1_quotient_59 ?_
      refine pl_ge (tgt := 70) hx hb dX1_quotient_62 dX1_quotient_63 (by decide) (fun c_19 => ?_) (fun c_19 => ?_)
      · skip
        refine lv_iconst (v := 0) hx hb dX1_quotient_70 (by decide) ?_
        refine va_put (D := (dC, dI)) (ci := 1) (v := .int 0) (ty := .boolean) (C := RX1) (T := TX1) (N := 7) hx hb hts fi_X1_quotient tyX1 tyX1_ok nmX1 hown hK hP hD hS 0 rfl rfl 6 (by decide) (hts (.fieldLink RX1 44 "FixedPlaneModel" "beyond" "Z") (by decide +kernel)) (fun _ h9 => h9) rfl (by decide +kernel) rfl rfl (Nat.le_of_ble_eq_true rfl) dX1_quotient_71 (fun H locs hP hD hS => ?_)
        have hP : va_P (dC, dI) vwCl (mW h0 h1 h2 cI cL (vk, vn, en, nx, vx, vy, 0)) H := hP
        have hD : va_D A (mW h0 h1 h2 cI cL (vk, vn, en, nx, vx, vy, 0)) := hD
        refine lv_aload_n hx hb dX1_quotient_74 rfl (lv_at hl 4 rfl) ?_
        refine va_get (D := (dC, dI)) (ci := 1) (v := .int 0) (C := RX1) (T := TX1) (N := 7) hx hb hts fi_X1_quotient hown hK hP 0 rfl rfl 6 (by decide) (hts (.fieldLink RX1 44 "FixedPlaneModel" "beyond" "Z") (by decide +kernel)) (fun _ h9 => h9) rfl dX1_quotient_75 ?_
        refine lv_if_eq (tgt := 83) hx hb dX1_quotient_78 (by decide) (fun _ => ?_) (fun q => absurd (by decide) q)
        refine lv_iconst (v := 0) hx hb dX1_quotient_83 (by decide) ?_
        refine lv_istore (lv' := [(14, .int 0), (12, .long ((-p0) - ((f_X1_down ((-p0)) ((-p1))) * (-p1)))), (10, .long (f_X1_down ((-p0)) ((-p1)))), (8, .long (-p1)), (6, .long (-p0)), (0, .ref h0), (1, .long p0), (3, .long p1), (5, .int 16)]) hx hb dX1_quotient_84 hl (by decide) rfl (fun ls hl => ?_)
        exact hL86 (16) ((-p1)) ((f_X1_down ((-p0)) ((-p1)))) (((-p0) - ((f_X1_down ((-p0)) ((-p1))) * (-p1)))) (by omega) (by rw [f_X1_quotient_16, if_pos c_9, if_neg c_17, if_neg c_19]) _ _ hP hD hS ls (lv_sub hl [8, 3, 2, 1, 0] rfl)
      · skip
        refine lv_iconst (v := 1) hx hb dX1_quotient_66 (by decide) ?_
        refine lv_goto (tgt := 71) hx hb dX1_quotient_67 (by decide) ?_
        refine va_put (D := (dC, dI)) (ci := 1) (v := .int 1) (ty := .boolean) (C := RX1) (T := TX1) (N := 7) hx hb hts fi_X1_quotient tyX1 tyX1_ok nmX1 hown hK hP hD hS 0 rfl rfl 6 (by decide) (hts (.fieldLink RX1 44 "FixedPlaneModel" "beyond" "Z") (by decide +kernel)) (fun _ h9 => h9) rfl (by decide +kernel) rfl rfl (Nat.le_of_ble_eq_true rfl) dX1_quotient_71 (fun H locs hP hD hS => ?_)
        have hP : va_P (dC, dI) vwCl (mW h0 h1 h2 cI cL (vk, vn, en, nx, vx, vy, 1)) H := hP
        have hD : va_D A (mW h0 h1 h2 cI cL (vk, vn, en, nx, vx, vy, 1)) := hD
        refine lv_aload_n hx hb dX1_quotient_74 rfl (lv_at hl 4 rfl) ?_
        refine va_get (D := (dC, dI)) (ci := 1) (v := .int 1) (C := RX1) (T := TX1) (N := 7) hx hb hts fi_X1_quotient hown hK hP 0 rfl rfl 6 (by decide) (hts (.fieldLink RX1 44 "FixedPlaneModel" "beyond" "Z") (by decide +kernel)) (fun _ h9 => h9) rfl dX1_quotient_75 ?_
        refine lv_if_eq (tgt := 83) hx hb dX1_quotient_78 (by decide) (fun q => absurd q (by decide)) (fun _ => ?_)
        refine lv_lconst (v := 0) hx hb dX1_quotient_81 (by decide) ?_
        have hE : f_X1_quotient_16 p0 p1 = (0, 1) := (by rw [f_X1_quotient_16, if_pos c_9, if_neg c_17, if_pos c_19])
        exact m_lret hx hb hr hlocks hP hD hK hS dX1_quotient_82 ⟨by rw [hE], by rw [hE]⟩
theorem hdV_X1_onWholes : yX1_onWholes.cls = RX1 ∧ yX1_onWholes.cls ≠ "java/lang/invoke/MethodHandle" ∧ yX1_onWholes.cls ≠ "java/lang/invoke/VarHandle" ∧ (parseMethodDescriptor yX1_onWholes.desc).map (fun d => d.parameters.length) = some 3 := by decide +kernel
theorem fi_X1_onWholes : ∀ w ∈ wsX10, w ∈ wsX1_onWholes := fun _ h => List.mem_cons_of_mem _ (List.mem_append_right _ h)
def f_X1_onWholes (vk : Int32) (vn : Int32) (p0 : Int32) (p1 : Int32) (p2 : Int32) : Int32 × Int32 × Int32 := if p0 = 4 then (if p2 = 0 then (((-3), vk, vn)) else ((f_X1_whole (vk) (vn) (((p1).toInt64 / (p2).toInt64))))) else (if p0 = 5 then (if p2 = 0 then (((-3), vk, vn)) else ((f_X1_whole (vk) (vn) (((p1).toInt64 - (p1).toInt64 / (p2).toInt64 * (p2).toInt64))))) else (if p0 = 7 then ((f_X1_whole (vk) (vn) (((p1 &&& p2)).toInt64))) else (if p0 = 8 then ((f_X1_whole (vk) (vn) (((p1 ||| p2)).toInt64))) else (if p0 = 9 then ((f_X1_whole (vk) (vn) (((p1 ^^^ p2)).toInt64))) else ((f_X1_whole (vk) (vn) (((f_X1_shifted (p1) (p2))).toInt64)))))))
abbrev rm_X1_onWholes : Room := { frames := 1, cells := 0, slots := 0, locals := 39 }
set_option maxHeartbeats 4000000 in
set_option maxRecDepth 100000 in
theorem cc_X1_onWholes (l : Launch) (dC : Nat → ClassId) (dI : Nat → Nat → Nat) (h0 h1 h2 : Nat) (cI cL : ClassId) (sz : Nat) (vk vn : Int32) (en : Nat → Int32) (nx : Nat → Int64) (vx vy vb : Int32) (p0 : Int32) (p1 : Int32) (p2 : Int32)   : Met l yX1_onWholes wsX1_onWholes rm_X1_onWholes (va_Pc [.ref h0, .int p0, .int p1, .int p2] (mPre dC dI h0 h1 h2 cI cL sz (vk, vn, en, nx, vx, vy, vb))) (mQi dC dI h0 h1 h2 cI cL (va_A (mW h0 h1 h2 cI cL (vk, vn, en, nx, vx, vy, vb)) sz) ((f_X1_onWholes vk vn p0 p1 p2).1) ((f_X1_onWholes vk vn p0 p1 p2).2.1, (f_X1_onWholes vk vn p0 p1 p2).2.2, en, nx, vx, vy, vb)) 0 0 (va_A (mW h0 h1 h2 cI cL (vk, vn, en, nx, vx, vy, vb)) sz) := by
  refine m_headi (cc := cX1_onWholes) (maxL := 4) (ret := some .int) (by decide) rfl rfl (Nat.le_of_ble_eq_true rfl) ?_
  intro p e s m below meth c ls A hx hb hr hlocks hml hown hts hA hP hD hK htb hS hl
  have hl : lv_has ls 4 [(0, .ref h0), (1, .int p0), (2, .int p1), (3, .int p2)] := hl
  refine lv_iload_n hx hb dX1_onWholes_0 rfl (lv_at hl 1 rfl) ?_
  by_cases c_1 : p0 = 4
  · skip
    refine lv_tableIn (tgt := 40) (off := 39) hx hb dX1_onWholes_1 (by rw [c_1]; decide) (by rw [c_1]; decide) (by rw [c_1]; decide) (by decide) ?_
    refine lv_iload_n hx hb dX1_onWholes_40 rfl (lv_at hl 3 rfl) ?_
    refine lv_if_ne (tgt := 49) hx hb dX1_onWholes_41 (by decide) (fun c_2 => ?_) (fun c_2 => ?_)
    · skip
      refine lv_aload_n hx hb dX1_onWholes_49 rfl (lv_at hl 0 rfl) ?_
      refine lv_iload_n hx hb dX1_onWholes_50 rfl (lv_at hl 2 rfl) ?_
      refine lv_i2l (v := (p1).toInt64) hx hb dX1_onWholes_51 rfl ?_
      refine lv_iload_n hx hb dX1_onWholes_52 rfl (lv_at hl 3 rfl) ?_
      refine lv_i2l (v := (p2).toInt64) hx hb dX1_onWholes_53 rfl ?_
      refine lv_ldiv hx hb dX1_onWholes_54 (i64_0 c_2) ?_
      refine mc_i (As := [.long ((p1).toInt64 / (p2).toInt64)]) (rest := []) ⟨hx, hb, hml, hown, hts⟩ (cc_X1_whole l dC dI h0 h1 h2 cI cL _ (vk) (vn) (en) (nx) (vx) (vy) (vb) (((p1).toInt64 / (p2).toInt64))) 1 gX1_onWholes_X1_whole rfl rfl rfl hdV_X1_whole ⟨Nat.le_of_ble_eq_true rfl, Nat.le_of_ble_eq_true rfl⟩ hP hD hK hS hA htb rfl hl.1 rfl (Nat.le_of_ble_eq_true rfl) dX1_onWholes_55 ⟨Nat.zero_le _, Nat.zero_le _⟩ (fun H locs hP hD hS => ?_)
      have hP : va_P (dC, dI) vwCl (mW h0 h1 h2 cI cL ((f_X1_whole (vk) (vn) (((p1).toInt64 / (p2).toInt64))).2.1, (f_X1_whole (vk) (vn) (((p1).toInt64 / (p2).toInt64))).2.2, en, nx, vx, vy, vb)) H := hP
      have hD : va_D A (mW h0 h1 h2 cI cL ((f_X1_whole (vk) (vn) (((p1).toInt64 / (p2).toInt64))).2.1, (f_X1_whole (vk) (vn) (((p1).toInt64 / (p2).toInt64))).2.2, en, nx, vx, vy, vb)) := hD
      have hE : f_X1_onWholes vk vn p0 p1 p2 = (f_X1_whole (vk) (vn) (((p1).toInt64 / (p2).toInt64))) := (by rw [f_X1_onWholes, if_pos c_1, if_neg c_2])
      exact m_iret hx hb hr hlocks hP hD hK hS dX1_onWholes_58 ⟨by rw [hE], by rw [hE]⟩
    · skip
      refine lv_bipush (v := (-3)) hx hb dX1_onWholes_44 (by decide) ?_
      refine lv_goto (tgt := 58) hx hb dX1_onWholes_46 (by decide) ?_
      have hE : f_X1_onWholes vk vn p0 p1 p2 = ((-3), vk, vn) := (by rw [f_X1_onWholes, if_pos c_1, if_pos c_2])
      exact m_iret hx hb hr hlocks hP hD hK hS dX1_onWholes_58 ⟨by rw [hE], by rw [hE]⟩
  by_cases c_3 : p0 = 5
  · skip
    refine lv_tableIn (tgt := 59) (off := 58) hx hb dX1_onWholes_1 (by rw [c_3]; decide) (by rw [c_3]; decide) (by rw [c_3]; decide) (by decide) ?_
    refine lv_iload_n hx hb dX1_onWholes_59 rfl (lv_at hl 3 rfl) ?_
    refine lv_if_ne (tgt := 68) hx hb dX1_onWholes_60 (by decide) (fun c_4 => ?_) (fun c_4 => ?_)
    · skip
      refine lv_aload_n hx hb dX1_onWholes_68 rfl (lv_at hl 0 rfl) ?_
      refine lv_iload_n hx hb dX1_onWholes_69 rfl (lv_at hl 2 rfl) ?_
      refine lv_i2l (v := (p1).toInt64) hx hb dX1_onWholes_70 rfl ?_
      refine lv_iload_n hx hb dX1_onWholes_71 rfl (lv_at hl 3 rfl) ?_
      refine lv_i2l (v := (p2).toInt64) hx hb dX1_onWholes_72 rfl ?_
      refine lv_lrem hx hb dX1_onWholes_73 (i64_0 c_4) ?_
      refine mc_i (As := [.long ((p1).toInt64 - (p1).toInt64 / (p2).toInt64 * (p2).toInt64)]) (rest := []) ⟨hx, hb, hml, hown, hts⟩ (cc_X1_whole l dC dI h0 h1 h2 cI cL _ (vk) (vn) (en) (nx) (vx) (vy) (vb) (((p1).toInt64 - (p1).toInt64 / (p2).toInt64 * (p2).toInt64))) 1 gX1_onWholes_X1_whole rfl rfl rfl hdV_X1_whole ⟨Nat.le_of_ble_eq_true rfl, Nat.le_of_ble_eq_true rfl⟩ hP hD hK hS hA htb rfl hl.1 rfl (Nat.le_of_ble_eq_true rfl) dX1_onWholes_74 ⟨Nat.zero_le _, Nat.zero_le _⟩ (fun H locs hP hD hS => ?_)
      have hP : va_P (dC, dI) vwCl (mW h0 h1 h2 cI cL ((f_X1_whole (vk) (vn) (((p1).toInt64 - (p1).toInt64 / (p2).toInt64 * (p2).toInt64))).2.1, (f_X1_whole (vk) (vn) (((p1).toInt64 - (p1).toInt64 / (p2).toInt64 * (p2).toInt64))).2.2, en, nx, vx, vy, vb)) H := hP
      have hD : va_D A (mW h0 h1 h2 cI cL ((f_X1_whole (vk) (vn) (((p1).toInt64 - (p1).toInt64 / (p2).toInt64 * (p2).toInt64))).2.1, (f_X1_whole (vk) (vn) (((p1).toInt64 - (p1).toInt64 / (p2).toInt64 * (p2).toInt64))).2.2, en, nx, vx, vy, vb)) := hD
      have hE : f_X1_onWholes vk vn p0 p1 p2 = (f_X1_whole (vk) (vn) (((p1).toInt64 - (p1).toInt64 / (p2).toInt64 * (p2).toInt64))) := (by rw [f_X1_onWholes, if_neg c_1, if_pos c_3, if_neg c_4])
      exact m_iret hx hb hr hlocks hP hD hK hS dX1_onWholes_77 ⟨by rw [hE], by rw [hE]⟩
    · skip
      refine lv_bipush (v := (-3)) hx hb dX1_onWholes_63 (by decide) ?_
      refine lv_goto (tgt := 77) hx hb dX1_onWholes_65 (by decide) ?_
      have hE : f_X1_onWholes vk vn p0 p1 p2 = ((-3), vk, vn) := (by rw [f_X1_onWholes, if_neg c_1, if_pos c_3, if_pos c_4])
      exact m_iret hx hb hr hlocks hP hD hK hS dX1_onWholes_77 ⟨by rw [hE], by rw [hE]⟩
  by_cases c_5 : p0 = 7
  · skip
    refine lv_tableIn (tgt := 78) (off := 77) hx hb dX1_onWholes_1 (by rw [c_5]; decide) (by rw [c_5]; decide) (by rw [c_5]; decide) (by decide) ?_
    refine lv_aload_n hx hb dX1_onWholes_78 rfl (lv_at hl 0 rfl) ?_
    refine lv_iload_n hx hb dX1_onWholes_79 rfl (lv_at hl 2 rfl) ?_
    refine lv_iload_n hx hb dX1_onWholes_80 rfl (lv_at hl 3 rfl) ?_
    refine lv_iand hx hb dX1_onWholes_81 ?_
    refine lv_i2l (v := ((p1 &&& p2)).toInt64) hx hb dX1_onWholes_82 rfl ?_
    refine mc_i (As := [.long ((p1 &&& p2)).toInt64]) (rest := []) ⟨hx, hb, hml, hown, hts⟩ (cc_X1_whole l dC dI h0 h1 h2 cI cL _ (vk) (vn) (en) (nx) (vx) (vy) (vb) (((p1 &&& p2)).toInt64)) 1 gX1_onWholes_X1_whole rfl rfl rfl hdV_X1_whole ⟨Nat.le_of_ble_eq_true rfl, Nat.le_of_ble_eq_true rfl⟩ hP hD hK hS hA htb rfl hl.1 rfl (Nat.le_of_ble_eq_true rfl) dX1_onWholes_83 ⟨Nat.zero_le _, Nat.zero_le _⟩ (fun H locs hP hD hS => ?_)
    have hP : va_P (dC, dI) vwCl (mW h0 h1 h2 cI cL ((f_X1_whole (vk) (vn) (((p1 &&& p2)).toInt64)).2.1, (f_X1_whole (vk) (vn) (((p1 &&& p2)).toInt64)).2.2, en, nx, vx, vy, vb)) H := hP
    have hD : va_D A (mW h0 h1 h2 cI cL ((f_X1_whole (vk) (vn) (((p1 &&& p2)).toInt64)).2.1, (f_X1_whole (vk) (vn) (((p1 &&& p2)).toInt64)).2.2, en, nx, vx, vy, vb)) := hD
    have hE : f_X1_onWholes vk vn p0 p1 p2 = (f_X1_whole (vk) (vn) (((p1 &&& p2)).toInt64)) := (by rw [f_X1_onWholes, if_neg c_1, if_neg c_3, if_pos c_5])
    exact m_iret hx hb hr hlocks hP hD hK hS dX1_onWholes_86 ⟨by rw [hE], by rw [hE]⟩
  by_cases c_6 : p0 = 8
  · skip
    refine lv_tableIn (tgt := 87) (off := 86) hx hb dX1_onWholes_1 (by rw [c_6]; decide) (by rw [c_6]; decide) (by rw [c_6]; decide) (by decide) ?_
    refine lv_aload_n hx hb dX1_onWholes_87 rfl (lv_at hl 0 rfl) ?_
    refine lv_iload_n hx hb dX1_onWholes_88 rfl (lv_at hl 2 rfl) ?_
    refine lv_iload_n hx hb dX1_onWholes_89 rfl (lv_at hl 3 rfl) ?_
    refine lv_ior hx hb dX1_onWholes_90 ?_
    refine lv_i2l (v := ((p1 ||| p2)).toInt64) hx hb dX1_onWholes_91 rfl ?_
    refine mc_i (As := [.long ((p1 ||| p2)).toInt64]) (rest := []) ⟨hx, hb, hml, hown, hts⟩ (cc_X1_whole l dC dI h0 h1 h2 cI cL _ (vk) (vn) (en) (nx) (vx) (vy) (vb) (((p1 ||| p2)).toInt64)) 1 gX1_onWholes_X1_whole rfl rfl rfl hdV_X1_whole ⟨Nat.le_of_ble_eq_true rfl, Nat.le_of_ble_eq_true rfl⟩ hP hD hK hS hA htb rfl hl.1 rfl (Nat.le_of_ble_eq_true rfl) dX1_onWholes_92 ⟨Nat.zero_le _, Nat.zero_le _⟩ (fun H locs hP hD hS => ?_)
    have hP : va_P (dC, dI) vwCl (mW h0 h1 h2 cI cL ((f_X1_whole (vk) (vn) (((p1 ||| p2)).toInt64)).2.1, (f_X1_whole (vk) (vn) (((p1 ||| p2)).toInt64)).2.2, en, nx, vx, vy, vb)) H := hP
    have hD : va_D A (mW h0 h1 h2 cI cL ((f_X1_whole (vk) (vn) (((p1 ||| p2)).toInt64)).2.1, (f_X1_whole (vk) (vn) (((p1 ||| p2)).toInt64)).2.2, en, nx, vx, vy, vb)) := hD
    have hE : f_X1_onWholes vk vn p0 p1 p2 = (f_X1_whole (vk) (vn) (((p1 ||| p2)).toInt64)) := (by rw [f_X1_onWholes, if_neg c_1, if_neg c_3, if_neg c_5, if_pos c_6])
    exact m_iret hx hb hr hlocks hP hD hK hS dX1_onWholes_95 ⟨by rw [hE], by rw [hE]⟩
  by_cases c_7 : p0 = 9
  · skip
    refine lv_tableIn (tgt := 96) (off := 95) hx hb dX1_onWholes_1 (by rw [c_7]; decide) (by rw [c_7]; decide) (by rw [c_7]; decide) (by decide) ?_
    refine lv_aload_n hx hb dX1_onWholes_96 rfl (lv_at hl 0 rfl) ?_
    refine lv_iload_n hx hb dX1_onWholes_97 rfl (lv_at hl 2 rfl) ?_
    refine lv_iload_n hx hb dX1_onWholes_98 rfl (lv_at hl 3 rfl) ?_
    refine lv_ixor hx hb dX1_onWholes_99 ?_
    refine lv_i2l (v := ((p1 ^^^ p2)).toInt64) hx hb dX1_onWholes_100 rfl ?_
    refine mc_i (As := [.long ((p1 ^^^ p2)).toInt64]) (rest := []) ⟨hx, hb, hml, hown, hts⟩ (cc_X1_whole l dC dI h0 h1 h2 cI cL _ (vk) (vn) (en) (nx) (vx) (vy) (vb) (((p1 ^^^ p2)).toInt64)) 1 gX1_onWholes_X1_whole rfl rfl rfl hdV_X1_whole ⟨Nat.le_of_ble_eq_true rfl, Nat.le_of_ble_eq_true rfl⟩ hP hD hK hS hA htb rfl hl.1 rfl (Nat.le_of_ble_eq_true rfl) dX1_onWholes_101 ⟨Nat.zero_le _, Nat.zero_le _⟩ (fun H locs hP hD hS => ?_)
    have hP : va_P (dC, dI) vwCl (mW h0 h1 h2 cI cL ((f_X1_whole (vk) (vn) (((p1 ^^^ p2)).toInt64)).2.1, (f_X1_whole (vk) (vn) (((p1 ^^^ p2)).toInt64)).2.2, en, nx, vx, vy, vb)) H := hP
    have hD : va_D A (mW h0 h1 h2 cI cL ((f_X1_whole (vk) (vn) (((p1 ^^^ p2)).toInt64)).2.1, (f_X1_whole (vk) (vn) (((p1 ^^^ p2)).toInt64)).2.2, en, nx, vx, vy, vb)) := hD
    have hE : f_X1_onWholes vk vn p0 p1 p2 = (f_X1_whole (vk) (vn) (((p1 ^^^ p2)).toInt64)) := (by rw [f_X1_onWholes, if_neg c_1, if_neg c_3, if_neg c_5, if_neg c_6, if_pos c_7])
    exact m_iret hx hb hr hlocks hP hD hK hS dX1_onWholes_104 ⟨by rw [hE], by rw [hE]⟩
  have hsw : p0.toInt < 4 ∨ 9 < p0.toInt ∨ p0 = 6 := by
    have q4 : p0.toInt ≠ 4 := fun q => c_1 (Int32.toInt_inj.mp (q.trans (by decide)))
    have q5 : p0.toInt ≠ 5 := fun q => c_3 (Int32.toInt_inj.mp (q.trans (by decide)))
    have q7 : p0.toInt ≠ 7 := fun q => c_5 (Int32.toInt_inj.mp (q.trans (by decide)))
    have q8 : p0.toInt ≠ 8 := fun q => c_6 (Int32.toInt_inj.mp (q.trans (by decide)))
    have q9 : p0.toInt ≠ 9 := fun q => c_7 (Int32.toInt_inj.mp (q.trans (by decide)))
    by_cases z6 : p0 = 6
    · simp [z6]
    have w6 : p0.toInt ≠ 6 := fun q => z6 (Int32.toInt_inj.mp (q.trans (by decide)))
    omega
  have hgo : ∀ {W1 : Prop}, W1 → W1 := fun h => h
  have hdf : W p l e (headSpec wsX1_onWholes rm_X1_onWholes).room s m ([.ref h0, .int p0, .int p1, .int p2] : List Value).toArray below meth c s.heap [] 0 0 (MQ below (mQi dC dI h0 h1 h2 cI cL A ((f_X1_onWholes vk vn p0 p1 p2).1) ((f_X1_onWholes vk vn p0 p1 p2).2.1, (f_X1_onWholes vk vn p0 p1 p2).2.2, en, nx, vx, vy, vb)) ([.ref h0, .int p0, .int p1, .int p2] : List Value).toArray s 0 0 A) (F0 m 105 ls []) := by
    refine lv_aload_n hx hb dX1_onWholes_105 rfl (lv_at hl 0 rfl) ?_
    refine lv_iload_n hx hb dX1_onWholes_106 rfl (lv_at hl 2 rfl) ?_
    refine lv_iload_n hx hb dX1_onWholes_107 rfl (lv_at hl 3 rfl) ?_
    refine pu_Si (As := [.int p1, .int p2]) (rest := [.ref h0]) ⟨hx, hb, hml, hown, hts⟩ (cc_X1_shifted l _ (p1) (p2)) 2 gX1_onWholes_X1_shifted rfl rfl rfl hdS_X1_shifted ⟨Nat.le_of_ble_eq_true rfl, Nat.le_of_ble_eq_true rfl⟩ kN_ok kN_at rfl hl.1 rfl (Nat.le_of_ble_eq_true rfl) dX1_onWholes_108 ⟨Nat.zero_le _, Nat.zero_le _⟩ ?_
    refine lv_i2l (v := ((f_X1_shifted (p1) (p2))).toInt64) hx hb dX1_onWholes_111 rfl ?_
    refine mc_i (As := [.long ((f_X1_shifted (p1) (p2))).toInt64]) (rest := []) ⟨hx, hb, hml, hown, hts⟩ (cc_X1_whole l dC dI h0 h1 h2 cI cL _ (vk) (vn) (en) (nx) (vx) (vy) (vb) (((f_X1_shifted (p1) (p2))).toInt64)) 1 gX1_onWholes_X1_whole rfl rfl rfl hdV_X1_whole ⟨Nat.le_of_ble_eq_true rfl, Nat.le_of_ble_eq_true rfl⟩ hP hD hK hS hA htb rfl hl.1 rfl (Nat.le_of_ble_eq_true rfl) dX1_onWholes_112 ⟨Nat.zero_le _, Nat.zero_le _⟩ (fun H locs hP hD hS => ?_)
    have hP : va_P (dC, dI) vwCl (mW h0 h1 h2 cI cL ((f_X1_whole (vk) (vn) (((f_X1_shifted (p1) (p2))).toInt64)).2.1, (f_X1_whole (vk) (vn) (((f_X1_shifted (p1) (p2))).toInt64)).2.2, en, nx, vx, vy, vb)) H := hP
    have hD : va_D A (mW h0 h1 h2 cI cL ((f_X1_whole (vk) (vn) (((f_X1_shifted (p1) (p2))).toInt64)).2.1, (f_X1_whole (vk) (vn) (((f_X1_shifted (p1) (p2))).toInt64)).2.2, en, nx, vx, vy, vb)) := hD
    have hE : f_X1_onWholes vk vn p0 p1 p2 = (f_X1_whole (vk) (vn) (((f_X1_shifted (p1) (p2))).toInt64)) := (by rw [f_X1_onWholes, if_neg c_1, if_neg c_3, if_neg c_5, if_neg c_6, if_neg c_7])
    exact m_iret hx hb hr hlocks hP hD hK hS dX1_onWholes_115 ⟨by rw [hE], by rw [hE]⟩
  rcases hsw with hsw | hsw | hsw
  · exact lv_tableOut (tgt := 105) hx hb dX1_onWholes_1 (Or.inl hsw) (by decide) hdf
  · exact lv_tableOut (tgt := 105) hx hb dX1_onWholes_1 (Or.inr hsw) (by decide) hdf
  · exact lv_tableIn (tgt := 105) (off := 104) hx hb dX1_onWholes_1 (by rw [hsw]; decide) (by rw [hsw]; decide) (by rw [hsw]; decide) (by decide) hdf
theorem hdV_X1_onWhole : yX1_onWhole.cls = RX1 ∧ yX1_onWhole.cls ≠ "java/lang/invoke/MethodHandle" ∧ yX1_onWhole.cls ≠ "java/lang/invoke/VarHandle" ∧ (parseMethodDescriptor yX1_onWhole.desc).map (fun d => d.parameters.length) = some 2 := by decide +kernel
theorem fi_X1_onWhole : ∀ w ∈ wsX10, w ∈ wsX1_onWhole := fun _ h => List.mem_cons_of_mem _ (List.mem_append_right _ h)
def f_X1_onWhole (vk : Int32) (vn : Int32) (p0 : Int32) (p1 : Int64) : Int32 × Int32 × Int32 := if p0 = 0 then ((f_X1_whole (vk) (vn) ((-p1)))) else (if p0 = 1 then (if p1 < 0 then ((f_X1_whole (vk) (vn) ((-p1)))) else ((f_X1_whole (vk) (vn) (p1)))) else ((f_X1_whole (vk) (vn) (p1))))
abbrev rm_X1_onWhole : Room := { frames := 1, cells := 0, slots := 0, locals := 38 }
set_option maxHeartbeats 4000000 in
set_option maxRecDepth 100000 in
theorem cc_X1_onWhole (l : Launch) (dC : Nat → ClassId) (dI : Nat → Nat → Nat) (h0 h1 h2 : Nat) (cI cL : ClassId) (sz : Nat) (vk vn : Int32) (en : Nat → Int32) (nx : Nat → Int64) (vx vy vb : Int32) (p0 : Int32) (p1 : Int64)   : Met l yX1_onWhole wsX1_onWhole rm_X1_onWhole (va_Pc [.ref h0, .int p0, .long p1] (mPre dC dI h0 h1 h2 cI cL sz (vk, vn, en, nx, vx, vy, vb))) (mQi dC dI h0 h1 h2 cI cL (va_A (mW h0 h1 h2 cI cL (vk, vn, en, nx, vx, vy, vb)) sz) ((f_X1_onWhole vk vn p0 p1).1) ((f_X1_onWhole vk vn p0 p1).2.1, (f_X1_onWhole vk vn p0 p1).2.2, en, nx, vx, vy, vb)) 0 0 (va_A (mW h0 h1 h2 cI cL (vk, vn, en, nx, vx, vy, vb)) sz) := by
  refine m_headi (cc := cX1_onWhole) (maxL := 4) (ret := some .int) (by decide) rfl rfl (Nat.le_of_ble_eq_true rfl) ?_
  intro p e s m below meth c ls A hx hb hr hlocks hml hown hts hA hP hD hK htb hS hl
  have hl : lv_has ls 4 [(0, .ref h0), (1, .int p0), (2, .long p1)] := hl
  refine lv_aload_n hx hb dX1_onWhole_0 rfl (lv_at hl 0 rfl) ?_
  refine lv_iload_n hx hb dX1_onWhole_1 rfl (lv_at hl 1 rfl) ?_
  refine lv_if_eq (tgt := 16) hx hb dX1_onWhole_2 (by decide) (fun c_1 => ?_) (fun c_1 => ?_)
  · skip
    refine lv_lload_n hx hb dX1_onWhole_16 rfl (lv_at hl 2 rfl) ?_
    refine lv_lneg hx hb dX1_onWhole_17 ?_
    refine lv_goto (tgt := 22) hx hb dX1_onWhole_18 (by decide) ?_
    refine mc_i (As := [.long (-p1)]) (rest := []) ⟨hx, hb, hml, hown, hts⟩ (cc_X1_whole l dC dI h0 h1 h2 cI cL _ (vk) (vn) (en) (nx) (vx) (vy) (vb) ((-p1))) 1 gX1_onWhole_X1_whole rfl rfl rfl hdV_X1_whole ⟨Nat.le_of_ble_eq_true rfl, Nat.le_of_ble_eq_true rfl⟩ hP hD hK hS hA htb rfl hl.1 rfl (Nat.le_of_ble_eq_true rfl) dX1_onWhole_22 ⟨Nat.zero_le _, Nat.zero_le _⟩ (fun H locs hP hD hS => ?_)
    have hP : va_P (dC, dI) vwCl (mW h0 h1 h2 cI cL ((f_X1_whole (vk) (vn) ((-p1))).2.1, (f_X1_whole (vk) (vn) ((-p1))).2.2, en, nx, vx, vy, vb)) H := hP
    have hD : va_D A (mW h0 h1 h2 cI cL ((f_X1_whole (vk) (vn) ((-p1))).2.1, (f_X1_whole (vk) (vn) ((-p1))).2.2, en, nx, vx, vy, vb)) := hD
    have hE : f_X1_onWhole vk vn p0 p1 = (f_X1_whole (vk) (vn) ((-p1))) := (by rw [f_X1_onWhole, if_pos c_1])
    exact m_iret hx hb hr hlocks hP hD hK hS dX1_onWhole_25 ⟨by rw [hE], by rw [hE]⟩
  · skip
    refine lv_iload_n hx hb dX1_onWhole_5 rfl (lv_at hl 1 rfl) ?_
    refine lv_iconst (v := 1) hx hb dX1_onWhole_6 (by decide) ?_
    refine lv_icmp_ne (tgt := 21) hx hb dX1_onWhole_7 (by decide) (fun c_2 => ?_) (fun c_2 => ?_)
    · skip
      refine lv_lload_n hx hb dX1_onWhole_21 rfl (lv_at hl 2 rfl) ?_
      refine mc_i (As := [.long p1]) (rest := []) ⟨hx, hb, hml, hown, hts⟩ (cc_X1_whole l dC dI h0 h1 h2 cI cL _ (vk) (vn) (en) (nx) (vx) (vy) (vb) (p1)) 1 gX1_onWhole_X1_whole rfl rfl rfl hdV_X1_whole ⟨Nat.le_of_ble_eq_true rfl, Nat.le_of_ble_eq_true rfl⟩ hP hD hK hS hA htb rfl hl.1 rfl (Nat.le_of_ble_eq_true rfl) dX1_onWhole_22 ⟨Nat.zero_le _, Nat.zero_le _⟩ (fun H locs hP hD hS => ?_)
      have hP : va_P (dC, dI) vwCl (mW h0 h1 h2 cI cL ((f_X1_whole (vk) (vn) (p1)).2.1, (f_X1_whole (vk) (vn) (p1)).2.2, en, nx, vx, vy, vb)) H := hP
      have hD : va_D A (mW h0 h1 h2 cI cL ((f_X1_whole (vk) (vn) (p1)).2.1, (f_X1_whole (vk) (vn) (p1)).2.2, en, nx, vx, vy, vb)) := hD
      have hE : f_X1_onWhole vk vn p0 p1 = (f_X1_whole (vk) (vn) (p1)) := (by rw [f_X1_onWhole, if_neg c_1, if_neg c_2])
      exact m_iret hx hb hr hlocks hP hD hK hS dX1_onWhole_25 ⟨by rw [hE], by rw [hE]⟩
    · skip
      refine lv_lload_n hx hb dX1_onWhole_10 rfl (lv_at hl 2 rfl) ?_
      refine lv_lconst (v := 0) hx hb dX1_onWhole_11 (by decide) ?_
      refine pl_ge (tgt := 21) hx hb dX1_onWhole_12 dX1_onWhole_13 (by decide) (fun c_3 => ?_) (fun c_3 => ?_)
      · skip
        refine lv_lload_n hx hb dX1_onWhole_21 rfl (lv_at hl 2 rfl) ?_
        refine mc_i (As := [.long p1]) (rest := []) ⟨hx, hb, hml, hown, hts⟩ (cc_X1_whole l dC dI h0 h1 h2 cI cL _ (vk) (vn) (en) (nx) (vx) (vy) (vb) (p1)) 1 gX1_onWhole_X1_whole rfl rfl rfl hdV_X1_whole ⟨Nat.le_of_ble_eq_true rfl, Nat.le_of_ble_eq_true rfl⟩ hP hD hK hS hA htb rfl hl.1 rfl (Nat.le_of_ble_eq_true rfl) dX1_onWhole_22 ⟨Nat.zero_le _, Nat.zero_le _⟩ (fun H locs hP hD hS => ?_)
        have hP : va_P (dC, dI) vwCl (mW h0 h1 h2 cI cL ((f_X1_whole (vk) (vn) (p1)).2.1, (f_X1_whole (vk) (vn) (p1)).2.2, en, nx, vx, vy, vb)) H := hP
        have hD : va_D A (mW h0 h1 h2 cI cL ((f_X1_whole (vk) (vn) (p1)).2.1, (f_X1_whole (vk) (vn) (p1)).2.2, en, nx, vx, vy, vb)) := hD
        have hE : f_X1_onWhole vk vn p0 p1 = (f_X1_whole (vk) (vn) (p1)) := (by rw [f_X1_onWhole, if_neg c_1, if_pos c_2, if_neg c_3])
        exact m_iret hx hb hr hlocks hP hD hK hS dX1_onWhole_25 ⟨by rw [hE], by rw [hE]⟩
      · skip
        refine lv_lload_n hx hb dX1_onWhole_16 rfl (lv_at hl 2 rfl) ?_
        refine lv_lneg hx hb dX1_onWhole_17 ?_
        refine lv_goto (tgt := 22) hx hb dX1_onWhole_18 (by decide) ?_
        refine mc_i (As := [.long (-p1)]) (rest := []) ⟨hx, hb, hml, hown, hts⟩ (cc_X1_whole l dC dI h0 h1 h2 cI cL _ (vk) (vn) (en) (nx) (vx) (vy) (vb) ((-p1))) 1 gX1_onWhole_X1_whole rfl rfl rfl hdV_X1_whole ⟨Nat.le_of_ble_eq_true rfl, Nat.le_of_ble_eq_true rfl⟩ hP hD hK hS hA htb rfl hl.1 rfl (Nat.le_of_ble_eq_true rfl) dX1_onWhole_22 ⟨Nat.zero_le _, Nat.zero_le _⟩ (fun H locs hP hD hS => ?_)
        have hP : va_P (dC, dI) vwCl (mW h0 h1 h2 cI cL ((f_X1_whole (vk) (vn) ((-p1))).2.1, (f_X1_whole (vk) (vn) ((-p1))).2.2, en, nx, vx, vy, vb)) H := hP
        have hD : va_D A (mW h0 h1 h2 cI cL ((f_X1_whole (vk) (vn) ((-p1))).2.1, (f_X1_whole (vk) (vn) ((-p1))).2.2, en, nx, vx, vy, vb)) := hD
        have hE : f_X1_onWhole vk vn p0 p1 = (f_X1_whole (vk) (vn) ((-p1))) := (by rw [f_X1_onWhole, if_neg c_1, if_pos c_2, if_pos c_3])
        exact m_iret hx hb hr hlocks hP hD hK hS dX1_onWhole_25 ⟨by rw [hE], by rw [hE]⟩
theorem hdV_X1_onReal : yX1_onReal.cls = RX1 ∧ yX1_onReal.cls ≠ "java/lang/invoke/MethodHandle" ∧ yX1_onReal.cls ≠ "java/lang/invoke/VarHandle" ∧ (parseMethodDescriptor yX1_onReal.desc).map (fun d => d.parameters.length) = some 2 := by decide +kernel
theorem fi_X1_onReal : ∀ w ∈ wsX10, w ∈ wsX1_onReal := fun _ h => List.mem_cons_of_mem _ (List.mem_append_right _ h)
def f_X1_onReal (vk : Int32) (vn : Int32) (p0 : Int32) (p1 : Int64) : Int32 × Int32 × Int32 := if ((f_X1_down (p1) (65536)) * 65536) = p1 then (if p0 = 0 then ((f_X1_real (vk) (vn) ((-p1)))) else (if p0 = 1 then (if p1 < 0 then ((f_X1_real (vk) (vn) ((-p1)))) else ((f_X1_real (vk) (vn) (p1)))) else (if p0 = 2 then ((f_X1_real (vk) (vn) (((f_X1_down (p1) (65536)) * 65536)))) else (if p0 = 3 then ((f_X1_real (vk) (vn) (((f_X1_down (p1) (65536)) * 65536)))) else (if p0 = 4 then ((f_X1_real (vk) (vn) (((f_X1_rounded (p1)) * 65536)))) else (if p0 = 5 then ((f_X1_real (vk) (vn) (((p1 / 65536) * 65536)))) else ((f_X1_whole (vk) (vn) ((p1 / 65536)))))))))) else (if p0 = 0 then ((f_X1_real (vk) (vn) ((-p1)))) else (if p0 = 1 then (if p1 < 0 then ((f_X1_real (vk) (vn) ((-p1)))) else ((f_X1_real (vk) (vn) (p1)))) else (if p0 = 2 then ((f_X1_real (vk) (vn) ((((f_X1_down (p1) (65536)) + 1) * 65536)))) else (if p0 = 3 then ((f_X1_real (vk) (vn) (((f_X1_down (p1) (65536)) * 65536)))) else (if p0 = 4 then ((f_X1_real (vk) (vn) (((f_X1_rounded (p1)) * 65536)))) else (if p0 = 5 then ((f_X1_real (vk) (vn) (((p1 / 65536) * 65536)))) else ((f_X1_whole (vk) (vn) ((p1 / 65536))))))))))
abbrev rm_X1_onReal : Room := { frames := 2, cells := 0, slots := 0, locals := 78 }
set_option maxHeartbeats 4000000 in
set_option maxRecDepth 100000 in
theorem cc_X1_onReal (l : Launch) (dC : Nat → ClassId) (dI : Nat → Nat → Nat) (h0 h1 h2 : Nat) (cI cL : ClassId) (sz : Nat) (vk vn : Int32) (en : Nat → Int32) (nx : Nat → Int64) (vx vy vb : Int32) (p0 : Int32) (p1 : Int64)   : Met l yX1_onReal wsX1_onReal rm_X1_onReal (va_Pc [.ref h0, .int p0, .long p1] (mPre dC dI h0 h1 h2 cI cL sz (vk, vn, en, nx, vx, vy, vb))) (mQi dC dI h0 h1 h2 cI cL (va_A (mW h0 h1 h2 cI cL (vk, vn, en, nx, vx, vy, vb)) sz) ((f_X1_onReal vk vn p0 p1).1) ((f_X1_onReal vk vn p0 p1).2.1, (f_X1_onReal vk vn p0 p1).2.2, en, nx, vx, vy, vb)) 0 0 (va_A (mW h0 h1 h2 cI cL (vk, vn, en, nx, vx, vy, vb)) sz) := by
  refine m_headi (cc := cX1_onReal) (maxL := 7) (ret := some .int) (by decide) rfl rfl (Nat.le_of_ble_eq_true rfl) ?_
  intro p e s m below meth c ls A hx hb hr hlocks hml hown hts hA hP hD hK htb hS hl
  have hl : lv_has ls 7 [(0, .ref h0), (1, .int p0), (2, .long p1)] := hl
  refine lv_lload_n hx hb dX1_onReal_0 rfl (lv_at hl 2 rfl) ?_
  refine lv_ldc2 (v := 65536) hx hb hown (hts (.constantLong RX1 23 (65536)) (by decide +kernel)) dX1_onReal_1 ?_
  refine pu_Sl (As := [.long p1, .long 65536]) (rest := []) ⟨hx, hb, hml, hown, hts⟩ (cc_X1_down l _ (p1) (65536) (by decide)) 2 gX1_onReal_X1_down rfl rfl rfl hdS_X1_down ⟨Nat.le_of_ble_eq_true rfl, Nat.le_of_ble_eq_true rfl⟩ kN_ok kN_at rfl hl.1 rfl (Nat.le_of_ble_eq_true rfl) dX1_onReal_4 ⟨Nat.zero_le _, Nat.zero_le _⟩ ?_
  refine lv_lstore (lv' := [(4, .long (f_X1_down (p1) (65536))), (0, .ref h0), (1, .int p0), (2, .long p1)]) hx hb dX1_onReal_7 hl (by decide) rfl (fun ls hl => ?_)
  refine lv_lload hx hb dX1_onReal_9 (lv_at hl 0 rfl) ?_
  refine lv_ldc2 (v := 65536) hx hb hown (hts (.constantLong RX1 23 (65536)) (by decide +kernel)) dX1_onReal_11 ?_
  refine lv_lmul hx hb dX1_onReal_14 ?_
  refine lv_lload_n hx hb dX1_onReal_15 rfl (lv_at hl 3 rfl) ?_
  refine pl_ne (tgt := 24) hx hb dX1_onReal_16 dX1_onReal_17 (by decide) (fun c_1 => ?_) (fun c_1 => ?_)
  · skip
    refine lv_iconst (v := 0) hx hb dX1_onReal_24 (by decide) ?_
    refine lv_istore (lv' := [(6, .int 0), (4, .long (f_X1_down (p1) (65536))), (0, .ref h0), (1, .int p0), (2, .long p1)]) hx hb dX1_onReal_25 hl (by decide) rfl (fun ls hl => ?_)
    refine lv_iload_n hx hb dX1_onReal_27 rfl (lv_at hl 3 rfl) ?_
    by_cases c_2 : p0 = 0
    · skip
      refine lv_tableIn (tgt := 68) (off := 40) hx hb dX1_onReal_28 (by rw [c_2]; decide) (by rw [c_2]; decide) (by rw [c_2]; decide) (by decide) ?_
      refine lv_aload_n hx hb dX1_onReal_68 rfl (lv_at hl 2 rfl) ?_
      refine lv_lload_n hx hb dX1_onReal_69 rfl (lv_at hl 4 rfl) ?_
      refine lv_lneg hx hb dX1_onReal_70 ?_
      refine mc_i (As := [.long (-p1)]) (rest := []) ⟨hx, hb, hml, hown, hts⟩ (cc_X1_real l dC dI h0 h1 h2 cI cL _ (vk) (vn) (en) (nx) (vx) (vy) (vb) ((-p1))) 1 gX1_onReal_X1_real rfl rfl rfl hdV_X1_real ⟨Nat.le_of_ble_eq_true rfl, Nat.le_of_ble_eq_true rfl⟩ hP hD hK hS hA htb rfl hl.1 rfl (Nat.le_of_ble_eq_true rfl) dX1_onReal_71 ⟨Nat.zero_le _, Nat.zero_le _⟩ (fun H locs hP hD hS => ?_)
      have hP : va_P (dC, dI) vwCl (mW h0 h1 h2 cI cL ((f_X1_real (vk) (vn) ((-p1))).2.1, (f_X1_real (vk) (vn) ((-p1))).2.2, en, nx, vx, vy, vb)) H := hP
      have hD : va_D A (mW h0 h1 h2 cI cL ((f_X1_real (vk) (vn) ((-p1))).2.1, (f_X1_real (vk) (vn) ((-p1))).2.2, en, nx, vx, vy, vb)) := hD
      have hE : f_X1_onReal vk vn p0 p1 = (f_X1_real (vk) (vn) ((-p1))) := (by rw [f_X1_onReal, if_neg c_1, if_pos c_2])
      exact m_iret hx hb hr hlocks hP hD hK hS dX1_onReal_74 ⟨by rw [hE], by rw [hE]⟩
    by_cases c_3 : p0 = 1
    · skip
      refine lv_tableIn (tgt := 75) (off := 47) hx hb dX1_onReal_28 (by rw [c_3]; decide) (by rw [c_3]; decide) (by rw [c_3]; decide) (by decide) ?_
      refine lv_aload_n hx hb dX1_onReal_75 rfl (lv_at hl 2 rfl) ?_
      refine lv_lload_n hx hb dX1_onReal_76 rfl (lv_at hl 4 rfl) ?_
      refine lv_lconst (v := 0) hx hb dX1_onReal_77 (by decide) ?_
      refine pl_ge (tgt := 87) hx hb dX1_onReal_78 dX1_onReal_79 (by decide) (fun c_4 => ?_) (fun c_4 => ?_)
      · skip
        refine lv_lload_n hx hb dX1_onReal_87 rfl (lv_at hl 4 rfl) ?_
        refine mc_i (As := [.long p1]) (rest := []) ⟨hx, hb, hml, hown, hts⟩ (cc_X1_real l dC dI h0 h1 h2 cI cL _ (vk) (vn) (en) (nx) (vx) (vy) (vb) (p1)) 1 gX1_onReal_X1_real rfl rfl rfl hdV_X1_real ⟨Nat.le_of_ble_eq_true rfl, Nat.le_of_ble_eq_true rfl⟩ hP hD hK hS hA htb rfl hl.1 rfl (Nat.le_of_ble_eq_true rfl) dX1_onReal_88 ⟨Nat.zero_le _, Nat.zero_le _⟩ (fun H locs hP hD hS => ?_)
        have hP : va_P (dC, dI) vwCl (mW h0 h1 h2 cI cL ((f_X1_real (vk) (vn) (p1)).2.1, (f_X1_real (vk) (vn) (p1)).2.2, en, nx, vx, vy, vb)) H := hP
        have hD : va_D A (mW h0 h1 h2 cI cL ((f_X1_real (vk) (vn) (p1)).2.1, (f_X1_real (vk) (vn) (p1)).2.2, en, nx, vx, vy, vb)) := hD
        have hE : f_X1_onReal vk vn p0 p1 = (f_X1_real (vk) (vn) (p1)) := (by rw [f_X1_onReal, if_neg c_1, if_neg c_2, if_pos c_3, if_neg c_4])
        exact m_iret hx hb hr hlocks hP hD hK hS dX1_onReal_91 ⟨by rw [hE], by rw [hE]⟩
      · skip
        refine lv_lload_n hx hb dX1_onReal_82 rfl (lv_at hl 4 rfl) ?_
        refine lv_lneg hx hb dX1_onReal_83 ?_
        refine lv_goto (tgt := 88) hx hb dX1_onReal_84 (by decide) ?_
        refine mc_i (As := [.long (-p1)]) (rest := []) ⟨hx, hb, hml, hown, hts⟩ (cc_X1_real l dC dI h0 h1 h2 cI cL _ (vk) (vn) (en) (nx) (vx) (vy) (vb) ((-p1))) 1 gX1_onReal_X1_real rfl rfl rfl hdV_X1_real ⟨Nat.le_of_ble_eq_true rfl, Nat.le_of_ble_eq_true rfl⟩ hP hD hK hS hA htb rfl hl.1 rfl (Nat.le_of_ble_eq_true rfl) dX1_onReal_88 ⟨Nat.zero_le _, Nat.zero_le _⟩ (fun H locs hP hD hS => ?_)
        have hP : va_P (dC, dI) vwCl (mW h0 h1 h2 cI cL ((f_X1_real (vk) (vn) ((-p1))).2.1, (f_X1_real (vk) (vn) ((-p1))).2.2, en, nx, vx, vy, vb)) H := hP
        have hD : va_D A (mW h0 h1 h2 cI cL ((f_X1_real (vk) (vn) ((-p1))).2.1, (f_X1_real (vk) (vn) ((-p1))).2.2, en, nx, vx, vy, vb)) := hD
        have hE : f_X1_onReal vk vn p0 p1 = (f_X1_real (vk) (vn) ((-p1))) := (by rw [f_X1_onReal, if_neg c_1, if_neg c_2, if_pos c_3, if_pos c_4])
        exact m_iret hx hb hr hlocks hP hD hK hS dX1_onReal_91 ⟨by rw [hE], by rw [hE]⟩
    by_cases c_5 : p0 = 2
    · skip
      refine lv_tableIn (tgt := 92) (off := 64) hx hb dX1_onReal_28 (by rw [c_5]; decide) (by rw [c_5]; decide) (by rw [c_5]; decide) (by decide) ?_
      refine lv_aload_n hx hb dX1_onReal_92 rfl (lv_at hl 2 rfl) ?_
      refine lv_iload hx hb dX1_onReal_93 (lv_at hl 0 rfl) ?_
      refine lv_if_eq (tgt := 103) hx hb dX1_onReal_95 (by decide) (fun _ => ?_) (fun q => absurd (by decide) q)
      refine lv_lload hx hb dX1_onReal_103 (lv_at hl 1 rfl) ?_
      refine lv_lconst (v := 1) hx hb dX1_onReal_105 (by decide) ?_
      refine lv_ladd hx hb dX1_onReal_106 ?_
      refine lv_ldc2 (v := 65536) hx hb hown (hts (.constantLong RX1 23 (65536)) (by decide +kernel)) dX1_onReal_107 ?_
      refine lv_lmul hx hb dX1_onReal_110 ?_
      refine mc_i (As := [.long (((f_X1_down (p1) (65536)) + 1) * 65536)]) (rest := []) ⟨hx, hb, hml, hown, hts⟩ (cc_X1_real l dC dI h0 h1 h2 cI cL _ (vk) (vn) (en) (nx) (vx) (vy) (vb) ((((f_X1_down (p1) (65536)) + 1) * 65536))) 1 gX1_onReal_X1_real rfl rfl rfl hdV_X1_real ⟨Nat.le_of_ble_eq_true rfl, Nat.le_of_ble_eq_true rfl⟩ hP hD hK hS hA htb rfl hl.1 rfl (Nat.le_of_ble_eq_true rfl) dX1_onReal_111 ⟨Nat.zero_le _, Nat.zero_le _⟩ (fun H locs hP hD hS => ?_)
      have hP : va_P (dC, dI) vwCl (mW h0 h1 h2 cI cL ((f_X1_real (vk) (vn) ((((f_X1_down (p1) (65536)) + 1) * 65536))).2.1, (f_X1_real (vk) (vn) ((((f_X1_down (p1) (65536)) + 1) * 65536))).2.2, en, nx, vx, vy, vb)) H := hP
      have hD : va_D A (mW h0 h1 h2 cI cL ((f_X1_real (vk) (vn) ((((f_X1_down (p1) (65536)) + 1) * 65536))).2.1, (f_X1_real (vk) (vn) ((((f_X1_down (p1) (65536)) + 1) * 65536))).2.2, en, nx, vx, vy, vb)) := hD
      have hE : f_X1_onReal vk vn p0 p1 = (f_X1_real (vk) (vn) ((((f_X1_down (p1) (65536)) + 1) * 65536))) := (by rw [f_X1_onReal, if_neg c_1, if_neg c_2, if_neg c_3, if_pos c_5])
      exact m_iret hx hb hr hlocks hP hD hK hS dX1_onReal_114 ⟨by rw [hE], by rw [hE]⟩
    by_cases c_7 : p0 = 3
    · skip
      refine lv_tableIn (tgt := 115) (off := 87) hx hb dX1_onReal_28 (by rw [c_7]; decide) (by rw [c_7]; decide) (by rw [c_7]; decide) (by decide) ?_
      refine lv_aload_n hx hb dX1_onReal_115 rfl (lv_at hl 2 rfl) ?_
      refine lv_lload hx hb dX1_onReal_116 (lv_at hl 1 rfl) ?_
      refine lv_ldc2 (v := 65536) hx hb hown (hts (.constantLong RX1 23 (65536)) (by decide +kernel)) dX1_onReal_118 ?_
      refine lv_lmul hx hb dX1_onReal_121 ?_
      refine mc_i (As := [.long ((f_X1_down (p1) (65536)) * 65536)]) (rest := []) ⟨hx, hb, hml, hown, hts⟩ (cc_X1_real l dC dI h0 h1 h2 cI cL _ (vk) (vn) (en) (nx) (vx) (vy) (vb) (((f_X1_down (p1) (65536)) * 65536))) 1 gX1_onReal_X1_real rfl rfl rfl hdV_X1_real ⟨Nat.le_of_ble_eq_true rfl, Nat.le_of_ble_eq_true rfl⟩ hP hD hK hS hA htb rfl hl.1 rfl (Nat.le_of_ble_eq_true rfl) dX1_onReal_122 ⟨Nat.zero_le _, Nat.zero_le _⟩ (fun H locs hP hD hS => ?_)
      have hP : va_P (dC, dI) vwCl (mW h0 h1 h2 cI cL ((f_X1_real (vk) (vn) (((f_X1_down (p1) (65536)) * 65536))).2.1, (f_X1_real (vk) (vn) (((f_X1_down (p1) (65536)) * 65536))).2.2, en, nx, vx, vy, vb)) H := hP
      have hD : va_D A (mW h0 h1 h2 cI cL ((f_X1_real (vk) (vn) (((f_X1_down (p1) (65536)) * 65536))).2.1, (f_X1_real (vk) (vn) (((f_X1_down (p1) (65536)) * 65536))).2.2, en, nx, vx, vy, vb)) := hD
      have hE : f_X1_onReal vk vn p0 p1 = (f_X1_real (vk) (vn) (((f_X1_down (p1) (65536)) * 65536))) := (by rw [f_X1_onReal, if_neg c_1, if_neg c_2, if_neg c_3, if_neg c_5, if_pos c_7])
      exact m_iret hx hb hr hlocks hP hD hK hS dX1_onReal_125 ⟨by rw [hE], by rw [hE]⟩
    by_cases c_8 : p0 = 4
    · skip
      refine lv_tableIn (tgt := 126) (off := 98) hx hb dX1_onReal_28 (by rw [c_8]; decide) (by rw [c_8]; decide) (by rw [c_8]; decide) (by decide) ?_
      refine lv_aload_n hx hb dX1_onReal_126 rfl (lv_at hl 2 rfl) ?_
      refine lv_lload_n hx hb dX1_onReal_127 rfl (lv_at hl 4 rfl) ?_
      refine pu_Sl (As := [.long p1]) (rest := [.ref h0]) ⟨hx, hb, hml, hown, hts⟩ (cc_X1_rounded l _ (p1)) 1 gX1_onReal_X1_rounded rfl rfl rfl hdS_X1_rounded ⟨Nat.le_of_ble_eq_true rfl, Nat.le_of_ble_eq_true rfl⟩ kN_ok kN_at rfl hl.1 rfl (Nat.le_of_ble_eq_true rfl) dX1_onReal_128 ⟨Nat.zero_le _, Nat.zero_le _⟩ ?_
      refine lv_ldc2 (v := 65536) hx hb hown (hts (.constantLong RX1 23 (65536)) (by decide +kernel)) dX1_onReal_131 ?_
      refine lv_lmul hx hb dX1_onReal_134 ?_
      refine mc_i (As := [.long ((f_X1_rounded (p1)) * 65536)]) (rest := []) ⟨hx, hb, hml, hown, hts⟩ (cc_X1_real l dC dI h0 h1 h2 cI cL _ (vk) (vn) (en) (nx) (vx) (vy) (vb) (((f_X1_rounded (p1)) * 65536))) 1 gX1_onReal_X1_real rfl rfl rfl hdV_X1_real ⟨Nat.le_of_ble_eq_true rfl, Nat.le_of_ble_eq_true rfl⟩ hP hD hK hS hA htb rfl hl.1 rfl (Nat.le_of_ble_eq_true rfl) dX1_onReal_135 ⟨Nat.zero_le _, Nat.zero_le _⟩ (fun H locs hP hD hS => ?_)
      have hP : va_P (dC, dI) vwCl (mW h0 h1 h2 cI cL ((f_X1_real (vk) (vn) (((f_X1_rounded (p1)) * 65536))).2.1, (f_X1_real (vk) (vn) (((f_X1_rounded (p1)) * 65536))).2.2, en, nx, vx, vy, vb)) H := hP
      have hD : va_D A (mW h0 h1 h2 cI cL ((f_X1_real (vk) (vn) (((f_X1_rounded (p1)) * 65536))).2.1, (f_X1_real (vk) (vn) (((f_X1_rounded (p1)) * 65536))).2.2, en, nx, vx, vy, vb)) := hD
      have hE : f_X1_onReal vk vn p0 p1 = (f_X1_real (vk) (vn) (((f_X1_rounded (p1)) * 65536))) := (by rw [f_X1_onReal, if_neg c_1, if_neg c_2, if_neg c_3, if_neg c_5, if_neg c_7, if_pos c_8])
      exact m_iret hx hb hr hlocks hP hD hK hS dX1_onReal_138 ⟨by rw [hE], by rw [hE]⟩
    by_cases c_9 : p0 = 5
    · skip
      refine lv_tableIn (tgt := 139) (off := 111) hx hb dX1_onReal_28 (by rw [c_9]; decide) (by rw [c_9]; decide) (by rw [c_9]; decide) (by decide) ?_
      refine lv_aload_n hx hb dX1_onReal_139 rfl (lv_at hl 2 rfl) ?_
      refine lv_lload_n hx hb dX1_onReal_140 rfl (lv_at hl 4 rfl) ?_
      refine lv_ldc2 (v := 65536) hx hb hown (hts (.constantLong RX1 23 (65536)) (by decide +kernel)) dX1_onReal_141 ?_
      refine lv_ldiv hx hb dX1_onReal_144 (by decide) ?_
      refine lv_ldc2 (v := 65536) hx hb hown (hts (.constantLong RX1 23 (65536)) (by decide +kernel)) dX1_onReal_145 ?_
      refine lv_lmul hx hb dX1_onReal_148 ?_
      refine mc_i (As := [.long ((p1 / 65536) * 65536)]) (rest := []) ⟨hx, hb, hml, hown, hts⟩ (cc_X1_real l dC dI h0 h1 h2 cI cL _ (vk) (vn) (en) (nx) (vx) (vy) (vb) (((p1 / 65536) * 65536))) 1 gX1_onReal_X1_real rfl rfl rfl hdV_X1_real ⟨Nat.le_of_ble_eq_true rfl, Nat.le_of_ble_eq_true rfl⟩ hP hD hK hS hA htb rfl hl.1 rfl (Nat.le_of_ble_eq_true rfl) dX1_onReal_149 ⟨Nat.zero_le _, Nat.zero_le _⟩ (fun H locs hP hD hS => ?_)
      have hP : va_P (dC, dI) vwCl (mW h0 h1 h2 cI cL ((f_X1_real (vk) (vn) (((p1 / 65536) * 65536))).2.1, (f_X1_real (vk) (vn) (((p1 / 65536) * 65536))).2.2, en, nx, vx, vy, vb)) H := hP
      have hD : va_D A (mW h0 h1 h2 cI cL ((f_X1_real (vk) (vn) (((p1 / 65536) * 65536))).2.1, (f_X1_real (vk) (vn) (((p1 / 65536) * 65536))).2.2, en, nx, vx, vy, vb)) := hD
      have hE : f_X1_onReal vk vn p0 p1 = (f_X1_real (vk) (vn) (((p1 / 65536) * 65536))) := (by rw [f_X1_onReal, if_neg c_1, if_neg c_2, if_neg c_3, if_neg c_5, if_neg c_7, if_neg c_8, if_pos c_9])
      exact m_iret hx hb hr hlocks hP hD hK hS dX1_onReal_152 ⟨by rw [hE], by rw [hE]⟩
    refine lv_tableOut (tgt := 153) hx hb dX1_onReal_28 (by have q0 : p0.toInt ≠ 0 := fun q => c_2 (Int32.toInt_inj.mp (q.trans (by decide))); have q1 : p0.toInt ≠ 1 := fun q => c_3 (Int32.toInt_inj.mp (q.trans (by decide))); have q2 : p0.toInt ≠ 2 := fun q => c_5 (Int32.toInt_inj.mp (q.trans (by decide))); have q3 : p0.toInt ≠ 3 := fun q => c_7 (Int32.toInt_inj.mp (q.trans (by decide))); have q4 : p0.toInt ≠ 4 := fun q => c_8 (Int32.toInt_inj.mp (q.trans (by decide))); have q5 : p0.toInt ≠ 5 := fun q => c_9 (Int32.toInt_inj.mp (q.trans (by decide))); omega) (by decide) ?_
    refine lv_aload_n hx hb dX1_onReal_153 rfl (lv_at hl 2 rfl) ?_
    refine lv_lload_n hx hb dX1_onReal_154 rfl (lv_at hl 4 rfl) ?_
    refine lv_ldc2 (v := 65536) hx hb hown (hts (.constantLong RX1 23 (65536)) (by decide +kernel)) dX1_onReal_155 ?_
    refine lv_ldiv hx hb dX1_onReal_158 (by decide) ?_
    refine mc_i (As := [.long (p1 / 65536)]) (rest := []) ⟨hx, hb, hml, hown, hts⟩ (cc_X1_whole l dC dI h0 h1 h2 cI cL _ (vk) (vn) (en) (nx) (vx) (vy) (vb) ((p1 / 65536))) 1 gX1_onReal_X1_whole rfl rfl rfl hdV_X1_whole ⟨Nat.le_of_ble_eq_true rfl, Nat.le_of_ble_eq_true rfl⟩ hP hD hK hS hA htb rfl hl.1 rfl (Nat.le_of_ble_eq_true rfl) dX1_onReal_159 ⟨Nat.zero_le _, Nat.zero_le _⟩ (fun H locs hP hD hS => ?_)
    have hP : va_P (dC, dI) vwCl (mW h0 h1 h2 cI cL ((f_X1_whole (vk) (vn) ((p1 / 65536))).2.1, (f_X1_whole (vk) (vn) ((p1 / 65536))).2.2, en, nx, vx, vy, vb)) H := hP
    have hD : va_D A (mW h0 h1 h2 cI cL ((f_X1_whole (vk) (vn) ((p1 / 65536))).2.1, (f_X1_whole (vk) (vn) ((p1 / 65536))).2.2, en, nx, vx, vy, vb)) := hD
    have hE : f_X1_onReal vk vn p0 p1 = (f_X1_whole (vk) (vn) ((p1 / 65536))) := (by rw [f_X1_onReal, if_neg c_1, if_neg c_2, if_neg c_3, if_neg c_5, if_neg c_7, if_neg c_8, if_neg c_9])
    exact m_iret hx hb hr hlocks hP hD hK hS dX1_onReal_162 ⟨by rw [hE], by rw [hE]⟩
  · skip
    refine lv_iconst (v := 1) hx hb dX1_onReal_20 (by decide) ?_
    refine lv_goto (tgt := 25) hx hb dX1_onReal_21 (by decide) ?_
    refine lv_istore (lv' := [(6, .int 1), (4, .long (f_X1_down (p1) (65536))), (0, .ref h0), (1, .int p0), (2, .long p1)]) hx hb dX1_onReal_25 hl (by decide) rfl (fun ls hl => ?_)
    refine lv_iload_n hx hb dX1_onReal_27 rfl (lv_at hl 3 rfl) ?_
    by_cases c_10 : p0 = 0
    · skip
      refine lv_tableIn (tgt := 68) (off := 40) hx hb dX1_onReal_28 (by rw [c_10]; decide) (by rw [c_10]; decide) (by rw [c_10]; decide) (by decide) ?_
      refine lv_aload_n hx hb dX1_onReal_68 rfl (lv_at hl 2 rfl) ?_
      refine lv_lload_n hx hb dX1_onReal_69 rfl (lv_at hl 4 rfl) ?_
      refine lv_lneg hx hb dX1_onReal_70 ?_
      refine mc_i (As := [.long (-p1)]) (rest := []) ⟨hx, hb, hml, hown, hts⟩ (cc_X1_real l dC dI h0 h1 h2 cI cL _ (vk) (vn) (en) (nx) (vx) (vy) (vb) ((-p1))) 1 gX1_onReal_X1_real rfl rfl rfl hdV_X1_real ⟨Nat.le_of_ble_eq_true rfl, Nat.le_of_ble_eq_true rfl⟩ hP hD hK hS hA htb rfl hl.1 rfl (Nat.le_of_ble_eq_true rfl) dX1_onReal_71 ⟨Nat.zero_le _, Nat.zero_le _⟩ (fun H locs hP hD hS => ?_)
      have hP : va_P (dC, dI) vwCl (mW h0 h1 h2 cI cL ((f_X1_real (vk) (vn) ((-p1))).2.1, (f_X1_real (vk) (vn) ((-p1))).2.2, en, nx, vx, vy, vb)) H := hP
      have hD : va_D A (mW h0 h1 h2 cI cL ((f_X1_real (vk) (vn) ((-p1))).2.1, (f_X1_real (vk) (vn) ((-p1))).2.2, en, nx, vx, vy, vb)) := hD
      have hE : f_X1_onReal vk vn p0 p1 = (f_X1_real (vk) (vn) ((-p1))) := (by rw [f_X1_onReal, if_pos c_1, if_pos c_10])
      exact m_iret hx hb hr hlocks hP hD hK hS dX1_onReal_74 ⟨by rw [hE], by rw [hE]⟩
    by_cases c_11 : p0 = 1
    · skip
      refine lv_tableIn (tgt := 75) (off := 47) hx hb dX1_onReal_28 (by rw [c_11]; decide) (by rw [c_11]; decide) (by rw [c_11]; decide) (by decide) ?_
      refine lv_aload_n hx hb dX1_onReal_75 rfl (lv_at hl 2 rfl) ?_
      refine lv_lload_n hx hb dX1_onReal_76 rfl (lv_at hl 4 rfl) ?_
      refine lv_lconst (v := 0) hx hb dX1_onReal_77 (by decide) ?_
      refine pl_ge (tgt := 87) hx hb dX1_onReal_78 dX1_onReal_79 (by decide) (fun c_12 => ?_) (fun c_12 => ?_)
      · skip
        refine lv_lload_n hx hb dX1_onReal_87 rfl (lv_at hl 4 rfl) ?_
        refine mc_i (As := [.long p1]) (rest := []) ⟨hx, hb, hml, hown, hts⟩ (cc_X1_real l dC dI h0 h1 h2 cI cL _ (vk) (vn) (en) (nx) (vx) (vy) (vb) (p1)) 1 gX1_onReal_X1_real rfl rfl rfl hdV_X1_real ⟨Nat.le_of_ble_eq_true rfl, Nat.le_of_ble_eq_true rfl⟩ hP hD hK hS hA htb rfl hl.1 rfl (Nat.le_of_ble_eq_true rfl) dX1_onReal_88 ⟨Nat.zero_le _, Nat.zero_le _⟩ (fun H locs hP hD hS => ?_)
        have hP : va_P (dC, dI) vwCl (mW h0 h1 h2 cI cL ((f_X1_real (vk) (vn) (p1)).2.1, (f_X1_real (vk) (vn) (p1)).2.2, en, nx, vx, vy, vb)) H := hP
        have hD : va_D A (mW h0 h1 h2 cI cL ((f_X1_real (vk) (vn) (p1)).2.1, (f_X1_real (vk) (vn) (p1)).2.2, en, nx, vx, vy, vb)) := hD
        have hE : f_X1_onReal vk vn p0 p1 = (f_X1_real (vk) (vn) (p1)) := (by rw [f_X1_onReal, if_pos c_1, if_neg c_10, if_pos c_11, if_neg c_12])
        exact m_iret hx hb hr hlocks hP hD hK hS dX1_onReal_91 ⟨by rw [hE], by rw [hE]⟩
      · skip
        refine lv_lload_n hx hb dX1_onReal_82 rfl (lv_at hl 4 rfl) ?_
        refine lv_lneg hx hb dX1_onReal_83 ?_
        refine lv_goto (tgt := 88) hx hb dX1_onReal_84 (by decide) ?_
        refine mc_i (As := [.long (-p1)]) (rest := []) ⟨hx, hb, hml, hown, hts⟩ (cc_X1_real l dC dI h0 h1 h2 cI cL _ (vk) (vn) (en) (nx) (vx) (vy) (vb) ((-p1))) 1 gX1_onReal_X1_real rfl rfl rfl hdV_X1_real ⟨Nat.le_of_ble_eq_true rfl, Nat.le_of_ble_eq_true rfl⟩ hP hD hK hS hA htb rfl hl.1 rfl (Nat.le_of_ble_eq_true rfl) dX1_onReal_88 ⟨Nat.zero_le _, Nat.zero_le _⟩ (fun H locs hP hD hS => ?_)
        have hP : va_P (dC, dI) vwCl (mW h0 h1 h2 cI cL ((f_X1_real (vk) (vn) ((-p1))).2.1, (f_X1_real (vk) (vn) ((-p1))).2.2, en, nx, vx, vy, vb)) H := hP
        have hD : va_D A (mW h0 h1 h2 cI cL ((f_X1_real (vk) (vn) ((-p1))).2.1, (f_X1_real (vk) (vn) ((-p1))).2.2, en, nx, vx, vy, vb)) := hD
        have hE : f_X1_onReal vk vn p0 p1 = (f_X1_real (vk) (vn) ((-p1))) := (by rw [f_X1_onReal, if_pos c_1, if_neg c_10, if_pos c_11, if_pos c_12])
        exact m_iret hx hb hr hlocks hP hD hK hS dX1_onReal_91 ⟨by rw [hE], by rw [hE]⟩
    by_cases c_13 : p0 = 2
    · skip
      refine lv_tableIn (tgt := 92) (off := 64) hx hb dX1_onReal_28 (by rw [c_13]; decide) (by rw [c_13]; decide) (by rw [c_13]; decide) (by decide) ?_
      refine lv_aload_n hx hb dX1_onReal_92 rfl (lv_at hl 2 rfl) ?_
      refine lv_iload hx hb dX1_onReal_93 (lv_at hl 0 rfl) ?_
      refine lv_if_eq (tgt := 103) hx hb dX1_onReal_95 (by decide) (fun q => absurd q (by decide)) (fun _ => ?_)
      refine lv_lload hx hb dX1_onReal_98 (lv_at hl 1 rfl) ?_
      refine lv_goto (tgt := 107) hx hb dX1_onReal_100 (by decide) ?_
      refine lv_ldc2 (v := 65536) hx hb hown (hts (.constantLong RX1 23 (65536)) (by decide +kernel)) dX1_onReal_107 ?_
      refine lv_lmul hx hb dX1_onReal_110 ?_
      refine mc_i (As := [.long ((f_X1_down (p1) (65536)) * 65536)]) (rest := []) ⟨hx, hb, hml, hown, hts⟩ (cc_X1_real l dC dI h0 h1 h2 cI cL _ (vk) (vn) (en) (nx) (vx) (vy) (vb) (((f_X1_down (p1) (65536)) * 65536))) 1 gX1_onReal_X1_real rfl rfl rfl hdV_X1_real ⟨Nat.le_of_ble_eq_true rfl, Nat.le_of_ble_eq_true rfl⟩ hP hD hK hS hA htb rfl hl.1 rfl (Nat.le_of_ble_eq_true rfl) dX1_onReal_111 ⟨Nat.zero_le _, Nat.zero_le _⟩ (fun H locs hP hD hS => ?_)
      have hP : va_P (dC, dI) vwCl (mW h0 h1 h2 cI cL ((f_X1_real (vk) (vn) (((f_X1_down (p1) (65536)) * 65536))).2.1, (f_X1_real (vk) (vn) (((f_X1_down (p1) (65536)) * 65536))).2.2, en, nx, vx, vy, vb)) H := hP
      have hD : va_D A (mW h0 h1 h2 cI cL ((f_X1_real (vk) (vn) (((f_X1_down (p1) (65536)) * 65536))).2.1, (f_X1_real (vk) (vn) (((f_X1_down (p1) (65536)) * 65536))).2.2, en, nx, vx, vy, vb)) := hD
      have hE : f_X1_onReal vk vn p0 p1 = (f_X1_real (vk) (vn) (((f_X1_down (p1) (65536)) * 65536))) := (by rw [f_X1_onReal, if_pos c_1, if_neg c_10, if_neg c_11, if_pos c_13])
      exact m_iret hx hb hr hlocks hP hD hK hS dX1_onReal_114 ⟨by rw [hE], by rw [hE]⟩
    by_cases c_15 : p0 = 3
    · skip
      refine lv_tableIn (tgt := 115) (off := 87) hx hb dX1_onReal_28 (by rw [c_15]; decide) (by rw [c_15]; decide) (by rw [c_15]; decide) (by decide) ?_
      refine lv_aload_n hx hb dX1_onReal_115 rfl (lv_at hl 2 rfl) ?_
      refine lv_lload hx hb dX1_onReal_116 (lv_at hl 1 rfl) ?_
      refine lv_ldc2 (v := 65536) hx hb hown (hts (.constantLong RX1 23 (65536)) (by decide +kernel)) dX1_onReal_118 ?_
      refine lv_lmul hx hb dX1_onReal_121 ?_
      refine mc_i (As := [.long ((f_X1_down (p1) (65536)) * 65536)]) (rest := []) ⟨hx, hb, hml, hown, hts⟩ (cc_X1_real l dC dI h0 h1 h2 cI cL _ (vk) (vn) (en) (nx) (vx) (vy) (vb) (((f_X1_down (p1) (65536)) * 65536))) 1 gX1_onReal_X1_real rfl rfl rfl hdV_X1_real ⟨Nat.le_of_ble_eq_true rfl, Nat.le_of_ble_eq_true rfl⟩ hP hD hK hS hA htb rfl hl.1 rfl (Nat.le_of_ble_eq_true rfl) dX1_onReal_122 ⟨Nat.zero_le _, Nat.zero_le _⟩ (fun H locs hP hD hS => ?_)
      have hP : va_P (dC, dI) vwCl (mW h0 h1 h2 cI cL ((f_X1_real (vk) (vn) (((f_X1_down (p1) (65536)) * 65536))).2.1, (f_X1_real (vk) (vn) (((f_X1_down (p1) (65536)) * 65536))).2.2, en, nx, vx, vy, vb)) H := hP
      have hD : va_D A (mW h0 h1 h2 cI cL ((f_X1_real (vk) (vn) (((f_X1_down (p1) (65536)) * 65536))).2.1, (f_X1_real (vk) (vn) (((f_X1_down (p1) (65536)) * 65536))).2.2, en, nx, vx, vy, vb)) := hD
      have hE : f_X1_onReal vk vn p0 p1 = (f_X1_real (vk) (vn) (((f_X1_down (p1) (65536)) * 65536))) := (by rw [f_X1_onReal, if_pos c_1, if_neg c_10, if_neg c_11, if_neg c_13, if_pos c_15])
      exact m_iret hx hb hr hlocks hP hD hK hS dX1_onReal_125 ⟨by rw [hE], by rw [hE]⟩
    by_cases c_16 : p0 = 4
    · skip
      refine lv_tableIn (tgt := 126) (off := 98) hx hb dX1_onReal_28 (by rw [c_16]; decide) (by rw [c_16]; decide) (by rw [c_16]; decide) (by decide) ?_
      refine lv_aload_n hx hb dX1_onReal_126 rfl (lv_at hl 2 rfl) ?_
      refine lv_lload_n hx hb dX1_onReal_127 rfl (lv_at hl 4 rfl) ?_
      refine pu_Sl (As := [.long p1]) (rest := [.ref h0]) ⟨hx, hb, hml, hown, hts⟩ (cc_X1_rounded l _ (p1)) 1 gX1_onReal_X1_rounded rfl rfl rfl hdS_X1_rounded ⟨Nat.le_of_ble_eq_true rfl, Nat.le_of_ble_eq_true rfl⟩ kN_ok kN_at rfl hl.1 rfl (Nat.le_of_ble_eq_true rfl) dX1_onReal_128 ⟨Nat.zero_le _, Nat.zero_le _⟩ ?_
      refine lv_ldc2 (v := 65536) hx hb hown (hts (.constantLong RX1 23 (65536)) (by decide +kernel)) dX1_onReal_131 ?_
      refine lv_lmul hx hb dX1_onReal_134 ?_
      refine mc_i (As := [.long ((f_X1_rounded (p1)) * 65536)]) (rest := []) ⟨hx, hb, hml, hown, hts⟩ (cc_X1_real l dC dI h0 h1 h2 cI cL _ (vk) (vn) (en) (nx) (vx) (vy) (vb) (((f_X1_rounded (p1)) * 65536))) 1 gX1_onReal_X1_real rfl rfl rfl hdV_X1_real ⟨Nat.le_of_ble_eq_true rfl, Nat.le_of_ble_eq_true rfl⟩ hP hD hK hS hA htb rfl hl.1 rfl (Nat.le_of_ble_eq_true rfl) dX1_onReal_135 ⟨Nat.zero_le _, Nat.zero_le _⟩ (fun H locs hP hD hS => ?_)
      have hP : va_P (dC, dI) vwCl (mW h0 h1 h2 cI cL ((f_X1_real (vk) (vn) (((f_X1_rounded (p1)) * 65536))).2.1, (f_X1_real (vk) (vn) (((f_X1_rounded (p1)) * 65536))).2.2, en, nx, vx, vy, vb)) H := hP
      have hD : va_D A (mW h0 h1 h2 cI cL ((f_X1_real (vk) (vn) (((f_X1_rounded (p1)) * 65536))).2.1, (f_X1_real (vk) (vn) (((f_X1_rounded (p1)) * 65536))).2.2, en, nx, vx, vy, vb)) := hD
      have hE : f_X1_onReal vk vn p0 p1 = (f_X1_real (vk) (vn) (((f_X1_rounded (p1)) * 65536))) := (by rw [f_X1_onReal, if_pos c_1, if_neg c_10, if_neg c_11, if_neg c_13, if_neg c_15, if_pos c_16])
      exact m_iret hx hb hr hlocks hP hD hK hS dX1_onReal_138 ⟨by rw [hE], by rw [hE]⟩
    by_cases c_17 : p0 = 5
    · skip
      refine lv_tableIn (tgt := 139) (off := 111) hx hb dX1_onReal_28 (by rw [c_17]; decide) (by rw [c_17]; decide) (by rw [c_17]; decide) (by decide) ?_
      refine lv_aload_n hx hb dX1_onReal_139 rfl (lv_at hl 2 rfl) ?_
      refine lv_lload_n hx hb dX1_onReal_140 rfl (lv_at hl 4 rfl) ?_
      refine lv_ldc2 (v := 65536) hx hb hown (hts (.constantLong RX1 23 (65536)) (by decide +kernel)) dX1_onReal_141 ?_
      refine lv_ldiv hx hb dX1_onReal_144 (by decide) ?_
      refine lv_ldc2 (v := 65536) hx hb hown (hts (.constantLong RX1 23 (65536)) (by decide +kernel)) dX1_onReal_145 ?_
      refine lv_lmul hx hb dX1_onReal_148 ?_
      refine mc_i (As := [.long ((p1 / 65536) * 65536)]) (rest := []) ⟨hx, hb, hml, hown, hts⟩ (cc_X1_real l dC dI h0 h1 h2 cI cL _ (vk) (vn) (en) (nx) (vx) (vy) (vb) (((p1 / 65536) * 65536))) 1 gX1_onReal_X1_real rfl rfl rfl hdV_X1_real ⟨Nat.le_of_ble_eq_true rfl, Nat.le_of_ble_eq_true rfl⟩ hP hD hK hS hA htb rfl hl.1 rfl (Nat.le_of_ble_eq_true rfl) dX1_onReal_149 ⟨Nat.zero_le _, Nat.zero_le _⟩ (fun H locs hP hD hS => ?_)
      have hP : va_P (dC, dI) vwCl (mW h0 h1 h2 cI cL ((f_X1_real (vk) (vn) (((p1 / 65536) * 65536))).2.1, (f_X1_real (vk) (vn) (((p1 / 65536) * 65536))).2.2, en, nx, vx, vy, vb)) H := hP
      have hD : va_D A (mW h0 h1 h2 cI cL ((f_X1_real (vk) (vn) (((p1 / 65536) * 65536))).2.1, (f_X1_real (vk) (vn) (((p1 / 65536) * 65536))).2.2, en, nx, vx, vy, vb)) := hD
      have hE : f_X1_onReal vk vn p0 p1 = (f_X1_real (vk) (vn) (((p1 / 65536) * 65536))) := (by rw [f_X1_onReal, if_pos c_1, if_neg c_10, if_neg c_11, if_neg c_13, if_neg c_15, if_neg c_16, if_pos c_17])
      exact m_iret hx hb hr hlocks hP hD hK hS dX1_onReal_152 ⟨by rw [hE], by rw [hE]⟩
    refine lv_tableOut (tgt := 153) hx hb dX1_onReal_28 (by have q0 : p0.toInt ≠ 0 := fun q => c_10 (Int32.toInt_inj.mp (q.trans (by decide))); have q1 : p0.toInt ≠ 1 := fun q => c_11 (Int32.toInt_inj.mp (q.trans (by decide))); have q2 : p0.toInt ≠ 2 := fun q => c_13 (Int32.toInt_inj.mp (q.trans (by decide))); have q3 : p0.toInt ≠ 3 := fun q => c_15 (Int32.toInt_inj.mp (q.trans (by decide))); have q4 : p0.toInt ≠ 4 := fun q => c_16 (Int32.toInt_inj.mp (q.trans (by decide))); have q5 : p0.toInt ≠ 5 := fun q => c_17 (Int32.toInt_inj.mp (q.trans (by decide))); omega) (by decide) ?_
    refine lv_aload_n hx hb dX1_onReal_153 rfl (lv_at hl 2 rfl) ?_
    refine lv_lload_n hx hb dX1_onReal_154 rfl (lv_at hl 4 rfl) ?_
    refine lv_ldc2 (v := 65536) hx hb hown (hts (.constantLong RX1 23 (65536)) (by decide +kernel)) dX1_onReal_155 ?_
    refine lv_ldiv hx hb dX1_onReal_158 (by decide) ?_
    refine mc_i (As := [.long (p1 / 65536)]) (rest := []) ⟨hx, hb, hml, hown, hts⟩ (cc_X1_whole l dC dI h0 h1 h2 cI cL _ (vk) (vn) (en) (nx) (vx) (vy) (vb) ((p1 / 65536))) 1 gX1_onReal_X1_whole rfl rfl rfl hdV_X1_whole ⟨Nat.le_of_ble_eq_true rfl, Nat.le_of_ble_eq_true rfl⟩ hP hD hK hS hA htb rfl hl.1 rfl (Nat.le_of_ble_eq_true rfl) dX1_onReal_159 ⟨Nat.zero_le _, Nat.zero_le _⟩ (fun H locs hP hD hS => ?_)
    have hP : va_P (dC, dI) vwCl (mW h0 h1 h2 cI cL ((f_X1_whole (vk) (vn) ((p1 / 65536))).2.1, (f_X1_whole (vk) (vn) ((p1 / 65536))).2.2, en, nx, vx, vy, vb)) H := hP
    have hD : va_D A (mW h0 h1 h2 cI cL ((f_X1_whole (vk) (vn) ((p1 / 65536))).2.1, (f_X1_whole (vk) (vn) ((p1 / 65536))).2.2, en, nx, vx, vy, vb)) := hD
    have hE : f_X1_onReal vk vn p0 p1 = (f_X1_whole (vk) (vn) ((p1 / 65536))) := (by rw [f_X1_onReal, if_pos c_1, if_neg c_10, if_neg c_11, if_neg c_13, if_neg c_15, if_neg c_16, if_neg c_17])
    exact m_iret hx hb hr hlocks hP hD hK hS dX1_onReal_162 ⟨by rw [hE], by rw [hE]⟩
theorem hdV_X1_two : yX1_two.cls = RX1 ∧ yX1_two.cls ≠ "java/lang/invoke/MethodHandle" ∧ yX1_two.cls ≠ "java/lang/invoke/VarHandle" ∧ (parseMethodDescriptor yX1_two.desc).map (fun d => d.parameters.length) = some 5 := by decide +kernel
theorem fi_X1_two : ∀ w ∈ wsX10, w ∈ wsX1_two := fun _ h => List.mem_cons_of_mem _ (List.mem_append_right _ h)
def f_X1_two (vk : Int32) (vn : Int32) (vb : Int32) (p0 : Int32) (p1 : Int32) (p2 : Int32) (p3 : Int32) (p4 : Int32) : Int32 × Int32 × Int32 × Int32 := if p0 < 0 then (((-1), vk, vn, vb)) else (if 10 < p0 then (((-1), vk, vn, vb)) else (if (f_X1_isValue (p1) (p2)) = 0 then (((-1), vk, vn, vb)) else (if (f_X1_isValue (p3) (p4)) = 0 then (((-1), vk, vn, vb)) else (if p1 = 1 then (if p3 = 1 then (if p0 = 4 then (((f_X1_onWholes (vk) (vn) (p0) (p2) (p4)).1, (f_X1_onWholes (vk) (vn) (p0) (p2) (p4)).2.1, (f_X1_onWholes (vk) (vn) (p0) (p2) (p4)).2.2, vb)) else (if p0 = 5 then (((f_X1_onWholes (vk) (vn) (p0) (p2) (p4)).1, (f_X1_onWholes (vk) (vn) (p0) (p2) (p4)).2.1, (f_X1_onWholes (vk) (vn) (p0) (p2) (p4)).2.2, vb)) else (if 6 < p0 then (((f_X1_onWholes (vk) (vn) (p0) (p2) (p4)).1, (f_X1_onWholes (vk) (vn) (p0) (p2) (p4)).2.1, (f_X1_onWholes (vk) (vn) (p0) (p2) (p4)).2.2, vb)) else (if p0 < 3 then (if p0 = 0 then (((f_X1_whole (vk) (vn) (((p2).toInt64 + (p4).toInt64))).1, (f_X1_whole (vk) (vn) (((p2).toInt64 + (p4).toInt64))).2.1, (f_X1_whole (vk) (vn) (((p2).toInt64 + (p4).toInt64))).2.2, vb)) else (if p0 = 1 then (((f_X1_whole (vk) (vn) (((p2).toInt64 - (p4).toInt64))).1, (f_X1_whole (vk) (vn) (((p2).toInt64 - (p4).toInt64))).2.1, (f_X1_whole (vk) (vn) (((p2).toInt64 - (p4).toInt64))).2.2, vb)) else (((f_X1_whole (vk) (vn) (((p2).toInt64 * (p4).toInt64))).1, (f_X1_whole (vk) (vn) (((p2).toInt64 * (p4).toInt64))).2.1, (f_X1_whole (vk) (vn) (((p2).toInt64 * (p4).toInt64))).2.2, vb)))) else (if (f_X1_hasUnits (p1) (p2)) = 0 then (((-2), vk, vn, vb)) else (if (f_X1_hasUnits (p3) (p4)) = 0 then (((-2), vk, vn, vb)) else (if p0 = 0 then (((f_X1_real (vk) (vn) (((f_X1_units (p1) (p2)) + (f_X1_units (p3) (p4))))).1, (f_X1_real (vk) (vn) (((f_X1_units (p1) (p2)) + (f_X1_units (p3) (p4))))).2.1, (f_X1_real (vk) (vn) (((f_X1_units (p1) (p2)) + (f_X1_units (p3) (p4))))).2.2, vb)) else (if p0 = 1 then (((f_X1_real (vk) (vn) (((f_X1_units (p1) (p2)) - (f_X1_units (p3) (p4))))).1, (f_X1_real (vk) (vn) (((f_X1_units (p1) (p2)) - (f_X1_units (p3) (p4))))).2.1, (f_X1_real (vk) (vn) (((f_X1_units (p1) (p2)) - (f_X1_units (p3) (p4))))).2.2, vb)) else (if p0 = 2 then (((f_X1_real (vk) (vn) ((f_X1_rounded (((f_X1_units (p1) (p2)) * (f_X1_units (p3) (p4))))))).1, (f_X1_real (vk) (vn) ((f_X1_rounded (((f_X1_units (p1) (p2)) * (f_X1_units (p3) (p4))))))).2.1, (f_X1_real (vk) (vn) ((f_X1_rounded (((f_X1_units (p1) (p2)) * (f_X1_units (p3) (p4))))))).2.2, vb)) else (if p0 = 3 then (if (f_X1_units (p3) (p4)) = 0 then (((-3), vk, vn, vb)) else (if (f_X1_quotient_16 ((f_X1_units (p1) (p2))) ((f_X1_units (p3) (p4)))).2 = 0 then (((f_X1_real (vk) (vn) ((f_X1_quotient_16 ((f_X1_units (p1) (p2))) ((f_X1_units (p3) (p4)))).1)).1, (f_X1_real (vk) (vn) ((f_X1_quotient_16 ((f_X1_units (p1) (p2))) ((f_X1_units (p3) (p4)))).1)).2.1, (f_X1_real (vk) (vn) ((f_X1_quotient_16 ((f_X1_units (p1) (p2))) ((f_X1_units (p3) (p4)))).1)).2.2, (f_X1_quotient_16 ((f_X1_units (p1) (p2))) ((f_X1_units (p3) (p4)))).2)) else (((-2), vk, vn, (f_X1_quotient_16 ((f_X1_units (p1) (p2))) ((f_X1_units (p3) (p4)))).2)))) else (if (f_X1_units (p1) (p2)) = 0 then (if (f_X1_units (p3) (p4)) = 0 then (((-3), vk, vn, vb)) else (((f_X1_real (vk) (vn) ((f_X1_angle ((f_X1_units (p3) (p4))) ((f_X1_units (p1) (p2)))))).1, (f_X1_real (vk) (vn) ((f_X1_angle ((f_X1_units (p3) (p4))) ((f_X1_units (p1) (p2)))))).2.1, (f_X1_real (vk) (vn) ((f_X1_angle ((f_X1_units (p3) (p4))) ((f_X1_units (p1) (p2)))))).2.2, vb))) else (((f_X1_real (vk) (vn) ((f_X1_angle ((f_X1_units (p3) (p4))) ((f_X1_units (p1) (p2)))))).1, (f_X1_real (vk) (vn) ((f_X1_angle ((f_X1_units (p3) (p4))) ((f_X1_units (p1) (p2)))))).2.1, (f_X1_real (vk) (vn) ((f_X1_angle ((f_X1_units (p3) (p4))) ((f_X1_units (p1) (p2)))))).2.2, vb))))))))))))) else (if p0 = 4 then (((-4), vk, vn, vb)) else (if p0 = 5 then (((-4), vk, vn, vb)) else (if 6 < p0 then (((-4), vk, vn, vb)) else (if (f_X1_hasUnits (p1) (p2)) = 0 then (((-2), vk, vn, vb)) else (if (f_X1_hasUnits (p3) (p4)) = 0 then (((-2), vk, vn, vb)) else (if p0 = 0 then (((f_X1_real (vk) (vn) (((f_X1_units (p1) (p2)) + (f_X1_units (p3) (p4))))).1, (f_X1_real (vk) (vn) (((f_X1_units (p1) (p2)) + (f_X1_units (p3) (p4))))).2.1, (f_X1_real (vk) (vn) (((f_X1_units (p1) (p2)) + (f_X1_units (p3) (p4))))).2.2, vb)) else (if p0 = 1 then (((f_X1_real (vk) (vn) (((f_X1_units (p1) (p2)) - (f_X1_units (p3) (p4))))).1, (f_X1_real (vk) (vn) (((f_X1_units (p1) (p2)) - (f_X1_units (p3) (p4))))).2.1, (f_X1_real (vk) (vn) (((f_X1_units (p1) (p2)) - (f_X1_units (p3) (p4))))).2.2, vb)) else (if p0 = 2 then (((f_X1_real (vk) (vn) ((f_X1_rounded (((f_X1_units (p1) (p2)) * (f_X1_units (p3) (p4))))))).1, (f_X1_real (vk) (vn) ((f_X1_rounded (((f_X1_units (p1) (p2)) * (f_X1_units (p3) (p4))))))).2.1, (f_X1_real (vk) (vn) ((f_X1_rounded (((f_X1_units (p1) (p2)) * (f_X1_units (p3) (p4))))))).2.2, vb)) else (if p0 = 3 then (if (f_X1_units (p3) (p4)) = 0 then (((-3), vk, vn, vb)) else (if (f_X1_quotient_16 ((f_X1_units (p1) (p2))) ((f_X1_units (p3) (p4)))).2 = 0 then (((f_X1_real (vk) (vn) ((f_X1_quotient_16 ((f_X1_units (p1) (p2))) ((f_X1_units (p3) (p4)))).1)).1, (f_X1_real (vk) (vn) ((f_X1_quotient_16 ((f_X1_units (p1) (p2))) ((f_X1_units (p3) (p4)))).1)).2.1, (f_X1_real (vk) (vn) ((f_X1_quotient_16 ((f_X1_units (p1) (p2))) ((f_X1_units (p3) (p4)))).1)).2.2, (f_X1_quotient_16 ((f_X1_units (p1) (p2))) ((f_X1_units (p3) (p4)))).2)) else (((-2), vk, vn, (f_X1_quotient_16 ((f_X1_units (p1) (p2))) ((f_X1_units (p3) (p4)))).2)))) else (if (f_X1_units (p1) (p2)) = 0 then (if (f_X1_units (p3) (p4)) = 0 then (((-3), vk, vn, vb)) else (((f_X1_real (vk) (vn) ((f_X1_angle ((f_X1_units (p3) (p4))) ((f_X1_units (p1) (p2)))))).1, (f_X1_real (vk) (vn) ((f_X1_angle ((f_X1_units (p3) (p4))) ((f_X1_units (p1) (p2)))))).2.1, (f_X1_real (vk) (vn) ((f_X1_angle ((f_X1_units (p3) (p4))) ((f_X1_units (p1) (p2)))))).2.2, vb))) else (((f_X1_real (vk) (vn) ((f_X1_angle ((f_X1_units (p3) (p4))) ((f_X1_units (p1) (p2)))))).1, (f_X1_real (vk) (vn) ((f_X1_angle ((f_X1_units (p3) (p4))) ((f_X1_units (p1) (p2)))))).2.1, (f_X1_real (vk) (vn) ((f_X1_angle ((f_X1_units (p3) (p4))) ((f_X1_units (p1) (p2)))))).2.2, vb))))))))))))) else (if p0 = 4 then (((-4), vk, vn, vb)) else (if p0 = 5 then (((-4), vk, vn, vb)) else (if 6 < p0 then (((-4), vk, vn, vb)) else (if (f_X1_hasUnits (p1) (p2)) = 0 then (((-2), vk, vn, vb)) else (if (f_X1_hasUnits (p3) (p4)) = 0 then (((-2), vk, vn, vb)) else (if p0 = 0 then (((f_X1_real (vk) (vn) (((f_X1_units (p1) (p2)) + (f_X1_units (p3) (p4))))).1, (f_X1_real (vk) (vn) (((f_X1_units (p1) (p2)) + (f_X1_units (p3) (p4))))).2.1, (f_X1_real (vk) (vn) (((f_X1_units (p1) (p2)) + (f_X1_units (p3) (p4))))).2.2, vb)) else (if p0 = 1 then (((f_X1_real (vk) (vn) (((f_X1_units (p1) (p2)) - (f_X1_units (p3) (p4))))).1, (f_X1_real (vk) (vn) (((f_X1_units (p1) (p2)) - (f_X1_units (p3) (p4))))).2.1, (f_X1_real (vk) (vn) (((f_X1_units (p1) (p2)) - (f_X1_units (p3) (p4))))).2.2, vb)) else (if p0 = 2 then (((f_X1_real (vk) (vn) ((f_X1_rounded (((f_X1_units (p1) (p2)) * (f_X1_units (p3) (p4))))))).1, (f_X1_real (vk) (vn) ((f_X1_rounded (((f_X1_units (p1) (p2)) * (f_X1_units (p3) (p4))))))).2.1, (f_X1_real (vk) (vn) ((f_X1_rounded (((f_X1_units (p1) (p2)) * (f_X1_units (p3) (p4))))))).2.2, vb)) else (if p0 = 3 then (if (f_X1_units (p3) (p4)) = 0 then (((-3), vk, vn, vb)) else (if (f_X1_quotient_16 ((f_X1_units (p1) (p2))) ((f_X1_units (p3) (p4)))).2 = 0 then (((f_X1_real (vk) (vn) ((f_X1_quotient_16 ((f_X1_units (p1) (p2))) ((f_X1_units (p3) (p4)))).1)).1, (f_X1_real (vk) (vn) ((f_X1_quotient_16 ((f_X1_units (p1) (p2))) ((f_X1_units (p3) (p4)))).1)).2.1, (f_X1_real (vk) (vn) ((f_X1_quotient_16 ((f_X1_units (p1) (p2))) ((f_X1_units (p3) (p4)))).1)).2.2, (f_X1_quotient_16 ((f_X1_units (p1) (p2))) ((f_X1_units (p3) (p4)))).2)) else (((-2), vk, vn, (f_X1_quotient_16 ((f_X1_units (p1) (p2))) ((f_X1_units (p3) (p4)))).2)))) else (if (f_X1_units (p1) (p2)) = 0 then (if (f_X1_units (p3) (p4)) = 0 then (((-3), vk, vn, vb)) else (((f_X1_real (vk) (vn) ((f_X1_angle ((f_X1_units (p3) (p4))) ((f_X1_units (p1) (p2)))))).1, (f_X1_real (vk) (vn) ((f_X1_angle ((f_X1_units (p3) (p4))) ((f_X1_units (p1) (p2)))))).2.1, (f_X1_real (vk) (vn) ((f_X1_angle ((f_X1_units (p3) (p4))) ((f_X1_units (p1) (p2)))))).2.2, vb))) else (((f_X1_real (vk) (vn) ((f_X1_angle ((f_X1_units (p3) (p4))) ((f_X1_units (p1) (p2)))))).1, (f_X1_real (vk) (vn) ((f_X1_angle ((f_X1_units (p3) (p4))) ((f_X1_units (p1) (p2)))))).2.1, (f_X1_real (vk) (vn) ((f_X1_angle ((f_X1_units (p3) (p4))) ((f_X1_units (p1) (p2)))))).2.2, vb))))))))))))))))
abbrev rm_X1_two : Room := { frames := 7, cells := 0, slots := 0, locals := 303 }
set_option maxHeartbeats 4000000 in
set_option maxRecDepth 100000 in
theorem cc_X1_two (l : Launch) (dC : Nat → ClassId) (dI : Nat → Nat → Nat) (h0 h1 h2 : Nat) (cI cL : ClassId) (sz : Nat) (vk vn : Int32) (en : Nat → Int32) (nx : Nat → Int64) (vx vy vb : Int32) (p0 : Int32) (p1 : Int32) (p2 : Int32) (p3 : Int32) (p4 : Int32)   : Met l yX1_two wsX1_two rm_X1_two (va_Pc [.ref h0, .int p0, .int p1, .int p2, .int p3, .int p4] (mPre dC dI h0 h1 h2 cI cL sz (vk, vn, en, nx, vx, vy, vb))) (mQi dC dI h0 h1 h2 cI cL (va_A (mW h0 h1 h2 cI cL (vk, vn, en, nx, vx, vy, vb)) sz) ((f_X1_two vk vn vb p0 p1 p2 p3 p4).1) ((f_X1_two vk vn vb p0 p1 p2 p3 p4).2.1, (f_X1_two vk vn vb p0 p1 p2 p3 p4).2.2.1, en, nx, vx, vy, (f_X1_two vk vn vb p0 p1 p2 p3 p4).2.2.2)) 0 0 (va_A (mW h0 h1 h2 cI cL (vk, vn, en, nx, vx, vy, vb)) sz) := by
  refine m_headi (cc := cX1_two) (maxL := 13) (ret := some .int) (by decide) rfl rfl (Nat.le_of_ble_eq_true rfl) ?_
  intro p e s m below meth c ls A hx hb hr hlocks hml hown hts hA hP hD hK htb hS hl
  have hl : lv_has ls 13 [(0, .ref h0), (1, .int p0), (2, .int p1), (3, .int p2), (4, .int p3), (5, .int p4)] := hl
  refine lv_iload_n hx hb dX1_two_0 rfl (lv_at hl 1 rfl) ?_
  refine lv_if_lt (tgt := 28) hx hb dX1_two_1 (by decide) (fun c_1 => ?_) (fun c_1 => ?_)
  · skip
    refine lv_iconst (v := (-1)) hx hb dX1_two_28 (by decide) ?_
    have hE : f_X1_two vk vn vb p0 p1 p2 p3 p4 = ((-1), vk, vn, vb) := (by rw [f_X1_two, if_pos c_1])
    exact m_iret hx hb hr hlocks hP hD hK hS dX1_two_29 ⟨by rw [hE], by rw [hE]⟩
  · skip
    refine lv_iload_n hx hb dX1_two_4 rfl (lv_at hl 1 rfl) ?_
    refine lv_bipush (v := 10) hx hb dX1_two_5 (by decide) ?_
    refine pi_gt (tgt := 28) hx hb dX1_two_7 (by decide) (fun c_2 => ?_) (fun c_2 => ?_)
    · skip
      refine lv_iconst (v := (-1)) hx hb dX1_two_28 (by decide) ?_
      have hE : f_X1_two vk vn vb p0 p1 p2 p3 p4 = ((-1), vk, vn, vb) := (by rw [f_X1_two, if_neg c_1, if_pos c_2])
      exact m_iret hx hb hr hlocks hP hD hK hS dX1_two_29 ⟨by rw [hE], by rw [hE]⟩
    · skip
      refine lv_iload_n hx hb dX1_two_10 rfl (lv_at hl 2 rfl) ?_
      refine lv_iload_n hx hb dX1_two_11 rfl (lv_at hl 3 rfl) ?_
      refine pu_Si (As := [.int p1, .int p2]) (rest := []) ⟨hx, hb, hml, hown, hts⟩ (cc_X1_isValue l _ (p1) (p2)) 2 gX1_two_X1_isValue rfl rfl rfl hdS_X1_isValue ⟨Nat.le_of_ble_eq_true rfl, Nat.le_of_ble_eq_true rfl⟩ kN_ok kN_at rfl hl.1 rfl (Nat.le_of_ble_eq_true rfl) dX1_two_12 ⟨Nat.zero_le _, Nat.zero_le _⟩ ?_
      refine lv_if_eq (tgt := 28) hx hb dX1_two_15 (by decide) (fun c_3 => ?_) (fun c_3 => ?_)
      · skip
        refine lv_iconst (v := (-1)) hx hb dX1_two_28 (by decide) ?_
        have hE : f_X1_two vk vn vb p0 p1 p2 p3 p4 = ((-1), vk, vn, vb) := (by rw [f_X1_two, if_neg c_1, if_neg c_2, if_pos c_3])
        exact m_iret hx hb hr hlocks hP hD hK hS dX1_two_29 ⟨by rw [hE], by rw [hE]⟩
      · skip
        refine lv_iload hx hb dX1_two_18 (lv_at hl 4 rfl) ?_
        refine lv_iload hx hb dX1_two_20 (lv_at hl 5 rfl) ?_
        refine pu_Si (As := [.int p3, .int p4]) (rest := []) ⟨hx, hb, hml, hown, hts⟩ (cc_X1_isValue l _ (p3) (p4)) 2 gX1_two_X1_isValue rfl rfl rfl hdS_X1_isValue ⟨Nat.le_of_ble_eq_true rfl, Nat.le_of_ble_eq_true rfl⟩ kN_ok kN_at rfl hl.1 rfl (Nat.le_of_ble_eq_true rfl) dX1_two_22 ⟨Nat.zero_le _, Nat.zero_le _⟩ ?_
        refine lv_if_ne (tgt := 30) hx hb dX1_two_25 (by decide) (fun c_4 => ?_) (fun c_4 => ?_)
        · skip
          refine lv_iload_n hx hb dX1_two_30 rfl (lv_at hl 2 rfl) ?_
          refine lv_iconst (v := 1) hx hb dX1_two_31 (by decide) ?_
          refine lv_icmp_ne (tgt := 45) hx hb dX1_two_32 (by decide) (fun c_5 => ?_) (fun c_5 => ?_)
          · skip
            refine lv_iconst (v := 0) hx hb dX1_two_45 (by decide) ?_
            refine lv_istore (lv' := [(6, .int 0), (0, .ref h0), (1, .int p0), (2, .int p1), (3, .int p2), (4, .int p3), (5, .int p4)]) hx hb dX1_two_46 hl (by decide) rfl (fun ls hl => ?_)
            refine lv_iload_n hx hb dX1_two_48 rfl (lv_at hl 2 rfl) ?_
            refine lv_iconst (v := 4) hx hb dX1_two_49 (by decide) ?_
            refine lv_icmp_eq (tgt := 64) hx hb dX1_two_50 (by decide) (fun c_6 => ?_) (fun c_6 => ?_)
            · skip
              refine lv_iload hx hb dX1_two_64 (lv_at hl 0 rfl) ?_
              refine lv_if_eq (tgt := 80) hx hb dX1_two_66 (by decide) (fun _ => ?_) (fun q => absurd (by decide) q)
              refine lv_bipush (v := (-4)) hx hb dX1_two_80 (by decide) ?_
              have hE : f_X1_two vk vn vb p0 p1 p2 p3 p4 = ((-4), vk, vn, vb) := (by rw [f_X1_two, if_neg c_1, if_neg c_2, if_neg c_3, if_neg c_4, if_neg c_5, if_pos c_6])
              exact m_iret hx hb hr hlocks hP hD hK hS dX1_two_82 ⟨by rw [hE], by rw [hE]⟩
            · skip
              refine lv_iload_n hx hb dX1_two_53 rfl (lv_at hl 2 rfl) ?_
              refine lv_iconst (v := 5) hx hb dX1_two_54 (by decide) ?_
              refine lv_icmp_eq (tgt := 64) hx hb dX1_two_55 (by decide) (fun c_8 => ?_) (fun c_8 => ?_)
              · skip
                refine lv_iload hx hb dX1_two_64 (lv_at hl 0 rfl) ?_
                refine lv_if_eq (tgt := 80) hx hb dX1_two_66 (by decide) (fun _ => ?_) (fun q => absurd (by decide) q)
                refine lv_bipush (v := (-4)) hx hb dX1_two_80 (by decide) ?_
                have hE : f_X1_two vk vn vb p0 p1 p2 p3 p4 = ((-4), vk, vn, vb) := (by rw [f_X1_two, if_neg c_1, if_neg c_2, if_neg c_3, if_neg c_4, if_neg c_5, if_neg c_6, if_pos c_8])
                exact m_iret hx hb hr hlocks hP hD hK hS dX1_two_82 ⟨by rw [hE], by rw [hE]⟩
              · skip
                refine lv_iload_n hx hb dX1_two_58 rfl (lv_at hl 2 rfl) ?_
                refine lv_bipush (v := 6) hx hb dX1_two_59 (by decide) ?_
                refine pi_le (tgt := 83) hx hb dX1_two_61 (by decide) (fun c_10 => ?_) (fun c_10 => ?_)
                · skip
                  refine lv_iload hx hb dX1_two_83 (lv_at hl 0 rfl) ?_
                  refine lv_if_eq (tgt := 131) hx hb dX1_two_85 (by decide) (fun _ => ?_) (fun q => absurd (by decide) q)
                  refine lv_iload_n hx hb dX1_two_131 rfl (lv_at hl 3 rfl) ?_
                  refine lv_iload_n hx hb dX1_two_132 rfl (lv_at hl 4 rfl) ?_
                  refine pu_Si (As := [.int p1, .int p2]) (rest := []) ⟨hx, hb, hml, hown, hts⟩ (cc_X1_hasUnits l _ (p1) (p2)) 2 gX1_two_X1_hasUnits rfl rfl rfl hdS_X1_hasUnits ⟨Nat.le_of_ble_eq_true rfl, Nat.le_of_ble_eq_true rfl⟩ kN_ok kN_at rfl hl.1 rfl (Nat.le_of_ble_eq_true rfl) dX1_two_133 ⟨Nat.zero_le _, Nat.zero_le _⟩ ?_
                  refine lv_if_eq (tgt := 149) hx hb dX1_two_136 (by decide) (fun c_12 => ?_) (fun c_12 => ?_)
                  · skip
                    refine lv_bipush (v := (-2)) hx hb dX1_two_149 (by decide) ?_
                    have hE : f_X1_two vk vn vb p0 p1 p2 p3 p4 = ((-2), vk, vn, vb) := (by rw [f_X1_two, if_neg c_1, if_neg c_2, if_neg c_3, if_neg c_4, if_neg c_5, if_neg c_6, if_neg c_8, if_neg c_10, if_pos c_12])
                    exact m_iret hx hb hr hlocks hP hD hK hS dX1_two_151 ⟨by rw [hE], by rw [hE]⟩
                  · skip
                    refine lv_iload hx hb dX1_two_139 (lv_at hl 5 rfl) ?_
                    refine lv_iload hx hb dX1_two_141 (lv_at hl 6 rfl) ?_
                    refine pu_Si (As := [.int p3, .int p4]) (rest := []) ⟨hx, hb, hml, hown, hts⟩ (cc_X1_hasUnits l _ (p3) (p4)) 2 gX1_two_X1_hasUnits rfl rfl rfl hdS_X1_hasUnits ⟨Nat.le_of_ble_eq_true rfl, Nat.le_of_ble_eq_true rfl⟩ kN_ok kN_at rfl hl.1 rfl (Nat.le_of_ble_eq_true rfl) dX1_two_143 ⟨Nat.zero_le _, Nat.zero_le _⟩ ?_
                    refine lv_if_ne (tgt := 152) hx hb dX1_two_146 (by decide) (fun c_13 => ?_) (fun c_13 => ?_)
                    · skip
                      refine lv_iload_n hx hb dX1_two_152 rfl (lv_at hl 3 rfl) ?_
                      refine lv_iload_n hx hb dX1_two_153 rfl (lv_at hl 4 rfl) ?_
                      refine pu_Sl (As := [.int p1, .int p2]) (rest := []) ⟨hx, hb, hml, hown, hts⟩ (cc_X1_units l _ (p1) (p2)) 2 gX1_two_X1_units rfl rfl rfl hdS_X1_units ⟨Nat.le_of_ble_eq_true rfl, Nat.le_of_ble_eq_true rfl⟩ kN_ok kN_at rfl hl.1 rfl (Nat.le_of_ble_eq_true rfl) dX1_two_154 ⟨Nat.zero_le _, Nat.zero_le _⟩ ?_
                      refine lv_lstore (lv' := [(7, .long (f_X1_units (p1) (p2))), (6, .int 0), (0, .ref h0), (1, .int p0), (2, .int p1), (3, .int p2), (4, .int p3), (5, .int p4)]) hx hb dX1_two_157 hl (by decide) rfl (fun ls hl => ?_)
                      refine lv_iload hx hb dX1_two_159 (lv_at hl 6 rfl) ?_
                      refine lv_iload hx hb dX1_two_161 (lv_at hl 7 rfl) ?_
                      refine pu_Sl (As := [.int p3, .int p4]) (rest := []) ⟨hx, hb, hml, hown, hts⟩ (cc_X1_units l _ (p3) (p4)) 2 gX1_two_X1_units rfl rfl rfl hdS_X1_units ⟨Nat.le_of_ble_eq_true rfl, Nat.le_of_ble_eq_true rfl⟩ kN_ok kN_at rfl hl.1 rfl (Nat.le_of_ble_eq_true rfl) dX1_two_163 ⟨Nat.zero_le _, Nat.zero_le _⟩ ?_
                      refine lv_lstore (lv' := [(9, .long (f_X1_units (p3) (p4))), (7, .long (f_X1_units (p1) (p2))), (6, .int 0), (0, .ref h0), (1, .int p0), (2, .int p1), (3, .int p2), (4, .int p3), (5, .int p4)]) hx hb dX1_two_166 hl (by decide) rfl (fun ls hl => ?_)
                      refine lv_iload_n hx hb dX1_two_168 rfl (lv_at hl 4 rfl) ?_
                      by_cases c_14 : p0 = 0
                      · skip
                        refine lv_tableIn (tgt := 200) (off := 31) hx hb dX1_two_169 (by rw [c_14]; decide) (by rw [c_14]; decide) (by rw [c_14]; decide) (by decide) ?_
                        refine lv_aload_n hx hb dX1_two_200 rfl (lv_at hl 3 rfl) ?_
                        refine lv_lload hx hb dX1_two_201 (lv_at hl 1 rfl) ?_
                        refine lv_lload hx hb dX1_two_203 (lv_at hl 0 rfl) ?_
                        refine lv_ladd hx hb dX1_two_205 ?_
                        refine mc_i (As := [.long ((f_X1_units (p1) (p2)) + (f_X1_units (p3) (p4)))]) (rest := []) ⟨hx, hb, hml, hown, hts⟩ (cc_X1_real l dC dI h0 h1 h2 cI cL _ (vk) (vn) (en) (nx) (vx) (vy) (vb) (((f_X1_units (p1) (p2)) + (f_X1_units (p3) (p4))))) 1 gX1_two_X1_real rfl rfl rfl hdV_X1_real ⟨Nat.le_of_ble_eq_true rfl, Nat.le_of_ble_eq_true rfl⟩ hP hD hK hS hA htb rfl hl.1 rfl (Nat.le_of_ble_eq_true rfl) dX1_two_206 ⟨Nat.zero_le _, Nat.zero_le _⟩ (fun H locs hP hD hS => ?_)
                        have hP : va_P (dC, dI) vwCl (mW h0 h1 h2 cI cL ((f_X1_real (vk) (vn) (((f_X1_units (p1) (p2)) + (f_X1_units (p3) (p4))))).2.1, (f_X1_real (vk) (vn) (((f_X1_units (p1) (p2)) + (f_X1_units (p3) (p4))))).2.2, en, nx, vx, vy, vb)) H := hP
                        have hD : va_D A (mW h0 h1 h2 cI cL ((f_X1_real (vk) (vn) (((f_X1_units (p1) (p2)) + (f_X1_units (p3) (p4))))).2.1, (f_X1_real (vk) (vn) (((f_X1_units (p1) (p2)) + (f_X1_units (p3) (p4))))).2.2, en, nx, vx, vy, vb)) := hD
                        have hE : f_X1_two vk vn vb p0 p1 p2 p3 p4 = ((f_X1_real (vk) (vn) (((f_X1_units (p1) (p2)) + (f_X1_units (p3) (p4))))).1, (f_X1_real (vk) (vn) (((f_X1_units (p1) (p2)) + (f_X1_units (p3) (p4))))).2.1, (f_X1_real (vk) (vn) (((f_X1_units (p1) (p2)) + (f_X1_units (p3) (p4))))).2.2, vb) := (by rw [f_X1_two, if_neg c_1, if_neg c_2, if_neg c_3, if_neg c_4, if_neg c_5, if_neg c_6, if_neg c_8, if_neg c_10, if_neg c_12, if_neg c_13, if_pos c_14])
                        exact m_iret hx hb hr hlocks hP hD hK hS dX1_two_209 ⟨by rw [hE], by rw [hE]⟩
                      by_cases c_15 : p0 = 1
                      · skip
                        refine lv_tableIn (tgt := 210) (off := 41) hx hb dX1_two_169 (by rw [c_15]; decide) (by rw [c_15]; decide) (by rw [c_15]; decide) (by decide) ?_
                        refine lv_aload_n hx hb dX1_two_210 rfl (lv_at hl 3 rfl) ?_
                        refine lv_lload hx hb dX1_two_211 (lv_at hl 1 rfl) ?_
                        refine lv_lload hx hb dX1_two_213 (lv_at hl 0 rfl) ?_
                        refine lv_lsub hx hb dX1_two_215 ?_
                        refine mc_i (As := [.long ((f_X1_units (p1) (p2)) - (f_X1_units (p3) (p4)))]) (rest := []) ⟨hx, hb, hml, hown, hts⟩ (cc_X1_real l dC dI h0 h1 h2 cI cL _ (vk) (vn) (en) (nx) (vx) (vy) (vb) (((f_X1_units (p1) (p2)) - (f_X1_units (p3) (p4))))) 1 gX1_two_X1_real rfl rfl rfl hdV_X1_real ⟨Nat.le_of_ble_eq_true rfl, Nat.le_of_ble_eq_true rfl⟩ hP hD hK hS hA htb rfl hl.1 rfl (Nat.le_of_ble_eq_true rfl) dX1_two_216 ⟨Nat.zero_le _, Nat.zero_le _⟩ (fun H locs hP hD hS => ?_)
                        have hP : va_P (dC, dI) vwCl (mW h0 h1 h2 cI cL ((f_X1_real (vk) (vn) (((f_X1_units (p1) (p2)) - (f_X1_units (p3) (p4))))).2.1, (f_X1_real (vk) (vn) (((f_X1_units (p1) (p2)) - (f_X1_units (p3) (p4))))).2.2, en, nx, vx, vy, vb)) H := hP
                        have hD : va_D A (mW h0 h1 h2 cI cL ((f_X1_real (vk) (vn) (((f_X1_units (p1) (p2)) - (f_X1_units (p3) (p4))))).2.1, (f_X1_real (vk) (vn) (((f_X1_units (p1) (p2)) - (f_X1_units (p3) (p4))))).2.2, en, nx, vx, vy, vb)) := hD
                        have hE : f_X1_two vk vn vb p0 p1 p2 p3 p4 = ((f_X1_real (vk) (vn) (((f_X1_units (p1) (p2)) - (f_X1_units (p3) (p4))))).1, (f_X1_real (vk) (vn) (((f_X1_units (p1) (p2)) - (f_X1_units (p3) (p4))))).2.1, (f_X1_real (vk) (vn) (((f_X1_units (p1) (p2)) - (f_X1_units (p3) (p4))))).2.2, vb) := (by rw [f_X1_two, if_neg c_1, if_neg c_2, if_neg c_3, if_neg c_4, if_neg c_5, if_neg c_6, if_neg c_8, if_neg c_10, if_neg c_12, if_neg c_13, if_neg c_14, if_pos c_15])
                        exact m_iret hx hb hr hlocks hP hD hK hS dX1_two_219 ⟨by rw [hE], by rw [hE]⟩
                      by_cases c_16 : p0 = 2
                      · skip
                        refine lv_tableIn (tgt := 220) (off := 51) hx hb dX1_two_169 (by rw [c_16]; decide) (by rw [c_16]; decide) (by rw [c_16]; decide) (by decide) ?_
                        refine lv_aload_n hx hb dX1_two_220 rfl (lv_at hl 3 rfl) ?_
                        refine lv_lload hx hb dX1_two_221 (lv_at hl 1 rfl) ?_
                        refine lv_lload hx hb dX1_two_223 (lv_at hl 0 rfl) ?_
                        refine lv_lmul hx hb dX1_two_225 ?_
                        refine pu_Sl (As := [.long ((f_X1_units (p1) (p2)) * (f_X1_units (p3) (p4)))]) (rest := [.ref h0]) ⟨hx, hb, hml, hown, hts⟩ (cc_X1_rounded l _ (((f_X1_units (p1) (p2)) * (f_X1_units (p3) (p4))))) 1 gX1_two_X1_rounded rfl rfl rfl hdS_X1_rounded ⟨Nat.le_of_ble_eq_true rfl, Nat.le_of_ble_eq_true rfl⟩ kN_ok kN_at rfl hl.1 rfl (Nat.le_of_ble_eq_true rfl) dX1_two_226 ⟨Nat.zero_le _, Nat.zero_le _⟩ ?_
                        refine mc_i (As := [.long (f_X1_rounded (((f_X1_units (p1) (p2)) * (f_X1_units (p3) (p4)))))]) (rest := []) ⟨hx, hb, hml, hown, hts⟩ (cc_X1_real l dC dI h0 h1 h2 cI cL _ (vk) (vn) (en) (nx) (vx) (vy) (vb) ((f_X1_rounded (((f_X1_units (p1) (p2)) * (f_X1_units (p3) (p4))))))) 1 gX1_two_X1_real rfl rfl rfl hdV_X1_real ⟨Nat.le_of_ble_eq_true rfl, Nat.le_of_ble_eq_true rfl⟩ hP hD hK hS hA htb rfl hl.1 rfl (Nat.le_of_ble_eq_true rfl) dX1_two_229 ⟨Nat.zero_le _, Nat.zero_le _⟩ (fun H locs hP hD hS => ?_)
                        have hP : va_P (dC, dI) vwCl (mW h0 h1 h2 cI cL ((f_X1_real (vk) (vn) ((f_X1_rounded (((f_X1_units (p1) (p2)) * (f_X1_units (p3) (p4))))))).2.1, (f_X1_real (vk) (vn) ((f_X1_rounded (((f_X1_units (p1) (p2)) * (f_X1_units (p3) (p4))))))).2.2, en, nx, vx, vy, vb)) H := hP
                        have hD : va_D A (mW h0 h1 h2 cI cL ((f_X1_real (vk) (vn) ((f_X1_rounded (((f_X1_units (p1) (p2)) * (f_X1_units (p3) (p4))))))).2.1, (f_X1_real (vk) (vn) ((f_X1_rounded (((f_X1_units (p1) (p2)) * (f_X1_units (p3) (p4))))))).2.2, en, nx, vx, vy, vb)) := hD
                        have hE : f_X1_two vk vn vb p0 p1 p2 p3 p4 = ((f_X1_real (vk) (vn) ((f_X1_rounded (((f_X1_units (p1) (p2)) * (f_X1_units (p3) (p4))))))).1, (f_X1_real (vk) (vn) ((f_X1_rounded (((f_X1_units (p1) (p2)) * (f_X1_units (p3) (p4))))))).2.1, (f_X1_real (vk) (vn) ((f_X1_rounded (((f_X1_units (p1) (p2)) * (f_X1_units (p3) (p4))))))).2.2, vb) := (by rw [f_X1_two, if_neg c_1, if_neg c_2, if_neg c_3, if_neg c_4, if_neg c_5, if_neg c_6, if_neg c_8, if_neg c_10, if_neg c_12, if_neg c_13, if_neg c_14, if_neg c_15, if_pos c_16])
                        exact m_iret hx hb hr hlocks hP hD hK hS dX1_two_232 ⟨by rw [hE], by rw [hE]⟩
                      by_cases c_17 : p0 = 3
                      · skip
                        refine lv_tableIn (tgt := 233) (off := 64) hx hb dX1_two_169 (by rw [c_17]; decide) (by rw [c_17]; decide) (by rw [c_17]; decide) (by decide) ?_
                        refine lv_lload hx hb dX1_two_233 (lv_at hl 0 rfl) ?_
                        refine lv_lconst (v := 0) hx hb dX1_two_235 (by decide) ?_
                        refine pl_ne (tgt := 243) hx hb dX1_two_236 dX1_two_237 (by decide) (fun c_18 => ?_) (fun c_18 => ?_)
                        · skip
                          refine lv_aload_n hx hb dX1_two_243 rfl (lv_at hl 3 rfl) ?_
                          refine lv_lload hx hb dX1_two_244 (lv_at hl 1 rfl) ?_
                          refine lv_lload hx hb dX1_two_246 (lv_at hl 0 rfl) ?_
                          refine lv_bipush (v := 16) hx hb dX1_two_248 (by decide) ?_
                          refine mc_l (As := [.long (f_X1_units (p1) (p2)), .long (f_X1_units (p3) (p4)), .int 16]) (rest := []) ⟨hx, hb, hml, hown, hts⟩ (cc_X1_quotient_16 l dC dI h0 h1 h2 cI cL _ (vk) (vn) (en) (nx) (vx) (vy) (vb) ((f_X1_units (p1) (p2))) ((f_X1_units (p3) (p4))) (c_18)) 3 gX1_two_X1_quotient rfl rfl rfl hdV_X1_quotient ⟨Nat.le_of_ble_eq_true rfl, Nat.le_of_ble_eq_true rfl⟩ hP hD hK hS hA htb rfl hl.1 rfl (Nat.le_of_ble_eq_true rfl) dX1_two_250 ⟨Nat.zero_le _, Nat.zero_le _⟩ (fun H locs hP hD hS => ?_)
                          have hP : va_P (dC, dI) vwCl (mW h0 h1 h2 cI cL (vk, vn, en, nx, vx, vy, (f_X1_quotient_16 ((f_X1_units (p1) (p2))) ((f_X1_units (p3) (p4)))).2)) H := hP
                          have hD : va_D A (mW h0 h1 h2 cI cL (vk, vn, en, nx, vx, vy, (f_X1_quotient_16 ((f_X1_units (p1) (p2))) ((f_X1_units (p3) (p4)))).2)) := hD
                          refine lv_lstore (lv' := [(11, .long (f_X1_quotient_16 ((f_X1_units (p1) (p2))) ((f_X1_units (p3) (p4)))).1), (9, .long (f_X1_units (p3) (p4))), (7, .long (f_X1_units (p1) (p2))), (6, .int 0), (0, .ref h0), (1, .int p0), (2, .int p1), (3, .int p2), (4, .int p3), (5, .int p4)]) hx hb dX1_two_253 hl (by decide) rfl (fun ls hl => ?_)
                          refine lv_aload_n hx hb dX1_two_255 rfl (lv_at hl 4 rfl) ?_
                          refine va_get (D := (dC, dI)) (ci := 1) (v := .int (f_X1_quotient_16 ((f_X1_units (p1) (p2))) ((f_X1_units (p3) (p4)))).2) (C := RX1) (T := TX1) (N := 7) hx hb hts fi_X1_two hown hK hP 0 rfl rfl 6 (by decide) (hts (.fieldLink RX1 44 "FixedPlaneModel" "beyond" "Z") (by decide +kernel)) (fun _ h9 => h9) rfl dX1_two_256 ?_
                          refine lv_if_eq (tgt := 267) hx hb dX1_two_259 (by decide) (fun c_19 => ?_) (fun c_19 => ?_)
                          · skip
                            refine lv_aload_n hx hb dX1_two_267 rfl (lv_at hl 4 rfl) ?_
                            refine lv_lload hx hb dX1_two_268 (lv_at hl 0 rfl) ?_
                            refine mc_i (As := [.long (f_X1_quotient_16 ((f_X1_units (p1) (p2))) ((f_X1_units (p3) (p4)))).1]) (rest := []) ⟨hx, hb, hml, hown, hts⟩ (cc_X1_real l dC dI h0 h1 h2 cI cL _ (vk) (vn) (en) (nx) (vx) (vy) ((f_X1_quotient_16 ((f_X1_units (p1) (p2))) ((f_X1_units (p3) (p4)))).2) ((f_X1_quotient_16 ((f_X1_units (p1) (p2))) ((f_X1_units (p3) (p4)))).1)) 1 gX1_two_X1_real rfl rfl rfl hdV_X1_real ⟨Nat.le_of_ble_eq_true rfl, Nat.le_of_ble_eq_true rfl⟩ hP hD hK hS hA htb rfl hl.1 rfl (Nat.le_of_ble_eq_true rfl) dX1_two_270 ⟨Nat.zero_le _, Nat.zero_le _⟩ (fun H locs hP hD hS => ?_)
                            have hP : va_P (dC, dI) vwCl (mW h0 h1 h2 cI cL ((f_X1_real (vk) (vn) ((f_X1_quotient_16 ((f_X1_units (p1) (p2))) ((f_X1_units (p3) (p4)))).1)).2.1, (f_X1_real (vk) (vn) ((f_X1_quotient_16 ((f_X1_units (p1) (p2))) ((f_X1_units (p3) (p4)))).1)).2.2, en, nx, vx, vy, (f_X1_quotient_16 ((f_X1_units (p1) (p2))) ((f_X1_units (p3) (p4)))).2)) H := hP
                            have hD : va_D A (mW h0 h1 h2 cI cL ((f_X1_real (vk) (vn) ((f_X1_quotient_16 ((f_X1_units (p1) (p2))) ((f_X1_units (p3) (p4)))).1)).2.1, (f_X1_real (vk) (vn) ((f_X1_quotient_16 ((f_X1_units (p1) (p2))) ((f_X1_units (p3) (p4)))).1)).2.2, en, nx, vx, vy, (f_X1_quotient_16 ((f_X1_units (p1) (p2))) ((f_X1_units (p3) (p4)))).2)) := hD
                            have hE : f_X1_two vk vn vb p0 p1 p2 p3 p4 = ((f_X1_real (vk) (vn) ((f_X1_quotient_16 ((f_X1_units (p1) (p2))) ((f_X1_units (p3) (p4)))).1)).1, (f_X1_real (vk) (vn) ((f_X1_quotient_16 ((f_X1_units (p1) (p2))) ((f_X1_units (p3) (p4)))).1)).2.1, (f_X1_real (vk) (vn) ((f_X1_quotient_16 ((f_X1_units (p1) (p2))) ((f_X1_units (p3) (p4)))).1)).2.2, (f_X1_quotient_16 ((f_X1_units (p1) (p2))) ((f_X1_units (p3) (p4)))).2) := (by rw [f_X1_two, if_neg c_1, if_neg c_2, if_neg c_3, if_neg c_4, if_neg c_5, if_neg c_6, if_neg c_8, if_neg c_10, if_neg c_12, if_neg c_13, if_neg c_14, if_neg c_15, if_neg c_16, if_pos c_17, if_neg c_18, if_pos c_19])
                            exact m_iret hx hb hr hlocks hP hD hK hS dX1_two_273 ⟨by rw [hE], by rw [hE]⟩
                          · skip
                            refine lv_bipush (v := (-2)) hx hb dX1_two_262 (by decide) ?_
                            refine lv_goto (tgt := 273) hx hb dX1_two_264 (by decide) ?_
                            have hE : f_X1_two vk vn vb p0 p1 p2 p3 p4 = ((-2), vk, vn, (f_X1_quotient_16 ((f_X1_units (p1) (p2))) ((f_X1_units (p3) (p4)))).2) := (by rw [f_X1_two, if_neg c_1, if_neg c_2, if_neg c_3, if_neg c_4, if_neg c_5, if_neg c_6, if_neg c_8, if_neg c_10, if_neg c_12, if_neg c_13, if_neg c_14, if_neg c_15, if_neg c_16, if_pos c_17, if_neg c_18, if_neg c_19])
                            exact m_iret hx hb hr hlocks hP hD hK hS dX1_two_273 ⟨by rw [hE], by rw [hE]⟩
                        · skip
                          refine lv_bipush (v := (-3)) hx hb dX1_two_240 (by decide) ?_
                          have hE : f_X1_two vk vn vb p0 p1 p2 p3 p4 = ((-3), vk, vn, vb) := (by rw [f_X1_two, if_neg c_1, if_neg c_2, if_neg c_3, if_neg c_4, if_neg c_5, if_neg c_6, if_neg c_8, if_neg c_10, if_neg c_12, if_neg c_13, if_neg c_14, if_neg c_15, if_neg c_16, if_pos c_17, if_pos c_18])
                          exact m_iret hx hb hr hlocks hP hD hK hS dX1_two_242 ⟨by rw [hE], by rw [hE]⟩
                      refine lv_tableOut (tgt := 274) hx hb dX1_two_169 (by have q0 : p0.toInt ≠ 0 := fun q => c_14 (Int32.toInt_inj.mp (q.trans (by decide))); have q1 : p0.toInt ≠ 1 := fun q => c_15 (Int32.toInt_inj.mp (q.trans (by decide))); have q2 : p0.toInt ≠ 2 := fun q => c_16 (Int32.toInt_inj.mp (q.trans (by decide))); have q3 : p0.toInt ≠ 3 := fun q => c_17 (Int32.toInt_inj.mp (q.trans (by decide))); omega) (by decide) ?_
                      refine lv_lload hx hb dX1_two_274 (lv_at hl 1 rfl) ?_
                      refine lv_lconst (v := 0) hx hb dX1_two_276 (by decide) ?_
                      refine pl_ne (tgt := 293) hx hb dX1_two_277 dX1_two_278 (by decide) (fun c_20 => ?_) (fun c_20 => ?_)
                      · skip
                        refine lv_aload_n hx hb dX1_two_293 rfl (lv_at hl 3 rfl) ?_
                        refine lv_lload hx hb dX1_two_294 (lv_at hl 0 rfl) ?_
                        refine lv_lload hx hb dX1_two_296 (lv_at hl 1 rfl) ?_
                        refine pu_Sl (As := [.long (f_X1_units (p3) (p4)), .long (f_X1_units (p1) (p2))]) (rest := [.ref h0]) ⟨hx, hb, hml, hown, hts⟩ (cc_X1_angle l _ ((f_X1_units (p3) (p4))) ((f_X1_units (p1) (p2)))) 2 gX1_two_X1_angle rfl rfl rfl hdS_X1_angle ⟨Nat.le_of_ble_eq_true rfl, Nat.le_of_ble_eq_true rfl⟩ (kT_ok _) (kT_of htb hS) rfl hl.1 rfl (Nat.le_of_ble_eq_true rfl) dX1_two_298 ⟨Nat.zero_le _, Nat.zero_le _⟩ ?_
                        refine mc_i (As := [.long (f_X1_angle ((f_X1_units (p3) (p4))) ((f_X1_units (p1) (p2))))]) (rest := []) ⟨hx, hb, hml, hown, hts⟩ (cc_X1_real l dC dI h0 h1 h2 cI cL _ (vk) (vn) (en) (nx) (vx) (vy) (vb) ((f_X1_angle ((f_X1_units (p3) (p4))) ((f_X1_units (p1) (p2)))))) 1 gX1_two_X1_real rfl rfl rfl hdV_X1_real ⟨Nat.le_of_ble_eq_true rfl, Nat.le_of_ble_eq_true rfl⟩ hP hD hK hS hA htb rfl hl.1 rfl (Nat.le_of_ble_eq_true rfl) dX1_two_301 ⟨Nat.zero_le _, Nat.zero_le _⟩ (fun H locs hP hD hS => ?_)
                        have hP : va_P (dC, dI) vwCl (mW h0 h1 h2 cI cL ((f_X1_real (vk) (vn) ((f_X1_angle ((f_X1_units (p3) (p4))) ((f_X1_units (p1) (p2)))))).2.1, (f_X1_real (vk) (vn) ((f_X1_angle ((f_X1_units (p3) (p4))) ((f_X1_units (p1) (p2)))))).2.2, en, nx, vx, vy, vb)) H := hP
                        have hD : va_D A (mW h0 h1 h2 cI cL ((f_X1_real (vk) (vn) ((f_X1_angle ((f_X1_units (p3) (p4))) ((f_X1_units (p1) (p2)))))).2.1, (f_X1_real (vk) (vn) ((f_X1_angle ((f_X1_units (p3) (p4))) ((f_X1_units (p1) (p2)))))).2.2, en, nx, vx, vy, vb)) := hD
                        have hE : f_X1_two vk vn vb p0 p1 p2 p3 p4 = ((f_X1_real (vk) (vn) ((f_X1_angle ((f_X1_units (p3) (p4))) ((f_X1_units (p1) (p2)))))).1, (f_X1_real (vk) (vn) ((f_X1_angle ((f_X1_units (p3) (p4))) ((f_X1_units (p1) (p2)))))).2.1, (f_X1_real (vk) (vn) ((f_X1_angle ((f_X1_units (p3) (p4))) ((f_X1_units (p1) (p2)))))).2.2, vb) := (by rw [f_X1_two, if_neg c_1, if_neg c_2, if_neg c_3, if_neg c_4, if_neg c_5, if_neg c_6, if_neg c_8, if_neg c_10, if_neg c_12, if_neg c_13, if_neg c_14, if_neg c_15, if_neg c_16, if_neg c_17, if_neg c_20])
                        exact m_iret hx hb hr hlocks hP hD hK hS dX1_two_304 ⟨by rw [hE], by rw [hE]⟩
                      · skip
                        refine lv_lload hx hb dX1_two_281 (lv_at hl 0 rfl) ?_
                        refine lv_lconst (v := 0) hx hb dX1_two_283 (by decide) ?_
                        refine pl_ne (tgt := 293) hx hb dX1_two_284 dX1_two_285 (by decide) (fun c_21 => ?_) (fun c_21 => ?_)
                        · skip
                          refine lv_aload_n hx hb dX1_two_293 rfl (lv_at hl 3 rfl) ?_
                          refine lv_lload hx hb dX1_two_294 (lv_at hl 0 rfl) ?_
                          refine lv_lload hx hb dX1_two_296 (lv_at hl 1 rfl) ?_
                          refine pu_Sl (As := [.long (f_X1_units (p3) (p4)), .long (f_X1_units (p1) (p2))]) (rest := [.ref h0]) ⟨hx, hb, hml, hown, hts⟩ (cc_X1_angle l _ ((f_X1_units (p3) (p4))) ((f_X1_units (p1) (p2)))) 2 gX1_two_X1_angle rfl rfl rfl hdS_X1_angle ⟨Nat.le_of_ble_eq_true rfl, Nat.le_of_ble_eq_true rfl⟩ (kT_ok _) (kT_of htb hS) rfl hl.1 rfl (Nat.le_of_ble_eq_true rfl) dX1_two_298 ⟨Nat.zero_le _, Nat.zero_le _⟩ ?_
                          refine mc_i (As := [.long (f_X1_angle ((f_X1_units (p3) (p4))) ((f_X1_units (p1) (p2))))]) (rest := []) ⟨hx, hb, hml, hown, hts⟩ (cc_X1_real l dC dI h0 h1 h2 cI cL _ (vk) (vn) (en) (nx) (vx) (vy) (vb) ((f_X1_angle ((f_X1_units (p3) (p4))) ((f_X1_units (p1) (p2)))))) 1 gX1_two_X1_real rfl rfl rfl hdV_X1_real ⟨Nat.le_of_ble_eq_true rfl, Nat.le_of_ble_eq_true rfl⟩ hP hD hK hS hA htb rfl hl.1 rfl (Nat.le_of_ble_eq_true rfl) dX1_two_301 ⟨Nat.zero_le _, Nat.zero_le _⟩ (fun H locs hP hD hS => ?_)
                          have hP : va_P (dC, dI) vwCl (mW h0 h1 h2 cI cL ((f_X1_real (vk) (vn) ((f_X1_angle ((f_X1_units (p3) (p4))) ((f_X1_units (p1) (p2)))))).2.1, (f_X1_real (vk) (vn) ((f_X1_angle ((f_X1_units (p3) (p4))) ((f_X1_units (p1) (p2)))))).2.2, en, nx, vx, vy, vb)) H := hP
                          have hD : va_D A (mW h0 h1 h2 cI cL ((f_X1_real (vk) (vn) ((f_X1_angle ((f_X1_units (p3) (p4))) ((f_X1_units (p1) (p2)))))).2.1, (f_X1_real (vk) (vn) ((f_X1_angle ((f_X1_units (p3) (p4))) ((f_X1_units (p1) (p2)))))).2.2, en, nx, vx, vy, vb)) := hD
                          have hE : f_X1_two vk vn vb p0 p1 p2 p3 p4 = ((f_X1_real (vk) (vn) ((f_X1_angle ((f_X1_units (p3) (p4))) ((f_X1_units (p1) (p2)))))).1, (f_X1_real (vk) (vn) ((f_X1_angle ((f_X1_units (p3) (p4))) ((f_X1_units (p1) (p2)))))).2.1, (f_X1_real (vk) (vn) ((f_X1_angle ((f_X1_units (p3) (p4))) ((f_X1_units (p1) (p2)))))).2.2, vb) := (by rw [f_X1_two, if_neg c_1, if_neg c_2, if_neg c_3, if_neg c_4, if_neg c_5, if_neg c_6, if_neg c_8, if_neg c_10, if_neg c_12, if_neg c_13, if_neg c_14, if_neg c_15, if_neg c_16, if_neg c_17, if_pos c_20, if_neg c_21])
                          exact m_iret hx hb hr hlocks hP hD hK hS dX1_two_304 ⟨by rw [hE], by rw [hE]⟩
                        · skip
                          refine lv_bipush (v := (-3)) hx hb dX1_two_288 (by decide) ?_
                          refine lv_goto (tgt := 304) hx hb dX1_two_290 (by decide) ?_
                          have hE : f_X1_two vk vn vb p0 p1 p2 p3 p4 = ((-3), vk, vn, vb) := (by rw [f_X1_two, if_neg c_1, if_neg c_2, if_neg c_3, if_neg c_4, if_neg c_5, if_neg c_6, if_neg c_8, if_neg c_10, if_neg c_12, if_neg c_13, if_neg c_14, if_neg c_15, if_neg c_16, if_neg c_17, if_pos c_20, if_pos c_21])
                          exact m_iret hx hb hr hlocks hP hD hK hS dX1_two_304 ⟨by rw [hE], by rw [hE]⟩
                    · skip
                      refine lv_bipush (v := (-2)) hx hb dX1_two_149 (by decide) ?_
                      have hE : f_X1_two vk vn vb p0 p1 p2 p3 p4 = ((-2), vk, vn, vb) := (by rw [f_X1_two, if_neg c_1, if_neg c_2, if_neg c_3, if_neg c_4, if_neg c_5, if_neg c_6, if_neg c_8, if_neg c_10, if_neg c_12, if_pos c_13])
                      exact m_iret hx hb hr hlocks hP hD hK hS dX1_two_151 ⟨by rw [hE], by rw [hE]⟩
                · skip
                  refine lv_iload hx hb dX1_two_64 (lv_at hl 0 rfl) ?_
                  refine lv_if_eq (tgt := 80) hx hb dX1_two_66 (by decide) (fun _ => ?_) (fun q => absurd (by decide) q)
                  refine lv_bipush (v := (-4)) hx hb dX1_two_80 (by decide) ?_
                  have hE : f_X1_two vk vn vb p0 p1 p2 p3 p4 = ((-4), vk, vn, vb) := (by rw [f_X1_two, if_neg c_1, if_neg c_2, if_neg c_3, if_neg c_4, if_neg c_5, if_neg c_6, if_neg c_8, if_pos c_10])
                  exact m_iret hx hb hr hlocks hP hD hK hS dX1_two_82 ⟨by rw [hE], by rw [hE]⟩
          · skip
            refine lv_iload hx hb dX1_two_35 (lv_at hl 4 rfl) ?_
            refine lv_iconst (v := 1) hx hb dX1_two_37 (by decide) ?_
            refine lv_icmp_ne (tgt := 45) hx hb dX1_two_38 (by decide) (fun c_23 => ?_) (fun c_23 => ?_)
            · skip
              refine lv_iconst (v := 0) hx hb dX1_two_45 (by decide) ?_
              refine lv_istore (lv' := [(6, .int 0), (0, .ref h0), (1, .int p0), (2, .int p1), (3, .int p2), (4, .int p3), (5, .int p4)]) hx hb dX1_two_46 hl (by decide) rfl (fun ls hl => ?_)
              refine lv_iload_n hx hb dX1_two_48 rfl (lv_at hl 2 rfl) ?_
              refine lv_iconst (v := 4) hx hb dX1_two_49 (by decide) ?_
              refine lv_icmp_eq (tgt := 64) hx hb dX1_two_50 (by decide) (fun c_24 => ?_) (fun c_24 => ?_)
              · skip
                refine lv_iload hx hb dX1_two_64 (lv_at hl 0 rfl) ?_
                refine lv_if_eq (tgt := 80) hx hb dX1_two_66 (by decide) (fun _ => ?_) (fun q => absurd (by decide) q)
                refine lv_bipush (v := (-4)) hx hb dX1_two_80 (by decide) ?_
                have hE : f_X1_two vk vn vb p0 p1 p2 p3 p4 = ((-4), vk, vn, vb) := (by rw [f_X1_two, if_neg c_1, if_neg c_2, if_neg c_3, if_neg c_4, if_pos c_5, if_neg c_23, if_pos c_24])
                exact m_iret hx hb hr hlocks hP hD hK hS dX1_two_82 ⟨by rw [hE], by rw [hE]⟩
              · skip
                refine lv_iload_n hx hb dX1_two_53 rfl (lv_at hl 2 rfl) ?_
                refine lv_iconst (v := 5) hx hb dX1_two_54 (by decide) ?_
                refine lv_icmp_eq (tgt := 64) hx hb dX1_two_55 (by decide) (fun c_26 => ?_) (fun c_26 => ?_)
                · skip
                  refine lv_iload hx hb dX1_two_64 (lv_at hl 0 rfl) ?_
                  refine lv_if_eq (tgt := 80) hx hb dX1_two_66 (by decide) (fun _ => ?_) (fun q => absurd (by decide) q)
                  refine lv_bipush (v := (-4)) hx hb dX1_two_80 (by decide) ?_
                  have hE : f_X1_two vk vn vb p0 p1 p2 p3 p4 = ((-4), vk, vn, vb) := (by rw [f_X1_two, if_neg c_1, if_neg c_2, if_neg c_3, if_neg c_4, if_pos c_5, if_neg c_23, if_neg c_24, if_pos c_26])
                  exact m_iret hx hb hr hlocks hP hD hK hS dX1_two_82 ⟨by rw [hE], by rw [hE]⟩
                · skip
                  refine lv_iload_n hx hb dX1_two_58 rfl (lv_at hl 2 rfl) ?_
                  refine lv_bipush (v := 6) hx hb dX1_two_59 (by decide) ?_
                  refine pi_le (tgt := 83) hx hb dX1_two_61 (by decide) (fun c_28 => ?_) (fun c_28 => ?_)
                  · skip
                    refine lv_iload hx hb dX1_two_83 (lv_at hl 0 rfl) ?_
                    refine lv_if_eq (tgt := 131) hx hb dX1_two_85 (by decide) (fun _ => ?_) (fun q => absurd (by decide) q)
                    refine lv_iload_n hx hb dX1_two_131 rfl (lv_at hl 3 rfl) ?_
                    refine lv_iload_n hx hb dX1_two_132 rfl (lv_at hl 4 rfl) ?_
                    refine pu_Si (As := [.int p1, .int p2]) (rest := []) ⟨hx, hb, hml, hown, hts⟩ (cc_X1_hasUnits l _ (p1) (p2)) 2 gX1_two_X1_hasUnits rfl rfl rfl hdS_X1_hasUnits ⟨Nat.le_of_ble_eq_true rfl, Nat.le_of_ble_eq_true rfl⟩ kN_ok kN_at rfl hl.1 rfl (Nat.le_of_ble_eq_true rfl) dX1_two_133 ⟨Nat.zero_le _, Nat.zero_le _⟩ ?_
                    refine lv_if_eq (tgt := 149) hx hb dX1_two_136 (by decide) (fun c_30 => ?_) (fun c_30 => ?_)
                    · skip
                      refine lv_bipush (v := (-2)) hx hb dX1_two_149 (by decide) ?_
                      have hE : f_X1_two vk vn vb p0 p1 p2 p3 p4 = ((-2), vk, vn, vb) := (by rw [f_X1_two, if_neg c_1, if_neg c_2, if_neg c_3, if_neg c_4, if_pos c_5, if_neg c_23, if_neg c_24, if_neg c_26, if_neg c_28, if_pos c_30])
                      exact m_iret hx hb hr hlocks hP hD hK hS dX1_two_151 ⟨by rw [hE], by rw [hE]⟩
                    · skip
                      refine lv_iload hx hb dX1_two_139 (lv_at hl 5 rfl) ?_
                      refine lv_iload hx hb dX1_two_141 (lv_at hl 6 rfl) ?_
                      refine pu_Si (As := [.int p3, .int p4]) (rest := []) ⟨hx, hb, hml, hown, hts⟩ (cc_X1_hasUnits l _ (p3) (p4)) 2 gX1_two_X1_hasUnits rfl rfl rfl hdS_X1_hasUnits ⟨Nat.le_of_ble_eq_true rfl, Nat.le_of_ble_eq_true rfl⟩ kN_ok kN_at rfl hl.1 rfl (Nat.le_of_ble_eq_true rfl) dX1_two_143 ⟨Nat.zero_le _, Nat.zero_le _⟩ ?_
                      refine lv_if_ne (tgt := 152) hx hb dX1_two_146 (by decide) (fun c_31 => ?_) (fun c_31 => ?_)
                      · skip
                        refine lv_iload_n hx hb dX1_two_152 rfl (lv_at hl 3 rfl) ?_
                        refine lv_iload_n hx hb dX1_two_153 rfl (lv_at hl 4 rfl) ?_
                        refine pu_Sl (As := [.int p1, .int p2]) (rest := []) ⟨hx, hb, hml, hown, hts⟩ (cc_X1_units l _ (p1) (p2)) 2 gX1_two_X1_units rfl rfl rfl hdS_X1_units ⟨Nat.le_of_ble_eq_true rfl, Nat.le_of_ble_eq_true rfl⟩ kN_ok kN_at rfl hl.1 rfl (Nat.le_of_ble_eq_true rfl) dX1_two_154 ⟨Nat.zero_le _, Nat.zero_le _⟩ ?_
                        refine lv_lstore (lv' := [(7, .long (f_X1_units (p1) (p2))), (6, .int 0), (0, .ref h0), (1, .int p0), (2, .int p1), (3, .int p2), (4, .int p3), (5, .int p4)]) hx hb dX1_two_157 hl (by decide) rfl (fun ls hl => ?_)
                        refine lv_iload hx hb dX1_two_159 (lv_at hl 6 rfl) ?_
                        refine lv_iload hx hb dX1_two_161 (lv_at hl 7 rfl) ?_
                        refine pu_Sl (As := [.int p3, .int p4]) (rest := []) ⟨hx, hb, hml, hown, hts⟩ (cc_X1_units l _ (p3) (p4)) 2 gX1_two_X1_units rfl rfl rfl hdS_X1_units ⟨Nat.le_of_ble_eq_true rfl, Nat.le_of_ble_eq_true rfl⟩ kN_ok kN_at rfl hl.1 rfl (Nat.le_of_ble_eq_true rfl) dX1_two_163 ⟨Nat.zero_le _, Nat.zero_le _⟩ ?_
                        refine lv_lstore (lv' := [(9, .long (f_X1_units (p3) (p4))), (7, .long (f_X1_units (p1) (p2))), (6, .int 0), (0, .ref h0), (1, .int p0), (2, .int p1), (3, .int p2), (4, .int p3), (5, .int p4)]) hx hb dX1_two_166 hl (by decide) rfl (fun ls hl => ?_)
                        refine lv_iload_n hx hb dX1_two_168 rfl (lv_at hl 4 rfl) ?_
                        by_cases c_32 : p0 = 0
                        · skip
                          refine lv_tableIn (tgt := 200) (off := 31) hx hb dX1_two_169 (by rw [c_32]; decide) (by rw [c_32]; decide) (by rw [c_32]; decide) (by decide) ?_
                          refine lv_aload_n hx hb dX1_two_200 rfl (lv_at hl 3 rfl) ?_
                          refine lv_lload hx hb dX1_two_201 (lv_at hl 1 rfl) ?_
                          refine lv_lload hx hb dX1_two_203 (lv_at hl 0 rfl) ?_
                          refine lv_ladd hx hb dX1_two_205 ?_
                          refine mc_i (As := [.long ((f_X1_units (p1) (p2)) + (f_X1_units (p3) (p4)))]) (rest := []) ⟨hx, hb, hml, hown, hts⟩ (cc_X1_real l dC dI h0 h1 h2 cI cL _ (vk) (vn) (en) (nx) (vx) (vy) (vb) (((f_X1_units (p1) (p2)) + (f_X1_units (p3) (p4))))) 1 gX1_two_X1_real rfl rfl rfl hdV_X1_real ⟨Nat.le_of_ble_eq_true rfl, Nat.le_of_ble_eq_true rfl⟩ hP hD hK hS hA htb rfl hl.1 rfl (Nat.le_of_ble_eq_true rfl) dX1_two_206 ⟨Nat.zero_le _, Nat.zero_le _⟩ (fun H locs hP hD hS => ?_)
                          have hP : va_P (dC, dI) vwCl (mW h0 h1 h2 cI cL ((f_X1_real (vk) (vn) (((f_X1_units (p1) (p2)) + (f_X1_units (p3) (p4))))).2.1, (f_X1_real (vk) (vn) (((f_X1_units (p1) (p2)) + (f_X1_units (p3) (p4))))).2.2, en, nx, vx, vy, vb)) H := hP
                          have hD : va_D A (mW h0 h1 h2 cI cL ((f_X1_real (vk) (vn) (((f_X1_units (p1) (p2)) + (f_X1_units (p3) (p4))))).2.1, (f_X1_real (vk) (vn) (((f_X1_units (p1) (p2)) + (f_X1_units (p3) (p4))))).2.2, en, nx, vx, vy, vb)) := hD
                          have hE : f_X1_two vk vn vb p0 p1 p2 p3 p4 = ((f_X1_real (vk) (vn) (((f_X1_units (p1) (p2)) + (f_X1_units (p3) (p4))))).1, (f_X1_real (vk) (vn) (((f_X1_units (p1) (p2)) + (f_X1_units (p3) (p4))))).2.1, (f_X1_real (vk) (vn) (((f_X1_units (p1) (p2)) + (f_X1_units (p3) (p4))))).2.2, vb) := (by rw [f_X1_two, if_neg c_1, if_neg c_2, if_neg c_3, if_neg c_4, if_pos c_5, if_neg c_23, if_neg c_24, if_neg c_26, if_neg c_28, if_neg c_30, if_neg c_31, if_pos c_32])
                          exact m_iret hx hb hr hlocks hP hD hK hS dX1_two_209 ⟨by rw [hE], by rw [hE]⟩
                        by_cases c_33 : p0 = 1
                        · skip
                          refine lv_tableIn (tgt := 210) (off := 41) hx hb dX1_two_169 (by rw [c_33]; decide) (by rw [c_33]; decide) (by rw [c_33]; decide) (by decide) ?_
                          refine lv_aload_n hx hb dX1_two_210 rfl (lv_at hl 3 rfl) ?_
                          refine lv_lload hx hb dX1_two_211 (lv_at hl 1 rfl) ?_
                          refine lv_lload hx hb dX1_two_213 (lv_at hl 0 rfl) ?_
                          refine lv_lsub hx hb dX1_two_215 ?_
                          refine mc_i (As := [.long ((f_X1_units (p1) (p2)) - (f_X1_units (p3) (p4)))]) (rest := []) ⟨hx, hb, hml, hown, hts⟩ (cc_X1_real l dC dI h0 h1 h2 cI cL _ (vk) (vn) (en) (nx) (vx) (vy) (vb) (((f_X1_units (p1) (p2)) - (f_X1_units (p3) (p4))))) 1 gX1_two_X1_real rfl rfl rfl hdV_X1_real ⟨Nat.le_of_ble_eq_true rfl, Nat.le_of_ble_eq_true rfl⟩ hP hD hK hS hA htb rfl hl.1 rfl (Nat.le_of_ble_eq_true rfl) dX1_two_216 ⟨Nat.zero_le _, Nat.zero_le _⟩ (fun H locs hP hD hS => ?_)
                          have hP : va_P (dC, dI) vwCl (mW h0 h1 h2 cI cL ((f_X1_real (vk) (vn) (((f_X1_units (p1) (p2)) - (f_X1_units (p3) (p4))))).2.1, (f_X1_real (vk) (vn) (((f_X1_units (p1) (p2)) - (f_X1_units (p3) (p4))))).2.2, en, nx, vx, vy, vb)) H := hP
                          have hD : va_D A (mW h0 h1 h2 cI cL ((f_X1_real (vk) (vn) (((f_X1_units (p1) (p2)) - (f_X1_units (p3) (p4))))).2.1, (f_X1_real (vk) (vn) (((f_X1_units (p1) (p2)) - (f_X1_units (p3) (p4))))).2.2, en, nx, vx, vy, vb)) := hD
                          have hE : f_X1_two vk vn vb p0 p1 p2 p3 p4 = ((f_X1_real (vk) (vn) (((f_X1_units (p1) (p2)) - (f_X1_units (p3) (p4))))).1, (f_X1_real (vk) (vn) (((f_X1_units (p1) (p2)) - (f_X1_units (p3) (p4))))).2.1, (f_X1_real (vk) (vn) (((f_X1_units (p1) (p2)) - (f_X1_units (p3) (p4))))).2.2, vb) := (by rw [f_X1_two, if_neg c_1, if_neg c_2, if_neg c_3, if_neg c_4, if_pos c_5, if_neg c_23, if_neg c_24, if_neg c_26, if_neg c_28, if_neg c_30, if_neg c_31, if_neg c_32, if_pos c_33])
                          exact m_iret hx hb hr hlocks hP hD hK hS dX1_two_219 ⟨by rw [hE], by rw [hE]⟩
                        by_cases c_34 : p0 = 2
                        · skip
                          refine lv_tableIn (tgt := 220) (off := 51) hx hb dX1_two_169 (by rw [c_34]; decide) (by rw [c_34]; decide) (by rw [c_34]; decide) (by decide) ?_
                          refine lv_aload_n hx hb dX1_two_220 rfl (lv_at hl 3 rfl) ?_
                          refine lv_lload hx hb dX1_two_221 (lv_at hl 1 rfl) ?_
                          refine lv_lload hx hb dX1_two_223 (lv_at hl 0 rfl) ?_
                          refine lv_lmul hx hb dX1_two_225 ?_
                          refine pu_Sl (As := [.long ((f_X1_units (p1) (p2)) * (f_X1_units (p3) (p4)))]) (rest := [.ref h0]) ⟨hx, hb, hml, hown, hts⟩ (cc_X1_rounded l _ (((f_X1_units (p1) (p2)) * (f_X1_units (p3) (p4))))) 1 gX1_two_X1_rounded rfl rfl rfl hdS_X1_rounded ⟨Nat.le_of_ble_eq_true rfl, Nat.le_of_ble_eq_true rfl⟩ kN_ok kN_at rfl hl.1 rfl (Nat.le_of_ble_eq_true rfl) dX1_two_226 ⟨Nat.zero_le _, Nat.zero_le _⟩ ?_
                          refine mc_i (As := [.long (f_X1_rounded (((f_X1_units (p1) (p2)) * (f_X1_units (p3) (p4)))))]) (rest := []) ⟨hx, hb, hml, hown, hts⟩ (cc_X1_real l dC dI h0 h1 h2 cI cL _ (vk) (vn) (en) (nx) (vx) (vy) (vb) ((f_X1_rounded (((f_X1_units (p1) (p2)) * (f_X1_units (p3) (p4))))))) 1 gX1_two_X1_real rfl rfl rfl hdV_X1_real ⟨Nat.le_of_ble_eq_true rfl, Nat.le_of_ble_eq_true rfl⟩ hP hD hK hS hA htb rfl hl.1 rfl (Nat.le_of_ble_eq_true rfl) dX1_two_229 ⟨Nat.zero_le _, Nat.zero_le _⟩ (fun H locs hP hD hS => ?_)
                          have hP : va_P (dC, dI) vwCl (mW h0 h1 h2 cI cL ((f_X1_real (vk) (vn) ((f_X1_rounded (((f_X1_units (p1) (p2)) * (f_X1_units (p3) (p4))))))).2.1, (f_X1_real (vk) (vn) ((f_X1_rounded (((f_X1_units (p1) (p2)) * (f_X1_units (p3) (p4))))))).2.2, en, nx, vx, vy, vb)) H := hP
                          have hD : va_D A (mW h0 h1 h2 cI cL ((f_X1_real (vk) (vn) ((f_X1_rounded (((f_X1_units (p1) (p2)) * (f_X1_units (p3) (p4))))))).2.1, (f_X1_real (vk) (vn) ((f_X1_rounded (((f_X1_units (p1) (p2)) * (f_X1_units (p3) (p4))))))).2.2, en, nx, vx, vy, vb)) := hD
                          have hE : f_X1_two vk vn vb p0 p1 p2 p3 p4 = ((f_X1_real (vk) (vn) ((f_X1_rounded (((f_X1_units (p1) (p2)) * (f_X1_units (p3) (p4))))))).1, (f_X1_real (vk) (vn) ((f_X1_rounded (((f_X1_units (p1) (p2)) * (f_X1_units (p3) (p4))))))).2.1, (f_X1_real (vk) (vn) ((f_X1_rounded (((f_X1_units (p1) (p2)) * (f_X1_units (p3) (p4))))))).2.2, vb) := (by rw [f_X1_two, if_neg c_1, if_neg c_2, if_neg c_3, if_neg c_4, if_pos c_5, if_neg c_23, if_neg c_24, if_neg c_26, if_neg c_28, if_neg c_30, if_neg c_31, if_neg c_32, if_neg c_33, if_pos c_34])
                          exact m_iret hx hb hr hlocks hP hD hK hS dX1_two_232 ⟨by rw [hE], by rw [hE]⟩
                        by_cases c_35 : p0 = 3
                        · skip
                          refine lv_tableIn (tgt := 233) (off := 64) hx hb dX1_two_169 (by rw [c_35]; decide) (by rw [c_35]; decide) (by rw [c_35]; decide) (by decide) ?_
                          refine lv_lload hx hb dX1_two_233 (lv_at hl 0 rfl) ?_
                          refine lv_lconst (v := 0) hx hb dX1_two_235 (by decide) ?_
                          refine pl_ne (tgt := 243) hx hb dX1_two_236 dX1_two_237 (by decide) (fun c_36 => ?_) (fun c_36 => ?_)
                          · skip
                            refine lv_aload_n hx hb dX1_two_243 rfl (lv_at hl 3 rfl) ?_
                            refine lv_lload hx hb dX1_two_244 (lv_at hl 1 rfl) ?_
                            refine lv_lload hx hb dX1_two_246 (lv_at hl 0 rfl) ?_
                            refine lv_bipush (v := 16) hx hb dX1_two_248 (by decide) ?_
                            refine mc_l (As := [.long (f_X1_units (p1) (p2)), .long (f_X1_units (p3) (p4)), .int 16]) (rest := []) ⟨hx, hb, hml, hown, hts⟩ (cc_X1_quotient_16 l dC dI h0 h1 h2 cI cL _ (vk) (vn) (en) (nx) (vx) (vy) (vb) ((f_X1_units (p1) (p2))) ((f_X1_units (p3) (p4))) (c_36)) 3 gX1_two_X1_quotient rfl rfl rfl hdV_X1_quotient ⟨Nat.le_of_ble_eq_true rfl, Nat.le_of_ble_eq_true rfl⟩ hP hD hK hS hA htb rfl hl.1 rfl (Nat.le_of_ble_eq_true rfl) dX1_two_250 ⟨Nat.zero_le _, Nat.zero_le _⟩ (fun H locs hP hD hS => ?_)
                            have hP : va_P (dC, dI) vwCl (mW h0 h1 h2 cI cL (vk, vn, en, nx, vx, vy, (f_X1_quotient_16 ((f_X1_units (p1) (p2))) ((f_X1_units (p3) (p4)))).2)) H := hP
                            have hD : va_D A (mW h0 h1 h2 cI cL (vk, vn, en, nx, vx, vy, (f_X1_quotient_16 ((f_X1_units (p1) (p2))) ((f_X1_units (p3) (p4)))).2)) := hD
                            refine lv_lstore (lv' := [(11, .long (f_X1_quotient_16 ((f_X1_units (p1) (p2))) ((f_X1_units (p3) (p4)))).1), (9, .long (f_X1_units (p3) (p4))), (7, .long (f_X1_units (p1) (p2))), (6, .int 0), (0, .ref h0), (1, .int p0), (2, .int p1), (3, .int p2), (4, .int p3), (5, .int p4)]) hx hb dX1_two_253 hl (by decide) rfl (fun ls hl => ?_)
                            refine lv_aload_n hx hb dX1_two_255 rfl (lv_at hl 4 rfl) ?_
                            refine va_get (D := (dC, dI)) (ci := 1) (v := .int (f_X1_quotient_16 ((f_X1_units (p1) (p2))) ((f_X1_units (p3) (p4)))).2) (C := RX1) (T := TX1) (N := 7) hx hb hts fi_X1_two hown hK hP 0 rfl rfl 6 (by decide) (hts (.fieldLink RX1 44 "FixedPlaneModel" "beyond" "Z") (by decide +kernel)) (fun _ h9 => h9) rfl dX1_two_256 ?_
                            refine lv_if_eq (tgt := 267) hx hb dX1_two_259 (by decide) (fun c_37 => ?_) (fun c_37 => ?_)
                            · skip
                              refine lv_aload_n hx hb dX1_two_267 rfl (lv_at hl 4 rfl) ?_
                              refine lv_lload hx hb dX1_two_268 (lv_at hl 0 rfl) ?_
                              refine mc_i (As := [.long (f_X1_quotient_16 ((f_X1_units (p1) (p2))) ((f_X1_units (p3) (p4)))).1]) (rest := []) ⟨hx, hb, hml, hown, hts⟩ (cc_X1_real l dC dI h0 h1 h2 cI cL _ (vk) (vn) (en) (nx) (vx) (vy) ((f_X1_quotient_16 ((f_X1_units (p1) (p2))) ((f_X1_units (p3) (p4)))).2) ((f_X1_quotient_16 ((f_X1_units (p1) (p2))) ((f_X1_units (p3) (p4)))).1)) 1 gX1_two_X1_real rfl rfl rfl hdV_X1_real ⟨Nat.le_of_ble_eq_true rfl, Nat.le_of_ble_eq_true rfl⟩ hP hD hK hS hA htb rfl hl.1 rfl (Nat.le_of_ble_eq_true rfl) dX1_two_270 ⟨Nat.zero_le _, Nat.zero_le _⟩ (fun H locs hP hD hS => ?_)
                              have hP : va_P (dC, dI) vwCl (mW h0 h1 h2 cI cL ((f_X1_real (vk) (vn) ((f_X1_quotient_16 ((f_X1_units (p1) (p2))) ((f_X1_units (p3) (p4)))).1)).2.1, (f_X1_real (vk) (vn) ((f_X1_quotient_16 ((f_X1_units (p1) (p2))) ((f_X1_units (p3) (p4)))).1)).2.2, en, nx, vx, vy, (f_X1_quotient_16 ((f_X1_units (p1) (p2))) ((f_X1_units (p3) (p4)))).2)) H := hP
                              have hD : va_D A (mW h0 h1 h2 cI cL ((f_X1_real (vk) (vn) ((f_X1_quotient_16 ((f_X1_units (p1) (p2))) ((f_X1_units (p3) (p4)))).1)).2.1, (f_X1_real (vk) (vn) ((f_X1_quotient_16 ((f_X1_units (p1) (p2))) ((f_X1_units (p3) (p4)))).1)).2.2, en, nx, vx, vy, (f_X1_quotient_16 ((f_X1_units (p1) (p2))) ((f_X1_units (p3) (p4)))).2)) := hD
                              have hE : f_X1_two vk vn vb p0 p1 p2 p3 p4 = ((f_X1_real (vk) (vn) ((f_X1_quotient_16 ((f_X1_units (p1) (p2))) ((f_X1_units (p3) (p4)))).1)).1, (f_X1_real (vk) (vn) ((f_X1_quotient_16 ((f_X1_units (p1) (p2))) ((f_X1_units (p3) (p4)))).1)).2.1, (f_X1_real (vk) (vn) ((f_X1_quotient_16 ((f_X1_units (p1) (p2))) ((f_X1_units (p3) (p4)))).1)).2.2, (f_X1_quotient_16 ((f_X1_units (p1) (p2))) ((f_X1_units (p3) (p4)))).2) := (by rw [f_X1_two, if_neg c_1, if_neg c_2, if_neg c_3, if_neg c_4, if_pos c_5, if_neg c_23, if_neg c_24, if_neg c_26, if_neg c_28, if_neg c_30, if_neg c_31, if_neg c_32, if_neg c_33, if_neg c_34, if_pos c_35, if_neg c_36, if_pos c_37])
                              exact m_iret hx hb hr hlocks hP hD hK hS dX1_two_273 ⟨by rw [hE], by rw [hE]⟩
                            · skip
                              refine lv_bipush (v := (-2)) hx hb dX1_two_262 (by decide) ?_
                              refine lv_goto (tgt := 273) hx hb dX1_two_264 (by decide) ?_
                              have hE : f_X1_two vk vn vb p0 p1 p2 p3 p4 = ((-2), vk, vn, (f_X1_quotient_16 ((f_X1_units (p1) (p2))) ((f_X1_units (p3) (p4)))).2) := (by rw [f_X1_two, if_neg c_1, if_neg c_2, if_neg c_3, if_neg c_4, if_pos c_5, if_neg c_23, if_neg c_24, if_neg c_26, if_neg c_28, if_neg c_30, if_neg c_31, if_neg c_32, if_neg c_33, if_neg c_34, if_pos c_35, if_neg c_36, if_neg c_37])
                              exact m_iret hx hb hr hlocks hP hD hK hS dX1_two_273 ⟨by rw [hE], by rw [hE]⟩
                          · skip
                            refine lv_bipush (v := (-3)) hx hb dX1_two_240 (by decide) ?_
                            have hE : f_X1_two vk vn vb p0 p1 p2 p3 p4 = ((-3), vk, vn, vb) := (by rw [f_X1_two, if_neg c_1, if_neg c_2, if_neg c_3, if_neg c_4, if_pos c_5, if_neg c_23, if_neg c_24, if_neg c_26, if_neg c_28, if_neg c_30, if_neg c_31, if_neg c_32, if_neg c_33, if_neg c_34, if_pos c_35, if_pos c_36])
                            exact m_iret hx hb hr hlocks hP hD hK hS dX1_two_242 ⟨by rw [hE], by rw [hE]⟩
                        refine lv_tableOut (tgt := 274) hx hb dX1_two_169 (by have q0 : p0.toInt ≠ 0 := fun q => c_32 (Int32.toInt_inj.mp (q.trans (by decide))); have q1 : p0.toInt ≠ 1 := fun q => c_33 (Int32.toInt_inj.mp (q.trans (by decide))); have q2 : p0.toInt ≠ 2 := fun q => c_34 (Int32.toInt_inj.mp (q.trans (by decide))); have q3 : p0.toInt ≠ 3 := fun q => c_35 (Int32.toInt_inj.mp (q.trans (by decide))); omega) (by decide) ?_
                        refine lv_lload hx hb dX1_two_274 (lv_at hl 1 rfl) ?_
                        refine lv_lconst (v := 0) hx hb dX1_two_276 (by decide) ?_
                        refine pl_ne (tgt := 293) hx hb dX1_two_277 dX1_two_278 (by decide) (fun c_38 => ?_) (fun c_38 => ?_)
                        · skip
                          refine lv_aload_n hx hb dX1_two_293 rfl (lv_at hl 3 rfl) ?_
                          refine lv_lload hx hb dX1_two_294 (lv_at hl 0 rfl) ?_
                          refine lv_lload hx hb dX1_two_296 (lv_at hl 1 rfl) ?_
                          refine pu_Sl (As := [.long (f_X1_units (p3) (p4)), .long (f_X1_units (p1) (p2))]) (rest := [.ref h0]) ⟨hx, hb, hml, hown, hts⟩ (cc_X1_angle l _ ((f_X1_units (p3) (p4))) ((f_X1_units (p1) (p2)))) 2 gX1_two_X1_angle rfl rfl rfl hdS_X1_angle ⟨Nat.le_of_ble_eq_true rfl, Nat.le_of_ble_eq_true rfl⟩ (kT_ok _) (kT_of htb hS) rfl hl.1 rfl (Nat.le_of_ble_eq_true rfl) dX1_two_298 ⟨Nat.zero_le _, Nat.zero_le _⟩ ?_
                          refine mc_i (As := [.long (f_X1_angle ((f_X1_units (p3) (p4))) ((f_X1_units (p1) (p2))))]) (rest := []) ⟨hx, hb, hml, hown, hts⟩ (cc_X1_real l dC dI h0 h1 h2 cI cL _ (vk) (vn) (en) (nx) (vx) (vy) (vb) ((f_X1_angle ((f_X1_units (p3) (p4))) ((f_X1_units (p1) (p2)))))) 1 gX1_two_X1_real rfl rfl rfl hdV_X1_real ⟨Nat.le_of_ble_eq_true rfl, Nat.le_of_ble_eq_true rfl⟩ hP hD hK hS hA htb rfl hl.1 rfl (Nat.le_of_ble_eq_true rfl) dX1_two_301 ⟨Nat.zero_le _, Nat.zero_le _⟩ (fun H locs hP hD hS => ?_)
                          have hP : va_P (dC, dI) vwCl (mW h0 h1 h2 cI cL ((f_X1_real (vk) (vn) ((f_X1_angle ((f_X1_units (p3) (p4))) ((f_X1_units (p1) (p2)))))).2.1, (f_X1_real (vk) (vn) ((f_X1_angle ((f_X1_units (p3) (p4))) ((f_X1_units (p1) (p2)))))).2.2, en, nx, vx, vy, vb)) H := hP
                          have hD : va_D A (mW h0 h1 h2 cI cL ((f_X1_real (vk) (vn) ((f_X1_angle ((f_X1_units (p3) (p4))) ((f_X1_units (p1) (p2)))))).2.1, (f_X1_real (vk) (vn) ((f_X1_angle ((f_X1_units (p3) (p4))) ((f_X1_units (p1) (p2)))))).2.2, en, nx, vx, vy, vb)) := hD
                          have hE : f_X1_two vk vn vb p0 p1 p2 p3 p4 = ((f_X1_real (vk) (vn) ((f_X1_angle ((f_X1_units (p3) (p4))) ((f_X1_units (p1) (p2)))))).1, (f_X1_real (vk) (vn) ((f_X1_angle ((f_X1_units (p3) (p4))) ((f_X1_units (p1) (p2)))))).2.1, (f_X1_real (vk) (vn) ((f_X1_angle ((f_X1_units (p3) (p4))) ((f_X1_units (p1) (p2)))))).2.2, vb) := (by rw [f_X1_two, if_neg c_1, if_neg c_2, if_neg c_3, if_neg c_4, if_pos c_5, if_neg c_23, if_neg c_24, if_neg c_26, if_neg c_28, if_neg c_30, if_neg c_31, if_neg c_32, if_neg c_33, if_neg c_34, if_neg c_35, if_neg c_38])
                          exact m_iret hx hb hr hlocks hP hD hK hS dX1_two_304 ⟨by rw [hE], by rw [hE]⟩
                        · skip
                          refine lv_lload hx hb dX1_two_281 (lv_at hl 0 rfl) ?_
                          refine lv_lconst (v := 0) hx hb dX1_two_283 (by decide) ?_
                          refine pl_ne (tgt := 293) hx hb dX1_two_284 dX1_two_285 (by decide) (fun c_39 => ?_) (fun c_39 => ?_)
                          · skip
                            refine lv_aload_n hx hb dX1_two_293 rfl (lv_at hl 3 rfl) ?_
                            refine lv_lload hx hb dX1_two_294 (lv_at hl 0 rfl) ?_
                            refine lv_lload hx hb dX1_two_296 (lv_at hl 1 rfl) ?_
                            refine pu_Sl (As := [.long (f_X1_units (p3) (p4)), .long (f_X1_units (p1) (p2))]) (rest := [.ref h0]) ⟨hx, hb, hml, hown, hts⟩ (cc_X1_angle l _ ((f_X1_units (p3) (p4))) ((f_X1_units (p1) (p2)))) 2 gX1_two_X1_angle rfl rfl rfl hdS_X1_angle ⟨Nat.le_of_ble_eq_true rfl, Nat.le_of_ble_eq_true rfl⟩ (kT_ok _) (kT_of htb hS) rfl hl.1 rfl (Nat.le_of_ble_eq_true rfl) dX1_two_298 ⟨Nat.zero_le _, Nat.zero_le _⟩ ?_
                            refine mc_i (As := [.long (f_X1_angle ((f_X1_units (p3) (p4))) ((f_X1_units (p1) (p2))))]) (rest := []) ⟨hx, hb, hml, hown, hts⟩ (cc_X1_real l dC dI h0 h1 h2 cI cL _ (vk) (vn) (en) (nx) (vx) (vy) (vb) ((f_X1_angle ((f_X1_units (p3) (p4))) ((f_X1_units (p1) (p2)))))) 1 gX1_two_X1_real rfl rfl rfl hdV_X1_real ⟨Nat.le_of_ble_eq_true rfl, Nat.le_of_ble_eq_true rfl⟩ hP hD hK hS hA htb rfl hl.1 rfl (Nat.le_of_ble_eq_true rfl) dX1_two_301 ⟨Nat.zero_le _, Nat.zero_le _⟩ (fun H locs hP hD hS => ?_)
                            have hP : va_P (dC, dI) vwCl (mW h0 h1 h2 cI cL ((f_X1_real (vk) (vn) ((f_X1_angle ((f_X1_units (p3) (p4))) ((f_X1_units (p1) (p2)))))).2.1, (f_X1_real (vk) (vn) ((f_X1_angle ((f_X1_units (p3) (p4))) ((f_X1_units (p1) (p2)))))).2.2, en, nx, vx, vy, vb)) H := hP
                            have hD : va_D A (mW h0 h1 h2 cI cL ((f_X1_real (vk) (vn) ((f_X1_angle ((f_X1_units (p3) (p4))) ((f_X1_units (p1) (p2)))))).2.1, (f_X1_real (vk) (vn) ((f_X1_angle ((f_X1_units (p3) (p4))) ((f_X1_units (p1) (p2)))))).2.2, en, nx, vx, vy, vb)) := hD
                            have hE : f_X1_two vk vn vb p0 p1 p2 p3 p4 = ((f_X1_real (vk) (vn) ((f_X1_angle ((f_X1_units (p3) (p4))) ((f_X1_units (p1) (p2)))))).1, (f_X1_real (vk) (vn) ((f_X1_angle ((f_X1_units (p3) (p4))) ((f_X1_units (p1) (p2)))))).2.1, (f_X1_real (vk) (vn) ((f_X1_angle ((f_X1_units (p3) (p4))) ((f_X1_units (p1) (p2)))))).2.2, vb) := (by rw [f_X1_two, if_neg c_1, if_neg c_2, if_neg c_3, if_neg c_4, if_pos c_5, if_neg c_23, if_neg c_24, if_neg c_26, if_neg c_28, if_neg c_30, if_neg c_31, if_neg c_32, if_neg c_33, if_neg c_34, if_neg c_35, if_pos c_38, if_neg c_39])
                            exact m_iret hx hb hr hlocks hP hD hK hS dX1_two_304 ⟨by rw [hE], by rw [hE]⟩
                          · skip
                            refine lv_bipush (v := (-3)) hx hb dX1_two_288 (by decide) ?_
                            refine lv_goto (tgt := 304) hx hb dX1_two_290 (by decide) ?_
                            have hE : f_X1_two vk vn vb p0 p1 p2 p3 p4 = ((-3), vk, vn, vb) := (by rw [f_X1_two, if_neg c_1, if_neg c_2, if_neg c_3, if_neg c_4, if_pos c_5, if_neg c_23, if_neg c_24, if_neg c_26, if_neg c_28, if_neg c_30, if_neg c_31, if_neg c_32, if_neg c_33, if_neg c_34, if_neg c_35, if_pos c_38, if_pos c_39])
                            exact m_iret hx hb hr hlocks hP hD hK hS dX1_two_304 ⟨by rw [hE], by rw [hE]⟩
                      · skip
                        refine lv_bipush (v := (-2)) hx hb dX1_two_149 (by decide) ?_
                        have hE : f_X1_two vk vn vb p0 p1 p2 p3 p4 = ((-2), vk, vn, vb) := (by rw [f_X1_two, if_neg c_1, if_neg c_2, if_neg c_3, if_neg c_4, if_pos c_5, if_neg c_23, if_neg c_24, if_neg c_26, if_neg c_28, if_neg c_30, if_pos c_31])
                        exact m_iret hx hb hr hlocks hP hD hK hS dX1_two_151 ⟨by rw [hE], by rw [hE]⟩
                  · skip
                    refine lv_iload hx hb dX1_two_64 (lv_at hl 0 rfl) ?_
                    refine lv_if_eq (tgt := 80) hx hb dX1_two_66 (by decide) (fun _ => ?_) (fun q => absurd (by decide) q)
                    refine lv_bipush (v := (-4)) hx hb dX1_two_80 (by decide) ?_
                    have hE : f_X1_two vk vn vb p0 p1 p2 p3 p4 = ((-4), vk, vn, vb) := (by rw [f_X1_two, if_neg c_1, if_neg c_2, if_neg c_3, if_neg c_4, if_pos c_5, if_neg c_23, if_neg c_24, if_neg c_26, if_pos c_28])
                    exact m_iret hx hb hr hlocks hP hD hK hS dX1_two_82 ⟨by rw [hE], by rw [hE]⟩
            · skip
              refine lv_iconst (v := 1) hx hb dX1_two_41 (by decide) ?_
              refine lv_goto (tgt := 46) hx hb dX1_two_42 (by decide) ?_
              refine lv_istore (lv' := [(6, .int 1), (0, .ref h0), (1, .int p0), (2, .int p1), (3, .int p2), (4, .int p3), (5, .int p4)]) hx hb dX1_two_46 hl (by decide) rfl (fun ls hl => ?_)
              refine lv_iload_n hx hb dX1_two_48 rfl (lv_at hl 2 rfl) ?_
              refine lv_iconst (v := 4) hx hb dX1_two_49 (by decide) ?_
              refine lv_icmp_eq (tgt := 64) hx hb dX1_two_50 (by decide) (fun c_41 => ?_) (fun c_41 => ?_)
              · skip
                refine lv_iload hx hb dX1_two_64 (lv_at hl 0 rfl) ?_
                refine lv_if_eq (tgt := 80) hx hb dX1_two_66 (by decide) (fun q => absurd q (by decide)) (fun _ => ?_)
                refine lv_aload_n hx hb dX1_two_69 rfl (lv_at hl 1 rfl) ?_
                refine lv_iload_n hx hb dX1_two_70 rfl (lv_at hl 2 rfl) ?_
                refine lv_iload_n hx hb dX1_two_71 rfl (lv_at hl 4 rfl) ?_
                refine lv_iload hx hb dX1_two_72 (lv_at hl 6 rfl) ?_
                refine mc_i (As := [.int p0, .int p2, .int p4]) (rest := []) ⟨hx, hb, hml, hown, hts⟩ (cc_X1_onWholes l dC dI h0 h1 h2 cI cL _ (vk) (vn) (en) (nx) (vx) (vy) (vb) (p0) (p2) (p4)) 3 gX1_two_X1_onWholes rfl rfl rfl hdV_X1_onWholes ⟨Nat.le_of_ble_eq_true rfl, Nat.le_of_ble_eq_true rfl⟩ hP hD hK hS hA htb rfl hl.1 rfl (Nat.le_of_ble_eq_true rfl) dX1_two_74 ⟨Nat.zero_le _, Nat.zero_le _⟩ (fun H locs hP hD hS => ?_)
                have hP : va_P (dC, dI) vwCl (mW h0 h1 h2 cI cL ((f_X1_onWholes (vk) (vn) (p0) (p2) (p4)).2.1, (f_X1_onWholes (vk) (vn) (p0) (p2) (p4)).2.2, en, nx, vx, vy, vb)) H := hP
                have hD : va_D A (mW h0 h1 h2 cI cL ((f_X1_onWholes (vk) (vn) (p0) (p2) (p4)).2.1, (f_X1_onWholes (vk) (vn) (p0) (p2) (p4)).2.2, en, nx, vx, vy, vb)) := hD
                refine lv_goto (tgt := 82) hx hb dX1_two_77 (by decide) ?_
                have hE : f_X1_two vk vn vb p0 p1 p2 p3 p4 = ((f_X1_onWholes (vk) (vn) (p0) (p2) (p4)).1, (f_X1_onWholes (vk) (vn) (p0) (p2) (p4)).2.1, (f_X1_onWholes (vk) (vn) (p0) (p2) (p4)).2.2, vb) := (by rw [f_X1_two, if_neg c_1, if_neg c_2, if_neg c_3, if_neg c_4, if_pos c_5, if_pos c_23, if_pos c_41])
                exact m_iret hx hb hr hlocks hP hD hK hS dX1_two_82 ⟨by rw [hE], by rw [hE]⟩
              · skip
                refine lv_iload_n hx hb dX1_two_53 rfl (lv_at hl 2 rfl) ?_
                refine lv_iconst (v := 5) hx hb dX1_two_54 (by decide) ?_
                refine lv_icmp_eq (tgt := 64) hx hb dX1_two_55 (by decide) (fun c_43 => ?_) (fun c_43 => ?_)
                · skip
                  refine lv_iload hx hb dX1_two_64 (lv_at hl 0 rfl) ?_
                  refine lv_if_eq (tgt := 80) hx hb dX1_two_66 (by decide) (fun q => absurd q (by decide)) (fun _ => ?_)
                  refine lv_aload_n hx hb dX1_two_69 rfl (lv_at hl 1 rfl) ?_
                  refine lv_iload_n hx hb dX1_two_70 rfl (lv_at hl 2 rfl) ?_
                  refine lv_iload_n hx hb dX1_two_71 rfl (lv_at hl 4 rfl) ?_
                  refine lv_iload hx hb dX1_two_72 (lv_at hl 6 rfl) ?_
                  refine mc_i (As := [.int p0, .int p2, .int p4]) (rest := []) ⟨hx, hb, hml, hown, hts⟩ (cc_X1_onWholes l dC dI h0 h1 h2 cI cL _ (vk) (vn) (en) (nx) (vx) (vy) (vb) (p0) (p2) (p4)) 3 gX1_two_X1_onWholes rfl rfl rfl hdV_X1_onWholes ⟨Nat.le_of_ble_eq_true rfl, Nat.le_of_ble_eq_true rfl⟩ hP hD hK hS hA htb rfl hl.1 rfl (Nat.le_of_ble_eq_true rfl) dX1_two_74 ⟨Nat.zero_le _, Nat.zero_le _⟩ (fun H locs hP hD hS => ?_)
                  have hP : va_P (dC, dI) vwCl (mW h0 h1 h2 cI cL ((f_X1_onWholes (vk) (vn) (p0) (p2) (p4)).2.1, (f_X1_onWholes (vk) (vn) (p0) (p2) (p4)).2.2, en, nx, vx, vy, vb)) H := hP
                  have hD : va_D A (mW h0 h1 h2 cI cL ((f_X1_onWholes (vk) (vn) (p0) (p2) (p4)).2.1, (f_X1_onWholes (vk) (vn) (p0) (p2) (p4)).2.2, en, nx, vx, vy, vb)) := hD
                  refine lv_goto (tgt := 82) hx hb dX1_two_77 (by decide) ?_
                  have hE : f_X1_two vk vn vb p0 p1 p2 p3 p4 = ((f_X1_onWholes (vk) (vn) (p0) (p2) (p4)).1, (f_X1_onWholes (vk) (vn) (p0) (p2) (p4)).2.1, (f_X1_onWholes (vk) (vn) (p0) (p2) (p4)).2.2, vb) := (by rw [f_X1_two, if_neg c_1, if_neg c_2, if_neg c_3, if_neg c_4, if_pos c_5, if_pos c_23, if_neg c_41, if_pos c_43])
                  exact m_iret hx hb hr hlocks hP hD hK hS dX1_two_82 ⟨by rw [hE], by rw [hE]⟩
                · skip
                  refine lv_iload_n hx hb dX1_two_58 rfl (lv_at hl 2 rfl) ?_
                  refine lv_bipush (v := 6) hx hb dX1_two_59 (by decide) ?_
                  refine pi_le (tgt := 83) hx hb dX1_two_61 (by decide) (fun c_45 => ?_) (fun c_45 => ?_)
                  · skip
                    refine lv_iload hx hb dX1_two_83 (lv_at hl 0 rfl) ?_
                    refine lv_if_eq (tgt := 131) hx hb dX1_two_85 (by decide) (fun q => absurd q (by decide)) (fun _ => ?_)
                    refine lv_iload_n hx hb dX1_two_88 rfl (lv_at hl 2 rfl) ?_
                    refine lv_iconst (v := 3) hx hb dX1_two_89 (by decide) ?_
                    refine pi_ge (tgt := 131) hx hb dX1_two_90 (by decide) (fun c_47 => ?_) (fun c_47 => ?_)
                    · skip
                      refine lv_iload_n hx hb dX1_two_131 rfl (lv_at hl 3 rfl) ?_
                      refine lv_iload_n hx hb dX1_two_132 rfl (lv_at hl 4 rfl) ?_
                      refine pu_Si (As := [.int p1, .int p2]) (rest := []) ⟨hx, hb, hml, hown, hts⟩ (cc_X1_hasUnits l _ (p1) (p2)) 2 gX1_two_X1_hasUnits rfl rfl rfl hdS_X1_hasUnits ⟨Nat.le_of_ble_eq_true rfl, Nat.le_of_ble_eq_true rfl⟩ kN_ok kN_at rfl hl.1 rfl (Nat.le_of_ble_eq_true rfl) dX1_two_133 ⟨Nat.zero_le _, Nat.zero_le _⟩ ?_
                      refine lv_if_eq (tgt := 149) hx hb dX1_two_136 (by decide) (fun c_48 => ?_) (fun c_48 => ?_)
                      · skip
                        refine lv_bipush (v := (-2)) hx hb dX1_two_149 (by decide) ?_
                        have hE : f_X1_two vk vn vb p0 p1 p2 p3 p4 = ((-2), vk, vn, vb) := (by rw [f_X1_two, if_neg c_1, if_neg c_2, if_neg c_3, if_neg c_4, if_pos c_5, if_pos c_23, if_neg c_41, if_neg c_43, if_neg c_45, if_neg c_47, if_pos c_48])
                        exact m_iret hx hb hr hlocks hP hD hK hS dX1_two_151 ⟨by rw [hE], by rw [hE]⟩
                      · skip
                        refine lv_iload hx hb dX1_two_139 (lv_at hl 5 rfl) ?_
                        refine lv_iload hx hb dX1_two_141 (lv_at hl 6 rfl) ?_
                        refine pu_Si (As := [.int p3, .int p4]) (rest := []) ⟨hx, hb, hml, hown, hts⟩ (cc_X1_hasUnits l _ (p3) (p4)) 2 gX1_two_X1_hasUnits rfl rfl rfl hdS_X1_hasUnits ⟨Nat.le_of_ble_eq_true rfl, Nat.le_of_ble_eq_true rfl⟩ kN_ok kN_at rfl hl.1 rfl (Nat.le_of_ble_eq_true rfl) dX1_two_143 ⟨Nat.zero_le _, Nat.zero_le _⟩ ?_
                        refine lv_if_ne (tgt := 152) hx hb dX1_two_146 (by decide) (fun c_49 => ?_) (fun c_49 => ?_)
                        · skip
                          refine lv_iload_n hx hb dX1_two_152 rfl (lv_at hl 3 rfl) ?_
                          refine lv_iload_n hx hb dX1_two_153 rfl (lv_at hl 4 rfl) ?_
                          refine pu_Sl (As := [.int p1, .int p2]) (rest := []) ⟨hx, hb, hml, hown, hts⟩ (cc_X1_units l _ (p1) (p2)) 2 gX1_two_X1_units rfl rfl rfl hdS_X1_units ⟨Nat.le_of_ble_eq_true rfl, Nat.le_of_ble_eq_true rfl⟩ kN_ok kN_at rfl hl.1 rfl (Nat.le_of_ble_eq_true rfl) dX1_two_154 ⟨Nat.zero_le _, Nat.zero_le _⟩ ?_
                          refine lv_lstore (lv' := [(7, .long (f_X1_units (p1) (p2))), (6, .int 1), (0, .ref h0), (1, .int p0), (2, .int p1), (3, .int p2), (4, .int p3), (5, .int p4)]) hx hb dX1_two_157 hl (by decide) rfl (fun ls hl => ?_)
                          refine lv_iload hx hb dX1_two_159 (lv_at hl 6 rfl) ?_
                          refine lv_iload hx hb dX1_two_161 (lv_at hl 7 rfl) ?_
                          refine pu_Sl (As := [.int p3, .int p4]) (rest := []) ⟨hx, hb, hml, hown, hts⟩ (cc_X1_units l _ (p3) (p4)) 2 gX1_two_X1_units rfl rfl rfl hdS_X1_units ⟨Nat.le_of_ble_eq_true rfl, Nat.le_of_ble_eq_true rfl⟩ kN_ok kN_at rfl hl.1 rfl (Nat.le_of_ble_eq_true rfl) dX1_two_163 ⟨Nat.zero_le _, Nat.zero_le _⟩ ?_
                          refine lv_lstore (lv' := [(9, .long (f_X1_units (p3) (p4))), (7, .long (f_X1_units (p1) (p2))), (6, .int 1), (0, .ref h0), (1, .int p0), (2, .int p1), (3, .int p2), (4, .int p3), (5, .int p4)]) hx hb dX1_two_166 hl (by decide) rfl (fun ls hl => ?_)
                          refine lv_iload_n hx hb dX1_two_168 rfl (lv_at hl 4 rfl) ?_
                          by_cases c_50 : p0 = 0
                          · skip
                            refine lv_tableIn (tgt := 200) (off := 31) hx hb dX1_two_169 (by rw [c_50]; decide) (by rw [c_50]; decide) (by rw [c_50]; decide) (by decide) ?_
                            refine lv_aload_n hx hb dX1_two_200 rfl (lv_at hl 3 rfl) ?_
                            refine lv_lload hx hb dX1_two_201 (lv_at hl 1 rfl) ?_
                            refine lv_lload hx hb dX1_two_203 (lv_at hl 0 rfl) ?_
                            refine lv_ladd hx hb dX1_two_205 ?_
                            refine mc_i (As := [.long ((f_X1_units (p1) (p2)) + (f_X1_units (p3) (p4)))]) (rest := []) ⟨hx, hb, hml, hown, hts⟩ (cc_X1_real l dC dI h0 h1 h2 cI cL _ (vk) (vn) (en) (nx) (vx) (vy) (vb) (((f_X1_units (p1) (p2)) + (f_X1_units (p3) (p4))))) 1 gX1_two_X1_real rfl rfl rfl hdV_X1_real ⟨Nat.le_of_ble_eq_true rfl, Nat.le_of_ble_eq_true rfl⟩ hP hD hK hS hA htb rfl hl.1 rfl (Nat.le_of_ble_eq_true rfl) dX1_two_206 ⟨Nat.zero_le _, Nat.zero_le _⟩ (fun H locs hP hD hS => ?_)
                            have hP : va_P (dC, dI) vwCl (mW h0 h1 h2 cI cL ((f_X1_real (vk) (vn) (((f_X1_units (p1) (p2)) + (f_X1_units (p3) (p4))))).2.1, (f_X1_real (vk) (vn) (((f_X1_units (p1) (p2)) + (f_X1_units (p3) (p4))))).2.2, en, nx, vx, vy, vb)) H := hP
                            have hD : va_D A (mW h0 h1 h2 cI cL ((f_X1_real (vk) (vn) (((f_X1_units (p1) (p2)) + (f_X1_units (p3) (p4))))).2.1, (f_X1_real (vk) (vn) (((f_X1_units (p1) (p2)) + (f_X1_units (p3) (p4))))).2.2, en, nx, vx, vy, vb)) := hD
                            have hE : f_X1_two vk vn vb p0 p1 p2 p3 p4 = ((f_X1_real (vk) (vn) (((f_X1_units (p1) (p2)) + (f_X1_units (p3) (p4))))).1, (f_X1_real (vk) (vn) (((f_X1_units (p1) (p2)) + (f_X1_units (p3) (p4))))).2.1, (f_X1_real (vk) (vn) (((f_X1_units (p1) (p2)) + (f_X1_units (p3) (p4))))).2.2, vb) := (by rw [f_X1_two, if_neg c_1, if_neg c_2, if_neg c_3, if_neg c_4, if_pos c_5, if_pos c_23, if_neg c_41, if_neg c_43, if_neg c_45, if_neg c_47, if_neg c_48, if_neg c_49, if_pos c_50])
                            exact m_iret hx hb hr hlocks hP hD hK hS dX1_two_209 ⟨by rw [hE], by rw [hE]⟩
                          by_cases c_51 : p0 = 1
                          · skip
                            refine lv_tableIn (tgt := 210) (off := 41) hx hb dX1_two_169 (by rw [c_51]; decide) (by rw [c_51]; decide) (by rw [c_51]; decide) (by decide) ?_
                            refine lv_aload_n hx hb dX1_two_210 rfl (lv_at hl 3 rfl) ?_
                            refine lv_lload hx hb dX1_two_211 (lv_at hl 1 rfl) ?_
                            refine lv_lload hx hb dX1_two_213 (lv_at hl 0 rfl) ?_
                            refine lv_lsub hx hb dX1_two_215 ?_
                            refine mc_i (As := [.long ((f_X1_units (p1) (p2)) - (f_X1_units (p3) (p4)))]) (rest := []) ⟨hx, hb, hml, hown, hts⟩ (cc_X1_real l dC dI h0 h1 h2 cI cL _ (vk) (vn) (en) (nx) (vx) (vy) (vb) (((f_X1_units (p1) (p2)) - (f_X1_units (p3) (p4))))) 1 gX1_two_X1_real rfl rfl rfl hdV_X1_real ⟨Nat.le_of_ble_eq_true rfl, Nat.le_of_ble_eq_true rfl⟩ hP hD hK hS hA htb rfl hl.1 rfl (Nat.le_of_ble_eq_true rfl) dX1_two_216 ⟨Nat.zero_le _, Nat.zero_le _⟩ (fun H locs hP hD hS => ?_)
                            have hP : va_P (dC, dI) vwCl (mW h0 h1 h2 cI cL ((f_X1_real (vk) (vn) (((f_X1_units (p1) (p2)) - (f_X1_units (p3) (p4))))).2.1, (f_X1_real (vk) (vn) (((f_X1_units (p1) (p2)) - (f_X1_units (p3) (p4))))).2.2, en, nx, vx, vy, vb)) H := hP
                            have hD : va_D A (mW h0 h1 h2 cI cL ((f_X1_real (vk) (vn) (((f_X1_units (p1) (p2)) - (f_X1_units (p3) (p4))))).2.1, (f_X1_real (vk) (vn) (((f_X1_units (p1) (p2)) - (f_X1_units (p3) (p4))))).2.2, en, nx, vx, vy, vb)) := hD
                            have hE : f_X1_two vk vn vb p0 p1 p2 p3 p4 = ((f_X1_real (vk) (vn) (((f_X1_units (p1) (p2)) - (f_X1_units (p3) (p4))))).1, (f_X1_real (vk) (vn) (((f_X1_units (p1) (p2)) - (f_X1_units (p3) (p4))))).2.1, (f_X1_real (vk) (vn) (((f_X1_units (p1) (p2)) - (f_X1_units (p3) (p4))))).2.2, vb) := (by rw [f_X1_two, if_neg c_1, if_neg c_2, if_neg c_3, if_neg c_4, if_pos c_5, if_pos c_23, if_neg c_41, if_neg c_43, if_neg c_45, if_neg c_47, if_neg c_48, if_neg c_49, if_neg c_50, if_pos c_51])
                            exact m_iret hx hb hr hlocks hP hD hK hS dX1_two_219 ⟨by rw [hE], by rw [hE]⟩
                          by_cases c_52 : p0 = 2
                          · skip
                            refine lv_tableIn (tgt := 220) (off := 51) hx hb dX1_two_169 (by rw [c_52]; decide) (by rw [c_52]; decide) (by rw [c_52]; decide) (by decide) ?_
                            refine lv_aload_n hx hb dX1_two_220 rfl (lv_at hl 3 rfl) ?_
                            refine lv_lload hx hb dX1_two_221 (lv_at hl 1 rfl) ?_
                            refine lv_lload hx hb dX1_two_223 (lv_at hl 0 rfl) ?_
                            refine lv_lmul hx hb dX1_two_225 ?_
                            refine pu_Sl (As := [.long ((f_X1_units (p1) (p2)) * (f_X1_units (p3) (p4)))]) (rest := [.ref h0]) ⟨hx, hb, hml, hown, hts⟩ (cc_X1_rounded l _ (((f_X1_units (p1) (p2)) * (f_X1_units (p3) (p4))))) 1 gX1_two_X1_rounded rfl rfl rfl hdS_X1_rounded ⟨Nat.le_of_ble_eq_true rfl, Nat.le_of_ble_eq_true rfl⟩ kN_ok kN_at rfl hl.1 rfl (Nat.le_of_ble_eq_true rfl) dX1_two_226 ⟨Nat.zero_le _, Nat.zero_le _⟩ ?_
                            refine mc_i (As := [.long (f_X1_rounded (((f_X1_units (p1) (p2)) * (f_X1_units (p3) (p4)))))]) (rest := []) ⟨hx, hb, hml, hown, hts⟩ (cc_X1_real l dC dI h0 h1 h2 cI cL _ (vk) (vn) (en) (nx) (vx) (vy) (vb) ((f_X1_rounded (((f_X1_units (p1) (p2)) * (f_X1_units (p3) (p4))))))) 1 gX1_two_X1_real rfl rfl rfl hdV_X1_real ⟨Nat.le_of_ble_eq_true rfl, Nat.le_of_ble_eq_true rfl⟩ hP hD hK hS hA htb rfl hl.1 rfl (Nat.le_of_ble_eq_true rfl) dX1_two_229 ⟨Nat.zero_le _, Nat.zero_le _⟩ (fun H locs hP hD hS => ?_)
                            have hP : va_P (dC, dI) vwCl (mW h0 h1 h2 cI cL ((f_X1_real (vk) (vn) ((f_X1_rounded (((f_X1_units (p1) (p2)) * (f_X1_units (p3) (p4))))))).2.1, (f_X1_real (vk) (vn) ((f_X1_rounded (((f_X1_units (p1) (p2)) * (f_X1_units (p3) (p4))))))).2.2, en, nx, vx, vy, vb)) H := hP
                            have hD : va_D A (mW h0 h1 h2 cI cL ((f_X1_real (vk) (vn) ((f_X1_rounded (((f_X1_units (p1) (p2)) * (f_X1_units (p3) (p4))))))).2.1, (f_X1_real (vk) (vn) ((f_X1_rounded (((f_X1_units (p1) (p2)) * (f_X1_units (p3) (p4))))))).2.2, en, nx, vx, vy, vb)) := hD
                            have hE : f_X1_two vk vn vb p0 p1 p2 p3 p4 = ((f_X1_real (vk) (vn) ((f_X1_rounded (((f_X1_units (p1) (p2)) * (f_X1_units (p3) (p4))))))).1, (f_X1_real (vk) (vn) ((f_X1_rounded (((f_X1_units (p1) (p2)) * (f_X1_units (p3) (p4))))))).2.1, (f_X1_real (vk) (vn) ((f_X1_rounded (((f_X1_units (p1) (p2)) * (f_X1_units (p3) (p4))))))).2.2, vb) := (by rw [f_X1_two, if_neg c_1, if_neg c_2, if_neg c_3, if_neg c_4, if_pos c_5, if_pos c_23, if_neg c_41, if_neg c_43, if_neg c_45, if_neg c_47, if_neg c_48, if_neg c_49, if_neg c_50, if_neg c_51, if_pos c_52])
                            exact m_iret hx hb hr hlocks hP hD hK hS dX1_two_232 ⟨by rw [hE], by rw [hE]⟩
                          by_cases c_53 : p0 = 3
                          · skip
                            refine lv_tableIn (tgt := 233) (off := 64) hx hb dX1_two_169 (by rw [c_53]; decide) (by rw [c_53]; decide) (by rw [c_53]; decide) (by decide) ?_
                            refine lv_lload hx hb dX1_two_233 (lv_at hl 0 rfl) ?_
                            refine lv_lconst (v := 0) hx hb dX1_two_235 (by decide) ?_
                            refine pl_ne (tgt := 243) hx hb dX1_two_236 dX1_two_237 (by decide) (fun c_54 => ?_) (fun c_54 => ?_)
                            · skip
                              refine lv_aload_n hx hb dX1_two_243 rfl (lv_at hl 3 rfl) ?_
                              refine lv_lload hx hb dX1_two_244 (lv_at hl 1 rfl) ?_
                              refine lv_lload hx hb dX1_two_246 (lv_at hl 0 rfl) ?_
                              refine lv_bipush (v := 16) hx hb dX1_two_248 (by decide) ?_
                              refine mc_l (As := [.long (f_X1_units (p1) (p2)), .long (f_X1_units (p3) (p4)), .int 16]) (rest := []) ⟨hx, hb, hml, hown, hts⟩ (cc_X1_quotient_16 l dC dI h0 h1 h2 cI cL _ (vk) (vn) (en) (nx) (vx) (vy) (vb) ((f_X1_units (p1) (p2))) ((f_X1_units (p3) (p4))) (c_54)) 3 gX1_two_X1_quotient rfl rfl rfl hdV_X1_quotient ⟨Nat.le_of_ble_eq_true rfl, Nat.le_of_ble_eq_true rfl⟩ hP hD hK hS hA htb rfl hl.1 rfl (Nat.le_of_ble_eq_true rfl) dX1_two_250 ⟨Nat.zero_le _, Nat.zero_le _⟩ (fun H locs hP hD hS => ?_)
                              have hP : va_P (dC, dI) vwCl (mW h0 h1 h2 cI cL (vk, vn, en, nx, vx, vy, (f_X1_quotient_16 ((f_X1_units (p1) (p2))) ((f_X1_units (p3) (p4)))).2)) H := hP
                              have hD : va_D A (mW h0 h1 h2 cI cL (vk, vn, en, nx, vx, vy, (f_X1_quotient_16 ((f_X1_units (p1) (p2))) ((f_X1_units (p3) (p4)))).2)) := hD
                              refine lv_lstore (lv' := [(11, .long (f_X1_quotient_16 ((f_X1_units (p1) (p2))) ((f_X1_units (p3) (p4)))).1), (9, .long (f_X1_units (p3) (p4))), (7, .long (f_X1_units (p1) (p2))), (6, .int 1), (0, .ref h0), (1, .int p0), (2, .int p1), (3, .int p2), (4, .int p3), (5, .int p4)]) hx hb dX1_two_253 hl (by decide) rfl (fun ls hl => ?_)
                              refine lv_aload_n hx hb dX1_two_255 rfl (lv_at hl 4 rfl) ?_
                              refine va_get (D := (dC, dI)) (ci := 1) (v := .int (f_X1_quotient_16 ((f_X1_units (p1) (p2))) ((f_X1_units (p3) (p4)))).2) (C := RX1) (T := TX1) (N := 7) hx hb hts fi_X1_two hown hK hP 0 rfl rfl 6 (by decide) (hts (.fieldLink RX1 44 "FixedPlaneModel" "beyond" "Z") (by decide +kernel)) (fun _ h9 => h9) rfl dX1_two_256 ?_
                              refine lv_if_eq (tgt := 267) hx hb dX1_two_259 (by decide) (fun c_55 => ?_) (fun c_55 => ?_)
                              · skip
                                refine lv_aload_n hx hb dX1_two_267 rfl (lv_at hl 4 rfl) ?_
                                refine lv_lload hx hb dX1_two_268 (lv_at hl 0 rfl) ?_
                                refine mc_i (As := [.long (f_X1_quotient_16 ((f_X1_units (p1) (p2))) ((f_X1_units (p3) (p4)))).1]) (rest := []) ⟨hx, hb, hml, hown, hts⟩ (cc_X1_real l dC dI h0 h1 h2 cI cL _ (vk) (vn) (en) (nx) (vx) (vy) ((f_X1_quotient_16 ((f_X1_units (p1) (p2))) ((f_X1_units (p3) (p4)))).2) ((f_X1_quotient_16 ((f_X1_units (p1) (p2))) ((f_X1_units (p3) (p4)))).1)) 1 gX1_two_X1_real rfl rfl rfl hdV_X1_real ⟨Nat.le_of_ble_eq_true rfl, Nat.le_of_ble_eq_true rfl⟩ hP hD hK hS hA htb rfl hl.1 rfl (Nat.le_of_ble_eq_true rfl) dX1_two_270 ⟨Nat.zero_le _, Nat.zero_le _⟩ (fun H locs hP hD hS => ?_)
                                have hP : va_P (dC, dI) vwCl (mW h0 h1 h2 cI cL ((f_X1_real (vk) (vn) ((f_X1_quotient_16 ((f_X1_units (p1) (p2))) ((f_X1_units (p3) (p4)))).1)).2.1, (f_X1_real (vk) (vn) ((f_X1_quotient_16 ((f_X1_units (p1) (p2))) ((f_X1_units (p3) (p4)))).1)).2.2, en, nx, vx, vy, (f_X1_quotient_16 ((f_X1_units (p1) (p2))) ((f_X1_units (p3) (p4)))).2)) H := hP
                                have hD : va_D A (mW h0 h1 h2 cI cL ((f_X1_real (vk) (vn) ((f_X1_quotient_16 ((f_X1_units (p1) (p2))) ((f_X1_units (p3) (p4)))).1)).2.1, (f_X1_real (vk) (vn) ((f_X1_quotient_16 ((f_X1_units (p1) (p2))) ((f_X1_units (p3) (p4)))).1)).2.2, en, nx, vx, vy, (f_X1_quotient_16 ((f_X1_units (p1) (p2))) ((f_X1_units (p3) (p4)))).2)) := hD
                                have hE : f_X1_two vk vn vb p0 p1 p2 p3 p4 = ((f_X1_real (vk) (vn) ((f_X1_quotient_16 ((f_X1_units (p1) (p2))) ((f_X1_units (p3) (p4)))).1)).1, (f_X1_real (vk) (vn) ((f_X1_quotient_16 ((f_X1_units (p1) (p2))) ((f_X1_units (p3) (p4)))).1)).2.1, (f_X1_real (vk) (vn) ((f_X1_quotient_16 ((f_X1_units (p1) (p2))) ((f_X1_units (p3) (p4)))).1)).2.2, (f_X1_quotient_16 ((f_X1_units (p1) (p2))) ((f_X1_units (p3) (p4)))).2) := (by rw [f_X1_two, if_neg c_1, if_neg c_2, if_neg c_3, if_neg c_4, if_pos c_5, if_pos c_23, if_neg c_41, if_neg c_43, if_neg c_45, if_neg c_47, if_neg c_48, if_neg c_49, if_neg c_50, if_neg c_51, if_neg c_52, if_pos c_53, if_neg c_54, if_pos c_55])
                                exact m_iret hx hb hr hlocks hP hD hK hS dX1_two_273 ⟨by rw [hE], by rw [hE]⟩
                              · skip
                                refine lv_bipush (v := (-2)) hx hb dX1_two_262 (by decide) ?_
                                refine lv_goto (tgt := 273) hx hb dX1_two_264 (by decide) ?_
                                have hE : f_X1_two vk vn vb p0 p1 p2 p3 p4 = ((-2), vk, vn, (f_X1_quotient_16 ((f_X1_units (p1) (p2))) ((f_X1_units (p3) (p4)))).2) := (by rw [f_X1_two, if_neg c_1, if_neg c_2, if_neg c_3, if_neg c_4, if_pos c_5, if_pos c_23, if_neg c_41, if_neg c_43, if_neg c_45, if_neg c_47, if_neg c_48, if_neg c_49, if_neg c_50, if_neg c_51, if_neg c_52, if_pos c_53, if_neg c_54, if_neg c_55])
                                exact m_iret hx hb hr hlocks hP hD hK hS dX1_two_273 ⟨by rw [hE], by rw [hE]⟩
                            · skip
                              refine lv_bipush (v := (-3)) hx hb dX1_two_240 (by decide) ?_
                              have hE : f_X1_two vk vn vb p0 p1 p2 p3 p4 = ((-3), vk, vn, vb) := (by rw [f_X1_two, if_neg c_1, if_neg c_2, if_neg c_3, if_neg c_4, if_pos c_5, if_pos c_23, if_neg c_41, if_neg c_43, if_neg c_45, if_neg c_47, if_neg c_48, if_neg c_49, if_neg c_50, if_neg c_51, if_neg c_52, if_pos c_53, if_pos c_54])
                              exact m_iret hx hb hr hlocks hP hD hK hS dX1_two_242 ⟨by rw [hE], by rw [hE]⟩
                          refine lv_tableOut (tgt := 274) hx hb dX1_two_169 (by have q0 : p0.toInt ≠ 0 := fun q => c_50 (Int32.toInt_inj.mp (q.trans (by decide))); have q1 : p0.toInt ≠ 1 := fun q => c_51 (Int32.toInt_inj.mp (q.trans (by decide))); have q2 : p0.toInt ≠ 2 := fun q => c_52 (Int32.toInt_inj.mp (q.trans (by decide))); have q3 : p0.toInt ≠ 3 := fun q => c_53 (Int32.toInt_inj.mp (q.trans (by decide))); omega) (by decide) ?_
                          refine lv_lload hx hb dX1_two_274 (lv_at hl 1 rfl) ?_
                          refine lv_lconst (v := 0) hx hb dX1_two_276 (by decide) ?_
                          refine pl_ne (tgt := 293) hx hb dX1_two_277 dX1_two_278 (by decide) (fun c_56 => ?_) (fun c_56 => ?_)
                          · skip
                            refine lv_aload_n hx hb dX1_two_293 rfl (lv_at hl 3 rfl) ?_
                            refine lv_lload hx hb dX1_two_294 (lv_at hl 0 rfl) ?_
                            refine lv_lload hx hb dX1_two_296 (lv_at hl 1 rfl) ?_
                            refine pu_Sl (As := [.long (f_X1_units (p3) (p4)), .long (f_X1_units (p1) (p2))]) (rest := [.ref h0]) ⟨hx, hb, hml, hown, hts⟩ (cc_X1_angle l _ ((f_X1_units (p3) (p4))) ((f_X1_units (p1) (p2)))) 2 gX1_two_X1_angle rfl rfl rfl hdS_X1_angle ⟨Nat.le_of_ble_eq_true rfl, Nat.le_of_ble_eq_true rfl⟩ (kT_ok _) (kT_of htb hS) rfl hl.1 rfl (Nat.le_of_ble_eq_true rfl) dX1_two_298 ⟨Nat.zero_le _, Nat.zero_le _⟩ ?_
                            refine mc_i (As := [.long (f_X1_angle ((f_X1_units (p3) (p4))) ((f_X1_units (p1) (p2))))]) (rest := []) ⟨hx, hb, hml, hown, hts⟩ (cc_X1_real l dC dI h0 h1 h2 cI cL _ (vk) (vn) (en) (nx) (vx) (vy) (vb) ((f_X1_angle ((f_X1_units (p3) (p4))) ((f_X1_units (p1) (p2)))))) 1 gX1_two_X1_real rfl rfl rfl hdV_X1_real ⟨Nat.le_of_ble_eq_true rfl, Nat.le_of_ble_eq_true rfl⟩ hP hD hK hS hA htb rfl hl.1 rfl (Nat.le_of_ble_eq_true rfl) dX1_two_301 ⟨Nat.zero_le _, Nat.zero_le _⟩ (fun H locs hP hD hS => ?_)
                            have hP : va_P (dC, dI) vwCl (mW h0 h1 h2 cI cL ((f_X1_real (vk) (vn) ((f_X1_angle ((f_X1_units (p3) (p4))) ((f_X1_units (p1) (p2)))))).2.1, (f_X1_real (vk) (vn) ((f_X1_angle ((f_X1_units (p3) (p4))) ((f_X1_units (p1) (p2)))))).2.2, en, nx, vx, vy, vb)) H := hP
                            have hD : va_D A (mW h0 h1 h2 cI cL ((f_X1_real (vk) (vn) ((f_X1_angle ((f_X1_units (p3) (p4))) ((f_X1_units (p1) (p2)))))).2.1, (f_X1_real (vk) (vn) ((f_X1_angle ((f_X1_units (p3) (p4))) ((f_X1_units (p1) (p2)))))).2.2, en, nx, vx, vy, vb)) := hD
                            have hE : f_X1_two vk vn vb p0 p1 p2 p3 p4 = ((f_X1_real (vk) (vn) ((f_X1_angle ((f_X1_units (p3) (p4))) ((f_X1_units (p1) (p2)))))).1, (f_X1_real (vk) (vn) ((f_X1_angle ((f_X1_units (p3) (p4))) ((f_X1_units (p1) (p2)))))).2.1, (f_X1_real (vk) (vn) ((f_X1_angle ((f_X1_units (p3) (p4))) ((f_X1_units (p1) (p2)))))).2.2, vb) := (by rw [f_X1_two, if_neg c_1, if_neg c_2, if_neg c_3, if_neg c_4, if_pos c_5, if_pos c_23, if_neg c_41, if_neg c_43, if_neg c_45, if_neg c_47, if_neg c_48, if_neg c_49, if_neg c_50, if_neg c_51, if_neg c_52, if_neg c_53, if_neg c_56])
                            exact m_iret hx hb hr hlocks hP hD hK hS dX1_two_304 ⟨by rw [hE], by rw [hE]⟩
                          · skip
                            refine lv_lload hx hb dX1_two_281 (lv_at hl 0 rfl) ?_
                            refine lv_lconst (v := 0) hx hb dX1_two_283 (by decide) ?_
                            refine pl_ne (tgt := 293) hx hb dX1_two_284 dX1_two_285 (by decide) (fun c_57 => ?_) (fun c_57 => ?_)
                            · skip
                              refine lv_aload_n hx hb dX1_two_293 rfl (lv_at hl 3 rfl) ?_
                              refine lv_lload hx hb dX1_two_294 (lv_at hl 0 rfl) ?_
                              refine lv_lload hx hb dX1_two_296 (lv_at hl 1 rfl) ?_
                              refine pu_Sl (As := [.long (f_X1_units (p3) (p4)), .long (f_X1_units (p1) (p2))]) (rest := [.ref h0]) ⟨hx, hb, hml, hown, hts⟩ (cc_X1_angle l _ ((f_X1_units (p3) (p4))) ((f_X1_units (p1) (p2)))) 2 gX1_two_X1_angle rfl rfl rfl hdS_X1_angle ⟨Nat.le_of_ble_eq_true rfl, Nat.le_of_ble_eq_true rfl⟩ (kT_ok _) (kT_of htb hS) rfl hl.1 rfl (Nat.le_of_ble_eq_true rfl) dX1_two_298 ⟨Nat.zero_le _, Nat.zero_le _⟩ ?_
                              refine mc_i (As := [.long (f_X1_angle ((f_X1_units (p3) (p4))) ((f_X1_units (p1) (p2))))]) (rest := []) ⟨hx, hb, hml, hown, hts⟩ (cc_X1_real l dC dI h0 h1 h2 cI cL _ (vk) (vn) (en) (nx) (vx) (vy) (vb) ((f_X1_angle ((f_X1_units (p3) (p4))) ((f_X1_units (p1) (p2)))))) 1 gX1_two_X1_real rfl rfl rfl hdV_X1_real ⟨Nat.le_of_ble_eq_true rfl, Nat.le_of_ble_eq_true rfl⟩ hP hD hK hS hA htb rfl hl.1 rfl (Nat.le_of_ble_eq_true rfl) dX1_two_301 ⟨Nat.zero_le _, Nat.zero_le _⟩ (fun H locs hP hD hS => ?_)
                              have hP : va_P (dC, dI) vwCl (mW h0 h1 h2 cI cL ((f_X1_real (vk) (vn) ((f_X1_angle ((f_X1_units (p3) (p4))) ((f_X1_units (p1) (p2)))))).2.1, (f_X1_real (vk) (vn) ((f_X1_angle ((f_X1_units (p3) (p4))) ((f_X1_units (p1) (p2)))))).2.2, en, nx, vx, vy, vb)) H := hP
                              have hD : va_D A (mW h0 h1 h2 cI cL ((f_X1_real (vk) (vn) ((f_X1_angle ((f_X1_units (p3) (p4))) ((f_X1_units (p1) (p2)))))).2.1, (f_X1_real (vk) (vn) ((f_X1_angle ((f_X1_units (p3) (p4))) ((f_X1_units (p1) (p2)))))).2.2, en, nx, vx, vy, vb)) := hD
                              have hE : f_X1_two vk vn vb p0 p1 p2 p3 p4 = ((f_X1_real (vk) (vn) ((f_X1_angle ((f_X1_units (p3) (p4))) ((f_X1_units (p1) (p2)))))).1, (f_X1_real (vk) (vn) ((f_X1_angle ((f_X1_units (p3) (p4))) ((f_X1_units (p1) (p2)))))).2.1, (f_X1_real (vk) (vn) ((f_X1_angle ((f_X1_units (p3) (p4))) ((f_X1_units (p1) (p2)))))).2.2, vb) := (by rw [f_X1_two, if_neg c_1, if_neg c_2, if_neg c_3, if_neg c_4, if_pos c_5, if_pos c_23, if_neg c_41, if_neg c_43, if_neg c_45, if_neg c_47, if_neg c_48, if_neg c_49, if_neg c_50, if_neg c_51, if_neg c_52, if_neg c_53, if_pos c_56, if_neg c_57])
                              exact m_iret hx hb hr hlocks hP hD hK hS dX1_two_304 ⟨by rw [hE], by rw [hE]⟩
                            · skip
                              refine lv_bipush (v := (-3)) hx hb dX1_two_288 (by decide) ?_
                              refine lv_goto (tgt := 304) hx hb dX1_two_290 (by decide) ?_
                              have hE : f_X1_two vk vn vb p0 p1 p2 p3 p4 = ((-3), vk, vn, vb) := (by rw [f_X1_two, if_neg c_1, if_neg c_2, if_neg c_3, if_neg c_4, if_pos c_5, if_pos c_23, if_neg c_41, if_neg c_43, if_neg c_45, if_neg c_47, if_neg c_48, if_neg c_49, if_neg c_50, if_neg c_51, if_neg c_52, if_neg c_53, if_pos c_56, if_pos c_57])
                              exact m_iret hx hb hr hlocks hP hD hK hS dX1_two_304 ⟨by rw [hE], by rw [hE]⟩
                        · skip
                          refine lv_bipush (v := (-2)) hx hb dX1_two_149 (by decide) ?_
                          have hE : f_X1_two vk vn vb p0 p1 p2 p3 p4 = ((-2), vk, vn, vb) := (by rw [f_X1_two, if_neg c_1, if_neg c_2, if_neg c_3, if_neg c_4, if_pos c_5, if_pos c_23, if_neg c_41, if_neg c_43, if_neg c_45, if_neg c_47, if_neg c_48, if_pos c_49])
                          exact m_iret hx hb hr hlocks hP hD hK hS dX1_two_151 ⟨by rw [hE], by rw [hE]⟩
                    · skip
                      refine lv_aload_n hx hb dX1_two_93 rfl (lv_at hl 1 rfl) ?_
                      refine lv_iload_n hx hb dX1_two_94 rfl (lv_at hl 2 rfl) ?_
                      refine lv_if_ne (tgt := 107) hx hb dX1_two_95 (by decide) (fun c_58 => ?_) (fun c_58 => ?_)
                      · skip
                        refine lv_iload_n hx hb dX1_two_107 rfl (lv_at hl 2 rfl) ?_
                        refine lv_iconst (v := 1) hx hb dX1_two_108 (by decide) ?_
                        refine lv_icmp_ne (tgt := 121) hx hb dX1_two_109 (by decide) (fun c_59 => ?_) (fun c_59 => ?_)
                        · skip
                          refine lv_iload_n hx hb dX1_two_121 rfl (lv_at hl 4 rfl) ?_
                          refine lv_i2l (v := (p2).toInt64) hx hb dX1_two_122 rfl ?_
                          refine lv_iload hx hb dX1_two_123 (lv_at hl 6 rfl) ?_
                          refine lv_i2l (v := (p4).toInt64) hx hb dX1_two_125 rfl ?_
                          refine lv_lmul hx hb dX1_two_126 ?_
                          refine mc_i (As := [.long ((p2).toInt64 * (p4).toInt64)]) (rest := []) ⟨hx, hb, hml, hown, hts⟩ (cc_X1_whole l dC dI h0 h1 h2 cI cL _ (vk) (vn) (en) (nx) (vx) (vy) (vb) (((p2).toInt64 * (p4).toInt64))) 1 gX1_two_X1_whole rfl rfl rfl hdV_X1_whole ⟨Nat.le_of_ble_eq_true rfl, Nat.le_of_ble_eq_true rfl⟩ hP hD hK hS hA htb rfl hl.1 rfl (Nat.le_of_ble_eq_true rfl) dX1_two_127 ⟨Nat.zero_le _, Nat.zero_le _⟩ (fun H locs hP hD hS => ?_)
                          have hP : va_P (dC, dI) vwCl (mW h0 h1 h2 cI cL ((f_X1_whole (vk) (vn) (((p2).toInt64 * (p4).toInt64))).2.1, (f_X1_whole (vk) (vn) (((p2).toInt64 * (p4).toInt64))).2.2, en, nx, vx, vy, vb)) H := hP
                          have hD : va_D A (mW h0 h1 h2 cI cL ((f_X1_whole (vk) (vn) (((p2).toInt64 * (p4).toInt64))).2.1, (f_X1_whole (vk) (vn) (((p2).toInt64 * (p4).toInt64))).2.2, en, nx, vx, vy, vb)) := hD
                          have hE : f_X1_two vk vn vb p0 p1 p2 p3 p4 = ((f_X1_whole (vk) (vn) (((p2).toInt64 * (p4).toInt64))).1, (f_X1_whole (vk) (vn) (((p2).toInt64 * (p4).toInt64))).2.1, (f_X1_whole (vk) (vn) (((p2).toInt64 * (p4).toInt64))).2.2, vb) := (by rw [f_X1_two, if_neg c_1, if_neg c_2, if_neg c_3, if_neg c_4, if_pos c_5, if_pos c_23, if_neg c_41, if_neg c_43, if_neg c_45, if_pos c_47, if_neg c_58, if_neg c_59])
                          exact m_iret hx hb hr hlocks hP hD hK hS dX1_two_130 ⟨by rw [hE], by rw [hE]⟩
                        · skip
                          refine lv_iload_n hx hb dX1_two_112 rfl (lv_at hl 4 rfl) ?_
                          refine lv_i2l (v := (p2).toInt64) hx hb dX1_two_113 rfl ?_
                          refine lv_iload hx hb dX1_two_114 (lv_at hl 6 rfl) ?_
                          refine lv_i2l (v := (p4).toInt64) hx hb dX1_two_116 rfl ?_
                          refine lv_lsub hx hb dX1_two_117 ?_
                          refine lv_goto (tgt := 127) hx hb dX1_two_118 (by decide) ?_
                          refine mc_i (As := [.long ((p2).toInt64 - (p4).toInt64)]) (rest := []) ⟨hx, hb, hml, hown, hts⟩ (cc_X1_whole l dC dI h0 h1 h2 cI cL _ (vk) (vn) (en) (nx) (vx) (vy) (vb) (((p2).toInt64 - (p4).toInt64))) 1 gX1_two_X1_whole rfl rfl rfl hdV_X1_whole ⟨Nat.le_of_ble_eq_true rfl, Nat.le_of_ble_eq_true rfl⟩ hP hD hK hS hA htb rfl hl.1 rfl (Nat.le_of_ble_eq_true rfl) dX1_two_127 ⟨Nat.zero_le _, Nat.zero_le _⟩ (fun H locs hP hD hS => ?_)
                          have hP : va_P (dC, dI) vwCl (mW h0 h1 h2 cI cL ((f_X1_whole (vk) (vn) (((p2).toInt64 - (p4).toInt64))).2.1, (f_X1_whole (vk) (vn) (((p2).toInt64 - (p4).toInt64))).2.2, en, nx, vx, vy, vb)) H := hP
                          have hD : va_D A (mW h0 h1 h2 cI cL ((f_X1_whole (vk) (vn) (((p2).toInt64 - (p4).toInt64))).2.1, (f_X1_whole (vk) (vn) (((p2).toInt64 - (p4).toInt64))).2.2, en, nx, vx, vy, vb)) := hD
                          have hE : f_X1_two vk vn vb p0 p1 p2 p3 p4 = ((f_X1_whole (vk) (vn) (((p2).toInt64 - (p4).toInt64))).1, (f_X1_whole (vk) (vn) (((p2).toInt64 - (p4).toInt64))).2.1, (f_X1_whole (vk) (vn) (((p2).toInt64 - (p4).toInt64))).2.2, vb) := (by rw [f_X1_two, if_neg c_1, if_neg c_2, if_neg c_3, if_neg c_4, if_pos c_5, if_pos c_23, if_neg c_41, if_neg c_43, if_neg c_45, if_pos c_47, if_neg c_58, if_pos c_59])
                          exact m_iret hx hb hr hlocks hP hD hK hS dX1_two_130 ⟨by rw [hE], by rw [hE]⟩
                      · skip
                        refine lv_iload_n hx hb dX1_two_98 rfl (lv_at hl 4 rfl) ?_
                        refine lv_i2l (v := (p2).toInt64) hx hb dX1_two_99 rfl ?_
                        refine lv_iload hx hb dX1_two_100 (lv_at hl 6 rfl) ?_
                        refine lv_i2l (v := (p4).toInt64) hx hb dX1_two_102 rfl ?_
                        refine lv_ladd hx hb dX1_two_103 ?_
                        refine lv_goto (tgt := 127) hx hb dX1_two_104 (by decide) ?_
                        refine mc_i (As := [.long ((p2).toInt64 + (p4).toInt64)]) (rest := []) ⟨hx, hb, hml, hown, hts⟩ (cc_X1_whole l dC dI h0 h1 h2 cI cL _ (vk) (vn) (en) (nx) (vx) (vy) (vb) (((p2).toInt64 + (p4).toInt64))) 1 gX1_two_X1_whole rfl rfl rfl hdV_X1_whole ⟨Nat.le_of_ble_eq_true rfl, Nat.le_of_ble_eq_true rfl⟩ hP hD hK hS hA htb rfl hl.1 rfl (Nat.le_of_ble_eq_true rfl) dX1_two_127 ⟨Nat.zero_le _, Nat.zero_le _⟩ (fun H locs hP hD hS => ?_)
                        have hP : va_P (dC, dI) vwCl (mW h0 h1 h2 cI cL ((f_X1_whole (vk) (vn) (((p2).toInt64 + (p4).toInt64))).2.1, (f_X1_whole (vk) (vn) (((p2).toInt64 + (p4).toInt64))).2.2, en, nx, vx, vy, vb)) H := hP
                        have hD : va_D A (mW h0 h1 h2 cI cL ((f_X1_whole (vk) (vn) (((p2).toInt64 + (p4).toInt64))).2.1, (f_X1_whole (vk) (vn) (((p2).toInt64 + (p4).toInt64))).2.2, en, nx, vx, vy, vb)) := hD
                        have hE : f_X1_two vk vn vb p0 p1 p2 p3 p4 = ((f_X1_whole (vk) (vn) (((p2).toInt64 + (p4).toInt64))).1, (f_X1_whole (vk) (vn) (((p2).toInt64 + (p4).toInt64))).2.1, (f_X1_whole (vk) (vn) (((p2).toInt64 + (p4).toInt64))).2.2, vb) := (by rw [f_X1_two, if_neg c_1, if_neg c_2, if_neg c_3, if_neg c_4, if_pos c_5, if_pos c_23, if_neg c_41, if_neg c_43, if_neg c_45, if_pos c_47, if_pos c_58])
                        exact m_iret hx hb hr hlocks hP hD hK hS dX1_two_130 ⟨by rw [hE], by rw [hE]⟩
                  · skip
                    refine lv_iload hx hb dX1_two_64 (lv_at hl 0 rfl) ?_
                    refine lv_if_eq (tgt := 80) hx hb dX1_two_66 (by decide) (fun q => absurd q (by decide)) (fun _ => ?_)
                    refine lv_aload_n hx hb dX1_two_69 rfl (lv_at hl 1 rfl) ?_
                    refine lv_iload_n hx hb dX1_two_70 rfl (lv_at hl 2 rfl) ?_
                    refine lv_iload_n hx hb dX1_two_71 rfl (lv_at hl 4 rfl) ?_
                    refine lv_iload hx hb dX1_two_72 (lv_at hl 6 rfl) ?_
                    refine mc_i (As := [.int p0, .int p2, .int p4]) (rest := []) ⟨hx, hb, hml, hown, hts⟩ (cc_X1_onWholes l dC dI h0 h1 h2 cI cL _ (vk) (vn) (en) (nx) (vx) (vy) (vb) (p0) (p2) (p4)) 3 gX1_two_X1_onWholes rfl rfl rfl hdV_X1_onWholes ⟨Nat.le_of_ble_eq_true rfl, Nat.le_of_ble_eq_true rfl⟩ hP hD hK hS hA htb rfl hl.1 rfl (Nat.le_of_ble_eq_true rfl) dX1_two_74 ⟨Nat.zero_le _, Nat.zero_le _⟩ (fun H locs hP hD hS => ?_)
                    have hP : va_P (dC, dI) vwCl (mW h0 h1 h2 cI cL ((f_X1_onWholes (vk) (vn) (p0) (p2) (p4)).2.1, (f_X1_onWholes (vk) (vn) (p0) (p2) (p4)).2.2, en, nx, vx, vy, vb)) H := hP
                    have hD : va_D A (mW h0 h1 h2 cI cL ((f_X1_onWholes (vk) (vn) (p0) (p2) (p4)).2.1, (f_X1_onWholes (vk) (vn) (p0) (p2) (p4)).2.2, en, nx, vx, vy, vb)) := hD
                    refine lv_goto (tgt := 82) hx hb dX1_two_77 (by decide) ?_
                    have hE : f_X1_two vk vn vb p0 p1 p2 p3 p4 = ((f_X1_onWholes (vk) (vn) (p0) (p2) (p4)).1, (f_X1_onWholes (vk) (vn) (p0) (p2) (p4)).2.1, (f_X1_onWholes (vk) (vn) (p0) (p2) (p4)).2.2, vb) := (by rw [f_X1_two, if_neg c_1, if_neg c_2, if_neg c_3, if_neg c_4, if_pos c_5, if_pos c_23, if_neg c_41, if_neg c_43, if_pos c_45])
                    exact m_iret hx hb hr hlocks hP hD hK hS dX1_two_82 ⟨by rw [hE], by rw [hE]⟩
        · skip
          refine lv_iconst (v := (-1)) hx hb dX1_two_28 (by decide) ?_
          have hE : f_X1_two vk vn vb p0 p1 p2 p3 p4 = ((-1), vk, vn, vb) := (by rw [f_X1_two, if_neg c_1, if_neg c_2, if_neg c_3, if_pos c_4])
          exact m_iret hx hb hr hlocks hP hD hK hS dX1_two_29 ⟨by rw [hE], by rw [hE]⟩
theorem hdV_X1_one : yX1_one.cls = RX1 ∧ yX1_one.cls ≠ "java/lang/invoke/MethodHandle" ∧ yX1_one.cls ≠ "java/lang/invoke/VarHandle" ∧ (parseMethodDescriptor yX1_one.desc).map (fun d => d.parameters.length) = some 3 := by decide +kernel
theorem fi_X1_one : ∀ w ∈ wsX10, w ∈ wsX1_one := fun _ h => List.mem_cons_of_mem _ (List.mem_append_right _ h)
def f_X1_one (vk : Int32) (vn : Int32) (p0 : Int32) (p1 : Int32) (p2 : Int32) : Int32 × Int32 × Int32 := if p0 < 0 then (((-1), vk, vn)) else (if 11 < p0 then (((-1), vk, vn)) else (if (f_X1_isValue (p1) (p2)) = 0 then (((-1), vk, vn)) else (if p0 = 11 then (if p1 = 2 then (((-4), vk, vn)) else ((f_X1_whole (vk) (vn) (((p2 ^^^ (-1))).toInt64)))) else (if p0 < 6 then (if p1 = 1 then ((f_X1_onWhole (vk) (vn) (p0) ((p2).toInt64))) else ((f_X1_onReal (vk) (vn) (p0) ((p2).toInt64)))) else (if p0 = 9 then (if p1 = 1 then ((f_X1_onWhole (vk) (vn) (p0) ((p2).toInt64))) else ((f_X1_onReal (vk) (vn) (p0) ((p2).toInt64)))) else (if (f_X1_hasUnits (p1) (p2)) = 0 then (((-2), vk, vn)) else (if p0 = 6 then (if (f_X1_units (p1) (p2)) < 0 then (((-3), vk, vn)) else ((f_X1_real (vk) (vn) ((f_X1_root ((f_X1_units (p1) (p2)))))))) else (if p0 = 7 then ((f_X1_real (vk) (vn) ((f_X1_sine ((f_X1_units (p1) (p2))))))) else (if p0 = 8 then ((f_X1_real (vk) (vn) ((f_X1_sine (((f_X1_units (p1) (p2)) + 5898240)))))) else ((f_X1_real (vk) (vn) ((f_X1_units (p1) (p2))))))))))))))
abbrev rm_X1_one : Room := { frames := 4, cells := 0, slots := 0, locals := 162 }
set_option maxHeartbeats 4000000 in
set_option maxRecDepth 100000 in
theorem cc_X1_one (l : Launch) (dC : Nat → ClassId) (dI : Nat → Nat → Nat) (h0 h1 h2 : Nat) (cI cL : ClassId) (sz : Nat) (vk vn : Int32) (en : Nat → Int32) (nx : Nat → Int64) (vx vy vb : Int32) (p0 : Int32) (p1 : Int32) (p2 : Int32)   : Met l yX1_one wsX1_one rm_X1_one (va_Pc [.ref h0, .int p0, .int p1, .int p2] (mPre dC dI h0 h1 h2 cI cL sz (vk, vn, en, nx, vx, vy, vb))) (mQi dC dI h0 h1 h2 cI cL (va_A (mW h0 h1 h2 cI cL (vk, vn, en, nx, vx, vy, vb)) sz) ((f_X1_one vk vn p0 p1 p2).1) ((f_X1_one vk vn p0 p1 p2).2.1, (f_X1_one vk vn p0 p1 p2).2.2, en, nx, vx, vy, vb)) 0 0 (va_A (mW h0 h1 h2 cI cL (vk, vn, en, nx, vx, vy, vb)) sz) := by
  refine m_headi (cc := cX1_one) (maxL := 6) (ret := some .int) (by decide) rfl rfl (Nat.le_of_ble_eq_true rfl) ?_
  intro p e s m below meth c ls A hx hb hr hlocks hml hown hts hA hP hD hK htb hS hl
  have hl : lv_has ls 6 [(0, .ref h0), (1, .int p0), (2, .int p1), (3, .int p2)] := hl
  refine lv_iload_n hx hb dX1_one_0 rfl (lv_at hl 1 rfl) ?_
  refine lv_if_lt (tgt := 18) hx hb dX1_one_1 (by decide) (fun c_1 => ?_) (fun c_1 => ?_)
  · skip
    refine lv_iconst (v := (-1)) hx hb dX1_one_18 (by decide) ?_
    have hE : f_X1_one vk vn p0 p1 p2 = ((-1), vk, vn) := (by rw [f_X1_one, if_pos c_1])
    exact m_iret hx hb hr hlocks hP hD hK hS dX1_one_19 ⟨by rw [hE], by rw [hE]⟩
  · skip
    refine lv_iload_n hx hb dX1_one_4 rfl (lv_at hl 1 rfl) ?_
    refine lv_bipush (v := 11) hx hb dX1_one_5 (by decide) ?_
    refine pi_gt (tgt := 18) hx hb dX1_one_7 (by decide) (fun c_2 => ?_) (fun c_2 => ?_)
    · skip
      refine lv_iconst (v := (-1)) hx hb dX1_one_18 (by decide) ?_
      have hE : f_X1_one vk vn p0 p1 p2 = ((-1), vk, vn) := (by rw [f_X1_one, if_neg c_1, if_pos c_2])
      exact m_iret hx hb hr hlocks hP hD hK hS dX1_one_19 ⟨by rw [hE], by rw [hE]⟩
    · skip
      refine lv_iload_n hx hb dX1_one_10 rfl (lv_at hl 2 rfl) ?_
      refine lv_iload_n hx hb dX1_one_11 rfl (lv_at hl 3 rfl) ?_
      refine pu_Si (As := [.int p1, .int p2]) (rest := []) ⟨hx, hb, hml, hown, hts⟩ (cc_X1_isValue l _ (p1) (p2)) 2 gX1_one_X1_isValue rfl rfl rfl hdS_X1_isValue ⟨Nat.le_of_ble_eq_true rfl, Nat.le_of_ble_eq_true rfl⟩ kN_ok kN_at rfl hl.1 rfl (Nat.le_of_ble_eq_true rfl) dX1_one_12 ⟨Nat.zero_le _, Nat.zero_le _⟩ ?_
      refine lv_if_ne (tgt := 20) hx hb dX1_one_15 (by decide) (fun c_3 => ?_) (fun c_3 => ?_)
      · skip
        refine lv_iload_n hx hb dX1_one_20 rfl (lv_at hl 1 rfl) ?_
        refine lv_bipush (v := 11) hx hb dX1_one_21 (by decide) ?_
        refine lv_icmp_ne (tgt := 45) hx hb dX1_one_23 (by decide) (fun c_4 => ?_) (fun c_4 => ?_)
        · skip
          refine lv_iload_n hx hb dX1_one_45 rfl (lv_at hl 1 rfl) ?_
          refine lv_bipush (v := 6) hx hb dX1_one_46 (by decide) ?_
          refine lv_icmp_lt (tgt := 57) hx hb dX1_one_48 (by decide) (fun c_5 => ?_) (fun c_5 => ?_)
          · skip
            refine lv_iload_n hx hb dX1_one_57 rfl (lv_at hl 2 rfl) ?_
            refine lv_iconst (v := 1) hx hb dX1_one_58 (by decide) ?_
            refine lv_icmp_ne (tgt := 72) hx hb dX1_one_59 (by decide) (fun c_6 => ?_) (fun c_6 => ?_)
            · skip
              refine lv_aload_n hx hb dX1_one_72 rfl (lv_at hl 0 rfl) ?_
              refine lv_iload_n hx hb dX1_one_73 rfl (lv_at hl 1 rfl) ?_
              refine lv_iload_n hx hb dX1_one_74 rfl (lv_at hl 3 rfl) ?_
              refine lv_i2l (v := (p2).toInt64) hx hb dX1_one_75 rfl ?_
              refine mc_i (As := [.int p0, .long (p2).toInt64]) (rest := []) ⟨hx, hb, hml, hown, hts⟩ (cc_X1_onReal l dC dI h0 h1 h2 cI cL _ (vk) (vn) (en) (nx) (vx) (vy) (vb) (p0) ((p2).toInt64)) 2 gX1_one_X1_onReal rfl rfl rfl hdV_X1_onReal ⟨Nat.le_of_ble_eq_true rfl, Nat.le_of_ble_eq_true rfl⟩ hP hD hK hS hA htb rfl hl.1 rfl (Nat.le_of_ble_eq_true rfl) dX1_one_76 ⟨Nat.zero_le _, Nat.zero_le _⟩ (fun H locs hP hD hS => ?_)
              have hP : va_P (dC, dI) vwCl (mW h0 h1 h2 cI cL ((f_X1_onReal (vk) (vn) (p0) ((p2).toInt64)).2.1, (f_X1_onReal (vk) (vn) (p0) ((p2).toInt64)).2.2, en, nx, vx, vy, vb)) H := hP
              have hD : va_D A (mW h0 h1 h2 cI cL ((f_X1_onReal (vk) (vn) (p0) ((p2).toInt64)).2.1, (f_X1_onReal (vk) (vn) (p0) ((p2).toInt64)).2.2, en, nx, vx, vy, vb)) := hD
              have hE : f_X1_one vk vn p0 p1 p2 = (f_X1_onReal (vk) (vn) (p0) ((p2).toInt64)) := (by rw [f_X1_one, if_neg c_1, if_neg c_2, if_neg c_3, if_neg c_4, if_pos c_5, if_neg c_6])
              exact m_iret hx hb hr hlocks hP hD hK hS dX1_one_79 ⟨by rw [hE], by rw [hE]⟩
            · skip
              refine lv_aload_n hx hb dX1_one_62 rfl (lv_at hl 0 rfl) ?_
              refine lv_iload_n hx hb dX1_one_63 rfl (lv_at hl 1 rfl) ?_
              refine lv_iload_n hx hb dX1_one_64 rfl (lv_at hl 3 rfl) ?_
              refine lv_i2l (v := (p2).toInt64) hx hb dX1_one_65 rfl ?_
              refine mc_i (As := [.int p0, .long (p2).toInt64]) (rest := []) ⟨hx, hb, hml, hown, hts⟩ (cc_X1_onWhole l dC dI h0 h1 h2 cI cL _ (vk) (vn) (en) (nx) (vx) (vy) (vb) (p0) ((p2).toInt64)) 2 gX1_one_X1_onWhole rfl rfl rfl hdV_X1_onWhole ⟨Nat.le_of_ble_eq_true rfl, Nat.le_of_ble_eq_true rfl⟩ hP hD hK hS hA htb rfl hl.1 rfl (Nat.le_of_ble_eq_true rfl) dX1_one_66 ⟨Nat.zero_le _, Nat.zero_le _⟩ (fun H locs hP hD hS => ?_)
              have hP : va_P (dC, dI) vwCl (mW h0 h1 h2 cI cL ((f_X1_onWhole (vk) (vn) (p0) ((p2).toInt64)).2.1, (f_X1_onWhole (vk) (vn) (p0) ((p2).toInt64)).2.2, en, nx, vx, vy, vb)) H := hP
              have hD : va_D A (mW h0 h1 h2 cI cL ((f_X1_onWhole (vk) (vn) (p0) ((p2).toInt64)).2.1, (f_X1_onWhole (vk) (vn) (p0) ((p2).toInt64)).2.2, en, nx, vx, vy, vb)) := hD
              refine lv_goto (tgt := 79) hx hb dX1_one_69 (by decide) ?_
              have hE : f_X1_one vk vn p0 p1 p2 = (f_X1_onWhole (vk) (vn) (p0) ((p2).toInt64)) := (by rw [f_X1_one, if_neg c_1, if_neg c_2, if_neg c_3, if_neg c_4, if_pos c_5, if_pos c_6])
              exact m_iret hx hb hr hlocks hP hD hK hS dX1_one_79 ⟨by rw [hE], by rw [hE]⟩
          · skip
            refine lv_iload_n hx hb dX1_one_51 rfl (lv_at hl 1 rfl) ?_
            refine lv_bipush (v := 9) hx hb dX1_one_52 (by decide) ?_
            refine lv_icmp_ne (tgt := 80) hx hb dX1_one_54 (by decide) (fun c_7 => ?_) (fun c_7 => ?_)
            · skip
              refine lv_iload_n hx hb dX1_one_80 rfl (lv_at hl 2 rfl) ?_
              refine lv_iload_n hx hb dX1_one_81 rfl (lv_at hl 3 rfl) ?_
              refine pu_Si (As := [.int p1, .int p2]) (rest := []) ⟨hx, hb, hml, hown, hts⟩ (cc_X1_hasUnits l _ (p1) (p2)) 2 gX1_one_X1_hasUnits rfl rfl rfl hdS_X1_hasUnits ⟨Nat.le_of_ble_eq_true rfl, Nat.le_of_ble_eq_true rfl⟩ kN_ok kN_at rfl hl.1 rfl (Nat.le_of_ble_eq_true rfl) dX1_one_82 ⟨Nat.zero_le _, Nat.zero_le _⟩ ?_
              refine lv_if_ne (tgt := 91) hx hb dX1_one_85 (by decide) (fun c_8 => ?_) (fun c_8 => ?_)
              · skip
                refine lv_iload_n hx hb dX1_one_91 rfl (lv_at hl 2 rfl) ?_
                refine lv_iload_n hx hb dX1_one_92 rfl (lv_at hl 3 rfl) ?_
                refine pu_Sl (As := [.int p1, .int p2]) (rest := []) ⟨hx, hb, hml, hown, hts⟩ (cc_X1_units l _ (p1) (p2)) 2 gX1_one_X1_units rfl rfl rfl hdS_X1_units ⟨Nat.le_of_ble_eq_true rfl, Nat.le_of_ble_eq_true rfl⟩ kN_ok kN_at rfl hl.1 rfl (Nat.le_of_ble_eq_true rfl) dX1_one_93 ⟨Nat.zero_le _, Nat.zero_le _⟩ ?_
                refine lv_lstore (lv' := [(4, .long (f_X1_units (p1) (p2))), (0, .ref h0), (1, .int p0), (2, .int p1), (3, .int p2)]) hx hb dX1_one_96 hl (by decide) rfl (fun ls hl => ?_)
                refine lv_iload_n hx hb dX1_one_98 rfl (lv_at hl 2 rfl) ?_
                by_cases c_9 : p0 = 6
                · skip
                  refine lv_tableIn (tgt := 124) (off := 25) hx hb dX1_one_99 (by rw [c_9]; decide) (by rw [c_9]; decide) (by rw [c_9]; decide) (by decide) ?_
                  refine lv_lload hx hb dX1_one_124 (lv_at hl 0 rfl) ?_
                  refine lv_lconst (v := 0) hx hb dX1_one_126 (by decide) ?_
                  refine pl_ge (tgt := 136) hx hb dX1_one_127 dX1_one_128 (by decide) (fun c_10 => ?_) (fun c_10 => ?_)
                  · skip
                    refine lv_aload_n hx hb dX1_one_136 rfl (lv_at hl 1 rfl) ?_
                    refine lv_lload hx hb dX1_one_137 (lv_at hl 0 rfl) ?_
                    refine pu_Sl (As := [.long (f_X1_units (p1) (p2))]) (rest := [.ref h0]) ⟨hx, hb, hml, hown, hts⟩ (cc_X1_root l _ ((f_X1_units (p1) (p2)))) 1 gX1_one_X1_root rfl rfl rfl hdS_X1_root ⟨Nat.le_of_ble_eq_true rfl, Nat.le_of_ble_eq_true rfl⟩ kN_ok kN_at rfl hl.1 rfl (Nat.le_of_ble_eq_true rfl) dX1_one_139 ⟨Nat.zero_le _, Nat.zero_le _⟩ ?_
                    refine mc_i (As := [.long (f_X1_root ((f_X1_units (p1) (p2))))]) (rest := []) ⟨hx, hb, hml, hown, hts⟩ (cc_X1_real l dC dI h0 h1 h2 cI cL _ (vk) (vn) (en) (nx) (vx) (vy) (vb) ((f_X1_root ((f_X1_units (p1) (p2)))))) 1 gX1_one_X1_real rfl rfl rfl hdV_X1_real ⟨Nat.le_of_ble_eq_true rfl, Nat.le_of_ble_eq_true rfl⟩ hP hD hK hS hA htb rfl hl.1 rfl (Nat.le_of_ble_eq_true rfl) dX1_one_142 ⟨Nat.zero_le _, Nat.zero_le _⟩ (fun H locs hP hD hS => ?_)
                    have hP : va_P (dC, dI) vwCl (mW h0 h1 h2 cI cL ((f_X1_real (vk) (vn) ((f_X1_root ((f_X1_units (p1) (p2)))))).2.1, (f_X1_real (vk) (vn) ((f_X1_root ((f_X1_units (p1) (p2)))))).2.2, en, nx, vx, vy, vb)) H := hP
                    have hD : va_D A (mW h0 h1 h2 cI cL ((f_X1_real (vk) (vn) ((f_X1_root ((f_X1_units (p1) (p2)))))).2.1, (f_X1_real (vk) (vn) ((f_X1_root ((f_X1_units (p1) (p2)))))).2.2, en, nx, vx, vy, vb)) := hD
                    have hE : f_X1_one vk vn p0 p1 p2 = (f_X1_real (vk) (vn) ((f_X1_root ((f_X1_units (p1) (p2)))))) := (by rw [f_X1_one, if_neg c_1, if_neg c_2, if_neg c_3, if_neg c_4, if_neg c_5, if_neg c_7, if_neg c_8, if_pos c_9, if_neg c_10])
                    exact m_iret hx hb hr hlocks hP hD hK hS dX1_one_145 ⟨by rw [hE], by rw [hE]⟩
                  · skip
                    refine lv_bipush (v := (-3)) hx hb dX1_one_131 (by decide) ?_
                    refine lv_goto (tgt := 145) hx hb dX1_one_133 (by decide) ?_
                    have hE : f_X1_one vk vn p0 p1 p2 = ((-3), vk, vn) := (by rw [f_X1_one, if_neg c_1, if_neg c_2, if_neg c_3, if_neg c_4, if_neg c_5, if_neg c_7, if_neg c_8, if_pos c_9, if_pos c_10])
                    exact m_iret hx hb hr hlocks hP hD hK hS dX1_one_145 ⟨by rw [hE], by rw [hE]⟩
                by_cases c_11 : p0 = 7
                · skip
                  refine lv_tableIn (tgt := 146) (off := 47) hx hb dX1_one_99 (by rw [c_11]; decide) (by rw [c_11]; decide) (by rw [c_11]; decide) (by decide) ?_
                  refine lv_aload_n hx hb dX1_one_146 rfl (lv_at hl 1 rfl) ?_
                  refine lv_lload hx hb dX1_one_147 (lv_at hl 0 rfl) ?_
                  refine pu_Sl (As := [.long (f_X1_units (p1) (p2))]) (rest := [.ref h0]) ⟨hx, hb, hml, hown, hts⟩ (cc_X1_sine l _ ((f_X1_units (p1) (p2)))) 1 gX1_one_X1_sine rfl rfl rfl hdS_X1_sine ⟨Nat.le_of_ble_eq_true rfl, Nat.le_of_ble_eq_true rfl⟩ (kT_ok _) (kT_of htb hS) rfl hl.1 rfl (Nat.le_of_ble_eq_true rfl) dX1_one_149 ⟨Nat.zero_le _, Nat.zero_le _⟩ ?_
                  refine mc_i (As := [.long (f_X1_sine ((f_X1_units (p1) (p2))))]) (rest := []) ⟨hx, hb, hml, hown, hts⟩ (cc_X1_real l dC dI h0 h1 h2 cI cL _ (vk) (vn) (en) (nx) (vx) (vy) (vb) ((f_X1_sine ((f_X1_units (p1) (p2)))))) 1 gX1_one_X1_real rfl rfl rfl hdV_X1_real ⟨Nat.le_of_ble_eq_true rfl, Nat.le_of_ble_eq_true rfl⟩ hP hD hK hS hA htb rfl hl.1 rfl (Nat.le_of_ble_eq_true rfl) dX1_one_152 ⟨Nat.zero_le _, Nat.zero_le _⟩ (fun H locs hP hD hS => ?_)
                  have hP : va_P (dC, dI) vwCl (mW h0 h1 h2 cI cL ((f_X1_real (vk) (vn) ((f_X1_sine ((f_X1_units (p1) (p2)))))).2.1, (f_X1_real (vk) (vn) ((f_X1_sine ((f_X1_units (p1) (p2)))))).2.2, en, nx, vx, vy, vb)) H := hP
                  have hD : va_D A (mW h0 h1 h2 cI cL ((f_X1_real (vk) (vn) ((f_X1_sine ((f_X1_units (p1) (p2)))))).2.1, (f_X1_real (vk) (vn) ((f_X1_sine ((f_X1_units (p1) (p2)))))).2.2, en, nx, vx, vy, vb)) := hD
                  have hE : f_X1_one vk vn p0 p1 p2 = (f_X1_real (vk) (vn) ((f_X1_sine ((f_X1_units (p1) (p2)))))) := (by rw [f_X1_one, if_neg c_1, if_neg c_2, if_neg c_3, if_neg c_4, if_neg c_5, if_neg c_7, if_neg c_8, if_neg c_9, if_pos c_11])
                  exact m_iret hx hb hr hlocks hP hD hK hS dX1_one_155 ⟨by rw [hE], by rw [hE]⟩
                by_cases c_12 : p0 = 8
                · skip
                  refine lv_tableIn (tgt := 156) (off := 57) hx hb dX1_one_99 (by rw [c_12]; decide) (by rw [c_12]; decide) (by rw [c_12]; decide) (by decide) ?_
                  refine lv_aload_n hx hb dX1_one_156 rfl (lv_at hl 1 rfl) ?_
                  refine lv_lload hx hb dX1_one_157 (lv_at hl 0 rfl) ?_
                  refine lv_ldc2 (v := 5898240) hx hb hown (hts (.constantLong RX1 100 (5898240)) (by decide +kernel)) dX1_one_159 ?_
                  refine lv_ladd hx hb dX1_one_162 ?_
                  refine pu_Sl (As := [.long ((f_X1_units (p1) (p2)) + 5898240)]) (rest := [.ref h0]) ⟨hx, hb, hml, hown, hts⟩ (cc_X1_sine l _ (((f_X1_units (p1) (p2)) + 5898240))) 1 gX1_one_X1_sine rfl rfl rfl hdS_X1_sine ⟨Nat.le_of_ble_eq_true rfl, Nat.le_of_ble_eq_true rfl⟩ (kT_ok _) (kT_of htb hS) rfl hl.1 rfl (Nat.le_of_ble_eq_true rfl) dX1_one_163 ⟨Nat.zero_le _, Nat.zero_le _⟩ ?_
                  refine mc_i (As := [.long (f_X1_sine (((f_X1_units (p1) (p2)) + 5898240)))]) (rest := []) ⟨hx, hb, hml, hown, hts⟩ (cc_X1_real l dC dI h0 h1 h2 cI cL _ (vk) (vn) (en) (nx) (vx) (vy) (vb) ((f_X1_sine (((f_X1_units (p1) (p2)) + 5898240))))) 1 gX1_one_X1_real rfl rfl rfl hdV_X1_real ⟨Nat.le_of_ble_eq_true rfl, Nat.le_of_ble_eq_true rfl⟩ hP hD hK hS hA htb rfl hl.1 rfl (Nat.le_of_ble_eq_true rfl) dX1_one_166 ⟨Nat.zero_le _, Nat.zero_le _⟩ (fun H locs hP hD hS => ?_)
                  have hP : va_P (dC, dI) vwCl (mW h0 h1 h2 cI cL ((f_X1_real (vk) (vn) ((f_X1_sine (((f_X1_units (p1) (p2)) + 5898240))))).2.1, (f_X1_real (vk) (vn) ((f_X1_sine (((f_X1_units (p1) (p2)) + 5898240))))).2.2, en, nx, vx, vy, vb)) H := hP
                  have hD : va_D A (mW h0 h1 h2 cI cL ((f_X1_real (vk) (vn) ((f_X1_sine (((f_X1_units (p1) (p2)) + 5898240))))).2.1, (f_X1_real (vk) (vn) ((f_X1_sine (((f_X1_units (p1) (p2)) + 5898240))))).2.2, en, nx, vx, vy, vb)) := hD
                  have hE : f_X1_one vk vn p0 p1 p2 = (f_X1_real (vk) (vn) ((f_X1_sine (((f_X1_units (p1) (p2)) + 5898240))))) := (by rw [f_X1_one, if_neg c_1, if_neg c_2, if_neg c_3, if_neg c_4, if_neg c_5, if_neg c_7, if_neg c_8, if_neg c_9, if_neg c_11, if_pos c_12])
                  exact m_iret hx hb hr hlocks hP hD hK hS dX1_one_169 ⟨by rw [hE], by rw [hE]⟩
                refine lv_tableOut (tgt := 170) hx hb dX1_one_99 (by have q6 : p0.toInt ≠ 6 := fun q => c_9 (Int32.toInt_inj.mp (q.trans (by decide))); have q7 : p0.toInt ≠ 7 := fun q => c_11 (Int32.toInt_inj.mp (q.trans (by decide))); have q8 : p0.toInt ≠ 8 := fun q => c_12 (Int32.toInt_inj.mp (q.trans (by decide))); omega) (by decide) ?_
                refine lv_aload_n hx hb dX1_one_170 rfl (lv_at hl 1 rfl) ?_
                refine lv_lload hx hb dX1_one_171 (lv_at hl 0 rfl) ?_
                refine mc_i (As := [.long (f_X1_units (p1) (p2))]) (rest := []) ⟨hx, hb, hml, hown, hts⟩ (cc_X1_real l dC dI h0 h1 h2 cI cL _ (vk) (vn) (en) (nx) (vx) (vy) (vb) ((f_X1_units (p1) (p2)))) 1 gX1_one_X1_real rfl rfl rfl hdV_X1_real ⟨Nat.le_of_ble_eq_true rfl, Nat.le_of_ble_eq_true rfl⟩ hP hD hK hS hA htb rfl hl.1 rfl (Nat.le_of_ble_eq_true rfl) dX1_one_173 ⟨Nat.zero_le _, Nat.zero_le _⟩ (fun H locs hP hD hS => ?_)
                have hP : va_P (dC, dI) vwCl (mW h0 h1 h2 cI cL ((f_X1_real (vk) (vn) ((f_X1_units (p1) (p2)))).2.1, (f_X1_real (vk) (vn) ((f_X1_units (p1) (p2)))).2.2, en, nx, vx, vy, vb)) H := hP
                have hD : va_D A (mW h0 h1 h2 cI cL ((f_X1_real (vk) (vn) ((f_X1_units (p1) (p2)))).2.1, (f_X1_real (vk) (vn) ((f_X1_units (p1) (p2)))).2.2, en, nx, vx, vy, vb)) := hD
                have hE : f_X1_one vk vn p0 p1 p2 = (f_X1_real (vk) (vn) ((f_X1_units (p1) (p2)))) := (by rw [f_X1_one, if_neg c_1, if_neg c_2, if_neg c_3, if_neg c_4, if_neg c_5, if_neg c_7, if_neg c_8, if_neg c_9, if_neg c_11, if_neg c_12])
                exact m_iret hx hb hr hlocks hP hD hK hS dX1_one_176 ⟨by rw [hE], by rw [hE]⟩
              · skip
                refine lv_bipush (v := (-2)) hx hb dX1_one_88 (by decide) ?_
                have hE : f_X1_one vk vn p0 p1 p2 = ((-2), vk, vn) := (by rw [f_X1_one, if_neg c_1, if_neg c_2, if_neg c_3, if_neg c_4, if_neg c_5, if_neg c_7, if_pos c_8])
                exact m_iret hx hb hr hlocks hP hD hK hS dX1_one_90 ⟨by rw [hE], by rw [hE]⟩
            · skip
              refine lv_iload_n hx hb dX1_one_57 rfl (lv_at hl 2 rfl) ?_
              refine lv_iconst (v := 1) hx hb dX1_one_58 (by decide) ?_
              refine lv_icmp_ne (tgt := 72) hx hb dX1_one_59 (by decide) (fun c_13 => ?_) (fun c_13 => ?_)
              · skip
                refine lv_aload_n hx hb dX1_one_72 rfl (lv_at hl 0 rfl) ?_
                refine lv_iload_n hx hb dX1_one_73 rfl (lv_at hl 1 rfl) ?_
                refine lv_iload_n hx hb dX1_one_74 rfl (lv_at hl 3 rfl) ?_
                refine lv_i2l (v := (p2).toInt64) hx hb dX1_one_75 rfl ?_
                refine mc_i (As := [.int p0, .long (p2).toInt64]) (rest := []) ⟨hx, hb, hml, hown, hts⟩ (cc_X1_onReal l dC dI h0 h1 h2 cI cL _ (vk) (vn) (en) (nx) (vx) (vy) (vb) (p0) ((p2).toInt64)) 2 gX1_one_X1_onReal rfl rfl rfl hdV_X1_onReal ⟨Nat.le_of_ble_eq_true rfl, Nat.le_of_ble_eq_true rfl⟩ hP hD hK hS hA htb rfl hl.1 rfl (Nat.le_of_ble_eq_true rfl) dX1_one_76 ⟨Nat.zero_le _, Nat.zero_le _⟩ (fun H locs hP hD hS => ?_)
                have hP : va_P (dC, dI) vwCl (mW h0 h1 h2 cI cL ((f_X1_onReal (vk) (vn) (p0) ((p2).toInt64)).2.1, (f_X1_onReal (vk) (vn) (p0) ((p2).toInt64)).2.2, en, nx, vx, vy, vb)) H := hP
                have hD : va_D A (mW h0 h1 h2 cI cL ((f_X1_onReal (vk) (vn) (p0) ((p2).toInt64)).2.1, (f_X1_onReal (vk) (vn) (p0) ((p2).toInt64)).2.2, en, nx, vx, vy, vb)) := hD
                have hE : f_X1_one vk vn p0 p1 p2 = (f_X1_onReal (vk) (vn) (p0) ((p2).toInt64)) := (by rw [f_X1_one, if_neg c_1, if_neg c_2, if_neg c_3, if_neg c_4, if_neg c_5, if_pos c_7, if_neg c_13])
                exact m_iret hx hb hr hlocks hP hD hK hS dX1_one_79 ⟨by rw [hE], by rw [hE]⟩
              · skip
                refine lv_aload_n hx hb dX1_one_62 rfl (lv_at hl 0 rfl) ?_
                refine lv_iload_n hx hb dX1_one_63 rfl (lv_at hl 1 rfl) ?_
                refine lv_iload_n hx hb dX1_one_64 rfl (lv_at hl 3 rfl) ?_
                refine lv_i2l (v := (p2).toInt64) hx hb dX1_one_65 rfl ?_
                refine mc_i (As := [.int p0, .long (p2).toInt64]) (rest := []) ⟨hx, hb, hml, hown, hts⟩ (cc_X1_onWhole l dC dI h0 h1 h2 cI cL _ (vk) (vn) (en) (nx) (vx) (vy) (vb) (p0) ((p2).toInt64)) 2 gX1_one_X1_onWhole rfl rfl rfl hdV_X1_onWhole ⟨Nat.le_of_ble_eq_true rfl, Nat.le_of_ble_eq_true rfl⟩ hP hD hK hS hA htb rfl hl.1 rfl (Nat.le_of_ble_eq_true rfl) dX1_one_66 ⟨Nat.zero_le _, Nat.zero_le _⟩ (fun H locs hP hD hS => ?_)
                have hP : va_P (dC, dI) vwCl (mW h0 h1 h2 cI cL ((f_X1_onWhole (vk) (vn) (p0) ((p2).toInt64)).2.1, (f_X1_onWhole (vk) (vn) (p0) ((p2).toInt64)).2.2, en, nx, vx, vy, vb)) H := hP
                have hD : va_D A (mW h0 h1 h2 cI cL ((f_X1_onWhole (vk) (vn) (p0) ((p2).toInt64)).2.1, (f_X1_onWhole (vk) (vn) (p0) ((p2).toInt64)).2.2, en, nx, vx, vy, vb)) := hD
                refine lv_goto (tgt := 79) hx hb dX1_one_69 (by decide) ?_
                have hE : f_X1_one vk vn p0 p1 p2 = (f_X1_onWhole (vk) (vn) (p0) ((p2).toInt64)) := (by rw [f_X1_one, if_neg c_1, if_neg c_2, if_neg c_3, if_neg c_4, if_neg c_5, if_pos c_7, if_pos c_13])
                exact m_iret hx hb hr hlocks hP hD hK hS dX1_one_79 ⟨by rw [hE], by rw [hE]⟩
        · skip
          refine lv_iload_n hx hb dX1_one_26 rfl (lv_at hl 2 rfl) ?_
          refine lv_iconst (v := 2) hx hb dX1_one_27 (by decide) ?_
          refine lv_icmp_ne (tgt := 36) hx hb dX1_one_28 (by decide) (fun c_14 => ?_) (fun c_14 => ?_)
          · skip
            refine lv_aload_n hx hb dX1_one_36 rfl (lv_at hl 0 rfl) ?_
            refine lv_iload_n hx hb dX1_one_37 rfl (lv_at hl 3 rfl) ?_
            refine lv_iconst (v := (-1)) hx hb dX1_one_38 (by decide) ?_
            refine lv_ixor hx hb dX1_one_39 ?_
            refine lv_i2l (v := ((p2 ^^^ (-1))).toInt64) hx hb dX1_one_40 rfl ?_
            refine mc_i (As := [.long ((p2 ^^^ (-1))).toInt64]) (rest := []) ⟨hx, hb, hml, hown, hts⟩ (cc_X1_whole l dC dI h0 h1 h2 cI cL _ (vk) (vn) (en) (nx) (vx) (vy) (vb) (((p2 ^^^ (-1))).toInt64)) 1 gX1_one_X1_whole rfl rfl rfl hdV_X1_whole ⟨Nat.le_of_ble_eq_true rfl, Nat.le_of_ble_eq_true rfl⟩ hP hD hK hS hA htb rfl hl.1 rfl (Nat.le_of_ble_eq_true rfl) dX1_one_41 ⟨Nat.zero_le _, Nat.zero_le _⟩ (fun H locs hP hD hS => ?_)
            have hP : va_P (dC, dI) vwCl (mW h0 h1 h2 cI cL ((f_X1_whole (vk) (vn) (((p2 ^^^ (-1))).toInt64)).2.1, (f_X1_whole (vk) (vn) (((p2 ^^^ (-1))).toInt64)).2.2, en, nx, vx, vy, vb)) H := hP
            have hD : va_D A (mW h0 h1 h2 cI cL ((f_X1_whole (vk) (vn) (((p2 ^^^ (-1))).toInt64)).2.1, (f_X1_whole (vk) (vn) (((p2 ^^^ (-1))).toInt64)).2.2, en, nx, vx, vy, vb)) := hD
            have hE : f_X1_one vk vn p0 p1 p2 = (f_X1_whole (vk) (vn) (((p2 ^^^ (-1))).toInt64)) := (by rw [f_X1_one, if_neg c_1, if_neg c_2, if_neg c_3, if_pos c_4, if_neg c_14])
            exact m_iret hx hb hr hlocks hP hD hK hS dX1_one_44 ⟨by rw [hE], by rw [hE]⟩
          · skip
            refine lv_bipush (v := (-4)) hx hb dX1_one_31 (by decide) ?_
            refine lv_goto (tgt := 44) hx hb dX1_one_33 (by decide) ?_
            have hE : f_X1_one vk vn p0 p1 p2 = ((-4), vk, vn) := (by rw [f_X1_one, if_neg c_1, if_neg c_2, if_neg c_3, if_pos c_4, if_pos c_14])
            exact m_iret hx hb hr hlocks hP hD hK hS dX1_one_44 ⟨by rw [hE], by rw [hE]⟩
      · skip
        refine lv_iconst (v := (-1)) hx hb dX1_one_18 (by decide) ?_
        have hE : f_X1_one vk vn p0 p1 p2 = ((-1), vk, vn) := (by rw [f_X1_one, if_neg c_1, if_neg c_2, if_pos c_3])
        exact m_iret hx hb hr hlocks hP hD hK hS dX1_one_19 ⟨by rw [hE], by rw [hE]⟩
theorem hdV_X1_kind : yX1_kind.cls = RX1 ∧ yX1_kind.cls ≠ "java/lang/invoke/MethodHandle" ∧ yX1_kind.cls ≠ "java/lang/invoke/VarHandle" ∧ (parseMethodDescriptor yX1_kind.desc).map (fun d => d.parameters.length) = some 0 := by decide +kernel
theorem fi_X1_kind : ∀ w ∈ wsX10, w ∈ wsX1_kind := fun _ h => List.mem_cons_of_mem _ (List.mem_append_right _ h)
def f_X1_kind (vk : Int32) : Int32 := vk
abbrev rm_X1_kind : Room := { frames := 0, cells := 0, slots := 0, locals := 0 }
set_option maxHeartbeats 4000000 in
set_option maxRecDepth 100000 in
theorem cc_X1_kind (l : Launch) (dC : Nat → ClassId) (dI : Nat → Nat → Nat) (h0 h1 h2 : Nat) (cI cL : ClassId) (sz : Nat) (vk vn : Int32) (en : Nat → Int32) (nx : Nat → Int64) (vx vy vb : Int32)    : Met l yX1_kind wsX1_kind rm_X1_kind (va_Pc [.ref h0] (mPre dC dI h0 h1 h2 cI cL sz (vk, vn, en, nx, vx, vy, vb))) (mQi dC dI h0 h1 h2 cI cL (va_A (mW h0 h1 h2 cI cL (vk, vn, en, nx, vx, vy, vb)) sz) ((f_X1_kind vk)) (vk, vn, en, nx, vx, vy, vb)) 0 0 (va_A (mW h0 h1 h2 cI cL (vk, vn, en, nx, vx, vy, vb)) sz) := by
  refine m_headi (cc := cX1_kind) (maxL := 1) (ret := some .int) (by decide) rfl rfl (Nat.le_of_ble_eq_true rfl) ?_
  intro p e s m below meth c ls A hx hb hr hlocks hml hown hts hA hP hD hK htb hS hl
  have hl : lv_has ls 1 [(0, .ref h0)] := hl
  refine lv_aload_n hx hb dX1_kind_0 rfl (lv_at hl 0 rfl) ?_
  refine va_get (D := (dC, dI)) (ci := 1) (v := .int vk) (C := RX1) (T := TX1) (N := 7) hx hb hts fi_X1_kind hown hK hP 0 rfl rfl 0 (by decide) (hts (.fieldLink RX1 9 "FixedPlaneModel" "kind" "I") (by decide +kernel)) (fun _ h9 => h9) rfl dX1_kind_1 ?_
  have hE : f_X1_kind vk = vk := (by rw [f_X1_kind])
  exact m_iret hx hb hr hlocks hP hD hK hS dX1_kind_4 ⟨hE.symm, rfl⟩
theorem hdV_X1_number : yX1_number.cls = RX1 ∧ yX1_number.cls ≠ "java/lang/invoke/MethodHandle" ∧ yX1_number.cls ≠ "java/lang/invoke/VarHandle" ∧ (parseMethodDescriptor yX1_number.desc).map (fun d => d.parameters.length) = some 0 := by decide +kernel
theorem fi_X1_number : ∀ w ∈ wsX10, w ∈ wsX1_number := fun _ h => List.mem_cons_of_mem _ (List.mem_append_right _ h)
def f_X1_number (vn : Int32) : Int32 := vn
abbrev rm_X1_number : Room := { frames := 0, cells := 0, slots := 0, locals := 0 }
set_option maxHeartbeats 4000000 in
set_option maxRecDepth 100000 in
theorem cc_X1_number (l : Launch) (dC : Nat → ClassId) (dI : Nat → Nat → Nat) (h0 h1 h2 : Nat) (cI cL : ClassId) (sz : Nat) (vk vn : Int32) (en : Nat → Int32) (nx : Nat → Int64) (vx vy vb : Int32)    : Met l yX1_number wsX1_number rm_X1_number (va_Pc [.ref h0] (mPre dC dI h0 h1 h2 cI cL sz (vk, vn, en, nx, vx, vy, vb))) (mQi dC dI h0 h1 h2 cI cL (va_A (mW h0 h1 h2 cI cL (vk, vn, en, nx, vx, vy, vb)) sz) ((f_X1_number vn)) (vk, vn, en, nx, vx, vy, vb)) 0 0 (va_A (mW h0 h1 h2 cI cL (vk, vn, en, nx, vx, vy, vb)) sz) := by
  refine m_headi (cc := cX1_number) (maxL := 1) (ret := some .int) (by decide) rfl rfl (Nat.le_of_ble_eq_true rfl) ?_
  intro p e s m below meth c ls A hx hb hr hlocks hml hown hts hA hP hD hK htb hS hl
  have hl : lv_has ls 1 [(0, .ref h0)] := hl
  refine lv_aload_n hx hb dX1_number_0 rfl (lv_at hl 0 rfl) ?_
  refine va_get (D := (dC, dI)) (ci := 1) (v := .int vn) (C := RX1) (T := TX1) (N := 7) hx hb hts fi_X1_number hown hK hP 0 rfl rfl 1 (by decide) (hts (.fieldLink RX1 29 "FixedPlaneModel" "number" "I") (by decide +kernel)) (fun _ h9 => h9) rfl dX1_number_1 ?_
  have hE : f_X1_number vn = vn := (by rw [f_X1_number])
  exact m_iret hx hb hr hlocks hP hD hK hS dX1_number_4 ⟨hE.symm, rfl⟩
theorem hdV_X1_compare : yX1_compare.cls = RX1 ∧ yX1_compare.cls ≠ "java/lang/invoke/MethodHandle" ∧ yX1_compare.cls ≠ "java/lang/invoke/VarHandle" ∧ (parseMethodDescriptor yX1_compare.desc).map (fun d => d.parameters.length) = some 4 := by decide +kernel
def f_X1_compare (p0 : Int32) (p1 : Int32) (p2 : Int32) (p3 : Int32) : Int32 := if (f_X1_isValue (p0) (p1)) = 0 then ((-1)) else (if (f_X1_isValue (p2) (p3)) = 0 then ((-1)) else (if (f_X1_units (p0) (p1)) < (f_X1_units (p2) (p3)) then (0) else (if (f_X1_units (p0) (p1)) = (f_X1_units (p2) (p3)) then (1) else (2))))
abbrev rm_X1_compare : Room := { frames := 1, cells := 0, slots := 0, locals := 37 }
set_option maxHeartbeats 4000000 in
set_option maxRecDepth 100000 in
theorem cc_X1_compare (l : Launch) (dC : Nat → ClassId) (dI : Nat → Nat → Nat) (h0 h1 h2 : Nat) (cI cL : ClassId) (sz : Nat) (vk vn : Int32) (en : Nat → Int32) (nx : Nat → Int64) (vx vy vb : Int32) (p0 : Int32) (p1 : Int32) (p2 : Int32) (p3 : Int32)   : Met l yX1_compare wsX1_compare rm_X1_compare (va_Pc [.ref h0, .int p0, .int p1, .int p2, .int p3] (mPre dC dI h0 h1 h2 cI cL sz (vk, vn, en, nx, vx, vy, vb))) (mQi dC dI h0 h1 h2 cI cL (va_A (mW h0 h1 h2 cI cL (vk, vn, en, nx, vx, vy, vb)) sz) ((f_X1_compare p0 p1 p2 p3)) (vk, vn, en, nx, vx, vy, vb)) 0 0 (va_A (mW h0 h1 h2 cI cL (vk, vn, en, nx, vx, vy, vb)) sz) := by
  refine m_headi (cc := cX1_compare) (maxL := 9) (ret := some .int) (by decide) rfl rfl (Nat.le_of_ble_eq_true rfl) ?_
  intro p e s m below meth c ls A hx hb hr hlocks hml hown hts hA hP hD hK htb hS hl
  have hl : lv_has ls 9 [(0, .ref h0), (1, .int p0), (2, .int p1), (3, .int p2), (4, .int p3)] := hl
  refine lv_iload_n hx hb dX1_compare_0 rfl (lv_at hl 1 rfl) ?_
  refine lv_iload_n hx hb dX1_compare_1 rfl (lv_at hl 2 rfl) ?_
  refine pu_Si (As := [.int p0, .int p1]) (rest := []) ⟨hx, hb, hml, hown, hts⟩ (cc_X1_isValue l _ (p0) (p1)) 2 gX1_compare_X1_isValue rfl rfl rfl hdS_X1_isValue ⟨Nat.le_of_ble_eq_true rfl, Nat.le_of_ble_eq_true rfl⟩ kN_ok kN_at rfl hl.1 rfl (Nat.le_of_ble_eq_true rfl) dX1_compare_2 ⟨Nat.zero_le _, Nat.zero_le _⟩ ?_
  refine lv_if_eq (tgt := 17) hx hb dX1_compare_5 (by decide) (fun c_1 => ?_) (fun c_1 => ?_)
  · skip
    refine lv_iconst (v := (-1)) hx hb dX1_compare_17 (by decide) ?_
    have hE : f_X1_compare p0 p1 p2 p3 = (-1) := (by rw [f_X1_compare, if_pos c_1])
    exact m_iret hx hb hr hlocks hP hD hK hS dX1_compare_18 ⟨hE.symm, rfl⟩
  · skip
    refine lv_iload_n hx hb dX1_compare_8 rfl (lv_at hl 3 rfl) ?_
    refine lv_iload hx hb dX1_compare_9 (lv_at hl 4 rfl) ?_
    refine pu_Si (As := [.int p2, .int p3]) (rest := []) ⟨hx, hb, hml, hown, hts⟩ (cc_X1_isValue l _ (p2) (p3)) 2 gX1_compare_X1_isValue rfl rfl rfl hdS_X1_isValue ⟨Nat.le_of_ble_eq_true rfl, Nat.le_of_ble_eq_true rfl⟩ kN_ok kN_at rfl hl.1 rfl (Nat.le_of_ble_eq_true rfl) dX1_compare_11 ⟨Nat.zero_le _, Nat.zero_le _⟩ ?_
    refine lv_if_ne (tgt := 19) hx hb dX1_compare_14 (by decide) (fun c_2 => ?_) (fun c_2 => ?_)
    · skip
      refine lv_iload_n hx hb dX1_compare_19 rfl (lv_at hl 1 rfl) ?_
      refine lv_iload_n hx hb dX1_compare_20 rfl (lv_at hl 2 rfl) ?_
      refine pu_Sl (As := [.int p0, .int p1]) (rest := []) ⟨hx, hb, hml, hown, hts⟩ (cc_X1_units l _ (p0) (p1)) 2 gX1_compare_X1_units rfl rfl rfl hdS_X1_units ⟨Nat.le_of_ble_eq_true rfl, Nat.le_of_ble_eq_true rfl⟩ kN_ok kN_at rfl hl.1 rfl (Nat.le_of_ble_eq_true rfl) dX1_compare_21 ⟨Nat.zero_le _, Nat.zero_le _⟩ ?_
      refine lv_lstore (lv' := [(5, .long (f_X1_units (p0) (p1))), (0, .ref h0), (1, .int p0), (2, .int p1), (3, .int p2), (4, .int p3)]) hx hb dX1_compare_24 hl (by decide) rfl (fun ls hl => ?_)
      refine lv_iload_n hx hb dX1_compare_26 rfl (lv_at hl 4 rfl) ?_
      refine lv_iload hx hb dX1_compare_27 (lv_at hl 5 rfl) ?_
      refine pu_Sl (As := [.int p2, .int p3]) (rest := []) ⟨hx, hb, hml, hown, hts⟩ (cc_X1_units l _ (p2) (p3)) 2 gX1_compare_X1_units rfl rfl rfl hdS_X1_units ⟨Nat.le_of_ble_eq_true rfl, Nat.le_of_ble_eq_true rfl⟩ kN_ok kN_at rfl hl.1 rfl (Nat.le_of_ble_eq_true rfl) dX1_compare_29 ⟨Nat.zero_le _, Nat.zero_le _⟩ ?_
      refine lv_lstore (lv' := [(7, .long (f_X1_units (p2) (p3))), (5, .long (f_X1_units (p0) (p1))), (0, .ref h0), (1, .int p0), (2, .int p1), (3, .int p2), (4, .int p3)]) hx hb dX1_compare_32 hl (by decide) rfl (fun ls hl => ?_)
      refine lv_lload hx hb dX1_compare_34 (lv_at hl 1 rfl) ?_
      refine lv_lload hx hb dX1_compare_36 (lv_at hl 0 rfl) ?_
      refine pl_ge (tgt := 46) hx hb dX1_compare_38 dX1_compare_39 (by decide) (fun c_3 => ?_) (fun c_3 => ?_)
      · skip
        refine lv_lload hx hb dX1_compare_46 (lv_at hl 1 rfl) ?_
        refine lv_lload hx hb dX1_compare_48 (lv_at hl 0 rfl) ?_
        refine pl_ne (tgt := 58) hx hb dX1_compare_50 dX1_compare_51 (by decide) (fun c_4 => ?_) (fun c_4 => ?_)
        · skip
          refine lv_iconst (v := 2) hx hb dX1_compare_58 (by decide) ?_
          have hE : f_X1_compare p0 p1 p2 p3 = 2 := (by rw [f_X1_compare, if_neg c_1, if_neg c_2, if_neg c_3, if_neg c_4])
          exact m_iret hx hb hr hlocks hP hD hK hS dX1_compare_59 ⟨hE.symm, rfl⟩
        · skip
          refine lv_iconst (v := 1) hx hb dX1_compare_54 (by decide) ?_
          refine lv_goto (tgt := 59) hx hb dX1_compare_55 (by decide) ?_
          have hE : f_X1_compare p0 p1 p2 p3 = 1 := (by rw [f_X1_compare, if_neg c_1, if_neg c_2, if_neg c_3, if_pos c_4])
          exact m_iret hx hb hr hlocks hP hD hK hS dX1_compare_59 ⟨hE.symm, rfl⟩
      · skip
        refine lv_iconst (v := 0) hx hb dX1_compare_42 (by decide) ?_
        refine lv_goto (tgt := 59) hx hb dX1_compare_43 (by decide) ?_
        have hE : f_X1_compare p0 p1 p2 p3 = 0 := (by rw [f_X1_compare, if_neg c_1, if_neg c_2, if_pos c_3])
        exact m_iret hx hb hr hlocks hP hD hK hS dX1_compare_59 ⟨hE.symm, rfl⟩
    · skip
      refine lv_iconst (v := (-1)) hx hb dX1_compare_17 (by decide) ?_
      have hE : f_X1_compare p0 p1 p2 p3 = (-1) := (by rw [f_X1_compare, if_neg c_1, if_pos c_2])
      exact m_iret hx hb hr hlocks hP hD hK hS dX1_compare_18 ⟨hE.symm, rfl⟩
