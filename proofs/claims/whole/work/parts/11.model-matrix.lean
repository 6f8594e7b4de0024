theorem hdV_X1_matrix : yX1_matrix.cls = RX1 ∧ yX1_matrix.cls ≠ "java/lang/invoke/MethodHandle" ∧ yX1_matrix.cls ≠ "java/lang/invoke/VarHandle" ∧ (parseMethodDescriptor yX1_matrix.desc).map (fun d => d.parameters.length) = some 6 := by decide +kernel
theorem fi_X1_matrix : ∀ w ∈ wsX10, w ∈ wsX1_matrix := fun _ h => List.mem_cons_of_mem _ (List.mem_append_right _ h)
def f_X1_matrix (en : Nat → Int32) (p0 : Int32) (p1 : Int32) (p2 : Int32) (p3 : Int32) (p4 : Int32) (p5 : Int32) : Int32 × (Nat → Int32) := if (f_X1_areBad (p0) (p1) (p2) (p3) (p4) (p5)) = 0 then ((1, (upd (upd (upd (upd (upd (upd en 0 p0) 1 p1) 2 p2) 3 p3) 4 p4) 5 p5))) else ((0, en))
abbrev rm_X1_matrix : Room := { frames := 2, cells := 0, slots := 0, locals := 77 }
set_option maxHeartbeats 4000000 in
set_option maxRecDepth 100000 in
theorem cc_X1_matrix (l : Launch) (dC : Nat → ClassId) (dI : Nat → Nat → Nat) (h0 h1 h2 : Nat) (cI cL : ClassId) (sz : Nat) (vk vn : Int32) (en : Nat → Int32) (nx : Nat → Int64) (vx vy vb : Int32) (p0 : Int32) (p1 : Int32) (p2 : Int32) (p3 : Int32) (p4 : Int32) (p5 : Int32)   : Met l yX1_matrix wsX1_matrix rm_X1_matrix (va_Pc [.ref h0, .int p0, .int p1, .int p2, .int p3, .int p4, .int p5] (mPre dC dI h0 h1 h2 cI cL sz (vk, vn, en, nx, vx, vy, vb))) (mQi dC dI h0 h1 h2 cI cL (va_A (mW h0 h1 h2 cI cL (vk, vn, en, nx, vx, vy, vb)) sz) ((f_X1_matrix en p0 p1 p2 p3 p4 p5).1) (vk, vn, (f_X1_matrix en p0 p1 p2 p3 p4 p5).2, nx, vx, vy, vb)) 0 0 (va_A (mW h0 h1 h2 cI cL (vk, vn, en, nx, vx, vy, vb)) sz) := by
  refine m_headi (cc := cX1_matrix) (maxL := 7) (ret := some .boolean) (by decide) rfl rfl (Nat.le_of_ble_eq_true rfl) ?_
  intro p e s m below meth c ls A hx hb hr hlocks hml hown hts hA hP hD hK htb hS hl
  have hl : lv_has ls 7 [(0, .ref h0), (1, .int p0), (2, .int p1), (3, .int p2), (4, .int p3), (5, .int p4), (6, .int p5)] := hl
  refine lv_iload_n hx hb dX1_matrix_0 rfl (lv_at hl 1 rfl) ?_
  refine lv_iload_n hx hb dX1_matrix_1 rfl (lv_at hl 2 rfl) ?_
  refine lv_iload_n hx hb dX1_matrix_2 rfl (lv_at hl 3 rfl) ?_
  refine lv_iload hx hb dX1_matrix_3 (lv_at hl 4 rfl) ?_
  refine lv_iload hx hb dX1_matrix_5 (lv_at hl 5 rfl) ?_
  refine lv_iload hx hb dX1_matrix_7 (lv_at hl 6 rfl) ?_
  refine pu_Si (As := [.int p0, .int p1, .int p2, .int p3, .int p4, .int p5]) (rest := []) ⟨hx, hb, hml, hown, hts⟩ (cc_X1_areBad l _ (p0) (p1) (p2) (p3) (p4) (p5)) 6 gX1_matrix_X1_areBad rfl rfl rfl hdS_X1_areBad ⟨Nat.le_of_ble_eq_true rfl, Nat.le_of_ble_eq_true rfl⟩ kN_ok kN_at rfl hl.1 rfl (Nat.le_of_ble_eq_true rfl) dX1_matrix_9 ⟨Nat.zero_le _, Nat.zero_le _⟩ ?_
  refine lv_if_eq (tgt := 17) hx hb dX1_matrix_12 (by decide) (fun c_1 => ?_) (fun c_1 => ?_)
  · skip
    refine lv_aload_n hx hb dX1_matrix_17 rfl (lv_at hl 0 rfl) ?_
    refine va_get (D := (dC, dI)) (ci := 1) (v := .ref h1) (C := RX1) (T := TX1) (N := 7) hx hb hts fi_X1_matrix hown hK hP 0 rfl rfl 2 (by decide) (hts (.fieldLink RX1 13 "FixedPlaneModel" "entries" "[I") (by decide +kernel)) (fun _ h9 => h9) rfl dX1_matrix_18 ?_
    refine lv_iconst (v := 0) hx hb dX1_matrix_21 (by decide) ?_
    refine lv_iload_n hx hb dX1_matrix_22 rfl (lv_at hl 1 rfl) ?_
    refine va_iast hx hb hK hP hD hS 1 0 rfl rfl (vp_in_iff.mpr (by decide)) dX1_matrix_23 (fun H locs hP hD hS => ?_)
    have hP : va_P (dC, dI) vwCl (mW h0 h1 h2 cI cL (vk, vn, (upd en 0 p0), nx, vx, vy, vb)) H := hP
    have hD : va_D A (mW h0 h1 h2 cI cL (vk, vn, (upd en 0 p0), nx, vx, vy, vb)) := hD
    refine lv_aload_n hx hb dX1_matrix_24 rfl (lv_at hl 0 rfl) ?_
    refine va_get (D := (dC, dI)) (ci := 1) (v := .ref h1) (C := RX1) (T := TX1) (N := 7) hx hb hts fi_X1_matrix hown hK hP 0 rfl rfl 2 (by decide) (hts (.fieldLink RX1 13 "FixedPlaneModel" "entries" "[I") (by decide +kernel)) (fun _ h9 => h9) rfl dX1_matrix_25 ?_
    refine lv_iconst (v := 1) hx hb dX1_matrix_28 (by decide) ?_
    refine lv_iload_n hx hb dX1_matrix_29 rfl (lv_at hl 2 rfl) ?_
    refine va_iast hx hb hK hP hD hS 1 0 rfl rfl (vp_in_iff.mpr (by decide)) dX1_matrix_30 (fun H locs hP hD hS => ?_)
    have hP : va_P (dC, dI) vwCl (mW h0 h1 h2 cI cL (vk, vn, (upd (upd en 0 p0) 1 p1), nx, vx, vy, vb)) H := hP
    have hD : va_D A (mW h0 h1 h2 cI cL (vk, vn, (upd (upd en 0 p0) 1 p1), nx, vx, vy, vb)) := hD
    refine lv_aload_n hx hb dX1_matrix_31 rfl (lv_at hl 0 rfl) ?_
    refine va_get (D := (dC, dI)) (ci := 1) (v := .ref h1) (C := RX1) (T := TX1) (N := 7) hx hb hts fi_X1_matrix hown hK hP 0 rfl rfl 2 (by decide) (hts (.fieldLink RX1 13 "FixedPlaneModel" "entries" "[I") (by decide +kernel)) (fun _ h9 => h9) rfl dX1_matrix_32 ?_
    refine lv_iconst (v := 2) hx hb dX1_matrix_35 (by decide) ?_
    refine lv_iload_n hx hb dX1_matrix_36 rfl (lv_at hl 3 rfl) ?_
    refine va_iast hx hb hK hP hD hS 1 0 rfl rfl (vp_in_iff.mpr (by decide)) dX1_matrix_37 (fun H locs hP hD hS => ?_)
    have hP : va_P (dC, dI) vwCl (mW h0 h1 h2 cI cL (vk, vn, (upd (upd (upd en 0 p0) 1 p1) 2 p2), nx, vx, vy, vb)) H := hP
    have hD : va_D A (mW h0 h1 h2 cI cL (vk, vn, (upd (upd (upd en 0 p0) 1 p1) 2 p2), nx, vx, vy, vb)) := hD
    refine lv_aload_n hx hb dX1_matrix_38 rfl (lv_at hl 0 rfl) ?_
    refine va_get (D := (dC, dI)) (ci := 1) (v := .ref h1) (C := RX1) (T := TX1) (N := 7) hx hb hts fi_X1_matrix hown hK hP 0 rfl rfl 2 (by decide) (hts (.fieldLink RX1 13 "FixedPlaneModel" "entries" "[I") (by decide +kernel)) (fun _ h9 => h9) rfl dX1_matrix_39 ?_
    refine lv_iconst (v := 3) hx hb dX1_matrix_42 (by decide) ?_
    refine lv_iload hx hb dX1_matrix_43 (lv_at hl 4 rfl) ?_
    refine va_iast hx hb hK hP hD hS 1 0 rfl rfl (vp_in_iff.mpr (by decide)) dX1_matrix_45 (fun H locs hP hD hS => ?_)
    have hP : va_P (dC, dI) vwCl (mW h0 h1 h2 cI cL (vk, vn, (upd (upd (upd (upd en 0 p0) 1 p1) 2 p2) 3 p3), nx, vx, vy, vb)) H := hP
    have hD : va_D A (mW h0 h1 h2 cI cL (vk, vn, (upd (upd (upd (upd en 0 p0) 1 p1) 2 p2) 3 p3), nx, vx, vy, vb)) := hD
    refine lv_aload_n hx hb dX1_matrix_46 rfl (lv_at hl 0 rfl) ?_
    refine va_get (D := (dC, dI)) (ci := 1) (v := .ref h1) (C := RX1) (T := TX1) (N := 7) hx hb hts fi_X1_matrix hown hK hP 0 rfl rfl 2 (by decide) (hts (.fieldLink RX1 13 "FixedPlaneModel" "entries" "[I") (by decide +kernel)) (fun _ h9 => h9) rfl dX1_matrix_47 ?_
    refine lv_iconst (v := 4) hx hb dX1_matrix_50 (by decide) ?_
    refine lv_iload hx hb dX1_matrix_51 (lv_at hl 5 rfl) ?_
    refine va_iast hx hb hK hP hD hS 1 0 rfl rfl (vp_in_iff.mpr (by decide)) dX1_matrix_53 (fun H locs hP hD hS => ?_)
    have hP : va_P (dC, dI) vwCl (mW h0 h1 h2 cI cL (vk, vn, (upd (upd (upd (upd (upd en 0 p0) 1 p1) 2 p2) 3 p3) 4 p4), nx, vx, vy, vb)) H := hP
    have hD : va_D A (mW h0 h1 h2 cI cL (vk, vn, (upd (upd (upd (upd (upd en 0 p0) 1 p1) 2 p2) 3 p3) 4 p4), nx, vx, vy, vb)) := hD
    refine lv_aload_n hx hb dX1_matrix_54 rfl (lv_at hl 0 rfl) ?_
    refine va_get (D := (dC, dI)) (ci := 1) (v := .ref h1) (C := RX1) (T := TX1) (N := 7) hx hb hts fi_X1_matrix hown hK hP 0 rfl rfl 2 (by decide) (hts (.fieldLink RX1 13 "FixedPlaneModel" "entries" "[I") (by decide +kernel)) (fun _ h9 => h9) rfl dX1_matrix_55 ?_
    refine lv_iconst (v := 5) hx hb dX1_matrix_58 (by decide) ?_
    refine lv_iload hx hb dX1_matrix_59 (lv_at hl 6 rfl) ?_
    refine va_iast hx hb hK hP hD hS 1 0 rfl rfl (vp_in_iff.mpr (by decide)) dX1_matrix_61 (fun H locs hP hD hS => ?_)
    have hP : va_P (dC, dI) vwCl (mW h0 h1 h2 cI cL (vk, vn, (upd (upd (upd (upd (upd (upd en 0 p0) 1 p1) 2 p2) 3 p3) 4 p4) 5 p5), nx, vx, vy, vb)) H := hP
    have hD : va_D A (mW h0 h1 h2 cI cL (vk, vn, (upd (upd (upd (upd (upd (upd en 0 p0) 1 p1) 2 p2) 3 p3) 4 p4) 5 p5), nx, vx, vy, vb)) := hD
    refine lv_iconst (v := 1) hx hb dX1_matrix_62 (by decide) ?_
    have hE : f_X1_matrix en p0 p1 p2 p3 p4 p5 = (1, (upd (upd (upd (upd (upd (upd en 0 p0) 1 p1) 2 p2) 3 p3) 4 p4) 5 p5)) := (by rw [f_X1_matrix, if_pos c_1])
    exact m_zret hx hb hr hlocks hP hD hK hS dX1_matrix_63 rfl ⟨by rw [hE], by rw [hE]⟩
  · skip
    refine lv_iconst (v := 0) hx hb dX1_matrix_15 (by decide) ?_
    have hE : f_X1_matrix en p0 p1 p2 p3 p4 p5 = (0, en) := (by rw [f_X1_matrix, if_neg c_1])
    exact m_zret hx hb hr hlocks hP hD hK hS dX1_matrix_16 rfl ⟨by rw [hE], by rw [hE]⟩
theorem hdV_X1_entry : yX1_entry.cls = RX1 ∧ yX1_entry.cls ≠ "java/lang/invoke/MethodHandle" ∧ yX1_entry.cls ≠ "java/lang/invoke/VarHandle" ∧ (parseMethodDescriptor yX1_entry.desc).map (fun d => d.parameters.length) = some 1 := by decide +kernel
theorem fi_X1_entry : ∀ w ∈ wsX10, w ∈ wsX1_entry := fun _ h => List.mem_cons_of_mem _ (List.mem_append_right _ h)
def f_X1_entry (en : Nat → Int32) (p0 : Int32) : Int32 := if p0 < 0 then (0) else (if p0 < 6 then ((en (p0).toNatClampNeg)) else (0))
abbrev rm_X1_entry : Room := { frames := 0, cells := 0, slots := 0, locals := 0 }
set_option maxHeartbeats 4000000 in
set_option maxRecDepth 100000 in
theorem cc_X1_entry (l : Launch) (dC : Nat → ClassId) (dI : Nat → Nat → Nat) (h0 h1 h2 : Nat) (cI cL : ClassId) (sz : Nat) (vk vn : Int32) (en : Nat → Int32) (nx : Nat → Int64) (vx vy vb : Int32) (p0 : Int32)   : Met l yX1_entry wsX1_entry rm_X1_entry (va_Pc [.ref h0, .int p0] (mPre dC dI h0 h1 h2 cI cL sz (vk, vn, en, nx, vx, vy, vb))) (mQi dC dI h0 h1 h2 cI cL (va_A (mW h0 h1 h2 cI cL (vk, vn, en, nx, vx, vy, vb)) sz) ((f_X1_entry en p0)) (vk, vn, en, nx, vx, vy, vb)) 0 0 (va_A (mW h0 h1 h2 cI cL (vk, vn, en, nx, vx, vy, vb)) sz) := by
  refine m_headi (cc := cX1_entry) (maxL := 2) (ret := some .int) (by decide) rfl rfl (Nat.le_of_ble_eq_true rfl) ?_
  intro p e s m below meth c ls A hx hb hr hlocks hml hown hts hA hP hD hK htb hS hl
  have hl : lv_has ls 2 [(0, .ref h0), (1, .int p0)] := hl
  refine lv_iload_n hx hb dX1_entry_0 rfl (lv_at hl 1 rfl) ?_
  refine lv_if_lt (tgt := 19) hx hb dX1_entry_1 (by decide) (fun c_1 => ?_) (fun c_1 => ?_)
  · skip
    refine lv_iconst (v := 0) hx hb dX1_entry_19 (by decide) ?_
    have hE : f_X1_entry en p0 = 0 := (by rw [f_X1_entry, if_pos c_1])
    exact m_iret hx hb hr hlocks hP hD hK hS dX1_entry_20 ⟨hE.symm, rfl⟩
  · skip
    refine lv_iload_n hx hb dX1_entry_4 rfl (lv_at hl 1 rfl) ?_
    refine lv_bipush (v := 6) hx hb dX1_entry_5 (by decide) ?_
    refine pi_ge (tgt := 19) hx hb dX1_entry_7 (by decide) (fun c_2 => ?_) (fun c_2 => ?_)
    · skip
      refine lv_iconst (v := 0) hx hb dX1_entry_19 (by decide) ?_
      have hE : f_X1_entry en p0 = 0 := (by rw [f_X1_entry, if_neg c_1, if_neg c_2])
      exact m_iret hx hb hr hlocks hP hD hK hS dX1_entry_20 ⟨hE.symm, rfl⟩
    · skip
      refine lv_aload_n hx hb dX1_entry_10 rfl (lv_at hl 0 rfl) ?_
      refine va_get (D := (dC, dI)) (ci := 1) (v := .ref h1) (C := RX1) (T := TX1) (N := 7) hx hb hts fi_X1_entry hown hK hP 0 rfl rfl 2 (by decide) (hts (.fieldLink RX1 13 "FixedPlaneModel" "entries" "[I") (by decide +kernel)) (fun _ h9 => h9) rfl dX1_entry_11 ?_
      refine lv_iload_n hx hb dX1_entry_14 rfl (lv_at hl 1 rfl) ?_
      refine pm_iald hx hb hK hP 1 0 rfl rfl (v := (en (p0).toNatClampNeg)) (en_ix c_1 c_2) (rfl) dX1_entry_15 ?_
      refine lv_goto (tgt := 20) hx hb dX1_entry_16 (by decide) ?_
      have hE : f_X1_entry en p0 = (en (p0).toNatClampNeg) := (by rw [f_X1_entry, if_neg c_1, if_pos c_2])
      exact m_iret hx hb hr hlocks hP hD hK hS dX1_entry_20 ⟨hE.symm, rfl⟩
theorem hdV_X1_moving : yX1_moving.cls = RX1 ∧ yX1_moving.cls ≠ "java/lang/invoke/MethodHandle" ∧ yX1_moving.cls ≠ "java/lang/invoke/VarHandle" ∧ (parseMethodDescriptor yX1_moving.desc).map (fun d => d.parameters.length) = some 4 := by decide +kernel
theorem fi_X1_moving : ∀ w ∈ wsX10, w ∈ wsX1_moving := fun _ h => List.mem_cons_of_mem _ (List.mem_append_right _ h)
def f_X1_moving_0 (en : Nat → Int32) (p0 : Int64) (p1 : Int64) (p3 : Int32) : Int64 := if p3 = 0 then ((f_X1_rounded (((p0 * ((en 0)).toInt64) + (p1 * ((en 2)).toInt64))))) else (((f_X1_rounded (((p0 * ((en 0)).toInt64) + (p1 * ((en 2)).toInt64)))) + ((en 4)).toInt64))
abbrev rm_X1_moving_0 : Room := { frames := 2, cells := 0, slots := 0, locals := 78 }
set_option maxHeartbeats 4000000 in
set_option maxRecDepth 100000 in
theorem cc_X1_moving_0 (l : Launch) (dC : Nat → ClassId) (dI : Nat → Nat → Nat) (h0 h1 h2 : Nat) (cI cL : ClassId) (sz : Nat) (vk vn : Int32) (en : Nat → Int32) (nx : Nat → Int64) (vx vy vb : Int32) (p0 : Int64) (p1 : Int64) (p3 : Int32)   : Met l yX1_moving wsX1_moving rm_X1_moving_0 (va_Pc [.ref h0, .long p0, .long p1, .int 0, .int p3] (mPre dC dI h0 h1 h2 cI cL sz (vk, vn, en, nx, vx, vy, vb))) (mQl dC dI h0 h1 h2 cI cL (va_A (mW h0 h1 h2 cI cL (vk, vn, en, nx, vx, vy, vb)) sz) ((f_X1_moving_0 en p0 p1 p3)) (vk, vn, en, nx, vx, vy, vb)) 0 0 (va_A (mW h0 h1 h2 cI cL (vk, vn, en, nx, vx, vy, vb)) sz) := by
  refine m_headl (cc := cX1_moving) (maxL := 9) (ret := some .long) (by decide) rfl rfl (Nat.le_of_ble_eq_true rfl) ?_
  intro p e s m below meth c ls A hx hb hr hlocks hml hown hts hA hP hD hK htb hS hl
  have hl : lv_has ls 9 [(0, .ref h0), (1, .long p0), (3, .long p1), (5, .int 0), (6, .int p3)] := hl
  refine lv_lload_n hx hb dX1_moving_0 rfl (lv_at hl 1 rfl) ?_
  refine lv_aload_n hx hb dX1_moving_1 rfl (lv_at hl 0 rfl) ?_
  refine va_get (D := (dC, dI)) (ci := 1) (v := .ref h1) (C := RX1) (T := TX1) (N := 7) hx hb hts fi_X1_moving hown hK hP 0 rfl rfl 2 (by decide) (hts (.fieldLink RX1 13 "FixedPlaneModel" "entries" "[I") (by decide +kernel)) (fun _ h9 => h9) rfl dX1_moving_2 ?_
  refine lv_iload hx hb dX1_moving_5 (lv_at hl 3 rfl) ?_
  refine pm_iald hx hb hK hP 1 0 rfl rfl (v := (en 0)) (vp_in_iff.mpr (by decide)) (rfl) dX1_moving_7 ?_
  refine lv_i2l (v := ((en 0)).toInt64) hx hb dX1_moving_8 rfl ?_
  refine lv_lmul hx hb dX1_moving_9 ?_
  refine lv_lload_n hx hb dX1_moving_10 rfl (lv_at hl 2 rfl) ?_
  refine lv_aload_n hx hb dX1_moving_11 rfl (lv_at hl 0 rfl) ?_
  refine va_get (D := (dC, dI)) (ci := 1) (v := .ref h1) (C := RX1) (T := TX1) (N := 7) hx hb hts fi_X1_moving hown hK hP 0 rfl rfl 2 (by decide) (hts (.fieldLink RX1 13 "FixedPlaneModel" "entries" "[I") (by decide +kernel)) (fun _ h9 => h9) rfl dX1_moving_12 ?_
  refine lv_iconst (v := 2) hx hb dX1_moving_15 (by decide) ?_
  refine lv_iload hx hb dX1_moving_16 (lv_at hl 3 rfl) ?_
  refine lv_iadd hx hb dX1_moving_18 ?_
  refine lv_topi (fun v_1 e_2 => ?_)
  have e_2 : v_1 = (2 : Int32) := e_2.trans (by decide)
  subst e_2
  refine pm_iald hx hb hK hP 1 0 rfl rfl (v := (en 2)) (vp_in_iff.mpr (by decide)) (rfl) dX1_moving_19 ?_
  refine lv_i2l (v := ((en 2)).toInt64) hx hb dX1_moving_20 rfl ?_
  refine lv_lmul hx hb dX1_moving_21 ?_
  refine lv_ladd hx hb dX1_moving_22 ?_
  refine pu_Sl (As := [.long ((p0 * ((en 0)).toInt64) + (p1 * ((en 2)).toInt64))]) (rest := []) ⟨hx, hb, hml, hown, hts⟩ (cc_X1_rounded l _ (((p0 * ((en 0)).toInt64) + (p1 * ((en 2)).toInt64)))) 1 gX1_moving_X1_rounded rfl rfl rfl hdS_X1_rounded ⟨Nat.le_of_ble_eq_true rfl, Nat.le_of_ble_eq_true rfl⟩ kN_ok kN_at rfl hl.1 rfl (Nat.le_of_ble_eq_true rfl) dX1_moving_23 ⟨Nat.zero_le _, Nat.zero_le _⟩ ?_
  refine lv_lstore (lv' := [(7, .long (f_X1_rounded (((p0 * ((en 0)).toInt64) + (p1 * ((en 2)).toInt64))))), (0, .ref h0), (1, .long p0), (3, .long p1), (5, .int 0), (6, .int p3)]) hx hb dX1_moving_26 hl (by decide) rfl (fun ls hl => ?_)
  refine lv_iload hx hb dX1_moving_28 (lv_at hl 5 rfl) ?_
  refine lv_if_eq (tgt := 49) hx hb dX1_moving_30 (by decide) (fun c_3 => ?_) (fun c_3 => ?_)
  · skip
    refine lv_lload hx hb dX1_moving_49 (lv_at hl 0 rfl) ?_
    have hE : f_X1_moving_0 en p0 p1 p3 = (f_X1_rounded (((p0 * ((en 0)).toInt64) + (p1 * ((en 2)).toInt64)))) := (by rw [f_X1_moving_0, if_pos c_3])
    exact m_lret hx hb hr hlocks hP hD hK hS dX1_moving_51 ⟨hE.symm, rfl⟩
  · skip
    refine lv_lload hx hb dX1_moving_33 (lv_at hl 0 rfl) ?_
    refine lv_aload_n hx hb dX1_moving_35 rfl (lv_at hl 1 rfl) ?_
    refine va_get (D := (dC, dI)) (ci := 1) (v := .ref h1) (C := RX1) (T := TX1) (N := 7) hx hb hts fi_X1_moving hown hK hP 0 rfl rfl 2 (by decide) (hts (.fieldLink RX1 13 "FixedPlaneModel" "entries" "[I") (by decide +kernel)) (fun _ h9 => h9) rfl dX1_moving_36 ?_
    refine lv_iconst (v := 4) hx hb dX1_moving_39 (by decide) ?_
    refine lv_iload hx hb dX1_moving_40 (lv_at hl 4 rfl) ?_
    refine lv_iadd hx hb dX1_moving_42 ?_
    refine lv_topi (fun v_4 e_5 => ?_)
    have e_5 : v_4 = (4 : Int32) := e_5.trans (by decide)
    subst e_5
    refine pm_iald hx hb hK hP 1 0 rfl rfl (v := (en 4)) (vp_in_iff.mpr (by decide)) (rfl) dX1_moving_43 ?_
    refine lv_i2l (v := ((en 4)).toInt64) hx hb dX1_moving_44 rfl ?_
    refine lv_ladd hx hb dX1_moving_45 ?_
    refine lv_goto (tgt := 51) hx hb dX1_moving_46 (by decide) ?_
    have hE : f_X1_moving_0 en p0 p1 p3 = ((f_X1_rounded (((p0 * ((en 0)).toInt64) + (p1 * ((en 2)).toInt64)))) + ((en 4)).toInt64) := (by rw [f_X1_moving_0, if_neg c_3])
    exact m_lret hx hb hr hlocks hP hD hK hS dX1_moving_51 ⟨hE.symm, rfl⟩
def f_X1_moving_1 (en : Nat → Int32) (p0 : Int64) (p1 : Int64) (p3 : Int32) : Int64 := if p3 = 0 then ((f_X1_rounded (((p0 * ((en 1)).toInt64) + (p1 * ((en 3)).toInt64))))) else (((f_X1_rounded (((p0 * ((en 1)).toInt64) + (p1 * ((en 3)).toInt64)))) + ((en 5)).toInt64))
abbrev rm_X1_moving_1 : Room := { frames := 2, cells := 0, slots := 0, locals := 78 }
set_option maxHeartbeats 4000000 in
set_option maxRecDepth 100000 in
theorem cc_X1_moving_1 (l : Launch) (dC : Nat → ClassId) (dI : Nat → Nat → Nat) (h0 h1 h2 : Nat) (cI cL : ClassId) (sz : Nat) (vk vn : Int32) (en : Nat → Int32) (nx : Nat → Int64) (vx vy vb : Int32) (p0 : Int64) (p1 : Int64) (p3 : Int32)   : Met l yX1_moving wsX1_moving rm_X1_moving_1 (va_Pc [.ref h0, .long p0, .long p1, .int 1, .int p3] (mPre dC dI h0 h1 h2 cI cL sz (vk, vn, en, nx, vx, vy, vb))) (mQl dC dI h0 h1 h2 cI cL (va_A (mW h0 h1 h2 cI cL (vk, vn, en, nx, vx, vy, vb)) sz) ((f_X1_moving_1 en p0 p1 p3)) (vk, vn, en, nx, vx, vy, vb)) 0 0 (va_A (mW h0 h1 h2 cI cL (vk, vn, en, nx, vx, vy, vb)) sz) := by
  refine m_headl (cc := cX1_moving) (maxL := 9) (ret := some .long) (by decide) rfl rfl (Nat.le_of_ble_eq_true rfl) ?_
  intro p e s m below meth c ls A hx hb hr hlocks hml hown hts hA hP hD hK htb hS hl
  have hl : lv_has ls 9 [(0, .ref h0), (1, .long p0), (3, .long p1), (5, .int 1), (6, .int p3)] := hl
  refine lv_lload_n hx hb dX1_moving_0 rfl (lv_at hl 1 rfl) ?_
  refine lv_aload_n hx hb dX1_moving_1 rfl (lv_at hl 0 rfl) ?_
  refine va_get (D := (dC, dI)) (ci := 1) (v := .ref h1) (C := RX1) (T := TX1) (N := 7) hx hb hts fi_X1_moving hown hK hP 0 rfl rfl 2 (by decide) (hts (.fieldLink RX1 13 "FixedPlaneModel" "entries" "[I") (by decide +kernel)) (fun _ h9 => h9) rfl dX1_moving_2 ?_
  refine lv_iload hx hb dX1_moving_5 (lv_at hl 3 rfl) ?_
  refine pm_iald hx hb hK hP 1 0 rfl rfl (v := (en 1)) (vp_in_iff.mpr (by decide)) (rfl) dX1_moving_7 ?_
  refine lv_i2l (v := ((en 1)).toInt64) hx hb dX1_moving_8 rfl ?_
  refine lv_lmul hx hb dX1_moving_9 ?_
  refine lv_lload_n hx hb dX1_moving_10 rfl (lv_at hl 2 rfl) ?_
  refine lv_aload_n hx hb dX1_moving_11 rfl (lv_at hl 0 rfl) ?_
  refine va_get (D := (dC, dI)) (ci := 1) (v := .ref h1) (C := RX1) (T := TX1) (N := 7) hx hb hts fi_X1_moving hown hK hP 0 rfl rfl 2 (by decide) (hts (.fieldLink RX1 13 "FixedPlaneModel" "entries" "[I") (by decide +kernel)) (fun _ h9 => h9) rfl dX1_moving_12 ?_
  refine lv_iconst (v := 2) hx hb dX1_moving_15 (by decide) ?_
  refine lv_iload hx hb dX1_moving_16 (lv_at hl 3 rfl) ?_
  refine lv_iadd hx hb dX1_moving_18 ?_
  refine lv_topi (fun v_1 e_2 => ?_)
  have e_2 : v_1 = (3 : Int32) := e_2.trans (by decide)
  subst e_2
  refine pm_iald hx hb hK hP 1 0 rfl rfl (v := (en 3)) (vp_in_iff.mpr (by decide)) (rfl) dX1_moving_19 ?_
  refine lv_i2l (v := ((en 3)).toInt64) hx hb dX1_moving_20 rfl ?_
  refine lv_lmul hx hb dX1_moving_21 ?_
  refine lv_ladd hx hb dX1_moving_22 ?_
  refine pu_Sl (As := [.long ((p0 * ((en 1)).toInt64) + (p1 * ((en 3)).toInt64))]) (rest := []) ⟨hx, hb, hml, hown, hts⟩ (cc_X1_rounded l _ (((p0 * ((en 1)).toInt64) + (p1 * ((en 3)).toInt64)))) 1 gX1_moving_X1_rounded rfl rfl rfl hdS_X1_rounded ⟨Nat.le_of_ble_eq_true rfl, Nat.le_of_ble_eq_true rfl⟩ kN_ok kN_at rfl hl.1 rfl (Nat.le_of_ble_eq_true rfl) dX1_moving_23 ⟨Nat.zero_le _, Nat.zero_le _⟩ ?_
  refine lv_lstore (lv' := [(7, .long (f_X1_rounded (((p0 * ((en 1)).toInt64) + (p1 * ((en 3)).toInt64))))), (0, .ref h0), (1, .long p0), (3, .long p1), (5, .int 1), (6, .int p3)]) hx hb dX1_moving_26 hl (by decide) rfl (fun ls hl => ?_)
  refine lv_iload hx hb dX1_moving_28 (lv_at hl 5 rfl) ?_
  refine lv_if_eq (tgt := 49) hx hb dX1_moving_30 (by decide) (fun c_3 => ?_) (fun c_3 => ?_)
  · skip
    refine lv_lload hx hb dX1_moving_49 (lv_at hl 0 rfl) ?_
    have hE : f_X1_moving_1 en p0 p1 p3 = (f_X1_rounded (((p0 * ((en 1)).toInt64) + (p1 * ((en 3)).toInt64)))) := (by rw [f_X1_moving_1, if_pos c_3])
    exact m_lret hx hb hr hlocks hP hD hK hS dX1_moving_51 ⟨hE.symm, rfl⟩
  · skip
    refine lv_lload hx hb dX1_moving_33 (lv_at hl 0 rfl) ?_
    refine lv_aload_n hx hb dX1_moving_35 rfl (lv_at hl 1 rfl) ?_
    refine va_get (D := (dC, dI)) (ci := 1) (v := .ref h1) (C := RX1) (T := TX1) (N := 7) hx hb hts fi_X1_moving hown hK hP 0 rfl rfl 2 (by decide) (hts (.fieldLink RX1 13 "FixedPlaneModel" "entries" "[I") (by decide +kernel)) (fun _ h9 => h9) rfl dX1_moving_36 ?_
    refine lv_iconst (v := 4) hx hb dX1_moving_39 (by decide) ?_
    refine lv_iload hx hb dX1_moving_40 (lv_at hl 4 rfl) ?_
    refine lv_iadd hx hb dX1_moving_42 ?_
    refine lv_topi (fun v_4 e_5 => ?_)
    have e_5 : v_4 = (5 : Int32) := e_5.trans (by decide)
    subst e_5
    refine pm_iald hx hb hK hP 1 0 rfl rfl (v := (en 5)) (vp_in_iff.mpr (by decide)) (rfl) dX1_moving_43 ?_
    refine lv_i2l (v := ((en 5)).toInt64) hx hb dX1_moving_44 rfl ?_
    refine lv_ladd hx hb dX1_moving_45 ?_
    refine lv_goto (tgt := 51) hx hb dX1_moving_46 (by decide) ?_
    have hE : f_X1_moving_1 en p0 p1 p3 = ((f_X1_rounded (((p0 * ((en 1)).toInt64) + (p1 * ((en 3)).toInt64)))) + ((en 5)).toInt64) := (by rw [f_X1_moving_1, if_neg c_3])
    exact m_lret hx hb hr hlocks hP hD hK hS dX1_moving_51 ⟨hE.symm, rfl⟩
theorem hdV_X1_take : yX1_take.cls = RX1 ∧ yX1_take.cls ≠ "java/lang/invoke/MethodHandle" ∧ yX1_take.cls ≠ "java/lang/invoke/VarHandle" ∧ (parseMethodDescriptor yX1_take.desc).map (fun d => d.parameters.length) = some 0 := by decide +kernel
theorem fi_X1_take : ∀ w ∈ wsX10, w ∈ wsX1_take := fun _ h => List.mem_cons_of_mem _ (List.mem_append_right _ h)
def f_X1_take (en : Nat → Int32) (nx : Nat → Int64) : Int32 × (Nat → Int32) := if 2147483647 < (nx 0) then (((-2), en)) else (if (nx 0) < (-2147483647) then (((-2), en)) else (if 2147483647 < (nx 1) then (((-2), en)) else (if (nx 1) < (-2147483647) then (((-2), en)) else (if 2147483647 < (nx 2) then (((-2), en)) else (if (nx 2) < (-2147483647) then (((-2), en)) else (if 2147483647 < (nx 3) then (((-2), en)) else (if (nx 3) < (-2147483647) then (((-2), en)) else (if 2147483647 < (nx 4) then (((-2), en)) else (if (nx 4) < (-2147483647) then (((-2), en)) else (if 2147483647 < (nx 5) then (((-2), en)) else (if (nx 5) < (-2147483647) then (((-2), en)) else ((1, (upd (upd (upd (upd (upd (upd en 0 ((nx 0)).toInt32) 1 ((nx 1)).toInt32) 2 ((nx 2)).toInt32) 3 ((nx 3)).toInt32) 4 ((nx 4)).toInt32) 5 ((nx 5)).toInt32))))))))))))))
abbrev rm_X1_take : Room := { frames := 0, cells := 0, slots := 0, locals := 0 }
set_option maxHeartbeats 4000000 in
set_option maxRecDepth 100000 in
theorem cc_X1_take (l : Launch) (dC : Nat → ClassId) (dI : Nat → Nat → Nat) (h0 h1 h2 : Nat) (cI cL : ClassId) (sz : Nat) (vk vn : Int32) (en : Nat → Int32) (nx : Nat → Int64) (vx vy vb : Int32)    : Met l yX1_take wsX1_take rm_X1_take (va_Pc [.ref h0] (mPre dC dI h0 h1 h2 cI cL sz (vk, vn, en, nx, vx, vy, vb))) (mQi dC dI h0 h1 h2 cI cL (va_A (mW h0 h1 h2 cI cL (vk, vn, en, nx, vx, vy, vb)) sz) ((f_X1_take en nx).1) (vk, vn, (f_X1_take en nx).2, nx, vx, vy, vb)) 0 0 (va_A (mW h0 h1 h2 cI cL (vk, vn, en, nx, vx, vy, vb)) sz) := by
  refine m_headi (cc := cX1_take) (maxL := 2) (ret := some .int) (by decide) rfl rfl (Nat.le_of_ble_eq_true rfl) ?_
  intro p e s m below meth c ls A hx hb hr hlocks hml hown hts hA hP hD hK htb hS hl
  have hl : lv_has ls 2 [(0, .ref h0)] := hl
  refine lv_iconst (v := 0) hx hb dX1_take_0 (by decide) ?_
  refine lv_istore_n (lv' := [(1, .int 0), (0, .ref h0)]) hx hb dX1_take_1 rfl hl (by decide) rfl (fun ls hl => ?_)
  refine lv_iload_n hx hb dX1_take_2 rfl (lv_at hl 0 rfl) ?_
  refine lv_bipush (v := 6) hx hb dX1_take_3 (by decide) ?_
  refine pi_ge (tgt := 43) hx hb dX1_take_5 (by decide) (fun q => absurd (by decide) q) (fun _ => ?_)
  refine lv_aload_n hx hb dX1_take_8 rfl (lv_at hl 1 rfl) ?_
  refine va_get (D := (dC, dI)) (ci := 1) (v := .ref h2) (C := RX1) (T := TX1) (N := 7) hx hb hts fi_X1_take hown hK hP 0 rfl rfl 3 (by decide) (hts (.fieldLink RX1 17 "FixedPlaneModel" "next" "[J") (by decide +kernel)) (fun _ h9 => h9) rfl dX1_take_9 ?_
  refine lv_iload_n hx hb dX1_take_12 rfl (lv_at hl 0 rfl) ?_
  refine pm_lald hx hb hK hP 2 1 rfl rfl (v := (nx 0)) (vp_in_iff.mpr (by decide)) rfl dX1_take_13 ?_
  refine lv_ldc2 (v := 2147483647) hx hb hown (hts (.constantLong RX1 25 (2147483647)) (by decide +kernel)) dX1_take_14 ?_
  refine pl_gt (tgt := 34) hx hb dX1_take_17 dX1_take_18 (by decide) (fun c_2 => ?_) (fun c_2 => ?_)
  · skip
    refine lv_bipush (v := (-2)) hx hb dX1_take_34 (by decide) ?_
    have hE : f_X1_take en nx = ((-2), en) := (by rw [f_X1_take, if_pos c_2])
    exact m_iret hx hb hr hlocks hP hD hK hS dX1_take_36 ⟨by rw [hE], by rw [hE]⟩
  · skip
    refine lv_aload_n hx hb dX1_take_21 rfl (lv_at hl 1 rfl) ?_
    refine va_get (D := (dC, dI)) (ci := 1) (v := .ref h2) (C := RX1) (T := TX1) (N := 7) hx hb hts fi_X1_take hown hK hP 0 rfl rfl 3 (by decide) (hts (.fieldLink RX1 17 "FixedPlaneModel" "next" "[J") (by decide +kernel)) (fun _ h9 => h9) rfl dX1_take_22 ?_
    refine lv_iload_n hx hb dX1_take_25 rfl (lv_at hl 0 rfl) ?_
    refine pm_lald hx hb hK hP 2 1 rfl rfl (v := (nx 0)) (vp_in_iff.mpr (by decide)) rfl dX1_take_26 ?_
    refine lv_ldc2 (v := (-2147483647)) hx hb hown (hts (.constantLong RX1 32 (-2147483647)) (by decide +kernel)) dX1_take_27 ?_
    refine pl_ge (tgt := 37) hx hb dX1_take_30 dX1_take_31 (by decide) (fun c_3 => ?_) (fun c_3 => ?_)
    · skip
      refine lv_iinc (v := 1) (lv' := [(1, .int 1), (0, .ref h0)]) (k := 0) hx hb dX1_take_37 hl rfl (by decide) (by decide) rfl (fun ls hl => ?_)
      refine lv_goto (tgt := 2) hx hb dX1_take_40 (by decide) ?_
      refine lv_iload_n hx hb dX1_take_2 rfl (lv_at hl 0 rfl) ?_
      refine lv_bipush (v := 6) hx hb dX1_take_3 (by decide) ?_
      refine pi_ge (tgt := 43) hx hb dX1_take_5 (by decide) (fun q => absurd (by decide) q) (fun _ => ?_)
      refine lv_aload_n hx hb dX1_take_8 rfl (lv_at hl 1 rfl) ?_
      refine va_get (D := (dC, dI)) (ci := 1) (v := .ref h2) (C := RX1) (T := TX1) (N := 7) hx hb hts fi_X1_take hown hK hP 0 rfl rfl 3 (by decide) (hts (.fieldLink RX1 17 "FixedPlaneModel" "next" "[J") (by decide +kernel)) (fun _ h9 => h9) rfl dX1_take_9 ?_
      refine lv_iload_n hx hb dX1_take_12 rfl (lv_at hl 0 rfl) ?_
      refine pm_lald hx hb hK hP 2 1 rfl rfl (v := (nx 1)) (vp_in_iff.mpr (by decide)) rfl dX1_take_13 ?_
      refine lv_ldc2 (v := 2147483647) hx hb hown (hts (.constantLong RX1 25 (2147483647)) (by decide +kernel)) dX1_take_14 ?_
      refine pl_gt (tgt := 34) hx hb dX1_take_17 dX1_take_18 (by decide) (fun c_5 => ?_) (fun c_5 => ?_)
      · skip
        refine lv_bipush (v := (-2)) hx hb dX1_take_34 (by decide) ?_
        have hE : f_X1_take en nx = ((-2), en) := (by rw [f_X1_take, if_neg c_2, if_neg c_3, if_pos c_5])
        exact m_iret hx hb hr hlocks hP hD hK hS dX1_take_36 ⟨by rw [hE], by rw [hE]⟩
      · skip
        refine lv_aload_n hx hb dX1_take_21 rfl (lv_at hl 1 rfl) ?_
        refine va_get (D := (dC, dI)) (ci := 1) (v := .ref h2) (C := RX1) (T := TX1) (N := 7) hx hb hts fi_X1_take hown hK hP 0 rfl rfl 3 (by decide) (hts (.fieldLink RX1 17 "FixedPlaneModel" "next" "[J") (by decide +kernel)) (fun _ h9 => h9) rfl dX1_take_22 ?_
        refine lv_iload_n hx hb dX1_take_25 rfl (lv_at hl 0 rfl) ?_
        refine pm_lald hx hb hK hP 2 1 rfl rfl (v := (nx 1)) (vp_in_iff.mpr (by decide)) rfl dX1_take_26 ?_
        refine lv_ldc2 (v := (-2147483647)) hx hb hown (hts (.constantLong RX1 32 (-2147483647)) (by decide +kernel)) dX1_take_27 ?_
        refine pl_ge (tgt := 37) hx hb dX1_take_30 dX1_take_31 (by decide) (fun c_6 => ?_) (fun c_6 => ?_)
        · skip
          refine lv_iinc (v := 2) (lv' := [(1, .int 2), (0, .ref h0)]) (k := 0) hx hb dX1_take_37 hl rfl (by decide) (by decide) rfl (fun ls hl => ?_)
          refine lv_goto (tgt := 2) hx hb dX1_take_40 (by decide) ?_
          refine lv_iload_n hx hb dX1_take_2 rfl (lv_at hl 0 rfl) ?_
          refine lv_bipush (v := 6) hx hb dX1_take_3 (by decide) ?_
          refine pi_ge (tgt := 43) hx hb dX1_take_5 (by decide) (fun q => absurd (by decide) q) (fun _ => ?_)
          refine lv_aload_n hx hb dX1_take_8 rfl (lv_at hl 1 rfl) ?_
          refine va_get (D := (dC, dI)) (ci := 1) (v := .ref h2) (C := RX1) (T := TX1) (N := 7) hx hb hts fi_X1_take hown hK hP 0 rfl rfl 3 (by decide) (hts (.fieldLink RX1 17 "FixedPlaneModel" "next" "[J") (by decide +kernel)) (fun _ h9 => h9) rfl dX1_take_9 ?_
          refine lv_iload_n hx hb dX1_take_12 rfl (lv_at hl 0 rfl) ?_
          refine pm_lald hx hb hK hP 2 1 rfl rfl (v := (nx 2)) (vp_in_iff.mpr (by decide)) rfl dX1_take_13 ?_
          refine lv_ldc2 (v := 2147483647) hx hb hown (hts (.constantLong RX1 25 (2147483647)) (by decide +kernel)) dX1_take_14 ?_
          refine pl_gt (tgt := 34) hx hb dX1_take_17 dX1_take_18 (by decide) (fun c_8 => ?_) (fun c_8 => ?_)
          · skip
            refine lv_bipush (v := (-2)) hx hb dX1_take_34 (by decide) ?_
            have hE : f_X1_take en nx = ((-2), en) := (by rw [f_X1_take, if_neg c_2, if_neg c_3, if_neg c_5, if_neg c_6, if_pos c_8])
            exact m_iret hx hb hr hlocks hP hD hK hS dX1_take_36 ⟨by rw [hE], by rw [hE]⟩
          · skip
            refine lv_aload_n hx hb dX1_take_21 rfl (lv_at hl 1 rfl) ?_
            refine va_get (D := (dC, dI)) (ci := 1) (v := .ref h2) (C := RX1) (T := TX1) (N := 7) hx hb hts fi_X1_take hown hK hP 0 rfl rfl 3 (by decide) (hts (.fieldLink RX1 17 "FixedPlaneModel" "next" "[J") (by decide +kernel)) (fun _ h9 => h9) rfl dX1_take_22 ?_
            refine lv_iload_n hx hb dX1_take_25 rfl (lv_at hl 0 rfl) ?_
            refine pm_lald hx hb hK hP 2 1 rfl rfl (v := (nx 2)) (vp_in_iff.mpr (by decide)) rfl dX1_take_26 ?_
            refine lv_ldc2 (v := (-2147483647)) hx hb hown (hts (.constantLong RX1 32 (-2147483647)) (by decide +kernel)) dX1_take_27 ?_
            refine pl_ge (tgt := 37) hx hb dX1_take_30 dX1_take_31 (by decide) (fun c_9 => ?_) (fun c_9 => ?_)
            · skip
              refine lv_iinc (v := 3) (lv' := [(1, .int 3), (0, .ref h0)]) (k := 0) hx hb dX1_take_37 hl rfl (by decide) (by decide) rfl (fun ls hl => ?_)
              refine lv_goto (tgt := 2) hx hb dX1_take_40 (by decide) ?_
              refine lv_iload_n hx hb dX1_take_2 rfl (lv_at hl 0 rfl) ?_
              refine lv_bipush (v := 6) hx hb dX1_take_3 (by decide) ?_
              refine pi_ge (tgt := 43) hx hb dX1_take_5 (by decide) (fun q => absurd (by decide) q) (fun _ => ?_)
              refine lv_aload_n hx hb dX1_take_8 rfl (lv_at hl 1 rfl) ?_
              refine va_get (D := (dC, dI)) (ci := 1) (v := .ref h2) (C := RX1) (T := TX1) (N := 7) hx hb hts fi_X1_take hown hK hP 0 rfl rfl 3 (by decide) (hts (.fieldLink RX1 17 "FixedPlaneModel" "next" "[J") (by decide +kernel)) (fun _ h9 => h9) rfl dX1_take_9 ?_
              refine lv_iload_n hx hb dX1_take_12 rfl (lv_at hl 0 rfl) ?_
              refine pm_lald hx hb hK hP 2 1 rfl rfl (v := (nx 3)) (vp_in_iff.mpr (by decide)) rfl dX1_take_13 ?_
              refine lv_ldc2 (v := 2147483647) hx hb hown (hts (.constantLong RX1 25 (2147483647)) (by decide +kernel)) dX1_take_14 ?_
              refine pl_gt (tgt := 34) hx hb dX1_take_17 dX1_take_18 (by decide) (fun c_11 => ?_) (fun c_11 => ?_)
              · skip
                refine lv_bipush (v := (-2)) hx hb dX1_take_34 (by decide) ?_
                have hE : f_X1_take en nx = ((-2), en) := (by rw [f_X1_take, if_neg c_2, if_neg c_3, if_neg c_5, if_neg c_6, if_neg c_8, if_neg c_9, if_pos c_11])
                exact m_iret hx hb hr hlocks hP hD hK hS dX1_take_36 ⟨by rw [hE], by rw [hE]⟩
              · skip
                refine lv_aload_n hx hb dX1_take_21 rfl (lv_at hl 1 rfl) ?_
                refine va_get (D := (dC, dI)) (ci := 1) (v := .ref h2) (C := RX1) (T := TX1) (N := 7) hx hb hts fi_X1_take hown hK hP 0 rfl rfl 3 (by decide) (hts (.fieldLink RX1 17 "FixedPlaneModel" "next" "[J") (by decide +kernel)) (fun _ h9 => h9) rfl dX1_take_22 ?_
                refine lv_iload_n hx hb dX1_take_25 rfl (lv_at hl 0 rfl) ?_
                refine pm_lald hx hb hK hP 2 1 rfl rfl (v := (nx 3)) (vp_in_iff.mpr (by decide)) rfl dX1_take_26 ?_
                refine lv_ldc2 (v := (-2147483647)) hx hb hown (hts (.constantLong RX1 32 (-2147483647)) (by decide +kernel)) dX1_take_27 ?_
                refine pl_ge (tgt := 37) hx hb dX1_take_30 dX1_take_31 (by decide) (fun c_12 => ?_) (fun c_12 => ?_)
                · skip
                  refine lv_iinc (v := 4) (lv' := [(1, .int 4), (0, .ref h0)]) (k := 0) hx hb dX1_take_37 hl rfl (by decide) (by decide) rfl (fun ls hl => ?_)
                  refine lv_goto (tgt := 2) hx hb dX1_take_40 (by decide) ?_
                  refine lv_iload_n hx hb dX1_take_2 rfl (lv_at hl 0 rfl) ?_
                  refine lv_bipush (v := 6) hx hb dX1_take_3 (by decide) ?_
                  refine pi_ge (tgt := 43) hx hb dX1_take_5 (by decide) (fun q => absurd (by decide) q) (fun _ => ?_)
                  refine lv_aload_n hx hb dX1_take_8 rfl (lv_at hl 1 rfl) ?_
                  refine va_get (D := (dC, dI)) (ci := 1) (v := .ref h2) (C := RX1) (T := TX1) (N := 7) hx hb hts fi_X1_take hown hK hP 0 rfl rfl 3 (by decide) (hts (.fieldLink RX1 17 "FixedPlaneModel" "next" "[J") (by decide +kernel)) (fun _ h9 => h9) rfl dX1_take_9 ?_
                  refine lv_iload_n hx hb dX1_take_12 rfl (lv_at hl 0 rfl) ?_
                  refine pm_lald hx hb hK hP 2 1 rfl rfl (v := (nx 4)) (vp_in_iff.mpr (by decide)) rfl dX1_take_13 ?_
                  refine lv_ldc2 (v := 2147483647) hx hb hown (hts (.constantLong RX1 25 (2147483647)) (by decide +kernel)) dX1_take_14 ?_
                  refine pl_gt (tgt := 34) hx hb dX1_take_17 dX1_take_18 (by decide) (fun c_14 => ?_) (fun c_14 => ?_)
                  · skip
                    refine lv_bipush (v := (-2)) hx hb dX1_take_34 (by decide) ?_
                    have hE : f_X1_take en nx = ((-2), en) := (by rw [f_X1_take, if_neg c_2, if_neg c_3, if_neg c_5, if_neg c_6, if_neg c_8, if_neg c_9, if_neg c_11, if_neg c_12, if_pos c_14])
                    exact m_iret hx hb hr hlocks hP hD hK hS dX1_take_36 ⟨by rw [hE], by rw [hE]⟩
                  · skip
                    refine lv_aload_n hx hb dX1_take_21 rfl (lv_at hl 1 rfl) ?_
                    refine va_get (D := (dC, dI)) (ci := 1) (v := .ref h2) (C := RX1) (T := TX1) (N := 7) hx hb hts fi_X1_take hown hK hP 0 rfl rfl 3 (by decide) (hts (.fieldLink RX1 17 "FixedPlaneModel" "next" "[J") (by decide +kernel)) (fun _ h9 => h9) rfl dX1_take_22 ?_
                    refine lv_iload_n hx hb dX1_take_25 rfl (lv_at hl 0 rfl) ?_
                    refine pm_lald hx hb hK hP 2 1 rfl rfl (v := (nx 4)) (vp_in_iff.mpr (by decide)) rfl dX1_take_26 ?_
                    refine lv_ldc2 (v := (-2147483647)) hx hb hown (hts (.constantLong RX1 32 (-2147483647)) (by decide +kernel)) dX1_take_27 ?_
                    refine pl_ge (tgt := 37) hx hb dX1_take_30 dX1_take_31 (by decide) (fun c_15 => ?_) (fun c_15 => ?_)
                    · skip
                      refine lv_iinc (v := 5) (lv' := [(1, .int 5), (0, .ref h0)]) (k := 0) hx hb dX1_take_37 hl rfl (by decide) (by decide) rfl (fun ls hl => ?_)
                      refine lv_goto (tgt := 2) hx hb dX1_take_40 (by decide) ?_
                      refine lv_iload_n hx hb dX1_take_2 rfl (lv_at hl 0 rfl) ?_
                      refine lv_bipush (v := 6) hx hb dX1_take_3 (by decide) ?_
                      refine pi_ge (tgt := 43) hx hb dX1_take_5 (by decide) (fun q => absurd (by decide) q) (fun _ => ?_)
                      refine lv_aload_n hx hb dX1_take_8 rfl (lv_at hl 1 rfl) ?_
                      refine va_get (D := (dC, dI)) (ci := 1) (v := .ref h2) (C := RX1) (T := TX1) (N := 7) hx hb hts fi_X1_take hown hK hP 0 rfl rfl 3 (by decide) (hts (.fieldLink RX1 17 "FixedPlaneModel" "next" "[J") (by decide +kernel)) (fun _ h9 => h9) rfl dX1_take_9 ?_
                      refine lv_iload_n hx hb dX1_take_12 rfl (lv_at hl 0 rfl) ?_
                      refine pm_lald hx hb hK hP 2 1 rfl rfl (v := (nx 5)) (vp_in_iff.mpr (by decide)) rfl dX1_take_13 ?_
                      refine lv_ldc2 (v := 2147483647) hx hb hown (hts (.constantLong RX1 25 (2147483647)) (by decide +kernel)) dX1_take_14 ?_
                      refine pl_gt (tgt := 34) hx hb dX1_take_17 dX1_take_18 (by decide) (fun c_17 => ?_) (fun c_17 => ?_)
                      · skip
                        refine lv_bipush (v := (-2)) hx hb dX1_take_34 (by decide) ?_
                        have hE : f_X1_take en nx = ((-2), en) := (by rw [f_X1_take, if_neg c_2, if_neg c_3, if_neg c_5, if_neg c_6, if_neg c_8, if_neg c_9, if_neg c_11, if_neg c_12, if_neg c_14, if_neg c_15, if_pos c_17])
                        exact m_iret hx hb hr hlocks hP hD hK hS dX1_take_36 ⟨by rw [hE], by rw [hE]⟩
                      · skip
                        refine lv_aload_n hx hb dX1_take_21 rfl (lv_at hl 1 rfl) ?_
                        refine va_get (D := (dC, dI)) (ci := 1) (v := .ref h2) (C := RX1) (T := TX1) (N := 7) hx hb hts fi_X1_take hown hK hP 0 rfl rfl 3 (by decide) (hts (.fieldLink RX1 17 "FixedPlaneModel" "next" "[J") (by decide +kernel)) (fun _ h9 => h9) rfl dX1_take_22 ?_
                        refine lv_iload_n hx hb dX1_take_25 rfl (lv_at hl 0 rfl) ?_
                        refine pm_lald hx hb hK hP 2 1 rfl rfl (v := (nx 5)) (vp_in_iff.mpr (by decide)) rfl dX1_take_26 ?_
                        refine lv_ldc2 (v := (-2147483647)) hx hb hown (hts (.constantLong RX1 32 (-2147483647)) (by decide +kernel)) dX1_take_27 ?_
                        refine pl_ge (tgt := 37) hx hb dX1_take_30 dX1_take_31 (by decide) (fun c_18 => ?_) (fun c_18 => ?_)
                        · skip
                          refine lv_iinc (v := 6) (lv' := [(1, .int 6), (0, .ref h0)]) (k := 0) hx hb dX1_take_37 hl rfl (by decide) (by decide) rfl (fun ls hl => ?_)
                          refine lv_goto (tgt := 2) hx hb dX1_take_40 (by decide) ?_
                          refine lv_iload_n hx hb dX1_take_2 rfl (lv_at hl 0 rfl) ?_
                          refine lv_bipush (v := 6) hx hb dX1_take_3 (by decide) ?_
                          refine pi_ge (tgt := 43) hx hb dX1_take_5 (by decide) (fun _ => ?_) (fun q => absurd q (by decide))
                          refine lv_iconst (v := 0) hx hb dX1_take_43 (by decide) ?_
                          refine lv_istore_n (lv' := [(1, .int 0), (0, .ref h0)]) hx hb dX1_take_44 rfl hl (by decide) rfl (fun ls hl => ?_)
                          refine lv_iload_n hx hb dX1_take_45 rfl (lv_at hl 0 rfl) ?_
                          refine lv_bipush (v := 6) hx hb dX1_take_46 (by decide) ?_
                          refine pi_ge (tgt := 70) hx hb dX1_take_48 (by decide) (fun q => absurd (by decide) q) (fun _ => ?_)
                          refine lv_aload_n hx hb dX1_take_51 rfl (lv_at hl 1 rfl) ?_
                          refine va_get (D := (dC, dI)) (ci := 1) (v := .ref h1) (C := RX1) (T := TX1) (N := 7) hx hb hts fi_X1_take hown hK hP 0 rfl rfl 2 (by decide) (hts (.fieldLink RX1 13 "FixedPlaneModel" "entries" "[I") (by decide +kernel)) (fun _ h9 => h9) rfl dX1_take_52 ?_
                          refine lv_iload_n hx hb dX1_take_55 rfl (lv_at hl 0 rfl) ?_
                          refine lv_aload_n hx hb dX1_take_56 rfl (lv_at hl 1 rfl) ?_
                          refine va_get (D := (dC, dI)) (ci := 1) (v := .ref h2) (C := RX1) (T := TX1) (N := 7) hx hb hts fi_X1_take hown hK hP 0 rfl rfl 3 (by decide) (hts (.fieldLink RX1 17 "FixedPlaneModel" "next" "[J") (by decide +kernel)) (fun _ h9 => h9) rfl dX1_take_57 ?_
                          refine lv_iload_n hx hb dX1_take_60 rfl (lv_at hl 0 rfl) ?_
                          refine pm_lald hx hb hK hP 2 1 rfl rfl (v := (nx 0)) (vp_in_iff.mpr (by decide)) rfl dX1_take_61 ?_
                          refine lv_l2i (v := ((nx 0)).toInt32) hx hb dX1_take_62 rfl ?_
                          refine va_iast hx hb hK hP hD hS 1 0 rfl rfl (vp_in_iff.mpr (by decide)) dX1_take_63 (fun H locs hP hD hS => ?_)
                          have hP : va_P (dC, dI) vwCl (mW h0 h1 h2 cI cL (vk, vn, (upd en 0 ((nx 0)).toInt32), nx, vx, vy, vb)) H := hP
                          have hD : va_D A (mW h0 h1 h2 cI cL (vk, vn, (upd en 0 ((nx 0)).toInt32), nx, vx, vy, vb)) := hD
                          refine lv_iinc (v := 1) (lv' := [(1, .int 1), (0, .ref h0)]) (k := 0) hx hb dX1_take_64 hl rfl (by decide) (by decide) rfl (fun ls hl => ?_)
                          refine lv_goto (tgt := 45) hx hb dX1_take_67 (by decide) ?_
                          refine lv_iload_n hx hb dX1_take_45 rfl (lv_at hl 0 rfl) ?_
                          refine lv_bipush (v := 6) hx hb dX1_take_46 (by decide) ?_
                          refine pi_ge (tgt := 70) hx hb dX1_take_48 (by decide) (fun q => absurd (by decide) q) (fun _ => ?_)
                          refine lv_aload_n hx hb dX1_take_51 rfl (lv_at hl 1 rfl) ?_
                          refine va_get (D := (dC, dI)) (ci := 1) (v := .ref h1) (C := RX1) (T := TX1) (N := 7) hx hb hts fi_X1_take hown hK hP 0 rfl rfl 2 (by decide) (hts (.fieldLink RX1 13 "FixedPlaneModel" "entries" "[I") (by decide +kernel)) (fun _ h9 => h9) rfl dX1_take_52 ?_
                          refine lv_iload_n hx hb dX1_take_55 rfl (lv_at hl 0 rfl) ?_
                          refine lv_aload_n hx hb dX1_take_56 rfl (lv_at hl 1 rfl) ?_
                          refine va_get (D := (dC, dI)) (ci := 1) (v := .ref h2) (C := RX1) (T := TX1) (N := 7) hx hb hts fi_X1_take hown hK hP 0 rfl rfl 3 (by decide) (hts (.fieldLink RX1 17 "FixedPlaneModel" "next" "[J") (by decide +kernel)) (fun _ h9 => h9) rfl dX1_take_57 ?_
                          refine lv_iload_n hx hb dX1_take_60 rfl (lv_at hl 0 rfl) ?_
                          refine pm_lald hx hb hK hP 2 1 rfl rfl (v := (nx 1)) (vp_in_iff.mpr (by decide)) rfl dX1_take_61 ?_
                          refine lv_l2i (v := ((nx 1)).toInt32) hx hb dX1_take_62 rfl ?_
                          refine va_iast hx hb hK hP hD hS 1 0 rfl rfl (vp_in_iff.mpr (by decide)) dX1_take_63 (fun H locs hP hD hS => ?_)
                          have hP : va_P (dC, dI) vwCl (mW h0 h1 h2 cI cL (vk, vn, (upd (upd en 0 ((nx 0)).toInt32) 1 ((nx 1)).toInt32), nx, vx, vy, vb)) H := hP
                          have hD : va_D A (mW h0 h1 h2 cI cL (vk, vn, (upd (upd en 0 ((nx 0)).toInt32) 1 ((nx 1)).toInt32), nx, vx, vy, vb)) := hD
                          refine lv_iinc (v := 2) (lv' := [(1, .int 2), (0, .ref h0)]) (k := 0) hx hb dX1_take_64 hl rfl (by decide) (by decide) rfl (fun ls hl => ?_)
                          refine lv_goto (tgt := 45) hx hb dX1_take_67 (by decide) ?_
                          refine lv_iload_n hx hb dX1_take_45 rfl (lv_at hl 0 rfl) ?_
                          refine lv_bipush (v := 6) hx hb dX1_take_46 (by decide) ?_
                          refine pi_ge (tgt := 70) hx hb dX1_take_48 (by decide) (fun q => absurd (by decide) q) (fun _ => ?_)
                          refine lv_aload_n hx hb dX1_take_51 rfl (lv_at hl 1 rfl) ?_
                          refine va_get (D := (dC, dI)) (ci := 1) (v := .ref h1) (C := RX1) (T := TX1) (N := 7) hx hb hts fi_X1_take hown hK hP 0 rfl rfl 2 (by decide) (hts (.fieldLink RX1 13 "FixedPlaneModel" "entries" "[I") (by decide +kernel)) (fun _ h9 => h9) rfl dX1_take_52 ?_
                          refine lv_iload_n hx hb dX1_take_55 rfl (lv_at hl 0 rfl) ?_
                          refine lv_aload_n hx hb dX1_take_56 rfl (lv_at hl 1 rfl) ?_
                          refine va_get (D := (dC, dI)) (ci := 1) (v := .ref h2) (C := RX1) (T := TX1) (N := 7) hx hb hts fi_X1_take hown hK hP 0 rfl rfl 3 (by decide) (hts (.fieldLink RX1 17 "FixedPlaneModel" "next" "[J") (by decide +kernel)) (fun _ h9 => h9) rfl dX1_take_57 ?_
                          refine lv_iload_n hx hb dX1_take_60 rfl (lv_at hl 0 rfl) ?_
                          refine pm_lald hx hb hK hP 2 1 rfl rfl (v := (nx 2)) (vp_in_iff.mpr (by decide)) rfl dX1_take_61 ?_
                          refine lv_l2i (v := ((nx 2)).toInt32) hx hb dX1_take_62 rfl ?_
                          refine va_iast hx hb hK hP hD hS 1 0 rfl rfl (vp_in_iff.mpr (by decide)) dX1_take_63 (fun H locs hP hD hS => ?_)
                          have hP : va_P (dC, dI) vwCl (mW h0 h1 h2 cI cL (vk, vn, (upd (upd (upd en 0 ((nx 0)).toInt32) 1 ((nx 1)).toInt32) 2 ((nx 2)).toInt32), nx, vx, vy, vb)) H := hP
                          have hD : va_D A (mW h0 h1 h2 cI cL (vk, vn, (upd (upd (upd en 0 ((nx 0)).toInt32) 1 ((nx 1)).toInt32) 2 ((nx 2)).toInt32), nx, vx, vy, vb)) := hD
                          refine lv_iinc (v := 3) (lv' := [(1, .int 3), (0, .ref h0)]) (k := 0) hx hb dX1_take_64 hl rfl (by decide) (by decide) rfl (fun ls hl => ?_)
                          refine lv_goto (tgt := 45) hx hb dX1_take_67 (by decide) ?_
                          refine lv_iload_n hx hb dX1_take_45 rfl (lv_at hl 0 rfl) ?_
                          refine lv_bipush (v := 6) hx hb dX1_take_46 (by decide) ?_
                          refine pi_ge (tgt := 70) hx hb dX1_take_48 (by decide) (fun q => absurd (by decide) q) (fun _ => ?_)
                          refine lv_aload_n hx hb dX1_take_51 rfl (lv_at hl 1 rfl) ?_
                          refine va_get (D := (dC, dI)) (ci := 1) (v := .ref h1) (C := RX1) (T := TX1) (N := 7) hx hb hts fi_X1_take hown hK hP 0 rfl rfl 2 (by decide) (hts (.fieldLink RX1 13 "FixedPlaneModel" "entries" "[I") (by decide +kernel)) (fun _ h9 => h9) rfl dX1_take_52 ?_
                          refine lv_iload_n hx hb dX1_take_55 rfl (lv_at hl 0 rfl) ?_
                          refine lv_aload_n hx hb dX1_take_56 rfl (lv_at hl 1 rfl) ?_
                          refine va_get (D := (dC, dI)) (ci := 1) (v := .ref h2) (C := RX1) (T := TX1) (N := 7) hx hb hts fi_X1_take hown hK hP 0 rfl rfl 3 (by decide) (hts (.fieldLink RX1 17 "FixedPlaneModel" "next" "[J") (by decide +kernel)) (fun _ h9 => h9) rfl dX1_take_57 ?_
                          refine lv_iload_n hx hb dX1_take_60 rfl (lv_at hl 0 rfl) ?_
                          refine pm_lald hx hb hK hP 2 1 rfl rfl (v := (nx 3)) (vp_in_iff.mpr (by decide)) rfl dX1_take_61 ?_
                          refine lv_l2i (v := ((nx 3)).toInt32) hx hb dX1_take_62 rfl ?_
                          refine va_iast hx hb hK hP hD hS 1 0 rfl rfl (vp_in_iff.mpr (by decide)) dX1_take_63 (fun H locs hP hD hS => ?_)
                          have hP : va_P (dC, dI) vwCl (mW h0 h1 h2 cI cL (vk, vn, (upd (upd (upd (upd en 0 ((nx 0)).toInt32) 1 ((nx 1)).toInt32) 2 ((nx 2)).toInt32) 3 ((nx 3)).toInt32), nx, vx, vy, vb)) H := hP
                          have hD : va_D A (mW h0 h1 h2 cI cL (vk, vn, (upd (upd (upd (upd en 0 ((nx 0)).toInt32) 1 ((nx 1)).toInt32) 2 ((nx 2)).toInt32) 3 ((nx 3)).toInt32), nx, vx, vy, vb)) := hD
                          refine lv_iinc (v := 4) (lv' := [(1, .int 4), (0, .ref h0)]) (k := 0) hx hb dX1_take_64 hl rfl (by decide) (by decide) rfl (fun ls hl => ?_)
                          refine lv_goto (tgt := 45) hx hb dX1_take_67 (by decide) ?_
                          refine lv_iload_n hx hb dX1_take_45 rfl (lv_at hl 0 rfl) ?_
                          refine lv_bipush (v := 6) hx hb dX1_take_46 (by decide) ?_
                          refine pi_ge (tgt := 70) hx hb dX1_take_48 (by decide) (fun q => absurd (by decide) q) (fun _ => ?_)
                          refine lv_aload_n hx hb dX1_take_51 rfl (lv_at hl 1 rfl) ?_
                          refine va_get (D := (dC, dI)) (ci := 1) (v := .ref h1) (C := RX1) (T := TX1) (N := 7) hx hb hts fi_X1_take hown hK hP 0 rfl rfl 2 (by decide) (hts (.fieldLink RX1 13 "FixedPlaneModel" "entries" "[I") (by decide +kernel)) (fun _ h9 => h9) rfl dX1_take_52 ?_
                          refine lv_iload_n hx hb dX1_take_55 rfl (lv_at hl 0 rfl) ?_
                          refine lv_aload_n hx hb dX1_take_56 rfl (lv_at hl 1 rfl) ?_
                          refine va_get (D := (dC, dI)) (ci := 1) (v := .ref h2) (C := RX1) (T := TX1) (N := 7) hx hb hts fi_X1_take hown hK hP 0 rfl rfl 3 (by decide) (hts (.fieldLink RX1 17 "FixedPlaneModel" "next" "[J") (by decide +kernel)) (fun _ h9 => h9) rfl dX1_take_57 ?_
                          refine lv_iload_n hx hb dX1_take_60 rfl (lv_at hl 0 rfl) ?_
                          refine pm_lald hx hb hK hP 2 1 rfl rfl (v := (nx 4)) (vp_in_iff.mpr (by decide)) rfl dX1_take_61 ?_
                          refine lv_l2i (v := ((nx 4)).toInt32) hx hb dX1_take_62 rfl ?_
                          refine va_iast hx hb hK hP hD hS 1 0 rfl rfl (vp_in_iff.mpr (by decide)) dX1_take_63 (fun H locs hP hD hS => ?_)
                          have hP : va_P (dC, dI) vwCl (mW h0 h1 h2 cI cL (vk, vn, (upd (upd (upd (upd (upd en 0 ((nx 0)).toInt32) 1 ((nx 1)).toInt32) 2 ((nx 2)).toInt32) 3 ((nx 3)).toInt32) 4 ((nx 4)).toInt32), nx, vx, vy, vb)) H := hP
                          have hD : va_D A (mW h0 h1 h2 cI cL (vk, vn, (upd (upd (upd (upd (upd en 0 ((nx 0)).toInt32) 1 ((nx 1)).toInt32) 2 ((nx 2)).toInt32) 3 ((nx 3)).toInt32) 4 ((nx 4)).toInt32), nx, vx, vy, vb)) := hD
                          refine lv_iinc (v := 5) (lv' := [(1, .int 5), (0, .ref h0)]) (k := 0) hx hb dX1_take_64 hl rfl (by decide) (by decide) rfl (fun ls hl => ?_)
                          refine lv_goto (tgt := 45) hx hb dX1_take_67 (by decide) ?_
                          refine lv_iload_n hx hb dX1_take_45 rfl (lv_at hl 0 rfl) ?_
                          refine lv_bipush (v := 6) hx hb dX1_take_46 (by decide) ?_
                          refine pi_ge (tgt := 70) hx hb dX1_take_48 (by decide) (fun q => absurd (by decide) q) (fun _ => ?_)
                          refine lv_aload_n hx hb dX1_take_51 rfl (lv_at hl 1 rfl) ?_
                          refine va_get (D := (dC, dI)) (ci := 1) (v := .ref h1) (C := RX1) (T := TX1) (N := 7) hx hb hts fi_X1_take hown hK hP 0 rfl rfl 2 (by decide) (hts (.fieldLink RX1 13 "FixedPlaneModel" "entries" "[I") (by decide +kernel)) (fun _ h9 => h9) rfl dX1_take_52 ?_
                          refine lv_iload_n hx hb dX1_take_55 rfl (lv_at hl 0 rfl) ?_
                          refine lv_aload_n hx hb dX1_take_56 rfl (lv_at hl 1 rfl) ?_
                          refine va_get (D := (dC, dI)) (ci := 1) (v := .ref h2) (C := RX1) (T := TX1) (N := 7) hx hb hts fi_X1_take hown hK hP 0 rfl rfl 3 (by decide) (hts (.fieldLink RX1 17 "FixedPlaneModel" "next" "[J") (by decide +kernel)) (fun _ h9 => h9) rfl dX1_take_57 ?_
                          refine lv_iload_n hx hb dX1_take_60 rfl (lv_at hl 0 rfl) ?_
                          refine pm_lald hx hb hK hP 2 1 rfl rfl (v := (nx 5)) (vp_in_iff.mpr (by decide)) rfl dX1_take_61 ?_
                          refine lv_l2i (v := ((nx 5)).toInt32) hx hb dX1_take_62 rfl ?_
                          refine va_iast hx hb hK hP hD hS 1 0 rfl rfl (vp_in_iff.mpr (by decide)) dX1_take_63 (fun H locs hP hD hS => ?_)
                          have hP : va_P (dC, dI) vwCl (mW h0 h1 h2 cI cL (vk, vn, (upd (upd (upd (upd (upd (upd en 0 ((nx 0)).toInt32) 1 ((nx 1)).toInt32) 2 ((nx 2)).toInt32) 3 ((nx 3)).toInt32) 4 ((nx 4)).toInt32) 5 ((nx 5)).toInt32), nx, vx, vy, vb)) H := hP
                          have hD : va_D A (mW h0 h1 h2 cI cL (vk, vn, (upd (upd (upd (upd (upd (upd en 0 ((nx 0)).toInt32) 1 ((nx 1)).toInt32) 2 ((nx 2)).toInt32) 3 ((nx 3)).toInt32) 4 ((nx 4)).toInt32) 5 ((nx 5)).toInt32), nx, vx, vy, vb)) := hD
                          refine lv_iinc (v := 6) (lv' := [(1, .int 6), (0, .ref h0)]) (k := 0) hx hb dX1_take_64 hl rfl (by decide) (by decide) rfl (fun ls hl => ?_)
                          refine lv_goto (tgt := 45) hx hb dX1_take_67 (by decide) ?_
                          refine lv_iload_n hx hb dX1_take_45 rfl (lv_at hl 0 rfl) ?_
                          refine lv_bipush (v := 6) hx hb dX1_take_46 (by decide) ?_
                          refine pi_ge (tgt := 70) hx hb dX1_take_48 (by decide) (fun _ => ?_) (fun q => absurd q (by decide))
                          refine lv_iconst (v := 1) hx hb dX1_take_70 (by decide) ?_
                          have hE : f_X1_take en nx = (1, (upd (upd (upd (upd (upd (upd en 0 ((nx 0)).toInt32) 1 ((nx 1)).toInt32) 2 ((nx 2)).toInt32) 3 ((nx 3)).toInt32) 4 ((nx 4)).toInt32) 5 ((nx 5)).toInt32)) := (by rw [f_X1_take, if_neg c_2, if_neg c_3, if_neg c_5, if_neg c_6, if_neg c_8, if_neg c_9, if_neg c_11, if_neg c_12, if_neg c_14, if_neg c_15, if_neg c_17, if_neg c_18])
                          exact m_iret hx hb hr hlocks hP hD hK hS dX1_take_71 ⟨by rw [hE], by rw [hE]⟩
                        · skip
                          refine lv_bipush (v := (-2)) hx hb dX1_take_34 (by decide) ?_
                          have hE : f_X1_take en nx = ((-2), en) := (by rw [f_X1_take, if_neg c_2, if_neg c_3, if_neg c_5, if_neg c_6, if_neg c_8, if_neg c_9, if_neg c_11, if_neg c_12, if_neg c_14, if_neg c_15, if_neg c_17, if_pos c_18])
                          exact m_iret hx hb hr hlocks hP hD hK hS dX1_take_36 ⟨by rw [hE], by rw [hE]⟩
                    · skip
                      refine lv_bipush (v := (-2)) hx hb dX1_take_34 (by decide) ?_
                      have hE : f_X1_take en nx = ((-2), en) := (by rw [f_X1_take, if_neg c_2, if_neg c_3, if_neg c_5, if_neg c_6, if_neg c_8, if_neg c_9, if_neg c_11, if_neg c_12, if_neg c_14, if_pos c_15])
                      exact m_iret hx hb hr hlocks hP hD hK hS dX1_take_36 ⟨by rw [hE], by rw [hE]⟩
                · skip
                  refine lv_bipush (v := (-2)) hx hb dX1_take_34 (by decide) ?_
                  have hE : f_X1_take en nx = ((-2), en) := (by rw [f_X1_take, if_neg c_2, if_neg c_3, if_neg c_5, if_neg c_6, if_neg c_8, if_neg c_9, if_neg c_11, if_pos c_12])
                  exact m_iret hx hb hr hlocks hP hD hK hS dX1_take_36 ⟨by rw [hE], by rw [hE]⟩
            · skip
              refine lv_bipush (v := (-2)) hx hb dX1_take_34 (by decide) ?_
              have hE : f_X1_take en nx = ((-2), en) := (by rw [f_X1_take, if_neg c_2, if_neg c_3, if_neg c_5, if_neg c_6, if_neg c_8, if_pos c_9])
              exact m_iret hx hb hr hlocks hP hD hK hS dX1_take_36 ⟨by rw [hE], by rw [hE]⟩
        · skip
          refine lv_bipush (v := (-2)) hx hb dX1_take_34 (by decide) ?_
          have hE : f_X1_take en nx = ((-2), en) := (by rw [f_X1_take, if_neg c_2, if_neg c_3, if_neg c_5, if_pos c_6])
          exact m_iret hx hb hr hlocks hP hD hK hS dX1_take_36 ⟨by rw [hE], by rw [hE]⟩
    · skip
      refine lv_bipush (v := (-2)) hx hb dX1_take_34 (by decide) ?_
      have hE : f_X1_take en nx = ((-2), en) := (by rw [f_X1_take, if_neg c_2, if_pos c_3])
      exact m_iret hx hb hr hlocks hP hD hK hS dX1_take_36 ⟨by rw [hE], by rw [hE]⟩
theorem hdV_X1_before : yX1_before.cls = RX1 ∧ yX1_before.cls ≠ "java/lang/invoke/MethodHandle" ∧ yX1_before.cls ≠ "java/lang/invoke/VarHandle" ∧ (parseMethodDescriptor yX1_before.desc).map (fun d => d.parameters.length) = some 6 := by decide +kernel
theorem fi_X1_before : ∀ w ∈ wsX10, w ∈ wsX1_before := fun _ h => List.mem_cons_of_mem _ (List.mem_append_right _ h)
def f_X1_before (en : Nat → Int32) (nx : Nat → Int64) (p0 : Int32) (p1 : Int32) (p2 : Int32) (p3 : Int32) (p4 : Int32) (p5 : Int32) : Int32 × (Nat → Int32) × (Nat → Int64) := if (f_X1_areBad (p0) (p1) (p2) (p3) (p4) (p5)) = 0 then (((f_X1_take (en) ((vp_updL (vp_updL (vp_updL (vp_updL (vp_updL (vp_updL nx 0 (f_X1_moving_0 (en) ((p0).toInt64) ((p1).toInt64) (0))) 2 (f_X1_moving_0 (en) ((p2).toInt64) ((p3).toInt64) (0))) 4 (f_X1_moving_0 (en) ((p4).toInt64) ((p5).toInt64) (1))) 1 (f_X1_moving_1 (en) ((p0).toInt64) ((p1).toInt64) (0))) 3 (f_X1_moving_1 (en) ((p2).toInt64) ((p3).toInt64) (0))) 5 (f_X1_moving_1 (en) ((p4).toInt64) ((p5).toInt64) (1))))).1, (f_X1_take (en) ((vp_updL (vp_updL (vp_updL (vp_updL (vp_updL (vp_updL nx 0 (f_X1_moving_0 (en) ((p0).toInt64) ((p1).toInt64) (0))) 2 (f_X1_moving_0 (en) ((p2).toInt64) ((p3).toInt64) (0))) 4 (f_X1_moving_0 (en) ((p4).toInt64) ((p5).toInt64) (1))) 1 (f_X1_moving_1 (en) ((p0).toInt64) ((p1).toInt64) (0))) 3 (f_X1_moving_1 (en) ((p2).toInt64) ((p3).toInt64) (0))) 5 (f_X1_moving_1 (en) ((p4).toInt64) ((p5).toInt64) (1))))).2, (vp_updL (vp_updL (vp_updL (vp_updL (vp_updL (vp_updL nx 0 (f_X1_moving_0 (en) ((p0).toInt64) ((p1).toInt64) (0))) 2 (f_X1_moving_0 (en) ((p2).toInt64) ((p3).toInt64) (0))) 4 (f_X1_moving_0 (en) ((p4).toInt64) ((p5).toInt64) (1))) 1 (f_X1_moving_1 (en) ((p0).toInt64) ((p1).toInt64) (0))) 3 (f_X1_moving_1 (en) ((p2).toInt64) ((p3).toInt64) (0))) 5 (f_X1_moving_1 (en) ((p4).toInt64) ((p5).toInt64) (1))))) else (((-1), en, nx))
abbrev rm_X1_before : Room := { frames := 3, cells := 0, slots := 0, locals := 122 }
set_option maxHeartbeats 4000000 in
set_option maxRecDepth 100000 in
theorem cc_X1_before (l : Launch) (dC : Nat → ClassId) (dI : Nat → Nat → Nat) (h0 h1 h2 : Nat) (cI cL : ClassId) (sz : Nat) (vk vn : Int32) (en : Nat → Int32) (nx : Nat → Int64) (vx vy vb : Int32) (p0 : Int32) (p1 : Int32) (p2 : Int32) (p3 : Int32) (p4 : Int32) (p5 : Int32)   : Met l yX1_before wsX1_before rm_X1_before (va_Pc [.ref h0, .int p0, .int p1, .int p2, .int p3, .int p4, .int p5] (mPre dC dI h0 h1 h2 cI cL sz (vk, vn, en, nx, vx, vy, vb))) (mQi dC dI h0 h1 h2 cI cL (va_A (mW h0 h1 h2 cI cL (vk, vn, en, nx, vx, vy, vb)) sz) ((f_X1_before en nx p0 p1 p2 p3 p4 p5).1) (vk, vn, (f_X1_before en nx p0 p1 p2 p3 p4 p5).2.1, (f_X1_before en nx p0 p1 p2 p3 p4 p5).2.2, vx, vy, vb)) 0 0 (va_A (mW h0 h1 h2 cI cL (vk, vn, en, nx, vx, vy, vb)) sz) := by
  refine m_headi (cc := cX1_before) (maxL := 8) (ret := some .int) (by decide) rfl rfl (Nat.le_of_ble_eq_true rfl) ?_
  intro p e s m below meth c ls A hx hb hr hlocks hml hown hts hA hP hD hK htb hS hl
  have hl : lv_has ls 8 [(0, .ref h0), (1, .int p0), (2, .int p1), (3, .int p2), (4, .int p3), (5, .int p4), (6, .int p5)] := hl
  refine lv_iload_n hx hb dX1_before_0 rfl (lv_at hl 1 rfl) ?_
  refine lv_iload_n hx hb dX1_before_1 rfl (lv_at hl 2 rfl) ?_
  refine lv_iload_n hx hb dX1_before_2 rfl (lv_at hl 3 rfl) ?_
  refine lv_iload hx hb dX1_before_3 (lv_at hl 4 rfl) ?_
  refine lv_iload hx hb dX1_before_5 (lv_at hl 5 rfl) ?_
  refine lv_iload hx hb dX1_before_7 (lv_at hl 6 rfl) ?_
  refine pu_Si (As := [.int p0, .int p1, .int p2, .int p3, .int p4, .int p5]) (rest := []) ⟨hx, hb, hml, hown, hts⟩ (cc_X1_areBad l _ (p0) (p1) (p2) (p3) (p4) (p5)) 6 gX1_before_X1_areBad rfl rfl rfl hdS_X1_areBad ⟨Nat.le_of_ble_eq_true rfl, Nat.le_of_ble_eq_true rfl⟩ kN_ok kN_at rfl hl.1 rfl (Nat.le_of_ble_eq_true rfl) dX1_before_9 ⟨Nat.zero_le _, Nat.zero_le _⟩ ?_
  refine lv_if_eq (tgt := 17) hx hb dX1_before_12 (by decide) (fun c_1 => ?_) (fun c_1 => ?_)
  · skip
    refine lv_iconst (v := 0) hx hb dX1_before_17 (by decide) ?_
    refine lv_istore (lv' := [(7, .int 0), (0, .ref h0), (1, .int p0), (2, .int p1), (3, .int p2), (4, .int p3), (5, .int p4), (6, .int p5)]) hx hb dX1_before_18 hl (by decide) rfl (fun ls hl => ?_)
    refine lv_iload hx hb dX1_before_20 (lv_at hl 0 rfl) ?_
    refine lv_iconst (v := 2) hx hb dX1_before_22 (by decide) ?_
    refine pi_ge (tgt := 93) hx hb dX1_before_23 (by decide) (fun q => absurd (by decide) q) (fun _ => ?_)
    refine lv_aload_n hx hb dX1_before_26 rfl (lv_at hl 1 rfl) ?_
    refine va_get (D := (dC, dI)) (ci := 1) (v := .ref h2) (C := RX1) (T := TX1) (N := 7) hx hb hts fi_X1_before hown hK hP 0 rfl rfl 3 (by decide) (hts (.fieldLink RX1 17 "FixedPlaneModel" "next" "[J") (by decide +kernel)) (fun _ h9 => h9) rfl dX1_before_27 ?_
    refine lv_iload hx hb dX1_before_30 (lv_at hl 0 rfl) ?_
    refine lv_aload_n hx hb dX1_before_32 rfl (lv_at hl 1 rfl) ?_
    refine lv_iload_n hx hb dX1_before_33 rfl (lv_at hl 2 rfl) ?_
    refine lv_i2l (v := (p0).toInt64) hx hb dX1_before_34 rfl ?_
    refine lv_iload_n hx hb dX1_before_35 rfl (lv_at hl 3 rfl) ?_
    refine lv_i2l (v := (p1).toInt64) hx hb dX1_before_36 rfl ?_
    refine lv_iload hx hb dX1_before_37 (lv_at hl 0 rfl) ?_
    refine lv_iconst (v := 0) hx hb dX1_before_39 (by decide) ?_
    refine mc_l (As := [.long (p0).toInt64, .long (p1).toInt64, .int 0, .int 0]) (rest := [.int 0, .ref h2]) ⟨hx, hb, hml, hown, hts⟩ (cc_X1_moving_0 l dC dI h0 h1 h2 cI cL _ (vk) (vn) (en) (nx) (vx) (vy) (vb) ((p0).toInt64) ((p1).toInt64) (0)) 4 gX1_before_X1_moving rfl rfl rfl hdV_X1_moving ⟨Nat.le_of_ble_eq_true rfl, Nat.le_of_ble_eq_true rfl⟩ hP hD hK hS hA htb rfl hl.1 rfl (Nat.le_of_ble_eq_true rfl) dX1_before_40 ⟨Nat.zero_le _, Nat.zero_le _⟩ (fun H locs hP hD hS => ?_)
    have hP : va_P (dC, dI) vwCl (mW h0 h1 h2 cI cL (vk, vn, en, nx, vx, vy, vb)) H := hP
    have hD : va_D A (mW h0 h1 h2 cI cL (vk, vn, en, nx, vx, vy, vb)) := hD
    refine va_last hx hb hK hP hD hS 2 1 rfl rfl (vp_in_iff.mpr (by decide)) dX1_before_43 (fun H locs hP hD hS => ?_)
    have hP : va_P (dC, dI) vwCl (mW h0 h1 h2 cI cL (vk, vn, en, (vp_updL nx 0 (f_X1_moving_0 (en) ((p0).toInt64) ((p1).toInt64) (0))), vx, vy, vb)) H := hP
    have hD : va_D A (mW h0 h1 h2 cI cL (vk, vn, en, (vp_updL nx 0 (f_X1_moving_0 (en) ((p0).toInt64) ((p1).toInt64) (0))), vx, vy, vb)) := hD
    refine lv_aload_n hx hb dX1_before_44 rfl (lv_at hl 1 rfl) ?_
    refine va_get (D := (dC, dI)) (ci := 1) (v := .ref h2) (C := RX1) (T := TX1) (N := 7) hx hb hts fi_X1_before hown hK hP 0 rfl rfl 3 (by decide) (hts (.fieldLink RX1 17 "FixedPlaneModel" "next" "[J") (by decide +kernel)) (fun _ h9 => h9) rfl dX1_before_45 ?_
    refine lv_iconst (v := 2) hx hb dX1_before_48 (by decide) ?_
    refine lv_iload hx hb dX1_before_49 (lv_at hl 0 rfl) ?_
    refine lv_iadd hx hb dX1_before_51 ?_
    refine lv_topi (fun v_3 e_4 => ?_)
    have e_4 : v_3 = (2 : Int32) := e_4.trans (by decide)
    subst e_4
    refine lv_aload_n hx hb dX1_before_52 rfl (lv_at hl 1 rfl) ?_
    refine lv_iload_n hx hb dX1_before_53 rfl (lv_at hl 4 rfl) ?_
    refine lv_i2l (v := (p2).toInt64) hx hb dX1_before_54 rfl ?_
    refine lv_iload hx hb dX1_before_55 (lv_at hl 5 rfl) ?_
    refine lv_i2l (v := (p3).toInt64) hx hb dX1_before_57 rfl ?_
    refine lv_iload hx hb dX1_before_58 (lv_at hl 0 rfl) ?_
    refine lv_iconst (v := 0) hx hb dX1_before_60 (by decide) ?_
    refine mc_l (As := [.long (p2).toInt64, .long (p3).toInt64, .int 0, .int 0]) (rest := [.int 2, .ref h2]) ⟨hx, hb, hml, hown, hts⟩ (cc_X1_moving_0 l dC dI h0 h1 h2 cI cL _ (vk) (vn) (en) ((vp_updL nx 0 (f_X1_moving_0 (en) ((p0).toInt64) ((p1).toInt64) (0)))) (vx) (vy) (vb) ((p2).toInt64) ((p3).toInt64) (0)) 4 gX1_before_X1_moving rfl rfl rfl hdV_X1_moving ⟨Nat.le_of_ble_eq_true rfl, Nat.le_of_ble_eq_true rfl⟩ hP hD hK hS hA htb rfl hl.1 rfl (Nat.le_of_ble_eq_true rfl) dX1_before_61 ⟨Nat.zero_le _, Nat.zero_le _⟩ (fun H locs hP hD hS => ?_)
    have hP : va_P (dC, dI) vwCl (mW h0 h1 h2 cI cL (vk, vn, en, (vp_updL nx 0 (f_X1_moving_0 (en) ((p0).toInt64) ((p1).toInt64) (0))), vx, vy, vb)) H := hP
    have hD : va_D A (mW h0 h1 h2 cI cL (vk, vn, en, (vp_updL nx 0 (f_X1_moving_0 (en) ((p0).toInt64) ((p1).toInt64) (0))), vx, vy, vb)) := hD
    refine va_last hx hb hK hP hD hS 2 1 rfl rfl (vp_in_iff.mpr (by decide)) dX1_before_64 (fun H locs hP hD hS => ?_)
    have hP : va_P (dC, dI) vwCl (mW h0 h1 h2 cI cL (vk, vn, en, (vp_updL (vp_updL nx 0 (f_X1_moving_0 (en) ((p0).toInt64) ((p1).toInt64) (0))) 2 (f_X1_moving_0 (en) ((p2).toInt64) ((p3).toInt64) (0))), vx, vy, vb)) H := hP
    have hD : va_D A (mW h0 h1 h2 cI cL (vk, vn, en, (vp_updL (vp_updL nx 0 (f_X1_moving_0 (en) ((p0).toInt64) ((p1).toInt64) (0))) 2 (f_X1_moving_0 (en) ((p2).toInt64) ((p3).toInt64) (0))), vx, vy, vb)) := hD
    refine lv_aload_n hx hb dX1_before_65 rfl (lv_at hl 1 rfl) ?_
    refine va_get (D := (dC, dI)) (ci := 1) (v := .ref h2) (C := RX1) (T := TX1) (N := 7) hx hb hts fi_X1_before hown hK hP 0 rfl rfl 3 (by decide) (hts (.fieldLink RX1 17 "FixedPlaneModel" "next" "[J") (by decide +kernel)) (fun _ h9 => h9) rfl dX1_before_66 ?_
    refine lv_iconst (v := 4) hx hb dX1_before_69 (by decide) ?_
    refine lv_iload hx hb dX1_before_70 (lv_at hl 0 rfl) ?_
    refine lv_iadd hx hb dX1_before_72 ?_
    refine lv_topi (fun v_5 e_6 => ?_)
    have e_6 : v_5 = (4 : Int32) := e_6.trans (by decide)
    subst e_6
    refine lv_aload_n hx hb dX1_before_73 rfl (lv_at hl 1 rfl) ?_
    refine lv_iload hx hb dX1_before_74 (lv_at hl 6 rfl) ?_
    refine lv_i2l (v := (p4).toInt64) hx hb dX1_before_76 rfl ?_
    refine lv_iload hx hb dX1_before_77 (lv_at hl 7 rfl) ?_
    refine lv_i2l (v := (p5).toInt64) hx hb dX1_before_79 rfl ?_
    refine lv_iload hx hb dX1_before_80 (lv_at hl 0 rfl) ?_
    refine lv_iconst (v := 1) hx hb dX1_before_82 (by decide) ?_
    refine mc_l (As := [.long (p4).toInt64, .long (p5).toInt64, .int 0, .int 1]) (rest := [.int 4, .ref h2]) ⟨hx, hb, hml, hown, hts⟩ (cc_X1_moving_0 l dC dI h0 h1 h2 cI cL _ (vk) (vn) (en) ((vp_updL (vp_updL nx 0 (f_X1_moving_0 (en) ((p0).toInt64) ((p1).toInt64) (0))) 2 (f_X1_moving_0 (en) ((p2).toInt64) ((p3).toInt64) (0)))) (vx) (vy) (vb) ((p4).toInt64) ((p5).toInt64) (1)) 4 gX1_before_X1_moving rfl rfl rfl hdV_X1_moving ⟨Nat.le_of_ble_eq_true rfl, Nat.le_of_ble_eq_true rfl⟩ hP hD hK hS hA htb rfl hl.1 rfl (Nat.le_of_ble_eq_true rfl) dX1_before_83 ⟨Nat.zero_le _, Nat.zero_le _⟩ (fun H locs hP hD hS => ?_)
    have hP : va_P (dC, dI) vwCl (mW h0 h1 h2 cI cL (vk, vn, en, (vp_updL (vp_updL nx 0 (f_X1_moving_0 (en) ((p0).toInt64) ((p1).toInt64) (0))) 2 (f_X1_moving_0 (en) ((p2).toInt64) ((p3).toInt64) (0))), vx, vy, vb)) H := hP
    have hD : va_D A (mW h0 h1 h2 cI cL (vk, vn, en, (vp_updL (vp_updL nx 0 (f_X1_moving_0 (en) ((p0).toInt64) ((p1).toInt64) (0))) 2 (f_X1_moving_0 (en) ((p2).toInt64) ((p3).toInt64) (0))), vx, vy, vb)) := hD
    refine va_last hx hb hK hP hD hS 2 1 rfl rfl (vp_in_iff.mpr (by decide)) dX1_before_86 (fun H locs hP hD hS => ?_)
    have hP : va_P (dC, dI) vwCl (mW h0 h1 h2 cI cL (vk, vn, en, (vp_updL (vp_updL (vp_updL nx 0 (f_X1_moving_0 (en) ((p0).toInt64) ((p1).toInt64) (0))) 2 (f_X1_moving_0 (en) ((p2).toInt64) ((p3).toInt64) (0))) 4 (f_X1_moving_0 (en) ((p4).toInt64) ((p5).toInt64) (1))), vx, vy, vb)) H := hP
    have hD : va_D A (mW h0 h1 h2 cI cL (vk, vn, en, (vp_updL (vp_updL (vp_updL nx 0 (f_X1_moving_0 (en) ((p0).toInt64) ((p1).toInt64) (0))) 2 (f_X1_moving_0 (en) ((p2).toInt64) ((p3).toInt64) (0))) 4 (f_X1_moving_0 (en) ((p4).toInt64) ((p5).toInt64) (1))), vx, vy, vb)) := hD
    refine lv_iinc (v := 1) (lv' := [(7, .int 1), (0, .ref h0), (1, .int p0), (2, .int p1), (3, .int p2), (4, .int p3), (5, .int p4), (6, .int p5)]) (k := 0) hx hb dX1_before_87 hl rfl (by decide) (by decide) rfl (fun ls hl => ?_)
    refine lv_goto (tgt := 20) hx hb dX1_before_90 (by decide) ?_
    refine lv_iload hx hb dX1_before_20 (lv_at hl 0 rfl) ?_
    refine lv_iconst (v := 2) hx hb dX1_before_22 (by decide) ?_
    refine pi_ge (tgt := 93) hx hb dX1_before_23 (by decide) (fun q => absurd (by decide) q) (fun _ => ?_)
    refine lv_aload_n hx hb dX1_before_26 rfl (lv_at hl 1 rfl) ?_
    refine va_get (D := (dC, dI)) (ci := 1) (v := .ref h2) (C := RX1) (T := TX1) (N := 7) hx hb hts fi_X1_before hown hK hP 0 rfl rfl 3 (by decide) (hts (.fieldLink RX1 17 "FixedPlaneModel" "next" "[J") (by decide +kernel)) (fun _ h9 => h9) rfl dX1_before_27 ?_
    refine lv_iload hx hb dX1_before_30 (lv_at hl 0 rfl) ?_
    refine lv_aload_n hx hb dX1_before_32 rfl (lv_at hl 1 rfl) ?_
    refine lv_iload_n hx hb dX1_before_33 rfl (lv_at hl 2 rfl) ?_
    refine lv_i2l (v := (p0).toInt64) hx hb dX1_before_34 rfl ?_
    refine lv_iload_n hx hb dX1_before_35 rfl (lv_at hl 3 rfl) ?_
    refine lv_i2l (v := (p1).toInt64) hx hb dX1_before_36 rfl ?_
    refine lv_iload hx hb dX1_before_37 (lv_at hl 0 rfl) ?_
    refine lv_iconst (v := 0) hx hb dX1_before_39 (by decide) ?_
    refine mc_l (As := [.long (p0).toInt64, .long (p1).toInt64, .int 1, .int 0]) (rest := [.int 1, .ref h2]) ⟨hx, hb, hml, hown, hts⟩ (cc_X1_moving_1 l dC dI h0 h1 h2 cI cL _ (vk) (vn) (en) ((vp_updL (vp_updL (vp_updL nx 0 (f_X1_moving_0 (en) ((p0).toInt64) ((p1).toInt64) (0))) 2 (f_X1_moving_0 (en) ((p2).toInt64) ((p3).toInt64) (0))) 4 (f_X1_moving_0 (en) ((p4).toInt64) ((p5).toInt64) (1)))) (vx) (vy) (vb) ((p0).toInt64) ((p1).toInt64) (0)) 4 gX1_before_X1_moving rfl rfl rfl hdV_X1_moving ⟨Nat.le_of_ble_eq_true rfl, Nat.le_of_ble_eq_true rfl⟩ hP hD hK hS hA htb rfl hl.1 rfl (Nat.le_of_ble_eq_true rfl) dX1_before_40 ⟨Nat.zero_le _, Nat.zero_le _⟩ (fun H locs hP hD hS => ?_)
    have hP : va_P (dC, dI) vwCl (mW h0 h1 h2 cI cL (vk, vn, en, (vp_updL (vp_updL (vp_updL nx 0 (f_X1_moving_0 (en) ((p0).toInt64) ((p1).toInt64) (0))) 2 (f_X1_moving_0 (en) ((p2).toInt64) ((p3).toInt64) (0))) 4 (f_X1_moving_0 (en) ((p4).toInt64) ((p5).toInt64) (1))), vx, vy, vb)) H := hP
    have hD : va_D A (mW h0 h1 h2 cI cL (vk, vn, en, (vp_updL (vp_updL (vp_updL nx 0 (f_X1_moving_0 (en) ((p0).toInt64) ((p1).toInt64) (0))) 2 (f_X1_moving_0 (en) ((p2).toInt64) ((p3).toInt64) (0))) 4 (f_X1_moving_0 (en) ((p4).toInt64) ((p5).toInt64) (1))), vx, vy, vb)) := hD
    refine va_last hx hb hK hP hD hS 2 1 rfl rfl (vp_in_iff.mpr (by decide)) dX1_before_43 (fun H locs hP hD hS => ?_)
    have hP : va_P (dC, dI) vwCl (mW h0 h1 h2 cI cL (vk, vn, en, (vp_updL (vp_updL (vp_updL (vp_updL nx 0 (f_X1_moving_0 (en) ((p0).toInt64) ((p1).toInt64) (0))) 2 (f_X1_moving_0 (en) ((p2).toInt64) ((p3).toInt64) (0))) 4 (f_X1_moving_0 (en) ((p4).toInt64) ((p5).toInt64) (1))) 1 (f_X1_moving_1 (en) ((p0).toInt64) ((p1).toInt64) (0))), vx, vy, vb)) H := hP
    have hD : va_D A (mW h0 h1 h2 cI cL (vk, vn, en, (vp_updL (vp_updL (vp_updL (vp_updL nx 0 (f_X1_moving_0 (en) ((p0).toInt64) ((p1).toInt64) (0))) 2 (f_X1_moving_0 (en) ((p2).toInt64) ((p3).toInt64) (0))) 4 (f_X1_moving_0 (en) ((p4).toInt64) ((p5).toInt64) (1))) 1 (f_X1_moving_1 (en) ((p0).toInt64) ((p1).toInt64) (0))), vx, vy, vb)) := hD
    refine lv_aload_n hx hb dX1_before_44 rfl (lv_at hl 1 rfl) ?_
    refine va_get (D := (dC, dI)) (ci := 1) (v := .ref h2) (C := RX1) (T := TX1) (N := 7) hx hb hts fi_X1_before hown hK hP 0 rfl rfl 3 (by decide) (hts (.fieldLink RX1 17 "FixedPlaneModel" "next" "[J") (by decide +kernel)) (fun _ h9 => h9) rfl dX1_before_45 ?_
    refine lv_iconst (v := 2) hx hb dX1_before_48 (by decide) ?_
    refine lv_iload hx hb dX1_before_49 (lv_at hl 0 rfl) ?_
    refine lv_iadd hx hb dX1_before_51 ?_
    refine lv_topi (fun v_8 e_9 => ?_)
    have e_9 : v_8 = (3 : Int32) := e_9.trans (by decide)
    subst e_9
    refine lv_aload_n hx hb dX1_before_52 rfl (lv_at hl 1 rfl) ?_
    refine lv_iload_n hx hb dX1_before_53 rfl (lv_at hl 4 rfl) ?_
    refine lv_i2l (v := (p2).toInt64) hx hb dX1_before_54 rfl ?_
    refine lv_iload hx hb dX1_before_55 (lv_at hl 5 rfl) ?_
    refine lv_i2l (v := (p3).toInt64) hx hb dX1_before_57 rfl ?_
    refine lv_iload hx hb dX1_before_58 (lv_at hl 0 rfl) ?_
    refine lv_iconst (v := 0) hx hb dX1_before_60 (by decide) ?_
    refine mc_l (As := [.long (p2).toInt64, .long (p3).toInt64, .int 1, .int 0]) (rest := [.int 3, .ref h2]) ⟨hx, hb, hml, hown, hts⟩ (cc_X1_moving_1 l dC dI h0 h1 h2 cI cL _ (vk) (vn) (en) ((vp_updL (vp_updL (vp_updL (vp_updL nx 0 (f_X1_moving_0 (en) ((p0).toInt64) ((p1).toInt64) (0))) 2 (f_X1_moving_0 (en) ((p2).toInt64) ((p3).toInt64) (0))) 4 (f_X1_moving_0 (en) ((p4).toInt64) ((p5).toInt64) (1))) 1 (f_X1_moving_1 (en) ((p0).toInt64) ((p1).toInt64) (0)))) (vx) (vy) (vb) ((p2).toInt64) ((p3).toInt64) (0)) 4 gX1_before_X1_moving rfl rfl rfl hdV_X1_moving ⟨Nat.le_of_ble_eq_true rfl, Nat.le_of_ble_eq_true rfl⟩ hP hD hK hS hA htb rfl hl.1 rfl (Nat.le_of_ble_eq_true rfl) dX1_before_61 ⟨Nat.zero_le _, Nat.zero_le _⟩ (fun H locs hP hD hS => ?_)
    have hP : va_P (dC, dI) vwCl (mW h0 h1 h2 cI cL (vk, vn, en, (vp_updL (vp_updL (vp_updL (vp_updL nx 0 (f_X1_moving_0 (en) ((p0).toInt64) ((p1).toInt64) (0))) 2 (f_X1_moving_0 (en) ((p2).toInt64) ((p3).toInt64) (0))) 4 (f_X1_moving_0 (en) ((p4).toInt64) ((p5).toInt64) (1))) 1 (f_X1_moving_1 (en) ((p0).toInt64) ((p1).toInt64) (0))), vx, vy, vb)) H := hP
    have hD : va_D A (mW h0 h1 h2 cI cL (vk, vn, en, (vp_updL (vp_updL (vp_updL (vp_updL nx 0 (f_X1_moving_0 (en) ((p0).toInt64) ((p1).toInt64) (0))) 2 (f_X1_moving_0 (en) ((p2).toInt64) ((p3).toInt64) (0))) 4 (f_X1_moving_0 (en) ((p4).toInt64) ((p5).toInt64) (1))) 1 (f_X1_moving_1 (en) ((p0).toInt64) ((p1).toInt64) (0))), vx, vy, vb)) := hD
    refine va_last hx hb hK hP hD hS 2 1 rfl rfl (vp_in_iff.mpr (by decide)) dX1_before_64 (fun H locs hP hD hS => ?_)
    have hP : va_P (dC, dI) vwCl (mW h0 h1 h2 cI cL (vk, vn, en, (vp_updL (vp_updL (vp_updL (vp_updL (vp_updL nx 0 (f_X1_moving_0 (en) ((p0).toInt64) ((p1).toInt64) (0))) 2 (f_X1_moving_0 (en) ((p2).toInt64) ((p3).toInt64) (0))) 4 (f_X1_moving_0 (en) ((p4).toInt64) ((p5).toInt64) (1))) 1 (f_X1_moving_1 (en) ((p0).toInt64) ((p1).toInt64) (0))) 3 (f_X1_moving_1 (en) ((p2).toInt64) ((p3).toInt64) (0))), vx, vy, vb)) H := hP
    have hD : va_D A (mW h0 h1 h2 cI cL (vk, vn, en, (vp_updL (vp_updL (vp_updL (vp_updL (vp_updL nx 0 (f_X1_moving_0 (en) ((p0).toInt64) ((p1).toInt64) (0))) 2 (f_X1_moving_0 (en) ((p2).toInt64) ((p3).toInt64) (0))) 4 (f_X1_moving_0 (en) ((p4).toInt64) ((p5).toInt64) (1))) 1 (f_X1_moving_1 (en) ((p0).toInt64) ((p1).toInt64) (0))) 3 (f_X1_moving_1 (en) ((p2).toInt64) ((p3).toInt64) (0))), vx, vy, vb)) := hD
    refine lv_aload_n hx hb dX1_before_65 rfl (lv_at hl 1 rfl) ?_
    refine va_get (D := (dC, dI)) (ci := 1) (v := .ref h2) (C := RX1) (T := TX1) (N := 7) hx hb hts fi_X1_before hown hK hP 0 rfl rfl 3 (by decide) (hts (.fieldLink RX1 17 "FixedPlaneModel" "next" "[J") (by decide +kernel)) (fun _ h9 => h9) rfl dX1_before_66 ?_
    refine lv_iconst (v := 4) hx hb dX1_before_69 (by decide) ?_
    refine lv_iload hx hb dX1_before_70 (lv_at hl 0 rfl) ?_
    refine lv_iadd hx hb dX1_before_72 ?_
    refine lv_topi (fun v_10 e_11 => ?_)
    have e_11 : v_10 = (5 : Int32) := e_11.trans (by decide)
    subst e_11
    refine lv_aload_n hx hb dX1_before_73 rfl (lv_at hl 1 rfl) ?_
    refine lv_iload hx hb dX1_before_74 (lv_at hl 6 rfl) ?_
    refine lv_i2l (v := (p4).toInt64) hx hb dX1_before_76 rfl ?_
    refine lv_iload hx hb dX1_before_77 (lv_at hl 7 rfl) ?_
    refine lv_i2l (v := (p5).toInt64) hx hb dX1_before_79 rfl ?_
    refine lv_iload hx hb dX1_before_80 (lv_at hl 0 rfl) ?_
    refine lv_iconst (v := 1) hx hb dX1_before_82 (by decide) ?_
    refine mc_l (As := [.long (p4).toInt64, .long (p5).toInt64, .int 1, .int 1]) (rest := [.int 5, .ref h2]) ⟨hx, hb, hml, hown, hts⟩ (cc_X1_moving_1 l dC dI h0 h1 h2 cI cL _ (vk) (vn) (en) ((vp_updL (vp_updL (vp_updL (vp_updL (vp_updL nx 0 (f_X1_moving_0 (en) ((p0).toInt64) ((p1).toInt64) (0))) 2 (f_X1_moving_0 (en) ((p2).toInt64) ((p3).toInt64) (0))) 4 (f_X1_moving_0 (en) ((p4).toInt64) ((p5).toInt64) (1))) 1 (f_X1_moving_1 (en) ((p0).toInt64) ((p1).toInt64) (0))) 3 (f_X1_moving_1 (en) ((p2).toInt64) ((p3).toInt64) (0)))) (vx) (vy) (vb) ((p4).toInt64) ((p5).toInt64) (1)) 4 gX1_before_X1_moving rfl rfl rfl hdV_X1_moving ⟨Nat.le_of_ble_eq_true rfl, Nat.le_of_ble_eq_true rfl⟩ hP hD hK hS hA htb rfl hl.1 rfl (Nat.le_of_ble_eq_true rfl) dX1_before_83 ⟨Nat.zero_le _, Nat.zero_le _⟩ (fun H locs hP hD hS => ?_)
    have hP : va_P (dC, dI) vwCl (mW h0 h1 h2 cI cL (vk, vn, en, (vp_updL (vp_updL (vp_updL (vp_updL (vp_updL nx 0 (f_X1_moving_0 (en) ((p0).toInt64) ((p1).toInt64) (0))) 2 (f_X1_moving_0 (en) ((p2).toInt64) ((p3).toInt64) (0))) 4 (f_X1_moving_0 (en) ((p4).toInt64) ((p5).toInt64) (1))) 1 (f_X1_moving_1 (en) ((p0).toInt64) ((p1).toInt64) (0))) 3 (f_X1_moving_1 (en) ((p2).toInt64) ((p3).toInt64) (0))), vx, vy, vb)) H := hP
    have hD : va_D A (mW h0 h1 h2 cI cL (vk, vn, en, (vp_updL (vp_updL (vp_updL (vp_updL (vp_updL nx 0 (f_X1_moving_0 (en) ((p0).toInt64) ((p1).toInt64) (0))) 2 (f_X1_moving_0 (en) ((p2).toInt64) ((p3).toInt64) (0))) 4 (f_X1_moving_0 (en) ((p4).toInt64) ((p5).toInt64) (1))) 1 (f_X1_moving_1 (en) ((p0).toInt64) ((p1).toInt64) (0))) 3 (f_X1_moving_1 (en) ((p2).toInt64) ((p3).toInt64) (0))), vx, vy, vb)) := hD
    refine va_last hx hb hK hP hD hS 2 1 rfl rfl (vp_in_iff.mpr (by decide)) dX1_before_86 (fun H locs hP hD hS => ?_)
    have hP : va_P (dC, dI) vwCl (mW h0 h1 h2 cI cL (vk, vn, en, (vp_updL (vp_updL (vp_updL (vp_updL (vp_updL (vp_updL nx 0 (f_X1_moving_0 (en) ((p0).toInt64) ((p1).toInt64) (0))) 2 (f_X1_moving_0 (en) ((p2).toInt64) ((p3).toInt64) (0))) 4 (f_X1_moving_0 (en) ((p4).toInt64) ((p5).toInt64) (1))) 1 (f_X1_moving_1 (en) ((p0).toInt64) ((p1).toInt64) (0))) 3 (f_X1_moving_1 (en) ((p2).toInt64) ((p3).toInt64) (0))) 5 (f_X1_moving_1 (en) ((p4).toInt64) ((p5).toInt64) (1))), vx, vy, vb)) H := hP
    have hD : va_D A (mW h0 h1 h2 cI cL (vk, vn, en, (vp_updL (vp_updL (vp_updL (vp_updL (vp_updL (vp_updL nx 0 (f_X1_moving_0 (en) ((p0).toInt64) ((p1).toInt64) (0))) 2 (f_X1_moving_0 (en) ((p2).toInt64) ((p3).toInt64) (0))) 4 (f_X1_moving_0 (en) ((p4).toInt64) ((p5).toInt64) (1))) 1 (f_X1_moving_1 (en) ((p0).toInt64) ((p1).toInt64) (0))) 3 (f_X1_moving_1 (en) ((p2).toInt64) ((p3).toInt64) (0))) 5 (f_X1_moving_1 (en) ((p4).toInt64) ((p5).toInt64) (1))), vx, vy, vb)) := hD
    refine lv_iinc (v := 2) (lv' := [(7, .int 2), (0, .ref h0), (1, .int p0), (2, .int p1), (3, .int p2), (4, .int p3), (5, .int p4), (6, .int p5)]) (k := 0) hx hb dX1_before_87 hl rfl (by decide) (by decide) rfl (fun ls hl => ?_)
    refine lv_goto (tgt := 20) hx hb dX1_before_90 (by decide) ?_
    refine lv_iload hx hb dX1_before_20 (lv_at hl 0 rfl) ?_
    refine lv_iconst (v := 2) hx hb dX1_before_22 (by decide) ?_
    refine pi_ge (tgt := 93) hx hb dX1_before_23 (by decide) (fun _ => ?_) (fun q => absurd q (by decide))
    refine lv_aload_n hx hb dX1_before_93 rfl (lv_at hl 1 rfl) ?_
    refine mc_i (As := []) (rest := []) ⟨hx, hb, hml, hown, hts⟩ (cc_X1_take l dC dI h0 h1 h2 cI cL _ (vk) (vn) (en) ((vp_updL (vp_updL (vp_updL (vp_updL (vp_updL (vp_updL nx 0 (f_X1_moving_0 (en) ((p0).toInt64) ((p1).toInt64) (0))) 2 (f_X1_moving_0 (en) ((p2).toInt64) ((p3).toInt64) (0))) 4 (f_X1_moving_0 (en) ((p4).toInt64) ((p5).toInt64) (1))) 1 (f_X1_moving_1 (en) ((p0).toInt64) ((p1).toInt64) (0))) 3 (f_X1_moving_1 (en) ((p2).toInt64) ((p3).toInt64) (0))) 5 (f_X1_moving_1 (en) ((p4).toInt64) ((p5).toInt64) (1)))) (vx) (vy) (vb) ) 0 gX1_before_X1_take rfl rfl rfl hdV_X1_take ⟨Nat.le_of_ble_eq_true rfl, Nat.le_of_ble_eq_true rfl⟩ hP hD hK hS hA htb rfl hl.1 rfl (Nat.le_of_ble_eq_true rfl) dX1_before_94 ⟨Nat.zero_le _, Nat.zero_le _⟩ (fun H locs hP hD hS => ?_)
    have hP : va_P (dC, dI) vwCl (mW h0 h1 h2 cI cL (vk, vn, (f_X1_take (en) ((vp_updL (vp_updL (vp_updL (vp_updL (vp_updL (vp_updL nx 0 (f_X1_moving_0 (en) ((p0).toInt64) ((p1).toInt64) (0))) 2 (f_X1_moving_0 (en) ((p2).toInt64) ((p3).toInt64) (0))) 4 (f_X1_moving_0 (en) ((p4).toInt64) ((p5).toInt64) (1))) 1 (f_X1_moving_1 (en) ((p0).toInt64) ((p1).toInt64) (0))) 3 (f_X1_moving_1 (en) ((p2).toInt64) ((p3).toInt64) (0))) 5 (f_X1_moving_1 (en) ((p4).toInt64) ((p5).toInt64) (1))))).2, (vp_updL (vp_updL (vp_updL (vp_updL (vp_updL (vp_updL nx 0 (f_X1_moving_0 (en) ((p0).toInt64) ((p1).toInt64) (0))) 2 (f_X1_moving_0 (en) ((p2).toInt64) ((p3).toInt64) (0))) 4 (f_X1_moving_0 (en) ((p4).toInt64) ((p5).toInt64) (1))) 1 (f_X1_moving_1 (en) ((p0).toInt64) ((p1).toInt64) (0))) 3 (f_X1_moving_1 (en) ((p2).toInt64) ((p3).toInt64) (0))) 5 (f_X1_moving_1 (en) ((p4).toInt64) ((p5).toInt64) (1))), vx, vy, vb)) H := hP
    have hD : va_D A (mW h0 h1 h2 cI cL (vk, vn, (f_X1_take (en) ((vp_updL (vp_updL (vp_updL (vp_updL (vp_updL (vp_updL nx 0 (f_X1_moving_0 (en) ((p0).toInt64) ((p1).toInt64) (0))) 2 (f_X1_moving_0 (en) ((p2).toInt64) ((p3).toInt64) (0))) 4 (f_X1_moving_0 (en) ((p4).toInt64) ((p5).toInt64) (1))) 1 (f_X1_moving_1 (en) ((p0).toInt64) ((p1).toInt64) (0))) 3 (f_X1_moving_1 (en) ((p2).toInt64) ((p3).toInt64) (0))) 5 (f_X1_moving_1 (en) ((p4).toInt64) ((p5).toInt64) (1))))).2, (vp_updL (vp_updL (vp_updL (vp_updL (vp_updL (vp_updL nx 0 (f_X1_moving_0 (en) ((p0).toInt64) ((p1).toInt64) (0))) 2 (f_X1_moving_0 (en) ((p2).toInt64) ((p3).toInt64) (0))) 4 (f_X1_moving_0 (en) ((p4).toInt64) ((p5).toInt64) (1))) 1 (f_X1_moving_1 (en) ((p0).toInt64) ((p1).toInt64) (0))) 3 (f_X1_moving_1 (en) ((p2).toInt64) ((p3).toInt64) (0))) 5 (f_X1_moving_1 (en) ((p4).toInt64) ((p5).toInt64) (1))), vx, vy, vb)) := hD
    have hE : f_X1_before en nx p0 p1 p2 p3 p4 p5 = ((f_X1_take (en) ((vp_updL (vp_updL (vp_updL (vp_updL (vp_updL (vp_updL nx 0 (f_X1_moving_0 (en) ((p0).toInt64) ((p1).toInt64) (0))) 2 (f_X1_moving_0 (en) ((p2).toInt64) ((p3).toInt64) (0))) 4 (f_X1_moving_0 (en) ((p4).toInt64) ((p5).toInt64) (1))) 1 (f_X1_moving_1 (en) ((p0).toInt64) ((p1).toInt64) (0))) 3 (f_X1_moving_1 (en) ((p2).toInt64) ((p3).toInt64) (0))) 5 (f_X1_moving_1 (en) ((p4).toInt64) ((p5).toInt64) (1))))).1, (f_X1_take (en) ((vp_updL (vp_updL (vp_updL (vp_updL (vp_updL (vp_updL nx 0 (f_X1_moving_0 (en) ((p0).toInt64) ((p1).toInt64) (0))) 2 (f_X1_moving_0 (en) ((p2).toInt64) ((p3).toInt64) (0))) 4 (f_X1_moving_0 (en) ((p4).toInt64) ((p5).toInt64) (1))) 1 (f_X1_moving_1 (en) ((p0).toInt64) ((p1).toInt64) (0))) 3 (f_X1_moving_1 (en) ((p2).toInt64) ((p3).toInt64) (0))) 5 (f_X1_moving_1 (en) ((p4).toInt64) ((p5).toInt64) (1))))).2, (vp_updL (vp_updL (vp_updL (vp_updL (vp_updL (vp_updL nx 0 (f_X1_moving_0 (en) ((p0).toInt64) ((p1).toInt64) (0))) 2 (f_X1_moving_0 (en) ((p2).toInt64) ((p3).toInt64) (0))) 4 (f_X1_moving_0 (en) ((p4).toInt64) ((p5).toInt64) (1))) 1 (f_X1_moving_1 (en) ((p0).toInt64) ((p1).toInt64) (0))) 3 (f_X1_moving_1 (en) ((p2).toInt64) ((p3).toInt64) (0))) 5 (f_X1_moving_1 (en) ((p4).toInt64) ((p5).toInt64) (1)))) := (by rw [f_X1_before, if_pos c_1])
    exact m_iret hx hb hr hlocks hP hD hK hS dX1_before_97 ⟨by rw [hE], by rw [hE]⟩
  · skip
    refine lv_iconst (v := (-1)) hx hb dX1_before_15 (by decide) ?_
    have hE : f_X1_before en nx p0 p1 p2 p3 p4 p5 = ((-1), en, nx) := (by rw [f_X1_before, if_neg c_1])
    exact m_iret hx hb hr hlocks hP hD hK hS dX1_before_16 ⟨by rw [hE], by rw [hE]⟩
