theorem hdV_X1_invert : yX1_invert.cls = RX1 ∧ yX1_invert.cls ≠ "java/lang/invoke/MethodHandle" ∧ yX1_invert.cls ≠ "java/lang/invoke/VarHandle" ∧ (parseMethodDescriptor yX1_invert.desc).map (fun d => d.parameters.length) = some 0 := by decide +kernel
theorem fi_X1_invert : ∀ w ∈ wsX10, w ∈ wsX1_invert := fun _ h => List.mem_cons_of_mem _ (List.mem_append_right _ h)
def f_X1_invert (en : Nat → Int32) (nx : Nat → Int64) (vb : Int32) : Int32 × (Nat → Int32) × (Nat → Int64) × Int32 := if ((((en 0)).toInt64 * ((en 3)).toInt64) - (((en 1)).toInt64 * ((en 2)).toInt64)) = 0 then (((-3), en, nx, vb)) else (if (f_X1_quotient_0 (((((en 3)).toInt64 * 65536) * 65536)) (((((en 0)).toInt64 * ((en 3)).toInt64) - (((en 1)).toInt64 * ((en 2)).toInt64)))).2 = 0 then (if (f_X1_quotient_0 ((((-((en 1)).toInt64) * 65536) * 65536)) (((((en 0)).toInt64 * ((en 3)).toInt64) - (((en 1)).toInt64 * ((en 2)).toInt64)))).2 = 0 then (if (f_X1_quotient_0 ((((-((en 2)).toInt64) * 65536) * 65536)) (((((en 0)).toInt64 * ((en 3)).toInt64) - (((en 1)).toInt64 * ((en 2)).toInt64)))).2 = 0 then (if (f_X1_quotient_0 (((((en 0)).toInt64 * 65536) * 65536)) (((((en 0)).toInt64 * ((en 3)).toInt64) - (((en 1)).toInt64 * ((en 2)).toInt64)))).2 = 0 then (if (f_X1_quotient_16 (((((en 2)).toInt64 * ((en 5)).toInt64) - (((en 3)).toInt64 * ((en 4)).toInt64))) (((((en 0)).toInt64 * ((en 3)).toInt64) - (((en 1)).toInt64 * ((en 2)).toInt64)))).2 = 0 then (if (f_X1_quotient_16 (((((en 1)).toInt64 * ((en 4)).toInt64) - (((en 0)).toInt64 * ((en 5)).toInt64))) (((((en 0)).toInt64 * ((en 3)).toInt64) - (((en 1)).toInt64 * ((en 2)).toInt64)))).2 = 0 then (((f_X1_take (en) ((vp_updL (vp_updL (vp_updL (vp_updL (vp_updL (vp_updL nx 0 (f_X1_quotient_0 (((((en 3)).toInt64 * 65536) * 65536)) (((((en 0)).toInt64 * ((en 3)).toInt64) - (((en 1)).toInt64 * ((en 2)).toInt64)))).1) 1 (f_X1_quotient_0 ((((-((en 1)).toInt64) * 65536) * 65536)) (((((en 0)).toInt64 * ((en 3)).toInt64) - (((en 1)).toInt64 * ((en 2)).toInt64)))).1) 2 (f_X1_quotient_0 ((((-((en 2)).toInt64) * 65536) * 65536)) (((((en 0)).toInt64 * ((en 3)).toInt64) - (((en 1)).toInt64 * ((en 2)).toInt64)))).1) 3 (f_X1_quotient_0 (((((en 0)).toInt64 * 65536) * 65536)) (((((en 0)).toInt64 * ((en 3)).toInt64) - (((en 1)).toInt64 * ((en 2)).toInt64)))).1) 4 (f_X1_quotient_16 (((((en 2)).toInt64 * ((en 5)).toInt64) - (((en 3)).toInt64 * ((en 4)).toInt64))) (((((en 0)).toInt64 * ((en 3)).toInt64) - (((en 1)).toInt64 * ((en 2)).toInt64)))).1) 5 (f_X1_quotient_16 (((((en 1)).toInt64 * ((en 4)).toInt64) - (((en 0)).toInt64 * ((en 5)).toInt64))) (((((en 0)).toInt64 * ((en 3)).toInt64) - (((en 1)).toInt64 * ((en 2)).toInt64)))).1))).1, (f_X1_take (en) ((vp_updL (vp_updL (vp_updL (vp_updL (vp_updL (vp_updL nx 0 (f_X1_quotient_0 (((((en 3)).toInt64 * 65536) * 65536)) (((((en 0)).toInt64 * ((en 3)).toInt64) - (((en 1)).toInt64 * ((en 2)).toInt64)))).1) 1 (f_X1_quotient_0 ((((-((en 1)).toInt64) * 65536) * 65536)) (((((en 0)).toInt64 * ((en 3)).toInt64) - (((en 1)).toInt64 * ((en 2)).toInt64)))).1) 2 (f_X1_quotient_0 ((((-((en 2)).toInt64) * 65536) * 65536)) (((((en 0)).toInt64 * ((en 3)).toInt64) - (((en 1)).toInt64 * ((en 2)).toInt64)))).1) 3 (f_X1_quotient_0 (((((en 0)).toInt64 * 65536) * 65536)) (((((en 0)).toInt64 * ((en 3)).toInt64) - (((en 1)).toInt64 * ((en 2)).toInt64)))).1) 4 (f_X1_quotient_16 (((((en 2)).toInt64 * ((en 5)).toInt64) - (((en 3)).toInt64 * ((en 4)).toInt64))) (((((en 0)).toInt64 * ((en 3)).toInt64) - (((en 1)).toInt64 * ((en 2)).toInt64)))).1) 5 (f_X1_quotient_16 (((((en 1)).toInt64 * ((en 4)).toInt64) - (((en 0)).toInt64 * ((en 5)).toInt64))) (((((en 0)).toInt64 * ((en 3)).toInt64) - (((en 1)).toInt64 * ((en 2)).toInt64)))).1))).2, (vp_updL (vp_updL (vp_updL (vp_updL (vp_updL (vp_updL nx 0 (f_X1_quotient_0 (((((en 3)).toInt64 * 65536) * 65536)) (((((en 0)).toInt64 * ((en 3)).toInt64) - (((en 1)).toInt64 * ((en 2)).toInt64)))).1) 1 (f_X1_quotient_0 ((((-((en 1)).toInt64) * 65536) * 65536)) (((((en 0)).toInt64 * ((en 3)).toInt64) - (((en 1)).toInt64 * ((en 2)).toInt64)))).1) 2 (f_X1_quotient_0 ((((-((en 2)).toInt64) * 65536) * 65536)) (((((en 0)).toInt64 * ((en 3)).toInt64) - (((en 1)).toInt64 * ((en 2)).toInt64)))).1) 3 (f_X1_quotient_0 (((((en 0)).toInt64 * 65536) * 65536)) (((((en 0)).toInt64 * ((en 3)).toInt64) - (((en 1)).toInt64 * ((en 2)).toInt64)))).1) 4 (f_X1_quotient_16 (((((en 2)).toInt64 * ((en 5)).toInt64) - (((en 3)).toInt64 * ((en 4)).toInt64))) (((((en 0)).toInt64 * ((en 3)).toInt64) - (((en 1)).toInt64 * ((en 2)).toInt64)))).1) 5 (f_X1_quotient_16 (((((en 1)).toInt64 * ((en 4)).toInt64) - (((en 0)).toInt64 * ((en 5)).toInt64))) (((((en 0)).toInt64 * ((en 3)).toInt64) - (((en 1)).toInt64 * ((en 2)).toInt64)))).1), (f_X1_quotient_16 (((((en 1)).toInt64 * ((en 4)).toInt64) - (((en 0)).toInt64 * ((en 5)).toInt64))) (((((en 0)).toInt64 * ((en 3)).toInt64) - (((en 1)).toInt64 * ((en 2)).toInt64)))).2)) else (((-2), en, (vp_updL (vp_updL (vp_updL (vp_updL (vp_updL (vp_updL nx 0 (f_X1_quotient_0 (((((en 3)).toInt64 * 65536) * 65536)) (((((en 0)).toInt64 * ((en 3)).toInt64) - (((en 1)).toInt64 * ((en 2)).toInt64)))).1) 1 (f_X1_quotient_0 ((((-((en 1)).toInt64) * 65536) * 65536)) (((((en 0)).toInt64 * ((en 3)).toInt64) - (((en 1)).toInt64 * ((en 2)).toInt64)))).1) 2 (f_X1_quotient_0 ((((-((en 2)).toInt64) * 65536) * 65536)) (((((en 0)).toInt64 * ((en 3)).toInt64) - (((en 1)).toInt64 * ((en 2)).toInt64)))).1) 3 (f_X1_quotient_0 (((((en 0)).toInt64 * 65536) * 65536)) (((((en 0)).toInt64 * ((en 3)).toInt64) - (((en 1)).toInt64 * ((en 2)).toInt64)))).1) 4 (f_X1_quotient_16 (((((en 2)).toInt64 * ((en 5)).toInt64) - (((en 3)).toInt64 * ((en 4)).toInt64))) (((((en 0)).toInt64 * ((en 3)).toInt64) - (((en 1)).toInt64 * ((en 2)).toInt64)))).1) 5 (f_X1_quotient_16 (((((en 1)).toInt64 * ((en 4)).toInt64) - (((en 0)).toInt64 * ((en 5)).toInt64))) (((((en 0)).toInt64 * ((en 3)).toInt64) - (((en 1)).toInt64 * ((en 2)).toInt64)))).1), (f_X1_quotient_16 (((((en 1)).toInt64 * ((en 4)).toInt64) - (((en 0)).toInt64 * ((en 5)).toInt64))) (((((en 0)).toInt64 * ((en 3)).toInt64) - (((en 1)).toInt64 * ((en 2)).toInt64)))).2))) else (((-2), en, (vp_updL (vp_updL (vp_updL (vp_updL (vp_updL (vp_updL nx 0 (f_X1_quotient_0 (((((en 3)).toInt64 * 65536) * 65536)) (((((en 0)).toInt64 * ((en 3)).toInt64) - (((en 1)).toInt64 * ((en 2)).toInt64)))).1) 1 (f_X1_quotient_0 ((((-((en 1)).toInt64) * 65536) * 65536)) (((((en 0)).toInt64 * ((en 3)).toInt64) - (((en 1)).toInt64 * ((en 2)).toInt64)))).1) 2 (f_X1_quotient_0 ((((-((en 2)).toInt64) * 65536) * 65536)) (((((en 0)).toInt64 * ((en 3)).toInt64) - (((en 1)).toInt64 * ((en 2)).toInt64)))).1) 3 (f_X1_quotient_0 (((((en 0)).toInt64 * 65536) * 65536)) (((((en 0)).toInt64 * ((en 3)).toInt64) - (((en 1)).toInt64 * ((en 2)).toInt64)))).1) 4 (f_X1_quotient_16 (((((en 2)).toInt64 * ((en 5)).toInt64) - (((en 3)).toInt64 * ((en 4)).toInt64))) (((((en 0)).toInt64 * ((en 3)).toInt64) - (((en 1)).toInt64 * ((en 2)).toInt64)))).1) 5 (f_X1_quotient_16 (((((en 1)).toInt64 * ((en 4)).toInt64) - (((en 0)).toInt64 * ((en 5)).toInt64))) (((((en 0)).toInt64 * ((en 3)).toInt64) - (((en 1)).toInt64 * ((en 2)).toInt64)))).1), (f_X1_quotient_16 (((((en 1)).toInt64 * ((en 4)).toInt64) - (((en 0)).toInt64 * ((en 5)).toInt64))) (((((en 0)).toInt64 * ((en 3)).toInt64) - (((en 1)).toInt64 * ((en 2)).toInt64)))).2))) else (((-2), en, (vp_updL (vp_updL (vp_updL (vp_updL (vp_updL (vp_updL nx 0 (f_X1_quotient_0 (((((en 3)).toInt64 * 65536) * 65536)) (((((en 0)).toInt64 * ((en 3)).toInt64) - (((en 1)).toInt64 * ((en 2)).toInt64)))).1) 1 (f_X1_quotient_0 ((((-((en 1)).toInt64) * 65536) * 65536)) (((((en 0)).toInt64 * ((en 3)).toInt64) - (((en 1)).toInt64 * ((en 2)).toInt64)))).1) 2 (f_X1_quotient_0 ((((-((en 2)).toInt64) * 65536) * 65536)) (((((en 0)).toInt64 * ((en 3)).toInt64) - (((en 1)).toInt64 * ((en 2)).toInt64)))).1) 3 (f_X1_quotient_0 (((((en 0)).toInt64 * 65536) * 65536)) (((((en 0)).toInt64 * ((en 3)).toInt64) - (((en 1)).toInt64 * ((en 2)).toInt64)))).1) 4 (f_X1_quotient_16 (((((en 2)).toInt64 * ((en 5)).toInt64) - (((en 3)).toInt64 * ((en 4)).toInt64))) (((((en 0)).toInt64 * ((en 3)).toInt64) - (((en 1)).toInt64 * ((en 2)).toInt64)))).1) 5 (f_X1_quotient_16 (((((en 1)).toInt64 * ((en 4)).toInt64) - (((en 0)).toInt64 * ((en 5)).toInt64))) (((((en 0)).toInt64 * ((en 3)).toInt64) - (((en 1)).toInt64 * ((en 2)).toInt64)))).1), (f_X1_quotient_16 (((((en 1)).toInt64 * ((en 4)).toInt64) - (((en 0)).toInt64 * ((en 5)).toInt64))) (((((en 0)).toInt64 * ((en 3)).toInt64) - (((en 1)).toInt64 * ((en 2)).toInt64)))).2))) else (((-2), en, (vp_updL (vp_updL (vp_updL (vp_updL (vp_updL (vp_updL nx 0 (f_X1_quotient_0 (((((en 3)).toInt64 * 65536) * 65536)) (((((en 0)).toInt64 * ((en 3)).toInt64) - (((en 1)).toInt64 * ((en 2)).toInt64)))).1) 1 (f_X1_quotient_0 ((((-((en 1)).toInt64) * 65536) * 65536)) (((((en 0)).toInt64 * ((en 3)).toInt64) - (((en 1)).toInt64 * ((en 2)).toInt64)))).1) 2 (f_X1_quotient_0 ((((-((en 2)).toInt64) * 65536) * 65536)) (((((en 0)).toInt64 * ((en 3)).toInt64) - (((en 1)).toInt64 * ((en 2)).toInt64)))).1) 3 (f_X1_quotient_0 (((((en 0)).toInt64 * 65536) * 65536)) (((((en 0)).toInt64 * ((en 3)).toInt64) - (((en 1)).toInt64 * ((en 2)).toInt64)))).1) 4 (f_X1_quotient_16 (((((en 2)).toInt64 * ((en 5)).toInt64) - (((en 3)).toInt64 * ((en 4)).toInt64))) (((((en 0)).toInt64 * ((en 3)).toInt64) - (((en 1)).toInt64 * ((en 2)).toInt64)))).1) 5 (f_X1_quotient_16 (((((en 1)).toInt64 * ((en 4)).toInt64) - (((en 0)).toInt64 * ((en 5)).toInt64))) (((((en 0)).toInt64 * ((en 3)).toInt64) - (((en 1)).toInt64 * ((en 2)).toInt64)))).1), (f_X1_quotient_16 (((((en 1)).toInt64 * ((en 4)).toInt64) - (((en 0)).toInt64 * ((en 5)).toInt64))) (((((en 0)).toInt64 * ((en 3)).toInt64) - (((en 1)).toInt64 * ((en 2)).toInt64)))).2))) else (((-2), en, (vp_updL (vp_updL (vp_updL (vp_updL (vp_updL (vp_updL nx 0 (f_X1_quotient_0 (((((en 3)).toInt64 * 65536) * 65536)) (((((en 0)).toInt64 * ((en 3)).toInt64) - (((en 1)).toInt64 * ((en 2)).toInt64)))).1) 1 (f_X1_quotient_0 ((((-((en 1)).toInt64) * 65536) * 65536)) (((((en 0)).toInt64 * ((en 3)).toInt64) - (((en 1)).toInt64 * ((en 2)).toInt64)))).1) 2 (f_X1_quotient_0 ((((-((en 2)).toInt64) * 65536) * 65536)) (((((en 0)).toInt64 * ((en 3)).toInt64) - (((en 1)).toInt64 * ((en 2)).toInt64)))).1) 3 (f_X1_quotient_0 (((((en 0)).toInt64 * 65536) * 65536)) (((((en 0)).toInt64 * ((en 3)).toInt64) - (((en 1)).toInt64 * ((en 2)).toInt64)))).1) 4 (f_X1_quotient_16 (((((en 2)).toInt64 * ((en 5)).toInt64) - (((en 3)).toInt64 * ((en 4)).toInt64))) (((((en 0)).toInt64 * ((en 3)).toInt64) - (((en 1)).toInt64 * ((en 2)).toInt64)))).1) 5 (f_X1_quotient_16 (((((en 1)).toInt64 * ((en 4)).toInt64) - (((en 0)).toInt64 * ((en 5)).toInt64))) (((((en 0)).toInt64 * ((en 3)).toInt64) - (((en 1)).toInt64 * ((en 2)).toInt64)))).1), (f_X1_quotient_16 (((((en 1)).toInt64 * ((en 4)).toInt64) - (((en 0)).toInt64 * ((en 5)).toInt64))) (((((en 0)).toInt64 * ((en 3)).toInt64) - (((en 1)).toInt64 * ((en 2)).toInt64)))).2))) else (((-2), en, (vp_updL (vp_updL (vp_updL (vp_updL (vp_updL (vp_updL nx 0 (f_X1_quotient_0 (((((en 3)).toInt64 * 65536) * 65536)) (((((en 0)).toInt64 * ((en 3)).toInt64) - (((en 1)).toInt64 * ((en 2)).toInt64)))).1) 1 (f_X1_quotient_0 ((((-((en 1)).toInt64) * 65536) * 65536)) (((((en 0)).toInt64 * ((en 3)).toInt64) - (((en 1)).toInt64 * ((en 2)).toInt64)))).1) 2 (f_X1_quotient_0 ((((-((en 2)).toInt64) * 65536) * 65536)) (((((en 0)).toInt64 * ((en 3)).toInt64) - (((en 1)).toInt64 * ((en 2)).toInt64)))).1) 3 (f_X1_quotient_0 (((((en 0)).toInt64 * 65536) * 65536)) (((((en 0)).toInt64 * ((en 3)).toInt64) - (((en 1)).toInt64 * ((en 2)).toInt64)))).1) 4 (f_X1_quotient_16 (((((en 2)).toInt64 * ((en 5)).toInt64) - (((en 3)).toInt64 * ((en 4)).toInt64))) (((((en 0)).toInt64 * ((en 3)).toInt64) - (((en 1)).toInt64 * ((en 2)).toInt64)))).1) 5 (f_X1_quotient_16 (((((en 1)).toInt64 * ((en 4)).toInt64) - (((en 0)).toInt64 * ((en 5)).toInt64))) (((((en 0)).toInt64 * ((en 3)).toInt64) - (((en 1)).toInt64 * ((en 2)).toInt64)))).1), (f_X1_quotient_16 (((((en 1)).toInt64 * ((en 4)).toInt64) - (((en 0)).toInt64 * ((en 5)).toInt64))) (((((en 0)).toInt64 * ((en 3)).toInt64) - (((en 1)).toInt64 * ((en 2)).toInt64)))).2)))
abbrev rm_X1_invert : Room := { frames := 2, cells := 0, slots := 0, locals := 92 }
set_option maxHeartbeats 4000000 in
set_option maxRecDepth 100000 in
theorem cc_X1_invert (l : Launch) (dC : Nat → ClassId) (dI : Nat → Nat → Nat) (h0 h1 h2 : Nat) (cI cL : ClassId) (sz : Nat) (vk vn : Int32) (en : Nat → Int32) (nx : Nat → Int64) (vx vy vb : Int32)    : Met l yX1_invert wsX1_invert rm_X1_invert (va_Pc [.ref h0] (mPre dC dI h0 h1 h2 cI cL sz (vk, vn, en, nx, vx, vy, vb))) (mQi dC dI h0 h1 h2 cI cL (va_A (mW h0 h1 h2 cI cL (vk, vn, en, nx, vx, vy, vb)) sz) ((f_X1_invert en nx vb).1) (vk, vn, (f_X1_invert en nx vb).2.1, (f_X1_invert en nx vb).2.2.1, vx, vy, (f_X1_invert en nx vb).2.2.2)) 0 0 (va_A (mW h0 h1 h2 cI cL (vk, vn, en, nx, vx, vy, vb)) sz) := by
  refine m_headi (cc := cX1_invert) (maxL := 19) (ret := some .int) (by decide) rfl rfl (Nat.le_of_ble_eq_true rfl) ?_
  intro p e s m below meth c ls A hx hb hr hlocks hml hown hts hA hP hD hK htb hS hl
  have hl : lv_has ls 19 [(0, .ref h0)] := hl
  refine lv_aload_n hx hb dX1_invert_0 rfl (lv_at hl 0 rfl) ?_
  refine va_get (D := (dC, dI)) (ci := 1) (v := .ref h1) (C := RX1) (T := TX1) (N := 7) hx hb hts fi_X1_invert hown hK hP 0 rfl rfl 2 (by decide) (hts (.fieldLink RX1 13 "FixedPlaneModel" "entries" "[I") (by decide +kernel)) (fun _ h9 => h9) rfl dX1_invert_1 ?_
  refine lv_iconst (v := 0) hx hb dX1_invert_4 (by decide) ?_
  refine pm_iald hx hb hK hP 1 0 rfl rfl (v := (en 0)) (vp_in_iff.mpr (by decide)) (rfl) dX1_invert_5 ?_
  refine lv_i2l (v := ((en 0)).toInt64) hx hb dX1_invert_6 rfl ?_
  refine lv_lstore_n (lv' := [(1, .long ((en 0)).toInt64), (0, .ref h0)]) hx hb dX1_invert_7 rfl hl (by decide) rfl (fun ls hl => ?_)
  refine lv_aload_n hx hb dX1_invert_8 rfl (lv_at hl 1 rfl) ?_
  refine va_get (D := (dC, dI)) (ci := 1) (v := .ref h1) (C := RX1) (T := TX1) (N := 7) hx hb hts fi_X1_invert hown hK hP 0 rfl rfl 2 (by decide) (hts (.fieldLink RX1 13 "FixedPlaneModel" "entries" "[I") (by decide +kernel)) (fun _ h9 => h9) rfl dX1_invert_9 ?_
  refine lv_iconst (v := 1) hx hb dX1_invert_12 (by decide) ?_
  refine pm_iald hx hb hK hP 1 0 rfl rfl (v := (en 1)) (vp_in_iff.mpr (by decide)) (rfl) dX1_invert_13 ?_
  refine lv_i2l (v := ((en 1)).toInt64) hx hb dX1_invert_14 rfl ?_
  refine lv_lstore_n (lv' := [(3, .long ((en 1)).toInt64), (1, .long ((en 0)).toInt64), (0, .ref h0)]) hx hb dX1_invert_15 rfl hl (by decide) rfl (fun ls hl => ?_)
  refine lv_aload_n hx hb dX1_invert_16 rfl (lv_at hl 2 rfl) ?_
  refine va_get (D := (dC, dI)) (ci := 1) (v := .ref h1) (C := RX1) (T := TX1) (N := 7) hx hb hts fi_X1_invert hown hK hP 0 rfl rfl 2 (by decide) (hts (.fieldLink RX1 13 "FixedPlaneModel" "entries" "[I") (by decide +kernel)) (fun _ h9 => h9) rfl dX1_invert_17 ?_
  refine lv_iconst (v := 2) hx hb dX1_invert_20 (by decide) ?_
  refine pm_iald hx hb hK hP 1 0 rfl rfl (v := (en 2)) (vp_in_iff.mpr (by decide)) (rfl) dX1_invert_21 ?_
  refine lv_i2l (v := ((en 2)).toInt64) hx hb dX1_invert_22 rfl ?_
  refine lv_lstore (lv' := [(5, .long ((en 2)).toInt64), (3, .long ((en 1)).toInt64), (1, .long ((en 0)).toInt64), (0, .ref h0)]) hx hb dX1_invert_23 hl (by decide) rfl (fun ls hl => ?_)
  refine lv_aload_n hx hb dX1_invert_25 rfl (lv_at hl 3 rfl) ?_
  refine va_get (D := (dC, dI)) (ci := 1) (v := .ref h1) (C := RX1) (T := TX1) (N := 7) hx hb hts fi_X1_invert hown hK hP 0 rfl rfl 2 (by decide) (hts (.fieldLink RX1 13 "FixedPlaneModel" "entries" "[I") (by decide +kernel)) (fun _ h9 => h9) rfl dX1_invert_26 ?_
  refine lv_iconst (v := 3) hx hb dX1_invert_29 (by decide) ?_
  refine pm_iald hx hb hK hP 1 0 rfl rfl (v := (en 3)) (vp_in_iff.mpr (by decide)) (rfl) dX1_invert_30 ?_
  refine lv_i2l (v := ((en 3)).toInt64) hx hb dX1_invert_31 rfl ?_
  refine lv_lstore (lv' := [(7, .long ((en 3)).toInt64), (5, .long ((en 2)).toInt64), (3, .long ((en 1)).toInt64), (1, .long ((en 0)).toInt64), (0, .ref h0)]) hx hb dX1_invert_32 hl (by decide) rfl (fun ls hl => ?_)
  refine lv_aload_n hx hb dX1_invert_34 rfl (lv_at hl 4 rfl) ?_
  refine va_get (D := (dC, dI)) (ci := 1) (v := .ref h1) (C := RX1) (T := TX1) (N := 7) hx hb hts fi_X1_invert hown hK hP 0 rfl rfl 2 (by decide) (hts (.fieldLink RX1 13 "FixedPlaneModel" "entries" "[I") (by decide +kernel)) (fun _ h9 => h9) rfl dX1_invert_35 ?_
  refine lv_iconst (v := 4) hx hb dX1_invert_38 (by decide) ?_
  refine pm_iald hx hb hK hP 1 0 rfl rfl (v := (en 4)) (vp_in_iff.mpr (by decide)) (rfl) dX1_invert_39 ?_
  refine lv_i2l (v := ((en 4)).toInt64) hx hb dX1_invert_40 rfl ?_
  refine lv_lstore (lv' := [(9, .long ((en 4)).toInt64), (7, .long ((en 3)).toInt64), (5, .long ((en 2)).toInt64), (3, .long ((en 1)).toInt64), (1, .long ((en 0)).toInt64), (0, .ref h0)]) hx hb dX1_invert_41 hl (by decide) rfl (fun ls hl => ?_)
  refine lv_aload_n hx hb dX1_invert_43 rfl (lv_at hl 5 rfl) ?_
  refine va_get (D := (dC, dI)) (ci := 1) (v := .ref h1) (C := RX1) (T := TX1) (N := 7) hx hb hts fi_X1_invert hown hK hP 0 rfl rfl 2 (by decide) (hts (.fieldLink RX1 13 "FixedPlaneModel" "entries" "[I") (by decide +kernel)) (fun _ h9 => h9) rfl dX1_invert_44 ?_
  refine lv_iconst (v := 5) hx hb dX1_invert_47 (by decide) ?_
  refine pm_iald hx hb hK hP 1 0 rfl rfl (v := (en 5)) (vp_in_iff.mpr (by decide)) (rfl) dX1_invert_48 ?_
  refine lv_i2l (v := ((en 5)).toInt64) hx hb dX1_invert_49 rfl ?_
  refine lv_lstore (lv' := [(11, .long ((en 5)).toInt64), (9, .long ((en 4)).toInt64), (7, .long ((en 3)).toInt64), (5, .long ((en 2)).toInt64), (3, .long ((en 1)).toInt64), (1, .long ((en 0)).toInt64), (0, .ref h0)]) hx hb dX1_invert_50 hl (by decide) rfl (fun ls hl => ?_)
  refine lv_lload_n hx hb dX1_invert_52 rfl (lv_at hl 5 rfl) ?_
  refine lv_lload hx hb dX1_invert_53 (lv_at hl 2 rfl) ?_
  refine lv_lmul hx hb dX1_invert_55 ?_
  refine lv_lload_n hx hb dX1_invert_56 rfl (lv_at hl 4 rfl) ?_
  refine lv_lload hx hb dX1_invert_57 (lv_at hl 3 rfl) ?_
  refine lv_lmul hx hb dX1_invert_59 ?_
  refine lv_lsub hx hb dX1_invert_60 ?_
  refine lv_topl (fun w_1 ew_2 => ?_)
  refine lv_lstore (lv' := [(13, .long w_1), (11, .long ((en 5)).toInt64), (9, .long ((en 4)).toInt64), (7, .long ((en 3)).toInt64), (5, .long ((en 2)).toInt64), (3, .long ((en 1)).toInt64), (1, .long ((en 0)).toInt64), (0, .ref h0)]) hx hb dX1_invert_61 hl (by decide) rfl (fun ls hl => ?_)
  refine lv_lload hx hb dX1_invert_63 (lv_at hl 0 rfl) ?_
  refine lv_lconst (v := 0) hx hb dX1_invert_65 (by decide) ?_
  refine pl_ne (tgt := 73) hx hb dX1_invert_66 dX1_invert_67 (by decide) (fun c_3 => ?_) (fun c_3 => ?_)
  · skip
    refine lv_iconst (v := 0) hx hb dX1_invert_73 (by decide) ?_
    refine lv_istore (lv' := [(15, .int 0), (13, .long w_1), (11, .long ((en 5)).toInt64), (9, .long ((en 4)).toInt64), (7, .long ((en 3)).toInt64), (5, .long ((en 2)).toInt64), (3, .long ((en 1)).toInt64), (1, .long ((en 0)).toInt64), (0, .ref h0)]) hx hb dX1_invert_74 hl (by decide) rfl (fun ls hl => ?_)
    refine lv_iconst (v := 0) hx hb dX1_invert_76 (by decide) ?_
    refine lv_istore (lv' := [(16, .int 0), (15, .int 0), (13, .long w_1), (11, .long ((en 5)).toInt64), (9, .long ((en 4)).toInt64), (7, .long ((en 3)).toInt64), (5, .long ((en 2)).toInt64), (3, .long ((en 1)).toInt64), (1, .long ((en 0)).toInt64), (0, .ref h0)]) hx hb dX1_invert_77 hl (by decide) rfl (fun ls hl => ?_)
    refine lv_iload hx hb dX1_invert_79 (lv_at hl 0 rfl) ?_
    refine lv_iconst (v := 4) hx hb dX1_invert_81 (by decide) ?_
    refine pi_ge (tgt := 170) hx hb dX1_invert_82 (by decide) (fun q => absurd (by decide) q) (fun _ => ?_)
    refine lv_iload hx hb dX1_invert_85 (lv_at hl 0 rfl) ?_
    refine lv_if_ne (tgt := 95) hx hb dX1_invert_87 (by decide) (fun q => absurd (by decide) q) (fun _ => ?_)
    refine lv_lload hx hb dX1_invert_90 (lv_at hl 5 rfl) ?_
    refine lv_goto (tgt := 119) hx hb dX1_invert_92 (by decide) ?_
    refine lv_lstore (lv' := [(17, .long ((en 3)).toInt64), (16, .int 0), (15, .int 0), (13, .long w_1), (11, .long ((en 5)).toInt64), (9, .long ((en 4)).toInt64), (7, .long ((en 3)).toInt64), (5, .long ((en 2)).toInt64), (3, .long ((en 1)).toInt64), (1, .long ((en 0)).toInt64), (0, .ref h0)]) hx hb dX1_invert_119 hl (by decide) rfl (fun ls hl => ?_)
    refine lv_aload_n hx hb dX1_invert_121 rfl (lv_at hl 10 rfl) ?_
    refine va_get (D := (dC, dI)) (ci := 1) (v := .ref h2) (C := RX1) (T := TX1) (N := 7) hx hb hts fi_X1_invert hown hK hP 0 rfl rfl 3 (by decide) (hts (.fieldLink RX1 17 "FixedPlaneModel" "next" "[J") (by decide +kernel)) (fun _ h9 => h9) rfl dX1_invert_122 ?_
    refine lv_iload hx hb dX1_invert_125 (lv_at hl 1 rfl) ?_
    refine lv_aload_n hx hb dX1_invert_127 rfl (lv_at hl 10 rfl) ?_
    refine lv_lload hx hb dX1_invert_128 (lv_at hl 0 rfl) ?_
    refine lv_ldc2 (v := 65536) hx hb hown (hts (.constantLong RX1 23 (65536)) (by decide +kernel)) dX1_invert_130 ?_
    refine lv_lmul hx hb dX1_invert_133 ?_
    refine lv_ldc2 (v := 65536) hx hb hown (hts (.constantLong RX1 23 (65536)) (by decide +kernel)) dX1_invert_134 ?_
    refine lv_lmul hx hb dX1_invert_137 ?_
    refine lv_lload hx hb dX1_invert_138 (lv_at hl 3 rfl) ?_
    refine lv_iconst (v := 0) hx hb dX1_invert_140 (by decide) ?_
    refine mc_l (As := [.long ((((en 3)).toInt64 * 65536) * 65536), .long w_1, .int 0]) (rest := [.int 0, .ref h2]) ⟨hx, hb, hml, hown, hts⟩ (cc_X1_quotient_0 l dC dI h0 h1 h2 cI cL _ (vk) (vn) (en) (nx) (vx) (vy) (vb) (((((en 3)).toInt64 * 65536) * 65536)) (w_1) (c_3)) 3 gX1_invert_X1_quotient rfl rfl rfl hdV_X1_quotient ⟨Nat.le_of_ble_eq_true rfl, Nat.le_of_ble_eq_true rfl⟩ hP hD hK hS hA htb rfl hl.1 rfl (Nat.le_of_ble_eq_true rfl) dX1_invert_141 ⟨Nat.zero_le _, Nat.zero_le _⟩ (fun H locs hP hD hS => ?_)
    have hP : va_P (dC, dI) vwCl (mW h0 h1 h2 cI cL (vk, vn, en, nx, vx, vy, (f_X1_quotient_0 (((((en 3)).toInt64 * 65536) * 65536)) (w_1)).2)) H := hP
    have hD : va_D A (mW h0 h1 h2 cI cL (vk, vn, en, nx, vx, vy, (f_X1_quotient_0 (((((en 3)).toInt64 * 65536) * 65536)) (w_1)).2)) := hD
    obtain ⟨b_6, eb_7⟩ : ∃ b : Int32, b = (f_X1_quotient_0 (((((en 3)).toInt64 * 65536) * 65536)) (w_1)).2 := ⟨_, rfl⟩
    rw [← eb_7] at hP hD
    refine lv_topl (fun w_8 ew_9 => ?_)
    refine va_last hx hb hK hP hD hS 2 1 rfl rfl (vp_in_iff.mpr (by decide)) dX1_invert_144 (fun H locs hP hD hS => ?_)
    have hP : va_P (dC, dI) vwCl (mW h0 h1 h2 cI cL (vk, vn, en, (vp_updL nx 0 w_8), vx, vy, b_6)) H := hP
    have hD : va_D A (mW h0 h1 h2 cI cL (vk, vn, en, (vp_updL nx 0 w_8), vx, vy, b_6)) := hD
    refine lv_iload hx hb dX1_invert_145 (lv_at hl 2 rfl) ?_
    refine lv_if_ne (tgt := 157) hx hb dX1_invert_147 (by decide) (fun q => absurd (by decide) q) (fun _ => ?_)
    refine lv_aload_n hx hb dX1_invert_150 rfl (lv_at hl 10 rfl) ?_
    refine va_get (D := (dC, dI)) (ci := 1) (v := .int b_6) (C := RX1) (T := TX1) (N := 7) hx hb hts fi_X1_invert hown hK hP 0 rfl rfl 6 (by decide) (hts (.fieldLink RX1 44 "FixedPlaneModel" "beyond" "Z") (by decide +kernel)) (fun _ h9 => h9) rfl dX1_invert_151 ?_
    refine lv_if_eq (tgt := 161) hx hb dX1_invert_154 (by decide) (fun c_11 => ?_) (fun c_11 => ?_)
    · skip
      refine lv_iconst (v := 0) hx hb dX1_invert_161 (by decide) ?_
      refine lv_istore (lv' := [(15, .int 0), (17, .long ((en 3)).toInt64), (16, .int 0), (13, .long w_1), (11, .long ((en 5)).toInt64), (9, .long ((en 4)).toInt64), (7, .long ((en 3)).toInt64), (5, .long ((en 2)).toInt64), (3, .long ((en 1)).toInt64), (1, .long ((en 0)).toInt64), (0, .ref h0)]) hx hb dX1_invert_162 hl (by decide) rfl (fun ls hl => ?_)
      refine lv_iinc (v := 1) (lv' := [(16, .int 1), (15, .int 0), (17, .long ((en 3)).toInt64), (13, .long w_1), (11, .long ((en 5)).toInt64), (9, .long ((en 4)).toInt64), (7, .long ((en 3)).toInt64), (5, .long ((en 2)).toInt64), (3, .long ((en 1)).toInt64), (1, .long ((en 0)).toInt64), (0, .ref h0)]) (k := 2) hx hb dX1_invert_164 hl rfl (by decide) (by decide) rfl (fun ls hl => ?_)
      refine lv_goto (tgt := 79) hx hb dX1_invert_167 (by decide) ?_
      refine lv_iload hx hb dX1_invert_79 (lv_at hl 0 rfl) ?_
      refine lv_iconst (v := 4) hx hb dX1_invert_81 (by decide) ?_
      refine pi_ge (tgt := 170) hx hb dX1_invert_82 (by decide) (fun q => absurd (by decide) q) (fun _ => ?_)
      refine lv_iload hx hb dX1_invert_85 (lv_at hl 0 rfl) ?_
      refine lv_if_ne (tgt := 95) hx hb dX1_invert_87 (by decide) (fun _ => ?_) (fun q => absurd q (by decide))
      refine lv_iload hx hb dX1_invert_95 (lv_at hl 0 rfl) ?_
      refine lv_iconst (v := 1) hx hb dX1_invert_97 (by decide) ?_
      refine lv_icmp_ne (tgt := 106) hx hb dX1_invert_98 (by decide) (fun q => absurd (by decide) q) (fun _ => ?_)
      refine lv_lload_n hx hb dX1_invert_101 rfl (lv_at hl 8 rfl) ?_
      refine lv_lneg hx hb dX1_invert_102 ?_
      refine lv_goto (tgt := 119) hx hb dX1_invert_103 (by decide) ?_
      refine lv_lstore (lv' := [(17, .long (-((en 1)).toInt64)), (16, .int 1), (15, .int 0), (13, .long w_1), (11, .long ((en 5)).toInt64), (9, .long ((en 4)).toInt64), (7, .long ((en 3)).toInt64), (5, .long ((en 2)).toInt64), (3, .long ((en 1)).toInt64), (1, .long ((en 0)).toInt64), (0, .ref h0)]) hx hb dX1_invert_119 hl (by decide) rfl (fun ls hl => ?_)
      refine lv_aload_n hx hb dX1_invert_121 rfl (lv_at hl 10 rfl) ?_
      refine va_get (D := (dC, dI)) (ci := 1) (v := .ref h2) (C := RX1) (T := TX1) (N := 7) hx hb hts fi_X1_invert hown hK hP 0 rfl rfl 3 (by decide) (hts (.fieldLink RX1 17 "FixedPlaneModel" "next" "[J") (by decide +kernel)) (fun _ h9 => h9) rfl dX1_invert_122 ?_
      refine lv_iload hx hb dX1_invert_125 (lv_at hl 1 rfl) ?_
      refine lv_aload_n hx hb dX1_invert_127 rfl (lv_at hl 10 rfl) ?_
      refine lv_lload hx hb dX1_invert_128 (lv_at hl 0 rfl) ?_
      refine lv_ldc2 (v := 65536) hx hb hown (hts (.constantLong RX1 23 (65536)) (by decide +kernel)) dX1_invert_130 ?_
      refine lv_lmul hx hb dX1_invert_133 ?_
      refine lv_ldc2 (v := 65536) hx hb hown (hts (.constantLong RX1 23 (65536)) (by decide +kernel)) dX1_invert_134 ?_
      refine lv_lmul hx hb dX1_invert_137 ?_
      refine lv_lload hx hb dX1_invert_138 (lv_at hl 3 rfl) ?_
      refine lv_iconst (v := 0) hx hb dX1_invert_140 (by decide) ?_
      refine mc_l (As := [.long (((-((en 1)).toInt64) * 65536) * 65536), .long w_1, .int 0]) (rest := [.int 1, .ref h2]) ⟨hx, hb, hml, hown, hts⟩ (cc_X1_quotient_0 l dC dI h0 h1 h2 cI cL _ (vk) (vn) (en) ((vp_updL nx 0 w_8)) (vx) (vy) (b_6) ((((-((en 1)).toInt64) * 65536) * 65536)) (w_1) (c_3)) 3 gX1_invert_X1_quotient rfl rfl rfl hdV_X1_quotient ⟨Nat.le_of_ble_eq_true rfl, Nat.le_of_ble_eq_true rfl⟩ hP hD hK hS hA htb rfl hl.1 rfl (Nat.le_of_ble_eq_true rfl) dX1_invert_141 ⟨Nat.zero_le _, Nat.zero_le _⟩ (fun H locs hP hD hS => ?_)
      have hP : va_P (dC, dI) vwCl (mW h0 h1 h2 cI cL (vk, vn, en, (vp_updL nx 0 w_8), vx, vy, (f_X1_quotient_0 ((((-((en 1)).toInt64) * 65536) * 65536)) (w_1)).2)) H := hP
      have hD : va_D A (mW h0 h1 h2 cI cL (vk, vn, en, (vp_updL nx 0 w_8), vx, vy, (f_X1_quotient_0 ((((-((en 1)).toInt64) * 65536) * 65536)) (w_1)).2)) := hD
      obtain ⟨b_15, eb_16⟩ : ∃ b : Int32, b = (f_X1_quotient_0 ((((-((en 1)).toInt64) * 65536) * 65536)) (w_1)).2 := ⟨_, rfl⟩
      rw [← eb_16] at hP hD
      refine lv_topl (fun w_17 ew_18 => ?_)
      refine va_last hx hb hK hP hD hS 2 1 rfl rfl (vp_in_iff.mpr (by decide)) dX1_invert_144 (fun H locs hP hD hS => ?_)
      have hP : va_P (dC, dI) vwCl (mW h0 h1 h2 cI cL (vk, vn, en, (vp_updL (vp_updL nx 0 w_8) 1 w_17), vx, vy, b_15)) H := hP
      have hD : va_D A (mW h0 h1 h2 cI cL (vk, vn, en, (vp_updL (vp_updL nx 0 w_8) 1 w_17), vx, vy, b_15)) := hD
      refine lv_iload hx hb dX1_invert_145 (lv_at hl 2 rfl) ?_
      refine lv_if_ne (tgt := 157) hx hb dX1_invert_147 (by decide) (fun q => absurd (by decide) q) (fun _ => ?_)
      refine lv_aload_n hx hb dX1_invert_150 rfl (lv_at hl 10 rfl) ?_
      refine va_get (D := (dC, dI)) (ci := 1) (v := .int b_15) (C := RX1) (T := TX1) (N := 7) hx hb hts fi_X1_invert hown hK hP 0 rfl rfl 6 (by decide) (hts (.fieldLink RX1 44 "FixedPlaneModel" "beyond" "Z") (by decide +kernel)) (fun _ h9 => h9) rfl dX1_invert_151 ?_
      refine lv_if_eq (tgt := 161) hx hb dX1_invert_154 (by decide) (fun c_20 => ?_) (fun c_20 => ?_)
      · skip
        refine lv_iconst (v := 0) hx hb dX1_invert_161 (by decide) ?_
        refine lv_istore (lv' := [(15, .int 0), (17, .long (-((en 1)).toInt64)), (16, .int 1), (13, .long w_1), (11, .long ((en 5)).toInt64), (9, .long ((en 4)).toInt64), (7, .long ((en 3)).toInt64), (5, .long ((en 2)).toInt64), (3, .long ((en 1)).toInt64), (1, .long ((en 0)).toInt64), (0, .ref h0)]) hx hb dX1_invert_162 hl (by decide) rfl (fun ls hl => ?_)
        refine lv_iinc (v := 2) (lv' := [(16, .int 2), (15, .int 0), (17, .long (-((en 1)).toInt64)), (13, .long w_1), (11, .long ((en 5)).toInt64), (9, .long ((en 4)).toInt64), (7, .long ((en 3)).toInt64), (5, .long ((en 2)).toInt64), (3, .long ((en 1)).toInt64), (1, .long ((en 0)).toInt64), (0, .ref h0)]) (k := 2) hx hb dX1_invert_164 hl rfl (by decide) (by decide) rfl (fun ls hl => ?_)
        refine lv_goto (tgt := 79) hx hb dX1_invert_167 (by decide) ?_
        refine lv_iload hx hb dX1_invert_79 (lv_at hl 0 rfl) ?_
        refine lv_iconst (v := 4) hx hb dX1_invert_81 (by decide) ?_
        refine pi_ge (tgt := 170) hx hb dX1_invert_82 (by decide) (fun q => absurd (by decide) q) (fun _ => ?_)
        refine lv_iload hx hb dX1_invert_85 (lv_at hl 0 rfl) ?_
        refine lv_if_ne (tgt := 95) hx hb dX1_invert_87 (by decide) (fun _ => ?_) (fun q => absurd q (by decide))
        refine lv_iload hx hb dX1_invert_95 (lv_at hl 0 rfl) ?_
        refine lv_iconst (v := 1) hx hb dX1_invert_97 (by decide) ?_
        refine lv_icmp_ne (tgt := 106) hx hb dX1_invert_98 (by decide) (fun _ => ?_) (fun q => absurd q (by decide))
        refine lv_iload hx hb dX1_invert_106 (lv_at hl 0 rfl) ?_
        refine lv_iconst (v := 2) hx hb dX1_invert_108 (by decide) ?_
        refine lv_icmp_ne (tgt := 118) hx hb dX1_invert_109 (by decide) (fun q => absurd (by decide) q) (fun _ => ?_)
        refine lv_lload hx hb dX1_invert_112 (lv_at hl 7 rfl) ?_
        refine lv_lneg hx hb dX1_invert_114 ?_
        refine lv_goto (tgt := 119) hx hb dX1_invert_115 (by decide) ?_
        refine lv_lstore (lv' := [(17, .long (-((en 2)).toInt64)), (16, .int 2), (15, .int 0), (13, .long w_1), (11, .long ((en 5)).toInt64), (9, .long ((en 4)).toInt64), (7, .long ((en 3)).toInt64), (5, .long ((en 2)).toInt64), (3, .long ((en 1)).toInt64), (1, .long ((en 0)).toInt64), (0, .ref h0)]) hx hb dX1_invert_119 hl (by decide) rfl (fun ls hl => ?_)
        refine lv_aload_n hx hb dX1_invert_121 rfl (lv_at hl 10 rfl) ?_
        refine va_get (D := (dC, dI)) (ci := 1) (v := .ref h2) (C := RX1) (T := TX1) (N := 7) hx hb hts fi_X1_invert hown hK hP 0 rfl rfl 3 (by decide) (hts (.fieldLink RX1 17 "FixedPlaneModel" "next" "[J") (by decide +kernel)) (fun _ h9 => h9) rfl dX1_invert_122 ?_
        refine lv_iload hx hb dX1_invert_125 (lv_at hl 1 rfl) ?_
        refine lv_aload_n hx hb dX1_invert_127 rfl (lv_at hl 10 rfl) ?_
        refine lv_lload hx hb dX1_invert_128 (lv_at hl 0 rfl) ?_
        refine lv_ldc2 (v := 65536) hx hb hown (hts (.constantLong RX1 23 (65536)) (by decide +kernel)) dX1_invert_130 ?_
        refine lv_lmul hx hb dX1_invert_133 ?_
        refine lv_ldc2 (v := 65536) hx hb hown (hts (.constantLong RX1 23 (65536)) (by decide +kernel)) dX1_invert_134 ?_
        refine lv_lmul hx hb dX1_invert_137 ?_
        refine lv_lload hx hb dX1_invert_138 (lv_at hl 3 rfl) ?_
        refine lv_iconst (v := 0) hx hb dX1_invert_140 (by decide) ?_
        refine mc_l (As := [.long (((-((en 2)).toInt64) * 65536) * 65536), .long w_1, .int 0]) (rest := [.int 2, .ref h2]) ⟨hx, hb, hml, hown, hts⟩ (cc_X1_quotient_0 l dC dI h0 h1 h2 cI cL _ (vk) (vn) (en) ((vp_updL (vp_updL nx 0 w_8) 1 w_17)) (vx) (vy) (b_15) ((((-((en 2)).toInt64) * 65536) * 65536)) (w_1) (c_3)) 3 gX1_invert_X1_quotient rfl rfl rfl hdV_X1_quotient ⟨Nat.le_of_ble_eq_true rfl, Nat.le_of_ble_eq_true rfl⟩ hP hD hK hS hA htb rfl hl.1 rfl (Nat.le_of_ble_eq_true rfl) dX1_invert_141 ⟨Nat.zero_le _, Nat.zero_le _⟩ (fun H locs hP hD hS => ?_)
        have hP : va_P (dC, dI) vwCl (mW h0 h1 h2 cI cL (vk, vn, en, (vp_updL (vp_updL nx 0 w_8) 1 w_17), vx, vy, (f_X1_quotient_0 ((((-((en 2)).toInt64) * 65536) * 65536)) (w_1)).2)) H := hP
        have hD : va_D A (mW h0 h1 h2 cI cL (vk, vn, en, (vp_updL (vp_updL nx 0 w_8) 1 w_17), vx, vy, (f_X1_quotient_0 ((((-((en 2)).toInt64) * 65536) * 65536)) (w_1)).2)) := hD
        obtain ⟨b_25, eb_26⟩ : ∃ b : Int32, b = (f_X1_quotient_0 ((((-((en 2)).toInt64) * 65536) * 65536)) (w_1)).2 := ⟨_, rfl⟩
        rw [← eb_26] at hP hD
        refine lv_topl (fun w_27 ew_28 => ?_)
        refine va_last hx hb hK hP hD hS 2 1 rfl rfl (vp_in_iff.mpr (by decide)) dX1_invert_144 (fun H locs hP hD hS => ?_)
        have hP : va_P (dC, dI) vwCl (mW h0 h1 h2 cI cL (vk, vn, en, (vp_updL (vp_updL (vp_updL nx 0 w_8) 1 w_17) 2 w_27), vx, vy, b_25)) H := hP
        have hD : va_D A (mW h0 h1 h2 cI cL (vk, vn, en, (vp_updL (vp_updL (vp_updL nx 0 w_8) 1 w_17) 2 w_27), vx, vy, b_25)) := hD
        refine lv_iload hx hb dX1_invert_145 (lv_at hl 2 rfl) ?_
        refine lv_if_ne (tgt := 157) hx hb dX1_invert_147 (by decide) (fun q => absurd (by decide) q) (fun _ => ?_)
        refine lv_aload_n hx hb dX1_invert_150 rfl (lv_at hl 10 rfl) ?_
        refine va_get (D := (dC, dI)) (ci := 1) (v := .int b_25) (C := RX1) (T := TX1) (N := 7) hx hb hts fi_X1_invert hown hK hP 0 rfl rfl 6 (by decide) (hts (.fieldLink RX1 44 "FixedPlaneModel" "beyond" "Z") (by decide +kernel)) (fun _ h9 => h9) rfl dX1_invert_151 ?_
        refine lv_if_eq (tgt := 161) hx hb dX1_invert_154 (by decide) (fun c_30 => ?_) (fun c_30 => ?_)
        · skip
          refine lv_iconst (v := 0) hx hb dX1_invert_161 (by decide) ?_
          refine lv_istore (lv' := [(15, .int 0), (17, .long (-((en 2)).toInt64)), (16, .int 2), (13, .long w_1), (11, .long ((en 5)).toInt64), (9, .long ((en 4)).toInt64), (7, .long ((en 3)).toInt64), (5, .long ((en 2)).toInt64), (3, .long ((en 1)).toInt64), (1, .long ((en 0)).toInt64), (0, .ref h0)]) hx hb dX1_invert_162 hl (by decide) rfl (fun ls hl => ?_)
          refine lv_iinc (v := 3) (lv' := [(16, .int 3), (15, .int 0), (17, .long (-((en 2)).toInt64)), (13, .long w_1), (11, .long ((en 5)).toInt64), (9, .long ((en 4)).toInt64), (7, .long ((en 3)).toInt64), (5, .long ((en 2)).toInt64), (3, .long ((en 1)).toInt64), (1, .long ((en 0)).toInt64), (0, .ref h0)]) (k := 2) hx hb dX1_invert_164 hl rfl (by decide) (by decide) rfl (fun ls hl => ?_)
          refine lv_goto (tgt := 79) hx hb dX1_invert_167 (by decide) ?_
          refine lv_iload hx hb dX1_invert_79 (lv_at hl 0 rfl) ?_
          refine lv_iconst (v := 4) hx hb dX1_invert_81 (by decide) ?_
          refine pi_ge (tgt := 170) hx hb dX1_invert_82 (by decide) (fun q => absurd (by decide) q) (fun _ => ?_)
          refine lv_iload hx hb dX1_invert_85 (lv_at hl 0 rfl) ?_
          refine lv_if_ne (tgt := 95) hx hb dX1_invert_87 (by decide) (fun _ => ?_) (fun q => absurd q (by decide))
          refine lv_iload hx hb dX1_invert_95 (lv_at hl 0 rfl) ?_
          refine lv_iconst (v := 1) hx hb dX1_invert_97 (by decide) ?_
          refine lv_icmp_ne (tgt := 106) hx hb dX1_invert_98 (by decide) (fun _ => ?_) (fun q => absurd q (by decide))
          refine lv_iload hx hb dX1_invert_106 (lv_at hl 0 rfl) ?_
          refine lv_iconst (v := 2) hx hb dX1_invert_108 (by decide) ?_
          refine lv_icmp_ne (tgt := 118) hx hb dX1_invert_109 (by decide) (fun _ => ?_) (fun q => absurd q (by decide))
          refine lv_lload_n hx hb dX1_invert_118 rfl (lv_at hl 9 rfl) ?_
          refine lv_lstore (lv' := [(17, .long ((en 0)).toInt64), (16, .int 3), (15, .int 0), (13, .long w_1), (11, .long ((en 5)).toInt64), (9, .long ((en 4)).toInt64), (7, .long ((en 3)).toInt64), (5, .long ((en 2)).toInt64), (3, .long ((en 1)).toInt64), (1, .long ((en 0)).toInt64), (0, .ref h0)]) hx hb dX1_invert_119 hl (by decide) rfl (fun ls hl => ?_)
          refine lv_aload_n hx hb dX1_invert_121 rfl (lv_at hl 10 rfl) ?_
          refine va_get (D := (dC, dI)) (ci := 1) (v := .ref h2) (C := RX1) (T := TX1) (N := 7) hx hb hts fi_X1_invert hown hK hP 0 rfl rfl 3 (by decide) (hts (.fieldLink RX1 17 "FixedPlaneModel" "next" "[J") (by decide +kernel)) (fun _ h9 => h9) rfl dX1_invert_122 ?_
          refine lv_iload hx hb dX1_invert_125 (lv_at hl 1 rfl) ?_
          refine lv_aload_n hx hb dX1_invert_127 rfl (lv_at hl 10 rfl) ?_
          refine lv_lload hx hb dX1_invert_128 (lv_at hl 0 rfl) ?_
          refine lv_ldc2 (v := 65536) hx hb hown (hts (.constantLong RX1 23 (65536)) (by decide +kernel)) dX1_invert_130 ?_
          refine lv_lmul hx hb dX1_invert_133 ?_
          refine lv_ldc2 (v := 65536) hx hb hown (hts (.constantLong RX1 23 (65536)) (by decide +kernel)) dX1_invert_134 ?_
          refine lv_lmul hx hb dX1_invert_137 ?_
          refine lv_lload hx hb dX1_invert_138 (lv_at hl 3 rfl) ?_
          refine lv_iconst (v := 0) hx hb dX1_invert_140 (by decide) ?_
          refine mc_l (As := [.long ((((en 0)).toInt64 * 65536) * 65536), .long w_1, .int 0]) (rest := [.int 3, .ref h2]) ⟨hx, hb, hml, hown, hts⟩ (cc_X1_quotient_0 l dC dI h0 h1 h2 cI cL _ (vk) (vn) (en) ((vp_updL (vp_updL (vp_updL nx 0 w_8) 1 w_17) 2 w_27)) (vx) (vy) (b_25) (((((en 0)).toInt64 * 65536) * 65536)) (w_1) (c_3)) 3 gX1_invert_X1_quotient rfl rfl rfl hdV_X1_quotient ⟨Nat.le_of_ble_eq_true rfl, Nat.le_of_ble_eq_true rfl⟩ hP hD hK hS hA htb rfl hl.1 rfl (Nat.le_of_ble_eq_true rfl) dX1_invert_141 ⟨Nat.zero_le _, Nat.zero_le _⟩ (fun H locs hP hD hS => ?_)
          have hP : va_P (dC, dI) vwCl (mW h0 h1 h2 cI cL (vk, vn, en, (vp_updL (vp_updL (vp_updL nx 0 w_8) 1 w_17) 2 w_27), vx, vy, (f_X1_quotient_0 (((((en 0)).toInt64 * 65536) * 65536)) (w_1)).2)) H := hP
          have hD : va_D A (mW h0 h1 h2 cI cL (vk, vn, en, (vp_updL (vp_updL (vp_updL nx 0 w_8) 1 w_17) 2 w_27), vx, vy, (f_X1_quotient_0 (((((en 0)).toInt64 * 65536) * 65536)) (w_1)).2)) := hD
          obtain ⟨b_35, eb_36⟩ : ∃ b : Int32, b = (f_X1_quotient_0 (((((en 0)).toInt64 * 65536) * 65536)) (w_1)).2 := ⟨_, rfl⟩
          rw [← eb_36] at hP hD
          refine lv_topl (fun w_37 ew_38 => ?_)
          refine va_last hx hb hK hP hD hS 2 1 rfl rfl (vp_in_iff.mpr (by decide)) dX1_invert_144 (fun H locs hP hD hS => ?_)
          have hP : va_P (dC, dI) vwCl (mW h0 h1 h2 cI cL (vk, vn, en, (vp_updL (vp_updL (vp_updL (vp_updL nx 0 w_8) 1 w_17) 2 w_27) 3 w_37), vx, vy, b_35)) H := hP
          have hD : va_D A (mW h0 h1 h2 cI cL (vk, vn, en, (vp_updL (vp_updL (vp_updL (vp_updL nx 0 w_8) 1 w_17) 2 w_27) 3 w_37), vx, vy, b_35)) := hD
          refine lv_iload hx hb dX1_invert_145 (lv_at hl 2 rfl) ?_
          refine lv_if_ne (tgt := 157) hx hb dX1_invert_147 (by decide) (fun q => absurd (by decide) q) (fun _ => ?_)
          refine lv_aload_n hx hb dX1_invert_150 rfl (lv_at hl 10 rfl) ?_
          refine va_get (D := (dC, dI)) (ci := 1) (v := .int b_35) (C := RX1) (T := TX1) (N := 7) hx hb hts fi_X1_invert hown hK hP 0 rfl rfl 6 (by decide) (hts (.fieldLink RX1 44 "FixedPlaneModel" "beyond" "Z") (by decide +kernel)) (fun _ h9 => h9) rfl dX1_invert_151 ?_
          refine lv_if_eq (tgt := 161) hx hb dX1_invert_154 (by decide) (fun c_40 => ?_) (fun c_40 => ?_)
          · skip
            refine lv_iconst (v := 0) hx hb dX1_invert_161 (by decide) ?_
            refine lv_istore (lv' := [(15, .int 0), (17, .long ((en 0)).toInt64), (16, .int 3), (13, .long w_1), (11, .long ((en 5)).toInt64), (9, .long ((en 4)).toInt64), (7, .long ((en 3)).toInt64), (5, .long ((en 2)).toInt64), (3, .long ((en 1)).toInt64), (1, .long ((en 0)).toInt64), (0, .ref h0)]) hx hb dX1_invert_162 hl (by decide) rfl (fun ls hl => ?_)
            refine lv_iinc (v := 4) (lv' := [(16, .int 4), (15, .int 0), (17, .long ((en 0)).toInt64), (13, .long w_1), (11, .long ((en 5)).toInt64), (9, .long ((en 4)).toInt64), (7, .long ((en 3)).toInt64), (5, .long ((en 2)).toInt64), (3, .long ((en 1)).toInt64), (1, .long ((en 0)).toInt64), (0, .ref h0)]) (k := 2) hx hb dX1_invert_164 hl rfl (by decide) (by decide) rfl (fun ls hl => ?_)
            refine lv_goto (tgt := 79) hx hb dX1_invert_167 (by decide) ?_
            refine lv_iload hx hb dX1_invert_79 (lv_at hl 0 rfl) ?_
            refine lv_iconst (v := 4) hx hb dX1_invert_81 (by decide) ?_
            refine pi_ge (tgt := 170) hx hb dX1_invert_82 (by decide) (fun _ => ?_) (fun q => absurd q (by decide))
            refine lv_aload_n hx hb dX1_invert_170 rfl (lv_at hl 10 rfl) ?_
            refine va_get (D := (dC, dI)) (ci := 1) (v := .ref h2) (C := RX1) (T := TX1) (N := 7) hx hb hts fi_X1_invert hown hK hP 0 rfl rfl 3 (by decide) (hts (.fieldLink RX1 17 "FixedPlaneModel" "next" "[J") (by decide +kernel)) (fun _ h9 => h9) rfl dX1_invert_171 ?_
            refine lv_iconst (v := 4) hx hb dX1_invert_174 (by decide) ?_
            refine lv_aload_n hx hb dX1_invert_175 rfl (lv_at hl 10 rfl) ?_
            refine lv_lload hx hb dX1_invert_176 (lv_at hl 7 rfl) ?_
            refine lv_lload hx hb dX1_invert_178 (lv_at hl 4 rfl) ?_
            refine lv_lmul hx hb dX1_invert_180 ?_
            refine lv_lload hx hb dX1_invert_181 (lv_at hl 6 rfl) ?_
            refine lv_lload hx hb dX1_invert_183 (lv_at hl 5 rfl) ?_
            refine lv_lmul hx hb dX1_invert_185 ?_
            refine lv_lsub hx hb dX1_invert_186 ?_
            refine lv_lload hx hb dX1_invert_187 (lv_at hl 3 rfl) ?_
            refine lv_bipush (v := 16) hx hb dX1_invert_189 (by decide) ?_
            refine mc_l (As := [.long ((((en 2)).toInt64 * ((en 5)).toInt64) - (((en 3)).toInt64 * ((en 4)).toInt64)), .long w_1, .int 16]) (rest := [.int 4, .ref h2]) ⟨hx, hb, hml, hown, hts⟩ (cc_X1_quotient_16 l dC dI h0 h1 h2 cI cL _ (vk) (vn) (en) ((vp_updL (vp_updL (vp_updL (vp_updL nx 0 w_8) 1 w_17) 2 w_27) 3 w_37)) (vx) (vy) (b_35) (((((en 2)).toInt64 * ((en 5)).toInt64) - (((en 3)).toInt64 * ((en 4)).toInt64))) (w_1) (c_3)) 3 gX1_invert_X1_quotient rfl rfl rfl hdV_X1_quotient ⟨Nat.le_of_ble_eq_true rfl, Nat.le_of_ble_eq_true rfl⟩ hP hD hK hS hA htb rfl hl.1 rfl (Nat.le_of_ble_eq_true rfl) dX1_invert_191 ⟨Nat.zero_le _, Nat.zero_le _⟩ (fun H locs hP hD hS => ?_)
            have hP : va_P (dC, dI) vwCl (mW h0 h1 h2 cI cL (vk, vn, en, (vp_updL (vp_updL (vp_updL (vp_updL nx 0 w_8) 1 w_17) 2 w_27) 3 w_37), vx, vy, (f_X1_quotient_16 (((((en 2)).toInt64 * ((en 5)).toInt64) - (((en 3)).toInt64 * ((en 4)).toInt64))) (w_1)).2)) H := hP
            have hD : va_D A (mW h0 h1 h2 cI cL (vk, vn, en, (vp_updL (vp_updL (vp_updL (vp_updL nx 0 w_8) 1 w_17) 2 w_27) 3 w_37), vx, vy, (f_X1_quotient_16 (((((en 2)).toInt64 * ((en 5)).toInt64) - (((en 3)).toInt64 * ((en 4)).toInt64))) (w_1)).2)) := hD
            obtain ⟨b_42, eb_43⟩ : ∃ b : Int32, b = (f_X1_quotient_16 (((((en 2)).toInt64 * ((en 5)).toInt64) - (((en 3)).toInt64 * ((en 4)).toInt64))) (w_1)).2 := ⟨_, rfl⟩
            rw [← eb_43] at hP hD
            refine lv_topl (fun w_44 ew_45 => ?_)
            refine va_last hx hb hK hP hD hS 2 1 rfl rfl (vp_in_iff.mpr (by decide)) dX1_invert_194 (fun H locs hP hD hS => ?_)
            have hP : va_P (dC, dI) vwCl (mW h0 h1 h2 cI cL (vk, vn, en, (vp_updL (vp_updL (vp_updL (vp_updL (vp_updL nx 0 w_8) 1 w_17) 2 w_27) 3 w_37) 4 w_44), vx, vy, b_42)) H := hP
            have hD : va_D A (mW h0 h1 h2 cI cL (vk, vn, en, (vp_updL (vp_updL (vp_updL (vp_updL (vp_updL nx 0 w_8) 1 w_17) 2 w_27) 3 w_37) 4 w_44), vx, vy, b_42)) := hD
            refine lv_iload hx hb dX1_invert_195 (lv_at hl 1 rfl) ?_
            refine lv_if_ne (tgt := 207) hx hb dX1_invert_197 (by decide) (fun q => absurd (by decide) q) (fun _ => ?_)
            refine lv_aload_n hx hb dX1_invert_200 rfl (lv_at hl 10 rfl) ?_
            refine va_get (D := (dC, dI)) (ci := 1) (v := .int b_42) (C := RX1) (T := TX1) (N := 7) hx hb hts fi_X1_invert hown hK hP 0 rfl rfl 6 (by decide) (hts (.fieldLink RX1 44 "FixedPlaneModel" "beyond" "Z") (by decide +kernel)) (fun _ h9 => h9) rfl dX1_invert_201 ?_
            refine lv_if_eq (tgt := 211) hx hb dX1_invert_204 (by decide) (fun c_47 => ?_) (fun c_47 => ?_)
            · skip
              refine lv_iconst (v := 0) hx hb dX1_invert_211 (by decide) ?_
              refine lv_istore (lv' := [(15, .int 0), (16, .int 4), (17, .long ((en 0)).toInt64), (13, .long w_1), (11, .long ((en 5)).toInt64), (9, .long ((en 4)).toInt64), (7, .long ((en 3)).toInt64), (5, .long ((en 2)).toInt64), (3, .long ((en 1)).toInt64), (1, .long ((en 0)).toInt64), (0, .ref h0)]) hx hb dX1_invert_212 hl (by decide) rfl (fun ls hl => ?_)
              refine lv_aload_n hx hb dX1_invert_214 rfl (lv_at hl 10 rfl) ?_
              refine va_get (D := (dC, dI)) (ci := 1) (v := .ref h2) (C := RX1) (T := TX1) (N := 7) hx hb hts fi_X1_invert hown hK hP 0 rfl rfl 3 (by decide) (hts (.fieldLink RX1 17 "FixedPlaneModel" "next" "[J") (by decide +kernel)) (fun _ h9 => h9) rfl dX1_invert_215 ?_
              refine lv_iconst (v := 5) hx hb dX1_invert_218 (by decide) ?_
              refine lv_aload_n hx hb dX1_invert_219 rfl (lv_at hl 10 rfl) ?_
              refine lv_lload_n hx hb dX1_invert_220 rfl (lv_at hl 8 rfl) ?_
              refine lv_lload hx hb dX1_invert_221 (lv_at hl 5 rfl) ?_
              refine lv_lmul hx hb dX1_invert_223 ?_
              refine lv_lload_n hx hb dX1_invert_224 rfl (lv_at hl 9 rfl) ?_
              refine lv_lload hx hb dX1_invert_225 (lv_at hl 4 rfl) ?_
              refine lv_lmul hx hb dX1_invert_227 ?_
              refine lv_lsub hx hb dX1_invert_228 ?_
              refine lv_lload hx hb dX1_invert_229 (lv_at hl 3 rfl) ?_
              refine lv_bipush (v := 16) hx hb dX1_invert_231 (by decide) ?_
              refine mc_l (As := [.long ((((en 1)).toInt64 * ((en 4)).toInt64) - (((en 0)).toInt64 * ((en 5)).toInt64)), .long w_1, .int 16]) (rest := [.int 5, .ref h2]) ⟨hx, hb, hml, hown, hts⟩ (cc_X1_quotient_16 l dC dI h0 h1 h2 cI cL _ (vk) (vn) (en) ((vp_updL (vp_updL (vp_updL (vp_updL (vp_updL nx 0 w_8) 1 w_17) 2 w_27) 3 w_37) 4 w_44)) (vx) (vy) (b_42) (((((en 1)).toInt64 * ((en 4)).toInt64) - (((en 0)).toInt64 * ((en 5)).toInt64))) (w_1) (c_3)) 3 gX1_invert_X1_quotient rfl rfl rfl hdV_X1_quotient ⟨Nat.le_of_ble_eq_true rfl, Nat.le_of_ble_eq_true rfl⟩ hP hD hK hS hA htb rfl hl.1 rfl (Nat.le_of_ble_eq_true rfl) dX1_invert_233 ⟨Nat.zero_le _, Nat.zero_le _⟩ (fun H locs hP hD hS => ?_)
              have hP : va_P (dC, dI) vwCl (mW h0 h1 h2 cI cL (vk, vn, en, (vp_updL (vp_updL (vp_updL (vp_updL (vp_updL nx 0 w_8) 1 w_17) 2 w_27) 3 w_37) 4 w_44), vx, vy, (f_X1_quotient_16 (((((en 1)).toInt64 * ((en 4)).toInt64) - (((en 0)).toInt64 * ((en 5)).toInt64))) (w_1)).2)) H := hP
              have hD : va_D A (mW h0 h1 h2 cI cL (vk, vn, en, (vp_updL (vp_updL (vp_updL (vp_updL (vp_updL nx 0 w_8) 1 w_17) 2 w_27) 3 w_37) 4 w_44), vx, vy, (f_X1_quotient_16 (((((en 1)).toInt64 * ((en 4)).toInt64) - (((en 0)).toInt64 * ((en 5)).toInt64))) (w_1)).2)) := hD
              obtain ⟨b_48, eb_49⟩ : ∃ b : Int32, b = (f_X1_quotient_16 (((((en 1)).toInt64 * ((en 4)).toInt64) - (((en 0)).toInt64 * ((en 5)).toInt64))) (w_1)).2 := ⟨_, rfl⟩
              rw [← eb_49] at hP hD
              refine lv_topl (fun w_50 ew_51 => ?_)
              refine va_last hx hb hK hP hD hS 2 1 rfl rfl (vp_in_iff.mpr (by decide)) dX1_invert_236 (fun H locs hP hD hS => ?_)
              have hP : va_P (dC, dI) vwCl (mW h0 h1 h2 cI cL (vk, vn, en, (vp_updL (vp_updL (vp_updL (vp_updL (vp_updL (vp_updL nx 0 w_8) 1 w_17) 2 w_27) 3 w_37) 4 w_44) 5 w_50), vx, vy, b_48)) H := hP
              have hD : va_D A (mW h0 h1 h2 cI cL (vk, vn, en, (vp_updL (vp_updL (vp_updL (vp_updL (vp_updL (vp_updL nx 0 w_8) 1 w_17) 2 w_27) 3 w_37) 4 w_44) 5 w_50), vx, vy, b_48)) := hD
              refine lv_iload hx hb dX1_invert_237 (lv_at hl 0 rfl) ?_
              refine lv_if_ne (tgt := 249) hx hb dX1_invert_239 (by decide) (fun q => absurd (by decide) q) (fun _ => ?_)
              refine lv_aload_n hx hb dX1_invert_242 rfl (lv_at hl 10 rfl) ?_
              refine va_get (D := (dC, dI)) (ci := 1) (v := .int b_48) (C := RX1) (T := TX1) (N := 7) hx hb hts fi_X1_invert hown hK hP 0 rfl rfl 6 (by decide) (hts (.fieldLink RX1 44 "FixedPlaneModel" "beyond" "Z") (by decide +kernel)) (fun _ h9 => h9) rfl dX1_invert_243 ?_
              refine lv_if_eq (tgt := 253) hx hb dX1_invert_246 (by decide) (fun c_53 => ?_) (fun c_53 => ?_)
              · skip
                refine lv_iconst (v := 0) hx hb dX1_invert_253 (by decide) ?_
                refine lv_istore (lv' := [(15, .int 0), (16, .int 4), (17, .long ((en 0)).toInt64), (13, .long w_1), (11, .long ((en 5)).toInt64), (9, .long ((en 4)).toInt64), (7, .long ((en 3)).toInt64), (5, .long ((en 2)).toInt64), (3, .long ((en 1)).toInt64), (1, .long ((en 0)).toInt64), (0, .ref h0)]) hx hb dX1_invert_254 hl (by decide) rfl (fun ls hl => ?_)
                refine lv_iload hx hb dX1_invert_256 (lv_at hl 0 rfl) ?_
                refine lv_if_eq (tgt := 266) hx hb dX1_invert_258 (by decide) (fun _ => ?_) (fun q => absurd (by decide) q)
                refine lv_aload_n hx hb dX1_invert_266 rfl (lv_at hl 10 rfl) ?_
                refine mc_i (As := []) (rest := []) ⟨hx, hb, hml, hown, hts⟩ (cc_X1_take l dC dI h0 h1 h2 cI cL _ (vk) (vn) (en) ((vp_updL (vp_updL (vp_updL (vp_updL (vp_updL (vp_updL nx 0 w_8) 1 w_17) 2 w_27) 3 w_37) 4 w_44) 5 w_50)) (vx) (vy) (b_48) ) 0 gX1_invert_X1_take rfl rfl rfl hdV_X1_take ⟨Nat.le_of_ble_eq_true rfl, Nat.le_of_ble_eq_true rfl⟩ hP hD hK hS hA htb rfl hl.1 rfl (Nat.le_of_ble_eq_true rfl) dX1_invert_267 ⟨Nat.zero_le _, Nat.zero_le _⟩ (fun H locs hP hD hS => ?_)
                have hP : va_P (dC, dI) vwCl (mW h0 h1 h2 cI cL (vk, vn, (f_X1_take (en) ((vp_updL (vp_updL (vp_updL (vp_updL (vp_updL (vp_updL nx 0 w_8) 1 w_17) 2 w_27) 3 w_37) 4 w_44) 5 w_50))).2, (vp_updL (vp_updL (vp_updL (vp_updL (vp_updL (vp_updL nx 0 w_8) 1 w_17) 2 w_27) 3 w_37) 4 w_44) 5 w_50), vx, vy, b_48)) H := hP
                have hD : va_D A (mW h0 h1 h2 cI cL (vk, vn, (f_X1_take (en) ((vp_updL (vp_updL (vp_updL (vp_updL (vp_updL (vp_updL nx 0 w_8) 1 w_17) 2 w_27) 3 w_37) 4 w_44) 5 w_50))).2, (vp_updL (vp_updL (vp_updL (vp_updL (vp_updL (vp_updL nx 0 w_8) 1 w_17) 2 w_27) 3 w_37) 4 w_44) 5 w_50), vx, vy, b_48)) := hD
                have hE : f_X1_invert en nx vb = ((f_X1_take (en) ((vp_updL (vp_updL (vp_updL (vp_updL (vp_updL (vp_updL nx 0 w_8) 1 w_17) 2 w_27) 3 w_37) 4 w_44) 5 w_50))).1, (f_X1_take (en) ((vp_updL (vp_updL (vp_updL (vp_updL (vp_updL (vp_updL nx 0 w_8) 1 w_17) 2 w_27) 3 w_37) 4 w_44) 5 w_50))).2, (vp_updL (vp_updL (vp_updL (vp_updL (vp_updL (vp_updL nx 0 w_8) 1 w_17) 2 w_27) 3 w_37) 4 w_44) 5 w_50), b_48) := (by subst ew_51; subst eb_49; subst ew_45; subst eb_43; subst ew_38; subst eb_36; subst ew_28; subst eb_26; subst ew_18; subst eb_16; subst ew_9; subst eb_7; subst ew_2; rw [f_X1_invert, if_neg c_3, if_pos c_11, if_pos c_20, if_pos c_30, if_pos c_40, if_pos c_47, if_pos c_53])
                exact m_iret hx hb hr hlocks hP hD hK hS dX1_invert_270 ⟨by rw [hE], by rw [hE]⟩
              · skip
                refine lv_iconst (v := 1) hx hb dX1_invert_249 (by decide) ?_
                refine lv_goto (tgt := 254) hx hb dX1_invert_250 (by decide) ?_
                refine lv_istore (lv' := [(15, .int 1), (16, .int 4), (17, .long ((en 0)).toInt64), (13, .long w_1), (11, .long ((en 5)).toInt64), (9, .long ((en 4)).toInt64), (7, .long ((en 3)).toInt64), (5, .long ((en 2)).toInt64), (3, .long ((en 1)).toInt64), (1, .long ((en 0)).toInt64), (0, .ref h0)]) hx hb dX1_invert_254 hl (by decide) rfl (fun ls hl => ?_)
                refine lv_iload hx hb dX1_invert_256 (lv_at hl 0 rfl) ?_
                refine lv_if_eq (tgt := 266) hx hb dX1_invert_258 (by decide) (fun q => absurd q (by decide)) (fun _ => ?_)
                refine lv_bipush (v := (-2)) hx hb dX1_invert_261 (by decide) ?_
                refine lv_goto (tgt := 270) hx hb dX1_invert_263 (by decide) ?_
                have hE : f_X1_invert en nx vb = ((-2), en, (vp_updL (vp_updL (vp_updL (vp_updL (vp_updL (vp_updL nx 0 w_8) 1 w_17) 2 w_27) 3 w_37) 4 w_44) 5 w_50), b_48) := (by subst ew_51; subst eb_49; subst ew_45; subst eb_43; subst ew_38; subst eb_36; subst ew_28; subst eb_26; subst ew_18; subst eb_16; subst ew_9; subst eb_7; subst ew_2; rw [f_X1_invert, if_neg c_3, if_pos c_11, if_pos c_20, if_pos c_30, if_pos c_40, if_pos c_47, if_neg c_53])
                exact m_iret hx hb hr hlocks hP hD hK hS dX1_invert_270 ⟨by rw [hE], by rw [hE]⟩
            · skip
              refine lv_iconst (v := 1) hx hb dX1_invert_207 (by decide) ?_
              refine lv_goto (tgt := 212) hx hb dX1_invert_208 (by decide) ?_
              refine lv_istore (lv' := [(15, .int 1), (16, .int 4), (17, .long ((en 0)).toInt64), (13, .long w_1), (11, .long ((en 5)).toInt64), (9, .long ((en 4)).toInt64), (7, .long ((en 3)).toInt64), (5, .long ((en 2)).toInt64), (3, .long ((en 1)).toInt64), (1, .long ((en 0)).toInt64), (0, .ref h0)]) hx hb dX1_invert_212 hl (by decide) rfl (fun ls hl => ?_)
              refine lv_aload_n hx hb dX1_invert_214 rfl (lv_at hl 10 rfl) ?_
              refine va_get (D := (dC, dI)) (ci := 1) (v := .ref h2) (C := RX1) (T := TX1) (N := 7) hx hb hts fi_X1_invert hown hK hP 0 rfl rfl 3 (by decide) (hts (.fieldLink RX1 17 "FixedPlaneModel" "next" "[J") (by decide +kernel)) (fun _ h9 => h9) rfl dX1_invert_215 ?_
              refine lv_iconst (v := 5) hx hb dX1_invert_218 (by decide) ?_
              refine lv_aload_n hx hb dX1_invert_219 rfl (lv_at hl 10 rfl) ?_
              refine lv_lload_n hx hb dX1_invert_220 rfl (lv_at hl 8 rfl) ?_
              refine lv_lload hx hb dX1_invert_221 (lv_at hl 5 rfl) ?_
              refine lv_lmul hx hb dX1_invert_223 ?_
              refine lv_lload_n hx hb dX1_invert_224 rfl (lv_at hl 9 rfl) ?_
              refine lv_lload hx hb dX1_invert_225 (lv_at hl 4 rfl) ?_
              refine lv_lmul hx hb dX1_invert_227 ?_
              refine lv_lsub hx hb dX1_invert_228 ?_
              refine lv_lload hx hb dX1_invert_229 (lv_at hl 3 rfl) ?_
              refine lv_bipush (v := 16) hx hb dX1_invert_231 (by decide) ?_
              refine mc_l (As := [.long ((((en 1)).toInt64 * ((en 4)).toInt64) - (((en 0)).toInt64 * ((en 5)).toInt64)), .long w_1, .int 16]) (rest := [.int 5, .ref h2]) ⟨hx, hb, hml, hown, hts⟩ (cc_X1_quotient_16 l dC dI h0 h1 h2 cI cL _ (vk) (vn) (en) ((vp_updL (vp_updL (vp_updL (vp_updL (vp_updL nx 0 w_8) 1 w_17) 2 w_27) 3 w_37) 4 w_44)) (vx) (vy) (b_42) (((((en 1)).toInt64 * ((en 4)).toInt64) - (((en 0)).toInt64 * ((en 5)).toInt64))) (w_1) (c_3)) 3 gX1_invert_X1_quotient rfl rfl rfl hdV_X1_quotient ⟨Nat.le_of_ble_eq_true rfl, Nat.le_of_ble_eq_true rfl⟩ hP hD hK hS hA htb rfl hl.1 rfl (Nat.le_of_ble_eq_true rfl) dX1_invert_233 ⟨Nat.zero_le _, Nat.zero_le _⟩ (fun H locs hP hD hS => ?_)
              have hP : va_P (dC, dI) vwCl (mW h0 h1 h2 cI cL (vk, vn, en, (vp_updL (vp_updL (vp_updL (vp_updL (vp_updL nx 0 w_8) 1 w_17) 2 w_27) 3 w_37) 4 w_44), vx, vy, (f_X1_quotient_16 (((((en 1)).toInt64 * ((en 4)).toInt64) - (((en 0)).toInt64 * ((en 5)).toInt64))) (w_1)).2)) H := hP
              have hD : va_D A (mW h0 h1 h2 cI cL (vk, vn, en, (vp_updL (vp_updL (vp_updL (vp_updL (vp_updL nx 0 w_8) 1 w_17) 2 w_27) 3 w_37) 4 w_44), vx, vy, (f_X1_quotient_16 (((((en 1)).toInt64 * ((en 4)).toInt64) - (((en 0)).toInt64 * ((en 5)).toInt64))) (w_1)).2)) := hD
              obtain ⟨b_56, eb_57⟩ : ∃ b : Int32, b = (f_X1_quotient_16 (((((en 1)).toInt64 * ((en 4)).toInt64) - (((en 0)).toInt64 * ((en 5)).toInt64))) (w_1)).2 := ⟨_, rfl⟩
              rw [← eb_57] at hP hD
              refine lv_topl (fun w_58 ew_59 => ?_)
              refine va_last hx hb hK hP hD hS 2 1 rfl rfl (vp_in_iff.mpr (by decide)) dX1_invert_236 (fun H locs hP hD hS => ?_)
              have hP : va_P (dC, dI) vwCl (mW h0 h1 h2 cI cL (vk, vn, en, (vp_updL (vp_updL (vp_updL (vp_updL (vp_updL (vp_updL nx 0 w_8) 1 w_17) 2 w_27) 3 w_37) 4 w_44) 5 w_58), vx, vy, b_56)) H := hP
              have hD : va_D A (mW h0 h1 h2 cI cL (vk, vn, en, (vp_updL (vp_updL (vp_updL (vp_updL (vp_updL (vp_updL nx 0 w_8) 1 w_17) 2 w_27) 3 w_37) 4 w_44) 5 w_58), vx, vy, b_56)) := hD
              refine lv_iload hx hb dX1_invert_237 (lv_at hl 0 rfl) ?_
              refine lv_if_ne (tgt := 249) hx hb dX1_invert_239 (by decide) (fun _ => ?_) (fun q => absurd q (by decide))
              refine lv_iconst (v := 1) hx hb dX1_invert_249 (by decide) ?_
              refine lv_goto (tgt := 254) hx hb dX1_invert_250 (by decide) ?_
              refine lv_istore (lv' := [(15, .int 1), (16, .int 4), (17, .long ((en 0)).toInt64), (13, .long w_1), (11, .long ((en 5)).toInt64), (9, .long ((en 4)).toInt64), (7, .long ((en 3)).toInt64), (5, .long ((en 2)).toInt64), (3, .long ((en 1)).toInt64), (1, .long ((en 0)).toInt64), (0, .ref h0)]) hx hb dX1_invert_254 hl (by decide) rfl (fun ls hl => ?_)
              refine lv_iload hx hb dX1_invert_256 (lv_at hl 0 rfl) ?_
              refine lv_if_eq (tgt := 266) hx hb dX1_invert_258 (by decide) (fun q => absurd q (by decide)) (fun _ => ?_)
              refine lv_bipush (v := (-2)) hx hb dX1_invert_261 (by decide) ?_
              refine lv_goto (tgt := 270) hx hb dX1_invert_263 (by decide) ?_
              have hE : f_X1_invert en nx vb = ((-2), en, (vp_updL (vp_updL (vp_updL (vp_updL (vp_updL (vp_updL nx 0 w_8) 1 w_17) 2 w_27) 3 w_37) 4 w_44) 5 w_58), b_56) := (by subst ew_59; subst eb_57; subst ew_45; subst eb_43; subst ew_38; subst eb_36; subst ew_28; subst eb_26; subst ew_18; subst eb_16; subst ew_9; subst eb_7; subst ew_2; rw [f_X1_invert, if_neg c_3, if_pos c_11, if_pos c_20, if_pos c_30, if_pos c_40, if_neg c_47])
              exact m_iret hx hb hr hlocks hP hD hK hS dX1_invert_270 ⟨by rw [hE], by rw [hE]⟩
          · skip
            refine lv_iconst (v := 1) hx hb dX1_invert_157 (by decide) ?_
            refine lv_goto (tgt := 162) hx hb dX1_invert_158 (by decide) ?_
            refine lv_istore (lv' := [(15, .int 1), (17, .long ((en 0)).toInt64), (16, .int 3), (13, .long w_1), (11, .long ((en 5)).toInt64), (9, .long ((en 4)).toInt64), (7, .long ((en 3)).toInt64), (5, .long ((en 2)).toInt64), (3, .long ((en 1)).toInt64), (1, .long ((en 0)).toInt64), (0, .ref h0)]) hx hb dX1_invert_162 hl (by decide) rfl (fun ls hl => ?_)
            refine lv_iinc (v := 4) (lv' := [(16, .int 4), (15, .int 1), (17, .long ((en 0)).toInt64), (13, .long w_1), (11, .long ((en 5)).toInt64), (9, .long ((en 4)).toInt64), (7, .long ((en 3)).toInt64), (5, .long ((en 2)).toInt64), (3, .long ((en 1)).toInt64), (1, .long ((en 0)).toInt64), (0, .ref h0)]) (k := 2) hx hb dX1_invert_164 hl rfl (by decide) (by decide) rfl (fun ls hl => ?_)
            refine lv_goto (tgt := 79) hx hb dX1_invert_167 (by decide) ?_
            refine lv_iload hx hb dX1_invert_79 (lv_at hl 0 rfl) ?_
            refine lv_iconst (v := 4) hx hb dX1_invert_81 (by decide) ?_
            refine pi_ge (tgt := 170) hx hb dX1_invert_82 (by decide) (fun _ => ?_) (fun q => absurd q (by decide))
            refine lv_aload_n hx hb dX1_invert_170 rfl (lv_at hl 10 rfl) ?_
            refine va_get (D := (dC, dI)) (ci := 1) (v := .ref h2) (C := RX1) (T := TX1) (N := 7) hx hb hts fi_X1_invert hown hK hP 0 rfl rfl 3 (by decide) (hts (.fieldLink RX1 17 "FixedPlaneModel" "next" "[J") (by decide +kernel)) (fun _ h9 => h9) rfl dX1_invert_171 ?_
            refine lv_iconst (v := 4) hx hb dX1_invert_174 (by decide) ?_
            refine lv_aload_n hx hb dX1_invert_175 rfl (lv_at hl 10 rfl) ?_
            refine lv_lload hx hb dX1_invert_176 (lv_at hl 7 rfl) ?_
            refine lv_lload hx hb dX1_invert_178 (lv_at hl 4 rfl) ?_
            refine lv_lmul hx hb dX1_invert_180 ?_
            refine lv_lload hx hb dX1_invert_181 (lv_at hl 6 rfl) ?_
            refine lv_lload hx hb dX1_invert_183 (lv_at hl 5 rfl) ?_
            refine lv_lmul hx hb dX1_invert_185 ?_
            refine lv_lsub hx hb dX1_invert_186 ?_
            refine lv_lload hx hb dX1_invert_187 (lv_at hl 3 rfl) ?_
            refine lv_bipush (v := 16) hx hb dX1_invert_189 (by decide) ?_
            refine mc_l (As := [.long ((((en 2)).toInt64 * ((en 5)).toInt64) - (((en 3)).toInt64 * ((en 4)).toInt64)), .long w_1, .int 16]) (rest := [.int 4, .ref h2]) ⟨hx, hb, hml, hown, hts⟩ (cc_X1_quotient_16 l dC dI h0 h1 h2 cI cL _ (vk) (vn) (en) ((vp_updL (vp_updL (vp_updL (vp_updL nx 0 w_8) 1 w_17) 2 w_27) 3 w_37)) (vx) (vy) (b_35) (((((en 2)).toInt64 * ((en 5)).toInt64) - (((en 3)).toInt64 * ((en 4)).toInt64))) (w_1) (c_3)) 3 gX1_invert_X1_quotient rfl rfl rfl hdV_X1_quotient ⟨Nat.le_of_ble_eq_true rfl, Nat.le_of_ble_eq_true rfl⟩ hP hD hK hS hA htb rfl hl.1 rfl (Nat.le_of_ble_eq_true rfl) dX1_invert_191 ⟨Nat.zero_le _, Nat.zero_le _⟩ (fun H locs hP hD hS => ?_)
            have hP : va_P (dC, dI) vwCl (mW h0 h1 h2 cI cL (vk, vn, en, (vp_updL (vp_updL (vp_updL (vp_updL nx 0 w_8) 1 w_17) 2 w_27) 3 w_37), vx, vy, (f_X1_quotient_16 (((((en 2)).toInt64 * ((en 5)).toInt64) - (((en 3)).toInt64 * ((en 4)).toInt64))) (w_1)).2)) H := hP
            have hD : va_D A (mW h0 h1 h2 cI cL (vk, vn, en, (vp_updL (vp_updL (vp_updL (vp_updL nx 0 w_8) 1 w_17) 2 w_27) 3 w_37), vx, vy, (f_X1_quotient_16 (((((en 2)).toInt64 * ((en 5)).toInt64) - (((en 3)).toInt64 * ((en 4)).toInt64))) (w_1)).2)) := hD
            obtain ⟨b_63, eb_64⟩ : ∃ b : Int32, b = (f_X1_quotient_16 (((((en 2)).toInt64 * ((en 5)).toInt64) - (((en 3)).toInt64 * ((en 4)).toInt64))) (w_1)).2 := ⟨_, rfl⟩
            rw [← eb_64] at hP hD
            refine lv_topl (fun w_65 ew_66 => ?_)
            refine va_last hx hb hK hP hD hS 2 1 rfl rfl (vp_in_iff.mpr (by decide)) dX1_invert_194 (fun H locs hP hD hS => ?_)
            have hP : va_P (dC, dI) vwCl (mW h0 h1 h2 cI cL (vk, vn, en, (vp_updL (vp_updL (vp_updL (vp_updL (vp_updL nx 0 w_8) 1 w_17) 2 w_27) 3 w_37) 4 w_65), vx, vy, b_63)) H := hP
            have hD : va_D A (mW h0 h1 h2 cI cL (vk, vn, en, (vp_updL (vp_updL (vp_updL (vp_updL (vp_updL nx 0 w_8) 1 w_17) 2 w_27) 3 w_37) 4 w_65), vx, vy, b_63)) := hD
            refine lv_iload hx hb dX1_invert_195 (lv_at hl 1 rfl) ?_
            refine lv_if_ne (tgt := 207) hx hb dX1_invert_197 (by decide) (fun _ => ?_) (fun q => absurd q (by decide))
            refine lv_iconst (v := 1) hx hb dX1_invert_207 (by decide) ?_
            refine lv_goto (tgt := 212) hx hb dX1_invert_208 (by decide) ?_
            refine lv_istore (lv' := [(15, .int 1), (16, .int 4), (17, .long ((en 0)).toInt64), (13, .long w_1), (11, .long ((en 5)).toInt64), (9, .long ((en 4)).toInt64), (7, .long ((en 3)).toInt64), (5, .long ((en 2)).toInt64), (3, .long ((en 1)).toInt64), (1, .long ((en 0)).toInt64), (0, .ref h0)]) hx hb dX1_invert_212 hl (by decide) rfl (fun ls hl => ?_)
            refine lv_aload_n hx hb dX1_invert_214 rfl (lv_at hl 10 rfl) ?_
            refine va_get (D := (dC, dI)) (ci := 1) (v := .ref h2) (C := RX1) (T := TX1) (N := 7) hx hb hts fi_X1_invert hown hK hP 0 rfl rfl 3 (by decide) (hts (.fieldLink RX1 17 "FixedPlaneModel" "next" "[J") (by decide +kernel)) (fun _ h9 => h9) rfl dX1_invert_215 ?_
            refine lv_iconst (v := 5) hx hb dX1_invert_218 (by decide) ?_
            refine lv_aload_n hx hb dX1_invert_219 rfl (lv_at hl 10 rfl) ?_
            refine lv_lload_n hx hb dX1_invert_220 rfl (lv_at hl 8 rfl) ?_
            refine lv_lload hx hb dX1_invert_221 (lv_at hl 5 rfl) ?_
            refine lv_lmul hx hb dX1_invert_223 ?_
            refine lv_lload_n hx hb dX1_invert_224 rfl (lv_at hl 9 rfl) ?_
            refine lv_lload hx hb dX1_invert_225 (lv_at hl 4 rfl) ?_
            refine lv_lmul hx hb dX1_invert_227 ?_
            refine lv_lsub hx hb dX1_invert_228 ?_
            refine lv_lload hx hb dX1_invert_229 (lv_at hl 3 rfl) ?_
            refine lv_bipush (v := 16) hx hb dX1_invert_231 (by decide) ?_
            refine mc_l (As := [.long ((((en 1)).toInt64 * ((en 4)).toInt64) - (((en 0)).toInt64 * ((en 5)).toInt64)), .long w_1, .int 16]) (rest := [.int 5, .ref h2]) ⟨hx, hb, hml, hown, hts⟩ (cc_X1_quotient_16 l dC dI h0 h1 h2 cI cL _ (vk) (vn) (en) ((vp_updL (vp_updL (vp_updL (vp_updL (vp_updL nx 0 w_8) 1 w_17) 2 w_27) 3 w_37) 4 w_65)) (vx) (vy) (b_63) (((((en 1)).toInt64 * ((en 4)).toInt64) - (((en 0)).toInt64 * ((en 5)).toInt64))) (w_1) (c_3)) 3 gX1_invert_X1_quotient rfl rfl rfl hdV_X1_quotient ⟨Nat.le_of_ble_eq_true rfl, Nat.le_of_ble_eq_true rfl⟩ hP hD hK hS hA htb rfl hl.1 rfl (Nat.le_of_ble_eq_true rfl) dX1_invert_233 ⟨Nat.zero_le _, Nat.zero_le _⟩ (fun H locs hP hD hS => ?_)
            have hP : va_P (dC, dI) vwCl (mW h0 h1 h2 cI cL (vk, vn, en, (vp_updL (vp_updL (vp_updL (vp_updL (vp_updL nx 0 w_8) 1 w_17) 2 w_27) 3 w_37) 4 w_65), vx, vy, (f_X1_quotient_16 (((((en 1)).toInt64 * ((en 4)).toInt64) - (((en 0)).toInt64 * ((en 5)).toInt64))) (w_1)).2)) H := hP
            have hD : va_D A (mW h0 h1 h2 cI cL (vk, vn, en, (vp_updL (vp_updL (vp_updL (vp_updL (vp_updL nx 0 w_8) 1 w_17) 2 w_27) 3 w_37) 4 w_65), vx, vy, (f_X1_quotient_16 (((((en 1)).toInt64 * ((en 4)).toInt64) - (((en 0)).toInt64 * ((en 5)).toInt64))) (w_1)).2)) := hD
            obtain ⟨b_68, eb_69⟩ : ∃ b : Int32, b = (f_X1_quotient_16 (((((en 1)).toInt64 * ((en 4)).toInt64) - (((en 0)).toInt64 * ((en 5)).toInt64))) (w_1)).2 := ⟨_, rfl⟩
            rw [← eb_69] at hP hD
            refine lv_topl (fun w_70 ew_71 => ?_)
            refine va_last hx hb hK hP hD hS 2 1 rfl rfl (vp_in_iff.mpr (by decide)) dX1_invert_236 (fun H locs hP hD hS => ?_)
            have hP : va_P (dC, dI) vwCl (mW h0 h1 h2 cI cL (vk, vn, en, (vp_updL (vp_updL (vp_updL (vp_updL (vp_updL (vp_updL nx 0 w_8) 1 w_17) 2 w_27) 3 w_37) 4 w_65) 5 w_70), vx, vy, b_68)) H := hP
            have hD : va_D A (mW h0 h1 h2 cI cL (vk, vn, en, (vp_updL (vp_updL (vp_updL (vp_updL (vp_updL (vp_updL nx 0 w_8) 1 w_17) 2 w_27) 3 w_37) 4 w_65) 5 w_70), vx, vy, b_68)) := hD
            refine lv_iload hx hb dX1_invert_237 (lv_at hl 0 rfl) ?_
            refine lv_if_ne (tgt := 249) hx hb dX1_invert_239 (by decide) (fun _ => ?_) (fun q => absurd q (by decide))
            refine lv_iconst (v := 1) hx hb dX1_invert_249 (by decide) ?_
            refine lv_goto (tgt := 254) hx hb dX1_invert_250 (by decide) ?_
            refine lv_istore (lv' := [(15, .int 1), (16, .int 4), (17, .long ((en 0)).toInt64), (13, .long w_1), (11, .long ((en 5)).toInt64), (9, .long ((en 4)).toInt64), (7, .long ((en 3)).toInt64), (5, .long ((en 2)).toInt64), (3, .long ((en 1)).toInt64), (1, .long ((en 0)).toInt64), (0, .ref h0)]) hx hb dX1_invert_254 hl (by decide) rfl (fun ls hl => ?_)
            refine lv_iload hx hb dX1_invert_256 (lv_at hl 0 rfl) ?_
            refine lv_if_eq (tgt := 266) hx hb dX1_invert_258 (by decide) (fun q => absurd q (by decide)) (fun _ => ?_)
            refine lv_bipush (v := (-2)) hx hb dX1_invert_261 (by decide) ?_
            refine lv_goto (tgt := 270) hx hb dX1_invert_263 (by decide) ?_
            have hE : f_X1_invert en nx vb = ((-2), en, (vp_updL (vp_updL (vp_updL (vp_updL (vp_updL (vp_updL nx 0 w_8) 1 w_17) 2 w_27) 3 w_37) 4 w_65) 5 w_70), b_68) := (by subst ew_71; subst eb_69; subst ew_66; subst eb_64; subst ew_38; subst eb_36; subst ew_28; subst eb_26; subst ew_18; subst eb_16; subst ew_9; subst eb_7; subst ew_2; rw [f_X1_invert, if_neg c_3, if_pos c_11, if_pos c_20, if_pos c_30, if_neg c_40])
            exact m_iret hx hb hr hlocks hP hD hK hS dX1_invert_270 ⟨by rw [hE], by rw [hE]⟩
        · skip
          refine lv_iconst (v := 1) hx hb dX1_invert_157 (by decide) ?_
          refine lv_goto (tgt := 162) hx hb dX1_invert_158 (by decide) ?_
          refine lv_istore (lv' := [(15, .int 1), (17, .long (-((en 2)).toInt64)), (16, .int 2), (13, .long w_1), (11, .long ((en 5)).toInt64), (9, .long ((en 4)).toInt64), (7, .long ((en 3)).toInt64), (5, .long ((en 2)).toInt64), (3, .long ((en 1)).toInt64), (1, .long ((en 0)).toInt64), (0, .ref h0)]) hx hb dX1_invert_162 hl (by decide) rfl (fun ls hl => ?_)
          refine lv_iinc (v := 3) (lv' := [(16, .int 3), (15, .int 1), (17, .long (-((en 2)).toInt64)), (13, .long w_1), (11, .long ((en 5)).toInt64), (9, .long ((en 4)).toInt64), (7, .long ((en 3)).toInt64), (5, .long ((en 2)).toInt64), (3, .long ((en 1)).toInt64), (1, .long ((en 0)).toInt64), (0, .ref h0)]) (k := 2) hx hb dX1_invert_164 hl rfl (by decide) (by decide) rfl (fun ls hl => ?_)
          refine lv_goto (tgt := 79) hx hb dX1_invert_167 (by decide) ?_
          refine lv_iload hx hb dX1_invert_79 (lv_at hl 0 rfl) ?_
          refine lv_iconst (v := 4) hx hb dX1_invert_81 (by decide) ?_
          refine pi_ge (tgt := 170) hx hb dX1_invert_82 (by decide) (fun q => absurd (by decide) q) (fun _ => ?_)
          refine lv_iload hx hb dX1_invert_85 (lv_at hl 0 rfl) ?_
          refine lv_if_ne (tgt := 95) hx hb dX1_invert_87 (by decide) (fun _ => ?_) (fun q => absurd q (by decide))
          refine lv_iload hx hb dX1_invert_95 (lv_at hl 0 rfl) ?_
          refine lv_iconst (v := 1) hx hb dX1_invert_97 (by decide) ?_
          refine lv_icmp_ne (tgt := 106) hx hb dX1_invert_98 (by decide) (fun _ => ?_) (fun q => absurd q (by decide))
          refine lv_iload hx hb dX1_invert_106 (lv_at hl 0 rfl) ?_
          refine lv_iconst (v := 2) hx hb dX1_invert_108 (by decide) ?_
          refine lv_icmp_ne (tgt := 118) hx hb dX1_invert_109 (by decide) (fun _ => ?_) (fun q => absurd q (by decide))
          refine lv_lload_n hx hb dX1_invert_118 rfl (lv_at hl 9 rfl) ?_
          refine lv_lstore (lv' := [(17, .long ((en 0)).toInt64), (16, .int 3), (15, .int 1), (13, .long w_1), (11, .long ((en 5)).toInt64), (9, .long ((en 4)).toInt64), (7, .long ((en 3)).toInt64), (5, .long ((en 2)).toInt64), (3, .long ((en 1)).toInt64), (1, .long ((en 0)).toInt64), (0, .ref h0)]) hx hb dX1_invert_119 hl (by decide) rfl (fun ls hl => ?_)
          refine lv_aload_n hx hb dX1_invert_121 rfl (lv_at hl 10 rfl) ?_
          refine va_get (D := (dC, dI)) (ci := 1) (v := .ref h2) (C := RX1) (T := TX1) (N := 7) hx hb hts fi_X1_invert hown hK hP 0 rfl rfl 3 (by decide) (hts (.fieldLink RX1 17 "FixedPlaneModel" "next" "[J") (by decide +kernel)) (fun _ h9 => h9) rfl dX1_invert_122 ?_
          refine lv_iload hx hb dX1_invert_125 (lv_at hl 1 rfl) ?_
          refine lv_aload_n hx hb dX1_invert_127 rfl (lv_at hl 10 rfl) ?_
          refine lv_lload hx hb dX1_invert_128 (lv_at hl 0 rfl) ?_
          refine lv_ldc2 (v := 65536) hx hb hown (hts (.constantLong RX1 23 (65536)) (by decide +kernel)) dX1_invert_130 ?_
          refine lv_lmul hx hb dX1_invert_133 ?_
          refine lv_ldc2 (v := 65536) hx hb hown (hts (.constantLong RX1 23 (65536)) (by decide +kernel)) dX1_invert_134 ?_
          refine lv_lmul hx hb dX1_invert_137 ?_
          refine lv_lload hx hb dX1_invert_138 (lv_at hl 3 rfl) ?_
          refine lv_iconst (v := 0) hx hb dX1_invert_140 (by decide) ?_
          refine mc_l (As := [.long ((((en 0)).toInt64 * 65536) * 65536), .long w_1, .int 0]) (rest := [.int 3, .ref h2]) ⟨hx, hb, hml, hown, hts⟩ (cc_X1_quotient_0 l dC dI h0 h1 h2 cI cL _ (vk) (vn) (en) ((vp_updL (vp_updL (vp_updL nx 0 w_8) 1 w_17) 2 w_27)) (vx) (vy) (b_25) (((((en 0)).toInt64 * 65536) * 65536)) (w_1) (c_3)) 3 gX1_invert_X1_quotient rfl rfl rfl hdV_X1_quotient ⟨Nat.le_of_ble_eq_true rfl, Nat.le_of_ble_eq_true rfl⟩ hP hD hK hS hA htb rfl hl.1 rfl (Nat.le_of_ble_eq_true rfl) dX1_invert_141 ⟨Nat.zero_le _, Nat.zero_le _⟩ (fun H locs hP hD hS => ?_)
          have hP : va_P (dC, dI) vwCl (mW h0 h1 h2 cI cL (vk, vn, en, (vp_updL (vp_updL (vp_updL nx 0 w_8) 1 w_17) 2 w_27), vx, vy, (f_X1_quotient_0 (((((en 0)).toInt64 * 65536) * 65536)) (w_1)).2)) H := hP
          have hD : va_D A (mW h0 h1 h2 cI cL (vk, vn, en, (vp_updL (vp_updL (vp_updL nx 0 w_8) 1 w_17) 2 w_27), vx, vy, (f_X1_quotient_0 (((((en 0)).toInt64 * 65536) * 65536)) (w_1)).2)) := hD
          obtain ⟨b_78, eb_79⟩ : ∃ b : Int32, b = (f_X1_quotient_0 (((((en 0)).toInt64 * 65536) * 65536)) (w_1)).2 := ⟨_, rfl⟩
          rw [← eb_79] at hP hD
          refine lv_topl (fun w_80 ew_81 => ?_)
          refine va_last hx hb hK hP hD hS 2 1 rfl rfl (vp_in_iff.mpr (by decide)) dX1_invert_144 (fun H locs hP hD hS => ?_)
          have hP : va_P (dC, dI) vwCl (mW h0 h1 h2 cI cL (vk, vn, en, (vp_updL (vp_updL (vp_updL (vp_updL nx 0 w_8) 1 w_17) 2 w_27) 3 w_80), vx, vy, b_78)) H := hP
          have hD : va_D A (mW h0 h1 h2 cI cL (vk, vn, en, (vp_updL (vp_updL (vp_updL (vp_updL nx 0 w_8) 1 w_17) 2 w_27) 3 w_80), vx, vy, b_78)) := hD
          refine lv_iload hx hb dX1_invert_145 (lv_at hl 2 rfl) ?_
          refine lv_if_ne (tgt := 157) hx hb dX1_invert_147 (by decide) (fun _ => ?_) (fun q => absurd q (by decide))
          refine lv_iconst (v := 1) hx hb dX1_invert_157 (by decide) ?_
          refine lv_goto (tgt := 162) hx hb dX1_invert_158 (by decide) ?_
          refine lv_istore (lv' := [(15, .int 1), (17, .long ((en 0)).toInt64), (16, .int 3), (13, .long w_1), (11, .long ((en 5)).toInt64), (9, .long ((en 4)).toInt64), (7, .long ((en 3)).toInt64), (5, .long ((en 2)).toInt64), (3, .long ((en 1)).toInt64), (1, .long ((en 0)).toInt64), (0, .ref h0)]) hx hb dX1_invert_162 hl (by decide) rfl (fun ls hl => ?_)
          refine lv_iinc (v := 4) (lv' := [(16, .int 4), (15, .int 1), (17, .long ((en 0)).toInt64), (13, .long w_1), (11, .long ((en 5)).toInt64), (9, .long ((en 4)).toInt64), (7, .long ((en 3)).toInt64), (5, .long ((en 2)).toInt64), (3, .long ((en 1)).toInt64), (1, .long ((en 0)).toInt64), (0, .ref h0)]) (k := 2) hx hb dX1_invert_164 hl rfl (by decide) (by decide) rfl (fun ls hl => ?_)
          refine lv_goto (tgt := 79) hx hb dX1_invert_167 (by decide) ?_
          refine lv_iload hx hb dX1_invert_79 (lv_at hl 0 rfl) ?_
          refine lv_iconst (v := 4) hx hb dX1_invert_81 (by decide) ?_
          refine pi_ge (tgt := 170) hx hb dX1_invert_82 (by decide) (fun _ => ?_) (fun q => absurd q (by decide))
          refine lv_aload_n hx hb dX1_invert_170 rfl (lv_at hl 10 rfl) ?_
          refine va_get (D := (dC, dI)) (ci := 1) (v := .ref h2) (C := RX1) (T := TX1) (N := 7) hx hb hts fi_X1_invert hown hK hP 0 rfl rfl 3 (by decide) (hts (.fieldLink RX1 17 "FixedPlaneModel" "next" "[J") (by decide +kernel)) (fun _ h9 => h9) rfl dX1_invert_171 ?_
          refine lv_iconst (v := 4) hx hb dX1_invert_174 (by decide) ?_
          refine lv_aload_n hx hb dX1_invert_175 rfl (lv_at hl 10 rfl) ?_
          refine lv_lload hx hb dX1_invert_176 (lv_at hl 7 rfl) ?_
          refine lv_lload hx hb dX1_invert_178 (lv_at hl 4 rfl) ?_
          refine lv_lmul hx hb dX1_invert_180 ?_
          refine lv_lload hx hb dX1_invert_181 (lv_at hl 6 rfl) ?_
          refine lv_lload hx hb dX1_invert_183 (lv_at hl 5 rfl) ?_
          refine lv_lmul hx hb dX1_invert_185 ?_
          refine lv_lsub hx hb dX1_invert_186 ?_
          refine lv_lload hx hb dX1_invert_187 (lv_at hl 3 rfl) ?_
          refine lv_bipush (v := 16) hx hb dX1_invert_189 (by decide) ?_
          refine mc_l (As := [.long ((((en 2)).toInt64 * ((en 5)).toInt64) - (((en 3)).toInt64 * ((en 4)).toInt64)), .long w_1, .int 16]) (rest := [.int 4, .ref h2]) ⟨hx, hb, hml, hown, hts⟩ (cc_X1_quotient_16 l dC dI h0 h1 h2 cI cL _ (vk) (vn) (en) ((vp_updL (vp_updL (vp_updL (vp_updL nx 0 w_8) 1 w_17) 2 w_27) 3 w_80)) (vx) (vy) (b_78) (((((en 2)).toInt64 * ((en 5)).toInt64) - (((en 3)).toInt64 * ((en 4)).toInt64))) (w_1) (c_3)) 3 gX1_invert_X1_quotient rfl rfl rfl hdV_X1_quotient ⟨Nat.le_of_ble_eq_true rfl, Nat.le_of_ble_eq_true rfl⟩ hP hD hK hS hA htb rfl hl.1 rfl (Nat.le_of_ble_eq_true rfl) dX1_invert_191 ⟨Nat.zero_le _, Nat.zero_le _⟩ (fun H locs hP hD hS => ?_)
          have hP : va_P (dC, dI) vwCl (mW h0 h1 h2 cI cL (vk, vn, en, (vp_updL (vp_updL (vp_updL (vp_updL nx 0 w_8) 1 w_17) 2 w_27) 3 w_80), vx, vy, (f_X1_quotient_16 (((((en 2)).toInt64 * ((en 5)).toInt64) - (((en 3)).toInt64 * ((en 4)).toInt64))) (w_1)).2)) H := hP
          have hD : va_D A (mW h0 h1 h2 cI cL (vk, vn, en, (vp_updL (vp_updL (vp_updL (vp_updL nx 0 w_8) 1 w_17) 2 w_27) 3 w_80), vx, vy, (f_X1_quotient_16 (((((en 2)).toInt64 * ((en 5)).toInt64) - (((en 3)).toInt64 * ((en 4)).toInt64))) (w_1)).2)) := hD
          obtain ⟨b_84, eb_85⟩ : ∃ b : Int32, b = (f_X1_quotient_16 (((((en 2)).toInt64 * ((en 5)).toInt64) - (((en 3)).toInt64 * ((en 4)).toInt64))) (w_1)).2 := ⟨_, rfl⟩
          rw [← eb_85] at hP hD
          refine lv_topl (fun w_86 ew_87 => ?_)
          refine va_last hx hb hK hP hD hS 2 1 rfl rfl (vp_in_iff.mpr (by decide)) dX1_invert_194 (fun H locs hP hD hS => ?_)
          have hP : va_P (dC, dI) vwCl (mW h0 h1 h2 cI cL (vk, vn, en, (vp_updL (vp_updL (vp_updL (vp_updL (vp_updL nx 0 w_8) 1 w_17) 2 w_27) 3 w_80) 4 w_86), vx, vy, b_84)) H := hP
          have hD : va_D A (mW h0 h1 h2 cI cL (vk, vn, en, (vp_updL (vp_updL (vp_updL (vp_updL (vp_updL nx 0 w_8) 1 w_17) 2 w_27) 3 w_80) 4 w_86), vx, vy, b_84)) := hD
          refine lv_iload hx hb dX1_invert_195 (lv_at hl 1 rfl) ?_
          refine lv_if_ne (tgt := 207) hx hb dX1_invert_197 (by decide) (fun _ => ?_) (fun q => absurd q (by decide))
          refine lv_iconst (v := 1) hx hb dX1_invert_207 (by decide) ?_
          refine lv_goto (tgt := 212) hx hb dX1_invert_208 (by decide) ?_
          refine lv_istore (lv' := [(15, .int 1), (16, .int 4), (17, .long ((en 0)).toInt64), (13, .long w_1), (11, .long ((en 5)).toInt64), (9, .long ((en 4)).toInt64), (7, .long ((en 3)).toInt64), (5, .long ((en 2)).toInt64), (3, .long ((en 1)).toInt64), (1, .long ((en 0)).toInt64), (0, .ref h0)]) hx hb dX1_invert_212 hl (by decide) rfl (fun ls hl => ?_)
          refine lv_aload_n hx hb dX1_invert_214 rfl (lv_at hl 10 rfl) ?_
          refine va_get (D := (dC, dI)) (ci := 1) (v := .ref h2) (C := RX1) (T := TX1) (N := 7) hx hb hts fi_X1_invert hown hK hP 0 rfl rfl 3 (by decide) (hts (.fieldLink RX1 17 "FixedPlaneModel" "next" "[J") (by decide +kernel)) (fun _ h9 => h9) rfl dX1_invert_215 ?_
          refine lv_iconst (v := 5) hx hb dX1_invert_218 (by decide) ?_
          refine lv_aload_n hx hb dX1_invert_219 rfl (lv_at hl 10 rfl) ?_
          refine lv_lload_n hx hb dX1_invert_220 rfl (lv_at hl 8 rfl) ?_
          refine lv_lload hx hb dX1_invert_221 (lv_at hl 5 rfl) ?_
          refine lv_lmul hx hb dX1_invert_223 ?_
          refine lv_lload_n hx hb dX1_invert_224 rfl (lv_at hl 9 rfl) ?_
          refine lv_lload hx hb dX1_invert_225 (lv_at hl 4 rfl) ?_
          refine lv_lmul hx hb dX1_invert_227 ?_
          refine lv_lsub hx hb dX1_invert_228 ?_
          refine lv_lload hx hb dX1_invert_229 (lv_at hl 3 rfl) ?_
          refine lv_bipush (v := 16) hx hb dX1_invert_231 (by decide) ?_
          refine mc_l (As := [.long ((((en 1)).toInt64 * ((en 4)).toInt64) - (((en 0)).toInt64 * ((en 5)).toInt64)), .long w_1, .int 16]) (rest := [.int 5, .ref h2]) ⟨hx, hb, hml, hown, hts⟩ (cc_X1_quotient_16 l dC dI h0 h1 h2 cI cL _ (vk) (vn) (en) ((vp_updL (vp_updL (vp_updL (vp_updL (vp_updL nx 0 w_8) 1 w_17) 2 w_27) 3 w_80) 4 w_86)) (vx) (vy) (b_84) (((((en 1)).toInt64 * ((en 4)).toInt64) - (((en 0)).toInt64 * ((en 5)).toInt64))) (w_1) (c_3)) 3 gX1_invert_X1_quotient rfl rfl rfl hdV_X1_quotient ⟨Nat.le_of_ble_eq_true rfl, Nat.le_of_ble_eq_true rfl⟩ hP hD hK hS hA htb rfl hl.1 rfl (Nat.le_of_ble_eq_true rfl) dX1_invert_233 ⟨Nat.zero_le _, Nat.zero_le _⟩ (fun H locs hP hD hS => ?_)
          have hP : va_P (dC, dI) vwCl (mW h0 h1 h2 cI cL (vk, vn, en, (vp_updL (vp_updL (vp_updL (vp_updL (vp_updL nx 0 w_8) 1 w_17) 2 w_27) 3 w_80) 4 w_86), vx, vy, (f_X1_quotient_16 (((((en 1)).toInt64 * ((en 4)).toInt64) - (((en 0)).toInt64 * ((en 5)).toInt64))) (w_1)).2)) H := hP
          have hD : va_D A (mW h0 h1 h2 cI cL (vk, vn, en, (vp_updL (vp_updL (vp_updL (vp_updL (vp_updL nx 0 w_8) 1 w_17) 2 w_27) 3 w_80) 4 w_86), vx, vy, (f_X1_quotient_16 (((((en 1)).toInt64 * ((en 4)).toInt64) - (((en 0)).toInt64 * ((en 5)).toInt64))) (w_1)).2)) := hD
          obtain ⟨b_89, eb_90⟩ : ∃ b : Int32, b = (f_X1_quotient_16 (((((en 1)).toInt64 * ((en 4)).toInt64) - (((en 0)).toInt64 * ((en 5)).toInt64))) (w_1)).2 := ⟨_, rfl⟩
          rw [← eb_90] at hP hD
          refine lv_topl (fun w_91 ew_92 => ?_)
          refine va_last hx hb hK hP hD hS 2 1 rfl rfl (vp_in_iff.mpr (by decide)) dX1_invert_236 (fun H locs hP hD hS => ?_)
          have hP : va_P (dC, dI) vwCl (mW h0 h1 h2 cI cL (vk, vn, en, (vp_updL (vp_updL (vp_updL (vp_updL (vp_updL (vp_updL nx 0 w_8) 1 w_17) 2 w_27) 3 w_80) 4 w_86) 5 w_91), vx, vy, b_89)) H := hP
          have hD : va_D A (mW h0 h1 h2 cI cL (vk, vn, en, (vp_updL (vp_updL (vp_updL (vp_updL (vp_updL (vp_updL nx 0 w_8) 1 w_17) 2 w_27) 3 w_80) 4 w_86) 5 w_91), vx, vy, b_89)) := hD
          refine lv_iload hx hb dX1_invert_237 (lv_at hl 0 rfl) ?_
          refine lv_if_ne (tgt := 249) hx hb dX1_invert_239 (by decide) (fun _ => ?_) (fun q => absurd q (by decide))
          refine lv_iconst (v := 1) hx hb dX1_invert_249 (by decide) ?_
          refine lv_goto (tgt := 254) hx hb dX1_invert_250 (by decide) ?_
          refine lv_istore (lv' := [(15, .int 1), (16, .int 4), (17, .long ((en 0)).toInt64), (13, .long w_1), (11, .long ((en 5)).toInt64), (9, .long ((en 4)).toInt64), (7, .long ((en 3)).toInt64), (5, .long ((en 2)).toInt64), (3, .long ((en 1)).toInt64), (1, .long ((en 0)).toInt64), (0, .ref h0)]) hx hb dX1_invert_254 hl (by decide) rfl (fun ls hl => ?_)
          refine lv_iload hx hb dX1_invert_256 (lv_at hl 0 rfl) ?_
          refine lv_if_eq (tgt := 266) hx hb dX1_invert_258 (by decide) (fun q => absurd q (by decide)) (fun _ => ?_)
          refine lv_bipush (v := (-2)) hx hb dX1_invert_261 (by decide) ?_
          refine lv_goto (tgt := 270) hx hb dX1_invert_263 (by decide) ?_
          have hE : f_X1_invert en nx vb = ((-2), en, (vp_updL (vp_updL (vp_updL (vp_updL (vp_updL (vp_updL nx 0 w_8) 1 w_17) 2 w_27) 3 w_80) 4 w_86) 5 w_91), b_89) := (by subst ew_92; subst eb_90; subst ew_87; subst eb_85; subst ew_81; subst eb_79; subst ew_28; subst eb_26; subst ew_18; subst eb_16; subst ew_9; subst eb_7; subst ew_2; rw [f_X1_invert, if_neg c_3, if_pos c_11, if_pos c_20, if_neg c_30])
          exact m_iret hx hb hr hlocks hP hD hK hS dX1_invert_270 ⟨by rw [hE], by rw [hE]⟩
      · skip
        refine lv_iconst (v := 1) hx hb dX1_invert_157 (by decide) ?_
        refine lv_goto (tgt := 162) hx hb dX1_invert_158 (by decide) ?_
        refine lv_istore (lv' := [(15, .int 1), (17, .long (-((en 1)).toInt64)), (16, .int 1), (13, .long w_1), (11, .long ((en 5)).toInt64), (9, .long ((en 4)).toInt64), (7, .long ((en 3)).toInt64), (5, .long ((en 2)).toInt64), (3, .long ((en 1)).toInt64), (1, .long ((en 0)).toInt64), (0, .ref h0)]) hx hb dX1_invert_162 hl (by decide) rfl (fun ls hl => ?_)
        refine lv_iinc (v := 2) (lv' := [(16, .int 2), (15, .int 1), (17, .long (-((en 1)).toInt64)), (13, .long w_1), (11, .long ((en 5)).toInt64), (9, .long ((en 4)).toInt64), (7, .long ((en 3)).toInt64), (5, .long ((en 2)).toInt64), (3, .long ((en 1)).toInt64), (1, .long ((en 0)).toInt64), (0, .ref h0)]) (k := 2) hx hb dX1_invert_164 hl rfl (by decide) (by decide) rfl (fun ls hl => ?_)
        refine lv_goto (tgt := 79) hx hb dX1_invert_167 (by decide) ?_
        refine lv_iload hx hb dX1_invert_79 (lv_at hl 0 rfl) ?_
        refine lv_iconst (v := 4) hx hb dX1_invert_81 (by decide) ?_
        refine pi_ge (tgt := 170) hx hb dX1_invert_82 (by decide) (fun q => absurd (by decide) q) (fun _ => ?_)
        refine lv_iload hx hb dX1_invert_85 (lv_at hl 0 rfl) ?_
        refine lv_if_ne (tgt := 95) hx hb dX1_invert_87 (by decide) (fun _ => ?_) (fun q => absurd q (by decide))
        refine lv_iload hx hb dX1_invert_95 (lv_at hl 0 rfl) ?_
        refine lv_iconst (v := 1) hx hb dX1_invert_97 (by decide) ?_
        refine lv_icmp_ne (tgt := 106) hx hb dX1_invert_98 (by decide) (fun _ => ?_) (fun q => absurd q (by decide))
        refine lv_iload hx hb dX1_invert_106 (lv_at hl 0 rfl) ?_
        refine lv_iconst (v := 2) hx hb dX1_invert_108 (by decide) ?_
        refine lv_icmp_ne (tgt := 118) hx hb dX1_invert_109 (by decide) (fun q => absurd (by decide) q) (fun _ => ?_)
        refine lv_lload hx hb dX1_invert_112 (lv_at hl 7 rfl) ?_
        refine lv_lneg hx hb dX1_invert_114 ?_
        refine lv_goto (tgt := 119) hx hb dX1_invert_115 (by decide) ?_
        refine lv_lstore (lv' := [(17, .long (-((en 2)).toInt64)), (16, .int 2), (15, .int 1), (13, .long w_1), (11, .long ((en 5)).toInt64), (9, .long ((en 4)).toInt64), (7, .long ((en 3)).toInt64), (5, .long ((en 2)).toInt64), (3, .long ((en 1)).toInt64), (1, .long ((en 0)).toInt64), (0, .ref h0)]) hx hb dX1_invert_119 hl (by decide) rfl (fun ls hl => ?_)
        refine lv_aload_n hx hb dX1_invert_121 rfl (lv_at hl 10 rfl) ?_
        refine va_get (D := (dC, dI)) (ci := 1) (v := .ref h2) (C := RX1) (T := TX1) (N := 7) hx hb hts fi_X1_invert hown hK hP 0 rfl rfl 3 (by decide) (hts (.fieldLink RX1 17 "FixedPlaneModel" "next" "[J") (by decide +kernel)) (fun _ h9 => h9) rfl dX1_invert_122 ?_
        refine lv_iload hx hb dX1_invert_125 (lv_at hl 1 rfl) ?_
        refine lv_aload_n hx hb dX1_invert_127 rfl (lv_at hl 10 rfl) ?_
        refine lv_lload hx hb dX1_invert_128 (lv_at hl 0 rfl) ?_
        refine lv_ldc2 (v := 65536) hx hb hown (hts (.constantLong RX1 23 (65536)) (by decide +kernel)) dX1_invert_130 ?_
        refine lv_lmul hx hb dX1_invert_133 ?_
        refine lv_ldc2 (v := 65536) hx hb hown (hts (.constantLong RX1 23 (65536)) (by decide +kernel)) dX1_invert_134 ?_
        refine lv_lmul hx hb dX1_invert_137 ?_
        refine lv_lload hx hb dX1_invert_138 (lv_at hl 3 rfl) ?_
        refine lv_iconst (v := 0) hx hb dX1_invert_140 (by decide) ?_
        refine mc_l (As := [.long (((-((en 2)).toInt64) * 65536) * 65536), .long w_1, .int 0]) (rest := [.int 2, .ref h2]) ⟨hx, hb, hml, hown, hts⟩ (cc_X1_quotient_0 l dC dI h0 h1 h2 cI cL _ (vk) (vn) (en) ((vp_updL (vp_updL nx 0 w_8) 1 w_17)) (vx) (vy) (b_15) ((((-((en 2)).toInt64) * 65536) * 65536)) (w_1) (c_3)) 3 gX1_invert_X1_quotient rfl rfl rfl hdV_X1_quotient ⟨Nat.le_of_ble_eq_true rfl, Nat.le_of_ble_eq_true rfl⟩ hP hD hK hS hA htb rfl hl.1 rfl (Nat.le_of_ble_eq_true rfl) dX1_invert_141 ⟨Nat.zero_le _, Nat.zero_le _⟩ (fun H locs hP hD hS => ?_)
        have hP : va_P (dC, dI) vwCl (mW h0 h1 h2 cI cL (vk, vn, en, (vp_updL (vp_updL nx 0 w_8) 1 w_17), vx, vy, (f_X1_quotient_0 ((((-((en 2)).toInt64) * 65536) * 65536)) (w_1)).2)) H := hP
        have hD : va_D A (mW h0 h1 h2 cI cL (vk, vn, en, (vp_updL (vp_updL nx 0 w_8) 1 w_17), vx, vy, (f_X1_quotient_0 ((((-((en 2)).toInt64) * 65536) * 65536)) (w_1)).2)) := hD
        obtain ⟨b_99, eb_100⟩ : ∃ b : Int32, b = (f_X1_quotient_0 ((((-((en 2)).toInt64) * 65536) * 65536)) (w_1)).2 := ⟨_, rfl⟩
        rw [← eb_100] at hP hD
        refine lv_topl (fun w_101 ew_102 => ?_)
        refine va_last hx hb hK hP hD hS 2 1 rfl rfl (vp_in_iff.mpr (by decide)) dX1_invert_144 (fun H locs hP hD hS => ?_)
        have hP : va_P (dC, dI) vwCl (mW h0 h1 h2 cI cL (vk, vn, en, (vp_updL (vp_updL (vp_updL nx 0 w_8) 1 w_17) 2 w_101), vx, vy, b_99)) H := hP
        have hD : va_D A (mW h0 h1 h2 cI cL (vk, vn, en, (vp_updL (vp_updL (vp_updL nx 0 w_8) 1 w_17) 2 w_101), vx, vy, b_99)) := hD
        refine lv_iload hx hb dX1_invert_145 (lv_at hl 2 rfl) ?_
        refine lv_if_ne (tgt := 157) hx hb dX1_invert_147 (by decide) (fun _ => ?_) (fun q => absurd q (by decide))
        refine lv_iconst (v := 1) hx hb dX1_invert_157 (by decide) ?_
        refine lv_goto (tgt := 162) hx hb dX1_invert_158 (by decide) ?_
        refine lv_istore (lv' := [(15, .int 1), (17, .long (-((en 2)).toInt64)), (16, .int 2), (13, .long w_1), (11, .long ((en 5)).toInt64), (9, .long ((en 4)).toInt64), (7, .long ((en 3)).toInt64), (5, .long ((en 2)).toInt64), (3, .long ((en 1)).toInt64), (1, .long ((en 0)).toInt64), (0, .ref h0)]) hx hb dX1_invert_162 hl (by decide) rfl (fun ls hl => ?_)
        refine lv_iinc (v := 3) (lv' := [(16, .int 3), (15, .int 1), (17, .long (-((en 2)).toInt64)), (13, .long w_1), (11, .long ((en 5)).toInt64), (9, .long ((en 4)).toInt64), (7, .long ((en 3)).toInt64), (5, .long ((en 2)).toInt64), (3, .long ((en 1)).toInt64), (1, .long ((en 0)).toInt64), (0, .ref h0)]) (k := 2) hx hb dX1_invert_164 hl rfl (by decide) (by decide) rfl (fun ls hl => ?_)
        refine lv_goto (tgt := 79) hx hb dX1_invert_167 (by decide) ?_
        refine lv_iload hx hb dX1_invert_79 (lv_at hl 0 rfl) ?_
        refine lv_iconst (v := 4) hx hb dX1_invert_81 (by decide) ?_
        refine pi_ge (tgt := 170) hx hb dX1_invert_82 (by decide) (fun q => absurd (by decide) q) (fun _ => ?_)
        refine lv_iload hx hb dX1_invert_85 (lv_at hl 0 rfl) ?_
        refine lv_if_ne (tgt := 95) hx hb dX1_invert_87 (by decide) (fun _ => ?_) (fun q => absurd q (by decide))
        refine lv_iload hx hb dX1_invert_95 (lv_at hl 0 rfl) ?_
        refine lv_iconst (v := 1) hx hb dX1_invert_97 (by decide) ?_
        refine lv_icmp_ne (tgt := 106) hx hb dX1_invert_98 (by decide) (fun _ => ?_) (fun q => absurd q (by decide))
        refine lv_iload hx hb dX1_invert_106 (lv_at hl 0 rfl) ?_
        refine lv_iconst (v := 2) hx hb dX1_invert_108 (by decide) ?_
        refine lv_icmp_ne (tgt := 118) hx hb dX1_invert_109 (by decide) (fun _ => ?_) (fun q => absurd q (by decide))
        refine lv_lload_n hx hb dX1_invert_118 rfl (lv_at hl 9 rfl) ?_
        refine lv_lstore (lv' := [(17, .long ((en 0)).toInt64), (16, .int 3), (15, .int 1), (13, .long w_1), (11, .long ((en 5)).toInt64), (9, .long ((en 4)).toInt64), (7, .long ((en 3)).toInt64), (5, .long ((en 2)).toInt64), (3, .long ((en 1)).toInt64), (1, .long ((en 0)).toInt64), (0, .ref h0)]) hx hb dX1_invert_119 hl (by decide) rfl (fun ls hl => ?_)
        refine lv_aload_n hx hb dX1_invert_121 rfl (lv_at hl 10 rfl) ?_
        refine va_get (D := (dC, dI)) (ci := 1) (v := .ref h2) (C := RX1) (T := TX1) (N := 7) hx hb hts fi_X1_invert hown hK hP 0 rfl rfl 3 (by decide) (hts (.fieldLink RX1 17 "FixedPlaneModel" "next" "[J") (by decide +kernel)) (fun _ h9 => h9) rfl dX1_invert_122 ?_
        refine lv_iload hx hb dX1_invert_125 (lv_at hl 1 rfl) ?_
        refine lv_aload_n hx hb dX1_invert_127 rfl (lv_at hl 10 rfl) ?_
        refine lv_lload hx hb dX1_invert_128 (lv_at hl 0 rfl) ?_
        refine lv_ldc2 (v := 65536) hx hb hown (hts (.constantLong RX1 23 (65536)) (by decide +kernel)) dX1_invert_130 ?_
        refine lv_lmul hx hb dX1_invert_133 ?_
        refine lv_ldc2 (v := 65536) hx hb hown (hts (.constantLong RX1 23 (65536)) (by decide +kernel)) dX1_invert_134 ?_
        refine lv_lmul hx hb dX1_invert_137 ?_
        refine lv_lload hx hb dX1_invert_138 (lv_at hl 3 rfl) ?_
        refine lv_iconst (v := 0) hx hb dX1_invert_140 (by decide) ?_
        refine mc_l (As := [.long ((((en 0)).toInt64 * 65536) * 65536), .long w_1, .int 0]) (rest := [.int 3, .ref h2]) ⟨hx, hb, hml, hown, hts⟩ (cc_X1_quotient_0 l dC dI h0 h1 h2 cI cL _ (vk) (vn) (en) ((vp_updL (vp_updL (vp_updL nx 0 w_8) 1 w_17) 2 w_101)) (vx) (vy) (b_99) (((((en 0)).toInt64 * 65536) * 65536)) (w_1) (c_3)) 3 gX1_invert_X1_quotient rfl rfl rfl hdV_X1_quotient ⟨Nat.le_of_ble_eq_true rfl, Nat.le_of_ble_eq_true rfl⟩ hP hD hK hS hA htb rfl hl.1 rfl (Nat.le_of_ble_eq_true rfl) dX1_invert_141 ⟨Nat.zero_le _, Nat.zero_le _⟩ (fun H locs hP hD hS => ?_)
        have hP : va_P (dC, dI) vwCl (mW h0 h1 h2 cI cL (vk, vn, en, (vp_updL (vp_updL (vp_updL nx 0 w_8) 1 w_17) 2 w_101), vx, vy, (f_X1_quotient_0 (((((en 0)).toInt64 * 65536) * 65536)) (w_1)).2)) H := hP
        have hD : va_D A (mW h0 h1 h2 cI cL (vk, vn, en, (vp_updL (vp_updL (vp_updL nx 0 w_8) 1 w_17) 2 w_101), vx, vy, (f_X1_quotient_0 (((((en 0)).toInt64 * 65536) * 65536)) (w_1)).2)) := hD
        obtain ⟨b_108, eb_109⟩ : ∃ b : Int32, b = (f_X1_quotient_0 (((((en 0)).toInt64 * 65536) * 65536)) (w_1)).2 := ⟨_, rfl⟩
        rw [← eb_109] at hP hD
        refine lv_topl (fun w_110 ew_111 => ?_)
        refine va_last hx hb hK hP hD hS 2 1 rfl rfl (vp_in_iff.mpr (by decide)) dX1_invert_144 (fun H locs hP hD hS => ?_)
        have hP : va_P (dC, dI) vwCl (mW h0 h1 h2 cI cL (vk, vn, en, (vp_updL (vp_updL (vp_updL (vp_updL nx 0 w_8) 1 w_17) 2 w_101) 3 w_110), vx, vy, b_108)) H := hP
        have hD : va_D A (mW h0 h1 h2 cI cL (vk, vn, en, (vp_updL (vp_updL (vp_updL (vp_updL nx 0 w_8) 1 w_17) 2 w_101) 3 w_110), vx, vy, b_108)) := hD
        refine lv_iload hx hb dX1_invert_145 (lv_at hl 2 rfl) ?_
        refine lv_if_ne (tgt := 157) hx hb dX1_invert_147 (by decide) (fun _ => ?_) (fun q => absurd q (by decide))
        refine lv_iconst (v := 1) hx hb dX1_invert_157 (by decide) ?_
        refine lv_goto (tgt := 162) hx hb dX1_invert_158 (by decide) ?_
        refine lv_istore (lv' := [(15, .int 1), (17, .long ((en 0)).toInt64), (16, .int 3), (13, .long w_1), (11, .long ((en 5)).toInt64), (9, .long ((en 4)).toInt64), (7, .long ((en 3)).toInt64), (5, .long ((en 2)).toInt64), (3, .long ((en 1)).toInt64), (1, .long ((en 0)).toInt64), (0, .ref h0)]) hx hb dX1_invert_162 hl (by decide) rfl (fun ls hl => ?_)
        refine lv_iinc (v := 4) (lv' := [(16, .int 4), (15, .int 1), (17, .long ((en 0)).toInt64), (13, .long w_1), (11, .long ((en 5)).toInt64), (9, .long ((en 4)).toInt64), (7, .long ((en 3)).toInt64), (5, .long ((en 2)).toInt64), (3, .long ((en 1)).toInt64), (1, .long ((en 0)).toInt64), (0, .ref h0)]) (k := 2) hx hb dX1_invert_164 hl rfl (by decide) (by decide) rfl (fun ls hl => ?_)
        refine lv_goto (tgt := 79) hx hb dX1_invert_167 (by decide) ?_
        refine lv_iload hx hb dX1_invert_79 (lv_at hl 0 rfl) ?_
        refine lv_iconst (v := 4) hx hb dX1_invert_81 (by decide) ?_
        refine pi_ge (tgt := 170) hx hb dX1_invert_82 (by decide) (fun _ => ?_) (fun q => absurd q (by decide))
        refine lv_aload_n hx hb dX1_invert_170 rfl (lv_at hl 10 rfl) ?_
        refine va_get (D := (dC, dI)) (ci := 1) (v := .ref h2) (C := RX1) (T := TX1) (N := 7) hx hb hts fi_X1_invert hown hK hP 0 rfl rfl 3 (by decide) (hts (.fieldLink RX1 17 "FixedPlaneModel" "next" "[J") (by decide +kernel)) (fun _ h9 => h9) rfl dX1_invert_171 ?_
        refine lv_iconst (v := 4) hx hb dX1_invert_174 (by decide) ?_
        refine lv_aload_n hx hb dX1_invert_175 rfl (lv_at hl 10 rfl) ?_
        refine lv_lload hx hb dX1_invert_176 (lv_at hl 7 rfl) ?_
        refine lv_lload hx hb dX1_invert_178 (lv_at hl 4 rfl) ?_
        refine lv_lmul hx hb dX1_invert_180 ?_
        refine lv_lload hx hb dX1_invert_181 (lv_at hl 6 rfl) ?_
        refine lv_lload hx hb dX1_invert_183 (lv_at hl 5 rfl) ?_
        refine lv_lmul hx hb dX1_invert_185 ?_
        refine lv_lsub hx hb dX1_invert_186 ?_
        refine lv_lload hx hb dX1_invert_187 (lv_at hl 3 rfl) ?_
        refine lv_bipush (v := 16) hx hb dX1_invert_189 (by decide) ?_
        refine mc_l (As := [.long ((((en 2)).toInt64 * ((en 5)).toInt64) - (((en 3)).toInt64 * ((en 4)).toInt64)), .long w_1, .int 16]) (rest := [.int 4, .ref h2]) ⟨hx, hb, hml, hown, hts⟩ (cc_X1_quotient_16 l dC dI h0 h1 h2 cI cL _ (vk) (vn) (en) ((vp_updL (vp_updL (vp_updL (vp_updL nx 0 w_8) 1 w_17) 2 w_101) 3 w_110)) (vx) (vy) (b_108) (((((en 2)).toInt64 * ((en 5)).toInt64) - (((en 3)).toInt64 * ((en 4)).toInt64))) (w_1) (c_3)) 3 gX1_invert_X1_quotient rfl rfl rfl hdV_X1_quotient ⟨Nat.le_of_ble_eq_true rfl, Nat.le_of_ble_eq_true rfl⟩ hP hD hK hS hA htb rfl hl.1 rfl (Nat.le_of_ble_eq_true rfl) dX1_invert_191 ⟨Nat.zero_le _, Nat.zero_le _⟩ (fun H locs hP hD hS => ?_)
        have hP : va_P (dC, dI) vwCl (mW h0 h1 h2 cI cL (vk, vn, en, (vp_updL (vp_updL (vp_updL (vp_updL nx 0 w_8) 1 w_17) 2 w_101) 3 w_110), vx, vy, (f_X1_quotient_16 (((((en 2)).toInt64 * ((en 5)).toInt64) - (((en 3)).toInt64 * ((en 4)).toInt64))) (w_1)).2)) H := hP
        have hD : va_D A (mW h0 h1 h2 cI cL (vk, vn, en, (vp_updL (vp_updL (vp_updL (vp_updL nx 0 w_8) 1 w_17) 2 w_101) 3 w_110), vx, vy, (f_X1_quotient_16 (((((en 2)).toInt64 * ((en 5)).toInt64) - (((en 3)).toInt64 * ((en 4)).toInt64))) (w_1)).2)) := hD
        obtain ⟨b_114, eb_115⟩ : ∃ b : Int32, b = (f_X1_quotient_16 (((((en 2)).toInt64 * ((en 5)).toInt64) - (((en 3)).toInt64 * ((en 4)).toInt64))) (w_1)).2 := ⟨_, rfl⟩
        rw [← eb_115] at hP hD
        refine lv_topl (fun w_116 ew_117 => ?_)
        refine va_last hx hb hK hP hD hS 2 1 rfl rfl (vp_in_iff.mpr (by decide)) dX1_invert_194 (fun H locs hP hD hS => ?_)
        have hP : va_P (dC, dI) vwCl (mW h0 h1 h2 cI cL (vk, vn, en, (vp_updL (vp_updL (vp_updL (vp_updL (vp_updL nx 0 w_8) 1 w_17) 2 w_101) 3 w_110) 4 w_116), vx, vy, b_114)) H := hP
        have hD : va_D A (mW h0 h1 h2 cI cL (vk, vn, en, (vp_updL (vp_updL (vp_updL (vp_updL (vp_updL nx 0 w_8) 1 w_17) 2 w_101) 3 w_110) 4 w_116), vx, vy, b_114)) := hD
        refine lv_iload hx hb dX1_invert_195 (lv_at hl 1 rfl) ?_
        refine lv_if_ne (tgt := 207) hx hb dX1_invert_197 (by decide) (fun _ => ?_) (fun q => absurd q (by decide))
        refine lv_iconst (v := 1) hx hb dX1_invert_207 (by decide) ?_
        refine lv_goto (tgt := 212) hx hb dX1_invert_208 (by decide) ?_
        refine lv_istore (lv' := [(15, .int 1), (16, .int 4), (17, .long ((en 0)).toInt64), (13, .long w_1), (11, .long ((en 5)).toInt64), (9, .long ((en 4)).toInt64), (7, .long ((en 3)).toInt64), (5, .long ((en 2)).toInt64), (3, .long ((en 1)).toInt64), (1, .long ((en 0)).toInt64), (0, .ref h0)]) hx hb dX1_invert_212 hl (by decide) rfl (fun ls hl => ?_)
        refine lv_aload_n hx hb dX1_invert_214 rfl (lv_at hl 10 rfl) ?_
        refine va_get (D := (dC, dI)) (ci := 1) (v := .ref h2) (C := RX1) (T := TX1) (N := 7) hx hb hts fi_X1_invert hown hK hP 0 rfl rfl 3 (by decide) (hts (.fieldLink RX1 17 "FixedPlaneModel" "next" "[J") (by decide +kernel)) (fun _ h9 => h9) rfl dX1_invert_215 ?_
        refine lv_iconst (v := 5) hx hb dX1_invert_218 (by decide) ?_
        refine lv_aload_n hx hb dX1_invert_219 rfl (lv_at hl 10 rfl) ?_
        refine lv_lload_n hx hb dX1_invert_220 rfl (lv_at hl 8 rfl) ?_
        refine lv_lload hx hb dX1_invert_221 (lv_at hl 5 rfl) ?_
        refine lv_lmul hx hb dX1_invert_223 ?_
        refine lv_lload_n hx hb dX1_invert_224 rfl (lv_at hl 9 rfl) ?_
        refine lv_lload hx hb dX1_invert_225 (lv_at hl 4 rfl) ?_
        refine lv_lmul hx hb dX1_invert_227 ?_
        refine lv_lsub hx hb dX1_invert_228 ?_
        refine lv_lload hx hb dX1_invert_229 (lv_at hl 3 rfl) ?_
        refine lv_bipush (v := 16) hx hb dX1_invert_231 (by decide) ?_
        refine mc_l (As := [.long ((((en 1)).toInt64 * ((en 4)).toInt64) - (((en 0)).toInt64 * ((en 5)).toInt64)), .long w_1, .int 16]) (rest := [.int 5, .ref h2]) ⟨hx, hb, hml, hown, hts⟩ (cc_X1_quotient_16 l dC dI h0 h1 h2 cI cL _ (vk) (vn) (en) ((vp_updL (vp_updL (vp_updL (vp_updL (vp_updL nx 0 w_8) 1 w_17) 2 w_101) 3 w_110) 4 w_116)) (vx) (vy) (b_114) (((((en 1)).toInt64 * ((en 4)).toInt64) - (((en 0)).toInt64 * ((en 5)).toInt64))) (w_1) (c_3)) 3 gX1_invert_X1_quotient rfl rfl rfl hdV_X1_quotient ⟨Nat.le_of_ble_eq_true rfl, Nat.le_of_ble_eq_true rfl⟩ hP hD hK hS hA htb rfl hl.1 rfl (Nat.le_of_ble_eq_true rfl) dX1_invert_233 ⟨Nat.zero_le _, Nat.zero_le _⟩ (fun H locs hP hD hS => ?_)
        have hP : va_P (dC, dI) vwCl (mW h0 h1 h2 cI cL (vk, vn, en, (vp_updL (vp_updL (vp_updL (vp_updL (vp_updL nx 0 w_8) 1 w_17) 2 w_101) 3 w_110) 4 w_116), vx, vy, (f_X1_quotient_16 (((((en 1)).toInt64 * ((en 4)).toInt64) - (((en 0)).toInt64 * ((en 5)).toInt64))) (w_1)).2)) H := hP
        have hD : va_D A (mW h0 h1 h2 cI cL (vk, vn, en, (vp_updL (vp_updL (vp_updL (vp_updL (vp_updL nx 0 w_8) 1 w_17) 2 w_101) 3 w_110) 4 w_116), vx, vy, (f_X1_quotient_16 (((((en 1)).toInt64 * ((en 4)).toInt64) - (((en 0)).toInt64 * ((en 5)).toInt64))) (w_1)).2)) := hD
        obtain ⟨b_119, eb_120⟩ : ∃ b : Int32, b = (f_X1_quotient_16 (((((en 1)).toInt64 * ((en 4)).toInt64) - (((en 0)).toInt64 * ((en 5)).toInt64))) (w_1)).2 := ⟨_, rfl⟩
        rw [← eb_120] at hP hD
        refine lv_topl (fun w_121 ew_122 => ?_)
        refine va_last hx hb hK hP hD hS 2 1 rfl rfl (vp_in_iff.mpr (by decide)) dX1_invert_236 (fun H locs hP hD hS => ?_)
        have hP : va_P (dC, dI) vwCl (mW h0 h1 h2 cI cL (vk, vn, en, (vp_updL (vp_updL (vp_updL (vp_updL (vp_updL (vp_updL nx 0 w_8) 1 w_17) 2 w_101) 3 w_110) 4 w_116) 5 w_121), vx, vy, b_119)) H := hP
        have hD : va_D A (mW h0 h1 h2 cI cL (vk, vn, en, (vp_updL (vp_updL (vp_updL (vp_updL (vp_updL (vp_updL nx 0 w_8) 1 w_17) 2 w_101) 3 w_110) 4 w_116) 5 w_121), vx, vy, b_119)) := hD
        refine lv_iload hx hb dX1_invert_237 (lv_at hl 0 rfl) ?_
        refine lv_if_ne (tgt := 249) hx hb dX1_invert_239 (by decide) (fun _ => ?_) (fun q => absurd q (by decide))
        refine lv_iconst (v := 1) hx hb dX1_invert_249 (by decide) ?_
        refine lv_goto (tgt := 254) hx hb dX1_invert_250 (by decide) ?_
        refine lv_istore (lv' := [(15, .int 1), (16, .int 4), (17, .long ((en 0)).toInt64), (13, .long w_1), (11, .long ((en 5)).toInt64), (9, .long ((en 4)).toInt64), (7, .long ((en 3)).toInt64), (5, .long ((en 2)).toInt64), (3, .long ((en 1)).toInt64), (1, .long ((en 0)).toInt64), (0, .ref h0)]) hx hb dX1_invert_254 hl (by decide) rfl (fun ls hl => ?_)
        refine lv_iload hx hb dX1_invert_256 (lv_at hl 0 rfl) ?_
        refine lv_if_eq (tgt := 266) hx hb dX1_invert_258 (by decide) (fun q => absurd q (by decide)) (fun _ => ?_)
        refine lv_bipush (v := (-2)) hx hb dX1_invert_261 (by decide) ?_
        refine lv_goto (tgt := 270) hx hb dX1_invert_263 (by decide) ?_
        have hE : f_X1_invert en nx vb = ((-2), en, (vp_updL (vp_updL (vp_updL (vp_updL (vp_updL (vp_updL nx 0 w_8) 1 w_17) 2 w_101) 3 w_110) 4 w_116) 5 w_121), b_119) := (by subst ew_122; subst eb_120; subst ew_117; subst eb_115; subst ew_111; subst eb_109; subst ew_102; subst eb_100; subst ew_18; subst eb_16; subst ew_9; subst eb_7; subst ew_2; rw [f_X1_invert, if_neg c_3, if_pos c_11, if_neg c_20])
        exact m_iret hx hb hr hlocks hP hD hK hS dX1_invert_270 ⟨by rw [hE], by rw [hE]⟩
    · skip
      refine lv_iconst (v := 1) hx hb dX1_invert_157 (by decide) ?_
      refine lv_goto (tgt := 162) hx hb dX1_invert_158 (by decide) ?_
      refine lv_istore (lv' := [(15, .int 1), (17, .long ((en 3)).toInt64), (16, .int 0), (13, .long w_1), (11, .long ((en 5)).toInt64), (9, .long ((en 4)).toInt64), (7, .long ((en 3)).toInt64), (5, .long ((en 2)).toInt64), (3, .long ((en 1)).toInt64), (1, .long ((en 0)).toInt64), (0, .ref h0)]) hx hb dX1_invert_162 hl (by decide) rfl (fun ls hl => ?_)
      refine lv_iinc (v := 1) (lv' := [(16, .int 1), (15, .int 1), (17, .long ((en 3)).toInt64), (13, .long w_1), (11, .long ((en 5)).toInt64), (9, .long ((en 4)).toInt64), (7, .long ((en 3)).toInt64), (5, .long ((en 2)).toInt64), (3, .long ((en 1)).toInt64), (1, .long ((en 0)).toInt64), (0, .ref h0)]) (k := 2) hx hb dX1_invert_164 hl rfl (by decide) (by decide) rfl (fun ls hl => ?_)
      refine lv_goto (tgt := 79) hx hb dX1_invert_167 (by decide) ?_
      refine lv_iload hx hb dX1_invert_79 (lv_at hl 0 rfl) ?_
      refine lv_iconst (v := 4) hx hb dX1_invert_81 (by decide) ?_
      refine pi_ge (tgt := 170) hx hb dX1_invert_82 (by decide) (fun q => absurd (by decide) q) (fun _ => ?_)
      refine lv_iload hx hb dX1_invert_85 (lv_at hl 0 rfl) ?_
      refine lv_if_ne (tgt := 95) hx hb dX1_invert_87 (by decide) (fun _ => ?_) (fun q => absurd q (by decide))
      refine lv_iload hx hb dX1_invert_95 (lv_at hl 0 rfl) ?_
      refine lv_iconst (v := 1) hx hb dX1_invert_97 (by decide) ?_
      refine lv_icmp_ne (tgt := 106) hx hb dX1_invert_98 (by decide) (fun q => absurd (by decide) q) (fun _ => ?_)
      refine lv_lload_n hx hb dX1_invert_101 rfl (lv_at hl 8 rfl) ?_
      refine lv_lneg hx hb dX1_invert_102 ?_
      refine lv_goto (tgt := 119) hx hb dX1_invert_103 (by decide) ?_
      refine lv_lstore (lv' := [(17, .long (-((en 1)).toInt64)), (16, .int 1), (15, .int 1), (13, .long w_1), (11, .long ((en 5)).toInt64), (9, .long ((en 4)).toInt64), (7, .long ((en 3)).toInt64), (5, .long ((en 2)).toInt64), (3, .long ((en 1)).toInt64), (1, .long ((en 0)).toInt64), (0, .ref h0)]) hx hb dX1_invert_119 hl (by decide) rfl (fun ls hl => ?_)
      refine lv_aload_n hx hb dX1_invert_121 rfl (lv_at hl 10 rfl) ?_
      refine va_get (D := (dC, dI)) (ci := 1) (v := .ref h2) (C := RX1) (T := TX1) (N := 7) hx hb hts fi_X1_invert hown hK hP 0 rfl rfl 3 (by decide) (hts (.fieldLink RX1 17 "FixedPlaneModel" "next" "[J") (by decide +kernel)) (fun _ h9 => h9) rfl dX1_invert_122 ?_
      refine lv_iload hx hb dX1_invert_125 (lv_at hl 1 rfl) ?_
      refine lv_aload_n hx hb dX1_invert_127 rfl (lv_at hl 10 rfl) ?_
      refine lv_lload hx hb dX1_invert_128 (lv_at hl 0 rfl) ?_
      refine lv_ldc2 (v := 65536) hx hb hown (hts (.constantLong RX1 23 (65536)) (by decide +kernel)) dX1_invert_130 ?_
      refine lv_lmul hx hb dX1_invert_133 ?_
      refine lv_ldc2 (v := 65536) hx hb hown (hts (.constantLong RX1 23 (65536)) (by decide +kernel)) dX1_invert_134 ?_
      refine lv_lmul hx hb dX1_invert_137 ?_
      refine lv_lload hx hb dX1_invert_138 (lv_at hl 3 rfl) ?_
      refine lv_iconst (v := 0) hx hb dX1_invert_140 (by decide) ?_
      refine mc_l (As := [.long (((-((en 1)).toInt64) * 65536) * 65536), .long w_1, .int 0]) (rest := [.int 1, .ref h2]) ⟨hx, hb, hml, hown, hts⟩ (cc_X1_quotient_0 l dC dI h0 h1 h2 cI cL _ (vk) (vn) (en) ((vp_updL nx 0 w_8)) (vx) (vy) (b_6) ((((-((en 1)).toInt64) * 65536) * 65536)) (w_1) (c_3)) 3 gX1_invert_X1_quotient rfl rfl rfl hdV_X1_quotient ⟨Nat.le_of_ble_eq_true rfl, Nat.le_of_ble_eq_true rfl⟩ hP hD hK hS hA htb rfl hl.1 rfl (Nat.le_of_ble_eq_true rfl) dX1_invert_141 ⟨Nat.zero_le _, Nat.zero_le _⟩ (fun H locs hP hD hS => ?_)
      have hP : va_P (dC, dI) vwCl (mW h0 h1 h2 cI cL (vk, vn, en, (vp_updL nx 0 w_8), vx, vy, (f_X1_quotient_0 ((((-((en 1)).toInt64) * 65536) * 65536)) (w_1)).2)) H := hP
      have hD : va_D A (mW h0 h1 h2 cI cL (vk, vn, en, (vp_updL nx 0 w_8), vx, vy, (f_X1_quotient_0 ((((-((en 1)).toInt64) * 65536) * 65536)) (w_1)).2)) := hD
      obtain ⟨b_128, eb_129⟩ : ∃ b : Int32, b = (f_X1_quotient_0 ((((-((en 1)).toInt64) * 65536) * 65536)) (w_1)).2 := ⟨_, rfl⟩
      rw [← eb_129] at hP hD
      refine lv_topl (fun w_130 ew_131 => ?_)
      refine va_last hx hb hK hP hD hS 2 1 rfl rfl (vp_in_iff.mpr (by decide)) dX1_invert_144 (fun H locs hP hD hS => ?_)
      have hP : va_P (dC, dI) vwCl (mW h0 h1 h2 cI cL (vk, vn, en, (vp_updL (vp_updL nx 0 w_8) 1 w_130), vx, vy, b_128)) H := hP
      have hD : va_D A (mW h0 h1 h2 cI cL (vk, vn, en, (vp_updL (vp_updL nx 0 w_8) 1 w_130), vx, vy, b_128)) := hD
      refine lv_iload hx hb dX1_invert_145 (lv_at hl 2 rfl) ?_
      refine lv_if_ne (tgt := 157) hx hb dX1_invert_147 (by decide) (fun _ => ?_) (fun q => absurd q (by decide))
      refine lv_iconst (v := 1) hx hb dX1_invert_157 (by decide) ?_
      refine lv_goto (tgt := 162) hx hb dX1_invert_158 (by decide) ?_
      refine lv_istore (lv' := [(15, .int 1), (17, .long (-((en 1)).toInt64)), (16, .int 1), (13, .long w_1), (11, .long ((en 5)).toInt64), (9, .long ((en 4)).toInt64), (7, .long ((en 3)).toInt64), (5, .long ((en 2)).toInt64), (3, .long ((en 1)).toInt64), (1, .long ((en 0)).toInt64), (0, .ref h0)]) hx hb dX1_invert_162 hl (by decide) rfl (fun ls hl => ?_)
      refine lv_iinc (v := 2) (lv' := [(16, .int 2), (15, .int 1), (17, .long (-((en 1)).toInt64)), (13, .long w_1), (11, .long ((en 5)).toInt64), (9, .long ((en 4)).toInt64), (7, .long ((en 3)).toInt64), (5, .long ((en 2)).toInt64), (3, .long ((en 1)).toInt64), (1, .long ((en 0)).toInt64), (0, .ref h0)]) (k := 2) hx hb dX1_invert_164 hl rfl (by decide) (by decide) rfl (fun ls hl => ?_)
      refine lv_goto (tgt := 79) hx hb dX1_invert_167 (by decide) ?_
      refine lv_iload hx hb dX1_invert_79 (lv_at hl 0 rfl) ?_
      refine lv_iconst (v := 4) hx hb dX1_invert_81 (by decide) ?_
      refine pi_ge (tgt := 170) hx hb dX1_invert_82 (by decide) (fun q => absurd (by decide) q) (fun _ => ?_)
      refine lv_iload hx hb dX1_invert_85 (lv_at hl 0 rfl) ?_
      refine lv_if_ne (tgt := 95) hx hb dX1_invert_87 (by decide) (fun _ => ?_) (fun q => absurd q (by decide))
      refine lv_iload hx hb dX1_invert_95 (lv_at hl 0 rfl) ?_
      refine lv_iconst (v := 1) hx hb dX1_invert_97 (by decide) ?_
      refine lv_icmp_ne (tgt := 106) hx hb dX1_invert_98 (by decide) (fun _ => ?_) (fun q => absurd q (by decide))
      refine lv_iload hx hb dX1_invert_106 (lv_at hl 0 rfl) ?_
      refine lv_iconst (v := 2) hx hb dX1_invert_108 (by decide) ?_
      refine lv_icmp_ne (tgt := 118) hx hb dX1_invert_109 (by decide) (fun q => absurd (by decide) q) (fun _ => ?_)
      refine lv_lload hx hb dX1_invert_112 (lv_at hl 7 rfl) ?_
      refine lv_lneg hx hb dX1_invert_114 ?_
      refine lv_goto (tgt := 119) hx hb dX1_invert_115 (by decide) ?_
      refine lv_lstore (lv' := [(17, .long (-((en 2)).toInt64)), (16, .int 2), (15, .int 1), (13, .long w_1), (11, .long ((en 5)).toInt64), (9, .long ((en 4)).toInt64), (7, .long ((en 3)).toInt64), (5, .long ((en 2)).toInt64), (3, .long ((en 1)).toInt64), (1, .long ((en 0)).toInt64), (0, .ref h0)]) hx hb dX1_invert_119 hl (by decide) rfl (fun ls hl => ?_)
      refine lv_aload_n hx hb dX1_invert_121 rfl (lv_at hl 10 rfl) ?_
      refine va_get (D := (dC, dI)) (ci := 1) (v := .ref h2) (C := RX1) (T := TX1) (N := 7) hx hb hts fi_X1_invert hown hK hP 0 rfl rfl 3 (by decide) (hts (.fieldLink RX1 17 "FixedPlaneModel" "next" "[J") (by decide +kernel)) (fun _ h9 => h9) rfl dX1_invert_122 ?_
      refine lv_iload hx hb dX1_invert_125 (lv_at hl 1 rfl) ?_
      refine lv_aload_n hx hb dX1_invert_127 rfl (lv_at hl 10 rfl) ?_
      refine lv_lload hx hb dX1_invert_128 (lv_at hl 0 rfl) ?_
      refine lv_ldc2 (v := 65536) hx hb hown (hts (.constantLong RX1 23 (65536)) (by decide +kernel)) dX1_invert_130 ?_
      refine lv_lmul hx hb dX1_invert_133 ?_
      refine lv_ldc2 (v := 65536) hx hb hown (hts (.constantLong RX1 23 (65536)) (by decide +kernel)) dX1_invert_134 ?_
      refine lv_lmul hx hb dX1_invert_137 ?_
      refine lv_lload hx hb dX1_invert_138 (lv_at hl 3 rfl) ?_
      refine lv_iconst (v := 0) hx hb dX1_invert_140 (by decide) ?_
      refine mc_l (As := [.long (((-((en 2)).toInt64) * 65536) * 65536), .long w_1, .int 0]) (rest := [.int 2, .ref h2]) ⟨hx, hb, hml, hown, hts⟩ (cc_X1_quotient_0 l dC dI h0 h1 h2 cI cL _ (vk) (vn) (en) ((vp_updL (vp_updL nx 0 w_8) 1 w_130)) (vx) (vy) (b_128) ((((-((en 2)).toInt64) * 65536) * 65536)) (w_1) (c_3)) 3 gX1_invert_X1_quotient rfl rfl rfl hdV_X1_quotient ⟨Nat.le_of_ble_eq_true rfl, Nat.le_of_ble_eq_true rfl⟩ hP hD hK hS hA htb rfl hl.1 rfl (Nat.le_of_ble_eq_true rfl) dX1_invert_141 ⟨Nat.zero_le _, Nat.zero_le _⟩ (fun H locs hP hD hS => ?_)
      have hP : va_P (dC, dI) vwCl (mW h0 h1 h2 cI cL (vk, vn, en, (vp_updL (vp_updL nx 0 w_8) 1 w_130), vx, vy, (f_X1_quotient_0 ((((-((en 2)).toInt64) * 65536) * 65536)) (w_1)).2)) H := hP
      have hD : va_D A (mW h0 h1 h2 cI cL (vk, vn, en, (vp_updL (vp_updL nx 0 w_8) 1 w_130), vx, vy, (f_X1_quotient_0 ((((-((en 2)).toInt64) * 65536) * 65536)) (w_1)).2)) := hD
      obtain ⟨b_137, eb_138⟩ : ∃ b : Int32, b = (f_X1_quotient_0 ((((-((en 2)).toInt64) * 65536) * 65536)) (w_1)).2 := ⟨_, rfl⟩
      rw [← eb_138] at hP hD
      refine lv_topl (fun w_139 ew_140 => ?_)
      refine va_last hx hb hK hP hD hS 2 1 rfl rfl (vp_in_iff.mpr (by decide)) dX1_invert_144 (fun H locs hP hD hS => ?_)
      have hP : va_P (dC, dI) vwCl (mW h0 h1 h2 cI cL (vk, vn, en, (vp_updL (vp_updL (vp_updL nx 0 w_8) 1 w_130) 2 w_139), vx, vy, b_137)) H := hP
      have hD : va_D A (mW h0 h1 h2 cI cL (vk, vn, en, (vp_updL (vp_updL (vp_updL nx 0 w_8) 1 w_130) 2 w_139), vx, vy, b_137)) := hD
      refine lv_iload hx hb dX1_invert_145 (lv_at hl 2 rfl) ?_
      refine lv_if_ne (tgt := 157) hx hb dX1_invert_147 (by decide) (fun _ => ?_) (fun q => absurd q (by decide))
      refine lv_iconst (v := 1) hx hb dX1_invert_157 (by decide) ?_
      refine lv_goto (tgt := 162) hx hb dX1_invert_158 (by decide) ?_
      refine lv_istore (lv' := [(15, .int 1), (17, .long (-((en 2)).toInt64)), (16, .int 2), (13, .long w_1), (11, .long ((en 5)).toInt64), (9, .long ((en 4)).toInt64), (7, .long ((en 3)).toInt64), (5, .long ((en 2)).toInt64), (3, .long ((en 1)).toInt64), (1, .long ((en 0)).toInt64), (0, .ref h0)]) hx hb dX1_invert_162 hl (by decide) rfl (fun ls hl => ?_)
      refine lv_iinc (v := 3) (lv' := [(16, .int 3), (15, .int 1), (17, .long (-((en 2)).toInt64)), (13, .long w_1), (11, .long ((en 5)).toInt64), (9, .long ((en 4)).toInt64), (7, .long ((en 3)).toInt64), (5, .long ((en 2)).toInt64), (3, .long ((en 1)).toInt64), (1, .long ((en 0)).toInt64), (0, .ref h0)]) (k := 2) hx hb dX1_invert_164 hl rfl (by decide) (by decide) rfl (fun ls hl => ?_)
      refine lv_goto (tgt := 79) hx hb dX1_invert_167 (by decide) ?_
      refine lv_iload hx hb dX1_invert_79 (lv_at hl 0 rfl) ?_
      refine lv_iconst (v := 4) hx hb dX1_invert_81 (by decide) ?_
      refine pi_ge (tgt := 170) hx hb dX1_invert_82 (by decide) (fun q => absurd (by decide) q) (fun _ => ?_)
      refine lv_iload hx hb dX1_invert_85 (lv_at hl 0 rfl) ?_
      refine lv_if_ne (tgt := 95) hx hb dX1_invert_87 (by decide) (fun _ => ?_) (fun q => absurd q (by decide))
      refine lv_iload hx hb dX1_invert_95 (lv_at hl 0 rfl) ?_
      refine lv_iconst (v := 1) hx hb dX1_invert_97 (by decide) ?_
      refine lv_icmp_ne (tgt := 106) hx hb dX1_invert_98 (by decide) (fun _ => ?_) (fun q => absurd q (by decide))
      refine lv_iload hx hb dX1_invert_106 (lv_at hl 0 rfl) ?_
      refine lv_iconst (v := 2) hx hb dX1_invert_108 (by decide) ?_
      refine lv_icmp_ne (tgt := 118) hx hb dX1_invert_109 (by decide) (fun _ => ?_) (fun q => absurd q (by decide))
      refine lv_lload_n hx hb dX1_invert_118 rfl (lv_at hl 9 rfl) ?_
      refine lv_lstore (lv' := [(17, .long ((en 0)).toInt64), (16, .int 3), (15, .int 1), (13, .long w_1), (11, .long ((en 5)).toInt64), (9, .long ((en 4)).toInt64), (7, .long ((en 3)).toInt64), (5, .long ((en 2)).toInt64), (3, .long ((en 1)).toInt64), (1, .long ((en 0)).toInt64), (0, .ref h0)]) hx hb dX1_invert_119 hl (by decide) rfl (fun ls hl => ?_)
      refine lv_aload_n hx hb dX1_invert_121 rfl (lv_at hl 10 rfl) ?_
      refine va_get (D := (dC, dI)) (ci := 1) (v := .ref h2) (C := RX1) (T := TX1) (N := 7) hx hb hts fi_X1_invert hown hK hP 0 rfl rfl 3 (by decide) (hts (.fieldLink RX1 17 "FixedPlaneModel" "next" "[J") (by decide +kernel)) (fun _ h9 => h9) rfl dX1_invert_122 ?_
      refine lv_iload hx hb dX1_invert_125 (lv_at hl 1 rfl) ?_
      refine lv_aload_n hx hb dX1_invert_127 rfl (lv_at hl 10 rfl) ?_
      refine lv_lload hx hb dX1_invert_128 (lv_at hl 0 rfl) ?_
      refine lv_ldc2 (v := 65536) hx hb hown (hts (.constantLong RX1 23 (65536)) (by decide +kernel)) dX1_invert_130 ?_
      refine lv_lmul hx hb dX1_invert_133 ?_
      refine lv_ldc2 (v := 65536) hx hb hown (hts (.constantLong RX1 23 (65536)) (by decide +kernel)) dX1_invert_134 ?_
      refine lv_lmul hx hb dX1_invert_137 ?_
      refine lv_lload hx hb dX1_invert_138 (lv_at hl 3 rfl) ?_
      refine lv_iconst (v := 0) hx hb dX1_invert_140 (by decide) ?_
      refine mc_l (As := [.long ((((en 0)).toInt64 * 65536) * 65536), .long w_1, .int 0]) (rest := [.int 3, .ref h2]) ⟨hx, hb, hml, hown, hts⟩ (cc_X1_quotient_0 l dC dI h0 h1 h2 cI cL _ (vk) (vn) (en) ((vp_updL (vp_updL (vp_updL nx 0 w_8) 1 w_130) 2 w_139)) (vx) (vy) (b_137) (((((en 0)).toInt64 * 65536) * 65536)) (w_1) (c_3)) 3 gX1_invert_X1_quotient rfl rfl rfl hdV_X1_quotient ⟨Nat.le_of_ble_eq_true rfl, Nat.le_of_ble_eq_true rfl⟩ hP hD hK hS hA htb rfl hl.1 rfl (Nat.le_of_ble_eq_true rfl) dX1_invert_141 ⟨Nat.zero_le _, Nat.zero_le _⟩ (fun H locs hP hD hS => ?_)
      have hP : va_P (dC, dI) vwCl (mW h0 h1 h2 cI cL (vk, vn, en, (vp_updL (vp_updL (vp_updL nx 0 w_8) 1 w_130) 2 w_139), vx, vy, (f_X1_quotient_0 (((((en 0)).toInt64 * 65536) * 65536)) (w_1)).2)) H := hP
      have hD : va_D A (mW h0 h1 h2 cI cL (vk, vn, en, (vp_updL (vp_updL (vp_updL nx 0 w_8) 1 w_130) 2 w_139), vx, vy, (f_X1_quotient_0 (((((en 0)).toInt64 * 65536) * 65536)) (w_1)).2)) := hD
      obtain ⟨b_146, eb_147⟩ : ∃ b : Int32, b = (f_X1_quotient_0 (((((en 0)).toInt64 * 65536) * 65536)) (w_1)).2 := ⟨_, rfl⟩
      rw [← eb_147] at hP hD
      refine lv_topl (fun w_148 ew_149 => ?_)
      refine va_last hx hb hK hP hD hS 2 1 rfl rfl (vp_in_iff.mpr (by decide)) dX1_invert_144 (fun H locs hP hD hS => ?_)
      have hP : va_P (dC, dI) vwCl (mW h0 h1 h2 cI cL (vk, vn, en, (vp_updL (vp_updL (vp_updL (vp_updL nx 0 w_8) 1 w_130) 2 w_139) 3 w_148), vx, vy, b_146)) H := hP
      have hD : va_D A (mW h0 h1 h2 cI cL (vk, vn, en, (vp_updL (vp_updL (vp_updL (vp_updL nx 0 w_8) 1 w_130) 2 w_139) 3 w_148), vx, vy, b_146)) := hD
      refine lv_iload hx hb dX1_invert_145 (lv_at hl 2 rfl) ?_
      refine lv_if_ne (tgt := 157) hx hb dX1_invert_147 (by decide) (fun _ => ?_) (fun q => absurd q (by decide))
      refine lv_iconst (v := 1) hx hb dX1_invert_157 (by decide) ?_
      refine lv_goto (tgt := 162) hx hb dX1_invert_158 (by decide) ?_
      refine lv_istore (lv' := [(15, .int 1), (17, .long ((en 0)).toInt64), (16, .int 3), (13, .long w_1), (11, .long ((en 5)).toInt64), (9, .long ((en 4)).toInt64), (7, .long ((en 3)).toInt64), (5, .long ((en 2)).toInt64), (3, .long ((en 1)).toInt64), (1, .long ((en 0)).toInt64), (0, .ref h0)]) hx hb dX1_invert_162 hl (by decide) rfl (fun ls hl => ?_)
      refine lv_iinc (v := 4) (lv' := [(16, .int 4), (15, .int 1), (17, .long ((en 0)).toInt64), (13, .long w_1), (11, .long ((en 5)).toInt64), (9, .long ((en 4)).toInt64), (7, .long ((en 3)).toInt64), (5, .long ((en 2)).toInt64), (3, .long ((en 1)).toInt64), (1, .long ((en 0)).toInt64), (0, .ref h0)]) (k := 2) hx hb dX1_invert_164 hl rfl (by decide) (by decide) rfl (fun ls hl => ?_)
      refine lv_goto (tgt := 79) hx hb dX1_invert_167 (by decide) ?_
      refine lv_iload hx hb dX1_invert_79 (lv_at hl 0 rfl) ?_
      refine lv_iconst (v := 4) hx hb dX1_invert_81 (by decide) ?_
      refine pi_ge (tgt := 170) hx hb dX1_invert_82 (by decide) (fun _ => ?_) (fun q => absurd q (by decide))
      refine lv_aload_n hx hb dX1_invert_170 rfl (lv_at hl 10 rfl) ?_
      refine va_get (D := (dC, dI)) (ci := 1) (v := .ref h2) (C := RX1) (T := TX1) (N := 7) hx hb hts fi_X1_invert hown hK hP 0 rfl rfl 3 (by decide) (hts (.fieldLink RX1 17 "FixedPlaneModel" "next" "[J") (by decide +kernel)) (fun _ h9 => h9) rfl dX1_invert_171 ?_
      refine lv_iconst (v := 4) hx hb dX1_invert_174 (by decide) ?_
      refine lv_aload_n hx hb dX1_invert_175 rfl (lv_at hl 10 rfl) ?_
      refine lv_lload hx hb dX1_invert_176 (lv_at hl 7 rfl) ?_
      refine lv_lload hx hb dX1_invert_178 (lv_at hl 4 rfl) ?_
      refine lv_lmul hx hb dX1_invert_180 ?_
      refine lv_lload hx hb dX1_invert_181 (lv_at hl 6 rfl) ?_
      refine lv_lload hx hb dX1_invert_183 (lv_at hl 5 rfl) ?_
      refine lv_lmul hx hb dX1_invert_185 ?_
      refine lv_lsub hx hb dX1_invert_186 ?_
      refine lv_lload hx hb dX1_invert_187 (lv_at hl 3 rfl) ?_
      refine lv_bipush (v := 16) hx hb dX1_invert_189 (by decide) ?_
      refine mc_l (As := [.long ((((en 2)).toInt64 * ((en 5)).toInt64) - (((en 3)).toInt64 * ((en 4)).toInt64)), .long w_1, .int 16]) (rest := [.int 4, .ref h2]) ⟨hx, hb, hml, hown, hts⟩ (cc_X1_quotient_16 l dC dI h0 h1 h2 cI cL _ (vk) (vn) (en) ((vp_updL (vp_updL (vp_updL (vp_updL nx 0 w_8) 1 w_130) 2 w_139) 3 w_148)) (vx) (vy) (b_146) (((((en 2)).toInt64 * ((en 5)).toInt64) - (((en 3)).toInt64 * ((en 4)).toInt64))) (w_1) (c_3)) 3 gX1_invert_X1_quotient rfl rfl rfl hdV_X1_quotient ⟨Nat.le_of_ble_eq_true rfl, Nat.le_of_ble_eq_true rfl⟩ hP hD hK hS hA htb rfl hl.1 rfl (Nat.le_of_ble_eq_true rfl) dX1_invert_191 ⟨Nat.zero_le _, Nat.zero_le _⟩ (fun H locs hP hD hS => ?_)
      have hP : va_P (dC, dI) vwCl (mW h0 h1 h2 cI cL (vk, vn, en, (vp_updL (vp_updL (vp_updL (vp_updL nx 0 w_8) 1 w_130) 2 w_139) 3 w_148), vx, vy, (f_X1_quotient_16 (((((en 2)).toInt64 * ((en 5)).toInt64) - (((en 3)).toInt64 * ((en 4)).toInt64))) (w_1)).2)) H := hP
      have hD : va_D A (mW h0 h1 h2 cI cL (vk, vn, en, (vp_updL (vp_updL (vp_updL (vp_updL nx 0 w_8) 1 w_130) 2 w_139) 3 w_148), vx, vy, (f_X1_quotient_16 (((((en 2)).toInt64 * ((en 5)).toInt64) - (((en 3)).toInt64 * ((en 4)).toInt64))) (w_1)).2)) := hD
      obtain ⟨b_152, eb_153⟩ : ∃ b : Int32, b = (f_X1_quotient_16 (((((en 2)).toInt64 * ((en 5)).toInt64) - (((en 3)).toInt64 * ((en 4)).toInt64))) (w_1)).2 := ⟨_, rfl⟩
      rw [← eb_153] at hP hD
      refine lv_topl (fun w_154 ew_155 => ?_)
      refine va_last hx hb hK hP hD hS 2 1 rfl rfl (vp_in_iff.mpr (by decide)) dX1_invert_194 (fun H locs hP hD hS => ?_)
      have hP : va_P (dC, dI) vwCl (mW h0 h1 h2 cI cL (vk, vn, en, (vp_updL (vp_updL (vp_updL (vp_updL (vp_updL nx 0 w_8) 1 w_130) 2 w_139) 3 w_148) 4 w_154), vx, vy, b_152)) H := hP
      have hD : va_D A (mW h0 h1 h2 cI cL (vk, vn, en, (vp_updL (vp_updL (vp_updL (vp_updL (vp_updL nx 0 w_8) 1 w_130) 2 w_139) 3 w_148) 4 w_154), vx, vy, b_152)) := hD
      refine lv_iload hx hb dX1_invert_195 (lv_at hl 1 rfl) ?_
      refine lv_if_ne (tgt := 207) hx hb dX1_invert_197 (by decide) (fun _ => ?_) (fun q => absurd q (by decide))
      refine lv_iconst (v := 1) hx hb dX1_invert_207 (by decide) ?_
      refine lv_goto (tgt := 212) hx hb dX1_invert_208 (by decide) ?_
      refine lv_istore (lv' := [(15, .int 1), (16, .int 4), (17, .long ((en 0)).toInt64), (13, .long w_1), (11, .long ((en 5)).toInt64), (9, .long ((en 4)).toInt64), (7, .long ((en 3)).toInt64), (5, .long ((en 2)).toInt64), (3, .long ((en 1)).toInt64), (1, .long ((en 0)).toInt64), (0, .ref h0)]) hx hb dX1_invert_212 hl (by decide) rfl (fun ls hl => ?_)
      refine lv_aload_n hx hb dX1_invert_214 rfl (lv_at hl 10 rfl) ?_
      refine va_get (D := (dC, dI)) (ci := 1) (v := .ref h2) (C := RX1) (T := TX1) (N := 7) hx hb hts fi_X1_invert hown hK hP 0 rfl rfl 3 (by decide) (hts (.fieldLink RX1 17 "FixedPlaneModel" "next" "[J") (by decide +kernel)) (fun _ h9 => h9) rfl dX1_invert_215 ?_
      refine lv_iconst (v := 5) hx hb dX1_invert_218 (by decide) ?_
      refine lv_aload_n hx hb dX1_invert_219 rfl (lv_at hl 10 rfl) ?_
      refine lv_lload_n hx hb dX1_invert_220 rfl (lv_at hl 8 rfl) ?_
      refine lv_lload hx hb dX1_invert_221 (lv_at hl 5 rfl) ?_
      refine lv_lmul hx hb dX1_invert_223 ?_
      refine lv_lload_n hx hb dX1_invert_224 rfl (lv_at hl 9 rfl) ?_
      refine lv_lload hx hb dX1_invert_225 (lv_at hl 4 rfl) ?_
      refine lv_lmul hx hb dX1_invert_227 ?_
      refine lv_lsub hx hb dX1_invert_228 ?_
      refine lv_lload hx hb dX1_invert_229 (lv_at hl 3 rfl) ?_
      refine lv_bipush (v := 16) hx hb dX1_invert_231 (by decide) ?_
      refine mc_l (As := [.long ((((en 1)).toInt64 * ((en 4)).toInt64) - (((en 0)).toInt64 * ((en 5)).toInt64)), .long w_1, .int 16]) (rest := [.int 5, .ref h2]) ⟨hx, hb, hml, hown, hts⟩ (cc_X1_quotient_16 l dC dI h0 h1 h2 cI cL _ (vk) (vn) (en) ((vp_updL (vp_updL (vp_updL (vp_updL (vp_updL nx 0 w_8) 1 w_130) 2 w_139) 3 w_148) 4 w_154)) (vx) (vy) (b_152) (((((en 1)).toInt64 * ((en 4)).toInt64) - (((en 0)).toInt64 * ((en 5)).toInt64))) (w_1) (c_3)) 3 gX1_invert_X1_quotient rfl rfl rfl hdV_X1_quotient ⟨Nat.le_of_ble_eq_true rfl, Nat.le_of_ble_eq_true rfl⟩ hP hD hK hS hA htb rfl hl.1 rfl (Nat.le_of_ble_eq_true rfl) dX1_invert_233 ⟨Nat.zero_le _, Nat.zero_le _⟩ (fun H locs hP hD hS => ?_)
      have hP : va_P (dC, dI) vwCl (mW h0 h1 h2 cI cL (vk, vn, en, (vp_updL (vp_updL (vp_updL (vp_updL (vp_updL nx 0 w_8) 1 w_130) 2 w_139) 3 w_148) 4 w_154), vx, vy, (f_X1_quotient_16 (((((en 1)).toInt64 * ((en 4)).toInt64) - (((en 0)).toInt64 * ((en 5)).toInt64))) (w_1)).2)) H := hP
      have hD : va_D A (mW h0 h1 h2 cI cL (vk, vn, en, (vp_updL (vp_updL (vp_updL (vp_updL (vp_updL nx 0 w_8) 1 w_130) 2 w_139) 3 w_148) 4 w_154), vx, vy, (f_X1_quotient_16 (((((en 1)).toInt64 * ((en 4)).toInt64) - (((en 0)).toInt64 * ((en 5)).toInt64))) (w_1)).2)) := hD
      obtain ⟨b_157, eb_158⟩ : ∃ b : Int32, b = (f_X1_quotient_16 (((((en 1)).toInt64 * ((en 4)).toInt64) - (((en 0)).toInt64 * ((en 5)).toInt64))) (w_1)).2 := ⟨_, rfl⟩
      rw [← eb_158] at hP hD
      refine lv_topl (fun w_159 ew_160 => ?_)
      refine va_last hx hb hK hP hD hS 2 1 rfl rfl (vp_in_iff.mpr (by decide)) dX1_invert_236 (fun H locs hP hD hS => ?_)
      have hP : va_P (dC, dI) vwCl (mW h0 h1 h2 cI cL (vk, vn, en, (vp_updL (vp_updL (vp_updL (vp_updL (vp_updL (vp_updL nx 0 w_8) 1 w_130) 2 w_139) 3 w_148) 4 w_154) 5 w_159), vx, vy, b_157)) H := hP
      have hD : va_D A (mW h0 h1 h2 cI cL (vk, vn, en, (vp_updL (vp_updL (vp_updL (vp_updL (vp_updL (vp_updL nx 0 w_8) 1 w_130) 2 w_139) 3 w_148) 4 w_154) 5 w_159), vx, vy, b_157)) := hD
      refine lv_iload hx hb dX1_invert_237 (lv_at hl 0 rfl) ?_
      refine lv_if_ne (tgt := 249) hx hb dX1_invert_239 (by decide) (fun _ => ?_) (fun q => absurd q (by decide))
      refine lv_iconst (v := 1) hx hb dX1_invert_249 (by decide) ?_
      refine lv_goto (tgt := 254) hx hb dX1_invert_250 (by decide) ?_
      refine lv_istore (lv' := [(15, .int 1), (16, .int 4), (17, .long ((en 0)).toInt64), (13, .long w_1), (11, .long ((en 5)).toInt64), (9, .long ((en 4)).toInt64), (7, .long ((en 3)).toInt64), (5, .long ((en 2)).toInt64), (3, .long ((en 1)).toInt64), (1, .long ((en 0)).toInt64), (0, .ref h0)]) hx hb dX1_invert_254 hl (by decide) rfl (fun ls hl => ?_)
      refine lv_iload hx hb dX1_invert_256 (lv_at hl 0 rfl) ?_
      refine lv_if_eq (tgt := 266) hx hb dX1_invert_258 (by decide) (fun q => absurd q (by decide)) (fun _ => ?_)
      refine lv_bipush (v := (-2)) hx hb dX1_invert_261 (by decide) ?_
      refine lv_goto (tgt := 270) hx hb dX1_invert_263 (by decide) ?_
      have hE : f_X1_invert en nx vb = ((-2), en, (vp_updL (vp_updL (vp_updL (vp_updL (vp_updL (vp_updL nx 0 w_8) 1 w_130) 2 w_139) 3 w_148) 4 w_154) 5 w_159), b_157) := (by subst ew_160; subst eb_158; subst ew_155; subst eb_153; subst ew_149; subst eb_147; subst ew_140; subst eb_138; subst ew_131; subst eb_129; subst ew_9; subst eb_7; subst ew_2; rw [f_X1_invert, if_neg c_3, if_neg c_11])
      exact m_iret hx hb hr hlocks hP hD hK hS dX1_invert_270 ⟨by rw [hE], by rw [hE]⟩
  · skip
    refine lv_bipush (v := (-3)) hx hb dX1_invert_70 (by decide) ?_
    have hE : f_X1_invert en nx vb = ((-3), en, nx, vb) := (by subst ew_2; rw [f_X1_invert, if_pos c_3])
    exact m_iret hx hb hr hlocks hP hD hK hS dX1_invert_72 ⟨by rw [hE], by rw [hE]⟩
theorem hdV_X1_move : yX1_move.cls = RX1 ∧ yX1_move.cls ≠ "java/lang/invoke/MethodHandle" ∧ yX1_move.cls ≠ "java/lang/invoke/VarHandle" ∧ (parseMethodDescriptor yX1_move.desc).map (fun d => d.parameters.length) = some 3 := by decide +kernel
theorem fi_X1_move : ∀ w ∈ wsX10, w ∈ wsX1_move := fun _ h => List.mem_cons_of_mem _ (List.mem_append_right _ h)
def f_X1_move (en : Nat → Int32) (vx : Int32) (vy : Int32) (p0 : Int32) (p1 : Int32) (p2 : Int32) : Int32 × Int32 × Int32 := if (f_X1_isBad (p0)) = 0 then (if (f_X1_isBad (p1)) = 0 then (if 2147483647 < (f_X1_moving_0 (en) ((p0).toInt64) ((p1).toInt64) (p2)) then (((-2), vx, vy)) else (if (f_X1_moving_0 (en) ((p0).toInt64) ((p1).toInt64) (p2)) < (-2147483647) then (((-2), vx, vy)) else (if 2147483647 < (f_X1_moving_1 (en) ((p0).toInt64) ((p1).toInt64) (p2)) then (((-2), vx, vy)) else (if (f_X1_moving_1 (en) ((p0).toInt64) ((p1).toInt64) (p2)) < (-2147483647) then (((-2), vx, vy)) else ((1, ((f_X1_moving_0 (en) ((p0).toInt64) ((p1).toInt64) (p2))).toInt32, ((f_X1_moving_1 (en) ((p0).toInt64) ((p1).toInt64) (p2))).toInt32)))))) else (((-1), vx, vy))) else (((-1), vx, vy))
abbrev rm_X1_move : Room := { frames := 3, cells := 0, slots := 0, locals := 122 }
set_option maxHeartbeats 4000000 in
set_option maxRecDepth 100000 in
theorem cc_X1_move (l : Launch) (dC : Nat → ClassId) (dI : Nat → Nat → Nat) (h0 h1 h2 : Nat) (cI cL : ClassId) (sz : Nat) (vk vn : Int32) (en : Nat → Int32) (nx : Nat → Int64) (vx vy vb : Int32) (p0 : Int32) (p1 : Int32) (p2 : Int32)   : Met l yX1_move wsX1_move rm_X1_move (va_Pc [.ref h0, .int p0, .int p1, .int p2] (mPre dC dI h0 h1 h2 cI cL sz (vk, vn, en, nx, vx, vy, vb))) (mQi dC dI h0 h1 h2 cI cL (va_A (mW h0 h1 h2 cI cL (vk, vn, en, nx, vx, vy, vb)) sz) ((f_X1_move en vx vy p0 p1 p2).1) (vk, vn, en, nx, (f_X1_move en vx vy p0 p1 p2).2.1, (f_X1_move en vx vy p0 p1 p2).2.2, vb)) 0 0 (va_A (mW h0 h1 h2 cI cL (vk, vn, en, nx, vx, vy, vb)) sz) := by
  refine m_headi (cc := cX1_move) (maxL := 8) (ret := some .int) (by decide) rfl rfl (Nat.le_of_ble_eq_true rfl) ?_
  intro p e s m below meth c ls A hx hb hr hlocks hml hown hts hA hP hD hK htb hS hl
  have hl : lv_has ls 8 [(0, .ref h0), (1, .int p0), (2, .int p1), (3, .int p2)] := hl
  refine lv_iload_n hx hb dX1_move_0 rfl (lv_at hl 1 rfl) ?_
  refine pu_Si (As := [.int p0]) (rest := []) ⟨hx, hb, hml, hown, hts⟩ (cc_X1_isBad l _ (p0)) 1 gX1_move_X1_isBad rfl rfl rfl hdS_X1_isBad ⟨Nat.le_of_ble_eq_true rfl, Nat.le_of_ble_eq_true rfl⟩ kN_ok kN_at rfl hl.1 rfl (Nat.le_of_ble_eq_true rfl) dX1_move_1 ⟨Nat.zero_le _, Nat.zero_le _⟩ ?_
  refine lv_if_ne (tgt := 14) hx hb dX1_move_4 (by decide) (fun c_1 => ?_) (fun c_1 => ?_)
  · skip
    refine lv_iconst (v := (-1)) hx hb dX1_move_14 (by decide) ?_
    have hE : f_X1_move en vx vy p0 p1 p2 = ((-1), vx, vy) := (by rw [f_X1_move, if_neg c_1])
    exact m_iret hx hb hr hlocks hP hD hK hS dX1_move_15 ⟨by rw [hE], by rw [hE]⟩
  · skip
    refine lv_iload_n hx hb dX1_move_7 rfl (lv_at hl 2 rfl) ?_
    refine pu_Si (As := [.int p1]) (rest := []) ⟨hx, hb, hml, hown, hts⟩ (cc_X1_isBad l _ (p1)) 1 gX1_move_X1_isBad rfl rfl rfl hdS_X1_isBad ⟨Nat.le_of_ble_eq_true rfl, Nat.le_of_ble_eq_true rfl⟩ kN_ok kN_at rfl hl.1 rfl (Nat.le_of_ble_eq_true rfl) dX1_move_8 ⟨Nat.zero_le _, Nat.zero_le _⟩ ?_
    refine lv_if_eq (tgt := 16) hx hb dX1_move_11 (by decide) (fun c_2 => ?_) (fun c_2 => ?_)
    · skip
      refine lv_aload_n hx hb dX1_move_16 rfl (lv_at hl 0 rfl) ?_
      refine lv_iload_n hx hb dX1_move_17 rfl (lv_at hl 1 rfl) ?_
      refine lv_i2l (v := (p0).toInt64) hx hb dX1_move_18 rfl ?_
      refine lv_iload_n hx hb dX1_move_19 rfl (lv_at hl 2 rfl) ?_
      refine lv_i2l (v := (p1).toInt64) hx hb dX1_move_20 rfl ?_
      refine lv_iconst (v := 0) hx hb dX1_move_21 (by decide) ?_
      refine lv_iload_n hx hb dX1_move_22 rfl (lv_at hl 3 rfl) ?_
      refine mc_l (As := [.long (p0).toInt64, .long (p1).toInt64, .int 0, .int p2]) (rest := []) ⟨hx, hb, hml, hown, hts⟩ (cc_X1_moving_0 l dC dI h0 h1 h2 cI cL _ (vk) (vn) (en) (nx) (vx) (vy) (vb) ((p0).toInt64) ((p1).toInt64) (p2)) 4 gX1_move_X1_moving rfl rfl rfl hdV_X1_moving ⟨Nat.le_of_ble_eq_true rfl, Nat.le_of_ble_eq_true rfl⟩ hP hD hK hS hA htb rfl hl.1 rfl (Nat.le_of_ble_eq_true rfl) dX1_move_23 ⟨Nat.zero_le _, Nat.zero_le _⟩ (fun H locs hP hD hS => ?_)
      have hP : va_P (dC, dI) vwCl (mW h0 h1 h2 cI cL (vk, vn, en, nx, vx, vy, vb)) H := hP
      have hD : va_D A (mW h0 h1 h2 cI cL (vk, vn, en, nx, vx, vy, vb)) := hD
      refine lv_lstore (lv' := [(4, .long (f_X1_moving_0 (en) ((p0).toInt64) ((p1).toInt64) (p2))), (0, .ref h0), (1, .int p0), (2, .int p1), (3, .int p2)]) hx hb dX1_move_26 hl (by decide) rfl (fun ls hl => ?_)
      refine lv_aload_n hx hb dX1_move_28 rfl (lv_at hl 1 rfl) ?_
      refine lv_iload_n hx hb dX1_move_29 rfl (lv_at hl 2 rfl) ?_
      refine lv_i2l (v := (p0).toInt64) hx hb dX1_move_30 rfl ?_
      refine lv_iload_n hx hb dX1_move_31 rfl (lv_at hl 3 rfl) ?_
      refine lv_i2l (v := (p1).toInt64) hx hb dX1_move_32 rfl ?_
      refine lv_iconst (v := 1) hx hb dX1_move_33 (by decide) ?_
      refine lv_iload_n hx hb dX1_move_34 rfl (lv_at hl 4 rfl) ?_
      refine mc_l (As := [.long (p0).toInt64, .long (p1).toInt64, .int 1, .int p2]) (rest := []) ⟨hx, hb, hml, hown, hts⟩ (cc_X1_moving_1 l dC dI h0 h1 h2 cI cL _ (vk) (vn) (en) (nx) (vx) (vy) (vb) ((p0).toInt64) ((p1).toInt64) (p2)) 4 gX1_move_X1_moving rfl rfl rfl hdV_X1_moving ⟨Nat.le_of_ble_eq_true rfl, Nat.le_of_ble_eq_true rfl⟩ hP hD hK hS hA htb rfl hl.1 rfl (Nat.le_of_ble_eq_true rfl) dX1_move_35 ⟨Nat.zero_le _, Nat.zero_le _⟩ (fun H locs hP hD hS => ?_)
      have hP : va_P (dC, dI) vwCl (mW h0 h1 h2 cI cL (vk, vn, en, nx, vx, vy, vb)) H := hP
      have hD : va_D A (mW h0 h1 h2 cI cL (vk, vn, en, nx, vx, vy, vb)) := hD
      refine lv_lstore (lv' := [(6, .long (f_X1_moving_1 (en) ((p0).toInt64) ((p1).toInt64) (p2))), (4, .long (f_X1_moving_0 (en) ((p0).toInt64) ((p1).toInt64) (p2))), (0, .ref h0), (1, .int p0), (2, .int p1), (3, .int p2)]) hx hb dX1_move_38 hl (by decide) rfl (fun ls hl => ?_)
      refine lv_lload hx hb dX1_move_40 (lv_at hl 1 rfl) ?_
      refine lv_ldc2 (v := 2147483647) hx hb hown (hts (.constantLong RX1 25 (2147483647)) (by decide +kernel)) dX1_move_42 ?_
      refine pl_gt (tgt := 76) hx hb dX1_move_45 dX1_move_46 (by decide) (fun c_3 => ?_) (fun c_3 => ?_)
      · skip
        refine lv_bipush (v := (-2)) hx hb dX1_move_76 (by decide) ?_
        have hE : f_X1_move en vx vy p0 p1 p2 = ((-2), vx, vy) := (by rw [f_X1_move, if_pos c_1, if_pos c_2, if_pos c_3])
        exact m_iret hx hb hr hlocks hP hD hK hS dX1_move_78 ⟨by rw [hE], by rw [hE]⟩
      · skip
        refine lv_lload hx hb dX1_move_49 (lv_at hl 1 rfl) ?_
        refine lv_ldc2 (v := (-2147483647)) hx hb hown (hts (.constantLong RX1 32 (-2147483647)) (by decide +kernel)) dX1_move_51 ?_
        refine pl_lt (tgt := 76) hx hb dX1_move_54 dX1_move_55 (by decide) (fun c_4 => ?_) (fun c_4 => ?_)
        · skip
          refine lv_bipush (v := (-2)) hx hb dX1_move_76 (by decide) ?_
          have hE : f_X1_move en vx vy p0 p1 p2 = ((-2), vx, vy) := (by rw [f_X1_move, if_pos c_1, if_pos c_2, if_neg c_3, if_pos c_4])
          exact m_iret hx hb hr hlocks hP hD hK hS dX1_move_78 ⟨by rw [hE], by rw [hE]⟩
        · skip
          refine lv_lload hx hb dX1_move_58 (lv_at hl 0 rfl) ?_
          refine lv_ldc2 (v := 2147483647) hx hb hown (hts (.constantLong RX1 25 (2147483647)) (by decide +kernel)) dX1_move_60 ?_
          refine pl_gt (tgt := 76) hx hb dX1_move_63 dX1_move_64 (by decide) (fun c_5 => ?_) (fun c_5 => ?_)
          · skip
            refine lv_bipush (v := (-2)) hx hb dX1_move_76 (by decide) ?_
            have hE : f_X1_move en vx vy p0 p1 p2 = ((-2), vx, vy) := (by rw [f_X1_move, if_pos c_1, if_pos c_2, if_neg c_3, if_neg c_4, if_pos c_5])
            exact m_iret hx hb hr hlocks hP hD hK hS dX1_move_78 ⟨by rw [hE], by rw [hE]⟩
          · skip
            refine lv_lload hx hb dX1_move_67 (lv_at hl 0 rfl) ?_
            refine lv_ldc2 (v := (-2147483647)) hx hb hown (hts (.constantLong RX1 32 (-2147483647)) (by decide +kernel)) dX1_move_69 ?_
            refine pl_ge (tgt := 79) hx hb dX1_move_72 dX1_move_73 (by decide) (fun c_6 => ?_) (fun c_6 => ?_)
            · skip
              refine lv_aload_n hx hb dX1_move_79 rfl (lv_at hl 2 rfl) ?_
              refine lv_lload hx hb dX1_move_80 (lv_at hl 1 rfl) ?_
              refine lv_l2i (v := ((f_X1_moving_0 (en) ((p0).toInt64) ((p1).toInt64) (p2))).toInt32) hx hb dX1_move_82 rfl ?_
              refine va_put (D := (dC, dI)) (ci := 1) (v := .int ((f_X1_moving_0 (en) ((p0).toInt64) ((p1).toInt64) (p2))).toInt32) (ty := .int) (C := RX1) (T := TX1) (N := 7) hx hb hts fi_X1_move tyX1 tyX1_ok nmX1 hown hK hP hD hS 0 rfl rfl 4 (by decide) (hts (.fieldLink RX1 135 "FixedPlaneModel" "movedX" "I") (by decide +kernel)) (fun _ h9 => h9) rfl (by decide +kernel) rfl rfl (Nat.le_of_ble_eq_true rfl) dX1_move_83 (fun H locs hP hD hS => ?_)
              have hP : va_P (dC, dI) vwCl (mW h0 h1 h2 cI cL (vk, vn, en, nx, ((f_X1_moving_0 (en) ((p0).toInt64) ((p1).toInt64) (p2))).toInt32, vy, vb)) H := hP
              have hD : va_D A (mW h0 h1 h2 cI cL (vk, vn, en, nx, ((f_X1_moving_0 (en) ((p0).toInt64) ((p1).toInt64) (p2))).toInt32, vy, vb)) := hD
              refine lv_aload_n hx hb dX1_move_86 rfl (lv_at hl 2 rfl) ?_
              refine lv_lload hx hb dX1_move_87 (lv_at hl 0 rfl) ?_
              refine lv_l2i (v := ((f_X1_moving_1 (en) ((p0).toInt64) ((p1).toInt64) (p2))).toInt32) hx hb dX1_move_89 rfl ?_
              refine va_put (D := (dC, dI)) (ci := 1) (v := .int ((f_X1_moving_1 (en) ((p0).toInt64) ((p1).toInt64) (p2))).toInt32) (ty := .int) (C := RX1) (T := TX1) (N := 7) hx hb hts fi_X1_move tyX1 tyX1_ok nmX1 hown hK hP hD hS 0 rfl rfl 5 (by decide) (hts (.fieldLink RX1 138 "FixedPlaneModel" "movedY" "I") (by decide +kernel)) (fun _ h9 => h9) rfl (by decide +kernel) rfl rfl (Nat.le_of_ble_eq_true rfl) dX1_move_90 (fun H locs hP hD hS => ?_)
              have hP : va_P (dC, dI) vwCl (mW h0 h1 h2 cI cL (vk, vn, en, nx, ((f_X1_moving_0 (en) ((p0).toInt64) ((p1).toInt64) (p2))).toInt32, ((f_X1_moving_1 (en) ((p0).toInt64) ((p1).toInt64) (p2))).toInt32, vb)) H := hP
              have hD : va_D A (mW h0 h1 h2 cI cL (vk, vn, en, nx, ((f_X1_moving_0 (en) ((p0).toInt64) ((p1).toInt64) (p2))).toInt32, ((f_X1_moving_1 (en) ((p0).toInt64) ((p1).toInt64) (p2))).toInt32, vb)) := hD
              refine lv_iconst (v := 1) hx hb dX1_move_93 (by decide) ?_
              have hE : f_X1_move en vx vy p0 p1 p2 = (1, ((f_X1_moving_0 (en) ((p0).toInt64) ((p1).toInt64) (p2))).toInt32, ((f_X1_moving_1 (en) ((p0).toInt64) ((p1).toInt64) (p2))).toInt32) := (by rw [f_X1_move, if_pos c_1, if_pos c_2, if_neg c_3, if_neg c_4, if_neg c_5, if_neg c_6])
              exact m_iret hx hb hr hlocks hP hD hK hS dX1_move_94 ⟨by rw [hE], by rw [hE]⟩
            · skip
              refine lv_bipush (v := (-2)) hx hb dX1_move_76 (by decide) ?_
              have hE : f_X1_move en vx vy p0 p1 p2 = ((-2), vx, vy) := (by rw [f_X1_move, if_pos c_1, if_pos c_2, if_neg c_3, if_neg c_4, if_neg c_5, if_pos c_6])
              exact m_iret hx hb hr hlocks hP hD hK hS dX1_move_78 ⟨by rw [hE], by rw [hE]⟩
    · skip
      refine lv_iconst (v := (-1)) hx hb dX1_move_14 (by decide) ?_
      have hE : f_X1_move en vx vy p0 p1 p2 = ((-1), vx, vy) := (by rw [f_X1_move, if_pos c_1, if_neg c_2])
      exact m_iret hx hb hr hlocks hP hD hK hS dX1_move_15 ⟨by rw [hE], by rw [hE]⟩
theorem hdV_X1_moved : yX1_moved.cls = RX1 ∧ yX1_moved.cls ≠ "java/lang/invoke/MethodHandle" ∧ yX1_moved.cls ≠ "java/lang/invoke/VarHandle" ∧ (parseMethodDescriptor yX1_moved.desc).map (fun d => d.parameters.length) = some 1 := by decide +kernel
theorem fi_X1_moved : ∀ w ∈ wsX10, w ∈ wsX1_moved := fun _ h => List.mem_cons_of_mem _ (List.mem_append_right _ h)
def f_X1_moved (vx : Int32) (vy : Int32) (p0 : Int32) : Int32 := if p0 = 0 then (vx) else (if p0 = 1 then (vy) else (0))
abbrev rm_X1_moved : Room := { frames := 0, cells := 0, slots := 0, locals := 0 }
set_option maxHeartbeats 4000000 in
set_option maxRecDepth 100000 in
theorem cc_X1_moved (l : Launch) (dC : Nat → ClassId) (dI : Nat → Nat → Nat) (h0 h1 h2 : Nat) (cI cL : ClassId) (sz : Nat) (vk vn : Int32) (en : Nat → Int32) (nx : Nat → Int64) (vx vy vb : Int32) (p0 : Int32)   : Met l yX1_moved wsX1_moved rm_X1_moved (va_Pc [.ref h0, .int p0] (mPre dC dI h0 h1 h2 cI cL sz (vk, vn, en, nx, vx, vy, vb))) (mQi dC dI h0 h1 h2 cI cL (va_A (mW h0 h1 h2 cI cL (vk, vn, en, nx, vx, vy, vb)) sz) ((f_X1_moved vx vy p0)) (vk, vn, en, nx, vx, vy, vb)) 0 0 (va_A (mW h0 h1 h2 cI cL (vk, vn, en, nx, vx, vy, vb)) sz) := by
  refine m_headi (cc := cX1_moved) (maxL := 2) (ret := some .int) (by decide) rfl rfl (Nat.le_of_ble_eq_true rfl) ?_
  intro p e s m below meth c ls A hx hb hr hlocks hml hown hts hA hP hD hK htb hS hl
  have hl : lv_has ls 2 [(0, .ref h0), (1, .int p0)] := hl
  refine lv_iload_n hx hb dX1_moved_0 rfl (lv_at hl 1 rfl) ?_
  refine lv_if_ne (tgt := 11) hx hb dX1_moved_1 (by decide) (fun c_1 => ?_) (fun c_1 => ?_)
  · skip
    refine lv_iload_n hx hb dX1_moved_11 rfl (lv_at hl 1 rfl) ?_
    refine lv_iconst (v := 1) hx hb dX1_moved_12 (by decide) ?_
    refine lv_icmp_ne (tgt := 23) hx hb dX1_moved_13 (by decide) (fun c_2 => ?_) (fun c_2 => ?_)
    · skip
      refine lv_iconst (v := 0) hx hb dX1_moved_23 (by decide) ?_
      have hE : f_X1_moved vx vy p0 = 0 := (by rw [f_X1_moved, if_neg c_1, if_neg c_2])
      exact m_iret hx hb hr hlocks hP hD hK hS dX1_moved_24 ⟨hE.symm, rfl⟩
    · skip
      refine lv_aload_n hx hb dX1_moved_16 rfl (lv_at hl 0 rfl) ?_
      refine va_get (D := (dC, dI)) (ci := 1) (v := .int vy) (C := RX1) (T := TX1) (N := 7) hx hb hts fi_X1_moved hown hK hP 0 rfl rfl 5 (by decide) (hts (.fieldLink RX1 138 "FixedPlaneModel" "movedY" "I") (by decide +kernel)) (fun _ h9 => h9) rfl dX1_moved_17 ?_
      refine lv_goto (tgt := 24) hx hb dX1_moved_20 (by decide) ?_
      have hE : f_X1_moved vx vy p0 = vy := (by rw [f_X1_moved, if_neg c_1, if_pos c_2])
      exact m_iret hx hb hr hlocks hP hD hK hS dX1_moved_24 ⟨hE.symm, rfl⟩
  · skip
    refine lv_aload_n hx hb dX1_moved_4 rfl (lv_at hl 0 rfl) ?_
    refine va_get (D := (dC, dI)) (ci := 1) (v := .int vx) (C := RX1) (T := TX1) (N := 7) hx hb hts fi_X1_moved hown hK hP 0 rfl rfl 4 (by decide) (hts (.fieldLink RX1 135 "FixedPlaneModel" "movedX" "I") (by decide +kernel)) (fun _ h9 => h9) rfl dX1_moved_5 ?_
    refine lv_goto (tgt := 24) hx hb dX1_moved_8 (by decide) ?_
    have hE : f_X1_moved vx vy p0 = vx := (by rw [f_X1_moved, if_pos c_1])
    exact m_iret hx hb hr hlocks hP hD hK hS dX1_moved_24 ⟨hE.symm, rfl⟩
