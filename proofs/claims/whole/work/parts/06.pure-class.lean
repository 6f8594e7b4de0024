theorem hdS_X0_root : yX0_root.cls ≠ "java/lang/invoke/MethodHandle" ∧ yX0_root.cls ≠ "java/lang/invoke/VarHandle" ∧ (parseMethodDescriptor yX0_root.desc).map (fun d => d.parameters.length) = some 1 := by decide +kernel
def f_X0_root_L13 (p0 : Int64) : Nat → Int64 → Int64 → Int64
  | 0, sq, rt => rt
  | n + 1, sq, rt => if sq < ((rt + ((1 : Int64) <<< ((nI n).toInt64 &&& 63))) * (rt + ((1 : Int64) <<< ((nI n).toInt64 &&& 63)))) then (f_X0_root_L13 p0 n (sq) (rt)) else (f_X0_root_L13 p0 n (sq) ((rt + ((1 : Int64) <<< ((nI n).toInt64 &&& 63)))))
def f_X0_root (p0 : Int64) : Int64 := f_X0_root_L13 p0 (24) ((p0 * 65536)) (0)
abbrev rm_X0_root : Room := { frames := 0, cells := 0, slots := 0, locals := 0 }
set_option maxHeartbeats 4000000 in
set_option maxRecDepth 100000 in
theorem cc_X0_root (l : Launch) (H0 : Heap) (p0 : Int64)   : Met l yX0_root wsX0_root rm_X0_root (pPc [.long p0] H0 (kN)) (pQl H0 (f_X0_root p0)) 0 0 (fun _ => False) := by
  refine pu_head (cc := cX0_root) (maxL := 9) (ret := some .long) (by decide +kernel) rfl (Nat.le_of_ble_eq_true rfl) ?_
  intro p e s m below meth c ls hx hb hr hlocks hml hown hts hs hk hl
  have hown : s.vm.findClass RX0 = some m.cls := hown
  have hl : lv_has ls 9 [(0, .long p0)] := hl
  have hL13 : ∀ (n : Nat) (sq : Int64) (rt : Int64), n ≤ 25 → (f_X0_root p0 = f_X0_root_L13 p0 n sq rt) → ∀ (ls : Array Slot), lv_has ls 9 [(2, .long sq), (4, .long rt), (6, .int (nI n - 1))] → W p l e (headSpec wsX0_root rm_X0_root).room s m ([.long p0] : List Value).toArray below meth c H0 [] 0 0 (MQ below (pQl H0 (f_X0_root p0)) ([.long p0] : List Value).toArray s 0 0 (fun _ => False)) (F0 m 13 ls []) := by
    intro n
    induction n with
    | zero =>
      intro sq rt hI hF ls hl
      refine lv_iload hx hb dX0_root_13 (lv_at hl 2 rfl) ?_
      refine lv_if_lt (tgt := 47) hx hb dX0_root_15 (by decide) (fun _ => ?_) (fun q => absurd (by decide) q)
      refine lv_lload hx hb dX0_root_47 (lv_at hl 1 rfl) ?_
      exact pu_lret hx hb hr hlocks hs dX0_root_49 (by rw [hF, f_X0_root_L13])
    | succ n ih =>
      intro sq rt hI hF ls hl
      rw [nI_pred] at hl
      refine lv_iload hx hb dX0_root_13 (lv_at hl 2 rfl) ?_
      refine lv_if_lt (tgt := 47) hx hb dX0_root_15 (by decide) (fun q => absurd q (nI_pos (by omega))) (fun _ => ?_)
      refine lv_lload hx hb dX0_root_18 (lv_at hl 1 rfl) ?_
      refine lv_lconst (v := 1) hx hb dX0_root_20 (by decide) ?_
      refine lv_iload hx hb dX0_root_21 (lv_at hl 2 rfl) ?_
      refine lv_lshl (v := ((1 : Int64) <<< ((nI n).toInt64 &&& 63))) hx hb dX0_root_23 rfl ?_
      refine lv_ladd hx hb dX0_root_24 ?_
      refine lv_lstore (lv' := [(7, .long (rt + ((1 : Int64) <<< ((nI n).toInt64 &&& 63)))), (2, .long sq), (4, .long rt), (6, .int (nI n))]) hx hb dX0_root_25 hl (by decide) rfl (fun ls hl => ?_)
      refine lv_lload hx hb dX0_root_27 (lv_at hl 0 rfl) ?_
      refine lv_lload hx hb dX0_root_29 (lv_at hl 0 rfl) ?_
      refine lv_lmul hx hb dX0_root_31 ?_
      refine lv_lload_n hx hb dX0_root_32 rfl (lv_at hl 1 rfl) ?_
      refine pl_gt (tgt := 41) hx hb dX0_root_33 dX0_root_34 (by decide) (fun c_3 => ?_) (fun c_3 => ?_)
      · skip
        refine lv_iinc (v := (nI n - 1)) (lv' := [(6, .int (nI n - 1)), (7, .long (rt + ((1 : Int64) <<< ((nI n).toInt64 &&& 63)))), (2, .long sq), (4, .long rt)]) (k := 3) hx hb dX0_root_41 hl rfl (by rw [Int32.sub_eq_add_neg]; rfl) (by decide) rfl (fun ls hl => ?_)
        refine lv_goto (tgt := 13) hx hb dX0_root_44 (by decide) ?_
        exact ih (sq) (rt) (by omega) (hF.trans (by rw [f_X0_root_L13, if_pos c_3])) ls (lv_sub hl [2, 3, 0] rfl)
      · skip
        refine lv_lload hx hb dX0_root_37 (lv_at hl 0 rfl) ?_
        refine lv_lstore (lv' := [(4, .long (rt + ((1 : Int64) <<< ((nI n).toInt64 &&& 63)))), (7, .long (rt + ((1 : Int64) <<< ((nI n).toInt64 &&& 63)))), (2, .long sq), (6, .int (nI n))]) hx hb dX0_root_39 hl (by decide) rfl (fun ls hl => ?_)
        refine lv_iinc (v := (nI n - 1)) (lv' := [(6, .int (nI n - 1)), (4, .long (rt + ((1 : Int64) <<< ((nI n).toInt64 &&& 63)))), (7, .long (rt + ((1 : Int64) <<< ((nI n).toInt64 &&& 63)))), (2, .long sq)]) (k := 3) hx hb dX0_root_41 hl rfl (by rw [Int32.sub_eq_add_neg]; rfl) (by decide) rfl (fun ls hl => ?_)
        refine lv_goto (tgt := 13) hx hb dX0_root_44 (by decide) ?_
        exact ih (sq) ((rt + ((1 : Int64) <<< ((nI n).toInt64 &&& 63)))) (by omega) (hF.trans (by rw [f_X0_root_L13, if_neg c_3])) ls (lv_sub hl [3, 1, 0] rfl)
  refine lv_lload_n hx hb dX0_root_0 rfl (lv_at hl 0 rfl) ?_
  refine lv_ldc2 (v := 65536) hx hb hown (hts (.constantLong RX0 91 (65536)) (by decide +kernel)) dX0_root_1 ?_
  refine lv_lmul hx hb dX0_root_4 ?_
  refine lv_lstore_n (lv' := [(2, .long (p0 * 65536)), (0, .long p0)]) hx hb dX0_root_5 rfl hl (by decide) rfl (fun ls hl => ?_)
  refine lv_lconst (v := 0) hx hb dX0_root_6 (by decide) ?_
  refine lv_lstore (lv' := [(4, .long 0), (2, .long (p0 * 65536)), (0, .long p0)]) hx hb dX0_root_7 hl (by decide) rfl (fun ls hl => ?_)
  refine lv_bipush (v := 23) hx hb dX0_root_9 (by decide) ?_
  refine lv_istore (lv' := [(6, .int 23), (4, .long 0), (2, .long (p0 * 65536)), (0, .long p0)]) hx hb dX0_root_11 hl (by decide) rfl (fun ls hl => ?_)
  exact hL13 (24) ((p0 * 65536)) (0) (by omega) (by rw [f_X0_root]) ls (lv_sub hl [2, 1, 0] rfl)
theorem hdS_X0_quotient : yX0_quotient.cls ≠ "java/lang/invoke/MethodHandle" ∧ yX0_quotient.cls ≠ "java/lang/invoke/VarHandle" ∧ (parseMethodDescriptor yX0_quotient.desc).map (fun d => d.parameters.length) = some 2 := by decide +kernel
def f_X0_quotient_L63 (p0 : Int64) (p1 : Int64) : Nat → Int64 → Int64 → Int64 → Int64
  | 0, sz, q, r => if r < (sz - r) then (q) else ((q + 1))
  | n + 1, sz, q, r => if r < (sz - r) then (f_X0_quotient_L63 p0 p1 n (sz) (((2 * q) + 0)) ((r + r))) else (f_X0_quotient_L63 p0 p1 n (sz) (((2 * q) + 1)) ((r - (sz - r))))
def f_X0_quotient (p0 : Int64) (p1 : Int64) : Int64 := if p1 < 0 then (if (f_J9_floorDiv_f86c9 ((-p0)) ((if 0 < p1 then p1 else -p1))) < (-32768) then (2147483648) else (if (f_J9_floorDiv_f86c9 ((-p0)) ((if 0 < p1 then p1 else -p1))) < 32768 then (f_X0_quotient_L63 p0 p1 (16) ((if 0 < p1 then p1 else -p1)) ((f_J9_floorDiv_f86c9 ((-p0)) ((if 0 < p1 then p1 else -p1)))) ((f_J9_floorMod_f86c9 ((-p0)) ((if 0 < p1 then p1 else -p1))))) else (2147483648))) else (if (f_J9_floorDiv_f86c9 (p0) ((if 0 < p1 then p1 else -p1))) < (-32768) then (2147483648) else (if (f_J9_floorDiv_f86c9 (p0) ((if 0 < p1 then p1 else -p1))) < 32768 then (f_X0_quotient_L63 p0 p1 (16) ((if 0 < p1 then p1 else -p1)) ((f_J9_floorDiv_f86c9 (p0) ((if 0 < p1 then p1 else -p1)))) ((f_J9_floorMod_f86c9 (p0) ((if 0 < p1 then p1 else -p1))))) else (2147483648)))
abbrev rm_X0_quotient : Room := { frames := 1, cells := 0, slots := 0, locals := 41 }
set_option maxHeartbeats 4000000 in
set_option maxRecDepth 100000 in
theorem cc_X0_quotient (l : Launch) (H0 : Heap) (p0 : Int64) (p1 : Int64)  (hb0 : ¬ p1 = 0) : Met l yX0_quotient wsX0_quotient rm_X0_quotient (pPc [.long p0, .long p1] H0 (kN)) (pQl H0 (f_X0_quotient p0 p1)) 0 0 (fun _ => False) := by
  refine pu_head (cc := cX0_quotient) (maxL := 16) (ret := some .long) (by decide +kernel) rfl (Nat.le_of_ble_eq_true rfl) ?_
  intro p e s m below meth c ls hx hb hr hlocks hml hown hts hs hk hl
  have hown : s.vm.findClass RX0 = some m.cls := hown
  have hl : lv_has ls 16 [(0, .long p0), (2, .long p1)] := hl
  have hL63 : ∀ (n : Nat) (sz : Int64) (q : Int64) (r : Int64), n ≤ 16 → (f_X0_quotient p0 p1 = f_X0_quotient_L63 p0 p1 n sz q r) → ∀ (ls : Array Slot), lv_has ls 16 [(4, .long sz), (8, .long q), (10, .long r), (12, .int (nI (16 - n)))] → W p l e (headSpec wsX0_quotient rm_X0_quotient).room s m ([.long p0, .long p1] : List Value).toArray below meth c H0 [] 0 0 (MQ below (pQl H0 (f_X0_quotient p0 p1)) ([.long p0, .long p1] : List Value).toArray s 0 0 (fun _ => False)) (F0 m 63 ls []) := by
    intro n
    induction n with
    | zero =>
      intro sz q r hI hF ls hl
      refine lv_iload hx hb dX0_quotient_63 (lv_at hl 3 rfl) ?_
      refine lv_bipush (v := 16) hx hb dX0_quotient_65 (by decide) ?_
      refine pi_ge (tgt := 138) hx hb dX0_quotient_67 (by decide) (fun _ => ?_) (fun q => absurd q (by decide))
      refine lv_lload hx hb dX0_quotient_138 (lv_at hl 2 rfl) ?_
      refine lv_lload hx hb dX0_quotient_140 (lv_at hl 0 rfl) ?_
      refine lv_lload hx hb dX0_quotient_142 (lv_at hl 2 rfl) ?_
      refine lv_lsub hx hb dX0_quotient_144 ?_
      refine pl_lt (tgt := 156) hx hb dX0_quotient_145 dX0_quotient_146 (by decide) (fun c_2 => ?_) (fun c_2 => ?_)
      · skip
        refine lv_lload hx hb dX0_quotient_156 (lv_at hl 1 rfl) ?_
        exact pu_lret hx hb hr hlocks hs dX0_quotient_158 (by rw [hF, f_X0_quotient_L63, if_pos c_2])
      · skip
        refine lv_lload hx hb dX0_quotient_149 (lv_at hl 1 rfl) ?_
        refine lv_lconst (v := 1) hx hb dX0_quotient_151 (by decide) ?_
        refine lv_ladd hx hb dX0_quotient_152 ?_
        refine lv_goto (tgt := 158) hx hb dX0_quotient_153 (by decide) ?_
        exact pu_lret hx hb hr hlocks hs dX0_quotient_158 (by rw [hF, f_X0_quotient_L63, if_neg c_2])
    | succ n ih =>
      intro sz q r hI hF ls hl
      refine lv_iload hx hb dX0_quotient_63 (lv_at hl 3 rfl) ?_
      refine lv_bipush (v := 16) hx hb dX0_quotient_65 (by decide) ?_
      refine pi_ge (tgt := 138) hx hb dX0_quotient_67 (by decide) (fun q => absurd (cn_lt (N := 16) rfl (by decide) hI) q) (fun _ => ?_)
      refine lv_lload hx hb dX0_quotient_70 (lv_at hl 0 rfl) ?_
      refine lv_lload hx hb dX0_quotient_72 (lv_at hl 2 rfl) ?_
      refine lv_lsub hx hb dX0_quotient_74 ?_
      refine lv_lstore (lv' := [(13, .long (sz - r)), (4, .long sz), (8, .long q), (10, .long r), (12, .int (nI (16 - (n + 1))))]) hx hb dX0_quotient_75 hl (by decide) rfl (fun ls hl => ?_)
      refine lv_lload hx hb dX0_quotient_77 (lv_at hl 3 rfl) ?_
      refine lv_lload hx hb dX0_quotient_79 (lv_at hl 0 rfl) ?_
      refine pl_lt (tgt := 89) hx hb dX0_quotient_81 dX0_quotient_82 (by decide) (fun c_4 => ?_) (fun c_4 => ?_)
      · skip
        refine lv_iconst (v := 0) hx hb dX0_quotient_89 (by decide) ?_
        refine lv_istore (lv' := [(15, .int 0), (13, .long (sz - r)), (4, .long sz), (8, .long q), (10, .long r), (12, .int (nI (16 - (n + 1))))]) hx hb dX0_quotient_90 hl (by decide) rfl (fun ls hl => ?_)
        refine lv_ldc2 (v := 2) hx hb hown (hts (.constantLong RX0 152 (2)) (by decide +kernel)) dX0_quotient_92 ?_
        refine lv_lload hx hb dX0_quotient_95 (lv_at hl 3 rfl) ?_
        refine lv_lmul hx hb dX0_quotient_97 ?_
        refine lv_iload hx hb dX0_quotient_98 (lv_at hl 0 rfl) ?_
        refine lv_if_eq (tgt := 107) hx hb dX0_quotient_100 (by decide) (fun _ => ?_) (fun q => absurd (by decide) q)
        refine lv_iconst (v := 0) hx hb dX0_quotient_107 (by decide) ?_
        refine lv_i2l (v := 0) hx hb dX0_quotient_108 (by decide) ?_
        refine lv_ladd hx hb dX0_quotient_109 ?_
        refine lv_lstore (lv' := [(8, .long ((2 * q) + 0)), (15, .int 0), (13, .long (sz - r)), (4, .long sz), (10, .long r), (12, .int (nI (16 - (n + 1))))]) hx hb dX0_quotient_110 hl (by decide) rfl (fun ls hl => ?_)
        refine lv_iload hx hb dX0_quotient_112 (lv_at hl 1 rfl) ?_
        refine lv_if_eq (tgt := 125) hx hb dX0_quotient_114 (by decide) (fun _ => ?_) (fun q => absurd (by decide) q)
        refine lv_lload hx hb dX0_quotient_125 (lv_at hl 4 rfl) ?_
        refine lv_lload hx hb dX0_quotient_127 (lv_at hl 4 rfl) ?_
        refine lv_ladd hx hb dX0_quotient_129 ?_
        refine lv_lstore (lv' := [(10, .long (r + r)), (8, .long ((2 * q) + 0)), (15, .int 0), (13, .long (sz - r)), (4, .long sz), (12, .int (nI (16 - (n + 1))))]) hx hb dX0_quotient_130 hl (by decide) rfl (fun ls hl => ?_)
        refine lv_iinc (v := (nI (16 - n))) (lv' := [(12, .int (nI (16 - n))), (10, .long (r + r)), (8, .long ((2 * q) + 0)), (15, .int 0), (13, .long (sz - r)), (4, .long sz)]) (k := 5) hx hb dX0_quotient_132 hl rfl (cn_st hI) (by decide) rfl (fun ls hl => ?_)
        refine lv_goto (tgt := 63) hx hb dX0_quotient_135 (by decide) ?_
        exact ih (sz) (((2 * q) + 0)) ((r + r)) (by omega) (hF.trans (by rw [f_X0_quotient_L63, if_pos c_4])) ls (lv_sub hl [5, 2, 1, 0] rfl)
      · skip
        refine lv_iconst (v := 1) hx hb dX0_quotient_85 (by decide) ?_
        refine lv_goto (tgt := 90) hx hb dX0_quotient_86 (by decide) ?_
        refine lv_istore (lv' := [(15, .int 1), (13, .long (sz - r)), (4, .long sz), (8, .long q), (10, .long r), (12, .int (nI (16 - (n + 1))))]) hx hb dX0_quotient_90 hl (by decide) rfl (fun ls hl => ?_)
        refine lv_ldc2 (v := 2) hx hb hown (hts (.constantLong RX0 152 (2)) (by decide +kernel)) dX0_quotient_92 ?_
        refine lv_lload hx hb dX0_quotient_95 (lv_at hl 3 rfl) ?_
        refine lv_lmul hx hb dX0_quotient_97 ?_
        refine lv_iload hx hb dX0_quotient_98 (lv_at hl 0 rfl) ?_
        refine lv_if_eq (tgt := 107) hx hb dX0_quotient_100 (by decide) (fun q => absurd q (by decide)) (fun _ => ?_)
        refine lv_iconst (v := 1) hx hb dX0_quotient_103 (by decide) ?_
        refine lv_goto (tgt := 108) hx hb dX0_quotient_104 (by decide) ?_
        refine lv_i2l (v := 1) hx hb dX0_quotient_108 (by decide) ?_
        refine lv_ladd hx hb dX0_quotient_109 ?_
        refine lv_lstore (lv' := [(8, .long ((2 * q) + 1)), (15, .int 1), (13, .long (sz - r)), (4, .long sz), (10, .long r), (12, .int (nI (16 - (n + 1))))]) hx hb dX0_quotient_110 hl (by decide) rfl (fun ls hl => ?_)
        refine lv_iload hx hb dX0_quotient_112 (lv_at hl 1 rfl) ?_
        refine lv_if_eq (tgt := 125) hx hb dX0_quotient_114 (by decide) (fun q => absurd q (by decide)) (fun _ => ?_)
        refine lv_lload hx hb dX0_quotient_117 (lv_at hl 4 rfl) ?_
        refine lv_lload hx hb dX0_quotient_119 (lv_at hl 2 rfl) ?_
        refine lv_lsub hx hb dX0_quotient_121 ?_
        refine lv_goto (tgt := 130) hx hb dX0_quotient_122 (by decide) ?_
        refine lv_lstore (lv' := [(10, .long (r - (sz - r))), (8, .long ((2 * q) + 1)), (15, .int 1), (13, .long (sz - r)), (4, .long sz), (12, .int (nI (16 - (n + 1))))]) hx hb dX0_quotient_130 hl (by decide) rfl (fun ls hl => ?_)
        refine lv_iinc (v := (nI (16 - n))) (lv' := [(12, .int (nI (16 - n))), (10, .long (r - (sz - r))), (8, .long ((2 * q) + 1)), (15, .int 1), (13, .long (sz - r)), (4, .long sz)]) (k := 5) hx hb dX0_quotient_132 hl rfl (cn_st hI) (by decide) rfl (fun ls hl => ?_)
        refine lv_goto (tgt := 63) hx hb dX0_quotient_135 (by decide) ?_
        exact ih (sz) (((2 * q) + 1)) ((r - (sz - r))) (by omega) (hF.trans (by rw [f_X0_quotient_L63, if_neg c_4])) ls (lv_sub hl [5, 2, 1, 0] rfl)
  refine lv_lload_n hx hb dX0_quotient_0 rfl (lv_at hl 1 rfl) ?_
  refine va_mabs_long (own := RX0) hx hb (hml.trans hl.1.symm) hown (hts (.methodLink RX0 118 Lib.MathLoose.abs_long.x) (by decide +kernel)) (hts (.static Lib.MathLoose.abs_long.x) (by decide +kernel)) (hts (.initialized "java/lang/Math") (by decide +kernel)) (hts (.code Lib.MathLoose.abs_long.x Lib.MathLoose.abs_long.code 2 (some .long)) (by decide +kernel)) (Nat.le_of_ble_eq_true rfl) (Nat.le_of_ble_eq_true rfl) (Nat.zero_le _) (Nat.zero_le _) dX0_quotient_1 ?_
  refine lv_lstore (lv' := [(4, .long (if 0 < p1 then p1 else -p1)), (0, .long p0), (2, .long p1)]) hx hb dX0_quotient_4 hl (by decide) rfl (fun ls hl => ?_)
  refine lv_lload_n hx hb dX0_quotient_6 rfl (lv_at hl 2 rfl) ?_
  refine lv_lconst (v := 0) hx hb dX0_quotient_7 (by decide) ?_
  refine pl_ge (tgt := 17) hx hb dX0_quotient_8 dX0_quotient_9 (by decide) (fun c_9 => ?_) (fun c_9 => ?_)
  · skip
    refine lv_lload_n hx hb dX0_quotient_17 rfl (lv_at hl 1 rfl) ?_
    refine lv_lstore (lv' := [(6, .long p0), (4, .long (if 0 < p1 then p1 else -p1)), (0, .long p0), (2, .long p1)]) hx hb dX0_quotient_18 hl (by decide) rfl (fun ls hl => ?_)
    refine lv_lload hx hb dX0_quotient_20 (lv_at hl 0 rfl) ?_
    refine lv_lload hx hb dX0_quotient_22 (lv_at hl 1 rfl) ?_
    refine pu_Sl (As := [.long p0, .long (if 0 < p1 then p1 else -p1)]) (rest := []) ⟨hx, hb, hml, hown, hts⟩ (cc_J9_floorDiv_f86c9 l H0 (p0) ((if 0 < p1 then p1 else -p1)) (abs_ne0 hb0)) 2 gX0_quotient_J9_floorDiv_f86c9 rfl rfl rfl hdS_J9_floorDiv_f86c9 ⟨Nat.le_of_ble_eq_true rfl, Nat.le_of_ble_eq_true rfl⟩ kN_ok kN_at rfl hl.1 rfl (Nat.le_of_ble_eq_true rfl) dX0_quotient_24 ⟨Nat.zero_le _, Nat.zero_le _⟩ ?_
    refine lv_lstore (lv' := [(8, .long (f_J9_floorDiv_f86c9 (p0) ((if 0 < p1 then p1 else -p1)))), (6, .long p0), (4, .long (if 0 < p1 then p1 else -p1)), (0, .long p0), (2, .long p1)]) hx hb dX0_quotient_27 hl (by decide) rfl (fun ls hl => ?_)
    refine lv_lload hx hb dX0_quotient_29 (lv_at hl 0 rfl) ?_
    refine lv_ldc2 (v := (-32768)) hx hb hown (hts (.constantLong RX0 145 (-32768)) (by decide +kernel)) dX0_quotient_31 ?_
    refine pl_lt (tgt := 47) hx hb dX0_quotient_34 dX0_quotient_35 (by decide) (fun c_10 => ?_) (fun c_10 => ?_)
    · skip
      refine lv_ldc2 (v := 2147483648) hx hb hown (hts (.constantLong RX0 147 (2147483648)) (by decide +kernel)) dX0_quotient_47 ?_
      exact pu_lret hx hb hr hlocks hs dX0_quotient_50 (by rw [f_X0_quotient, if_neg c_9, if_pos c_10])
    · skip
      refine lv_lload hx hb dX0_quotient_38 (lv_at hl 0 rfl) ?_
      refine lv_ldc2 (v := 32768) hx hb hown (hts (.constantLong RX0 140 (32768)) (by decide +kernel)) dX0_quotient_40 ?_
      refine pl_lt (tgt := 51) hx hb dX0_quotient_43 dX0_quotient_44 (by decide) (fun c_11 => ?_) (fun c_11 => ?_)
      · skip
        refine lv_lload hx hb dX0_quotient_51 (lv_at hl 1 rfl) ?_
        refine lv_lload hx hb dX0_quotient_53 (lv_at hl 2 rfl) ?_
        refine pu_Sl (As := [.long p0, .long (if 0 < p1 then p1 else -p1)]) (rest := []) ⟨hx, hb, hml, hown, hts⟩ (cc_J9_floorMod_f86c9 l H0 (p0) ((if 0 < p1 then p1 else -p1)) (abs_ne0 hb0)) 2 gX0_quotient_J9_floorMod_f86c9 rfl rfl rfl hdS_J9_floorMod_f86c9 ⟨Nat.le_of_ble_eq_true rfl, Nat.le_of_ble_eq_true rfl⟩ kN_ok kN_at rfl hl.1 rfl (Nat.le_of_ble_eq_true rfl) dX0_quotient_55 ⟨Nat.zero_le _, Nat.zero_le _⟩ ?_
        refine lv_lstore (lv' := [(10, .long (f_J9_floorMod_f86c9 (p0) ((if 0 < p1 then p1 else -p1)))), (8, .long (f_J9_floorDiv_f86c9 (p0) ((if 0 < p1 then p1 else -p1)))), (6, .long p0), (4, .long (if 0 < p1 then p1 else -p1)), (0, .long p0), (2, .long p1)]) hx hb dX0_quotient_58 hl (by decide) rfl (fun ls hl => ?_)
        refine lv_iconst (v := 0) hx hb dX0_quotient_60 (by decide) ?_
        refine lv_istore (lv' := [(12, .int 0), (10, .long (f_J9_floorMod_f86c9 (p0) ((if 0 < p1 then p1 else -p1)))), (8, .long (f_J9_floorDiv_f86c9 (p0) ((if 0 < p1 then p1 else -p1)))), (6, .long p0), (4, .long (if 0 < p1 then p1 else -p1)), (0, .long p0), (2, .long p1)]) hx hb dX0_quotient_61 hl (by decide) rfl (fun ls hl => ?_)
        exact hL63 (16) ((if 0 < p1 then p1 else -p1)) ((f_J9_floorDiv_f86c9 (p0) ((if 0 < p1 then p1 else -p1)))) ((f_J9_floorMod_f86c9 (p0) ((if 0 < p1 then p1 else -p1)))) (by omega) (by rw [f_X0_quotient, if_neg c_9, if_neg c_10, if_pos c_11]) ls (lv_sub hl [4, 2, 1, 0] rfl)
      · skip
        refine lv_ldc2 (v := 2147483648) hx hb hown (hts (.constantLong RX0 147 (2147483648)) (by decide +kernel)) dX0_quotient_47 ?_
        exact pu_lret hx hb hr hlocks hs dX0_quotient_50 (by rw [f_X0_quotient, if_neg c_9, if_neg c_10, if_neg c_11])
  · skip
    refine lv_lload_n hx hb dX0_quotient_12 rfl (lv_at hl 1 rfl) ?_
    refine lv_lneg hx hb dX0_quotient_13 ?_
    refine lv_goto (tgt := 18) hx hb dX0_quotient_14 (by decide) ?_
    refine lv_lstore (lv' := [(6, .long (-p0)), (4, .long (if 0 < p1 then p1 else -p1)), (0, .long p0), (2, .long p1)]) hx hb dX0_quotient_18 hl (by decide) rfl (fun ls hl => ?_)
    refine lv_lload hx hb dX0_quotient_20 (lv_at hl 0 rfl) ?_
    refine lv_lload hx hb dX0_quotient_22 (lv_at hl 1 rfl) ?_
    refine pu_Sl (As := [.long (-p0), .long (if 0 < p1 then p1 else -p1)]) (rest := []) ⟨hx, hb, hml, hown, hts⟩ (cc_J9_floorDiv_f86c9 l H0 ((-p0)) ((if 0 < p1 then p1 else -p1)) (abs_ne0 hb0)) 2 gX0_quotient_J9_floorDiv_f86c9 rfl rfl rfl hdS_J9_floorDiv_f86c9 ⟨Nat.le_of_ble_eq_true rfl, Nat.le_of_ble_eq_true rfl⟩ kN_ok kN_at rfl hl.1 rfl (Nat.le_of_ble_eq_true rfl) dX0_quotient_24 ⟨Nat.zero_le _, Nat.zero_le _⟩ ?_
    refine lv_lstore (lv' := [(8, .long (f_J9_floorDiv_f86c9 ((-p0)) ((if 0 < p1 then p1 else -p1)))), (6, .long (-p0)), (4, .long (if 0 < p1 then p1 else -p1)), (0, .long p0), (2, .long p1)]) hx hb dX0_quotient_27 hl (by decide) rfl (fun ls hl => ?_)
    refine lv_lload hx hb dX0_quotient_29 (lv_at hl 0 rfl) ?_
    refine lv_ldc2 (v := (-32768)) hx hb hown (hts (.constantLong RX0 145 (-32768)) (by decide +kernel)) dX0_quotient_31 ?_
    refine pl_lt (tgt := 47) hx hb dX0_quotient_34 dX0_quotient_35 (by decide) (fun c_12 => ?_) (fun c_12 => ?_)
    · skip
      refine lv_ldc2 (v := 2147483648) hx hb hown (hts (.constantLong RX0 147 (2147483648)) (by decide +kernel)) dX0_quotient_47 ?_
      exact pu_lret hx hb hr hlocks hs dX0_quotient_50 (by rw [f_X0_quotient, if_pos c_9, if_pos c_12])
    · skip
      refine lv_lload hx hb dX0_quotient_38 (lv_at hl 0 rfl) ?_
      refine lv_ldc2 (v := 32768) hx hb hown (hts (.constantLong RX0 140 (32768)) (by decide +kernel)) dX0_quotient_40 ?_
      refine pl_lt (tgt := 51) hx hb dX0_quotient_43 dX0_quotient_44 (by decide) (fun c_13 => ?_) (fun c_13 => ?_)
      · skip
        refine lv_lload hx hb dX0_quotient_51 (lv_at hl 1 rfl) ?_
        refine lv_lload hx hb dX0_quotient_53 (lv_at hl 2 rfl) ?_
        refine pu_Sl (As := [.long (-p0), .long (if 0 < p1 then p1 else -p1)]) (rest := []) ⟨hx, hb, hml, hown, hts⟩ (cc_J9_floorMod_f86c9 l H0 ((-p0)) ((if 0 < p1 then p1 else -p1)) (abs_ne0 hb0)) 2 gX0_quotient_J9_floorMod_f86c9 rfl rfl rfl hdS_J9_floorMod_f86c9 ⟨Nat.le_of_ble_eq_true rfl, Nat.le_of_ble_eq_true rfl⟩ kN_ok kN_at rfl hl.1 rfl (Nat.le_of_ble_eq_true rfl) dX0_quotient_55 ⟨Nat.zero_le _, Nat.zero_le _⟩ ?_
        refine lv_lstore (lv' := [(10, .long (f_J9_floorMod_f86c9 ((-p0)) ((if 0 < p1 then p1 else -p1)))), (8, .long (f_J9_floorDiv_f86c9 ((-p0)) ((if 0 < p1 then p1 else -p1)))), (6, .long (-p0)), (4, .long (if 0 < p1 then p1 else -p1)), (0, .long p0), (2, .long p1)]) hx hb dX0_quotient_58 hl (by decide) rfl (fun ls hl => ?_)
        refine lv_iconst (v := 0) hx hb dX0_quotient_60 (by decide) ?_
        refine lv_istore (lv' := [(12, .int 0), (10, .long (f_J9_floorMod_f86c9 ((-p0)) ((if 0 < p1 then p1 else -p1)))), (8, .long (f_J9_floorDiv_f86c9 ((-p0)) ((if 0 < p1 then p1 else -p1)))), (6, .long (-p0)), (4, .long (if 0 < p1 then p1 else -p1)), (0, .long p0), (2, .long p1)]) hx hb dX0_quotient_61 hl (by decide) rfl (fun ls hl => ?_)
        exact hL63 (16) ((if 0 < p1 then p1 else -p1)) ((f_J9_floorDiv_f86c9 ((-p0)) ((if 0 < p1 then p1 else -p1)))) ((f_J9_floorMod_f86c9 ((-p0)) ((if 0 < p1 then p1 else -p1)))) (by omega) (by rw [f_X0_quotient, if_pos c_9, if_neg c_12, if_pos c_13]) ls (lv_sub hl [4, 2, 1, 0] rfl)
      · skip
        refine lv_ldc2 (v := 2147483648) hx hb hown (hts (.constantLong RX0 147 (2147483648)) (by decide +kernel)) dX0_quotient_47 ?_
        exact pu_lret hx hb hr hlocks hs dX0_quotient_50 (by rw [f_X0_quotient, if_pos c_9, if_neg c_12, if_neg c_13])
theorem hdS_X0_sineOfFirstQuarter : yX0_sineOfFirstQuarter.cls ≠ "java/lang/invoke/MethodHandle" ∧ yX0_sineOfFirstQuarter.cls ≠ "java/lang/invoke/VarHandle" ∧ (parseMethodDescriptor yX0_sineOfFirstQuarter.desc).map (fun d => d.parameters.length) = some 1 := by decide +kernel
def f_X0_sineOfFirstQuarter (p0 : Int64) : Int64 := if 0 < p0 then (if p0 < 5898240 then ((((sinV (((p0 >>> ((16 : Int32).toInt64 &&& 63))).toInt32).toNatClampNeg)).toInt64 + (f_X0_withoutPlaces (((((sinV ((((p0 >>> ((16 : Int32).toInt64 &&& 63))).toInt32 + 1)).toNatClampNeg) - (sinV (((p0 >>> ((16 : Int32).toInt64 &&& 63))).toInt32).toNatClampNeg))).toInt64 * (p0 - ((((p0 >>> ((16 : Int32).toInt64 &&& 63))).toInt32).toInt64 * 65536))))))) else (65536)) else (0)
abbrev rm_X0_sineOfFirstQuarter : Room := { frames := 1, cells := 0, slots := 0, locals := 37 }
set_option maxHeartbeats 4000000 in
set_option maxRecDepth 100000 in
theorem cc_X0_sineOfFirstQuarter (l : Launch) (H0 : Heap) (p0 : Int64)   : Met l yX0_sineOfFirstQuarter wsX0_sineOfFirstQuarter rm_X0_sineOfFirstQuarter (pPc [.long p0] H0 (kT "FixedPlane")) (pQl H0 (f_X0_sineOfFirstQuarter p0)) 0 0 (fun _ => False) := by
  refine pu_head (cc := cX0_sineOfFirstQuarter) (maxL := 5) (ret := some .long) (by decide +kernel) rfl (Nat.le_of_ble_eq_true rfl) ?_
  intro p e s m below meth c ls hx hb hr hlocks hml hown hts hs hk hl
  have hown : s.vm.findClass RX0 = some m.cls := hown
  have hl : lv_has ls 5 [(0, .long p0)] := hl
  have hkat : ∀ U : State, U.heap = H0 → s.WarmedH U.vm → kT "FixedPlane" U := by rw [← hs]; exact kT_at hk
  have hSt : va_S (fun _ => False) s.heap H0 [] := by rw [hs]; exact va_S.rf
  obtain ⟨tt, hZ, hTt⟩ := hk
  refine lv_lload_n hx hb dX0_sineOfFirstQuarter_0 rfl (lv_at hl 0 rfl) ?_
  refine lv_lconst (v := 0) hx hb dX0_sineOfFirstQuarter_1 (by decide) ?_
  refine pl_gt (tgt := 8) hx hb dX0_sineOfFirstQuarter_2 dX0_sineOfFirstQuarter_3 (by decide) (fun c_1 => ?_) (fun c_1 => ?_)
  · skip
    refine lv_lload_n hx hb dX0_sineOfFirstQuarter_8 rfl (lv_at hl 0 rfl) ?_
    refine lv_ldc2 (v := 5898240) hx hb hown (hts (.constantLong RX0 133 (5898240)) (by decide +kernel)) dX0_sineOfFirstQuarter_9 ?_
    refine pl_lt (tgt := 20) hx hb dX0_sineOfFirstQuarter_12 dX0_sineOfFirstQuarter_13 (by decide) (fun c_2 => ?_) (fun c_2 => ?_)
    · skip
      refine lv_lload_n hx hb dX0_sineOfFirstQuarter_20 rfl (lv_at hl 0 rfl) ?_
      refine lv_bipush (v := 16) hx hb dX0_sineOfFirstQuarter_21 (by decide) ?_
      refine lv_lshr (v := (p0 >>> ((16 : Int32).toInt64 &&& 63))) hx hb dX0_sineOfFirstQuarter_23 rfl ?_
      refine lv_l2i (v := ((p0 >>> ((16 : Int32).toInt64 &&& 63))).toInt32) hx hb dX0_sineOfFirstQuarter_24 rfl ?_
      refine lv_istore_n (lv' := [(2, .int ((p0 >>> ((16 : Int32).toInt64 &&& 63))).toInt32), (0, .long p0)]) hx hb dX0_sineOfFirstQuarter_25 rfl hl (by decide) rfl (fun ls hl => ?_)
      refine lv_lload_n hx hb dX0_sineOfFirstQuarter_26 rfl (lv_at hl 1 rfl) ?_
      refine lv_iload_n hx hb dX0_sineOfFirstQuarter_27 rfl (lv_at hl 0 rfl) ?_
      refine lv_i2l (v := (((p0 >>> ((16 : Int32).toInt64 &&& 63))).toInt32).toInt64) hx hb dX0_sineOfFirstQuarter_28 rfl ?_
      refine lv_ldc2 (v := 65536) hx hb hown (hts (.constantLong RX0 91 (65536)) (by decide +kernel)) dX0_sineOfFirstQuarter_29 ?_
      refine lv_lmul hx hb dX0_sineOfFirstQuarter_32 ?_
      refine lv_lsub hx hb dX0_sineOfFirstQuarter_33 ?_
      refine lv_lstore_n (lv' := [(3, .long (p0 - ((((p0 >>> ((16 : Int32).toInt64 &&& 63))).toInt32).toInt64 * 65536))), (2, .int ((p0 >>> ((16 : Int32).toInt64 &&& 63))).toInt32), (0, .long p0)]) hx hb dX0_sineOfFirstQuarter_34 rfl hl (by decide) rfl (fun ls hl => ?_)
      refine va_gets (C := "FixedPlane") (ref := "FixedPlane") (own := RX0) hx hb hZ hSt hown (hts (.fieldLink RX0 164 "FixedPlane" "SINES" "[I") (by decide +kernel)) (fun _ h9 => h9) dX0_sineOfFirstQuarter_35 ?_
      refine lv_iload_n hx hb dX0_sineOfFirstQuarter_38 rfl (lv_at hl 1 rfl) ?_
      refine va_ti hx hb hTt hSt (v := .int (sinV (((p0 >>> ((16 : Int32).toInt64 &&& 63))).toInt32).toNatClampNeg)) (sfq_ix c_1 c_2) rfl dX0_sineOfFirstQuarter_39 ?_
      refine lv_i2l (v := ((sinV (((p0 >>> ((16 : Int32).toInt64 &&& 63))).toInt32).toNatClampNeg)).toInt64) hx hb dX0_sineOfFirstQuarter_40 rfl ?_
      refine va_gets (C := "FixedPlane") (ref := "FixedPlane") (own := RX0) hx hb hZ hSt hown (hts (.fieldLink RX0 164 "FixedPlane" "SINES" "[I") (by decide +kernel)) (fun _ h9 => h9) dX0_sineOfFirstQuarter_41 ?_
      refine lv_iload_n hx hb dX0_sineOfFirstQuarter_44 rfl (lv_at hl 1 rfl) ?_
      refine lv_iconst (v := 1) hx hb dX0_sineOfFirstQuarter_45 (by decide) ?_
      refine lv_iadd hx hb dX0_sineOfFirstQuarter_46 ?_
      refine va_ti hx hb hTt hSt (v := .int (sinV ((((p0 >>> ((16 : Int32).toInt64 &&& 63))).toInt32 + 1)).toNatClampNeg)) (sfq_ix1 c_1 c_2) rfl dX0_sineOfFirstQuarter_47 ?_
      refine va_gets (C := "FixedPlane") (ref := "FixedPlane") (own := RX0) hx hb hZ hSt hown (hts (.fieldLink RX0 164 "FixedPlane" "SINES" "[I") (by decide +kernel)) (fun _ h9 => h9) dX0_sineOfFirstQuarter_48 ?_
      refine lv_iload_n hx hb dX0_sineOfFirstQuarter_51 rfl (lv_at hl 1 rfl) ?_
      refine va_ti hx hb hTt hSt (v := .int (sinV (((p0 >>> ((16 : Int32).toInt64 &&& 63))).toInt32).toNatClampNeg)) (sfq_ix c_1 c_2) rfl dX0_sineOfFirstQuarter_52 ?_
      refine lv_isub hx hb dX0_sineOfFirstQuarter_53 ?_
      refine lv_i2l (v := (((sinV ((((p0 >>> ((16 : Int32).toInt64 &&& 63))).toInt32 + 1)).toNatClampNeg) - (sinV (((p0 >>> ((16 : Int32).toInt64 &&& 63))).toInt32).toNatClampNeg))).toInt64) hx hb dX0_sineOfFirstQuarter_54 rfl ?_
      refine lv_lload_n hx hb dX0_sineOfFirstQuarter_55 rfl (lv_at hl 0 rfl) ?_
      refine lv_lmul hx hb dX0_sineOfFirstQuarter_56 ?_
      refine pu_Sl (As := [.long ((((sinV ((((p0 >>> ((16 : Int32).toInt64 &&& 63))).toInt32 + 1)).toNatClampNeg) - (sinV (((p0 >>> ((16 : Int32).toInt64 &&& 63))).toInt32).toNatClampNeg))).toInt64 * (p0 - ((((p0 >>> ((16 : Int32).toInt64 &&& 63))).toInt32).toInt64 * 65536)))]) (rest := [.long ((sinV (((p0 >>> ((16 : Int32).toInt64 &&& 63))).toInt32).toNatClampNeg)).toInt64]) ⟨hx, hb, hml, hown, hts⟩ (cc_X0_withoutPlaces l H0 (((((sinV ((((p0 >>> ((16 : Int32).toInt64 &&& 63))).toInt32 + 1)).toNatClampNeg) - (sinV (((p0 >>> ((16 : Int32).toInt64 &&& 63))).toInt32).toNatClampNeg))).toInt64 * (p0 - ((((p0 >>> ((16 : Int32).toInt64 &&& 63))).toInt32).toInt64 * 65536))))) 1 gX0_sineOfFirstQuarter_X0_withoutPlaces rfl rfl rfl hdS_X0_withoutPlaces ⟨Nat.le_of_ble_eq_true rfl, Nat.le_of_ble_eq_true rfl⟩ kN_ok kN_at rfl hl.1 rfl (Nat.le_of_ble_eq_true rfl) dX0_sineOfFirstQuarter_57 ⟨Nat.zero_le _, Nat.zero_le _⟩ ?_
      refine lv_ladd hx hb dX0_sineOfFirstQuarter_60 ?_
      exact pu_lret hx hb hr hlocks hs dX0_sineOfFirstQuarter_61 (by rw [f_X0_sineOfFirstQuarter, if_pos c_1, if_pos c_2])
    · skip
      refine lv_ldc2 (v := 65536) hx hb hown (hts (.constantLong RX0 91 (65536)) (by decide +kernel)) dX0_sineOfFirstQuarter_16 ?_
      exact pu_lret hx hb hr hlocks hs dX0_sineOfFirstQuarter_19 (by rw [f_X0_sineOfFirstQuarter, if_pos c_1, if_neg c_2])
  · skip
    refine lv_lconst (v := 0) hx hb dX0_sineOfFirstQuarter_6 (by decide) ?_
    exact pu_lret hx hb hr hlocks hs dX0_sineOfFirstQuarter_7 (by rw [f_X0_sineOfFirstQuarter, if_neg c_1])
theorem hdS_X0_sine : yX0_sine.cls ≠ "java/lang/invoke/MethodHandle" ∧ yX0_sine.cls ≠ "java/lang/invoke/VarHandle" ∧ (parseMethodDescriptor yX0_sine.desc).map (fun d => d.parameters.length) = some 1 := by decide +kernel
def f_X0_sine (p0 : Int64) : Int64 := if (f_J9_floorMod_f86c9 (p0) (23592960)) < 11796480 then ((f_X0_sineOfFirstQuarter ((if (11796480 - (f_J9_floorMod_f86c9 (p0) (23592960))) < (f_J9_floorMod_f86c9 (p0) (23592960)) then (11796480 - (f_J9_floorMod_f86c9 (p0) (23592960))) else (f_J9_floorMod_f86c9 (p0) (23592960)))))) else ((-(f_X0_sineOfFirstQuarter ((if (11796480 - ((f_J9_floorMod_f86c9 (p0) (23592960)) - 11796480)) < ((f_J9_floorMod_f86c9 (p0) (23592960)) - 11796480) then (11796480 - ((f_J9_floorMod_f86c9 (p0) (23592960)) - 11796480)) else ((f_J9_floorMod_f86c9 (p0) (23592960)) - 11796480))))))
abbrev rm_X0_sine : Room := { frames := 2, cells := 0, slots := 0, locals := 77 }
set_option maxHeartbeats 4000000 in
set_option maxRecDepth 100000 in
theorem cc_X0_sine (l : Launch) (H0 : Heap) (p0 : Int64)   : Met l yX0_sine wsX0_sine rm_X0_sine (pPc [.long p0] H0 (kT "FixedPlane")) (pQl H0 (f_X0_sine p0)) 0 0 (fun _ => False) := by
  refine pu_head (cc := cX0_sine) (maxL := 8) (ret := some .long) (by decide +kernel) rfl (Nat.le_of_ble_eq_true rfl) ?_
  intro p e s m below meth c ls hx hb hr hlocks hml hown hts hs hk hl
  have hown : s.vm.findClass RX0 = some m.cls := hown
  have hl : lv_has ls 8 [(0, .long p0)] := hl
  have hkat : ∀ U : State, U.heap = H0 → s.WarmedH U.vm → kT "FixedPlane" U := by rw [← hs]; exact kT_at hk
  refine lv_lload_n hx hb dX0_sine_0 rfl (lv_at hl 0 rfl) ?_
  refine lv_ldc2 (v := 23592960) hx hb hown (hts (.constantLong RX0 154 (23592960)) (by decide +kernel)) dX0_sine_1 ?_
  refine pu_Sl (As := [.long p0, .long 23592960]) (rest := []) ⟨hx, hb, hml, hown, hts⟩ (cc_J9_floorMod_f86c9 l H0 (p0) (23592960) (by decide)) 2 gX0_sine_J9_floorMod_f86c9 rfl rfl rfl hdS_J9_floorMod_f86c9 ⟨Nat.le_of_ble_eq_true rfl, Nat.le_of_ble_eq_true rfl⟩ kN_ok kN_at rfl hl.1 rfl (Nat.le_of_ble_eq_true rfl) dX0_sine_4 ⟨Nat.zero_le _, Nat.zero_le _⟩ ?_
  refine lv_lstore_n (lv' := [(2, .long (f_J9_floorMod_f86c9 (p0) (23592960))), (0, .long p0)]) hx hb dX0_sine_7 rfl hl (by decide) rfl (fun ls hl => ?_)
  refine lv_lload_n hx hb dX0_sine_8 rfl (lv_at hl 0 rfl) ?_
  refine lv_ldc2 (v := 11796480) hx hb hown (hts (.constantLong RX0 156 (11796480)) (by decide +kernel)) dX0_sine_9 ?_
  refine pl_ge (tgt := 20) hx hb dX0_sine_12 dX0_sine_13 (by decide) (fun c_1 => ?_) (fun c_1 => ?_)
  · skip
    refine lv_lload_n hx hb dX0_sine_20 rfl (lv_at hl 0 rfl) ?_
    refine lv_ldc2 (v := 11796480) hx hb hown (hts (.constantLong RX0 156 (11796480)) (by decide +kernel)) dX0_sine_21 ?_
    refine lv_lsub hx hb dX0_sine_24 ?_
    refine lv_lstore (lv' := [(4, .long ((f_J9_floorMod_f86c9 (p0) (23592960)) - 11796480)), (2, .long (f_J9_floorMod_f86c9 (p0) (23592960))), (0, .long p0)]) hx hb dX0_sine_25 hl (by decide) rfl (fun ls hl => ?_)
    refine lv_lload hx hb dX0_sine_27 (lv_at hl 0 rfl) ?_
    refine lv_ldc2 (v := 11796480) hx hb hown (hts (.constantLong RX0 156 (11796480)) (by decide +kernel)) dX0_sine_29 ?_
    refine lv_lload hx hb dX0_sine_32 (lv_at hl 0 rfl) ?_
    refine lv_lsub hx hb dX0_sine_34 ?_
    refine va_mmin_long (own := RX0) hx hb (hml.trans hl.1.symm) hown (hts (.methodLink RX0 158 Lib.MathLoose.min_long.x) (by decide +kernel)) (hts (.static Lib.MathLoose.min_long.x) (by decide +kernel)) (hts (.initialized "java/lang/Math") (by decide +kernel)) (hts (.code Lib.MathLoose.min_long.x Lib.MathLoose.min_long.code 4 (some .long)) (by decide +kernel)) (Nat.le_of_ble_eq_true rfl) (Nat.le_of_ble_eq_true rfl) (Nat.zero_le _) (Nat.zero_le _) dX0_sine_35 ?_
    refine pu_Sl (As := [.long (if (11796480 - ((f_J9_floorMod_f86c9 (p0) (23592960)) - 11796480)) < ((f_J9_floorMod_f86c9 (p0) (23592960)) - 11796480) then (11796480 - ((f_J9_floorMod_f86c9 (p0) (23592960)) - 11796480)) else ((f_J9_floorMod_f86c9 (p0) (23592960)) - 11796480))]) (rest := []) ⟨hx, hb, hml, hown, hts⟩ (cc_X0_sineOfFirstQuarter l H0 ((if (11796480 - ((f_J9_floorMod_f86c9 (p0) (23592960)) - 11796480)) < ((f_J9_floorMod_f86c9 (p0) (23592960)) - 11796480) then (11796480 - ((f_J9_floorMod_f86c9 (p0) (23592960)) - 11796480)) else ((f_J9_floorMod_f86c9 (p0) (23592960)) - 11796480)))) 1 gX0_sine_X0_sineOfFirstQuarter rfl rfl rfl hdS_X0_sineOfFirstQuarter ⟨Nat.le_of_ble_eq_true rfl, Nat.le_of_ble_eq_true rfl⟩ (kT_ok _) (hkat) rfl hl.1 rfl (Nat.le_of_ble_eq_true rfl) dX0_sine_38 ⟨Nat.zero_le _, Nat.zero_le _⟩ ?_
    refine lv_lstore (lv' := [(6, .long (f_X0_sineOfFirstQuarter ((if (11796480 - ((f_J9_floorMod_f86c9 (p0) (23592960)) - 11796480)) < ((f_J9_floorMod_f86c9 (p0) (23592960)) - 11796480) then (11796480 - ((f_J9_floorMod_f86c9 (p0) (23592960)) - 11796480)) else ((f_J9_floorMod_f86c9 (p0) (23592960)) - 11796480))))), (4, .long ((f_J9_floorMod_f86c9 (p0) (23592960)) - 11796480)), (2, .long (f_J9_floorMod_f86c9 (p0) (23592960))), (0, .long p0)]) hx hb dX0_sine_41 hl (by decide) rfl (fun ls hl => ?_)
    refine lv_lload_n hx hb dX0_sine_43 rfl (lv_at hl 2 rfl) ?_
    refine lv_ldc2 (v := 11796480) hx hb hown (hts (.constantLong RX0 156 (11796480)) (by decide +kernel)) dX0_sine_44 ?_
    refine pl_ge (tgt := 56) hx hb dX0_sine_47 dX0_sine_48 (by decide) (fun _ => ?_) (fun q => absurd q (c_1))
    refine lv_lload hx hb dX0_sine_56 (lv_at hl 0 rfl) ?_
    refine lv_lneg hx hb dX0_sine_58 ?_
    exact pu_lret hx hb hr hlocks hs dX0_sine_59 (by rw [f_X0_sine, if_neg c_1])
  · skip
    refine lv_lload_n hx hb dX0_sine_16 rfl (lv_at hl 0 rfl) ?_
    refine lv_goto (tgt := 25) hx hb dX0_sine_17 (by decide) ?_
    refine lv_lstore (lv' := [(4, .long (f_J9_floorMod_f86c9 (p0) (23592960))), (2, .long (f_J9_floorMod_f86c9 (p0) (23592960))), (0, .long p0)]) hx hb dX0_sine_25 hl (by decide) rfl (fun ls hl => ?_)
    refine lv_lload hx hb dX0_sine_27 (lv_at hl 0 rfl) ?_
    refine lv_ldc2 (v := 11796480) hx hb hown (hts (.constantLong RX0 156 (11796480)) (by decide +kernel)) dX0_sine_29 ?_
    refine lv_lload hx hb dX0_sine_32 (lv_at hl 0 rfl) ?_
    refine lv_lsub hx hb dX0_sine_34 ?_
    refine va_mmin_long (own := RX0) hx hb (hml.trans hl.1.symm) hown (hts (.methodLink RX0 158 Lib.MathLoose.min_long.x) (by decide +kernel)) (hts (.static Lib.MathLoose.min_long.x) (by decide +kernel)) (hts (.initialized "java/lang/Math") (by decide +kernel)) (hts (.code Lib.MathLoose.min_long.x Lib.MathLoose.min_long.code 4 (some .long)) (by decide +kernel)) (Nat.le_of_ble_eq_true rfl) (Nat.le_of_ble_eq_true rfl) (Nat.zero_le _) (Nat.zero_le _) dX0_sine_35 ?_
    refine pu_Sl (As := [.long (if (11796480 - (f_J9_floorMod_f86c9 (p0) (23592960))) < (f_J9_floorMod_f86c9 (p0) (23592960)) then (11796480 - (f_J9_floorMod_f86c9 (p0) (23592960))) else (f_J9_floorMod_f86c9 (p0) (23592960)))]) (rest := []) ⟨hx, hb, hml, hown, hts⟩ (cc_X0_sineOfFirstQuarter l H0 ((if (11796480 - (f_J9_floorMod_f86c9 (p0) (23592960))) < (f_J9_floorMod_f86c9 (p0) (23592960)) then (11796480 - (f_J9_floorMod_f86c9 (p0) (23592960))) else (f_J9_floorMod_f86c9 (p0) (23592960))))) 1 gX0_sine_X0_sineOfFirstQuarter rfl rfl rfl hdS_X0_sineOfFirstQuarter ⟨Nat.le_of_ble_eq_true rfl, Nat.le_of_ble_eq_true rfl⟩ (kT_ok _) (hkat) rfl hl.1 rfl (Nat.le_of_ble_eq_true rfl) dX0_sine_38 ⟨Nat.zero_le _, Nat.zero_le _⟩ ?_
    refine lv_lstore (lv' := [(6, .long (f_X0_sineOfFirstQuarter ((if (11796480 - (f_J9_floorMod_f86c9 (p0) (23592960))) < (f_J9_floorMod_f86c9 (p0) (23592960)) then (11796480 - (f_J9_floorMod_f86c9 (p0) (23592960))) else (f_J9_floorMod_f86c9 (p0) (23592960)))))), (4, .long (f_J9_floorMod_f86c9 (p0) (23592960))), (2, .long (f_J9_floorMod_f86c9 (p0) (23592960))), (0, .long p0)]) hx hb dX0_sine_41 hl (by decide) rfl (fun ls hl => ?_)
    refine lv_lload_n hx hb dX0_sine_43 rfl (lv_at hl 2 rfl) ?_
    refine lv_ldc2 (v := 11796480) hx hb hown (hts (.constantLong RX0 156 (11796480)) (by decide +kernel)) dX0_sine_44 ?_
    refine pl_ge (tgt := 56) hx hb dX0_sine_47 dX0_sine_48 (by decide) (fun q => absurd (c_1) q) (fun _ => ?_)
    refine lv_lload hx hb dX0_sine_51 (lv_at hl 0 rfl) ?_
    refine lv_goto (tgt := 59) hx hb dX0_sine_53 (by decide) ?_
    exact pu_lret hx hb hr hlocks hs dX0_sine_59 (by rw [f_X0_sine, if_pos c_1])
theorem hdS_X0_greatestAngle : yX0_greatestAngle.cls ≠ "java/lang/invoke/MethodHandle" ∧ yX0_greatestAngle.cls ≠ "java/lang/invoke/VarHandle" ∧ (parseMethodDescriptor yX0_greatestAngle.desc).map (fun d => d.parameters.length) = some 3 := by decide +kernel
def f_X0_greatestAngle_L7 (p0 : Int64) (p1 : Int64) (p2 : Int64) : Nat → Int64 → Int64
  | 0, an => an
  | n + 1, an => if p2 < ((p0 * (f_X0_sineOfFirstQuarter ((if 5898240 < (an + ((1 : Int64) <<< ((nI n).toInt64 &&& 63))) then 5898240 else (an + ((1 : Int64) <<< ((nI n).toInt64 &&& 63))))))) - (p1 * (f_X0_sineOfFirstQuarter ((5898240 - (if 5898240 < (an + ((1 : Int64) <<< ((nI n).toInt64 &&& 63))) then 5898240 else (an + ((1 : Int64) <<< ((nI n).toInt64 &&& 63))))))))) then (f_X0_greatestAngle_L7 p0 p1 p2 n (an)) else (f_X0_greatestAngle_L7 p0 p1 p2 n ((if 5898240 < (an + ((1 : Int64) <<< ((nI n).toInt64 &&& 63))) then 5898240 else (an + ((1 : Int64) <<< ((nI n).toInt64 &&& 63))))))
def f_X0_greatestAngle (p0 : Int64) (p1 : Int64) (p2 : Int64) : Int64 := f_X0_greatestAngle_L7 p0 p1 p2 (23) (0)
abbrev rm_X0_greatestAngle : Room := { frames := 2, cells := 0, slots := 0, locals := 77 }
set_option maxHeartbeats 4000000 in
set_option maxRecDepth 100000 in
theorem cc_X0_greatestAngle (l : Launch) (H0 : Heap) (p0 : Int64) (p1 : Int64) (p2 : Int64)   : Met l yX0_greatestAngle wsX0_greatestAngle rm_X0_greatestAngle (pPc [.long p0, .long p1, .long p2] H0 (kT "FixedPlane")) (pQl H0 (f_X0_greatestAngle p0 p1 p2)) 0 0 (fun _ => False) := by
  refine pu_head (cc := cX0_greatestAngle) (maxL := 15) (ret := some .long) (by decide +kernel) rfl (Nat.le_of_ble_eq_true rfl) ?_
  intro p e s m below meth c ls hx hb hr hlocks hml hown hts hs hk hl
  have hown : s.vm.findClass RX0 = some m.cls := hown
  have hl : lv_has ls 15 [(0, .long p0), (2, .long p1), (4, .long p2)] := hl
  have hkat : ∀ U : State, U.heap = H0 → s.WarmedH U.vm → kT "FixedPlane" U := by rw [← hs]; exact kT_at hk
  have hL7 : ∀ (n : Nat) (an : Int64), n ≤ 25 → (f_X0_greatestAngle p0 p1 p2 = f_X0_greatestAngle_L7 p0 p1 p2 n an) → ∀ (ls : Array Slot), lv_has ls 15 [(0, .long p0), (2, .long p1), (4, .long p2), (6, .long an), (8, .int (nI n - 1))] → W p l e (headSpec wsX0_greatestAngle rm_X0_greatestAngle).room s m ([.long p0, .long p1, .long p2] : List Value).toArray below meth c H0 [] 0 0 (MQ below (pQl H0 (f_X0_greatestAngle p0 p1 p2)) ([.long p0, .long p1, .long p2] : List Value).toArray s 0 0 (fun _ => False)) (F0 m 7 ls []) := by
    intro n
    induction n with
    | zero =>
      intro an hI hF ls hl
      refine lv_iload hx hb dX0_greatestAngle_7 (lv_at hl 4 rfl) ?_
      refine lv_if_lt (tgt := 70) hx hb dX0_greatestAngle_9 (by decide) (fun _ => ?_) (fun q => absurd (by decide) q)
      refine lv_lload hx hb dX0_greatestAngle_70 (lv_at hl 3 rfl) ?_
      exact pu_lret hx hb hr hlocks hs dX0_greatestAngle_72 (by rw [hF, f_X0_greatestAngle_L7])
    | succ n ih =>
      intro an hI hF ls hl
      rw [nI_pred] at hl
      refine lv_iload hx hb dX0_greatestAngle_7 (lv_at hl 4 rfl) ?_
      refine lv_if_lt (tgt := 70) hx hb dX0_greatestAngle_9 (by decide) (fun q => absurd q (nI_pos (by omega))) (fun _ => ?_)
      refine lv_lload hx hb dX0_greatestAngle_12 (lv_at hl 3 rfl) ?_
      refine lv_lconst (v := 1) hx hb dX0_greatestAngle_14 (by decide) ?_
      refine lv_iload hx hb dX0_greatestAngle_15 (lv_at hl 4 rfl) ?_
      refine lv_lshl (v := ((1 : Int64) <<< ((nI n).toInt64 &&& 63))) hx hb dX0_greatestAngle_17 rfl ?_
      refine lv_ladd hx hb dX0_greatestAngle_18 ?_
      refine lv_ldc2 (v := 5898240) hx hb hown (hts (.constantLong RX0 133 (5898240)) (by decide +kernel)) dX0_greatestAngle_19 ?_
      refine va_mmin_long (own := RX0) hx hb (hml.trans hl.1.symm) hown (hts (.methodLink RX0 158 Lib.MathLoose.min_long.x) (by decide +kernel)) (hts (.static Lib.MathLoose.min_long.x) (by decide +kernel)) (hts (.initialized "java/lang/Math") (by decide +kernel)) (hts (.code Lib.MathLoose.min_long.x Lib.MathLoose.min_long.code 4 (some .long)) (by decide +kernel)) (Nat.le_of_ble_eq_true rfl) (Nat.le_of_ble_eq_true rfl) (Nat.zero_le _) (Nat.zero_le _) dX0_greatestAngle_22 ?_
      refine lv_lstore (lv' := [(9, .long (if 5898240 < (an + ((1 : Int64) <<< ((nI n).toInt64 &&& 63))) then 5898240 else (an + ((1 : Int64) <<< ((nI n).toInt64 &&& 63))))), (0, .long p0), (2, .long p1), (4, .long p2), (6, .long an), (8, .int (nI n))]) hx hb dX0_greatestAngle_25 hl (by decide) rfl (fun ls hl => ?_)
      refine lv_lload hx hb dX0_greatestAngle_27 (lv_at hl 0 rfl) ?_
      refine pu_Sl (As := [.long (if 5898240 < (an + ((1 : Int64) <<< ((nI n).toInt64 &&& 63))) then 5898240 else (an + ((1 : Int64) <<< ((nI n).toInt64 &&& 63))))]) (rest := []) ⟨hx, hb, hml, hown, hts⟩ (cc_X0_sineOfFirstQuarter l H0 ((if 5898240 < (an + ((1 : Int64) <<< ((nI n).toInt64 &&& 63))) then 5898240 else (an + ((1 : Int64) <<< ((nI n).toInt64 &&& 63)))))) 1 gX0_greatestAngle_X0_sineOfFirstQuarter rfl rfl rfl hdS_X0_sineOfFirstQuarter ⟨Nat.le_of_ble_eq_true rfl, Nat.le_of_ble_eq_true rfl⟩ (kT_ok _) (hkat) rfl hl.1 rfl (Nat.le_of_ble_eq_true rfl) dX0_greatestAngle_29 ⟨Nat.zero_le _, Nat.zero_le _⟩ ?_
      refine lv_lstore (lv' := [(11, .long (f_X0_sineOfFirstQuarter ((if 5898240 < (an + ((1 : Int64) <<< ((nI n).toInt64 &&& 63))) then 5898240 else (an + ((1 : Int64) <<< ((nI n).toInt64 &&& 63))))))), (9, .long (if 5898240 < (an + ((1 : Int64) <<< ((nI n).toInt64 &&& 63))) then 5898240 else (an + ((1 : Int64) <<< ((nI n).toInt64 &&& 63))))), (0, .long p0), (2, .long p1), (4, .long p2), (6, .long an), (8, .int (nI n))]) hx hb dX0_greatestAngle_32 hl (by decide) rfl (fun ls hl => ?_)
      refine lv_ldc2 (v := 5898240) hx hb hown (hts (.constantLong RX0 133 (5898240)) (by decide +kernel)) dX0_greatestAngle_34 ?_
      refine lv_lload hx hb dX0_greatestAngle_37 (lv_at hl 1 rfl) ?_
      refine lv_lsub hx hb dX0_greatestAngle_39 ?_
      refine pu_Sl (As := [.long (5898240 - (if 5898240 < (an + ((1 : Int64) <<< ((nI n).toInt64 &&& 63))) then 5898240 else (an + ((1 : Int64) <<< ((nI n).toInt64 &&& 63)))))]) (rest := []) ⟨hx, hb, hml, hown, hts⟩ (cc_X0_sineOfFirstQuarter l H0 ((5898240 - (if 5898240 < (an + ((1 : Int64) <<< ((nI n).toInt64 &&& 63))) then 5898240 else (an + ((1 : Int64) <<< ((nI n).toInt64 &&& 63))))))) 1 gX0_greatestAngle_X0_sineOfFirstQuarter rfl rfl rfl hdS_X0_sineOfFirstQuarter ⟨Nat.le_of_ble_eq_true rfl, Nat.le_of_ble_eq_true rfl⟩ (kT_ok _) (hkat) rfl hl.1 rfl (Nat.le_of_ble_eq_true rfl) dX0_greatestAngle_40 ⟨Nat.zero_le _, Nat.zero_le _⟩ ?_
      refine lv_lstore (lv' := [(13, .long (f_X0_sineOfFirstQuarter ((5898240 - (if 5898240 < (an + ((1 : Int64) <<< ((nI n).toInt64 &&& 63))) then 5898240 else (an + ((1 : Int64) <<< ((nI n).toInt64 &&& 63)))))))), (11, .long (f_X0_sineOfFirstQuarter ((if 5898240 < (an + ((1 : Int64) <<< ((nI n).toInt64 &&& 63))) then 5898240 else (an + ((1 : Int64) <<< ((nI n).toInt64 &&& 63))))))), (9, .long (if 5898240 < (an + ((1 : Int64) <<< ((nI n).toInt64 &&& 63))) then 5898240 else (an + ((1 : Int64) <<< ((nI n).toInt64 &&& 63))))), (0, .long p0), (2, .long p1), (4, .long p2), (6, .long an), (8, .int (nI n))]) hx hb dX0_greatestAngle_43 hl (by decide) rfl (fun ls hl => ?_)
      refine lv_lload_n hx hb dX0_greatestAngle_45 rfl (lv_at hl 3 rfl) ?_
      refine lv_lload hx hb dX0_greatestAngle_46 (lv_at hl 1 rfl) ?_
      refine lv_lmul hx hb dX0_greatestAngle_48 ?_
      refine lv_lload_n hx hb dX0_greatestAngle_49 rfl (lv_at hl 4 rfl) ?_
      refine lv_lload hx hb dX0_greatestAngle_50 (lv_at hl 0 rfl) ?_
      refine lv_lmul hx hb dX0_greatestAngle_52 ?_
      refine lv_lsub hx hb dX0_greatestAngle_53 ?_
      refine lv_lload hx hb dX0_greatestAngle_54 (lv_at hl 5 rfl) ?_
      refine pl_gt (tgt := 64) hx hb dX0_greatestAngle_56 dX0_greatestAngle_57 (by decide) (fun c_3 => ?_) (fun c_3 => ?_)
      · skip
        refine lv_iinc (v := (nI n - 1)) (lv' := [(8, .int (nI n - 1)), (13, .long (f_X0_sineOfFirstQuarter ((5898240 - (if 5898240 < (an + ((1 : Int64) <<< ((nI n).toInt64 &&& 63))) then 5898240 else (an + ((1 : Int64) <<< ((nI n).toInt64 &&& 63)))))))), (11, .long (f_X0_sineOfFirstQuarter ((if 5898240 < (an + ((1 : Int64) <<< ((nI n).toInt64 &&& 63))) then 5898240 else (an + ((1 : Int64) <<< ((nI n).toInt64 &&& 63))))))), (9, .long (if 5898240 < (an + ((1 : Int64) <<< ((nI n).toInt64 &&& 63))) then 5898240 else (an + ((1 : Int64) <<< ((nI n).toInt64 &&& 63))))), (0, .long p0), (2, .long p1), (4, .long p2), (6, .long an)]) (k := 7) hx hb dX0_greatestAngle_64 hl rfl (by rw [Int32.sub_eq_add_neg]; rfl) (by decide) rfl (fun ls hl => ?_)
        refine lv_goto (tgt := 7) hx hb dX0_greatestAngle_67 (by decide) ?_
        exact ih (an) (by omega) (hF.trans (by rw [f_X0_greatestAngle_L7, if_pos c_3])) ls (lv_sub hl [4, 5, 6, 7, 0] rfl)
      · skip
        refine lv_lload hx hb dX0_greatestAngle_60 (lv_at hl 2 rfl) ?_
        refine lv_lstore (lv' := [(6, .long (if 5898240 < (an + ((1 : Int64) <<< ((nI n).toInt64 &&& 63))) then 5898240 else (an + ((1 : Int64) <<< ((nI n).toInt64 &&& 63))))), (13, .long (f_X0_sineOfFirstQuarter ((5898240 - (if 5898240 < (an + ((1 : Int64) <<< ((nI n).toInt64 &&& 63))) then 5898240 else (an + ((1 : Int64) <<< ((nI n).toInt64 &&& 63)))))))), (11, .long (f_X0_sineOfFirstQuarter ((if 5898240 < (an + ((1 : Int64) <<< ((nI n).toInt64 &&& 63))) then 5898240 else (an + ((1 : Int64) <<< ((nI n).toInt64 &&& 63))))))), (9, .long (if 5898240 < (an + ((1 : Int64) <<< ((nI n).toInt64 &&& 63))) then 5898240 else (an + ((1 : Int64) <<< ((nI n).toInt64 &&& 63))))), (0, .long p0), (2, .long p1), (4, .long p2), (8, .int (nI n))]) hx hb dX0_greatestAngle_62 hl (by decide) rfl (fun ls hl => ?_)
        refine lv_iinc (v := (nI n - 1)) (lv' := [(8, .int (nI n - 1)), (6, .long (if 5898240 < (an + ((1 : Int64) <<< ((nI n).toInt64 &&& 63))) then 5898240 else (an + ((1 : Int64) <<< ((nI n).toInt64 &&& 63))))), (13, .long (f_X0_sineOfFirstQuarter ((5898240 - (if 5898240 < (an + ((1 : Int64) <<< ((nI n).toInt64 &&& 63))) then 5898240 else (an + ((1 : Int64) <<< ((nI n).toInt64 &&& 63)))))))), (11, .long (f_X0_sineOfFirstQuarter ((if 5898240 < (an + ((1 : Int64) <<< ((nI n).toInt64 &&& 63))) then 5898240 else (an + ((1 : Int64) <<< ((nI n).toInt64 &&& 63))))))), (9, .long (if 5898240 < (an + ((1 : Int64) <<< ((nI n).toInt64 &&& 63))) then 5898240 else (an + ((1 : Int64) <<< ((nI n).toInt64 &&& 63))))), (0, .long p0), (2, .long p1), (4, .long p2)]) (k := 7) hx hb dX0_greatestAngle_64 hl rfl (by rw [Int32.sub_eq_add_neg]; rfl) (by decide) rfl (fun ls hl => ?_)
        refine lv_goto (tgt := 7) hx hb dX0_greatestAngle_67 (by decide) ?_
        exact ih ((if 5898240 < (an + ((1 : Int64) <<< ((nI n).toInt64 &&& 63))) then 5898240 else (an + ((1 : Int64) <<< ((nI n).toInt64 &&& 63))))) (by omega) (hF.trans (by rw [f_X0_greatestAngle_L7, if_neg c_3])) ls (lv_sub hl [5, 6, 7, 1, 0] rfl)
  refine lv_lconst (v := 0) hx hb dX0_greatestAngle_0 (by decide) ?_
  refine lv_lstore (lv' := [(6, .long 0), (0, .long p0), (2, .long p1), (4, .long p2)]) hx hb dX0_greatestAngle_1 hl (by decide) rfl (fun ls hl => ?_)
  refine lv_bipush (v := 22) hx hb dX0_greatestAngle_3 (by decide) ?_
  refine lv_istore (lv' := [(8, .int 22), (6, .long 0), (0, .long p0), (2, .long p1), (4, .long p2)]) hx hb dX0_greatestAngle_5 hl (by decide) rfl (fun ls hl => ?_)
  exact hL7 (23) (0) (by omega) (by rw [f_X0_greatestAngle]) ls (lv_sub hl [2, 3, 4, 1, 0] rfl)
theorem hdS_X0_angleOfFirstQuarter : yX0_angleOfFirstQuarter.cls ≠ "java/lang/invoke/MethodHandle" ∧ yX0_angleOfFirstQuarter.cls ≠ "java/lang/invoke/VarHandle" ∧ (parseMethodDescriptor yX0_angleOfFirstQuarter.desc).map (fun d => d.parameters.length) = some 2 := by decide +kernel
def f_X0_angleOfFirstQuarter (p0 : Int64) (p1 : Int64) : Int64 := if p1 = 0 then (0) else (if p0 = 0 then (5898240) else (((((f_X0_greatestAngle (p0) (p1) ((-1))) + 1) + (f_X0_greatestAngle (p0) (p1) (0))) / 2)))
abbrev rm_X0_angleOfFirstQuarter : Room := { frames := 3, cells := 0, slots := 0, locals := 127 }
set_option maxHeartbeats 4000000 in
set_option maxRecDepth 100000 in
theorem cc_X0_angleOfFirstQuarter (l : Launch) (H0 : Heap) (p0 : Int64) (p1 : Int64)   : Met l yX0_angleOfFirstQuarter wsX0_angleOfFirstQuarter rm_X0_angleOfFirstQuarter (pPc [.long p0, .long p1] H0 (kT "FixedPlane")) (pQl H0 (f_X0_angleOfFirstQuarter p0 p1)) 0 0 (fun _ => False) := by
  refine pu_head (cc := cX0_angleOfFirstQuarter) (maxL := 8) (ret := some .long) (by decide +kernel) rfl (Nat.le_of_ble_eq_true rfl) ?_
  intro p e s m below meth c ls hx hb hr hlocks hml hown hts hs hk hl
  have hown : s.vm.findClass RX0 = some m.cls := hown
  have hl : lv_has ls 8 [(0, .long p0), (2, .long p1)] := hl
  have hkat : ∀ U : State, U.heap = H0 → s.WarmedH U.vm → kT "FixedPlane" U := by rw [← hs]; exact kT_at hk
  refine lv_lload_n hx hb dX0_angleOfFirstQuarter_0 rfl (lv_at hl 1 rfl) ?_
  refine lv_lconst (v := 0) hx hb dX0_angleOfFirstQuarter_1 (by decide) ?_
  refine pl_ne (tgt := 8) hx hb dX0_angleOfFirstQuarter_2 dX0_angleOfFirstQuarter_3 (by decide) (fun c_1 => ?_) (fun c_1 => ?_)
  · skip
    refine lv_lload_n hx hb dX0_angleOfFirstQuarter_8 rfl (lv_at hl 0 rfl) ?_
    refine lv_lconst (v := 0) hx hb dX0_angleOfFirstQuarter_9 (by decide) ?_
    refine pl_ne (tgt := 18) hx hb dX0_angleOfFirstQuarter_10 dX0_angleOfFirstQuarter_11 (by decide) (fun c_2 => ?_) (fun c_2 => ?_)
    · skip
      refine lv_lload_n hx hb dX0_angleOfFirstQuarter_18 rfl (lv_at hl 0 rfl) ?_
      refine lv_lload_n hx hb dX0_angleOfFirstQuarter_19 rfl (lv_at hl 1 rfl) ?_
      refine lv_ldc2 (v := (-1)) hx hb hown (hts (.constantLong RX0 171 (-1)) (by decide +kernel)) dX0_angleOfFirstQuarter_20 ?_
      refine pu_Sl (As := [.long p0, .long p1, .long (-1)]) (rest := []) ⟨hx, hb, hml, hown, hts⟩ (cc_X0_greatestAngle l H0 (p0) (p1) ((-1))) 3 gX0_angleOfFirstQuarter_X0_greatestAngle rfl rfl rfl hdS_X0_greatestAngle ⟨Nat.le_of_ble_eq_true rfl, Nat.le_of_ble_eq_true rfl⟩ (kT_ok _) (hkat) rfl hl.1 rfl (Nat.le_of_ble_eq_true rfl) dX0_angleOfFirstQuarter_23 ⟨Nat.zero_le _, Nat.zero_le _⟩ ?_
      refine lv_lconst (v := 1) hx hb dX0_angleOfFirstQuarter_26 (by decide) ?_
      refine lv_ladd hx hb dX0_angleOfFirstQuarter_27 ?_
      refine lv_lstore (lv' := [(4, .long ((f_X0_greatestAngle (p0) (p1) ((-1))) + 1)), (0, .long p0), (2, .long p1)]) hx hb dX0_angleOfFirstQuarter_28 hl (by decide) rfl (fun ls hl => ?_)
      refine lv_lload_n hx hb dX0_angleOfFirstQuarter_30 rfl (lv_at hl 1 rfl) ?_
      refine lv_lload_n hx hb dX0_angleOfFirstQuarter_31 rfl (lv_at hl 2 rfl) ?_
      refine lv_lconst (v := 0) hx hb dX0_angleOfFirstQuarter_32 (by decide) ?_
      refine pu_Sl (As := [.long p0, .long p1, .long 0]) (rest := []) ⟨hx, hb, hml, hown, hts⟩ (cc_X0_greatestAngle l H0 (p0) (p1) (0)) 3 gX0_angleOfFirstQuarter_X0_greatestAngle rfl rfl rfl hdS_X0_greatestAngle ⟨Nat.le_of_ble_eq_true rfl, Nat.le_of_ble_eq_true rfl⟩ (kT_ok _) (hkat) rfl hl.1 rfl (Nat.le_of_ble_eq_true rfl) dX0_angleOfFirstQuarter_33 ⟨Nat.zero_le _, Nat.zero_le _⟩ ?_
      refine lv_lstore (lv' := [(6, .long (f_X0_greatestAngle (p0) (p1) (0))), (4, .long ((f_X0_greatestAngle (p0) (p1) ((-1))) + 1)), (0, .long p0), (2, .long p1)]) hx hb dX0_angleOfFirstQuarter_36 hl (by decide) rfl (fun ls hl => ?_)
      refine lv_lload hx hb dX0_angleOfFirstQuarter_38 (lv_at hl 1 rfl) ?_
      refine lv_lload hx hb dX0_angleOfFirstQuarter_40 (lv_at hl 0 rfl) ?_
      refine lv_ladd hx hb dX0_angleOfFirstQuarter_42 ?_
      refine lv_ldc2 (v := 2) hx hb hown (hts (.constantLong RX0 152 (2)) (by decide +kernel)) dX0_angleOfFirstQuarter_43 ?_
      refine lv_ldiv hx hb dX0_angleOfFirstQuarter_46 (by decide) ?_
      exact pu_lret hx hb hr hlocks hs dX0_angleOfFirstQuarter_47 (by rw [f_X0_angleOfFirstQuarter, if_neg c_1, if_neg c_2])
    · skip
      refine lv_ldc2 (v := 5898240) hx hb hown (hts (.constantLong RX0 133 (5898240)) (by decide +kernel)) dX0_angleOfFirstQuarter_14 ?_
      exact pu_lret hx hb hr hlocks hs dX0_angleOfFirstQuarter_17 (by rw [f_X0_angleOfFirstQuarter, if_neg c_1, if_pos c_2])
  · skip
    refine lv_lconst (v := 0) hx hb dX0_angleOfFirstQuarter_6 (by decide) ?_
    exact pu_lret hx hb hr hlocks hs dX0_angleOfFirstQuarter_7 (by rw [f_X0_angleOfFirstQuarter, if_pos c_1])
theorem hdS_X0_angle : yX0_angle.cls ≠ "java/lang/invoke/MethodHandle" ∧ yX0_angle.cls ≠ "java/lang/invoke/VarHandle" ∧ (parseMethodDescriptor yX0_angle.desc).map (fun d => d.parameters.length) = some 2 := by decide +kernel
def f_X0_angle (p0 : Int64) (p1 : Int64) : Int64 := if p0 < 0 then (if p1 < 0 then (if (11796480 - (f_X0_angleOfFirstQuarter ((if 0 < p0 then p0 else -p0)) ((if 0 < p1 then p1 else -p1)))) = 0 then ((11796480 - (f_X0_angleOfFirstQuarter ((if 0 < p0 then p0 else -p0)) ((if 0 < p1 then p1 else -p1))))) else ((23592960 - (11796480 - (f_X0_angleOfFirstQuarter ((if 0 < p0 then p0 else -p0)) ((if 0 < p1 then p1 else -p1))))))) else ((11796480 - (f_X0_angleOfFirstQuarter ((if 0 < p0 then p0 else -p0)) ((if 0 < p1 then p1 else -p1)))))) else (if p1 < 0 then (if (f_X0_angleOfFirstQuarter ((if 0 < p0 then p0 else -p0)) ((if 0 < p1 then p1 else -p1))) = 0 then ((f_X0_angleOfFirstQuarter ((if 0 < p0 then p0 else -p0)) ((if 0 < p1 then p1 else -p1)))) else ((23592960 - (f_X0_angleOfFirstQuarter ((if 0 < p0 then p0 else -p0)) ((if 0 < p1 then p1 else -p1)))))) else ((f_X0_angleOfFirstQuarter ((if 0 < p0 then p0 else -p0)) ((if 0 < p1 then p1 else -p1)))))
abbrev rm_X0_angle : Room := { frames := 4, cells := 0, slots := 0, locals := 170 }
set_option maxHeartbeats 4000000 in
set_option maxRecDepth 100000 in
theorem cc_X0_angle (l : Launch) (H0 : Heap) (p0 : Int64) (p1 : Int64)   : Met l yX0_angle wsX0_angle rm_X0_angle (pPc [.long p0, .long p1] H0 (kT "FixedPlane")) (pQl H0 (f_X0_angle p0 p1)) 0 0 (fun _ => False) := by
  refine pu_head (cc := cX0_angle) (maxL := 8) (ret := some .long) (by decide +kernel) rfl (Nat.le_of_ble_eq_true rfl) ?_
  intro p e s m below meth c ls hx hb hr hlocks hml hown hts hs hk hl
  have hown : s.vm.findClass RX0 = some m.cls := hown
  have hl : lv_has ls 8 [(0, .long p0), (2, .long p1)] := hl
  have hkat : ∀ U : State, U.heap = H0 → s.WarmedH U.vm → kT "FixedPlane" U := by rw [← hs]; exact kT_at hk
  refine lv_lload_n hx hb dX0_angle_0 rfl (lv_at hl 0 rfl) ?_
  refine va_mabs_long (own := RX0) hx hb (hml.trans hl.1.symm) hown (hts (.methodLink RX0 118 Lib.MathLoose.abs_long.x) (by decide +kernel)) (hts (.static Lib.MathLoose.abs_long.x) (by decide +kernel)) (hts (.initialized "java/lang/Math") (by decide +kernel)) (hts (.code Lib.MathLoose.abs_long.x Lib.MathLoose.abs_long.code 2 (some .long)) (by decide +kernel)) (Nat.le_of_ble_eq_true rfl) (Nat.le_of_ble_eq_true rfl) (Nat.zero_le _) (Nat.zero_le _) dX0_angle_1 ?_
  refine lv_lload_n hx hb dX0_angle_4 rfl (lv_at hl 1 rfl) ?_
  refine va_mabs_long (own := RX0) hx hb (hml.trans hl.1.symm) hown (hts (.methodLink RX0 118 Lib.MathLoose.abs_long.x) (by decide +kernel)) (hts (.static Lib.MathLoose.abs_long.x) (by decide +kernel)) (hts (.initialized "java/lang/Math") (by decide +kernel)) (hts (.code Lib.MathLoose.abs_long.x Lib.MathLoose.abs_long.code 2 (some .long)) (by decide +kernel)) (Nat.le_of_ble_eq_true rfl) (Nat.le_of_ble_eq_true rfl) (Nat.zero_le _) (Nat.zero_le _) dX0_angle_5 ?_
  refine pu_Sl (As := [.long (if 0 < p0 then p0 else -p0), .long (if 0 < p1 then p1 else -p1)]) (rest := []) ⟨hx, hb, hml, hown, hts⟩ (cc_X0_angleOfFirstQuarter l H0 ((if 0 < p0 then p0 else -p0)) ((if 0 < p1 then p1 else -p1))) 2 gX0_angle_X0_angleOfFirstQuarter rfl rfl rfl hdS_X0_angleOfFirstQuarter ⟨Nat.le_of_ble_eq_true rfl, Nat.le_of_ble_eq_true rfl⟩ (kT_ok _) (hkat) rfl hl.1 rfl (Nat.le_of_ble_eq_true rfl) dX0_angle_8 ⟨Nat.zero_le _, Nat.zero_le _⟩ ?_
  refine lv_lstore (lv' := [(4, .long (f_X0_angleOfFirstQuarter ((if 0 < p0 then p0 else -p0)) ((if 0 < p1 then p1 else -p1)))), (0, .long p0), (2, .long p1)]) hx hb dX0_angle_11 hl (by decide) rfl (fun ls hl => ?_)
  refine lv_lload_n hx hb dX0_angle_13 rfl (lv_at hl 1 rfl) ?_
  refine lv_lconst (v := 0) hx hb dX0_angle_14 (by decide) ?_
  refine pl_ge (tgt := 28) hx hb dX0_angle_15 dX0_angle_16 (by decide) (fun c_1 => ?_) (fun c_1 => ?_)
  · skip
    refine lv_lload hx hb dX0_angle_28 (lv_at hl 0 rfl) ?_
    refine lv_lstore (lv' := [(6, .long (f_X0_angleOfFirstQuarter ((if 0 < p0 then p0 else -p0)) ((if 0 < p1 then p1 else -p1)))), (4, .long (f_X0_angleOfFirstQuarter ((if 0 < p0 then p0 else -p0)) ((if 0 < p1 then p1 else -p1)))), (0, .long p0), (2, .long p1)]) hx hb dX0_angle_30 hl (by decide) rfl (fun ls hl => ?_)
    refine lv_lload_n hx hb dX0_angle_32 rfl (lv_at hl 3 rfl) ?_
    refine lv_lconst (v := 0) hx hb dX0_angle_33 (by decide) ?_
    refine pl_ge (tgt := 54) hx hb dX0_angle_34 dX0_angle_35 (by decide) (fun c_2 => ?_) (fun c_2 => ?_)
    · skip
      refine lv_lload hx hb dX0_angle_54 (lv_at hl 0 rfl) ?_
      exact pu_lret hx hb hr hlocks hs dX0_angle_56 (by rw [f_X0_angle, if_neg c_1, if_neg c_2])
    · skip
      refine lv_lload hx hb dX0_angle_38 (lv_at hl 0 rfl) ?_
      refine lv_lconst (v := 0) hx hb dX0_angle_40 (by decide) ?_
      refine pl_eq (tgt := 54) hx hb dX0_angle_41 dX0_angle_42 (by decide) (fun c_3 => ?_) (fun c_3 => ?_)
      · skip
        refine lv_lload hx hb dX0_angle_54 (lv_at hl 0 rfl) ?_
        exact pu_lret hx hb hr hlocks hs dX0_angle_56 (by rw [f_X0_angle, if_neg c_1, if_pos c_2, if_pos c_3])
      · skip
        refine lv_ldc2 (v := 23592960) hx hb hown (hts (.constantLong RX0 154 (23592960)) (by decide +kernel)) dX0_angle_45 ?_
        refine lv_lload hx hb dX0_angle_48 (lv_at hl 0 rfl) ?_
        refine lv_lsub hx hb dX0_angle_50 ?_
        refine lv_goto (tgt := 56) hx hb dX0_angle_51 (by decide) ?_
        exact pu_lret hx hb hr hlocks hs dX0_angle_56 (by rw [f_X0_angle, if_neg c_1, if_pos c_2, if_neg c_3])
  · skip
    refine lv_ldc2 (v := 11796480) hx hb hown (hts (.constantLong RX0 156 (11796480)) (by decide +kernel)) dX0_angle_19 ?_
    refine lv_lload hx hb dX0_angle_22 (lv_at hl 0 rfl) ?_
    refine lv_lsub hx hb dX0_angle_24 ?_
    refine lv_goto (tgt := 30) hx hb dX0_angle_25 (by decide) ?_
    refine lv_lstore (lv' := [(6, .long (11796480 - (f_X0_angleOfFirstQuarter ((if 0 < p0 then p0 else -p0)) ((if 0 < p1 then p1 else -p1))))), (4, .long (f_X0_angleOfFirstQuarter ((if 0 < p0 then p0 else -p0)) ((if 0 < p1 then p1 else -p1)))), (0, .long p0), (2, .long p1)]) hx hb dX0_angle_30 hl (by decide) rfl (fun ls hl => ?_)
    refine lv_lload_n hx hb dX0_angle_32 rfl (lv_at hl 3 rfl) ?_
    refine lv_lconst (v := 0) hx hb dX0_angle_33 (by decide) ?_
    refine pl_ge (tgt := 54) hx hb dX0_angle_34 dX0_angle_35 (by decide) (fun c_4 => ?_) (fun c_4 => ?_)
    · skip
      refine lv_lload hx hb dX0_angle_54 (lv_at hl 0 rfl) ?_
      exact pu_lret hx hb hr hlocks hs dX0_angle_56 (by rw [f_X0_angle, if_pos c_1, if_neg c_4])
    · skip
      refine lv_lload hx hb dX0_angle_38 (lv_at hl 0 rfl) ?_
      refine lv_lconst (v := 0) hx hb dX0_angle_40 (by decide) ?_
      refine pl_eq (tgt := 54) hx hb dX0_angle_41 dX0_angle_42 (by decide) (fun c_5 => ?_) (fun c_5 => ?_)
      · skip
        refine lv_lload hx hb dX0_angle_54 (lv_at hl 0 rfl) ?_
        exact pu_lret hx hb hr hlocks hs dX0_angle_56 (by rw [f_X0_angle, if_pos c_1, if_pos c_4, if_pos c_5])
      · skip
        refine lv_ldc2 (v := 23592960) hx hb hown (hts (.constantLong RX0 154 (23592960)) (by decide +kernel)) dX0_angle_45 ?_
        refine lv_lload hx hb dX0_angle_48 (lv_at hl 0 rfl) ?_
        refine lv_lsub hx hb dX0_angle_50 ?_
        refine lv_goto (tgt := 56) hx hb dX0_angle_51 (by decide) ?_
        exact pu_lret hx hb hr hlocks hs dX0_angle_56 (by rw [f_X0_angle, if_pos c_1, if_pos c_4, if_neg c_5])
