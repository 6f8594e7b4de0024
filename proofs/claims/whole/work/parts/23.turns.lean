/-! One turn of the loop, case by case. -/
abbrev lwX (rk rn : Int32) (en : Nat → Int32) (mx my : Int32) : XS := (rk, rn, en 0, en 1, en 2, en 3, en 4, en 5, mx, my)
abbrev lwM (rk rn : Int32) (en : Nat → Int32) (nx : Nat → Int64) (mx my vb : Int32) : MS := (rk, rn, en, nx, mx, my, vb)
abbrev lwS (hx m0 m1 m2 : Nat) (cI cL : ClassId) (rk rn : Int32) (en : Nat → Int32) (nx : Nat → Int64) (mx my vb : Int32) : va_W := xW hx (lwX rk rn en mx my) ++ mW m0 m1 m2 cI cL (lwM rk rn en nx mx my vb)
def lwK (p : Program) (l : Launch) (e : Env) (s : State) (m : MethodId) (below : List Frame) (meth : Method) (c : Code) (dC : Nat → ClassId) (dI : Nat → Nat → Nat) (b hx m0 m1 m2 : Nat) (cI cL : ClassId) (pc : Nat) (ls : Array Slot) : Prop :=
  ∀ (rk rn mx my vb : Int32) (en : Nat → Int32) (nx : Nat → Int64), okE en → ∀ (H : Heap) (locs : List Loc), va_P (dC, dI) vwCl (lwS hx m0 m1 m2 cI cL rk rn en nx mx my vb) H → va_D (fun q : Nat => s.heap.size ≤ q) (lwS hx m0 m1 m2 cI cL rk rn en nx mx my vb) → va_S (fun q : Nat => s.heap.size ≤ q) s.heap H locs → W p l e room_1 s m #[Value.ref b] below meth c H locs 4 29 (lw_Z below #[Value.ref b] s) (F0 m pc ls [])
theorem lw_ix {i L k : Nat} (hi : i + 7 ≤ L) (hL : L ≤ 3584) (hk : k < 7) : vp_in (nI i + nI k) L := by
  rw [nI_add]
  exact vp_in_nI (by omega) (by omega)
theorem lw_end {i L : Nat} (hi : i ≤ L) (hL : L ≤ 3584) (h : ¬ (Int32.ofNat L - 7) < nI i) : i + 7 ≤ L := by
  have h1 : (Int32.ofNat L).toInt = (L : Int) := nI_toInt (n := L) (by omega)
  have h2 : (nI i).toInt = (i : Int) := nI_toInt (by omega)
  have h7 : (7 : Int32).toInt = 7 := by decide
  have h3 : (Int32.ofNat L - 7).toInt = (L : Int) - 7 := by rw [tSI (by omega) (by omega), h1, h7]
  rw [ltI, h3, h2] at h
  omega
set_option maxHeartbeats 4000000 in
set_option maxRecDepth 100000 in
theorem lc_two {p : Program} {e : Env} {s : State} {m : MethodId} {below : List Frame} {meth : Method} {c : Code} {dC : Nat → ClassId} {dI : Nat → Nat → Nat} {b L : Nat} {xs : Nat → Int32} {hx m0 m1 m2 : Nat} {cI cL : ClassId} (l : Launch) (hL : L ≤ 3584) (C0 : lw_At p s m meth c b L xs) (hK : va_K (dC, dI) vwCl (mT cI cL) s) (hT0 : tbS "FixedPlane" (fun q => s.heap.size ≤ q) s s.heap) (hT1 : tbS "FixedPlaneModel" (fun q => s.heap.size ≤ q) s s.heap) {i : Nat} (hi : i + 7 ≤ L) {rk rn mx my vb : Int32} {en : Nat → Int32} {nx : Nat → Int64} (hok : okE en) {H : Heap} {locs : List Loc} (hP : va_P (dC, dI) vwCl (lwS hx m0 m1 m2 cI cL rk rn en nx mx my vb) H) (hD : va_D (fun q : Nat => s.heap.size ≤ q) (lwS hx m0 m1 m2 cI cL rk rn en nx mx my vb)) (hS : va_S (fun q : Nat => s.heap.size ≤ q) s.heap H locs) {ls : Array Slot} (hl : lv_has ls 4 [(0, .ref b), (1, .ref hx), (2, .ref m0), (3, .int (nI i))]) (kk : lwK p l e s m below meth c dC dI b hx m0 m1 m2 cI cL 545 ls) : W p l e room_1 s m #[Value.ref b] below meth c H locs 4 29 (lw_Z below #[Value.ref b] s) (F0 m 92 ls []) := by
  obtain ⟨hx9, hb, hr, hml, hown, hts, hX, hbl, hlocks, hgv⟩ := C0
  have hA : ∀ q : Nat, s.heap.size ≤ q → (fun q : Nat => s.heap.size ≤ q) q := fun _ h => h
  have hbA : ¬ (fun q : Nat => s.heap.size ≤ q) b := Nat.not_le.mpr hbl
  have hb : c.code = cL_law := hb
  have hown : s.vm.findClass RL = some m.cls := hown
  have htl : ∀ w ∈ wsL_law, w.before #[Value.ref b] s = true := fun w h => hts w (wsL_law_in w h)
  refine lv_aload_n hx9 hb dL_law_92 rfl (lv_at hl 1 rfl) ?_
  refine lv_aload_n hx9 hb dL_law_93 rfl (lv_at hl 0 rfl) ?_
  refine lv_iload_n hx9 hb dL_law_94 rfl (lv_at hl 3 rfl) ?_
  refine lv_iconst (v := 1) hx9 hb dL_law_95 (by decide) ?_
  refine lv_iadd hx9 hb dL_law_96 ?_
  refine va_sld hx9 hb hX hbl hbA hS (lw_ix (k := 1) hi hL (by decide)) dL_law_97 ?_
  refine lv_aload_n hx9 hb dL_law_98 rfl (lv_at hl 0 rfl) ?_
  refine lv_iload_n hx9 hb dL_law_99 rfl (lv_at hl 3 rfl) ?_
  refine lv_iconst (v := 2) hx9 hb dL_law_100 (by decide) ?_
  refine lv_iadd hx9 hb dL_law_101 ?_
  refine va_sld hx9 hb hX hbl hbA hS (lw_ix (k := 2) hi hL (by decide)) dL_law_102 ?_
  refine lv_aload_n hx9 hb dL_law_103 rfl (lv_at hl 0 rfl) ?_
  refine lv_iload_n hx9 hb dL_law_104 rfl (lv_at hl 3 rfl) ?_
  refine lv_iconst (v := 3) hx9 hb dL_law_105 (by decide) ?_
  refine lv_iadd hx9 hb dL_law_106 ?_
  refine va_sld hx9 hb hX hbl hbA hS (lw_ix (k := 3) hi hL (by decide)) dL_law_107 ?_
  refine lv_aload_n hx9 hb dL_law_108 rfl (lv_at hl 0 rfl) ?_
  refine lv_iload_n hx9 hb dL_law_109 rfl (lv_at hl 3 rfl) ?_
  refine lv_iconst (v := 4) hx9 hb dL_law_110 (by decide) ?_
  refine lv_iadd hx9 hb dL_law_111 ?_
  refine va_sld hx9 hb hX hbl hbA hS (lw_ix (k := 4) hi hL (by decide)) dL_law_112 ?_
  refine lv_aload_n hx9 hb dL_law_113 rfl (lv_at hl 0 rfl) ?_
  refine lv_iload_n hx9 hb dL_law_114 rfl (lv_at hl 3 rfl) ?_
  refine lv_iconst (v := 5) hx9 hb dL_law_115 (by decide) ?_
  refine lv_iadd hx9 hb dL_law_116 ?_
  refine va_sld hx9 hb hX hbl hbA hS (lw_ix (k := 5) hi hL (by decide)) dL_law_117 ?_
  have cX : Met l yX0_two wsX0_two rm_X0_two (va_Pc (.ref hx :: [.int (xs (nI i + 1).toNatClampNeg), .int (xs (nI i + 2).toNatClampNeg), .int (xs (nI i + 3).toNatClampNeg), .int (xs (nI i + 4).toNatClampNeg), .int (xs (nI i + 5).toNatClampNeg)]) (xPre dC dI hx H.size (lwX (rk) (rn) (en) (mx) (my)))) (xQi dC dI hx (va_A (xW hx (lwX (rk) (rn) (en) (mx) (my))) H.size) ((f_X1_two rk rn vb (xs (nI i + 1).toNatClampNeg) (xs (nI i + 2).toNatClampNeg) (xs (nI i + 3).toNatClampNeg) (xs (nI i + 4).toNatClampNeg) (xs (nI i + 5).toNatClampNeg)).1) (lwX ((f_X1_two rk rn vb (xs (nI i + 1).toNatClampNeg) (xs (nI i + 2).toNatClampNeg) (xs (nI i + 3).toNatClampNeg) (xs (nI i + 4).toNatClampNeg) (xs (nI i + 5).toNatClampNeg)).2.1) ((f_X1_two rk rn vb (xs (nI i + 1).toNatClampNeg) (xs (nI i + 2).toNatClampNeg) (xs (nI i + 3).toNatClampNeg) (xs (nI i + 4).toNatClampNeg) (xs (nI i + 5).toNatClampNeg)).2.2.1) (en) (mx) (my))) 0 0 (va_A (xW hx (lwX (rk) (rn) (en) (mx) (my))) H.size) := by
    have q := cc_X0_two l dC dI hx H.size rk rn (en 0) (en 1) (en 2) (en 3) (en 4) (en 5) mx my (xs (nI i + 1).toNatClampNeg) (xs (nI i + 2).toNatClampNeg) (xs (nI i + 3).toNatClampNeg) (xs (nI i + 4).toNatClampNeg) (xs (nI i + 5).toNatClampNeg)
    rw [e_two rk rn vb (xs (nI i + 1).toNatClampNeg) (xs (nI i + 2).toNatClampNeg) (xs (nI i + 3).toNatClampNeg) (xs (nI i + 4).toNatClampNeg) (xs (nI i + 5).toNatClampNeg)] at q
    exact q
  refine xg_i (As := [.int (xs (nI i + 1).toNatClampNeg), .int (xs (nI i + 2).toNatClampNeg), .int (xs (nI i + 3).toNatClampNeg), .int (xs (nI i + 4).toNatClampNeg), .int (xs (nI i + 5).toNatClampNeg)]) (rest := []) (wr := mW m0 m1 m2 cI cL (lwM (rk) (rn) (en) (nx) (mx) (my) (vb))) ⟨hx9, hb, hml, hown, htl⟩ cX 5 gL_law_X0_two rfl rfl rfl hdV_X0_two ⟨Nat.le_of_ble_eq_true rfl, Nat.le_of_ble_eq_true rfl⟩ hP hD (hK.sub (tys' := []) [] rfl) hS hA hT0 [0] [1, 2, 3] rfl rfl rfl rfl rfl (by decide) rfl hl.1 rfl (Nat.le_of_ble_eq_true rfl) dL_law_118 ⟨Nat.le_of_ble_eq_true rfl, Nat.le_of_ble_eq_true rfl⟩ (fun H locs hP hD hS => ?_)
  refine lv_aload_n hx9 hb dL_law_121 rfl (lv_at hl 2 rfl) ?_
  refine lv_aload_n hx9 hb dL_law_122 rfl (lv_at hl 0 rfl) ?_
  refine lv_iload_n hx9 hb dL_law_123 rfl (lv_at hl 3 rfl) ?_
  refine lv_iconst (v := 1) hx9 hb dL_law_124 (by decide) ?_
  refine lv_iadd hx9 hb dL_law_125 ?_
  refine va_sld hx9 hb hX hbl hbA hS (lw_ix (k := 1) hi hL (by decide)) dL_law_126 ?_
  refine lv_aload_n hx9 hb dL_law_127 rfl (lv_at hl 0 rfl) ?_
  refine lv_iload_n hx9 hb dL_law_128 rfl (lv_at hl 3 rfl) ?_
  refine lv_iconst (v := 2) hx9 hb dL_law_129 (by decide) ?_
  refine lv_iadd hx9 hb dL_law_130 ?_
  refine va_sld hx9 hb hX hbl hbA hS (lw_ix (k := 2) hi hL (by decide)) dL_law_131 ?_
  refine lv_aload_n hx9 hb dL_law_132 rfl (lv_at hl 0 rfl) ?_
  refine lv_iload_n hx9 hb dL_law_133 rfl (lv_at hl 3 rfl) ?_
  refine lv_iconst (v := 3) hx9 hb dL_law_134 (by decide) ?_
  refine lv_iadd hx9 hb dL_law_135 ?_
  refine va_sld hx9 hb hX hbl hbA hS (lw_ix (k := 3) hi hL (by decide)) dL_law_136 ?_
  refine lv_aload_n hx9 hb dL_law_137 rfl (lv_at hl 0 rfl) ?_
  refine lv_iload_n hx9 hb dL_law_138 rfl (lv_at hl 3 rfl) ?_
  refine lv_iconst (v := 4) hx9 hb dL_law_139 (by decide) ?_
  refine lv_iadd hx9 hb dL_law_140 ?_
  refine va_sld hx9 hb hX hbl hbA hS (lw_ix (k := 4) hi hL (by decide)) dL_law_141 ?_
  refine lv_aload_n hx9 hb dL_law_142 rfl (lv_at hl 0 rfl) ?_
  refine lv_iload_n hx9 hb dL_law_143 rfl (lv_at hl 3 rfl) ?_
  refine lv_iconst (v := 5) hx9 hb dL_law_144 (by decide) ?_
  refine lv_iadd hx9 hb dL_law_145 ?_
  refine va_sld hx9 hb hX hbl hbA hS (lw_ix (k := 5) hi hL (by decide)) dL_law_146 ?_
  have cM : Met l yX1_two wsX1_two rm_X1_two (va_Pc (.ref m0 :: [.int (xs (nI i + 1).toNatClampNeg), .int (xs (nI i + 2).toNatClampNeg), .int (xs (nI i + 3).toNatClampNeg), .int (xs (nI i + 4).toNatClampNeg), .int (xs (nI i + 5).toNatClampNeg)]) (mPre dC dI m0 m1 m2 cI cL H.size (lwM (rk) (rn) (en) (nx) (mx) (my) (vb)))) (mQi dC dI m0 m1 m2 cI cL (va_A (mW m0 m1 m2 cI cL (lwM (rk) (rn) (en) (nx) (mx) (my) (vb))) H.size) ((f_X1_two rk rn vb (xs (nI i + 1).toNatClampNeg) (xs (nI i + 2).toNatClampNeg) (xs (nI i + 3).toNatClampNeg) (xs (nI i + 4).toNatClampNeg) (xs (nI i + 5).toNatClampNeg)).1) (lwM ((f_X1_two rk rn vb (xs (nI i + 1).toNatClampNeg) (xs (nI i + 2).toNatClampNeg) (xs (nI i + 3).toNatClampNeg) (xs (nI i + 4).toNatClampNeg) (xs (nI i + 5).toNatClampNeg)).2.1) ((f_X1_two rk rn vb (xs (nI i + 1).toNatClampNeg) (xs (nI i + 2).toNatClampNeg) (xs (nI i + 3).toNatClampNeg) (xs (nI i + 4).toNatClampNeg) (xs (nI i + 5).toNatClampNeg)).2.2.1) (en) (nx) (mx) (my) ((f_X1_two rk rn vb (xs (nI i + 1).toNatClampNeg) (xs (nI i + 2).toNatClampNeg) (xs (nI i + 3).toNatClampNeg) (xs (nI i + 4).toNatClampNeg) (xs (nI i + 5).toNatClampNeg)).2.2.2))) 0 0 (va_A (mW m0 m1 m2 cI cL (lwM (rk) (rn) (en) (nx) (mx) (my) (vb))) H.size) := cc_X1_two l dC dI m0 m1 m2 cI cL H.size rk rn en nx mx my vb (xs (nI i + 1).toNatClampNeg) (xs (nI i + 2).toNatClampNeg) (xs (nI i + 3).toNatClampNeg) (xs (nI i + 4).toNatClampNeg) (xs (nI i + 5).toNatClampNeg)
  refine mg_i (As := [.int (xs (nI i + 1).toNatClampNeg), .int (xs (nI i + 2).toNatClampNeg), .int (xs (nI i + 3).toNatClampNeg), .int (xs (nI i + 4).toNatClampNeg), .int (xs (nI i + 5).toNatClampNeg)]) (rest := [.int ((f_X1_two rk rn vb (xs (nI i + 1).toNatClampNeg) (xs (nI i + 2).toNatClampNeg) (xs (nI i + 3).toNatClampNeg) (xs (nI i + 4).toNatClampNeg) (xs (nI i + 5).toNatClampNeg)).1)]) (wr := xW hx (lwX ((f_X1_two rk rn vb (xs (nI i + 1).toNatClampNeg) (xs (nI i + 2).toNatClampNeg) (xs (nI i + 3).toNatClampNeg) (xs (nI i + 4).toNatClampNeg) (xs (nI i + 5).toNatClampNeg)).2.1) ((f_X1_two rk rn vb (xs (nI i + 1).toNatClampNeg) (xs (nI i + 2).toNatClampNeg) (xs (nI i + 3).toNatClampNeg) (xs (nI i + 4).toNatClampNeg) (xs (nI i + 5).toNatClampNeg)).2.2.1) (en) (mx) (my))) ⟨hx9, hb, hml, hown, htl⟩ cM 5 gL_law_X1_two rfl rfl rfl hdV_X1_two ⟨Nat.le_of_ble_eq_true rfl, Nat.le_of_ble_eq_true rfl⟩ hP hD hK hS hA hT1 [0, 1, 2] [3] rfl rfl rfl rfl rfl (by decide) rfl hl.1 rfl (Nat.le_of_ble_eq_true rfl) dL_law_147 ⟨Nat.le_of_ble_eq_true rfl, Nat.le_of_ble_eq_true rfl⟩ (fun H locs hP hD hS => ?_)
  refine lv_icmp_eq (tgt := 545) hx9 hb dL_law_150 (by decide) (fun _ => ?_) (fun h => absurd rfl h)
  exact kk ((f_X1_two rk rn vb (xs (nI i + 1).toNatClampNeg) (xs (nI i + 2).toNatClampNeg) (xs (nI i + 3).toNatClampNeg) (xs (nI i + 4).toNatClampNeg) (xs (nI i + 5).toNatClampNeg)).2.1) ((f_X1_two rk rn vb (xs (nI i + 1).toNatClampNeg) (xs (nI i + 2).toNatClampNeg) (xs (nI i + 3).toNatClampNeg) (xs (nI i + 4).toNatClampNeg) (xs (nI i + 5).toNatClampNeg)).2.2.1) (mx) (my) ((f_X1_two rk rn vb (xs (nI i + 1).toNatClampNeg) (xs (nI i + 2).toNatClampNeg) (xs (nI i + 3).toNatClampNeg) (xs (nI i + 4).toNatClampNeg) (xs (nI i + 5).toNatClampNeg)).2.2.2) (en) (nx) hok H locs hP hD hS
set_option maxHeartbeats 4000000 in
set_option maxRecDepth 100000 in
theorem lc_one {p : Program} {e : Env} {s : State} {m : MethodId} {below : List Frame} {meth : Method} {c : Code} {dC : Nat → ClassId} {dI : Nat → Nat → Nat} {b L : Nat} {xs : Nat → Int32} {hx m0 m1 m2 : Nat} {cI cL : ClassId} (l : Launch) (hL : L ≤ 3584) (C0 : lw_At p s m meth c b L xs) (hK : va_K (dC, dI) vwCl (mT cI cL) s) (hT0 : tbS "FixedPlane" (fun q => s.heap.size ≤ q) s s.heap) (hT1 : tbS "FixedPlaneModel" (fun q => s.heap.size ≤ q) s s.heap) {i : Nat} (hi : i + 7 ≤ L) {rk rn mx my vb : Int32} {en : Nat → Int32} {nx : Nat → Int64} (hok : okE en) {H : Heap} {locs : List Loc} (hP : va_P (dC, dI) vwCl (lwS hx m0 m1 m2 cI cL rk rn en nx mx my vb) H) (hD : va_D (fun q : Nat => s.heap.size ≤ q) (lwS hx m0 m1 m2 cI cL rk rn en nx mx my vb)) (hS : va_S (fun q : Nat => s.heap.size ≤ q) s.heap H locs) {ls : Array Slot} (hl : lv_has ls 4 [(0, .ref b), (1, .ref hx), (2, .ref m0), (3, .int (nI i))]) (kk : lwK p l e s m below meth c dC dI b hx m0 m1 m2 cI cL 545 ls) : W p l e room_1 s m #[Value.ref b] below meth c H locs 4 29 (lw_Z below #[Value.ref b] s) (F0 m 155 ls []) := by
  obtain ⟨hx9, hb, hr, hml, hown, hts, hX, hbl, hlocks, hgv⟩ := C0
  have hA : ∀ q : Nat, s.heap.size ≤ q → (fun q : Nat => s.heap.size ≤ q) q := fun _ h => h
  have hbA : ¬ (fun q : Nat => s.heap.size ≤ q) b := Nat.not_le.mpr hbl
  have hb : c.code = cL_law := hb
  have hown : s.vm.findClass RL = some m.cls := hown
  have htl : ∀ w ∈ wsL_law, w.before #[Value.ref b] s = true := fun w h => hts w (wsL_law_in w h)
  refine lv_aload_n hx9 hb dL_law_155 rfl (lv_at hl 1 rfl) ?_
  refine lv_aload_n hx9 hb dL_law_156 rfl (lv_at hl 0 rfl) ?_
  refine lv_iload_n hx9 hb dL_law_157 rfl (lv_at hl 3 rfl) ?_
  refine lv_iconst (v := 1) hx9 hb dL_law_158 (by decide) ?_
  refine lv_iadd hx9 hb dL_law_159 ?_
  refine va_sld hx9 hb hX hbl hbA hS (lw_ix (k := 1) hi hL (by decide)) dL_law_160 ?_
  refine lv_aload_n hx9 hb dL_law_161 rfl (lv_at hl 0 rfl) ?_
  refine lv_iload_n hx9 hb dL_law_162 rfl (lv_at hl 3 rfl) ?_
  refine lv_iconst (v := 2) hx9 hb dL_law_163 (by decide) ?_
  refine lv_iadd hx9 hb dL_law_164 ?_
  refine va_sld hx9 hb hX hbl hbA hS (lw_ix (k := 2) hi hL (by decide)) dL_law_165 ?_
  refine lv_aload_n hx9 hb dL_law_166 rfl (lv_at hl 0 rfl) ?_
  refine lv_iload_n hx9 hb dL_law_167 rfl (lv_at hl 3 rfl) ?_
  refine lv_iconst (v := 3) hx9 hb dL_law_168 (by decide) ?_
  refine lv_iadd hx9 hb dL_law_169 ?_
  refine va_sld hx9 hb hX hbl hbA hS (lw_ix (k := 3) hi hL (by decide)) dL_law_170 ?_
  have cX : Met l yX0_one wsX0_one rm_X0_one (va_Pc (.ref hx :: [.int (xs (nI i + 1).toNatClampNeg), .int (xs (nI i + 2).toNatClampNeg), .int (xs (nI i + 3).toNatClampNeg)]) (xPre dC dI hx H.size (lwX (rk) (rn) (en) (mx) (my)))) (xQi dC dI hx (va_A (xW hx (lwX (rk) (rn) (en) (mx) (my))) H.size) ((f_X1_one rk rn (xs (nI i + 1).toNatClampNeg) (xs (nI i + 2).toNatClampNeg) (xs (nI i + 3).toNatClampNeg)).1) (lwX ((f_X1_one rk rn (xs (nI i + 1).toNatClampNeg) (xs (nI i + 2).toNatClampNeg) (xs (nI i + 3).toNatClampNeg)).2.1) ((f_X1_one rk rn (xs (nI i + 1).toNatClampNeg) (xs (nI i + 2).toNatClampNeg) (xs (nI i + 3).toNatClampNeg)).2.2) (en) (mx) (my))) 0 0 (va_A (xW hx (lwX (rk) (rn) (en) (mx) (my))) H.size) := by
    have q := cc_X0_one l dC dI hx H.size rk rn (en 0) (en 1) (en 2) (en 3) (en 4) (en 5) mx my (xs (nI i + 1).toNatClampNeg) (xs (nI i + 2).toNatClampNeg) (xs (nI i + 3).toNatClampNeg)
    rw [e_one rk rn (xs (nI i + 1).toNatClampNeg) (xs (nI i + 2).toNatClampNeg) (xs (nI i + 3).toNatClampNeg)] at q
    exact q
  refine xg_i (As := [.int (xs (nI i + 1).toNatClampNeg), .int (xs (nI i + 2).toNatClampNeg), .int (xs (nI i + 3).toNatClampNeg)]) (rest := []) (wr := mW m0 m1 m2 cI cL (lwM (rk) (rn) (en) (nx) (mx) (my) (vb))) ⟨hx9, hb, hml, hown, htl⟩ cX 3 gL_law_X0_one rfl rfl rfl hdV_X0_one ⟨Nat.le_of_ble_eq_true rfl, Nat.le_of_ble_eq_true rfl⟩ hP hD (hK.sub (tys' := []) [] rfl) hS hA hT0 [0] [1, 2, 3] rfl rfl rfl rfl rfl (by decide) rfl hl.1 rfl (Nat.le_of_ble_eq_true rfl) dL_law_171 ⟨Nat.le_of_ble_eq_true rfl, Nat.le_of_ble_eq_true rfl⟩ (fun H locs hP hD hS => ?_)
  refine lv_aload_n hx9 hb dL_law_174 rfl (lv_at hl 2 rfl) ?_
  refine lv_aload_n hx9 hb dL_law_175 rfl (lv_at hl 0 rfl) ?_
  refine lv_iload_n hx9 hb dL_law_176 rfl (lv_at hl 3 rfl) ?_
  refine lv_iconst (v := 1) hx9 hb dL_law_177 (by decide) ?_
  refine lv_iadd hx9 hb dL_law_178 ?_
  refine va_sld hx9 hb hX hbl hbA hS (lw_ix (k := 1) hi hL (by decide)) dL_law_179 ?_
  refine lv_aload_n hx9 hb dL_law_180 rfl (lv_at hl 0 rfl) ?_
  refine lv_iload_n hx9 hb dL_law_181 rfl (lv_at hl 3 rfl) ?_
  refine lv_iconst (v := 2) hx9 hb dL_law_182 (by decide) ?_
  refine lv_iadd hx9 hb dL_law_183 ?_
  refine va_sld hx9 hb hX hbl hbA hS (lw_ix (k := 2) hi hL (by decide)) dL_law_184 ?_
  refine lv_aload_n hx9 hb dL_law_185 rfl (lv_at hl 0 rfl) ?_
  refine lv_iload_n hx9 hb dL_law_186 rfl (lv_at hl 3 rfl) ?_
  refine lv_iconst (v := 3) hx9 hb dL_law_187 (by decide) ?_
  refine lv_iadd hx9 hb dL_law_188 ?_
  refine va_sld hx9 hb hX hbl hbA hS (lw_ix (k := 3) hi hL (by decide)) dL_law_189 ?_
  have cM : Met l yX1_one wsX1_one rm_X1_one (va_Pc (.ref m0 :: [.int (xs (nI i + 1).toNatClampNeg), .int (xs (nI i + 2).toNatClampNeg), .int (xs (nI i + 3).toNatClampNeg)]) (mPre dC dI m0 m1 m2 cI cL H.size (lwM (rk) (rn) (en) (nx) (mx) (my) (vb)))) (mQi dC dI m0 m1 m2 cI cL (va_A (mW m0 m1 m2 cI cL (lwM (rk) (rn) (en) (nx) (mx) (my) (vb))) H.size) ((f_X1_one rk rn (xs (nI i + 1).toNatClampNeg) (xs (nI i + 2).toNatClampNeg) (xs (nI i + 3).toNatClampNeg)).1) (lwM ((f_X1_one rk rn (xs (nI i + 1).toNatClampNeg) (xs (nI i + 2).toNatClampNeg) (xs (nI i + 3).toNatClampNeg)).2.1) ((f_X1_one rk rn (xs (nI i + 1).toNatClampNeg) (xs (nI i + 2).toNatClampNeg) (xs (nI i + 3).toNatClampNeg)).2.2) (en) (nx) (mx) (my) (vb))) 0 0 (va_A (mW m0 m1 m2 cI cL (lwM (rk) (rn) (en) (nx) (mx) (my) (vb))) H.size) := cc_X1_one l dC dI m0 m1 m2 cI cL H.size rk rn en nx mx my vb (xs (nI i + 1).toNatClampNeg) (xs (nI i + 2).toNatClampNeg) (xs (nI i + 3).toNatClampNeg)
  refine mg_i (As := [.int (xs (nI i + 1).toNatClampNeg), .int (xs (nI i + 2).toNatClampNeg), .int (xs (nI i + 3).toNatClampNeg)]) (rest := [.int ((f_X1_one rk rn (xs (nI i + 1).toNatClampNeg) (xs (nI i + 2).toNatClampNeg) (xs (nI i + 3).toNatClampNeg)).1)]) (wr := xW hx (lwX ((f_X1_one rk rn (xs (nI i + 1).toNatClampNeg) (xs (nI i + 2).toNatClampNeg) (xs (nI i + 3).toNatClampNeg)).2.1) ((f_X1_one rk rn (xs (nI i + 1).toNatClampNeg) (xs (nI i + 2).toNatClampNeg) (xs (nI i + 3).toNatClampNeg)).2.2) (en) (mx) (my))) ⟨hx9, hb, hml, hown, htl⟩ cM 3 gL_law_X1_one rfl rfl rfl hdV_X1_one ⟨Nat.le_of_ble_eq_true rfl, Nat.le_of_ble_eq_true rfl⟩ hP hD hK hS hA hT1 [0, 1, 2] [3] rfl rfl rfl rfl rfl (by decide) rfl hl.1 rfl (Nat.le_of_ble_eq_true rfl) dL_law_190 ⟨Nat.le_of_ble_eq_true rfl, Nat.le_of_ble_eq_true rfl⟩ (fun H locs hP hD hS => ?_)
  refine lv_icmp_eq (tgt := 545) hx9 hb dL_law_193 (by decide) (fun _ => ?_) (fun h => absurd rfl h)
  exact kk ((f_X1_one rk rn (xs (nI i + 1).toNatClampNeg) (xs (nI i + 2).toNatClampNeg) (xs (nI i + 3).toNatClampNeg)).2.1) ((f_X1_one rk rn (xs (nI i + 1).toNatClampNeg) (xs (nI i + 2).toNatClampNeg) (xs (nI i + 3).toNatClampNeg)).2.2) (mx) (my) (vb) (en) (nx) hok H locs hP hD hS
set_option maxHeartbeats 4000000 in
set_option maxRecDepth 100000 in
theorem lc_kind {p : Program} {e : Env} {s : State} {m : MethodId} {below : List Frame} {meth : Method} {c : Code} {dC : Nat → ClassId} {dI : Nat → Nat → Nat} {b L : Nat} {xs : Nat → Int32} {hx m0 m1 m2 : Nat} {cI cL : ClassId} (l : Launch) (hL : L ≤ 3584) (C0 : lw_At p s m meth c b L xs) (hK : va_K (dC, dI) vwCl (mT cI cL) s) (hT0 : tbS "FixedPlane" (fun q => s.heap.size ≤ q) s s.heap) (hT1 : tbS "FixedPlaneModel" (fun q => s.heap.size ≤ q) s s.heap) {i : Nat} (hi : i + 7 ≤ L) {rk rn mx my vb : Int32} {en : Nat → Int32} {nx : Nat → Int64} (hok : okE en) {H : Heap} {locs : List Loc} (hP : va_P (dC, dI) vwCl (lwS hx m0 m1 m2 cI cL rk rn en nx mx my vb) H) (hD : va_D (fun q : Nat => s.heap.size ≤ q) (lwS hx m0 m1 m2 cI cL rk rn en nx mx my vb)) (hS : va_S (fun q : Nat => s.heap.size ≤ q) s.heap H locs) {ls : Array Slot} (hl : lv_has ls 4 [(0, .ref b), (1, .ref hx), (2, .ref m0), (3, .int (nI i))]) (kk : lwK p l e s m below meth c dC dI b hx m0 m1 m2 cI cL 545 ls) : W p l e room_1 s m #[Value.ref b] below meth c H locs 4 29 (lw_Z below #[Value.ref b] s) (F0 m 198 ls []) := by
  obtain ⟨hx9, hb, hr, hml, hown, hts, hX, hbl, hlocks, hgv⟩ := C0
  have hA : ∀ q : Nat, s.heap.size ≤ q → (fun q : Nat => s.heap.size ≤ q) q := fun _ h => h
  have hbA : ¬ (fun q : Nat => s.heap.size ≤ q) b := Nat.not_le.mpr hbl
  have hb : c.code = cL_law := hb
  have hown : s.vm.findClass RL = some m.cls := hown
  have htl : ∀ w ∈ wsL_law, w.before #[Value.ref b] s = true := fun w h => hts w (wsL_law_in w h)
  refine lv_aload_n hx9 hb dL_law_198 rfl (lv_at hl 1 rfl) ?_
  have cX : Met l yX0_kind wsX0_kind rm_X0_kind (va_Pc (.ref hx :: []) (xPre dC dI hx H.size (lwX (rk) (rn) (en) (mx) (my)))) (xQi dC dI hx (va_A (xW hx (lwX (rk) (rn) (en) (mx) (my))) H.size) ((f_X1_kind rk)) (lwX (rk) (rn) (en) (mx) (my))) 0 0 (va_A (xW hx (lwX (rk) (rn) (en) (mx) (my))) H.size) := by
    have q := cc_X0_kind l dC dI hx H.size rk rn (en 0) (en 1) (en 2) (en 3) (en 4) (en 5) mx my 
    exact q
  refine xg_i (As := []) (rest := []) (wr := mW m0 m1 m2 cI cL (lwM (rk) (rn) (en) (nx) (mx) (my) (vb))) ⟨hx9, hb, hml, hown, htl⟩ cX 0 gL_law_X0_kind rfl rfl rfl hdV_X0_kind ⟨Nat.le_of_ble_eq_true rfl, Nat.le_of_ble_eq_true rfl⟩ hP hD (hK.sub (tys' := []) [] rfl) hS hA hT0 [0] [1, 2, 3] rfl rfl rfl rfl rfl (by decide) rfl hl.1 rfl (Nat.le_of_ble_eq_true rfl) dL_law_199 ⟨Nat.le_of_ble_eq_true rfl, Nat.le_of_ble_eq_true rfl⟩ (fun H locs hP hD hS => ?_)
  refine lv_aload_n hx9 hb dL_law_202 rfl (lv_at hl 2 rfl) ?_
  have cM : Met l yX1_kind wsX1_kind rm_X1_kind (va_Pc (.ref m0 :: []) (mPre dC dI m0 m1 m2 cI cL H.size (lwM (rk) (rn) (en) (nx) (mx) (my) (vb)))) (mQi dC dI m0 m1 m2 cI cL (va_A (mW m0 m1 m2 cI cL (lwM (rk) (rn) (en) (nx) (mx) (my) (vb))) H.size) ((f_X1_kind rk)) (lwM (rk) (rn) (en) (nx) (mx) (my) (vb))) 0 0 (va_A (mW m0 m1 m2 cI cL (lwM (rk) (rn) (en) (nx) (mx) (my) (vb))) H.size) := cc_X1_kind l dC dI m0 m1 m2 cI cL H.size rk rn en nx mx my vb 
  refine mg_i (As := []) (rest := [.int ((f_X1_kind rk))]) (wr := xW hx (lwX (rk) (rn) (en) (mx) (my))) ⟨hx9, hb, hml, hown, htl⟩ cM 0 gL_law_X1_kind rfl rfl rfl hdV_X1_kind ⟨Nat.le_of_ble_eq_true rfl, Nat.le_of_ble_eq_true rfl⟩ hP hD hK hS hA hT1 [0, 1, 2] [3] rfl rfl rfl rfl rfl (by decide) rfl hl.1 rfl (Nat.le_of_ble_eq_true rfl) dL_law_203 ⟨Nat.le_of_ble_eq_true rfl, Nat.le_of_ble_eq_true rfl⟩ (fun H locs hP hD hS => ?_)
  refine lv_icmp_eq (tgt := 545) hx9 hb dL_law_206 (by decide) (fun _ => ?_) (fun h => absurd rfl h)
  exact kk (rk) (rn) (mx) (my) (vb) (en) (nx) hok H locs hP hD hS
set_option maxHeartbeats 4000000 in
set_option maxRecDepth 100000 in
theorem lc_number {p : Program} {e : Env} {s : State} {m : MethodId} {below : List Frame} {meth : Method} {c : Code} {dC : Nat → ClassId} {dI : Nat → Nat → Nat} {b L : Nat} {xs : Nat → Int32} {hx m0 m1 m2 : Nat} {cI cL : ClassId} (l : Launch) (hL : L ≤ 3584) (C0 : lw_At p s m meth c b L xs) (hK : va_K (dC, dI) vwCl (mT cI cL) s) (hT0 : tbS "FixedPlane" (fun q => s.heap.size ≤ q) s s.heap) (hT1 : tbS "FixedPlaneModel" (fun q => s.heap.size ≤ q) s s.heap) {i : Nat} (hi : i + 7 ≤ L) {rk rn mx my vb : Int32} {en : Nat → Int32} {nx : Nat → Int64} (hok : okE en) {H : Heap} {locs : List Loc} (hP : va_P (dC, dI) vwCl (lwS hx m0 m1 m2 cI cL rk rn en nx mx my vb) H) (hD : va_D (fun q : Nat => s.heap.size ≤ q) (lwS hx m0 m1 m2 cI cL rk rn en nx mx my vb)) (hS : va_S (fun q : Nat => s.heap.size ≤ q) s.heap H locs) {ls : Array Slot} (hl : lv_has ls 4 [(0, .ref b), (1, .ref hx), (2, .ref m0), (3, .int (nI i))]) (kk : lwK p l e s m below meth c dC dI b hx m0 m1 m2 cI cL 545 ls) : W p l e room_1 s m #[Value.ref b] below meth c H locs 4 29 (lw_Z below #[Value.ref b] s) (F0 m 211 ls []) := by
  obtain ⟨hx9, hb, hr, hml, hown, hts, hX, hbl, hlocks, hgv⟩ := C0
  have hA : ∀ q : Nat, s.heap.size ≤ q → (fun q : Nat => s.heap.size ≤ q) q := fun _ h => h
  have hbA : ¬ (fun q : Nat => s.heap.size ≤ q) b := Nat.not_le.mpr hbl
  have hb : c.code = cL_law := hb
  have hown : s.vm.findClass RL = some m.cls := hown
  have htl : ∀ w ∈ wsL_law, w.before #[Value.ref b] s = true := fun w h => hts w (wsL_law_in w h)
  refine lv_aload_n hx9 hb dL_law_211 rfl (lv_at hl 1 rfl) ?_
  have cX : Met l yX0_number wsX0_number rm_X0_number (va_Pc (.ref hx :: []) (xPre dC dI hx H.size (lwX (rk) (rn) (en) (mx) (my)))) (xQi dC dI hx (va_A (xW hx (lwX (rk) (rn) (en) (mx) (my))) H.size) ((f_X1_number rn)) (lwX (rk) (rn) (en) (mx) (my))) 0 0 (va_A (xW hx (lwX (rk) (rn) (en) (mx) (my))) H.size) := by
    have q := cc_X0_number l dC dI hx H.size rk rn (en 0) (en 1) (en 2) (en 3) (en 4) (en 5) mx my 
    exact q
  refine xg_i (As := []) (rest := []) (wr := mW m0 m1 m2 cI cL (lwM (rk) (rn) (en) (nx) (mx) (my) (vb))) ⟨hx9, hb, hml, hown, htl⟩ cX 0 gL_law_X0_number rfl rfl rfl hdV_X0_number ⟨Nat.le_of_ble_eq_true rfl, Nat.le_of_ble_eq_true rfl⟩ hP hD (hK.sub (tys' := []) [] rfl) hS hA hT0 [0] [1, 2, 3] rfl rfl rfl rfl rfl (by decide) rfl hl.1 rfl (Nat.le_of_ble_eq_true rfl) dL_law_212 ⟨Nat.le_of_ble_eq_true rfl, Nat.le_of_ble_eq_true rfl⟩ (fun H locs hP hD hS => ?_)
  refine lv_aload_n hx9 hb dL_law_215 rfl (lv_at hl 2 rfl) ?_
  have cM : Met l yX1_number wsX1_number rm_X1_number (va_Pc (.ref m0 :: []) (mPre dC dI m0 m1 m2 cI cL H.size (lwM (rk) (rn) (en) (nx) (mx) (my) (vb)))) (mQi dC dI m0 m1 m2 cI cL (va_A (mW m0 m1 m2 cI cL (lwM (rk) (rn) (en) (nx) (mx) (my) (vb))) H.size) ((f_X1_number rn)) (lwM (rk) (rn) (en) (nx) (mx) (my) (vb))) 0 0 (va_A (mW m0 m1 m2 cI cL (lwM (rk) (rn) (en) (nx) (mx) (my) (vb))) H.size) := cc_X1_number l dC dI m0 m1 m2 cI cL H.size rk rn en nx mx my vb 
  refine mg_i (As := []) (rest := [.int ((f_X1_number rn))]) (wr := xW hx (lwX (rk) (rn) (en) (mx) (my))) ⟨hx9, hb, hml, hown, htl⟩ cM 0 gL_law_X1_number rfl rfl rfl hdV_X1_number ⟨Nat.le_of_ble_eq_true rfl, Nat.le_of_ble_eq_true rfl⟩ hP hD hK hS hA hT1 [0, 1, 2] [3] rfl rfl rfl rfl rfl (by decide) rfl hl.1 rfl (Nat.le_of_ble_eq_true rfl) dL_law_216 ⟨Nat.le_of_ble_eq_true rfl, Nat.le_of_ble_eq_true rfl⟩ (fun H locs hP hD hS => ?_)
  refine lv_icmp_eq (tgt := 545) hx9 hb dL_law_219 (by decide) (fun _ => ?_) (fun h => absurd rfl h)
  exact kk (rk) (rn) (mx) (my) (vb) (en) (nx) hok H locs hP hD hS
set_option maxHeartbeats 4000000 in
set_option maxRecDepth 100000 in
theorem lc_compare {p : Program} {e : Env} {s : State} {m : MethodId} {below : List Frame} {meth : Method} {c : Code} {dC : Nat → ClassId} {dI : Nat → Nat → Nat} {b L : Nat} {xs : Nat → Int32} {hx m0 m1 m2 : Nat} {cI cL : ClassId} (l : Launch) (hL : L ≤ 3584) (C0 : lw_At p s m meth c b L xs) (hK : va_K (dC, dI) vwCl (mT cI cL) s) (hT0 : tbS "FixedPlane" (fun q => s.heap.size ≤ q) s s.heap) (hT1 : tbS "FixedPlaneModel" (fun q => s.heap.size ≤ q) s s.heap) {i : Nat} (hi : i + 7 ≤ L) {rk rn mx my vb : Int32} {en : Nat → Int32} {nx : Nat → Int64} (hok : okE en) {H : Heap} {locs : List Loc} (hP : va_P (dC, dI) vwCl (lwS hx m0 m1 m2 cI cL rk rn en nx mx my vb) H) (hD : va_D (fun q : Nat => s.heap.size ≤ q) (lwS hx m0 m1 m2 cI cL rk rn en nx mx my vb)) (hS : va_S (fun q : Nat => s.heap.size ≤ q) s.heap H locs) {ls : Array Slot} (hl : lv_has ls 4 [(0, .ref b), (1, .ref hx), (2, .ref m0), (3, .int (nI i))]) (kk : lwK p l e s m below meth c dC dI b hx m0 m1 m2 cI cL 545 ls) : W p l e room_1 s m #[Value.ref b] below meth c H locs 4 29 (lw_Z below #[Value.ref b] s) (F0 m 224 ls []) := by
  obtain ⟨hx9, hb, hr, hml, hown, hts, hX, hbl, hlocks, hgv⟩ := C0
  have hA : ∀ q : Nat, s.heap.size ≤ q → (fun q : Nat => s.heap.size ≤ q) q := fun _ h => h
  have hbA : ¬ (fun q : Nat => s.heap.size ≤ q) b := Nat.not_le.mpr hbl
  have hb : c.code = cL_law := hb
  have hown : s.vm.findClass RL = some m.cls := hown
  have htl : ∀ w ∈ wsL_law, w.before #[Value.ref b] s = true := fun w h => hts w (wsL_law_in w h)
  refine lv_aload_n hx9 hb dL_law_224 rfl (lv_at hl 1 rfl) ?_
  refine lv_aload_n hx9 hb dL_law_225 rfl (lv_at hl 0 rfl) ?_
  refine lv_iload_n hx9 hb dL_law_226 rfl (lv_at hl 3 rfl) ?_
  refine lv_iconst (v := 1) hx9 hb dL_law_227 (by decide) ?_
  refine lv_iadd hx9 hb dL_law_228 ?_
  refine va_sld hx9 hb hX hbl hbA hS (lw_ix (k := 1) hi hL (by decide)) dL_law_229 ?_
  refine lv_aload_n hx9 hb dL_law_230 rfl (lv_at hl 0 rfl) ?_
  refine lv_iload_n hx9 hb dL_law_231 rfl (lv_at hl 3 rfl) ?_
  refine lv_iconst (v := 2) hx9 hb dL_law_232 (by decide) ?_
  refine lv_iadd hx9 hb dL_law_233 ?_
  refine va_sld hx9 hb hX hbl hbA hS (lw_ix (k := 2) hi hL (by decide)) dL_law_234 ?_
  refine lv_aload_n hx9 hb dL_law_235 rfl (lv_at hl 0 rfl) ?_
  refine lv_iload_n hx9 hb dL_law_236 rfl (lv_at hl 3 rfl) ?_
  refine lv_iconst (v := 3) hx9 hb dL_law_237 (by decide) ?_
  refine lv_iadd hx9 hb dL_law_238 ?_
  refine va_sld hx9 hb hX hbl hbA hS (lw_ix (k := 3) hi hL (by decide)) dL_law_239 ?_
  refine lv_aload_n hx9 hb dL_law_240 rfl (lv_at hl 0 rfl) ?_
  refine lv_iload_n hx9 hb dL_law_241 rfl (lv_at hl 3 rfl) ?_
  refine lv_iconst (v := 4) hx9 hb dL_law_242 (by decide) ?_
  refine lv_iadd hx9 hb dL_law_243 ?_
  refine va_sld hx9 hb hX hbl hbA hS (lw_ix (k := 4) hi hL (by decide)) dL_law_244 ?_
  have cX : Met l yX0_compare wsX0_compare rm_X0_compare (va_Pc (.ref hx :: [.int (xs (nI i + 1).toNatClampNeg), .int (xs (nI i + 2).toNatClampNeg), .int (xs (nI i + 3).toNatClampNeg), .int (xs (nI i + 4).toNatClampNeg)]) (xPre dC dI hx H.size (lwX (rk) (rn) (en) (mx) (my)))) (xQi dC dI hx (va_A (xW hx (lwX (rk) (rn) (en) (mx) (my))) H.size) ((f_X1_compare (xs (nI i + 1).toNatClampNeg) (xs (nI i + 2).toNatClampNeg) (xs (nI i + 3).toNatClampNeg) (xs (nI i + 4).toNatClampNeg))) (lwX (rk) (rn) (en) (mx) (my))) 0 0 (va_A (xW hx (lwX (rk) (rn) (en) (mx) (my))) H.size) := by
    have q := cc_X0_compare l dC dI hx H.size rk rn (en 0) (en 1) (en 2) (en 3) (en 4) (en 5) mx my (xs (nI i + 1).toNatClampNeg) (xs (nI i + 2).toNatClampNeg) (xs (nI i + 3).toNatClampNeg) (xs (nI i + 4).toNatClampNeg)
    rw [e_compare (xs (nI i + 1).toNatClampNeg) (xs (nI i + 2).toNatClampNeg) (xs (nI i + 3).toNatClampNeg) (xs (nI i + 4).toNatClampNeg)] at q
    exact q
  refine xg_i (As := [.int (xs (nI i + 1).toNatClampNeg), .int (xs (nI i + 2).toNatClampNeg), .int (xs (nI i + 3).toNatClampNeg), .int (xs (nI i + 4).toNatClampNeg)]) (rest := []) (wr := mW m0 m1 m2 cI cL (lwM (rk) (rn) (en) (nx) (mx) (my) (vb))) ⟨hx9, hb, hml, hown, htl⟩ cX 4 gL_law_X0_compare rfl rfl rfl hdV_X0_compare ⟨Nat.le_of_ble_eq_true rfl, Nat.le_of_ble_eq_true rfl⟩ hP hD (hK.sub (tys' := []) [] rfl) hS hA hT0 [0] [1, 2, 3] rfl rfl rfl rfl rfl (by decide) rfl hl.1 rfl (Nat.le_of_ble_eq_true rfl) dL_law_245 ⟨Nat.le_of_ble_eq_true rfl, Nat.le_of_ble_eq_true rfl⟩ (fun H locs hP hD hS => ?_)
  refine lv_aload_n hx9 hb dL_law_248 rfl (lv_at hl 2 rfl) ?_
  refine lv_aload_n hx9 hb dL_law_249 rfl (lv_at hl 0 rfl) ?_
  refine lv_iload_n hx9 hb dL_law_250 rfl (lv_at hl 3 rfl) ?_
  refine lv_iconst (v := 1) hx9 hb dL_law_251 (by decide) ?_
  refine lv_iadd hx9 hb dL_law_252 ?_
  refine va_sld hx9 hb hX hbl hbA hS (lw_ix (k := 1) hi hL (by decide)) dL_law_253 ?_
  refine lv_aload_n hx9 hb dL_law_254 rfl (lv_at hl 0 rfl) ?_
  refine lv_iload_n hx9 hb dL_law_255 rfl (lv_at hl 3 rfl) ?_
  refine lv_iconst (v := 2) hx9 hb dL_law_256 (by decide) ?_
  refine lv_iadd hx9 hb dL_law_257 ?_
  refine va_sld hx9 hb hX hbl hbA hS (lw_ix (k := 2) hi hL (by decide)) dL_law_258 ?_
  refine lv_aload_n hx9 hb dL_law_259 rfl (lv_at hl 0 rfl) ?_
  refine lv_iload_n hx9 hb dL_law_260 rfl (lv_at hl 3 rfl) ?_
  refine lv_iconst (v := 3) hx9 hb dL_law_261 (by decide) ?_
  refine lv_iadd hx9 hb dL_law_262 ?_
  refine va_sld hx9 hb hX hbl hbA hS (lw_ix (k := 3) hi hL (by decide)) dL_law_263 ?_
  refine lv_aload_n hx9 hb dL_law_264 rfl (lv_at hl 0 rfl) ?_
  refine lv_iload_n hx9 hb dL_law_265 rfl (lv_at hl 3 rfl) ?_
  refine lv_iconst (v := 4) hx9 hb dL_law_266 (by decide) ?_
  refine lv_iadd hx9 hb dL_law_267 ?_
  refine va_sld hx9 hb hX hbl hbA hS (lw_ix (k := 4) hi hL (by decide)) dL_law_268 ?_
  have cM : Met l yX1_compare wsX1_compare rm_X1_compare (va_Pc (.ref m0 :: [.int (xs (nI i + 1).toNatClampNeg), .int (xs (nI i + 2).toNatClampNeg), .int (xs (nI i + 3).toNatClampNeg), .int (xs (nI i + 4).toNatClampNeg)]) (mPre dC dI m0 m1 m2 cI cL H.size (lwM (rk) (rn) (en) (nx) (mx) (my) (vb)))) (mQi dC dI m0 m1 m2 cI cL (va_A (mW m0 m1 m2 cI cL (lwM (rk) (rn) (en) (nx) (mx) (my) (vb))) H.size) ((f_X1_compare (xs (nI i + 1).toNatClampNeg) (xs (nI i + 2).toNatClampNeg) (xs (nI i + 3).toNatClampNeg) (xs (nI i + 4).toNatClampNeg))) (lwM (rk) (rn) (en) (nx) (mx) (my) (vb))) 0 0 (va_A (mW m0 m1 m2 cI cL (lwM (rk) (rn) (en) (nx) (mx) (my) (vb))) H.size) := cc_X1_compare l dC dI m0 m1 m2 cI cL H.size rk rn en nx mx my vb (xs (nI i + 1).toNatClampNeg) (xs (nI i + 2).toNatClampNeg) (xs (nI i + 3).toNatClampNeg) (xs (nI i + 4).toNatClampNeg)
  refine mg_i (As := [.int (xs (nI i + 1).toNatClampNeg), .int (xs (nI i + 2).toNatClampNeg), .int (xs (nI i + 3).toNatClampNeg), .int (xs (nI i + 4).toNatClampNeg)]) (rest := [.int ((f_X1_compare (xs (nI i + 1).toNatClampNeg) (xs (nI i + 2).toNatClampNeg) (xs (nI i + 3).toNatClampNeg) (xs (nI i + 4).toNatClampNeg)))]) (wr := xW hx (lwX (rk) (rn) (en) (mx) (my))) ⟨hx9, hb, hml, hown, htl⟩ cM 4 gL_law_X1_compare rfl rfl rfl hdV_X1_compare ⟨Nat.le_of_ble_eq_true rfl, Nat.le_of_ble_eq_true rfl⟩ hP hD hK hS hA hT1 [0, 1, 2] [3] rfl rfl rfl rfl rfl (by decide) rfl hl.1 rfl (Nat.le_of_ble_eq_true rfl) dL_law_269 ⟨Nat.le_of_ble_eq_true rfl, Nat.le_of_ble_eq_true rfl⟩ (fun H locs hP hD hS => ?_)
  refine lv_icmp_eq (tgt := 545) hx9 hb dL_law_272 (by decide) (fun _ => ?_) (fun h => absurd rfl h)
  exact kk (rk) (rn) (mx) (my) (vb) (en) (nx) hok H locs hP hD hS
set_option maxHeartbeats 4000000 in
set_option maxRecDepth 100000 in
theorem lc_matrix {p : Program} {e : Env} {s : State} {m : MethodId} {below : List Frame} {meth : Method} {c : Code} {dC : Nat → ClassId} {dI : Nat → Nat → Nat} {b L : Nat} {xs : Nat → Int32} {hx m0 m1 m2 : Nat} {cI cL : ClassId} (l : Launch) (hL : L ≤ 3584) (C0 : lw_At p s m meth c b L xs) (hK : va_K (dC, dI) vwCl (mT cI cL) s) (hT0 : tbS "FixedPlane" (fun q => s.heap.size ≤ q) s s.heap) (hT1 : tbS "FixedPlaneModel" (fun q => s.heap.size ≤ q) s s.heap) {i : Nat} (hi : i + 7 ≤ L) {rk rn mx my vb : Int32} {en : Nat → Int32} {nx : Nat → Int64} (hok : okE en) {H : Heap} {locs : List Loc} (hP : va_P (dC, dI) vwCl (lwS hx m0 m1 m2 cI cL rk rn en nx mx my vb) H) (hD : va_D (fun q : Nat => s.heap.size ≤ q) (lwS hx m0 m1 m2 cI cL rk rn en nx mx my vb)) (hS : va_S (fun q : Nat => s.heap.size ≤ q) s.heap H locs) {ls : Array Slot} (hl : lv_has ls 4 [(0, .ref b), (1, .ref hx), (2, .ref m0), (3, .int (nI i))]) (kk : lwK p l e s m below meth c dC dI b hx m0 m1 m2 cI cL 545 ls) : W p l e room_1 s m #[Value.ref b] below meth c H locs 4 29 (lw_Z below #[Value.ref b] s) (F0 m 277 ls []) := by
  obtain ⟨hx9, hb, hr, hml, hown, hts, hX, hbl, hlocks, hgv⟩ := C0
  have hA : ∀ q : Nat, s.heap.size ≤ q → (fun q : Nat => s.heap.size ≤ q) q := fun _ h => h
  have hbA : ¬ (fun q : Nat => s.heap.size ≤ q) b := Nat.not_le.mpr hbl
  have hb : c.code = cL_law := hb
  have hown : s.vm.findClass RL = some m.cls := hown
  have htl : ∀ w ∈ wsL_law, w.before #[Value.ref b] s = true := fun w h => hts w (wsL_law_in w h)
  refine lv_aload_n hx9 hb dL_law_277 rfl (lv_at hl 1 rfl) ?_
  refine lv_aload_n hx9 hb dL_law_278 rfl (lv_at hl 0 rfl) ?_
  refine lv_iload_n hx9 hb dL_law_279 rfl (lv_at hl 3 rfl) ?_
  refine lv_iconst (v := 1) hx9 hb dL_law_280 (by decide) ?_
  refine lv_iadd hx9 hb dL_law_281 ?_
  refine va_sld hx9 hb hX hbl hbA hS (lw_ix (k := 1) hi hL (by decide)) dL_law_282 ?_
  refine lv_aload_n hx9 hb dL_law_283 rfl (lv_at hl 0 rfl) ?_
  refine lv_iload_n hx9 hb dL_law_284 rfl (lv_at hl 3 rfl) ?_
  refine lv_iconst (v := 2) hx9 hb dL_law_285 (by decide) ?_
  refine lv_iadd hx9 hb dL_law_286 ?_
  refine va_sld hx9 hb hX hbl hbA hS (lw_ix (k := 2) hi hL (by decide)) dL_law_287 ?_
  refine lv_aload_n hx9 hb dL_law_288 rfl (lv_at hl 0 rfl) ?_
  refine lv_iload_n hx9 hb dL_law_289 rfl (lv_at hl 3 rfl) ?_
  refine lv_iconst (v := 3) hx9 hb dL_law_290 (by decide) ?_
  refine lv_iadd hx9 hb dL_law_291 ?_
  refine va_sld hx9 hb hX hbl hbA hS (lw_ix (k := 3) hi hL (by decide)) dL_law_292 ?_
  refine lv_aload_n hx9 hb dL_law_293 rfl (lv_at hl 0 rfl) ?_
  refine lv_iload_n hx9 hb dL_law_294 rfl (lv_at hl 3 rfl) ?_
  refine lv_iconst (v := 4) hx9 hb dL_law_295 (by decide) ?_
  refine lv_iadd hx9 hb dL_law_296 ?_
  refine va_sld hx9 hb hX hbl hbA hS (lw_ix (k := 4) hi hL (by decide)) dL_law_297 ?_
  refine lv_aload_n hx9 hb dL_law_298 rfl (lv_at hl 0 rfl) ?_
  refine lv_iload_n hx9 hb dL_law_299 rfl (lv_at hl 3 rfl) ?_
  refine lv_iconst (v := 5) hx9 hb dL_law_300 (by decide) ?_
  refine lv_iadd hx9 hb dL_law_301 ?_
  refine va_sld hx9 hb hX hbl hbA hS (lw_ix (k := 5) hi hL (by decide)) dL_law_302 ?_
  refine lv_aload_n hx9 hb dL_law_303 rfl (lv_at hl 0 rfl) ?_
  refine lv_iload_n hx9 hb dL_law_304 rfl (lv_at hl 3 rfl) ?_
  refine lv_bipush (v := 6) hx9 hb dL_law_305 (by decide) ?_
  refine lv_iadd hx9 hb dL_law_307 ?_
  refine va_sld hx9 hb hX hbl hbA hS (lw_ix (k := 6) hi hL (by decide)) dL_law_308 ?_
  have cX : Met l yX0_matrix wsX0_matrix rm_X0_matrix (va_Pc (.ref hx :: [.int (xs (nI i + 1).toNatClampNeg), .int (xs (nI i + 2).toNatClampNeg), .int (xs (nI i + 3).toNatClampNeg), .int (xs (nI i + 4).toNatClampNeg), .int (xs (nI i + 5).toNatClampNeg), .int (xs (nI i + 6).toNatClampNeg)]) (xPre dC dI hx H.size (lwX (rk) (rn) (en) (mx) (my)))) (xQi dC dI hx (va_A (xW hx (lwX (rk) (rn) (en) (mx) (my))) H.size) ((f_X1_matrix en (xs (nI i + 1).toNatClampNeg) (xs (nI i + 2).toNatClampNeg) (xs (nI i + 3).toNatClampNeg) (xs (nI i + 4).toNatClampNeg) (xs (nI i + 5).toNatClampNeg) (xs (nI i + 6).toNatClampNeg)).1) (lwX (rk) (rn) ((f_X1_matrix en (xs (nI i + 1).toNatClampNeg) (xs (nI i + 2).toNatClampNeg) (xs (nI i + 3).toNatClampNeg) (xs (nI i + 4).toNatClampNeg) (xs (nI i + 5).toNatClampNeg) (xs (nI i + 6).toNatClampNeg)).2) (mx) (my))) 0 0 (va_A (xW hx (lwX (rk) (rn) (en) (mx) (my))) H.size) := by
    have q := cc_X0_matrix l dC dI hx H.size rk rn (en 0) (en 1) (en 2) (en 3) (en 4) (en 5) mx my (xs (nI i + 1).toNatClampNeg) (xs (nI i + 2).toNatClampNeg) (xs (nI i + 3).toNatClampNeg) (xs (nI i + 4).toNatClampNeg) (xs (nI i + 5).toNatClampNeg) (xs (nI i + 6).toNatClampNeg)
    rw [e_matrix en (xs (nI i + 1).toNatClampNeg) (xs (nI i + 2).toNatClampNeg) (xs (nI i + 3).toNatClampNeg) (xs (nI i + 4).toNatClampNeg) (xs (nI i + 5).toNatClampNeg) (xs (nI i + 6).toNatClampNeg)] at q
    exact q
  refine xg_i (As := [.int (xs (nI i + 1).toNatClampNeg), .int (xs (nI i + 2).toNatClampNeg), .int (xs (nI i + 3).toNatClampNeg), .int (xs (nI i + 4).toNatClampNeg), .int (xs (nI i + 5).toNatClampNeg), .int (xs (nI i + 6).toNatClampNeg)]) (rest := []) (wr := mW m0 m1 m2 cI cL (lwM (rk) (rn) (en) (nx) (mx) (my) (vb))) ⟨hx9, hb, hml, hown, htl⟩ cX 6 gL_law_X0_matrix rfl rfl rfl hdV_X0_matrix ⟨Nat.le_of_ble_eq_true rfl, Nat.le_of_ble_eq_true rfl⟩ hP hD (hK.sub (tys' := []) [] rfl) hS hA hT0 [0] [1, 2, 3] rfl rfl rfl rfl rfl (by decide) rfl hl.1 rfl (Nat.le_of_ble_eq_true rfl) dL_law_309 ⟨Nat.le_of_ble_eq_true rfl, Nat.le_of_ble_eq_true rfl⟩ (fun H locs hP hD hS => ?_)
  refine lv_aload_n hx9 hb dL_law_312 rfl (lv_at hl 2 rfl) ?_
  refine lv_aload_n hx9 hb dL_law_313 rfl (lv_at hl 0 rfl) ?_
  refine lv_iload_n hx9 hb dL_law_314 rfl (lv_at hl 3 rfl) ?_
  refine lv_iconst (v := 1) hx9 hb dL_law_315 (by decide) ?_
  refine lv_iadd hx9 hb dL_law_316 ?_
  refine va_sld hx9 hb hX hbl hbA hS (lw_ix (k := 1) hi hL (by decide)) dL_law_317 ?_
  refine lv_aload_n hx9 hb dL_law_318 rfl (lv_at hl 0 rfl) ?_
  refine lv_iload_n hx9 hb dL_law_319 rfl (lv_at hl 3 rfl) ?_
  refine lv_iconst (v := 2) hx9 hb dL_law_320 (by decide) ?_
  refine lv_iadd hx9 hb dL_law_321 ?_
  refine va_sld hx9 hb hX hbl hbA hS (lw_ix (k := 2) hi hL (by decide)) dL_law_322 ?_
  refine lv_aload_n hx9 hb dL_law_323 rfl (lv_at hl 0 rfl) ?_
  refine lv_iload_n hx9 hb dL_law_324 rfl (lv_at hl 3 rfl) ?_
  refine lv_iconst (v := 3) hx9 hb dL_law_325 (by decide) ?_
  refine lv_iadd hx9 hb dL_law_326 ?_
  refine va_sld hx9 hb hX hbl hbA hS (lw_ix (k := 3) hi hL (by decide)) dL_law_327 ?_
  refine lv_aload_n hx9 hb dL_law_328 rfl (lv_at hl 0 rfl) ?_
  refine lv_iload_n hx9 hb dL_law_329 rfl (lv_at hl 3 rfl) ?_
  refine lv_iconst (v := 4) hx9 hb dL_law_330 (by decide) ?_
  refine lv_iadd hx9 hb dL_law_331 ?_
  refine va_sld hx9 hb hX hbl hbA hS (lw_ix (k := 4) hi hL (by decide)) dL_law_332 ?_
  refine lv_aload_n hx9 hb dL_law_333 rfl (lv_at hl 0 rfl) ?_
  refine lv_iload_n hx9 hb dL_law_334 rfl (lv_at hl 3 rfl) ?_
  refine lv_iconst (v := 5) hx9 hb dL_law_335 (by decide) ?_
  refine lv_iadd hx9 hb dL_law_336 ?_
  refine va_sld hx9 hb hX hbl hbA hS (lw_ix (k := 5) hi hL (by decide)) dL_law_337 ?_
  refine lv_aload_n hx9 hb dL_law_338 rfl (lv_at hl 0 rfl) ?_
  refine lv_iload_n hx9 hb dL_law_339 rfl (lv_at hl 3 rfl) ?_
  refine lv_bipush (v := 6) hx9 hb dL_law_340 (by decide) ?_
  refine lv_iadd hx9 hb dL_law_342 ?_
  refine va_sld hx9 hb hX hbl hbA hS (lw_ix (k := 6) hi hL (by decide)) dL_law_343 ?_
  have cM : Met l yX1_matrix wsX1_matrix rm_X1_matrix (va_Pc (.ref m0 :: [.int (xs (nI i + 1).toNatClampNeg), .int (xs (nI i + 2).toNatClampNeg), .int (xs (nI i + 3).toNatClampNeg), .int (xs (nI i + 4).toNatClampNeg), .int (xs (nI i + 5).toNatClampNeg), .int (xs (nI i + 6).toNatClampNeg)]) (mPre dC dI m0 m1 m2 cI cL H.size (lwM (rk) (rn) (en) (nx) (mx) (my) (vb)))) (mQi dC dI m0 m1 m2 cI cL (va_A (mW m0 m1 m2 cI cL (lwM (rk) (rn) (en) (nx) (mx) (my) (vb))) H.size) ((f_X1_matrix en (xs (nI i + 1).toNatClampNeg) (xs (nI i + 2).toNatClampNeg) (xs (nI i + 3).toNatClampNeg) (xs (nI i + 4).toNatClampNeg) (xs (nI i + 5).toNatClampNeg) (xs (nI i + 6).toNatClampNeg)).1) (lwM (rk) (rn) ((f_X1_matrix en (xs (nI i + 1).toNatClampNeg) (xs (nI i + 2).toNatClampNeg) (xs (nI i + 3).toNatClampNeg) (xs (nI i + 4).toNatClampNeg) (xs (nI i + 5).toNatClampNeg) (xs (nI i + 6).toNatClampNeg)).2) (nx) (mx) (my) (vb))) 0 0 (va_A (mW m0 m1 m2 cI cL (lwM (rk) (rn) (en) (nx) (mx) (my) (vb))) H.size) := cc_X1_matrix l dC dI m0 m1 m2 cI cL H.size rk rn en nx mx my vb (xs (nI i + 1).toNatClampNeg) (xs (nI i + 2).toNatClampNeg) (xs (nI i + 3).toNatClampNeg) (xs (nI i + 4).toNatClampNeg) (xs (nI i + 5).toNatClampNeg) (xs (nI i + 6).toNatClampNeg)
  refine mg_i (As := [.int (xs (nI i + 1).toNatClampNeg), .int (xs (nI i + 2).toNatClampNeg), .int (xs (nI i + 3).toNatClampNeg), .int (xs (nI i + 4).toNatClampNeg), .int (xs (nI i + 5).toNatClampNeg), .int (xs (nI i + 6).toNatClampNeg)]) (rest := [.int ((f_X1_matrix en (xs (nI i + 1).toNatClampNeg) (xs (nI i + 2).toNatClampNeg) (xs (nI i + 3).toNatClampNeg) (xs (nI i + 4).toNatClampNeg) (xs (nI i + 5).toNatClampNeg) (xs (nI i + 6).toNatClampNeg)).1)]) (wr := xW hx (lwX (rk) (rn) ((f_X1_matrix en (xs (nI i + 1).toNatClampNeg) (xs (nI i + 2).toNatClampNeg) (xs (nI i + 3).toNatClampNeg) (xs (nI i + 4).toNatClampNeg) (xs (nI i + 5).toNatClampNeg) (xs (nI i + 6).toNatClampNeg)).2) (mx) (my))) ⟨hx9, hb, hml, hown, htl⟩ cM 6 gL_law_X1_matrix rfl rfl rfl hdV_X1_matrix ⟨Nat.le_of_ble_eq_true rfl, Nat.le_of_ble_eq_true rfl⟩ hP hD hK hS hA hT1 [0, 1, 2] [3] rfl rfl rfl rfl rfl (by decide) rfl hl.1 rfl (Nat.le_of_ble_eq_true rfl) dL_law_344 ⟨Nat.le_of_ble_eq_true rfl, Nat.le_of_ble_eq_true rfl⟩ (fun H locs hP hD hS => ?_)
  refine lv_icmp_eq (tgt := 545) hx9 hb dL_law_347 (by decide) (fun _ => ?_) (fun h => absurd rfl h)
  exact kk (rk) (rn) (mx) (my) (vb) ((f_X1_matrix en (xs (nI i + 1).toNatClampNeg) (xs (nI i + 2).toNatClampNeg) (xs (nI i + 3).toNatClampNeg) (xs (nI i + 4).toNatClampNeg) (xs (nI i + 5).toNatClampNeg) (xs (nI i + 6).toNatClampNeg)).2) (nx) (k_matrix hok (xs (nI i + 1).toNatClampNeg) (xs (nI i + 2).toNatClampNeg) (xs (nI i + 3).toNatClampNeg) (xs (nI i + 4).toNatClampNeg) (xs (nI i + 5).toNatClampNeg) (xs (nI i + 6).toNatClampNeg)) H locs hP hD hS
set_option maxHeartbeats 4000000 in
set_option maxRecDepth 100000 in
theorem lc_entry {p : Program} {e : Env} {s : State} {m : MethodId} {below : List Frame} {meth : Method} {c : Code} {dC : Nat → ClassId} {dI : Nat → Nat → Nat} {b L : Nat} {xs : Nat → Int32} {hx m0 m1 m2 : Nat} {cI cL : ClassId} (l : Launch) (hL : L ≤ 3584) (C0 : lw_At p s m meth c b L xs) (hK : va_K (dC, dI) vwCl (mT cI cL) s) (hT0 : tbS "FixedPlane" (fun q => s.heap.size ≤ q) s s.heap) (hT1 : tbS "FixedPlaneModel" (fun q => s.heap.size ≤ q) s s.heap) {i : Nat} (hi : i + 7 ≤ L) {rk rn mx my vb : Int32} {en : Nat → Int32} {nx : Nat → Int64} (hok : okE en) {H : Heap} {locs : List Loc} (hP : va_P (dC, dI) vwCl (lwS hx m0 m1 m2 cI cL rk rn en nx mx my vb) H) (hD : va_D (fun q : Nat => s.heap.size ≤ q) (lwS hx m0 m1 m2 cI cL rk rn en nx mx my vb)) (hS : va_S (fun q : Nat => s.heap.size ≤ q) s.heap H locs) {ls : Array Slot} (hl : lv_has ls 4 [(0, .ref b), (1, .ref hx), (2, .ref m0), (3, .int (nI i))]) (kk : lwK p l e s m below meth c dC dI b hx m0 m1 m2 cI cL 545 ls) : W p l e room_1 s m #[Value.ref b] below meth c H locs 4 29 (lw_Z below #[Value.ref b] s) (F0 m 352 ls []) := by
  obtain ⟨hx9, hb, hr, hml, hown, hts, hX, hbl, hlocks, hgv⟩ := C0
  have hA : ∀ q : Nat, s.heap.size ≤ q → (fun q : Nat => s.heap.size ≤ q) q := fun _ h => h
  have hbA : ¬ (fun q : Nat => s.heap.size ≤ q) b := Nat.not_le.mpr hbl
  have hb : c.code = cL_law := hb
  have hown : s.vm.findClass RL = some m.cls := hown
  have htl : ∀ w ∈ wsL_law, w.before #[Value.ref b] s = true := fun w h => hts w (wsL_law_in w h)
  refine lv_aload_n hx9 hb dL_law_352 rfl (lv_at hl 1 rfl) ?_
  refine lv_aload_n hx9 hb dL_law_353 rfl (lv_at hl 0 rfl) ?_
  refine lv_iload_n hx9 hb dL_law_354 rfl (lv_at hl 3 rfl) ?_
  refine lv_iconst (v := 1) hx9 hb dL_law_355 (by decide) ?_
  refine lv_iadd hx9 hb dL_law_356 ?_
  refine va_sld hx9 hb hX hbl hbA hS (lw_ix (k := 1) hi hL (by decide)) dL_law_357 ?_
  have cX : Met l yX0_entry wsX0_entry rm_X0_entry (va_Pc (.ref hx :: [.int (xs (nI i + 1).toNatClampNeg)]) (xPre dC dI hx H.size (lwX (rk) (rn) (en) (mx) (my)))) (xQi dC dI hx (va_A (xW hx (lwX (rk) (rn) (en) (mx) (my))) H.size) ((f_X1_entry en (xs (nI i + 1).toNatClampNeg))) (lwX (rk) (rn) (en) (mx) (my))) 0 0 (va_A (xW hx (lwX (rk) (rn) (en) (mx) (my))) H.size) := by
    have q := cc_X0_entry l dC dI hx H.size rk rn (en 0) (en 1) (en 2) (en 3) (en 4) (en 5) mx my (xs (nI i + 1).toNatClampNeg)
    rw [e_entry en (xs (nI i + 1).toNatClampNeg)] at q
    exact q
  refine xg_i (As := [.int (xs (nI i + 1).toNatClampNeg)]) (rest := []) (wr := mW m0 m1 m2 cI cL (lwM (rk) (rn) (en) (nx) (mx) (my) (vb))) ⟨hx9, hb, hml, hown, htl⟩ cX 1 gL_law_X0_entry rfl rfl rfl hdV_X0_entry ⟨Nat.le_of_ble_eq_true rfl, Nat.le_of_ble_eq_true rfl⟩ hP hD (hK.sub (tys' := []) [] rfl) hS hA hT0 [0] [1, 2, 3] rfl rfl rfl rfl rfl (by decide) rfl hl.1 rfl (Nat.le_of_ble_eq_true rfl) dL_law_358 ⟨Nat.le_of_ble_eq_true rfl, Nat.le_of_ble_eq_true rfl⟩ (fun H locs hP hD hS => ?_)
  refine lv_aload_n hx9 hb dL_law_361 rfl (lv_at hl 2 rfl) ?_
  refine lv_aload_n hx9 hb dL_law_362 rfl (lv_at hl 0 rfl) ?_
  refine lv_iload_n hx9 hb dL_law_363 rfl (lv_at hl 3 rfl) ?_
  refine lv_iconst (v := 1) hx9 hb dL_law_364 (by decide) ?_
  refine lv_iadd hx9 hb dL_law_365 ?_
  refine va_sld hx9 hb hX hbl hbA hS (lw_ix (k := 1) hi hL (by decide)) dL_law_366 ?_
  have cM : Met l yX1_entry wsX1_entry rm_X1_entry (va_Pc (.ref m0 :: [.int (xs (nI i + 1).toNatClampNeg)]) (mPre dC dI m0 m1 m2 cI cL H.size (lwM (rk) (rn) (en) (nx) (mx) (my) (vb)))) (mQi dC dI m0 m1 m2 cI cL (va_A (mW m0 m1 m2 cI cL (lwM (rk) (rn) (en) (nx) (mx) (my) (vb))) H.size) ((f_X1_entry en (xs (nI i + 1).toNatClampNeg))) (lwM (rk) (rn) (en) (nx) (mx) (my) (vb))) 0 0 (va_A (mW m0 m1 m2 cI cL (lwM (rk) (rn) (en) (nx) (mx) (my) (vb))) H.size) := cc_X1_entry l dC dI m0 m1 m2 cI cL H.size rk rn en nx mx my vb (xs (nI i + 1).toNatClampNeg)
  refine mg_i (As := [.int (xs (nI i + 1).toNatClampNeg)]) (rest := [.int ((f_X1_entry en (xs (nI i + 1).toNatClampNeg)))]) (wr := xW hx (lwX (rk) (rn) (en) (mx) (my))) ⟨hx9, hb, hml, hown, htl⟩ cM 1 gL_law_X1_entry rfl rfl rfl hdV_X1_entry ⟨Nat.le_of_ble_eq_true rfl, Nat.le_of_ble_eq_true rfl⟩ hP hD hK hS hA hT1 [0, 1, 2] [3] rfl rfl rfl rfl rfl (by decide) rfl hl.1 rfl (Nat.le_of_ble_eq_true rfl) dL_law_367 ⟨Nat.le_of_ble_eq_true rfl, Nat.le_of_ble_eq_true rfl⟩ (fun H locs hP hD hS => ?_)
  refine lv_icmp_eq (tgt := 545) hx9 hb dL_law_370 (by decide) (fun _ => ?_) (fun h => absurd rfl h)
  exact kk (rk) (rn) (mx) (my) (vb) (en) (nx) hok H locs hP hD hS
set_option maxHeartbeats 4000000 in
set_option maxRecDepth 100000 in
theorem lc_before {p : Program} {e : Env} {s : State} {m : MethodId} {below : List Frame} {meth : Method} {c : Code} {dC : Nat → ClassId} {dI : Nat → Nat → Nat} {b L : Nat} {xs : Nat → Int32} {hx m0 m1 m2 : Nat} {cI cL : ClassId} (l : Launch) (hL : L ≤ 3584) (C0 : lw_At p s m meth c b L xs) (hK : va_K (dC, dI) vwCl (mT cI cL) s) (hT0 : tbS "FixedPlane" (fun q => s.heap.size ≤ q) s s.heap) (hT1 : tbS "FixedPlaneModel" (fun q => s.heap.size ≤ q) s s.heap) {i : Nat} (hi : i + 7 ≤ L) {rk rn mx my vb : Int32} {en : Nat → Int32} {nx : Nat → Int64} (hok : okE en) {H : Heap} {locs : List Loc} (hP : va_P (dC, dI) vwCl (lwS hx m0 m1 m2 cI cL rk rn en nx mx my vb) H) (hD : va_D (fun q : Nat => s.heap.size ≤ q) (lwS hx m0 m1 m2 cI cL rk rn en nx mx my vb)) (hS : va_S (fun q : Nat => s.heap.size ≤ q) s.heap H locs) {ls : Array Slot} (hl : lv_has ls 4 [(0, .ref b), (1, .ref hx), (2, .ref m0), (3, .int (nI i))]) (kk : lwK p l e s m below meth c dC dI b hx m0 m1 m2 cI cL 545 ls) : W p l e room_1 s m #[Value.ref b] below meth c H locs 4 29 (lw_Z below #[Value.ref b] s) (F0 m 375 ls []) := by
  obtain ⟨hx9, hb, hr, hml, hown, hts, hX, hbl, hlocks, hgv⟩ := C0
  have hA : ∀ q : Nat, s.heap.size ≤ q → (fun q : Nat => s.heap.size ≤ q) q := fun _ h => h
  have hbA : ¬ (fun q : Nat => s.heap.size ≤ q) b := Nat.not_le.mpr hbl
  have hb : c.code = cL_law := hb
  have hown : s.vm.findClass RL = some m.cls := hown
  have htl : ∀ w ∈ wsL_law, w.before #[Value.ref b] s = true := fun w h => hts w (wsL_law_in w h)
  refine lv_aload_n hx9 hb dL_law_375 rfl (lv_at hl 1 rfl) ?_
  refine lv_aload_n hx9 hb dL_law_376 rfl (lv_at hl 0 rfl) ?_
  refine lv_iload_n hx9 hb dL_law_377 rfl (lv_at hl 3 rfl) ?_
  refine lv_iconst (v := 1) hx9 hb dL_law_378 (by decide) ?_
  refine lv_iadd hx9 hb dL_law_379 ?_
  refine va_sld hx9 hb hX hbl hbA hS (lw_ix (k := 1) hi hL (by decide)) dL_law_380 ?_
  refine lv_aload_n hx9 hb dL_law_381 rfl (lv_at hl 0 rfl) ?_
  refine lv_iload_n hx9 hb dL_law_382 rfl (lv_at hl 3 rfl) ?_
  refine lv_iconst (v := 2) hx9 hb dL_law_383 (by decide) ?_
  refine lv_iadd hx9 hb dL_law_384 ?_
  refine va_sld hx9 hb hX hbl hbA hS (lw_ix (k := 2) hi hL (by decide)) dL_law_385 ?_
  refine lv_aload_n hx9 hb dL_law_386 rfl (lv_at hl 0 rfl) ?_
  refine lv_iload_n hx9 hb dL_law_387 rfl (lv_at hl 3 rfl) ?_
  refine lv_iconst (v := 3) hx9 hb dL_law_388 (by decide) ?_
  refine lv_iadd hx9 hb dL_law_389 ?_
  refine va_sld hx9 hb hX hbl hbA hS (lw_ix (k := 3) hi hL (by decide)) dL_law_390 ?_
  refine lv_aload_n hx9 hb dL_law_391 rfl (lv_at hl 0 rfl) ?_
  refine lv_iload_n hx9 hb dL_law_392 rfl (lv_at hl 3 rfl) ?_
  refine lv_iconst (v := 4) hx9 hb dL_law_393 (by decide) ?_
  refine lv_iadd hx9 hb dL_law_394 ?_
  refine va_sld hx9 hb hX hbl hbA hS (lw_ix (k := 4) hi hL (by decide)) dL_law_395 ?_
  refine lv_aload_n hx9 hb dL_law_396 rfl (lv_at hl 0 rfl) ?_
  refine lv_iload_n hx9 hb dL_law_397 rfl (lv_at hl 3 rfl) ?_
  refine lv_iconst (v := 5) hx9 hb dL_law_398 (by decide) ?_
  refine lv_iadd hx9 hb dL_law_399 ?_
  refine va_sld hx9 hb hX hbl hbA hS (lw_ix (k := 5) hi hL (by decide)) dL_law_400 ?_
  refine lv_aload_n hx9 hb dL_law_401 rfl (lv_at hl 0 rfl) ?_
  refine lv_iload_n hx9 hb dL_law_402 rfl (lv_at hl 3 rfl) ?_
  refine lv_bipush (v := 6) hx9 hb dL_law_403 (by decide) ?_
  refine lv_iadd hx9 hb dL_law_405 ?_
  refine va_sld hx9 hb hX hbl hbA hS (lw_ix (k := 6) hi hL (by decide)) dL_law_406 ?_
  have cX : Met l yX0_before wsX0_before rm_X0_before (va_Pc (.ref hx :: [.int (xs (nI i + 1).toNatClampNeg), .int (xs (nI i + 2).toNatClampNeg), .int (xs (nI i + 3).toNatClampNeg), .int (xs (nI i + 4).toNatClampNeg), .int (xs (nI i + 5).toNatClampNeg), .int (xs (nI i + 6).toNatClampNeg)]) (xPre dC dI hx H.size (lwX (rk) (rn) (en) (mx) (my)))) (xQi dC dI hx (va_A (xW hx (lwX (rk) (rn) (en) (mx) (my))) H.size) ((f_X1_before en nx (xs (nI i + 1).toNatClampNeg) (xs (nI i + 2).toNatClampNeg) (xs (nI i + 3).toNatClampNeg) (xs (nI i + 4).toNatClampNeg) (xs (nI i + 5).toNatClampNeg) (xs (nI i + 6).toNatClampNeg)).1) (lwX (rk) (rn) ((f_X1_before en nx (xs (nI i + 1).toNatClampNeg) (xs (nI i + 2).toNatClampNeg) (xs (nI i + 3).toNatClampNeg) (xs (nI i + 4).toNatClampNeg) (xs (nI i + 5).toNatClampNeg) (xs (nI i + 6).toNatClampNeg)).2.1) (mx) (my))) 0 0 (va_A (xW hx (lwX (rk) (rn) (en) (mx) (my))) H.size) := by
    have q := cc_X0_before l dC dI hx H.size rk rn (en 0) (en 1) (en 2) (en 3) (en 4) (en 5) mx my (xs (nI i + 1).toNatClampNeg) (xs (nI i + 2).toNatClampNeg) (xs (nI i + 3).toNatClampNeg) (xs (nI i + 4).toNatClampNeg) (xs (nI i + 5).toNatClampNeg) (xs (nI i + 6).toNatClampNeg)
    rw [e_before en nx (xs (nI i + 1).toNatClampNeg) (xs (nI i + 2).toNatClampNeg) (xs (nI i + 3).toNatClampNeg) (xs (nI i + 4).toNatClampNeg) (xs (nI i + 5).toNatClampNeg) (xs (nI i + 6).toNatClampNeg)] at q
    exact q
  refine xg_i (As := [.int (xs (nI i + 1).toNatClampNeg), .int (xs (nI i + 2).toNatClampNeg), .int (xs (nI i + 3).toNatClampNeg), .int (xs (nI i + 4).toNatClampNeg), .int (xs (nI i + 5).toNatClampNeg), .int (xs (nI i + 6).toNatClampNeg)]) (rest := []) (wr := mW m0 m1 m2 cI cL (lwM (rk) (rn) (en) (nx) (mx) (my) (vb))) ⟨hx9, hb, hml, hown, htl⟩ cX 6 gL_law_X0_before rfl rfl rfl hdV_X0_before ⟨Nat.le_of_ble_eq_true rfl, Nat.le_of_ble_eq_true rfl⟩ hP hD (hK.sub (tys' := []) [] rfl) hS hA hT0 [0] [1, 2, 3] rfl rfl rfl rfl rfl (by decide) rfl hl.1 rfl (Nat.le_of_ble_eq_true rfl) dL_law_407 ⟨Nat.le_of_ble_eq_true rfl, Nat.le_of_ble_eq_true rfl⟩ (fun H locs hP hD hS => ?_)
  refine lv_aload_n hx9 hb dL_law_410 rfl (lv_at hl 2 rfl) ?_
  refine lv_aload_n hx9 hb dL_law_411 rfl (lv_at hl 0 rfl) ?_
  refine lv_iload_n hx9 hb dL_law_412 rfl (lv_at hl 3 rfl) ?_
  refine lv_iconst (v := 1) hx9 hb dL_law_413 (by decide) ?_
  refine lv_iadd hx9 hb dL_law_414 ?_
  refine va_sld hx9 hb hX hbl hbA hS (lw_ix (k := 1) hi hL (by decide)) dL_law_415 ?_
  refine lv_aload_n hx9 hb dL_law_416 rfl (lv_at hl 0 rfl) ?_
  refine lv_iload_n hx9 hb dL_law_417 rfl (lv_at hl 3 rfl) ?_
  refine lv_iconst (v := 2) hx9 hb dL_law_418 (by decide) ?_
  refine lv_iadd hx9 hb dL_law_419 ?_
  refine va_sld hx9 hb hX hbl hbA hS (lw_ix (k := 2) hi hL (by decide)) dL_law_420 ?_
  refine lv_aload_n hx9 hb dL_law_421 rfl (lv_at hl 0 rfl) ?_
  refine lv_iload_n hx9 hb dL_law_422 rfl (lv_at hl 3 rfl) ?_
  refine lv_iconst (v := 3) hx9 hb dL_law_423 (by decide) ?_
  refine lv_iadd hx9 hb dL_law_424 ?_
  refine va_sld hx9 hb hX hbl hbA hS (lw_ix (k := 3) hi hL (by decide)) dL_law_425 ?_
  refine lv_aload_n hx9 hb dL_law_426 rfl (lv_at hl 0 rfl) ?_
  refine lv_iload_n hx9 hb dL_law_427 rfl (lv_at hl 3 rfl) ?_
  refine lv_iconst (v := 4) hx9 hb dL_law_428 (by decide) ?_
  refine lv_iadd hx9 hb dL_law_429 ?_
  refine va_sld hx9 hb hX hbl hbA hS (lw_ix (k := 4) hi hL (by decide)) dL_law_430 ?_
  refine lv_aload_n hx9 hb dL_law_431 rfl (lv_at hl 0 rfl) ?_
  refine lv_iload_n hx9 hb dL_law_432 rfl (lv_at hl 3 rfl) ?_
  refine lv_iconst (v := 5) hx9 hb dL_law_433 (by decide) ?_
  refine lv_iadd hx9 hb dL_law_434 ?_
  refine va_sld hx9 hb hX hbl hbA hS (lw_ix (k := 5) hi hL (by decide)) dL_law_435 ?_
  refine lv_aload_n hx9 hb dL_law_436 rfl (lv_at hl 0 rfl) ?_
  refine lv_iload_n hx9 hb dL_law_437 rfl (lv_at hl 3 rfl) ?_
  refine lv_bipush (v := 6) hx9 hb dL_law_438 (by decide) ?_
  refine lv_iadd hx9 hb dL_law_440 ?_
  refine va_sld hx9 hb hX hbl hbA hS (lw_ix (k := 6) hi hL (by decide)) dL_law_441 ?_
  have cM : Met l yX1_before wsX1_before rm_X1_before (va_Pc (.ref m0 :: [.int (xs (nI i + 1).toNatClampNeg), .int (xs (nI i + 2).toNatClampNeg), .int (xs (nI i + 3).toNatClampNeg), .int (xs (nI i + 4).toNatClampNeg), .int (xs (nI i + 5).toNatClampNeg), .int (xs (nI i + 6).toNatClampNeg)]) (mPre dC dI m0 m1 m2 cI cL H.size (lwM (rk) (rn) (en) (nx) (mx) (my) (vb)))) (mQi dC dI m0 m1 m2 cI cL (va_A (mW m0 m1 m2 cI cL (lwM (rk) (rn) (en) (nx) (mx) (my) (vb))) H.size) ((f_X1_before en nx (xs (nI i + 1).toNatClampNeg) (xs (nI i + 2).toNatClampNeg) (xs (nI i + 3).toNatClampNeg) (xs (nI i + 4).toNatClampNeg) (xs (nI i + 5).toNatClampNeg) (xs (nI i + 6).toNatClampNeg)).1) (lwM (rk) (rn) ((f_X1_before en nx (xs (nI i + 1).toNatClampNeg) (xs (nI i + 2).toNatClampNeg) (xs (nI i + 3).toNatClampNeg) (xs (nI i + 4).toNatClampNeg) (xs (nI i + 5).toNatClampNeg) (xs (nI i + 6).toNatClampNeg)).2.1) ((f_X1_before en nx (xs (nI i + 1).toNatClampNeg) (xs (nI i + 2).toNatClampNeg) (xs (nI i + 3).toNatClampNeg) (xs (nI i + 4).toNatClampNeg) (xs (nI i + 5).toNatClampNeg) (xs (nI i + 6).toNatClampNeg)).2.2) (mx) (my) (vb))) 0 0 (va_A (mW m0 m1 m2 cI cL (lwM (rk) (rn) (en) (nx) (mx) (my) (vb))) H.size) := cc_X1_before l dC dI m0 m1 m2 cI cL H.size rk rn en nx mx my vb (xs (nI i + 1).toNatClampNeg) (xs (nI i + 2).toNatClampNeg) (xs (nI i + 3).toNatClampNeg) (xs (nI i + 4).toNatClampNeg) (xs (nI i + 5).toNatClampNeg) (xs (nI i + 6).toNatClampNeg)
  refine mg_i (As := [.int (xs (nI i + 1).toNatClampNeg), .int (xs (nI i + 2).toNatClampNeg), .int (xs (nI i + 3).toNatClampNeg), .int (xs (nI i + 4).toNatClampNeg), .int (xs (nI i + 5).toNatClampNeg), .int (xs (nI i + 6).toNatClampNeg)]) (rest := [.int ((f_X1_before en nx (xs (nI i + 1).toNatClampNeg) (xs (nI i + 2).toNatClampNeg) (xs (nI i + 3).toNatClampNeg) (xs (nI i + 4).toNatClampNeg) (xs (nI i + 5).toNatClampNeg) (xs (nI i + 6).toNatClampNeg)).1)]) (wr := xW hx (lwX (rk) (rn) ((f_X1_before en nx (xs (nI i + 1).toNatClampNeg) (xs (nI i + 2).toNatClampNeg) (xs (nI i + 3).toNatClampNeg) (xs (nI i + 4).toNatClampNeg) (xs (nI i + 5).toNatClampNeg) (xs (nI i + 6).toNatClampNeg)).2.1) (mx) (my))) ⟨hx9, hb, hml, hown, htl⟩ cM 6 gL_law_X1_before rfl rfl rfl hdV_X1_before ⟨Nat.le_of_ble_eq_true rfl, Nat.le_of_ble_eq_true rfl⟩ hP hD hK hS hA hT1 [0, 1, 2] [3] rfl rfl rfl rfl rfl (by decide) rfl hl.1 rfl (Nat.le_of_ble_eq_true rfl) dL_law_442 ⟨Nat.le_of_ble_eq_true rfl, Nat.le_of_ble_eq_true rfl⟩ (fun H locs hP hD hS => ?_)
  refine lv_icmp_eq (tgt := 545) hx9 hb dL_law_445 (by decide) (fun _ => ?_) (fun h => absurd rfl h)
  exact kk (rk) (rn) (mx) (my) (vb) ((f_X1_before en nx (xs (nI i + 1).toNatClampNeg) (xs (nI i + 2).toNatClampNeg) (xs (nI i + 3).toNatClampNeg) (xs (nI i + 4).toNatClampNeg) (xs (nI i + 5).toNatClampNeg) (xs (nI i + 6).toNatClampNeg)).2.1) ((f_X1_before en nx (xs (nI i + 1).toNatClampNeg) (xs (nI i + 2).toNatClampNeg) (xs (nI i + 3).toNatClampNeg) (xs (nI i + 4).toNatClampNeg) (xs (nI i + 5).toNatClampNeg) (xs (nI i + 6).toNatClampNeg)).2.2) (k_before hok nx (xs (nI i + 1).toNatClampNeg) (xs (nI i + 2).toNatClampNeg) (xs (nI i + 3).toNatClampNeg) (xs (nI i + 4).toNatClampNeg) (xs (nI i + 5).toNatClampNeg) (xs (nI i + 6).toNatClampNeg)) H locs hP hD hS
set_option maxHeartbeats 4000000 in
set_option maxRecDepth 100000 in
theorem lc_invert {p : Program} {e : Env} {s : State} {m : MethodId} {below : List Frame} {meth : Method} {c : Code} {dC : Nat → ClassId} {dI : Nat → Nat → Nat} {b L : Nat} {xs : Nat → Int32} {hx m0 m1 m2 : Nat} {cI cL : ClassId} (l : Launch) (hL : L ≤ 3584) (C0 : lw_At p s m meth c b L xs) (hK : va_K (dC, dI) vwCl (mT cI cL) s) (hT0 : tbS "FixedPlane" (fun q => s.heap.size ≤ q) s s.heap) (hT1 : tbS "FixedPlaneModel" (fun q => s.heap.size ≤ q) s s.heap) {i : Nat} (hi : i + 7 ≤ L) {rk rn mx my vb : Int32} {en : Nat → Int32} {nx : Nat → Int64} (hok : okE en) {H : Heap} {locs : List Loc} (hP : va_P (dC, dI) vwCl (lwS hx m0 m1 m2 cI cL rk rn en nx mx my vb) H) (hD : va_D (fun q : Nat => s.heap.size ≤ q) (lwS hx m0 m1 m2 cI cL rk rn en nx mx my vb)) (hS : va_S (fun q : Nat => s.heap.size ≤ q) s.heap H locs) {ls : Array Slot} (hl : lv_has ls 4 [(0, .ref b), (1, .ref hx), (2, .ref m0), (3, .int (nI i))]) (kk : lwK p l e s m below meth c dC dI b hx m0 m1 m2 cI cL 545 ls) : W p l e room_1 s m #[Value.ref b] below meth c H locs 4 29 (lw_Z below #[Value.ref b] s) (F0 m 450 ls []) := by
  obtain ⟨hx9, hb, hr, hml, hown, hts, hX, hbl, hlocks, hgv⟩ := C0
  have hA : ∀ q : Nat, s.heap.size ≤ q → (fun q : Nat => s.heap.size ≤ q) q := fun _ h => h
  have hbA : ¬ (fun q : Nat => s.heap.size ≤ q) b := Nat.not_le.mpr hbl
  have hb : c.code = cL_law := hb
  have hown : s.vm.findClass RL = some m.cls := hown
  have htl : ∀ w ∈ wsL_law, w.before #[Value.ref b] s = true := fun w h => hts w (wsL_law_in w h)
  refine lv_aload_n hx9 hb dL_law_450 rfl (lv_at hl 1 rfl) ?_
  have cX : Met l yX0_invert wsX0_invert rm_X0_invert (va_Pc (.ref hx :: []) (xPre dC dI hx H.size (lwX (rk) (rn) (en) (mx) (my)))) (xQi dC dI hx (va_A (xW hx (lwX (rk) (rn) (en) (mx) (my))) H.size) ((f_X1_invert en nx vb).1) (lwX (rk) (rn) ((f_X1_invert en nx vb).2.1) (mx) (my))) 0 0 (va_A (xW hx (lwX (rk) (rn) (en) (mx) (my))) H.size) := by
    have q := cc_X0_invert l dC dI hx H.size rk rn (en 0) (en 1) (en 2) (en 3) (en 4) (en 5) mx my 
    rw [e_invert hok nx vb] at q
    exact q
  refine xg_i (As := []) (rest := []) (wr := mW m0 m1 m2 cI cL (lwM (rk) (rn) (en) (nx) (mx) (my) (vb))) ⟨hx9, hb, hml, hown, htl⟩ cX 0 gL_law_X0_invert rfl rfl rfl hdV_X0_invert ⟨Nat.le_of_ble_eq_true rfl, Nat.le_of_ble_eq_true rfl⟩ hP hD (hK.sub (tys' := []) [] rfl) hS hA hT0 [0] [1, 2, 3] rfl rfl rfl rfl rfl (by decide) rfl hl.1 rfl (Nat.le_of_ble_eq_true rfl) dL_law_451 ⟨Nat.le_of_ble_eq_true rfl, Nat.le_of_ble_eq_true rfl⟩ (fun H locs hP hD hS => ?_)
  refine lv_aload_n hx9 hb dL_law_454 rfl (lv_at hl 2 rfl) ?_
  have cM : Met l yX1_invert wsX1_invert rm_X1_invert (va_Pc (.ref m0 :: []) (mPre dC dI m0 m1 m2 cI cL H.size (lwM (rk) (rn) (en) (nx) (mx) (my) (vb)))) (mQi dC dI m0 m1 m2 cI cL (va_A (mW m0 m1 m2 cI cL (lwM (rk) (rn) (en) (nx) (mx) (my) (vb))) H.size) ((f_X1_invert en nx vb).1) (lwM (rk) (rn) ((f_X1_invert en nx vb).2.1) ((f_X1_invert en nx vb).2.2.1) (mx) (my) ((f_X1_invert en nx vb).2.2.2))) 0 0 (va_A (mW m0 m1 m2 cI cL (lwM (rk) (rn) (en) (nx) (mx) (my) (vb))) H.size) := cc_X1_invert l dC dI m0 m1 m2 cI cL H.size rk rn en nx mx my vb 
  refine mg_i (As := []) (rest := [.int ((f_X1_invert en nx vb).1)]) (wr := xW hx (lwX (rk) (rn) ((f_X1_invert en nx vb).2.1) (mx) (my))) ⟨hx9, hb, hml, hown, htl⟩ cM 0 gL_law_X1_invert rfl rfl rfl hdV_X1_invert ⟨Nat.le_of_ble_eq_true rfl, Nat.le_of_ble_eq_true rfl⟩ hP hD hK hS hA hT1 [0, 1, 2] [3] rfl rfl rfl rfl rfl (by decide) rfl hl.1 rfl (Nat.le_of_ble_eq_true rfl) dL_law_455 ⟨Nat.le_of_ble_eq_true rfl, Nat.le_of_ble_eq_true rfl⟩ (fun H locs hP hD hS => ?_)
  refine lv_icmp_eq (tgt := 545) hx9 hb dL_law_458 (by decide) (fun _ => ?_) (fun h => absurd rfl h)
  exact kk (rk) (rn) (mx) (my) ((f_X1_invert en nx vb).2.2.2) ((f_X1_invert en nx vb).2.1) ((f_X1_invert en nx vb).2.2.1) (k_invert hok nx vb) H locs hP hD hS
set_option maxHeartbeats 4000000 in
set_option maxRecDepth 100000 in
theorem lc_move {p : Program} {e : Env} {s : State} {m : MethodId} {below : List Frame} {meth : Method} {c : Code} {dC : Nat → ClassId} {dI : Nat → Nat → Nat} {b L : Nat} {xs : Nat → Int32} {hx m0 m1 m2 : Nat} {cI cL : ClassId} (l : Launch) (hL : L ≤ 3584) (C0 : lw_At p s m meth c b L xs) (hK : va_K (dC, dI) vwCl (mT cI cL) s) (hT0 : tbS "FixedPlane" (fun q => s.heap.size ≤ q) s s.heap) (hT1 : tbS "FixedPlaneModel" (fun q => s.heap.size ≤ q) s s.heap) {i : Nat} (hi : i + 7 ≤ L) {rk rn mx my vb : Int32} {en : Nat → Int32} {nx : Nat → Int64} (hok : okE en) {H : Heap} {locs : List Loc} (hP : va_P (dC, dI) vwCl (lwS hx m0 m1 m2 cI cL rk rn en nx mx my vb) H) (hD : va_D (fun q : Nat => s.heap.size ≤ q) (lwS hx m0 m1 m2 cI cL rk rn en nx mx my vb)) (hS : va_S (fun q : Nat => s.heap.size ≤ q) s.heap H locs) {ls : Array Slot} (hl : lv_has ls 4 [(0, .ref b), (1, .ref hx), (2, .ref m0), (3, .int (nI i))]) (kk : lwK p l e s m below meth c dC dI b hx m0 m1 m2 cI cL 545 ls) : W p l e room_1 s m #[Value.ref b] below meth c H locs 4 29 (lw_Z below #[Value.ref b] s) (F0 m 463 ls []) := by
  obtain ⟨hx9, hb, hr, hml, hown, hts, hX, hbl, hlocks, hgv⟩ := C0
  have hA : ∀ q : Nat, s.heap.size ≤ q → (fun q : Nat => s.heap.size ≤ q) q := fun _ h => h
  have hbA : ¬ (fun q : Nat => s.heap.size ≤ q) b := Nat.not_le.mpr hbl
  have hb : c.code = cL_law := hb
  have hown : s.vm.findClass RL = some m.cls := hown
  have htl : ∀ w ∈ wsL_law, w.before #[Value.ref b] s = true := fun w h => hts w (wsL_law_in w h)
  refine lv_aload_n hx9 hb dL_law_463 rfl (lv_at hl 1 rfl) ?_
  refine lv_aload_n hx9 hb dL_law_464 rfl (lv_at hl 0 rfl) ?_
  refine lv_iload_n hx9 hb dL_law_465 rfl (lv_at hl 3 rfl) ?_
  refine lv_iconst (v := 1) hx9 hb dL_law_466 (by decide) ?_
  refine lv_iadd hx9 hb dL_law_467 ?_
  refine va_sld hx9 hb hX hbl hbA hS (lw_ix (k := 1) hi hL (by decide)) dL_law_468 ?_
  refine lv_aload_n hx9 hb dL_law_469 rfl (lv_at hl 0 rfl) ?_
  refine lv_iload_n hx9 hb dL_law_470 rfl (lv_at hl 3 rfl) ?_
  refine lv_iconst (v := 2) hx9 hb dL_law_471 (by decide) ?_
  refine lv_iadd hx9 hb dL_law_472 ?_
  refine va_sld hx9 hb hX hbl hbA hS (lw_ix (k := 2) hi hL (by decide)) dL_law_473 ?_
  refine lv_aload_n hx9 hb dL_law_474 rfl (lv_at hl 0 rfl) ?_
  refine lv_iload_n hx9 hb dL_law_475 rfl (lv_at hl 3 rfl) ?_
  refine lv_iconst (v := 3) hx9 hb dL_law_476 (by decide) ?_
  refine lv_iadd hx9 hb dL_law_477 ?_
  refine va_sld hx9 hb hX hbl hbA hS (lw_ix (k := 3) hi hL (by decide)) dL_law_478 ?_
  refine lv_if_eq (tgt := 486) hx9 hb dL_law_479 (by decide) (fun hv => ?_) (fun hv => ?_)
  · refine lv_iconst (v := 0) hx9 hb dL_law_486 (by decide) ?_
    have cX : Met l yX0_move wsX0_move rm_X0_move (va_Pc (.ref hx :: [.int (xs (nI i + 1).toNatClampNeg), .int (xs (nI i + 2).toNatClampNeg), .int (0)]) (xPre dC dI hx H.size (lwX (rk) (rn) (en) (mx) (my)))) (xQi dC dI hx (va_A (xW hx (lwX (rk) (rn) (en) (mx) (my))) H.size) ((f_X1_move en mx my (xs (nI i + 1).toNatClampNeg) (xs (nI i + 2).toNatClampNeg) (0)).1) (lwX (rk) (rn) (en) ((f_X1_move en mx my (xs (nI i + 1).toNatClampNeg) (xs (nI i + 2).toNatClampNeg) (0)).2.1) ((f_X1_move en mx my (xs (nI i + 1).toNatClampNeg) (xs (nI i + 2).toNatClampNeg) (0)).2.2))) 0 0 (va_A (xW hx (lwX (rk) (rn) (en) (mx) (my))) H.size) := by
      have q := cc_X0_move l dC dI hx H.size rk rn (en 0) (en 1) (en 2) (en 3) (en 4) (en 5) mx my (xs (nI i + 1).toNatClampNeg) (xs (nI i + 2).toNatClampNeg) (0)
      rw [e_move en mx my (xs (nI i + 1).toNatClampNeg) (xs (nI i + 2).toNatClampNeg) (0)] at q
      exact q
    refine xg_i (As := [.int (xs (nI i + 1).toNatClampNeg), .int (xs (nI i + 2).toNatClampNeg), .int (0)]) (rest := []) (wr := mW m0 m1 m2 cI cL (lwM (rk) (rn) (en) (nx) (mx) (my) (vb))) ⟨hx9, hb, hml, hown, htl⟩ cX 3 gL_law_X0_move rfl rfl rfl hdV_X0_move ⟨Nat.le_of_ble_eq_true rfl, Nat.le_of_ble_eq_true rfl⟩ hP hD (hK.sub (tys' := []) [] rfl) hS hA hT0 [0] [1, 2, 3] rfl rfl rfl rfl rfl (by decide) rfl hl.1 rfl (Nat.le_of_ble_eq_true rfl) dL_law_487 ⟨Nat.le_of_ble_eq_true rfl, Nat.le_of_ble_eq_true rfl⟩ (fun H locs hP hD hS => ?_)
    refine lv_aload_n hx9 hb dL_law_490 rfl (lv_at hl 2 rfl) ?_
    refine lv_aload_n hx9 hb dL_law_491 rfl (lv_at hl 0 rfl) ?_
    refine lv_iload_n hx9 hb dL_law_492 rfl (lv_at hl 3 rfl) ?_
    refine lv_iconst (v := 1) hx9 hb dL_law_493 (by decide) ?_
    refine lv_iadd hx9 hb dL_law_494 ?_
    refine va_sld hx9 hb hX hbl hbA hS (lw_ix (k := 1) hi hL (by decide)) dL_law_495 ?_
    refine lv_aload_n hx9 hb dL_law_496 rfl (lv_at hl 0 rfl) ?_
    refine lv_iload_n hx9 hb dL_law_497 rfl (lv_at hl 3 rfl) ?_
    refine lv_iconst (v := 2) hx9 hb dL_law_498 (by decide) ?_
    refine lv_iadd hx9 hb dL_law_499 ?_
    refine va_sld hx9 hb hX hbl hbA hS (lw_ix (k := 2) hi hL (by decide)) dL_law_500 ?_
    refine lv_aload_n hx9 hb dL_law_501 rfl (lv_at hl 0 rfl) ?_
    refine lv_iload_n hx9 hb dL_law_502 rfl (lv_at hl 3 rfl) ?_
    refine lv_iconst (v := 3) hx9 hb dL_law_503 (by decide) ?_
    refine lv_iadd hx9 hb dL_law_504 ?_
    refine va_sld hx9 hb hX hbl hbA hS (lw_ix (k := 3) hi hL (by decide)) dL_law_505 ?_
    refine lv_if_eq (tgt := 513) hx9 hb dL_law_506 (by decide) (fun _ => ?_) (fun h => absurd hv h)
    refine lv_iconst (v := 0) hx9 hb dL_law_513 (by decide) ?_
    have cM : Met l yX1_move wsX1_move rm_X1_move (va_Pc (.ref m0 :: [.int (xs (nI i + 1).toNatClampNeg), .int (xs (nI i + 2).toNatClampNeg), .int (0)]) (mPre dC dI m0 m1 m2 cI cL H.size (lwM (rk) (rn) (en) (nx) (mx) (my) (vb)))) (mQi dC dI m0 m1 m2 cI cL (va_A (mW m0 m1 m2 cI cL (lwM (rk) (rn) (en) (nx) (mx) (my) (vb))) H.size) ((f_X1_move en mx my (xs (nI i + 1).toNatClampNeg) (xs (nI i + 2).toNatClampNeg) (0)).1) (lwM (rk) (rn) (en) (nx) ((f_X1_move en mx my (xs (nI i + 1).toNatClampNeg) (xs (nI i + 2).toNatClampNeg) (0)).2.1) ((f_X1_move en mx my (xs (nI i + 1).toNatClampNeg) (xs (nI i + 2).toNatClampNeg) (0)).2.2) (vb))) 0 0 (va_A (mW m0 m1 m2 cI cL (lwM (rk) (rn) (en) (nx) (mx) (my) (vb))) H.size) := cc_X1_move l dC dI m0 m1 m2 cI cL H.size rk rn en nx mx my vb (xs (nI i + 1).toNatClampNeg) (xs (nI i + 2).toNatClampNeg) (0)
    refine mg_i (As := [.int (xs (nI i + 1).toNatClampNeg), .int (xs (nI i + 2).toNatClampNeg), .int (0)]) (rest := [.int ((f_X1_move en mx my (xs (nI i + 1).toNatClampNeg) (xs (nI i + 2).toNatClampNeg) (0)).1)]) (wr := xW hx (lwX (rk) (rn) (en) ((f_X1_move en mx my (xs (nI i + 1).toNatClampNeg) (xs (nI i + 2).toNatClampNeg) (0)).2.1) ((f_X1_move en mx my (xs (nI i + 1).toNatClampNeg) (xs (nI i + 2).toNatClampNeg) (0)).2.2))) ⟨hx9, hb, hml, hown, htl⟩ cM 3 gL_law_X1_move rfl rfl rfl hdV_X1_move ⟨Nat.le_of_ble_eq_true rfl, Nat.le_of_ble_eq_true rfl⟩ hP hD hK hS hA hT1 [0, 1, 2] [3] rfl rfl rfl rfl rfl (by decide) rfl hl.1 rfl (Nat.le_of_ble_eq_true rfl) dL_law_514 ⟨Nat.le_of_ble_eq_true rfl, Nat.le_of_ble_eq_true rfl⟩ (fun H locs hP hD hS => ?_)
    refine lv_icmp_eq (tgt := 545) hx9 hb dL_law_517 (by decide) (fun _ => ?_) (fun h => absurd rfl h)
    exact kk (rk) (rn) ((f_X1_move en mx my (xs (nI i + 1).toNatClampNeg) (xs (nI i + 2).toNatClampNeg) (0)).2.1) ((f_X1_move en mx my (xs (nI i + 1).toNatClampNeg) (xs (nI i + 2).toNatClampNeg) (0)).2.2) (vb) (en) (nx) hok H locs hP hD hS
  · refine lv_iconst (v := 1) hx9 hb dL_law_482 (by decide) ?_
    refine lv_goto (tgt := 487) hx9 hb dL_law_483 (by decide) ?_
    have cX : Met l yX0_move wsX0_move rm_X0_move (va_Pc (.ref hx :: [.int (xs (nI i + 1).toNatClampNeg), .int (xs (nI i + 2).toNatClampNeg), .int (1)]) (xPre dC dI hx H.size (lwX (rk) (rn) (en) (mx) (my)))) (xQi dC dI hx (va_A (xW hx (lwX (rk) (rn) (en) (mx) (my))) H.size) ((f_X1_move en mx my (xs (nI i + 1).toNatClampNeg) (xs (nI i + 2).toNatClampNeg) (1)).1) (lwX (rk) (rn) (en) ((f_X1_move en mx my (xs (nI i + 1).toNatClampNeg) (xs (nI i + 2).toNatClampNeg) (1)).2.1) ((f_X1_move en mx my (xs (nI i + 1).toNatClampNeg) (xs (nI i + 2).toNatClampNeg) (1)).2.2))) 0 0 (va_A (xW hx (lwX (rk) (rn) (en) (mx) (my))) H.size) := by
      have q := cc_X0_move l dC dI hx H.size rk rn (en 0) (en 1) (en 2) (en 3) (en 4) (en 5) mx my (xs (nI i + 1).toNatClampNeg) (xs (nI i + 2).toNatClampNeg) (1)
      rw [e_move en mx my (xs (nI i + 1).toNatClampNeg) (xs (nI i + 2).toNatClampNeg) (1)] at q
      exact q
    refine xg_i (As := [.int (xs (nI i + 1).toNatClampNeg), .int (xs (nI i + 2).toNatClampNeg), .int (1)]) (rest := []) (wr := mW m0 m1 m2 cI cL (lwM (rk) (rn) (en) (nx) (mx) (my) (vb))) ⟨hx9, hb, hml, hown, htl⟩ cX 3 gL_law_X0_move rfl rfl rfl hdV_X0_move ⟨Nat.le_of_ble_eq_true rfl, Nat.le_of_ble_eq_true rfl⟩ hP hD (hK.sub (tys' := []) [] rfl) hS hA hT0 [0] [1, 2, 3] rfl rfl rfl rfl rfl (by decide) rfl hl.1 rfl (Nat.le_of_ble_eq_true rfl) dL_law_487 ⟨Nat.le_of_ble_eq_true rfl, Nat.le_of_ble_eq_true rfl⟩ (fun H locs hP hD hS => ?_)
    refine lv_aload_n hx9 hb dL_law_490 rfl (lv_at hl 2 rfl) ?_
    refine lv_aload_n hx9 hb dL_law_491 rfl (lv_at hl 0 rfl) ?_
    refine lv_iload_n hx9 hb dL_law_492 rfl (lv_at hl 3 rfl) ?_
    refine lv_iconst (v := 1) hx9 hb dL_law_493 (by decide) ?_
    refine lv_iadd hx9 hb dL_law_494 ?_
    refine va_sld hx9 hb hX hbl hbA hS (lw_ix (k := 1) hi hL (by decide)) dL_law_495 ?_
    refine lv_aload_n hx9 hb dL_law_496 rfl (lv_at hl 0 rfl) ?_
    refine lv_iload_n hx9 hb dL_law_497 rfl (lv_at hl 3 rfl) ?_
    refine lv_iconst (v := 2) hx9 hb dL_law_498 (by decide) ?_
    refine lv_iadd hx9 hb dL_law_499 ?_
    refine va_sld hx9 hb hX hbl hbA hS (lw_ix (k := 2) hi hL (by decide)) dL_law_500 ?_
    refine lv_aload_n hx9 hb dL_law_501 rfl (lv_at hl 0 rfl) ?_
    refine lv_iload_n hx9 hb dL_law_502 rfl (lv_at hl 3 rfl) ?_
    refine lv_iconst (v := 3) hx9 hb dL_law_503 (by decide) ?_
    refine lv_iadd hx9 hb dL_law_504 ?_
    refine va_sld hx9 hb hX hbl hbA hS (lw_ix (k := 3) hi hL (by decide)) dL_law_505 ?_
    refine lv_if_eq (tgt := 513) hx9 hb dL_law_506 (by decide) (fun h => absurd h hv) (fun _ => ?_)
    refine lv_iconst (v := 1) hx9 hb dL_law_509 (by decide) ?_
    refine lv_goto (tgt := 514) hx9 hb dL_law_510 (by decide) ?_
    have cM : Met l yX1_move wsX1_move rm_X1_move (va_Pc (.ref m0 :: [.int (xs (nI i + 1).toNatClampNeg), .int (xs (nI i + 2).toNatClampNeg), .int (1)]) (mPre dC dI m0 m1 m2 cI cL H.size (lwM (rk) (rn) (en) (nx) (mx) (my) (vb)))) (mQi dC dI m0 m1 m2 cI cL (va_A (mW m0 m1 m2 cI cL (lwM (rk) (rn) (en) (nx) (mx) (my) (vb))) H.size) ((f_X1_move en mx my (xs (nI i + 1).toNatClampNeg) (xs (nI i + 2).toNatClampNeg) (1)).1) (lwM (rk) (rn) (en) (nx) ((f_X1_move en mx my (xs (nI i + 1).toNatClampNeg) (xs (nI i + 2).toNatClampNeg) (1)).2.1) ((f_X1_move en mx my (xs (nI i + 1).toNatClampNeg) (xs (nI i + 2).toNatClampNeg) (1)).2.2) (vb))) 0 0 (va_A (mW m0 m1 m2 cI cL (lwM (rk) (rn) (en) (nx) (mx) (my) (vb))) H.size) := cc_X1_move l dC dI m0 m1 m2 cI cL H.size rk rn en nx mx my vb (xs (nI i + 1).toNatClampNeg) (xs (nI i + 2).toNatClampNeg) (1)
    refine mg_i (As := [.int (xs (nI i + 1).toNatClampNeg), .int (xs (nI i + 2).toNatClampNeg), .int (1)]) (rest := [.int ((f_X1_move en mx my (xs (nI i + 1).toNatClampNeg) (xs (nI i + 2).toNatClampNeg) (1)).1)]) (wr := xW hx (lwX (rk) (rn) (en) ((f_X1_move en mx my (xs (nI i + 1).toNatClampNeg) (xs (nI i + 2).toNatClampNeg) (1)).2.1) ((f_X1_move en mx my (xs (nI i + 1).toNatClampNeg) (xs (nI i + 2).toNatClampNeg) (1)).2.2))) ⟨hx9, hb, hml, hown, htl⟩ cM 3 gL_law_X1_move rfl rfl rfl hdV_X1_move ⟨Nat.le_of_ble_eq_true rfl, Nat.le_of_ble_eq_true rfl⟩ hP hD hK hS hA hT1 [0, 1, 2] [3] rfl rfl rfl rfl rfl (by decide) rfl hl.1 rfl (Nat.le_of_ble_eq_true rfl) dL_law_514 ⟨Nat.le_of_ble_eq_true rfl, Nat.le_of_ble_eq_true rfl⟩ (fun H locs hP hD hS => ?_)
    refine lv_icmp_eq (tgt := 545) hx9 hb dL_law_517 (by decide) (fun _ => ?_) (fun h => absurd rfl h)
    exact kk (rk) (rn) ((f_X1_move en mx my (xs (nI i + 1).toNatClampNeg) (xs (nI i + 2).toNatClampNeg) (1)).2.1) ((f_X1_move en mx my (xs (nI i + 1).toNatClampNeg) (xs (nI i + 2).toNatClampNeg) (1)).2.2) (vb) (en) (nx) hok H locs hP hD hS
set_option maxHeartbeats 4000000 in
set_option maxRecDepth 100000 in
theorem lc_moved {p : Program} {e : Env} {s : State} {m : MethodId} {below : List Frame} {meth : Method} {c : Code} {dC : Nat → ClassId} {dI : Nat → Nat → Nat} {b L : Nat} {xs : Nat → Int32} {hx m0 m1 m2 : Nat} {cI cL : ClassId} (l : Launch) (hL : L ≤ 3584) (C0 : lw_At p s m meth c b L xs) (hK : va_K (dC, dI) vwCl (mT cI cL) s) (hT0 : tbS "FixedPlane" (fun q => s.heap.size ≤ q) s s.heap) (hT1 : tbS "FixedPlaneModel" (fun q => s.heap.size ≤ q) s s.heap) {i : Nat} (hi : i + 7 ≤ L) {rk rn mx my vb : Int32} {en : Nat → Int32} {nx : Nat → Int64} (hok : okE en) {H : Heap} {locs : List Loc} (hP : va_P (dC, dI) vwCl (lwS hx m0 m1 m2 cI cL rk rn en nx mx my vb) H) (hD : va_D (fun q : Nat => s.heap.size ≤ q) (lwS hx m0 m1 m2 cI cL rk rn en nx mx my vb)) (hS : va_S (fun q : Nat => s.heap.size ≤ q) s.heap H locs) {ls : Array Slot} (hl : lv_has ls 4 [(0, .ref b), (1, .ref hx), (2, .ref m0), (3, .int (nI i))]) (kk : lwK p l e s m below meth c dC dI b hx m0 m1 m2 cI cL 545 ls) : W p l e room_1 s m #[Value.ref b] below meth c H locs 4 29 (lw_Z below #[Value.ref b] s) (F0 m 522 ls []) := by
  obtain ⟨hx9, hb, hr, hml, hown, hts, hX, hbl, hlocks, hgv⟩ := C0
  have hA : ∀ q : Nat, s.heap.size ≤ q → (fun q : Nat => s.heap.size ≤ q) q := fun _ h => h
  have hbA : ¬ (fun q : Nat => s.heap.size ≤ q) b := Nat.not_le.mpr hbl
  have hb : c.code = cL_law := hb
  have hown : s.vm.findClass RL = some m.cls := hown
  have htl : ∀ w ∈ wsL_law, w.before #[Value.ref b] s = true := fun w h => hts w (wsL_law_in w h)
  refine lv_aload_n hx9 hb dL_law_522 rfl (lv_at hl 1 rfl) ?_
  refine lv_aload_n hx9 hb dL_law_523 rfl (lv_at hl 0 rfl) ?_
  refine lv_iload_n hx9 hb dL_law_524 rfl (lv_at hl 3 rfl) ?_
  refine lv_iconst (v := 1) hx9 hb dL_law_525 (by decide) ?_
  refine lv_iadd hx9 hb dL_law_526 ?_
  refine va_sld hx9 hb hX hbl hbA hS (lw_ix (k := 1) hi hL (by decide)) dL_law_527 ?_
  have cX : Met l yX0_moved wsX0_moved rm_X0_moved (va_Pc (.ref hx :: [.int (xs (nI i + 1).toNatClampNeg)]) (xPre dC dI hx H.size (lwX (rk) (rn) (en) (mx) (my)))) (xQi dC dI hx (va_A (xW hx (lwX (rk) (rn) (en) (mx) (my))) H.size) ((f_X1_moved mx my (xs (nI i + 1).toNatClampNeg))) (lwX (rk) (rn) (en) (mx) (my))) 0 0 (va_A (xW hx (lwX (rk) (rn) (en) (mx) (my))) H.size) := by
    have q := cc_X0_moved l dC dI hx H.size rk rn (en 0) (en 1) (en 2) (en 3) (en 4) (en 5) mx my (xs (nI i + 1).toNatClampNeg)
    exact q
  refine xg_i (As := [.int (xs (nI i + 1).toNatClampNeg)]) (rest := []) (wr := mW m0 m1 m2 cI cL (lwM (rk) (rn) (en) (nx) (mx) (my) (vb))) ⟨hx9, hb, hml, hown, htl⟩ cX 1 gL_law_X0_moved rfl rfl rfl hdV_X0_moved ⟨Nat.le_of_ble_eq_true rfl, Nat.le_of_ble_eq_true rfl⟩ hP hD (hK.sub (tys' := []) [] rfl) hS hA hT0 [0] [1, 2, 3] rfl rfl rfl rfl rfl (by decide) rfl hl.1 rfl (Nat.le_of_ble_eq_true rfl) dL_law_528 ⟨Nat.le_of_ble_eq_true rfl, Nat.le_of_ble_eq_true rfl⟩ (fun H locs hP hD hS => ?_)
  refine lv_aload_n hx9 hb dL_law_531 rfl (lv_at hl 2 rfl) ?_
  refine lv_aload_n hx9 hb dL_law_532 rfl (lv_at hl 0 rfl) ?_
  refine lv_iload_n hx9 hb dL_law_533 rfl (lv_at hl 3 rfl) ?_
  refine lv_iconst (v := 1) hx9 hb dL_law_534 (by decide) ?_
  refine lv_iadd hx9 hb dL_law_535 ?_
  refine va_sld hx9 hb hX hbl hbA hS (lw_ix (k := 1) hi hL (by decide)) dL_law_536 ?_
  have cM : Met l yX1_moved wsX1_moved rm_X1_moved (va_Pc (.ref m0 :: [.int (xs (nI i + 1).toNatClampNeg)]) (mPre dC dI m0 m1 m2 cI cL H.size (lwM (rk) (rn) (en) (nx) (mx) (my) (vb)))) (mQi dC dI m0 m1 m2 cI cL (va_A (mW m0 m1 m2 cI cL (lwM (rk) (rn) (en) (nx) (mx) (my) (vb))) H.size) ((f_X1_moved mx my (xs (nI i + 1).toNatClampNeg))) (lwM (rk) (rn) (en) (nx) (mx) (my) (vb))) 0 0 (va_A (mW m0 m1 m2 cI cL (lwM (rk) (rn) (en) (nx) (mx) (my) (vb))) H.size) := cc_X1_moved l dC dI m0 m1 m2 cI cL H.size rk rn en nx mx my vb (xs (nI i + 1).toNatClampNeg)
  refine mg_i (As := [.int (xs (nI i + 1).toNatClampNeg)]) (rest := [.int ((f_X1_moved mx my (xs (nI i + 1).toNatClampNeg)))]) (wr := xW hx (lwX (rk) (rn) (en) (mx) (my))) ⟨hx9, hb, hml, hown, htl⟩ cM 1 gL_law_X1_moved rfl rfl rfl hdV_X1_moved ⟨Nat.le_of_ble_eq_true rfl, Nat.le_of_ble_eq_true rfl⟩ hP hD hK hS hA hT1 [0, 1, 2] [3] rfl rfl rfl rfl rfl (by decide) rfl hl.1 rfl (Nat.le_of_ble_eq_true rfl) dL_law_537 ⟨Nat.le_of_ble_eq_true rfl, Nat.le_of_ble_eq_true rfl⟩ (fun H locs hP hD hS => ?_)
  refine lv_icmp_eq (tgt := 545) hx9 hb dL_law_540 (by decide) (fun _ => ?_) (fun h => absurd rfl h)
  exact kk (rk) (rn) (mx) (my) (vb) (en) (nx) hok H locs hP hD hS
