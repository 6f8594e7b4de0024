/-! Putting together, moving, turning round. -/
def mI (en : Nat → Int32) (nx : Nat → Int64) (q0 q1 q2 q3 q4 q5 : Int64 × Int32) : Int32 × (Nat → Int32) × (Nat → Int64) × Int32 := if q0.2 = 0 then (if q1.2 = 0 then (if q2.2 = 0 then (if q3.2 = 0 then (if q4.2 = 0 then (if q5.2 = 0 then (((f_X1_take (en) ((vp_updL (vp_updL (vp_updL (vp_updL (vp_updL (vp_updL nx 0 q0.1) 1 q1.1) 2 q2.1) 3 q3.1) 4 q4.1) 5 q5.1))).1, (f_X1_take (en) ((vp_updL (vp_updL (vp_updL (vp_updL (vp_updL (vp_updL nx 0 q0.1) 1 q1.1) 2 q2.1) 3 q3.1) 4 q4.1) 5 q5.1))).2, (vp_updL (vp_updL (vp_updL (vp_updL (vp_updL (vp_updL nx 0 q0.1) 1 q1.1) 2 q2.1) 3 q3.1) 4 q4.1) 5 q5.1), q5.2)) else (((-2), en, (vp_updL (vp_updL (vp_updL (vp_updL (vp_updL (vp_updL nx 0 q0.1) 1 q1.1) 2 q2.1) 3 q3.1) 4 q4.1) 5 q5.1), q5.2))) else (((-2), en, (vp_updL (vp_updL (vp_updL (vp_updL (vp_updL (vp_updL nx 0 q0.1) 1 q1.1) 2 q2.1) 3 q3.1) 4 q4.1) 5 q5.1), q5.2))) else (((-2), en, (vp_updL (vp_updL (vp_updL (vp_updL (vp_updL (vp_updL nx 0 q0.1) 1 q1.1) 2 q2.1) 3 q3.1) 4 q4.1) 5 q5.1), q5.2))) else (((-2), en, (vp_updL (vp_updL (vp_updL (vp_updL (vp_updL (vp_updL nx 0 q0.1) 1 q1.1) 2 q2.1) 3 q3.1) 4 q4.1) 5 q5.1), q5.2))) else (((-2), en, (vp_updL (vp_updL (vp_updL (vp_updL (vp_updL (vp_updL nx 0 q0.1) 1 q1.1) 2 q2.1) 3 q3.1) 4 q4.1) 5 q5.1), q5.2))) else (((-2), en, (vp_updL (vp_updL (vp_updL (vp_updL (vp_updL (vp_updL nx 0 q0.1) 1 q1.1) 2 q2.1) 3 q3.1) 4 q4.1) 5 q5.1), q5.2))
theorem m_invert (en : Nat → Int32) (nx : Nat → Int64) (vb : Int32) : f_X1_invert en nx vb = (if (en 0).toInt64 * (en 3).toInt64 - (en 1).toInt64 * (en 2).toInt64 = 0 then (-3, en, nx, vb) else mI en nx (f_X1_quotient_0 ((en 3).toInt64 * 65536 * 65536) ((en 0).toInt64 * (en 3).toInt64 - (en 1).toInt64 * (en 2).toInt64)) (f_X1_quotient_0 (-(en 1).toInt64 * 65536 * 65536) ((en 0).toInt64 * (en 3).toInt64 - (en 1).toInt64 * (en 2).toInt64)) (f_X1_quotient_0 (-(en 2).toInt64 * 65536 * 65536) ((en 0).toInt64 * (en 3).toInt64 - (en 1).toInt64 * (en 2).toInt64)) (f_X1_quotient_0 ((en 0).toInt64 * 65536 * 65536) ((en 0).toInt64 * (en 3).toInt64 - (en 1).toInt64 * (en 2).toInt64)) (f_X1_quotient_16 ((en 2).toInt64 * (en 5).toInt64 - (en 3).toInt64 * (en 4).toInt64) ((en 0).toInt64 * (en 3).toInt64 - (en 1).toInt64 * (en 2).toInt64)) (f_X1_quotient_16 ((en 1).toInt64 * (en 4).toInt64 - (en 0).toInt64 * (en 5).toInt64) ((en 0).toInt64 * (en 3).toInt64 - (en 1).toInt64 * (en 2).toInt64))) := rfl
theorem x_invert (en : Nat → Int32) : f_X0_invert (en 0) (en 1) (en 2) (en 3) (en 4) (en 5) = (if (en 0).toInt64 * (en 3).toInt64 - (en 1).toInt64 * (en 2).toInt64 = 0 then six (-3) en else ((if (f_X0_keepMatrix (en 0) (en 1) (en 2) (en 3) (en 4) (en 5) (f_X0_quotient ((en 3).toInt64 * 65536) ((en 0).toInt64 * (en 3).toInt64 - (en 1).toInt64 * (en 2).toInt64)) (f_X0_quotient (-(en 1).toInt64 * 65536) ((en 0).toInt64 * (en 3).toInt64 - (en 1).toInt64 * (en 2).toInt64)) (f_X0_quotient (-(en 2).toInt64 * 65536) ((en 0).toInt64 * (en 3).toInt64 - (en 1).toInt64 * (en 2).toInt64)) (f_X0_quotient ((en 0).toInt64 * 65536) ((en 0).toInt64 * (en 3).toInt64 - (en 1).toInt64 * (en 2).toInt64)) (f_X0_quotient ((en 2).toInt64 * (en 5).toInt64 - (en 3).toInt64 * (en 4).toInt64) ((en 0).toInt64 * (en 3).toInt64 - (en 1).toInt64 * (en 2).toInt64)) (f_X0_quotient ((en 1).toInt64 * (en 4).toInt64 - (en 0).toInt64 * (en 5).toInt64) ((en 0).toInt64 * (en 3).toInt64 - (en 1).toInt64 * (en 2).toInt64))).1 = 0 then (-2 : Int32) else 1), (f_X0_keepMatrix (en 0) (en 1) (en 2) (en 3) (en 4) (en 5) (f_X0_quotient ((en 3).toInt64 * 65536) ((en 0).toInt64 * (en 3).toInt64 - (en 1).toInt64 * (en 2).toInt64)) (f_X0_quotient (-(en 1).toInt64 * 65536) ((en 0).toInt64 * (en 3).toInt64 - (en 1).toInt64 * (en 2).toInt64)) (f_X0_quotient (-(en 2).toInt64 * 65536) ((en 0).toInt64 * (en 3).toInt64 - (en 1).toInt64 * (en 2).toInt64)) (f_X0_quotient ((en 0).toInt64 * 65536) ((en 0).toInt64 * (en 3).toInt64 - (en 1).toInt64 * (en 2).toInt64)) (f_X0_quotient ((en 2).toInt64 * (en 5).toInt64 - (en 3).toInt64 * (en 4).toInt64) ((en 0).toInt64 * (en 3).toInt64 - (en 1).toInt64 * (en 2).toInt64)) (f_X0_quotient ((en 1).toInt64 * (en 4).toInt64 - (en 0).toInt64 * (en 5).toInt64) ((en 0).toInt64 * (en 3).toInt64 - (en 1).toInt64 * (en 2).toInt64))).2)) := by
  unfold f_X0_invert f_X0_cross
  by_cases z : (en 0).toInt64 * (en 3).toInt64 - (en 1).toInt64 * (en 2).toInt64 = 0
  · rw [if_pos z, if_pos z]
  · rw [if_neg z, if_neg z]
    generalize (f_X0_keepMatrix (en 0) (en 1) (en 2) (en 3) (en 4) (en 5) (f_X0_quotient ((en 3).toInt64 * 65536) ((en 0).toInt64 * (en 3).toInt64 - (en 1).toInt64 * (en 2).toInt64)) (f_X0_quotient (-(en 1).toInt64 * 65536) ((en 0).toInt64 * (en 3).toInt64 - (en 1).toInt64 * (en 2).toInt64)) (f_X0_quotient (-(en 2).toInt64 * 65536) ((en 0).toInt64 * (en 3).toInt64 - (en 1).toInt64 * (en 2).toInt64)) (f_X0_quotient ((en 0).toInt64 * 65536) ((en 0).toInt64 * (en 3).toInt64 - (en 1).toInt64 * (en 2).toInt64)) (f_X0_quotient ((en 2).toInt64 * (en 5).toInt64 - (en 3).toInt64 * (en 4).toInt64) ((en 0).toInt64 * (en 3).toInt64 - (en 1).toInt64 * (en 2).toInt64)) (f_X0_quotient ((en 1).toInt64 * (en 4).toInt64 - (en 0).toInt64 * (en 5).toInt64) ((en 0).toInt64 * (en 3).toInt64 - (en 1).toInt64 * (en 2).toInt64))) = K
    by_cases c : K.1 = 0
    · rw [if_pos c, if_pos c]
    · rw [if_neg c, if_neg c]
theorem mbd {a b : Int} (ha : -2147483647 ≤ a ∧ a ≤ 2147483647) (hb : -2147483647 ≤ b ∧ b ≤ 2147483647) : -4611686014132420609 ≤ a * b ∧ a * b ≤ 4611686014132420609 := by
  have P : ∀ x : Int, 0 ≤ x → x ≤ 2147483647 → -4611686014132420609 ≤ x * b ∧ x * b ≤ 4611686014132420609 := fun x h1 h2 => by
    have q1 := Int.mul_le_mul_of_nonneg_left hb.2 h1
    have q2 := Int.mul_le_mul_of_nonneg_left hb.1 h1
    omega
  rcases Int.lt_or_le a 0 with h | h
  · have := P (-a) (by omega) (by omega)
    rw [Int.neg_mul] at this
    omega
  · exact P a h ha.2
theorem E_b {en : Nat → Int32} (h : okE en) {k : Nat} (hk : k < 6) : -2147483647 ≤ (en k).toInt64.toInt ∧ (en k).toInt64.toInt ≤ 2147483647 := by
  have r := rgI (en k)
  have q := h k hk
  rw [eqI, kmin] at q
  rw [Int32.toInt_toInt64]
  omega
theorem mul64 {x y : Int64} (hx : -2147483647 ≤ x.toInt ∧ x.toInt ≤ 2147483647) (hy : -2147483647 ≤ y.toInt ∧ y.toInt ≤ 2147483647) : (x * y).toInt = x.toInt * y.toInt := by
  have := mbd hx hy
  exact tM (by omega) (by omega)
theorem e_tX (en : Nat → Int32) (p q : Int32) : f_X0_turnedX (en 0) (en 2) p q = f_X1_moving_0 en p.toInt64 q.toInt64 0 := by
  unfold f_X0_turnedX f_X1_moving_0
  rw [if_pos rfl, e_wp]
theorem e_tY (en : Nat → Int32) (p q : Int32) : f_X0_turnedY (en 1) (en 3) p q = f_X1_moving_1 en p.toInt64 q.toInt64 0 := by
  unfold f_X0_turnedY f_X1_moving_1
  rw [if_pos rfl, e_wp]
theorem e_fX (en : Nat → Int32) (p q : Int32) {z : Int32} (hz : ¬ z = 0) : f_X0_turnedX (en 0) (en 2) p q + (en 4).toInt64 = f_X1_moving_0 en p.toInt64 q.toInt64 z := by
  unfold f_X0_turnedX f_X1_moving_0
  rw [if_neg hz, e_wp]
theorem e_fY (en : Nat → Int32) (p q : Int32) {z : Int32} (hz : ¬ z = 0) : f_X0_turnedY (en 1) (en 3) p q + (en 5).toInt64 = f_X1_moving_1 en p.toInt64 q.toInt64 z := by
  unfold f_X0_turnedY f_X1_moving_1
  rw [if_neg hz, e_wp]
theorem e_before (en : Nat → Int32) (nx : Nat → Int64) (p0 p1 p2 p3 p4 p5 : Int32) : f_X0_before (en 0) (en 1) (en 2) (en 3) (en 4) (en 5) p0 p1 p2 p3 p4 p5 = six (f_X1_before en nx p0 p1 p2 p3 p4 p5).1 (f_X1_before en nx p0 p1 p2 p3 p4 p5).2.1 := by
  unfold f_X0_before f_X1_before
  by_cases z : f_X1_areBad p0 p1 p2 p3 p4 p5 = 0
  · rw [if_pos z, if_neg (fun q => (z_areBad p0 p1 p2 p3 p4 p5).mp q z)]
    rw [e_tX, e_tY, e_tX, e_tY, e_fX en p4 p5 (z := 1) (by decide), e_fY en p4 p5 (z := 1) (by decide)]
    have h := e_take en (vp_updL (vp_updL (vp_updL (vp_updL (vp_updL (vp_updL nx 0 (f_X1_moving_0 en p0.toInt64 p1.toInt64 0)) 2 (f_X1_moving_0 en p2.toInt64 p3.toInt64 0)) 4 (f_X1_moving_0 en p4.toInt64 p5.toInt64 1)) 1 (f_X1_moving_1 en p0.toInt64 p1.toInt64 0)) 3 (f_X1_moving_1 en p2.toInt64 p3.toInt64 0)) 5 (f_X1_moving_1 en p4.toInt64 p5.toInt64 1))
    have e0 : ∀ a b c d e f : Int64, vp_updL (vp_updL (vp_updL (vp_updL (vp_updL (vp_updL nx 0 a) 2 c) 4 e) 1 b) 3 d) 5 f 0 = a ∧ vp_updL (vp_updL (vp_updL (vp_updL (vp_updL (vp_updL nx 0 a) 2 c) 4 e) 1 b) 3 d) 5 f 1 = b ∧ vp_updL (vp_updL (vp_updL (vp_updL (vp_updL (vp_updL nx 0 a) 2 c) 4 e) 1 b) 3 d) 5 f 2 = c ∧ vp_updL (vp_updL (vp_updL (vp_updL (vp_updL (vp_updL nx 0 a) 2 c) 4 e) 1 b) 3 d) 5 f 3 = d ∧ vp_updL (vp_updL (vp_updL (vp_updL (vp_updL (vp_updL nx 0 a) 2 c) 4 e) 1 b) 3 d) 5 f 4 = e ∧ vp_updL (vp_updL (vp_updL (vp_updL (vp_updL (vp_updL nx 0 a) 2 c) 4 e) 1 b) 3 d) 5 f 5 = f := by
      intro a b c d e f
      refine ⟨?_, ?_, ?_, ?_, ?_, ?_⟩ <;> simp [vp_updL]
    obtain ⟨v0, v1, v2, v3, v4, v5⟩ := e0 (f_X1_moving_0 en p0.toInt64 p1.toInt64 0) (f_X1_moving_1 en p0.toInt64 p1.toInt64 0) (f_X1_moving_0 en p2.toInt64 p3.toInt64 0) (f_X1_moving_1 en p2.toInt64 p3.toInt64 0) (f_X1_moving_0 en p4.toInt64 p5.toInt64 1) (f_X1_moving_1 en p4.toInt64 p5.toInt64 1)
    rw [v0, v1, v2, v3, v4, v5] at h
    generalize f_X0_keepMatrix (en 0) (en 1) (en 2) (en 3) (en 4) (en 5) (f_X1_moving_0 en p0.toInt64 p1.toInt64 0) (f_X1_moving_1 en p0.toInt64 p1.toInt64 0) (f_X1_moving_0 en p2.toInt64 p3.toInt64 0) (f_X1_moving_1 en p2.toInt64 p3.toInt64 0) (f_X1_moving_0 en p4.toInt64 p5.toInt64 1) (f_X1_moving_1 en p4.toInt64 p5.toInt64 1) = K at h ⊢
    obtain ⟨h1, h2⟩ := h
    have hc : (if K.1 = 0 then ((-2 : Int32), K.2) else (1, K.2)) = (if K.1 = 0 then (-2 : Int32) else 1, K.2) := by
      by_cases c : K.1 = 0
      · rw [if_pos c, if_pos c]
      · rw [if_neg c, if_neg c]
    refine Eq.trans hc ?_
    rw [h1, h2]
  · rw [if_neg z, if_pos ((z_areBad p0 p1 p2 p3 p4 p5).mpr z)]
theorem k_before {en : Nat → Int32} (h : okE en) (nx : Nat → Int64) (p0 p1 p2 p3 p4 p5 : Int32) : okE (f_X1_before en nx p0 p1 p2 p3 p4 p5).2.1 := by
  unfold f_X1_before
  by_cases z : f_X1_areBad p0 p1 p2 p3 p4 p5 = 0
  · rw [if_pos z]
    dsimp only
    exact k_take h _
  · rw [if_neg z]
    exact h
theorem e_move (en : Nat → Int32) (mx my p0 p1 p2 : Int32) : f_X0_move (en 0) (en 1) (en 2) (en 3) (en 4) (en 5) mx my p0 p1 p2 = f_X1_move en mx my p0 p1 p2 := by
  unfold f_X0_move f_X1_move
  simp only [z_tri]
  by_cases c0 : p0 = -2147483648
  · rw [if_pos ((z_isReal64 p0).mpr c0), if_neg (fun q => (z_isBad p0).mp q c0)]
  · rw [if_neg (fun q => c0 ((z_isReal64 p0).mp q)), if_pos ((z_isBad p0).mpr c0)]
    by_cases c1 : p1 = -2147483648
    · rw [if_pos ((z_isReal64 p1).mpr c1), if_neg (fun q => (z_isBad p1).mp q c1)]
    · rw [if_neg (fun q => c1 ((z_isReal64 p1).mp q)), if_pos ((z_isBad p1).mpr c1)]
      by_cases c2 : p2 = 0
      · rw [if_pos c2, Int64.add_zero, Int64.add_zero, e_tX, e_tY, c2]
      · rw [if_neg c2, e_fX en p0 p1 c2, e_fY en p0 p1 c2]
theorem v6 (nx : Nat → Int64) (a b c d e f : Int64) : vp_updL (vp_updL (vp_updL (vp_updL (vp_updL (vp_updL nx 0 a) 1 b) 2 c) 3 d) 4 e) 5 f 0 = a ∧ vp_updL (vp_updL (vp_updL (vp_updL (vp_updL (vp_updL nx 0 a) 1 b) 2 c) 3 d) 4 e) 5 f 1 = b ∧ vp_updL (vp_updL (vp_updL (vp_updL (vp_updL (vp_updL nx 0 a) 1 b) 2 c) 3 d) 4 e) 5 f 2 = c ∧ vp_updL (vp_updL (vp_updL (vp_updL (vp_updL (vp_updL nx 0 a) 1 b) 2 c) 3 d) 4 e) 5 f 3 = d ∧ vp_updL (vp_updL (vp_updL (vp_updL (vp_updL (vp_updL nx 0 a) 1 b) 2 c) 3 d) 4 e) 5 f 4 = e ∧ vp_updL (vp_updL (vp_updL (vp_updL (vp_updL (vp_updL nx 0 a) 1 b) 2 c) 3 d) 4 e) 5 f 5 = f := by
  refine ⟨?_, ?_, ?_, ?_, ?_, ?_⟩ <;> simp [vp_updL]
theorem mI_bad {en : Nat → Int32} {nx : Nat → Int64} {q0 q1 q2 q3 q4 q5 : Int64 × Int32} (h : ¬ q0.2 = 0 ∨ ¬ q1.2 = 0 ∨ ¬ q2.2 = 0 ∨ ¬ q3.2 = 0 ∨ ¬ q4.2 = 0 ∨ ¬ q5.2 = 0) : (mI en nx q0 q1 q2 q3 q4 q5).1 = -2 ∧ (mI en nx q0 q1 q2 q3 q4 q5).2.1 = en := by
  unfold mI
  by_cases c0 : q0.2 = 0
  · rw [if_pos c0]
    by_cases c1 : q1.2 = 0
    · rw [if_pos c1]
      by_cases c2 : q2.2 = 0
      · rw [if_pos c2]
        by_cases c3 : q3.2 = 0
        · rw [if_pos c3]
          by_cases c4 : q4.2 = 0
          · rw [if_pos c4]
            by_cases c5 : q5.2 = 0
            · rcases h with h | h | h | h | h | h
              · exact absurd c0 h
              · exact absurd c1 h
              · exact absurd c2 h
              · exact absurd c3 h
              · exact absurd c4 h
              · exact absurd c5 h
            · rw [if_neg c5]; exact ⟨rfl, rfl⟩
          · rw [if_neg c4]; exact ⟨rfl, rfl⟩
        · rw [if_neg c3]; exact ⟨rfl, rfl⟩
      · rw [if_neg c2]; exact ⟨rfl, rfl⟩
    · rw [if_neg c1]; exact ⟨rfl, rfl⟩
  · rw [if_neg c0]; exact ⟨rfl, rfl⟩
theorem mI_good {en : Nat → Int32} {nx : Nat → Int64} {q0 q1 q2 q3 q4 q5 : Int64 × Int32} (h0 : q0.2 = 0) (h1 : q1.2 = 0) (h2 : q2.2 = 0) (h3 : q3.2 = 0) (h4 : q4.2 = 0) (h5 : q5.2 = 0) : (mI en nx q0 q1 q2 q3 q4 q5).1 = (f_X1_take en (vp_updL (vp_updL (vp_updL (vp_updL (vp_updL (vp_updL nx 0 q0.1) 1 q1.1) 2 q2.1) 3 q3.1) 4 q4.1) 5 q5.1)).1 ∧ (mI en nx q0 q1 q2 q3 q4 q5).2.1 = (f_X1_take en (vp_updL (vp_updL (vp_updL (vp_updL (vp_updL (vp_updL nx 0 q0.1) 1 q1.1) 2 q2.1) 3 q3.1) 4 q4.1) 5 q5.1)).2 := by
  unfold mI
  rw [if_pos h0, if_pos h1, if_pos h2, if_pos h3, if_pos h4, if_pos h5]
  exact ⟨rfl, rfl⟩
theorem qS_bad {c : Int64} {mq : Int64 × Int32} {z : Int} (h : qS c mq z) (hb : ¬ mq.2 = 0) : ¬ inR c.toInt := by
  obtain ⟨h1, h2, h3⟩ := h
  rcases h3 with ⟨h4, -⟩ | ⟨-, h5⟩
  · exact absurd h4 hb
  · exact fun q => h5 (h1.mp q)
theorem qS_good {c : Int64} {mq : Int64 × Int32} {z : Int} (h : qS c mq z) (hb : mq.2 = 0) : (inR c.toInt ↔ inR mq.1.toInt) ∧ (inR c.toInt → c = mq.1) := by
  obtain ⟨h1, h2, h3⟩ := h
  rcases h3 with ⟨-, h5⟩ | ⟨h4, -⟩
  · rw [h5]
    exact ⟨h1, fun q => eqL.mpr ((h2 (h1.mp q)).trans h5.symm)⟩
  · exact absurd hb h4
theorem inv_core {en : Nat → Int32} {nx : Nat → Int64} {c0 c1 c2 c3 c4 c5 : Int64} {q0 q1 q2 q3 q4 q5 : Int64 × Int32} {z0 z1 z2 z3 z4 z5 : Int} (s0 : qS c0 q0 z0) (s1 : qS c1 q1 z1) (s2 : qS c2 q2 z2) (s3 : qS c3 q3 z3) (s4 : qS c4 q4 z4) (s5 : qS c5 q5 z5) :
    ((if (f_X0_keepMatrix (en 0) (en 1) (en 2) (en 3) (en 4) (en 5) c0 c1 c2 c3 c4 c5).1 = 0 then (-2 : Int32) else 1), (f_X0_keepMatrix (en 0) (en 1) (en 2) (en 3) (en 4) (en 5) c0 c1 c2 c3 c4 c5).2) = six (mI en nx q0 q1 q2 q3 q4 q5).1 (mI en nx q0 q1 q2 q3 q4 q5).2.1 := by
  have bad : f_X0_areReals c0 c1 c2 c3 c4 c5 = 0 → ((if (f_X0_keepMatrix (en 0) (en 1) (en 2) (en 3) (en 4) (en 5) c0 c1 c2 c3 c4 c5).1 = 0 then (-2 : Int32) else 1), (f_X0_keepMatrix (en 0) (en 1) (en 2) (en 3) (en 4) (en 5) c0 c1 c2 c3 c4 c5).2) = six (-2) en := fun h => by
    unfold f_X0_keepMatrix
    rw [if_pos h]
    show ((if (0 : Int32) = 0 then (-2 : Int32) else 1), _) = _
    rw [if_pos rfl]
  by_cases b : q0.2 = 0 ∧ q1.2 = 0 ∧ q2.2 = 0 ∧ q3.2 = 0 ∧ q4.2 = 0 ∧ q5.2 = 0
  · obtain ⟨b0, b1, b2, b3, b4, b5⟩ := b
    obtain ⟨g1, g2⟩ := mI_good (en := en) (nx := nx) b0 b1 b2 b3 b4 b5
    obtain ⟨v0, v1, v2, v3, v4, v5⟩ := v6 nx q0.1 q1.1 q2.1 q3.1 q4.1 q5.1
    have k0 := qS_good s0 b0
    have k1 := qS_good s1 b1
    have k2 := qS_good s2 b2
    have k3 := qS_good s3 b3
    have k4 := qS_good s4 b4
    have k5 := qS_good s5 b5
    rw [g1, g2]
    by_cases r : f_X0_areReals c0 c1 c2 c3 c4 c5 = 0
    · rw [bad r, take_s, v0, v1, v2, v3, v4, v5, if_pos]
      rw [z_all] at r ⊢
      rw [← k0.1, ← k1.1, ← k2.1, ← k3.1, ← k4.1, ← k5.1]
      exact r
    · obtain ⟨r0, r1, r2, r3, r4, r5⟩ := Decidable.not_not.mp (fun q => r (z_all.mpr q))
      rw [k0.2 r0, k1.2 r1, k2.2 r2, k3.2 r3, k4.2 r4, k5.2 r5]
      have h := e_take en (vp_updL (vp_updL (vp_updL (vp_updL (vp_updL (vp_updL nx 0 q0.1) 1 q1.1) 2 q2.1) 3 q3.1) 4 q4.1) 5 q5.1)
      rw [v0, v1, v2, v3, v4, v5] at h
      rw [h.1, h.2]
  · have hb : ¬ q0.2 = 0 ∨ ¬ q1.2 = 0 ∨ ¬ q2.2 = 0 ∨ ¬ q3.2 = 0 ∨ ¬ q4.2 = 0 ∨ ¬ q5.2 = 0 := by
      by_cases b0 : q0.2 = 0
      · by_cases b1 : q1.2 = 0
        · by_cases b2 : q2.2 = 0
          · by_cases b3 : q3.2 = 0
            · by_cases b4 : q4.2 = 0
              · exact Or.inr (Or.inr (Or.inr (Or.inr (Or.inr (fun b5 => b ⟨b0, b1, b2, b3, b4, b5⟩)))))
              · exact Or.inr (Or.inr (Or.inr (Or.inr (Or.inl b4))))
            · exact Or.inr (Or.inr (Or.inr (Or.inl b3)))
          · exact Or.inr (Or.inr (Or.inl b2))
        · exact Or.inr (Or.inl b1)
      · exact Or.inl b0
    obtain ⟨g1, g2⟩ := mI_bad (en := en) (nx := nx) hb
    rw [g1, g2]
    apply bad
    rw [z_all]
    rintro ⟨r0, r1, r2, r3, r4, r5⟩
    rcases hb with h | h | h | h | h | h
    · exact qS_bad s0 h r0
    · exact qS_bad s1 h r1
    · exact qS_bad s2 h r2
    · exact qS_bad s3 h r3
    · exact qS_bad s4 h r4
    · exact qS_bad s5 h r5
theorem D_b {en : Nat → Int32} (h : okE en) : ((en 0).toInt64 * (en 3).toInt64 - (en 1).toInt64 * (en 2).toInt64).toInt ≠ -9223372036854775808 := by
  have a0 := E_b h (k := 0) (by decide)
  have a1 := E_b h (k := 1) (by decide)
  have a2 := E_b h (k := 2) (by decide)
  have a3 := E_b h (k := 3) (by decide)
  have m1 := mbd a0 a3
  have m2 := mbd a1 a2
  have e1 := mul64 a0 a3
  have e2 := mul64 a1 a2
  rw [tS (by rw [e1, e2]; omega) (by rw [e1, e2]; omega), e1, e2]
  omega
theorem Q_0 {en : Nat → Int32} (h : okE en) {k : Nat} (hk : k < 6) {D : Int64} (hz : ¬ D = 0) (hD : D.toInt ≠ -9223372036854775808) : ∃ z, qS (f_X0_quotient ((en k).toInt64 * 65536) D) (f_X1_quotient_0 ((en k).toInt64 * 65536 * 65536) D) z := by
  have a := E_b h hk
  have e1 : ((en k).toInt64 * 65536).toInt = (en k).toInt64.toInt * 65536 := tM (by rw [k65]; omega) (by rw [k65]; omega)
  have e2 : ((en k).toInt64 * 65536 * 65536).toInt = (en k).toInt64.toInt * 65536 * 65536 := by rw [tM (by rw [e1, k65]; omega) (by rw [e1, k65]; omega), e1, k65]
  exact Q0 hz hD (by rw [e1, e2]; omega) (by rw [e2]; omega)
theorem Q_0n {en : Nat → Int32} (h : okE en) {k : Nat} (hk : k < 6) {D : Int64} (hz : ¬ D = 0) (hD : D.toInt ≠ -9223372036854775808) : ∃ z, qS (f_X0_quotient (-(en k).toInt64 * 65536) D) (f_X1_quotient_0 (-(en k).toInt64 * 65536 * 65536) D) z := by
  have a := E_b h hk
  have e0 : (-(en k).toInt64).toInt = -(en k).toInt64.toInt := tN (by omega)
  have e1 : (-(en k).toInt64 * 65536).toInt = -(en k).toInt64.toInt * 65536 := by rw [tM (by rw [e0, k65]; omega) (by rw [e0, k65]; omega), e0, k65]
  have e2 : (-(en k).toInt64 * 65536 * 65536).toInt = -(en k).toInt64.toInt * 65536 * 65536 := by rw [tM (by rw [e1, k65]; omega) (by rw [e1, k65]; omega), e1, k65]
  exact Q0 hz hD (by rw [e1, e2]; omega) (by rw [e2]; omega)
theorem e_invert {en : Nat → Int32} (h : okE en) (nx : Nat → Int64) (vb : Int32) : f_X0_invert (en 0) (en 1) (en 2) (en 3) (en 4) (en 5) = six (f_X1_invert en nx vb).1 (f_X1_invert en nx vb).2.1 := by
  rw [m_invert, x_invert]
  have hD := D_b h
  by_cases z : (en 0).toInt64 * (en 3).toInt64 - (en 1).toInt64 * (en 2).toInt64 = 0
  · rw [if_pos z, if_pos z]
  · rw [if_neg z, if_neg z]
    obtain ⟨z0, s0⟩ := Q_0 h (k := 3) (by decide) z hD
    obtain ⟨z1, s1⟩ := Q_0n h (k := 1) (by decide) z hD
    obtain ⟨z2, s2⟩ := Q_0n h (k := 2) (by decide) z hD
    obtain ⟨z3, s3⟩ := Q_0 h (k := 0) (by decide) z hD
    obtain ⟨z4, s4⟩ := Q16 (a := (en 2).toInt64 * (en 5).toInt64 - (en 3).toInt64 * (en 4).toInt64) z hD
    obtain ⟨z5, s5⟩ := Q16 (a := (en 1).toInt64 * (en 4).toInt64 - (en 0).toInt64 * (en 5).toInt64) z hD
    exact inv_core s0 s1 s2 s3 s4 s5
theorem k_invert {en : Nat → Int32} (h : okE en) (nx : Nat → Int64) (vb : Int32) : okE (f_X1_invert en nx vb).2.1 := by
  rw [m_invert]
  by_cases z : (en 0).toInt64 * (en 3).toInt64 - (en 1).toInt64 * (en 2).toInt64 = 0
  · rw [if_pos z]
    exact h
  · rw [if_neg z]
    generalize f_X1_quotient_0 ((en 3).toInt64 * 65536 * 65536) ((en 0).toInt64 * (en 3).toInt64 - (en 1).toInt64 * (en 2).toInt64) = q0
    generalize f_X1_quotient_0 (-(en 1).toInt64 * 65536 * 65536) ((en 0).toInt64 * (en 3).toInt64 - (en 1).toInt64 * (en 2).toInt64) = q1
    generalize f_X1_quotient_0 (-(en 2).toInt64 * 65536 * 65536) ((en 0).toInt64 * (en 3).toInt64 - (en 1).toInt64 * (en 2).toInt64) = q2
    generalize f_X1_quotient_0 ((en 0).toInt64 * 65536 * 65536) ((en 0).toInt64 * (en 3).toInt64 - (en 1).toInt64 * (en 2).toInt64) = q3
    generalize f_X1_quotient_16 ((en 2).toInt64 * (en 5).toInt64 - (en 3).toInt64 * (en 4).toInt64) ((en 0).toInt64 * (en 3).toInt64 - (en 1).toInt64 * (en 2).toInt64) = q4
    generalize f_X1_quotient_16 ((en 1).toInt64 * (en 4).toInt64 - (en 0).toInt64 * (en 5).toInt64) ((en 0).toInt64 * (en 3).toInt64 - (en 1).toInt64 * (en 2).toInt64) = q5
    by_cases b : q0.2 = 0 ∧ q1.2 = 0 ∧ q2.2 = 0 ∧ q3.2 = 0 ∧ q4.2 = 0 ∧ q5.2 = 0
    · obtain ⟨b0, b1, b2, b3, b4, b5⟩ := b
      rw [(mI_good (en := en) (nx := nx) b0 b1 b2 b3 b4 b5).2]
      exact k_take h _
    · rw [(mI_bad (en := en) (nx := nx) (by
        by_cases b0 : q0.2 = 0
        · by_cases b1 : q1.2 = 0
          · by_cases b2 : q2.2 = 0
            · by_cases b3 : q3.2 = 0
              · by_cases b4 : q4.2 = 0
                · exact Or.inr (Or.inr (Or.inr (Or.inr (Or.inr (fun b5 => b ⟨b0, b1, b2, b3, b4, b5⟩)))))
                · exact Or.inr (Or.inr (Or.inr (Or.inr (Or.inl b4))))
              · exact Or.inr (Or.inr (Or.inr (Or.inl b3)))
            · exact Or.inr (Or.inr (Or.inl b2))
          · exact Or.inr (Or.inl b1)
        · exact Or.inl b0)).2]
      exact h
