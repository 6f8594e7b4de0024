/-! Each value operation: the class's answer and result are the reference's. -/
abbrev pr3 (q : Int32 × Int32 × Int32 × Int32) : Int32 × Int32 × Int32 := (q.1, q.2.1, q.2.2.1)
def mR (vk vn vb p0 : Int32) (x y : Int64) : Int32 × Int32 × Int32 × Int32 := if p0 = 0 then (((f_X1_real (vk) (vn) ((x + y))).1, (f_X1_real (vk) (vn) ((x + y))).2.1, (f_X1_real (vk) (vn) ((x + y))).2.2, vb)) else (if p0 = 1 then (((f_X1_real (vk) (vn) ((x - y))).1, (f_X1_real (vk) (vn) ((x - y))).2.1, (f_X1_real (vk) (vn) ((x - y))).2.2, vb)) else (if p0 = 2 then (((f_X1_real (vk) (vn) ((f_X1_rounded ((x * y))))).1, (f_X1_real (vk) (vn) ((f_X1_rounded ((x * y))))).2.1, (f_X1_real (vk) (vn) ((f_X1_rounded ((x * y))))).2.2, vb)) else (if p0 = 3 then (if y = 0 then (((-3), vk, vn, vb)) else (if (f_X1_quotient_16 (x) (y)).2 = 0 then (((f_X1_real (vk) (vn) ((f_X1_quotient_16 (x) (y)).1)).1, (f_X1_real (vk) (vn) ((f_X1_quotient_16 (x) (y)).1)).2.1, (f_X1_real (vk) (vn) ((f_X1_quotient_16 (x) (y)).1)).2.2, (f_X1_quotient_16 (x) (y)).2)) else (((-2), vk, vn, (f_X1_quotient_16 (x) (y)).2)))) else (if x = 0 then (if y = 0 then (((-3), vk, vn, vb)) else (((f_X1_real (vk) (vn) ((f_X1_angle (y) (x)))).1, (f_X1_real (vk) (vn) ((f_X1_angle (y) (x)))).2.1, (f_X1_real (vk) (vn) ((f_X1_angle (y) (x)))).2.2, vb))) else (((f_X1_real (vk) (vn) ((f_X1_angle (y) (x)))).1, (f_X1_real (vk) (vn) ((f_X1_angle (y) (x)))).2.1, (f_X1_real (vk) (vn) ((f_X1_angle (y) (x)))).2.2, vb))))))
theorem m_two (vk vn vb p0 p1 p2 p3 p4 : Int32) : f_X1_two vk vn vb p0 p1 p2 p3 p4 = (if p0 < 0 then (((-1), vk, vn, vb)) else (if 10 < p0 then (((-1), vk, vn, vb)) else (if (f_X1_isValue (p1) (p2)) = 0 then (((-1), vk, vn, vb)) else (if (f_X1_isValue (p3) (p4)) = 0 then (((-1), vk, vn, vb)) else (if p1 = 1 then (if p3 = 1 then (if p0 = 4 then (((f_X1_onWholes (vk) (vn) (p0) (p2) (p4)).1, (f_X1_onWholes (vk) (vn) (p0) (p2) (p4)).2.1, (f_X1_onWholes (vk) (vn) (p0) (p2) (p4)).2.2, vb)) else (if p0 = 5 then (((f_X1_onWholes (vk) (vn) (p0) (p2) (p4)).1, (f_X1_onWholes (vk) (vn) (p0) (p2) (p4)).2.1, (f_X1_onWholes (vk) (vn) (p0) (p2) (p4)).2.2, vb)) else (if 6 < p0 then (((f_X1_onWholes (vk) (vn) (p0) (p2) (p4)).1, (f_X1_onWholes (vk) (vn) (p0) (p2) (p4)).2.1, (f_X1_onWholes (vk) (vn) (p0) (p2) (p4)).2.2, vb)) else (if p0 < 3 then (if p0 = 0 then (((f_X1_whole (vk) (vn) (((p2).toInt64 + (p4).toInt64))).1, (f_X1_whole (vk) (vn) (((p2).toInt64 + (p4).toInt64))).2.1, (f_X1_whole (vk) (vn) (((p2).toInt64 + (p4).toInt64))).2.2, vb)) else (if p0 = 1 then (((f_X1_whole (vk) (vn) (((p2).toInt64 - (p4).toInt64))).1, (f_X1_whole (vk) (vn) (((p2).toInt64 - (p4).toInt64))).2.1, (f_X1_whole (vk) (vn) (((p2).toInt64 - (p4).toInt64))).2.2, vb)) else (((f_X1_whole (vk) (vn) (((p2).toInt64 * (p4).toInt64))).1, (f_X1_whole (vk) (vn) (((p2).toInt64 * (p4).toInt64))).2.1, (f_X1_whole (vk) (vn) (((p2).toInt64 * (p4).toInt64))).2.2, vb)))) else (if (f_X1_hasUnits (p1) (p2)) = 0 then (((-2), vk, vn, vb)) else (if (f_X1_hasUnits (p3) (p4)) = 0 then (((-2), vk, vn, vb)) else (mR vk vn vb p0 (f_X1_units p1 p2) (f_X1_units p3 p4)))))))) else (if p0 = 4 then (((-4), vk, vn, vb)) else (if p0 = 5 then (((-4), vk, vn, vb)) else (if 6 < p0 then (((-4), vk, vn, vb)) else (if (f_X1_hasUnits (p1) (p2)) = 0 then (((-2), vk, vn, vb)) else (if (f_X1_hasUnits (p3) (p4)) = 0 then (((-2), vk, vn, vb)) else (mR vk vn vb p0 (f_X1_units p1 p2) (f_X1_units p3 p4)))))))) else (if p0 = 4 then (((-4), vk, vn, vb)) else (if p0 = 5 then (((-4), vk, vn, vb)) else (if 6 < p0 then (((-4), vk, vn, vb)) else (if (f_X1_hasUnits (p1) (p2)) = 0 then (((-2), vk, vn, vb)) else (if (f_X1_hasUnits (p3) (p4)) = 0 then (((-2), vk, vn, vb)) else (mR vk vn vb p0 (f_X1_units p1 p2) (f_X1_units p3 p4)))))))))))) := rfl
theorem xq_n {p0 p1 : Int64} (c : p1 < 0) (hp : p1.toInt ≠ -9223372036854775808) : f_X0_quotient p0 p1 = cQ p0 p1 (-p0) (-p1) := by
  have hs : 0 < (-p1).toInt := by
    rw [tN hp]
    rw [ltL, i0] at c
    omega
  unfold f_X0_quotient cQ
  rw [if_pos c, ab_n c, fd_s hs, fm_s hs]
theorem xq_p {p0 p1 : Int64} (c : ¬ p1 < 0) (hz : ¬ p1 = 0) : f_X0_quotient p0 p1 = cQ p0 p1 p0 p1 := by
  have hs : 0 < p1.toInt := by
    rw [ltL, i0] at c
    rw [eqL, i0] at hz
    omega
  unfold f_X0_quotient cQ
  rw [if_neg c, ab_p c, fd_s hs, fm_s hs]
theorem m16_n {p0 p1 : Int64} (c : p1 < 0) : f_X1_quotient_16 p0 p1 = mQ16 p0 p1 (-p0) (-p1) := by
  unfold f_X1_quotient_16 mQ16
  rw [if_pos c]
theorem m16_p {p0 p1 : Int64} (c : ¬ p1 < 0) : f_X1_quotient_16 p0 p1 = mQ16 p0 p1 p0 p1 := by
  unfold f_X1_quotient_16 mQ16
  rw [if_neg c]
theorem m0_n {p0 p1 : Int64} (c : p1 < 0) : f_X1_quotient_0 p0 p1 = mQ0 (-p0) (-p1) := by
  unfold f_X1_quotient_0 mQ0
  rw [if_pos c]
theorem m0_p {p0 p1 : Int64} (c : ¬ p1 < 0) : f_X1_quotient_0 p0 p1 = mQ0 p0 p1 := by
  unfold f_X1_quotient_0 mQ0
  rw [if_neg c]
/-- what the two quotients have in common: z is the exact quotient rounded -/
def qS (c : Int64) (mq : Int64 × Int32) (z : Int) : Prop := (inR c.toInt ↔ inR z) ∧ (inR z → c.toInt = z) ∧ ((mq.2 = 0 ∧ mq.1.toInt = z) ∨ (¬ mq.2 = 0 ∧ ¬ inR z))
theorem Q16 {a d : Int64} (hz : ¬ d = 0) (hd : d.toInt ≠ -9223372036854775808) : ∃ z, qS (f_X0_quotient a d) (f_X1_quotient_16 a d) z := by
  by_cases c : d < 0
  · have hs : 0 < (-d).toInt := by
      have c' := c
      rw [ltL, i0] at c'
      rw [tN hd]
      omega
    rw [xq_n c hd, m16_n c]
    exact ⟨_, (cQ_s a d hs).1, (cQ_s a d hs).2, mQ16_s a d hs⟩
  · have hs : 0 < d.toInt := by
      have c' := c
      have hz' := hz
      rw [ltL, i0] at c'
      rw [eqL, i0] at hz'
      omega
    rw [xq_p c hz, m16_p c]
    exact ⟨_, (cQ_s a d hs).1, (cQ_s a d hs).2, mQ16_s a d hs⟩
theorem Q0 {a a2 d : Int64} (hz : ¬ d = 0) (hd : d.toInt ≠ -9223372036854775808) (ha : a2.toInt = 65536 * a.toInt) (hn : a2.toInt ≠ -9223372036854775808) : ∃ z, qS (f_X0_quotient a d) (f_X1_quotient_0 a2 d) z := by
  by_cases c : d < 0
  · have hs : 0 < (-d).toInt := by
      have c' := c
      rw [ltL, i0] at c'
      rw [tN hd]
      omega
    rw [xq_n c hd, m0_n c]
    have e : (-a2).toInt = 65536 * (-a).toInt := by
      have := rg a2
      rw [tN hn, tN (by omega)]
      omega
    have k := mQ0_s (P := -a2) hs
    rw [e] at k
    exact ⟨_, (cQ_s a d hs).1, (cQ_s a d hs).2, k⟩
  · have hs : 0 < d.toInt := by
      have c' := c
      have hz' := hz
      rw [ltL, i0] at c'
      rw [eqL, i0] at hz'
      omega
    rw [xq_p c hz, m0_p c]
    have k := mQ0_s (P := a2) hs
    rw [ha] at k
    exact ⟨_, (cQ_s a d hs).1, (cQ_s a d hs).2, k⟩
theorem real_out {rk rn : Int32} {x : Int64} (h : ¬ inR x.toInt) : f_X1_real rk rn x = (-2, rk, rn) := by
  rw [← e_real]
  unfold f_X0_keep
  rw [if_neg (by decide), if_pos ((z_isReal x).mpr h)]
theorem e_div (rk rn : Int32) {a d : Int64} (hz : ¬ d = 0) (hd : d.toInt ≠ -9223372036854775808) : f_X0_keep rk rn 2 (f_X0_quotient a d) = if (f_X1_quotient_16 a d).2 = 0 then f_X1_real rk rn (f_X1_quotient_16 a d).1 else (-2, rk, rn) := by
  obtain ⟨z, h1, h2, h3⟩ := Q16 (a := a) hz hd
  rw [e_real]
  rcases h3 with ⟨h4, h5⟩ | ⟨h4, h5⟩
  · rw [if_pos h4]
    by_cases c : inR z
    · rw [eqL.mpr ((h2 c).trans h5.symm)]
    · rw [real_out (fun q => c (h1.mp q)), real_out (by rw [h5]; exact c)]
  · rw [if_neg h4, real_out (fun q => h5 (h1.mp q))]
theorem e_ofReals (rk rn vb p0 : Int32) {x y : Int64} (hx : inR x.toInt) (hy : inR y.toInt) : f_X0_ofReals rk rn p0 x y = pr3 (mR rk rn vb p0 x y) := by
  have hx' : -2147483647 ≤ x.toInt ∧ x.toInt ≤ 2147483647 := hx
  have hy' : -2147483647 ≤ y.toInt ∧ y.toInt ≤ 2147483647 := hy
  unfold f_X0_ofReals mR
  by_cases c0 : p0 = 0
  · rw [if_pos c0, if_pos c0, e_real]
  · rw [if_neg c0, if_neg c0]
    by_cases c1 : p0 = 1
    · rw [if_pos c1, if_pos c1, e_real]
    · rw [if_neg c1, if_neg c1]
      by_cases c2 : p0 = 2
      · rw [if_pos c2, if_pos c2, e_real, e_wp]
      · rw [if_neg c2, if_neg c2]
        by_cases c3 : p0 = 3
        · rw [if_pos c3, if_pos c3]
          by_cases cy : y = 0
          · rw [if_pos cy, if_pos cy]
          · rw [if_neg cy, if_neg cy, e_div rk rn cy (by omega)]
            by_cases c4 : (f_X1_quotient_16 x y).2 = 0
            · rw [if_pos c4, if_pos c4]
            · rw [if_neg c4, if_neg c4]
        · rw [if_neg c3, if_neg c3, e_angle hy' hx', e_real]
          by_cases cx : x = 0
          · rw [if_pos cx, if_pos cx]
            by_cases cy : y = 0
            · rw [if_pos cy, if_pos cy]
            · rw [if_neg cy, if_neg cy]
          · rw [if_neg cx, if_neg cx]
theorem op11 {p0 : Int32} (h1 : ¬ p0 < 0) (h2 : ¬ 10 < p0) : p0 = 0 ∨ p0 = 1 ∨ p0 = 2 ∨ p0 = 3 ∨ p0 = 4 ∨ p0 = 5 ∨ p0 = 6 ∨ p0 = 7 ∨ p0 = 8 ∨ p0 = 9 ∨ p0 = 10 := by
  rw [ltI, show (0 : Int32).toInt = 0 by decide] at h1
  rw [ltI, show (10 : Int32).toInt = 10 by decide] at h2
  simp only [eqI, show (0 : Int32).toInt = 0 by decide, show (1 : Int32).toInt = 1 by decide, show (2 : Int32).toInt = 2 by decide, show (3 : Int32).toInt = 3 by decide, show (4 : Int32).toInt = 4 by decide, show (5 : Int32).toInt = 5 by decide, show (6 : Int32).toInt = 6 by decide, show (7 : Int32).toInt = 7 by decide, show (8 : Int32).toInt = 8 by decide, show (9 : Int32).toInt = 9 by decide, show (10 : Int32).toInt = 10 by decide]
  omega
set_option maxRecDepth 100000 in
theorem e_two (rk rn vb p0 p1 p2 p3 p4 : Int32) : f_X0_two rk rn p0 p1 p2 p3 p4 = pr3 (f_X1_two rk rn vb p0 p1 p2 p3 p4) := by
  rw [m_two]
  unfold f_X0_two
  rw [e_isValue, e_isValue]
  by_cases a1 : p0 < 0
  · rw [if_pos a1, if_pos a1]
  · rw [if_neg a1, if_neg a1]
    by_cases a2 : 10 < p0
    · rw [if_pos a2, if_pos a2]
    · rw [if_neg a2, if_neg a2]
      by_cases a3 : f_X1_isValue p1 p2 = 0
      · rw [if_pos a3, if_pos a3]
      · rw [if_neg a3, if_neg a3]
        by_cases a4 : f_X1_isValue p3 p4 = 0
        · rw [if_pos a4, if_pos a4]
        · rw [if_neg a4, if_neg a4]
          have z1 := z_has a3
          have z2 := z_has a4
          have u1 := e_units p2 (v_kind a3)
          have u2 := e_units p4 (v_kind a4)
          have b1 := fun h : ¬ f_X1_hasUnits p1 p2 = 0 => b_units (k := p1) (v := p2) (fun q => h (z1.mp q))
          have b2 := fun h : ¬ f_X1_hasUnits p3 p4 = 0 => b_units (k := p3) (v := p4) (fun q => h (z2.mp q))
          rw [u1] at z1 b1
          rw [u2] at z2 b2
          rw [u1, u2]
          have R : (if f_X0_isReal (f_X1_units p1 p2) = 0 then (-2, rk, rn) else if f_X0_isReal (f_X1_units p3 p4) = 0 then (-2, rk, rn) else f_X0_ofReals rk rn p0 (f_X1_units p1 p2) (f_X1_units p3 p4)) = pr3 (if f_X1_hasUnits p1 p2 = 0 then (-2, rk, rn, vb) else if f_X1_hasUnits p3 p4 = 0 then (-2, rk, rn, vb) else mR rk rn vb p0 (f_X1_units p1 p2) (f_X1_units p3 p4)) := by
            by_cases d1 : f_X1_hasUnits p1 p2 = 0
            · rw [if_pos d1, if_pos (z1.mpr d1)]
            · rw [if_neg d1, if_neg (fun q => d1 (z1.mp q))]
              by_cases d2 : f_X1_hasUnits p3 p4 = 0
              · rw [if_pos d2, if_pos (z2.mpr d2)]
              · rw [if_neg d2, if_neg (fun q => d2 (z2.mp q))]
                exact e_ofReals rk rn vb p0 (b1 d1) (b2 d2)
          by_cases q1 : p1 = 1
          · rw [if_pos q1, if_pos q1]
            by_cases q3 : p3 = 1
            · rw [if_pos q3, if_pos q3]
              rcases op11 a1 a2 with h | h | h | h | h | h | h | h | h | h | h
              · simp +decide only [h, ↓reduceIte, f_X0_ofWholes, e_whole]
              · simp +decide only [h, ↓reduceIte, f_X0_ofWholes, e_whole]
              · simp +decide only [h, ↓reduceIte, f_X0_ofWholes, e_whole]
              · rw [h] at R
                simp +decide only [h, ↓reduceIte]
                exact R
              · simp +decide only [h, ↓reduceIte, f_X0_ofWholes, f_X1_onWholes, e_whole, e_shifted]
                try (split <;> rfl)
              · simp +decide only [h, ↓reduceIte, f_X0_ofWholes, f_X1_onWholes, e_whole, e_shifted]
                try (split <;> rfl)
              · rw [h] at R
                simp +decide only [h, ↓reduceIte]
                exact R
              · simp +decide only [h, ↓reduceIte, f_X0_ofWholes, f_X1_onWholes, e_whole, e_shifted]
                try (split <;> rfl)
              · simp +decide only [h, ↓reduceIte, f_X0_ofWholes, f_X1_onWholes, e_whole, e_shifted]
                try (split <;> rfl)
              · simp +decide only [h, ↓reduceIte, f_X0_ofWholes, f_X1_onWholes, e_whole, e_shifted]
                try (split <;> rfl)
              · simp +decide only [h, ↓reduceIte, f_X0_ofWholes, f_X1_onWholes, e_whole, e_shifted]
                try (split <;> rfl)
            · rw [if_neg q3, if_neg q3]
              rcases op11 a1 a2 with h | h | h | h | h | h | h | h | h | h | h
              · rw [h] at R
                simp +decide only [h, ↓reduceIte, f_X0_isForWholesAlone]
                exact R
              · rw [h] at R
                simp +decide only [h, ↓reduceIte, f_X0_isForWholesAlone]
                exact R
              · rw [h] at R
                simp +decide only [h, ↓reduceIte, f_X0_isForWholesAlone]
                exact R
              · rw [h] at R
                simp +decide only [h, ↓reduceIte, f_X0_isForWholesAlone]
                exact R
              · simp +decide only [h, ↓reduceIte, f_X0_isForWholesAlone]
              · simp +decide only [h, ↓reduceIte, f_X0_isForWholesAlone]
              · rw [h] at R
                simp +decide only [h, ↓reduceIte, f_X0_isForWholesAlone]
                exact R
              · simp +decide only [h, ↓reduceIte, f_X0_isForWholesAlone]
              · simp +decide only [h, ↓reduceIte, f_X0_isForWholesAlone]
              · simp +decide only [h, ↓reduceIte, f_X0_isForWholesAlone]
              · simp +decide only [h, ↓reduceIte, f_X0_isForWholesAlone]
          · rw [if_neg q1, if_neg q1]
            rcases op11 a1 a2 with h | h | h | h | h | h | h | h | h | h | h
            · rw [h] at R
              simp +decide only [h, ↓reduceIte, f_X0_isForWholesAlone]
              exact R
            · rw [h] at R
              simp +decide only [h, ↓reduceIte, f_X0_isForWholesAlone]
              exact R
            · rw [h] at R
              simp +decide only [h, ↓reduceIte, f_X0_isForWholesAlone]
              exact R
            · rw [h] at R
              simp +decide only [h, ↓reduceIte, f_X0_isForWholesAlone]
              exact R
            · simp +decide only [h, ↓reduceIte, f_X0_isForWholesAlone]
            · simp +decide only [h, ↓reduceIte, f_X0_isForWholesAlone]
            · rw [h] at R
              simp +decide only [h, ↓reduceIte, f_X0_isForWholesAlone]
              exact R
            · simp +decide only [h, ↓reduceIte, f_X0_isForWholesAlone]
            · simp +decide only [h, ↓reduceIte, f_X0_isForWholesAlone]
            · simp +decide only [h, ↓reduceIte, f_X0_isForWholesAlone]
            · simp +decide only [h, ↓reduceIte, f_X0_isForWholesAlone]
