/-! ===== part 57: compared (written by wip/whole/pre.py) ===== -/
theorem st_compared : St_compared Inv := by
  intro k hk a b c I J h
  have h0 := h
  obtain ⟨T, P, hA⟩ := h
  have a1 := hA.1
  have hT := a1.1
  have hP := a1.2.1
  refine ⟨1000, ?_⟩
  show ∃ o1 o2, f10_compared SZ 1000 0 a b c I J = some o1 ∧ (fun I J => f11_compared SZ 1000 167 a b c I J) o1.2.1 o1.2.2 = some o2 ∧ o1.1 = o2.1 ∧ Inv (k + 1) o2.2.1 o2.2.2
  have out : f10_compared SZ 1000 0 a b c I J = some (-1000000002, I, J) → f11_compared SZ 1000 167 a b c I J = some (-1000000002, I, J) → ∃ o1 o2, f10_compared SZ 1000 0 a b c I J = some o1 ∧ (fun I J => f11_compared SZ 1000 167 a b c I J) o1.2.1 o1.2.2 = some o2 ∧ o1.1 = o2.1 ∧ Inv (k + 1) o2.2.1 o2.2.2 := fun h1 h2 => ⟨_, _, h1, h2, rfl, Inv_mono k I J h0⟩
  have wa : f10_within SZ a 1 90 I J = some (b01 (decide (nI 1 ≤ a) && decide (a ≤ nI 90))) := cWi (lo := 1) (hi := 90)
  have wb : f10_within SZ b 0 100 I J = some (b01 (decide (nI 0 ≤ b) && decide (b ≤ nI 100))) := cWi (lo := 0) (hi := 100)
  have wc : f10_within SZ c 1 6 I J = some (b01 (decide (nI 1 ≤ c) && decide (c ≤ nI 6))) := cWi (lo := 1) (hi := 6)
  have mc : ∀ (I : mm_I), f11_in SZ c.toInt64 1 6 I J = some (b01 (decide (nI 1 ≤ c) && decide (c ≤ nI 6))) := fun I => mWi (lo := 1) (hi := 6) (by decide) (by decide)
  have n1 : ¬ b01 true = 0 := by decide
  rcases bnd_cases 1 90 (by decide) (by decide) a with ha | ⟨m, m1', m2', rfl, ha⟩
  · refine out ?_ ?_
    · unfold f10_compared f10_compared_30
      rw [wa, ha]
      rfl
    · unfold f11_compared f11_compared_20
      rw [isD, ha]
      rfl
  rcases bnd_cases 0 100 (by decide) (by decide) b with hb | ⟨v, v1', v2', rfl, hb⟩
  · refine out ?_ ?_
    · unfold f10_compared f10_compared_30
      rw [wa, ha, Option.bind_some, if_neg n1, wb, hb]
      rfl
    · unfold f11_compared f11_compared_20
      rw [isD, ha, hb]
      rfl
  rcases bnd_cases 1 6 (by decide) (by decide) c with hc | ⟨w, w1', w2', rfl, hc⟩
  · refine out ?_ ?_
    · unfold f10_compared f10_compared_30
      rw [wa, ha, Option.bind_some, if_neg n1, wb, hb, Option.bind_some, if_neg n1, wc, hc]
      rfl
    · unfold f11_compared f11_compared_20
      rw [isD, ha, hb, Option.bind_some, mc, hc]
      rfl
  by_cases hT0 : T = 0
  · subst hT0
    refine ⟨(-1000000003, I, J), (-1000000003, I, J), ?_, ?_, rfl, Inv_mono k I J h0⟩
    · unfold f10_compared
      rw [wa, ha, Option.bind_some, if_neg n1, wb, hb, Option.bind_some, if_neg n1, wc, hc, Option.bind_some, if_neg n1, show mm_rf SZ 0 1 = 4 by simp (disch := omega) only [↓M1, ↓ofNat_nI, L0, L1, L2, L3, L4, L5, L6, L7, L8, L9, L10, L12, L31, L32, L40, L48, L50, L99, L100, L120, L180, L256, L500, n_lt0, n_ge0, n_let, n_lef, n_ltt, n_ltf, n_eqt, n_eqf, m_lt, m_le, m_eq, m_eq2, m_le2, m_lt2, m_nle, m_nlt, if_true, if_false, eq_self, Option.bind_some, mb0, mb1, mbb, mbn0, mbn1, not_true, not_false_eq_true, reduceIte, Bool.false_eq_true, nI_add, nI_clamp, pk_mul, in_t, in_f, in_m, zr, za, at_SZ, put_SZ, rd_at, wr_at, rd_m, wr_m], a1.2.2.1]
      rfl
    · show f11_compared SZ 1000 167 (nI m) (nI v) (nI w) I J = _
      unfold f11_compared
      rw [isD, ha, hb, Option.bind_some, mc, hc, Option.bind_some, a1.2.2.2.1]
      rfl
  · refine two2 (J := J) hA (fun Im hB => ?_)
    obtain ⟨I1, I2, c1, c2, c3, c4, c5⟩ := trial_start J hB
    obtain ⟨B1, s1, s2, s3, s4, s5⟩ := trial_save J hB
    obtain ⟨s, t1, t2, t3⟩ := hB.2.2.2.2.2.1
    have e167 : ∀ k, B1 167 k = Im 167 k := fun k => by rw [s2 167 (by omega)]
    have hh : rLs T P (100 * k) 28 80 (mm_up I2 28 0 (nI w)) (mm_up B1 167 6 (nI w)) := by
      obtain ⟨b1, b2, b3, b4, b5⟩ := c4
      refine ⟨⟨b1.c (up_o2 (by omega)) (up_o2 (by omega)) (by rw [up_o2 (by omega), e167]) (by rw [up_o2 (by omega), e167]), b2.c (mm_up_o (by omega)) (mm_up_o (by omega)) (mm_up_o (by omega)) (mm_up_o (by omega)) (by rw [mm_up_o (by omega), s2 168 (by omega)]), b3.c (mm_up_o (by omega)) (by rw [mm_up_o (by omega), s2 171 (by omega)]), ?_, b5.c (fun _ _ => mm_up_o (by omega)) (vCur_c (fun r h1 h2 => by rw [mm_up_o (by omega), s2 r (by omega)]) (by rw [up_o2 (by omega), e167]))⟩, s, t1, ?_, ?_⟩
      · obtain ⟨-, g2, g3, g4, g5, g6⟩ := b4
        refine ⟨⟨w, w1', w2', up_s2, up_s2⟩, ?_, ?_, ?_, ?_, ?_⟩
        · rw [up_o2 (by omega), up_o2 (by omega), e167]; exact g2
        · rw [up_o2 (by omega), up_o2 (by omega), e167]; exact g3
        · rw [up_o2 (by omega), up_o2 (by omega), e167]; exact g4
        · rw [up_o2 (by omega), up_o2 (by omega), e167]; exact g5
        · rw [up_o2 (by omega), up_o2 (by omega), e167]; exact g6
      · rw [up_o2 (by omega), c5]; exact t2
      · rw [up_o2 (by omega), e167]; exact t3
    obtain ⟨I3, B3, d', q1, -, q3, q4, q5, q6⟩ := dyears_loop (n := 1000) (m := m) (v := v) (Jc := J) (Jm := J) isL2 (by omega) (by omega) (by omega : 0 < T) (by omega) 1000 0 (100 * k) _ _ (Nat.zero_le m) (by omega) (by omega) hh
    obtain ⟨r1, -⟩ := q6
    obtain ⟨B4, l1, l2, l3, l4⟩ := trial_load J hP s4 (I3 := B3) (by rw [q5.1 199 (by omega) (by omega), mm_up_o (by omega)])
    have dead := r1.2.2.2.2.ded hT hP
    have dC : f2_deadTrades SZ 1000 148 I3 J = some (bsI (fun t => decide (bsI (fun p => !decide (B3 173 p = nI 0) && decide (nI 1 ≤ B3 174 (6 * p + t))) P = nI 0)) T) := by
      rw [dt_eq (by omega) isL2 hT r1.1.2.2.1]
      exact congrArg some dead
    have dM := ds_eq (n := 1000) (J := J) (by omega) hT hP r1.1.2.2.2.1 r1.1.2.2.2.2.2
    have g167 : ∀ k, k ≠ 23 → k ≠ 24 → B4 167 k = mm_up B1 167 6 (nI w) 167 k := fun k h1 h2 => by rw [l2.2 k h1 h2, q5.2 k h1 h2]
    refine ⟨nI (cnt (fun t => decide (bsI (fun p => !decide (B3 173 p = nI 0) && decide (nI 1 ≤ B3 174 (6 * p + t))) P = nI 0)) T), I3, mm_up B4 167 6 (Im 167 6), ?_, ?_, fun q hq => ?_, fun q hq => ?_, hB.trial (by omega) (fun q h1 h2 => ?_) (fun q h1 h2 h3 => ?_) (fun q h1 h2 => ?_) (fun c hc => ?_) ?_ ?_⟩
    · unfold f10_compared f2_passDrawnYears
      rw [wa, ha, Option.bind_some, if_neg n1, wb, hb, Option.bind_some, if_neg n1, wc, hc, Option.bind_some, if_neg n1, show mm_rf SZ 0 1 = 4 by simp (disch := omega) only [↓M1, ↓ofNat_nI, L0, L1, L2, L3, L4, L5, L6, L7, L8, L9, L10, L12, L31, L32, L40, L48, L50, L99, L100, L120, L180, L256, L500, n_lt0, n_ge0, n_let, n_lef, n_ltt, n_ltf, n_eqt, n_eqf, m_lt, m_le, m_eq, m_eq2, m_le2, m_lt2, m_nle, m_nlt, if_true, if_false, eq_self, Option.bind_some, mb0, mb1, mbb, mbn0, mbn1, not_true, not_false_eq_true, reduceIte, Bool.false_eq_true, nI_add, nI_clamp, pk_mul, in_t, in_f, in_m, zr, za, at_SZ, put_SZ, rd_at, wr_at, rd_m, wr_m], a1.2.2.1, if_neg (nI_ne0 (by omega) (by omega)), show mm_rf SZ 0 9 = 80 by simp (disch := omega) only [↓M1, ↓ofNat_nI, L0, L1, L2, L3, L4, L5, L6, L7, L8, L9, L10, L12, L31, L32, L40, L48, L50, L99, L100, L120, L180, L256, L500, n_lt0, n_ge0, n_let, n_lef, n_ltt, n_ltf, n_eqt, n_eqf, m_lt, m_le, m_eq, m_eq2, m_le2, m_lt2, m_nle, m_nlt, if_true, if_false, eq_self, Option.bind_some, mb0, mb1, mbb, mbn0, mbn1, not_true, not_false_eq_true, reduceIte, Bool.false_eq_true, nI_add, nI_clamp, pk_mul, in_t, in_f, in_m, zr, za, at_SZ, put_SZ, rd_at, wr_at, rd_m, wr_m], show mm_rf SZ 0 6 = 29 by simp (disch := omega) only [↓M1, ↓ofNat_nI, L0, L1, L2, L3, L4, L5, L6, L7, L8, L9, L10, L12, L31, L32, L40, L48, L50, L99, L100, L120, L180, L256, L500, n_lt0, n_ge0, n_let, n_lef, n_ltt, n_ltf, n_eqt, n_eqf, m_lt, m_le, m_eq, m_eq2, m_le2, m_lt2, m_nle, m_nlt, if_true, if_false, eq_self, Option.bind_some, mb0, mb1, mbb, mbn0, mbn1, not_true, not_false_eq_true, reduceIte, Bool.false_eq_true, nI_add, nI_clamp, pk_mul, in_t, in_f, in_m, zr, za, at_SZ, put_SZ, rd_at, wr_at, rd_m, wr_m], c1, Option.bind_some, show mm_rf SZ 0 5 = 28 by simp (disch := omega) only [↓M1, ↓ofNat_nI, L0, L1, L2, L3, L4, L5, L6, L7, L8, L9, L10, L12, L31, L32, L40, L48, L50, L99, L100, L120, L180, L256, L500, n_lt0, n_ge0, n_let, n_lef, n_ltt, n_ltf, n_eqt, n_eqf, m_lt, m_le, m_eq, m_eq2, m_le2, m_lt2, m_nle, m_nlt, if_true, if_false, eq_self, Option.bind_some, mb0, mb1, mbb, mbn0, mbn1, not_true, not_false_eq_true, reduceIte, Bool.false_eq_true, nI_add, nI_clamp, pk_mul, in_t, in_f, in_m, zr, za, at_SZ, put_SZ, rd_at, wr_at, rd_m, wr_m], show mm_rf SZ 0 3 = 26 by simp (disch := omega) only [↓M1, ↓ofNat_nI, L0, L1, L2, L3, L4, L5, L6, L7, L8, L9, L10, L12, L31, L32, L40, L48, L50, L99, L100, L120, L180, L256, L500, n_lt0, n_ge0, n_let, n_lef, n_ltt, n_ltf, n_eqt, n_eqf, m_lt, m_le, m_eq, m_eq2, m_le2, m_lt2, m_nle, m_nlt, if_true, if_false, eq_self, Option.bind_some, mb0, mb1, mbb, mbn0, mbn1, not_true, not_false_eq_true, reduceIte, Bool.false_eq_true, nI_add, nI_clamp, pk_mul, in_t, in_f, in_m, zr, za, at_SZ, put_SZ, rd_at, wr_at, rd_m, wr_m], c2, Option.bind_some, show mm_rf SZ 0 16 = 148 by simp (disch := omega) only [↓M1, ↓ofNat_nI, L0, L1, L2, L3, L4, L5, L6, L7, L8, L9, L10, L12, L31, L32, L40, L48, L50, L99, L100, L120, L180, L256, L500, n_lt0, n_ge0, n_let, n_lef, n_ltt, n_ltf, n_eqt, n_eqf, m_lt, m_le, m_eq, m_eq2, m_le2, m_lt2, m_nle, m_nlt, if_true, if_false, eq_self, Option.bind_some, mb0, mb1, mbb, mbn0, mbn1, not_true, not_false_eq_true, reduceIte, Bool.false_eq_true, nI_add, nI_clamp, pk_mul, in_t, in_f, in_m, zr, za, at_SZ, put_SZ, rd_at, wr_at, rd_m, wr_m], show f2_passDrawnYears_2 SZ 1000 1000 148 (nI m) (nI v) 0 (mm_up I2 28 0 (nI w)) J = _ from q1, Option.bind_some, dC, Option.bind_some, cnt_eq' (by omega), Option.bind_some]
    · show f11_compared SZ 1000 167 (nI m) (nI v) (nI w) Im J = _
      unfold f11_compared
      rw [isD, ha, hb, Option.bind_some, if_neg (show ¬ b01 (true && true) = 0 by decide), mc, hc, Option.bind_some, if_neg n1, hB.1.2.2.2.1, if_neg (nI_ne0 (by omega) (by omega)), s1, Option.bind_some]
      refine (q3 (Im 167 6)).trans ?_
      show f11_compared_52_b SZ 1000 _ 167 (nI m) (nI v) (Im 167 6) (nI m) B3 J = _
      unfold f11_compared_52_b
      rw [if_pos (nI_le (Nat.le_refl m) (by omega)), dM, Option.bind_some, mbits_eq' (by omega) (by omega), Option.bind_some, l1]
      rfl
    · rw [q4 q (by omega), mm_up_o (by omega), c3 q (by omega) (by omega)]
    · rw [mm_up_o (by omega), l2.1 q (by omega) (by omega), q5.1 q (by omega) (by omega), mm_up_o (by omega), s2 q (by omega)]
    · rw [q4 q (by omega), mm_up_o h1, c3 q h1 h2]
    · rw [mm_up_o h1, l2.1 q h1 h3, q5.1 q h1 h3, mm_up_o h1, s2 q h2]
    · by_cases e : q = 6
      · subst e
        rw [up_s2]
      · rw [up_o2 (by omega), g167 q h1 h2, up_o2 (by omega), e167]
    · rw [mm_up_o (by omega), l2.1 199 (by omega) (by omega), q5.1 199 (by omega) (by omega), mm_up_o (by omega), s3 c hc]
    · rw [vCur_c (Im := B4) (fun r h1 h2 => mm_up_o (by omega)) (up_o2 (by omega))]
      exact l3
    · rw [up_o2 (by omega), l4, s5]
