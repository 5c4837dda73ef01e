/-! ===== part 37: told, trade, person, makers, practise (written by wip/whole/pre.py) ===== -/
theorem st_told : St_told Inv := by
  intro k hk a I J h
  have h0 := h
  obtain ⟨T, P, a1, a2, a3, a4, a5, a6, a7, a8, a9, a10, a11, a12, a13, a14, a15⟩ := h
  suffices hh : ∃ o, f10_told SZ 100 0 a I J = some o ∧ f11_told SZ 100 167 a I J = some o by
    obtain ⟨o, o1, o2⟩ := hh
    exact ⟨100, o, o, o1, o2, rfl, Inv_mono k I J h0⟩
  have hT := a1.1
  have hP := a1.2.1
  obtain ⟨⟨x0, -, -, c0, d0⟩, ⟨x1, -, c1, d1⟩, ⟨x2, -, -, c2, d2⟩, ⟨x3, -, c3, d3⟩, ⟨x4, -, -, c4, d4⟩, ⟨x5, c5, d5⟩⟩ := a4
  obtain ⟨M, -, m1, m2, -⟩ := a12
  obtain ⟨B, -, b1, b2, -⟩ := a13
  obtain ⟨X, -, e1, e2, -⟩ := a14
  unfold f10_told f11_told f10_told_159 f11_told_129
  simp only [zr]
  by_cases e : a = 0
  · rw [if_pos e, if_pos e]; exact ⟨_, rfl, congrArg some (a1.2.2.2.1.trans a1.2.2.1.symm)⟩
  rw [if_neg e, if_neg e]; clear e
  by_cases e : a = 1
  · rw [if_pos e, if_pos e]; exact ⟨_, rfl, congrArg some (a1.2.2.2.2.2.trans a1.2.2.2.2.1.symm)⟩
  rw [if_neg e, if_neg e]; clear e
  by_cases e : a = 2
  · rw [if_pos e, if_pos e]
    refine ⟨_, rfl, ?_⟩
    rw [liv_eq (by omega) hP a1.2.2.2.2.2, Option.bind_some, a5.liv hP]
    rfl
  rw [if_neg e, if_neg e]; clear e
  by_cases e : a = 3
  · rw [if_pos e, if_pos e]
    obtain ⟨y, -, f1, f2⟩ := a5.2.2.2.2.2.2.2.2.2.2.2.2.2.2
    exact ⟨_, rfl, congrArg some (f2.trans f1.symm)⟩
  rw [if_neg e, if_neg e]; clear e
  by_cases e : a = 4
  · rw [if_pos e, if_pos e]; exact ⟨_, rfl, congrArg some (d0.trans c0.symm)⟩
  rw [if_neg e, if_neg e]; clear e
  by_cases e : a = 5
  · rw [if_pos e, if_pos e]; exact ⟨_, rfl, congrArg some (d1.trans c1.symm)⟩
  rw [if_neg e, if_neg e]; clear e
  by_cases e : a = 6
  · rw [if_pos e, if_pos e]; exact ⟨_, rfl, congrArg some (d2.trans c2.symm)⟩
  rw [if_neg e, if_neg e]; clear e
  by_cases e : a = 7
  · rw [if_pos e, if_pos e]; exact ⟨_, rfl, congrArg some (d3.trans c3.symm)⟩
  rw [if_neg e, if_neg e]; clear e
  by_cases e : a = 8
  · rw [if_pos e, if_pos e]; exact ⟨_, rfl, congrArg some (d4.trans c4.symm)⟩
  rw [if_neg e, if_neg e]; clear e
  by_cases e : a = 9
  · rw [if_pos e, if_pos e, c5, d5]
    cases x5
    · exact ⟨0, rfl, rfl⟩
    · exact ⟨1, rfl, rfl⟩
  rw [if_neg e, if_neg e]; clear e
  by_cases e : a = 10
  · rw [if_pos e, if_pos e]; exact ⟨_, rfl, congrArg some (e2.trans e1.symm)⟩
  rw [if_neg e, if_neg e]; clear e
  by_cases e : a = 11
  · rw [if_pos e, if_pos e]; exact ⟨_, rfl, congrArg some (m2.trans m1.symm)⟩
  rw [if_neg e, if_neg e]; clear e
  by_cases e : a = 12
  · rw [if_pos e, if_pos e]; exact ⟨_, rfl, congrArg some (b2.trans b1.symm)⟩
  rw [if_neg e, if_neg e]; clear e
  by_cases e : a = 13
  · rw [if_pos e, if_pos e, dt_eq (L := 147) (R := 26) (F := 29) (by omega) (Or.inl ⟨rfl, rfl, rfl⟩) hT a1.2.2.1, ds_eq (by omega) hT hP a1.2.2.2.1 a1.2.2.2.2.2]
    refine ⟨_, rfl, ?_⟩
    rw [a5.ded hT hP]
    rfl
  rw [if_neg e, if_neg e]
  exact ⟨_, rfl, rfl⟩
theorem st_trade : St_trade Inv := by
  intro k hk a b I J h
  have h0 := h
  obtain ⟨T, P, a1, a2, a3, a4, a5, a6, a7, a8, a9, a10, a11, a12, a13, a14, a15⟩ := h
  suffices hh : ∃ o, f10_trade SZ 100 0 a b I J = some o ∧ f11_trade SZ 100 167 a b I J = some o by
    obtain ⟨o, o1, o2⟩ := hh
    exact ⟨100, o, o, o1, o2, rfl, Inv_mono k I J h0⟩
  have hT := a1.1
  have hP := a1.2.1
  unfold f10_trade f11_trade
  simp only [zr]
  rcases in_cases T (by omega) a with ha | ⟨t, ht, rfl⟩
  · rw [cTr_out a1 ha, mTr_out a1 ha]
    exact ⟨_, rfl, rfl⟩
  · rw [cTr_in a1 ht, mTr_in a1 ht, Option.bind_some, Option.bind_some, if_neg (show ¬ (1 : Int32) = 0 by decide), if_neg (show ¬ (1 : Int32) = 0 by decide)]
    obtain ⟨⟨k0, -, c0, d0⟩, ⟨k1, -, -, c1, d1⟩, ⟨k2, -, c2, d2⟩, c3, -⟩ := a2 t ht
    by_cases e : b = 0
    · rw [if_pos e, if_pos e]
      subst e
      simp (disch := omega) only [↓M1, ↓ofNat_nI, L0, L1, L2, L3, L4, L5, L6, L7, L8, L9, L10, L12, L31, L32, L40, L48, L50, L99, L100, L120, L180, L256, L500, n_lt0, n_ge0, n_let, n_lef, n_ltt, n_ltf, n_eqt, n_eqf, m_lt, m_le, m_eq, m_eq2, m_le2, m_lt2, m_nle, m_nlt, if_true, if_false, eq_self, Option.bind_some, mb0, mb1, mbb, mbn0, mbn1, not_true, not_false_eq_true, reduceIte, Bool.false_eq_true, nI_add, nI_clamp, pk_mul, in_t, in_f, in_m, zr, za, at_SZ, put_SZ, rd_at, wr_at, rd_m, wr_m]
      exact ⟨_, rfl, congrArg some (d0.trans c0.symm)⟩
    rw [if_neg e, if_neg e]; clear e
    by_cases e : b = 1
    · rw [if_pos e, if_pos e]
      subst e
      simp (disch := omega) only [↓M1, ↓ofNat_nI, L0, L1, L2, L3, L4, L5, L6, L7, L8, L9, L10, L12, L31, L32, L40, L48, L50, L99, L100, L120, L180, L256, L500, n_lt0, n_ge0, n_let, n_lef, n_ltt, n_ltf, n_eqt, n_eqf, m_lt, m_le, m_eq, m_eq2, m_le2, m_lt2, m_nle, m_nlt, if_true, if_false, eq_self, Option.bind_some, mb0, mb1, mbb, mbn0, mbn1, not_true, not_false_eq_true, reduceIte, Bool.false_eq_true, nI_add, nI_clamp, pk_mul, in_t, in_f, in_m, zr, za, at_SZ, put_SZ, rd_at, wr_at, rd_m, wr_m]
      exact ⟨_, rfl, congrArg some (d1.trans c1.symm)⟩
    rw [if_neg e, if_neg e]; clear e
    by_cases e : b = 2
    · rw [if_pos e, if_pos e]
      subst e
      simp (disch := omega) only [↓M1, ↓ofNat_nI, L0, L1, L2, L3, L4, L5, L6, L7, L8, L9, L10, L12, L31, L32, L40, L48, L50, L99, L100, L120, L180, L256, L500, n_lt0, n_ge0, n_let, n_lef, n_ltt, n_ltf, n_eqt, n_eqf, m_lt, m_le, m_eq, m_eq2, m_le2, m_lt2, m_nle, m_nlt, if_true, if_false, eq_self, Option.bind_some, mb0, mb1, mbb, mbn0, mbn1, not_true, not_false_eq_true, reduceIte, Bool.false_eq_true, nI_add, nI_clamp, pk_mul, in_t, in_f, in_m, zr, za, at_SZ, put_SZ, rd_at, wr_at, rd_m, wr_m]
      exact ⟨_, rfl, congrArg some (d2.trans c2.symm)⟩
    rw [if_neg e, if_neg e]; clear e
    by_cases e : b = 3
    · rw [if_pos e, if_pos e]
      subst e
      simp (disch := omega) only [↓M1, ↓ofNat_nI, L0, L1, L2, L3, L4, L5, L6, L7, L8, L9, L10, L12, L31, L32, L40, L48, L50, L99, L100, L120, L180, L256, L500, n_lt0, n_ge0, n_let, n_lef, n_ltt, n_ltf, n_eqt, n_eqf, m_lt, m_le, m_eq, m_eq2, m_le2, m_lt2, m_nle, m_nlt, if_true, if_false, eq_self, Option.bind_some, mb0, mb1, mbb, mbn0, mbn1, not_true, not_false_eq_true, reduceIte, Bool.false_eq_true, nI_add, nI_clamp, pk_mul, in_t, in_f, in_m, zr, za, at_SZ, put_SZ, rd_at, wr_at, rd_m, wr_m]
      exact ⟨_, rfl, congrArg some c3.symm⟩
    rw [if_neg e, if_neg e]; clear e
    by_cases e : b = 4
    · rw [if_pos e, if_pos e, with_eq (by omega) (Or.inl rfl) (by omega), knw_eq (by omega) (by omega) hP a1.2.2.2.2.2]
      refine ⟨_, rfl, ?_⟩
      rw [a5.wit hP (by omega) (by decide)]
      rfl
    rw [if_neg e, if_neg e]; clear e
    by_cases e : b = 5
    · rw [if_pos e, if_pos e, with_eq (by omega) (Or.inl rfl) (by omega), knw_eq (by omega) (by omega) hP a1.2.2.2.2.2]
      refine ⟨_, rfl, ?_⟩
      rw [a5.wit hP (by omega) (by decide)]
      rfl
    rw [if_neg e, if_neg e]; clear e
    by_cases e : b = 6
    · rw [if_pos e, if_pos e]
      obtain ⟨w, -, f1, f2⟩ := a11 t (by omega)
      simp (disch := omega) only [↓M1, ↓ofNat_nI, L0, L1, L2, L3, L4, L5, L6, L7, L8, L9, L10, L12, L31, L32, L40, L48, L50, L99, L100, L120, L180, L256, L500, n_lt0, n_ge0, n_let, n_lef, n_ltt, n_ltf, n_eqt, n_eqf, m_lt, m_le, m_eq, m_eq2, m_le2, m_lt2, m_nle, m_nlt, if_true, if_false, eq_self, Option.bind_some, mb0, mb1, mbb, mbn0, mbn1, not_true, not_false_eq_true, reduceIte, Bool.false_eq_true, nI_add, nI_clamp, pk_mul, in_t, in_f, in_m, zr, za, at_SZ, put_SZ, rd_at, wr_at, rd_m, wr_m]
      exact ⟨_, rfl, congrArg some (f2.trans f1.symm)⟩
    rw [if_neg e, if_neg e]
    exact ⟨_, rfl, rfl⟩
theorem b01_if {b : Bool} : (if b01 b = 0 then (0 : Int32) else 1) = b01 b := by cases b <;> rfl
theorem st_person : St_person Inv := by
  intro k hk a b I J h
  have h0 := h
  obtain ⟨T, P, a1, a2, a3, a4, a5, a6, a7, a8, a9, a10, a11, a12, a13, a14, a15⟩ := h
  suffices hh : ∃ o, f10_person SZ 100 0 a b I J = some o ∧ f11_person SZ 100 167 a b I J = some o by
    obtain ⟨o, o1, o2⟩ := hh
    exact ⟨100, o, o, o1, o2, rfl, Inv_mono k I J h0⟩
  have hT := a1.1
  have hP := a1.2.1
  have a5' := a5
  obtain ⟨v1, v2, v3, v4, v5, v6, v7, v8, v9, v10, v11, v12, ⟨Wt, w1, w2⟩, ⟨Nt, n1, n2⟩, v15⟩ := a5
  unfold f10_person f11_person f10_person_148 f10_person_168 f11_person_115 f11_person_130
  simp only [zr]
  rcases in_cases P (by omega) a with ha | ⟨p, hp, rfl⟩
  · rw [cPe_out a1 ha, mPe_out a1 ha]
    exact ⟨_, rfl, rfl⟩
  · rw [cPe_in a1 hp, mPe_in a1 hp, Option.bind_some, Option.bind_some, if_neg (show ¬ (1 : Int32) = 0 by decide), if_neg (show ¬ (1 : Int32) = 0 by decide)]
    by_cases e : b = 0
    · rw [if_pos e, if_pos e]
      simp (disch := omega) only [↓M1, ↓ofNat_nI, L0, L1, L2, L3, L4, L5, L6, L7, L8, L9, L10, L12, L31, L32, L40, L48, L50, L99, L100, L120, L180, L256, L500, n_lt0, n_ge0, n_let, n_lef, n_ltt, n_ltf, n_eqt, n_eqf, m_lt, m_le, m_eq, m_eq2, m_le2, m_lt2, m_nle, m_nlt, if_true, if_false, eq_self, Option.bind_some, mb0, mb1, mbb, mbn0, mbn1, not_true, not_false_eq_true, reduceIte, Bool.false_eq_true, nI_add, nI_clamp, pk_mul, in_t, in_f, in_m, zr, za, at_SZ, put_SZ, rd_at, wr_at, rd_m, wr_m]
      exact ⟨_, rfl, congrArg some (v6 p hp).symm⟩
    rw [if_neg e, if_neg e]; clear e
    by_cases e : b = 1
    · rw [if_pos e, if_pos e]
      simp (disch := omega) only [↓M1, ↓ofNat_nI, L0, L1, L2, L3, L4, L5, L6, L7, L8, L9, L10, L12, L31, L32, L40, L48, L50, L99, L100, L120, L180, L256, L500, n_lt0, n_ge0, n_let, n_lef, n_ltt, n_ltf, n_eqt, n_eqf, m_lt, m_le, m_eq, m_eq2, m_le2, m_lt2, m_nle, m_nlt, if_true, if_false, eq_self, Option.bind_some, mb0, mb1, mbb, mbn0, mbn1, not_true, not_false_eq_true, reduceIte, Bool.false_eq_true, nI_add, nI_clamp, pk_mul, in_t, in_f, in_m, zr, za, at_SZ, put_SZ, rd_at, wr_at, rd_m, wr_m]
      exact ⟨_, rfl, congrArg some (v8 p hp).1.symm⟩
    rw [if_neg e, if_neg e]; clear e
    by_cases e : b = 2
    · rw [if_pos e, if_pos e]
      simp (disch := omega) only [↓M1, ↓ofNat_nI, L0, L1, L2, L3, L4, L5, L6, L7, L8, L9, L10, L12, L31, L32, L40, L48, L50, L99, L100, L120, L180, L256, L500, n_lt0, n_ge0, n_let, n_lef, n_ltt, n_ltf, n_eqt, n_eqf, m_lt, m_le, m_eq, m_eq2, m_le2, m_lt2, m_nle, m_nlt, if_true, if_false, eq_self, Option.bind_some, mb0, mb1, mbb, mbn0, mbn1, not_true, not_false_eq_true, reduceIte, Bool.false_eq_true, nI_add, nI_clamp, pk_mul, in_t, in_f, in_m, zr, za, at_SZ, put_SZ, rd_at, wr_at, rd_m, wr_m]
      exact ⟨_, rfl, congrArg some (v9 p hp).1.symm⟩
    rw [if_neg e, if_neg e]; clear e
    by_cases e : b = 3
    · rw [if_pos e, if_pos e]
      simp (disch := omega) only [↓M1, ↓ofNat_nI, L0, L1, L2, L3, L4, L5, L6, L7, L8, L9, L10, L12, L31, L32, L40, L48, L50, L99, L100, L120, L180, L256, L500, n_lt0, n_ge0, n_let, n_lef, n_ltt, n_ltf, n_eqt, n_eqf, m_lt, m_le, m_eq, m_eq2, m_le2, m_lt2, m_nle, m_nlt, if_true, if_false, eq_self, Option.bind_some, mb0, mb1, mbb, mbn0, mbn1, not_true, not_false_eq_true, reduceIte, Bool.false_eq_true, nI_add, nI_clamp, pk_mul, in_t, in_f, in_m, zr, za, at_SZ, put_SZ, rd_at, wr_at, rd_m, wr_m]
      exact ⟨_, rfl, congrArg some (v11 p hp).1.symm⟩
    rw [if_neg e, if_neg e]; clear e
    by_cases e : b = 4
    · rw [if_pos e, if_pos e, kb_eq (by omega) (Or.inl rfl) (by omega), ks_eq (by omega) hT (by omega) a1.2.2.2.1]
      refine ⟨_, rfl, ?_⟩
      rw [a5'.kno hT (by omega)]
      rfl
    rw [if_neg e, if_neg e]; clear e
    by_cases e : b = 5
    · rw [if_pos e, if_pos e]
      simp (disch := omega) only [↓M1, ↓ofNat_nI, L0, L1, L2, L3, L4, L5, L6, L7, L8, L9, L10, L12, L31, L32, L40, L48, L50, L99, L100, L120, L180, L256, L500, n_lt0, n_ge0, n_let, n_lef, n_ltt, n_ltf, n_eqt, n_eqf, m_lt, m_le, m_eq, m_eq2, m_le2, m_lt2, m_nle, m_nlt, if_true, if_false, eq_self, Option.bind_some, mb0, mb1, mbb, mbn0, mbn1, not_true, not_false_eq_true, reduceIte, Bool.false_eq_true, nI_add, nI_clamp, pk_mul, in_t, in_f, in_m, zr, za, at_SZ, put_SZ, rd_at, wr_at, rd_m, wr_m]
      exact ⟨_, rfl, congrArg some (v12 p hp).symm⟩
    rw [if_neg e, if_neg e]; clear e
    have w2' : I 181 p = b01 (Wt p) := w2.1 p (by omega)
    have n2' : I 182 p = b01 (Nt p) := n2.1 p (by omega)
    by_cases e : b = 6
    · rw [if_pos e, if_pos e, w1, has_eq (by omega)]
      simp (disch := omega) only [↓M1, ↓ofNat_nI, L0, L1, L2, L3, L4, L5, L6, L7, L8, L9, L10, L12, L31, L32, L40, L48, L50, L99, L100, L120, L180, L256, L500, n_lt0, n_ge0, n_let, n_lef, n_ltt, n_ltf, n_eqt, n_eqf, m_lt, m_le, m_eq, m_eq2, m_le2, m_lt2, m_nle, m_nlt, if_true, if_false, eq_self, Option.bind_some, mb0, mb1, mbb, mbn0, mbn1, not_true, not_false_eq_true, reduceIte, Bool.false_eq_true, nI_add, nI_clamp, pk_mul, in_t, in_f, in_m, zr, za, at_SZ, put_SZ, rd_at, wr_at, rd_m, wr_m]
      rw [w2']
      cases Wt p
      · exact ⟨nI 0, rfl, rfl⟩
      · exact ⟨nI 1, rfl, rfl⟩
    rw [if_neg e, if_neg e]; clear e
    by_cases e : b = 7
    · rw [if_pos e, if_pos e, n1, has_eq (by omega)]
      simp (disch := omega) only [↓M1, ↓ofNat_nI, L0, L1, L2, L3, L4, L5, L6, L7, L8, L9, L10, L12, L31, L32, L40, L48, L50, L99, L100, L120, L180, L256, L500, n_lt0, n_ge0, n_let, n_lef, n_ltt, n_ltf, n_eqt, n_eqf, m_lt, m_le, m_eq, m_eq2, m_le2, m_lt2, m_nle, m_nlt, if_true, if_false, eq_self, Option.bind_some, mb0, mb1, mbb, mbn0, mbn1, not_true, not_false_eq_true, reduceIte, Bool.false_eq_true, nI_add, nI_clamp, pk_mul, in_t, in_f, in_m, zr, za, at_SZ, put_SZ, rd_at, wr_at, rd_m, wr_m]
      rw [n2']
      cases Nt p
      · exact ⟨nI 0, rfl, rfl⟩
      · exact ⟨nI 1, rfl, rfl⟩
    rw [if_neg e, if_neg e]
    exact ⟨_, rfl, rfl⟩
theorem st_makers : St_makers Inv := by
  intro k hk a I J h
  have h0 := h
  obtain ⟨T, P, a1, a2, a3, a4, a5, a6, a7, a8, a9, a10, a11, a12, a13, a14, a15⟩ := h
  suffices hh : ∃ o, f10_makers SZ 100 0 a I J = some o ∧ f11_makers SZ 100 167 a I J = some o by
    obtain ⟨o, o1, o2⟩ := hh
    exact ⟨100, o, o, o1, o2, rfl, Inv_mono k I J h0⟩
  have hT := a1.1
  have hP := a1.2.1
  obtain ⟨M, hM, m1, m2, m3⟩ := a12
  unfold f10_makers f11_makers f10_makers_34 f11_makers_38
  simp only [zr]
  rw [f10_within_eq, m1, m2, f11_in_32 z64 rfl, Option.bind_some, Option.bind_some]
  rcases in_cases M (by omega) a with ha | ⟨i, hi, rfl⟩
  · rw [inm_out (by omega) ha]
    exact ⟨_, rfl, rfl⟩
  · rw [inm_in hi (by omega)]
    obtain ⟨t, q, ht, hq1, hq2, c1, d1, c2, d2⟩ := m3 i hi
    rw [if_neg (show ¬ b01 true = 0 by decide), if_neg (show ¬ b01 true = 0 by decide)]
    unfold f8_makersOf
    simp (disch := omega) only [↓M1, ↓ofNat_nI, L0, L1, L2, L3, L4, L5, L6, L7, L8, L9, L10, L12, L31, L32, L40, L48, L50, L99, L100, L120, L180, L256, L500, n_lt0, n_ge0, n_let, n_lef, n_ltt, n_ltf, n_eqt, n_eqf, m_lt, m_le, m_eq, m_eq2, m_le2, m_lt2, m_nle, m_nlt, if_true, if_false, eq_self, Option.bind_some, mb0, mb1, mbb, mbn0, mbn1, not_true, not_false_eq_true, reduceIte, Bool.false_eq_true, nI_add, nI_clamp, pk_mul, in_t, in_f, in_m, zr, za, at_SZ, put_SZ, rd_at, wr_at, rd_m, wr_m]
    rw [c1, d1, c2, d2, with_eq (by omega) (Or.inl rfl) (by omega), knw_eq (by omega) (by omega) hP a1.2.2.2.2.2]
    refine ⟨_, rfl, ?_⟩
    rw [a5.wit hP (by omega) (nI_lt (a := 0) (by omega) (by omega))]
    rfl
