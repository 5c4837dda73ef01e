/-! ===== part 39: who lives, who saw, who worked by night, the year (written by wip/whole/pre.py) ===== -/
section UPD
variable {T P N F : Nat} {Ic : mm_I} {v : vw}
theorem rF.kill (h : rF T P N F Ic v) {p : Nat} (hp : p < P) (hP : P ≤ 8) (k0 : ∀ t, t < 6 → v.1 0 (6 * p + t) = 0) (k4 : v.1 4 p = -1) (k5 : v.1 5 p = -1) (k7 : v.1 7 p = -1) : rF T P N F (mm_up Ic F 8 (Ic F 8 &&& ((nI 1 <<< (nI p &&& nI 31)) ^^^ m1))) (vS v 3 p (nI 0)) := by
  obtain ⟨h1, h2, h3, h4, h5, h6, ⟨Lv, l1, l2, l3, l4⟩, h8, h9, h10, h11, h12, ⟨Wt, w1, w2⟩, ⟨Nt, n1, n2⟩, y, y1, y2, y3⟩ := h
  refine ⟨?_, ?_, ?_, ?_, ?_, ?_, ⟨fun j => Lv j && !(p == j), ?_, ?_, ?_, ?_⟩, ?_, ?_, ?_, ?_, ?_, ⟨Wt, ?_, ?_⟩, ⟨Nt, ?_, ?_⟩, y, y1, ?_, y3⟩ <;> try first | assumption | (simp (disch := omega) only [up_o2, vS_o]; assumption)
  · rw [up_s2, l1, bsI_del (by omega)]
  · intro q hq
    by_cases e : q = p
    · subst e
      rw [vS_s]
      simp [b01]
      rfl
    · rw [vS_o (by omega), l2 q hq]
      have : (p == q) = false := by
        rw [beq_eq_false_iff_ne]; omega
      simp [this]
  · intro q hq
    simp [l3 q hq]
  · intro q hq hd
    simp (disch := omega) only [vS_o]
    by_cases e : q = p
    · subst e
      exact ⟨k0, k4, k5, k7⟩
    · have : (p == q) = false := by
        rw [beq_eq_false_iff_ne]; omega
      refine l4 q hq ?_
      simpa [this] using hd
theorem rF.born (h : rF T P N F Ic v) {p : Nat} (hp : p < P) (hP : P ≤ 8) : rF T P N F (mm_up Ic F 8 (Ic F 8 ||| (nI 1 <<< (nI p &&& nI 31)))) (vS v 3 p (nI 1)) := by
  obtain ⟨h1, h2, h3, h4, h5, h6, ⟨Lv, l1, l2, l3, l4⟩, h8, h9, h10, h11, h12, ⟨Wt, w1, w2⟩, ⟨Nt, n1, n2⟩, y, y1, y2, y3⟩ := h
  refine ⟨?_, ?_, ?_, ?_, ?_, ?_, ⟨fun j => Lv j || (p == j), ?_, ?_, ?_, ?_⟩, ?_, ?_, ?_, ?_, ?_, ⟨Wt, ?_, ?_⟩, ⟨Nt, ?_, ?_⟩, y, y1, ?_, y3⟩ <;> try first | assumption | (simp (disch := omega) only [up_o2, vS_o]; assumption)
  · rw [up_s2, l1, bsI_one (by omega)]
  · intro q hq
    by_cases e : q = p
    · subst e
      rw [vS_s]
      simp [b01]
      rfl
    · rw [vS_o (by omega), l2 q hq]
      have : (p == q) = false := by
        rw [beq_eq_false_iff_ne]; omega
      simp [this]
  · intro q hq
    have : (p == q) = false := by
      rw [beq_eq_false_iff_ne]; omega
    simp [l3 q hq, this]
  · intro q hq hd
    simp (disch := omega) only [vS_o]
    by_cases e : q = p
    · subst e
      simp at hd
    · have : (p == q) = false := by
        rw [beq_eq_false_iff_ne]; omega
      refine l4 q hq ?_
      simpa [this] using hd
theorem rF.wt (h : rF T P N F Ic v) {W : Nat → Bool} {v' : vw} (hv : ∀ a b, a ≠ 9 → v'.1 a b = v.1 a b) (hy : v'.2 = v.2) (hw : (∀ p, p < 8 → v'.1 9 p = b01 (W p)) ∧ ∀ p, P ≤ p → W p = false) : rF T P N F (mm_up Ic F 9 (bsI W 8)) v' := by
  obtain ⟨h1, h2, h3, h4, h5, h6, ⟨Lv, l1, l2, l3, l4⟩, h8, h9, h10, h11, h12, ⟨Wt, w1, w2⟩, ⟨Nt, n1, n2⟩, y, y1, y2, y3⟩ := h
  refine ⟨?_, ?_, ?_, ?_, ?_, ?_, ⟨Lv, ?_, ?_, l3, ?_⟩, ?_, ?_, ?_, ?_, ?_, ⟨W, ?_, hw⟩, ⟨Nt, ?_, ?_⟩, y, y1, ?_, by rw [hy]; exact y3⟩ <;> try first | assumption | (simp (disch := omega) only [up_o2, hv]; assumption)
  rw [up_s2]
theorem rF.ng (h : rF T P N F Ic v) {W : Nat → Bool} {v' : vw} (hv : ∀ a b, a ≠ 10 → v'.1 a b = v.1 a b) (hy : v'.2 = v.2) (hw : (∀ p, p < 8 → v'.1 10 p = b01 (W p)) ∧ ∀ p, P ≤ p → W p = false) : rF T P N F (mm_up Ic F 10 (bsI W 8)) v' := by
  obtain ⟨h1, h2, h3, h4, h5, h6, ⟨Lv, l1, l2, l3, l4⟩, h8, h9, h10, h11, h12, ⟨Wt, w1, w2⟩, ⟨Nt, n1, n2⟩, y, y1, y2, y3⟩ := h
  refine ⟨?_, ?_, ?_, ?_, ?_, ?_, ⟨Lv, ?_, ?_, l3, ?_⟩, ?_, ?_, ?_, ?_, ?_, ⟨Wt, ?_, ?_⟩, ⟨W, ?_, hw⟩, y, y1, ?_, by rw [hy]; exact y3⟩ <;> try first | assumption | (simp (disch := omega) only [up_o2, hv]; assumption)
  rw [up_s2]
theorem rF.yr (h : rF T P N F Ic v) {v' : vw} {y : Nat} (hv : ∀ a b, v'.1 a b = v.1 a b) (hy : v'.2 = nI y) {N2 : Nat} (hN : N ≤ N2) (hyN : y ≤ N2) : rF T P N2 F (mm_up Ic F 11 (nI y)) v' := by
  obtain ⟨h1, h2, h3, h4, h5, h6, ⟨Lv, l1, l2, l3, l4⟩, h8, h9, h10, h11, h12, ⟨Wt, w1, w2⟩, ⟨Nt, n1, n2⟩, y0, y1, y2, y3⟩ := h.mono hN
  refine ⟨?_, ?_, ?_, ?_, ?_, ?_, ⟨Lv, ?_, ?_, l3, ?_⟩, ?_, ?_, ?_, ?_, ?_, ⟨Wt, ?_, ?_⟩, ⟨Nt, ?_, ?_⟩, y, hyN, ?_, hy⟩ <;> try first | assumption | (simp (disch := omega) only [up_o2, hv]; assumption)
  rw [up_s2]
/-- what a Folk's other numbers are is no matter -/
theorem rF.seed (h : rF T P N F Ic v) {x : Int32} : rF T P N F (mm_up Ic F 12 x) v := by
  obtain ⟨h1, h2, h3, h4, h5, h6, ⟨Lv, l1, l2, l3, l4⟩, h8, h9, h10, h11, h12, ⟨Wt, w1, w2⟩, ⟨Nt, n1, n2⟩, y, y1, y2, y3⟩ := h
  refine ⟨?_, ?_, ?_, ?_, ?_, ?_, ⟨Lv, ?_, ?_, l3, ?_⟩, ?_, ?_, ?_, ?_, ?_, ⟨Wt, ?_, ?_⟩, ⟨Nt, ?_, ?_⟩, y, y1, ?_, y3⟩ <;> try first | assumption | (simp (disch := omega) only [up_o2]; assumption)
end UPD
theorem fF.le {F : Nat} {I I1 : mm_I} (h : fF F I I1) (hF : F + 16 < 167) : ∀ r, 167 ≤ r → I1 r = I r := fun r hr => h r (by omega)
theorem fV.ge {I I1 : mm_I} (h : fV I I1) : ∀ r, r < 167 → I1 r = I r := fun r hr => h.1 r (by omega) (by omega)
theorem rF.vm {T P N F : Nat} {Ic Im Im' : mm_I} (h : rF T P N F Ic (vCur Im)) (e : ∀ r, 167 ≤ r → Im' r = Im r) : rF T P N F Ic (vCur Im') := by
  rw [vCur_c (fun r h1 _ => e r (by omega)) (by rw [e 167 (by omega)])]
  exact h
theorem Inv_folk {T P k : Nat} {I I1 I2 : mm_I} {J : mm_J} (h : rAll T P (100 * k) I I) (fc : fF 29 I I1) (fm : fV I1 I2) (hR : rF T P (100 * (k + 1)) 29 I1 (vCur I2)) (hS : rS I1 I2) : Inv (k + 1) I2 J :=
  ⟨T, P, ((h.m (fc.le (by omega))).folk (by omega) fc fm hR hS).k fm.ge⟩
/-! practise -/
theorem st_practise : St_practise Inv := by
  intro k hk a b I J h
  have h0 := h
  obtain ⟨T, P, hA⟩ := h
  have hA' := hA
  obtain ⟨a1, a2, a3, a4, a5, a6, a7, a8, a9, a10, a11, a12, a13, a14, a15⟩ := hA
  have hT := a1.1
  have hP := a1.2.1
  unfold f10_practise f11_practise f11_practise_16 f11_practise_38
  simp only [zr]
  rcases in_cases P (by omega) a with ha | ⟨p, hp, rfl⟩
  · rw [cKp_outP a1 ha]
    refine ⟨0, (-1000000001, I, J), (-1000000001, I, J), rfl, ?_, rfl, Inv_mono k I J h0⟩
    rw [mPe_out a1 ha]
    rfl
  · rcases in_cases T (by omega) b with hb | ⟨t, ht, rfl⟩
    · rw [cKp_outT a1 hp hb]
      refine ⟨0, (-1000000001, I, J), (-1000000001, I, J), rfl, ?_, rfl, Inv_mono k I J h0⟩
      rw [mPe_in a1 hp, mTr_out a1 hb]
      rfl
    · rw [cKp_in a1 hp ht, Option.bind_some, if_neg (by decide), cKn (Or.inl rfl) (by omega) (by omega), Option.bind_some]
      obtain ⟨s1, -⟩ := a5.1 (6 * p + t) (by omega)
      have s1 : I 33 (6 * p + t) = I 174 (6 * p + t) := s1
      rw [s1]
      obtain ⟨Lv, l1, l2, l3, l4⟩ := a5.2.2.2.2.2.2.1
      have l2p : I 173 p = b01 (Lv p) := l2 p (by omega)
      by_cases hk0 : decide (nI 0 < I 174 (6 * p + t)) = true
      · have hl : Lv p = true := by
          cases hl : Lv p
          · have := (l4 p hp hl).1 t (by omega)
            have this : I 174 (6 * p + t) = 0 := this
            rw [this] at hk0
            exact absurd hk0 (by decide)
          · rfl
        have q1 : fF 29 I (mm_up I 37 p (nI t)) := fF.up (by omega)
        have b1 : rT T P (mm_up I 37 p (nI t)) (mm_up I 37 p (nI t)) := a1.c rfl rfl rfl rfl
        refine ⟨0, (I 37 p, mm_up I 37 p (nI t), J), (I 176 p, mm_up (mm_up I 37 p (nI t)) 176 p (nI t), J), ?_, ?_, (a5.2.2.2.2.2.2.2.1 p hp).1, Inv_folk hA' q1 (fV.up (by omega)) (((a5.vm (q1.le (by omega))).mono (by omega)).prac hp (Or.inr ⟨t, ht, rfl⟩) (Or.inr (by rw [← hl]; exact l2 p (by omega))) hP |>.e (vCur_up (j := 4) (by omega))) (a6.c rfl rfl)⟩
        · rw [hk0, if_neg (by decide)]
          simp (disch := omega) only [↓M1, ↓ofNat_nI, L0, L1, L2, L3, L4, L5, L6, L7, L8, L9, L10, L12, L31, L32, L40, L48, L50, L99, L100, L120, L180, L256, L500, n_lt0, n_ge0, n_let, n_lef, n_ltt, n_ltf, n_eqt, n_eqf, m_lt, m_le, m_eq, m_eq2, m_le2, m_lt2, m_nle, m_nlt, if_true, if_false, eq_self, Option.bind_some, mb0, mb1, mbb, mbn0, mbn1, not_true, not_false_eq_true, reduceIte, Bool.false_eq_true, nI_add, nI_clamp, pk_mul, in_t, in_f, in_m, zr, za, at_SZ, put_SZ, rd_at, wr_at, rd_m, wr_m]
        · rw [mPe_in b1 hp, Option.bind_some, if_neg (by decide), mTr_in b1 ht, Option.bind_some, if_neg (by decide)]
          simp (disch := omega) only [↓M1, ↓ofNat_nI, L0, L1, L2, L3, L4, L5, L6, L7, L8, L9, L10, L12, L31, L32, L40, L48, L50, L99, L100, L120, L180, L256, L500, n_lt0, n_ge0, n_let, n_lef, n_ltt, n_ltf, n_eqt, n_eqf, m_lt, m_le, m_eq, m_eq2, m_le2, m_lt2, m_nle, m_nlt, if_true, if_false, eq_self, Option.bind_some, mb0, mb1, mbb, mbn0, mbn1, not_true, not_false_eq_true, reduceIte, Bool.false_eq_true, nI_add, nI_clamp, pk_mul, in_t, in_f, in_m, zr, za, at_SZ, put_SZ, rd_at, wr_at, rd_m, wr_m, up_s2, up_o2]
          rw [l2p, hl, if_neg (show ¬ b01 true = nI 0 by decide), mKn (by omega) (by omega), Option.bind_some]
          simp (disch := omega) only [↓M1, ↓ofNat_nI, L0, L1, L2, L3, L4, L5, L6, L7, L8, L9, L10, L12, L31, L32, L40, L48, L50, L99, L100, L120, L180, L256, L500, n_lt0, n_ge0, n_let, n_lef, n_ltt, n_ltf, n_eqt, n_eqf, m_lt, m_le, m_eq, m_eq2, m_le2, m_lt2, m_nle, m_nlt, if_true, if_false, eq_self, Option.bind_some, mb0, mb1, mbb, mbn0, mbn1, not_true, not_false_eq_true, reduceIte, Bool.false_eq_true, nI_add, nI_clamp, pk_mul, in_t, in_f, in_m, zr, za, at_SZ, put_SZ, rd_at, wr_at, rd_m, wr_m, up_s2, up_o2]
          rw [hk0, if_neg (show ¬ b01 true = nI 0 by decide)]
      · have hk0 : decide (nI 0 < I 174 (6 * p + t)) = false := eq_false_of_ne_true hk0
        rw [hk0]
        refine ⟨0, (-1000000003, I, J), (-1000000003, I, J), rfl, ?_, rfl, Inv_mono k I J h0⟩
        rw [mPe_in a1 hp, Option.bind_some, if_neg (by decide), mTr_in a1 ht, Option.bind_some, if_neg (by decide)]
        simp (disch := omega) only [↓M1, ↓ofNat_nI, L0, L1, L2, L3, L4, L5, L6, L7, L8, L9, L10, L12, L31, L32, L40, L48, L50, L99, L100, L120, L180, L256, L500, n_lt0, n_ge0, n_let, n_lef, n_ltt, n_ltf, n_eqt, n_eqf, m_lt, m_le, m_eq, m_eq2, m_le2, m_lt2, m_nle, m_nlt, if_true, if_false, eq_self, Option.bind_some, mb0, mb1, mbb, mbn0, mbn1, not_true, not_false_eq_true, reduceIte, Bool.false_eq_true, nI_add, nI_clamp, pk_mul, in_t, in_f, in_m, zr, za, at_SZ, put_SZ, rd_at, wr_at, rd_m, wr_m, up_s2, up_o2]
        by_cases hz : I 173 p = nI 0
        · rw [if_pos hz]
        · rw [if_neg hz, mKn (by omega) (by omega), hk0]
          rfl
