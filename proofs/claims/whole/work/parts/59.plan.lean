/-! ===== part 59: what a trade costs; the class's plan (written by wip/whole/pre.py) ===== -/
def cst (Im : mm_I) (p t : Nat) : Nat :=
  if 50 ≤ (Im 174 (6 * p + t)).toNatClampNeg then 0 else if 0 < (Im 174 (6 * p + t)).toNatClampNeg then ((Im 168 (4 * t + 1)).toNatClampNeg * (100 - (Im 174 (6 * p + t)).toNatClampNeg) + 99) / 100 else if Im 173 p = nI 0 then mM else if Im 168 (4 * t) = nI 3 then mM else if Im 168 (4 * t + 3) = m1 then (Im 168 (4 * t + 1)).toNatClampNeg else if kn Im p (Im 168 (4 * t + 3)).toNatClampNeg = true then (Im 168 (4 * t + 1)).toNatClampNeg else mM
section PLN
variable {T P N : Nat} {Ic Im : mm_I} {Jc Jm : mm_J}
theorem forb_eq {t kd : Nat} (ht : t < 6) (hk : kd ≤ 3) (h : Ic 6 t = nI kd) : f0_isForbidden SZ 4 (nI t) Ic Jc = some (if kd = 3 then 1 else 0) := by
  unfold f0_isForbidden f0_isForbidden_17
  simp only [zr]
  have e : f6_at SZ 5 (nI t) Ic Jc = some (nI kd) := by simp (disch := omega) only [↓M1, ↓ofNat_nI, L0, L1, L2, L3, L4, L5, L6, L7, L8, L9, L10, L12, L31, L32, L40, L48, L50, L99, L100, L120, L180, L256, L500, n_lt0, n_ge0, n_let, n_lef, n_ltt, n_ltf, n_eqt, n_eqf, m_lt, m_le, m_eq, m_eq2, m_le2, m_lt2, m_nle, m_nlt, if_true, if_false, eq_self, Option.bind_some, mb0, mb1, mbb, mbn0, mbn1, not_true, not_false_eq_true, reduceIte, Bool.false_eq_true, nI_add, nI_clamp, pk_mul, in_t, in_f, in_m, zr, za, at_SZ, put_SZ, rd_at, wr_at, rd_m, wr_m, h]
  rw [e, Option.bind_some]
  by_cases c : kd = 3
  · rw [if_pos c, if_pos (by rw [c]; rfl)]; rfl
  · rw [if_neg c, if_neg (show ¬ nI kd = (3 : Int32) from fun w => c ((nI_eq (a := kd) (b := 3) (by omega) (by omega)).mp w))]; rfl
theorem cost_v (h : rLf T P N 26 29 Ic Im) {p t : Nat} (hp : p < P) (ht : t < T) : ∃ x y kd, x ≤ 100 ∧ y ≤ 9 ∧ kd ≤ 3 ∧ Ic 33 (6 * p + t) = nI x ∧ Im 174 (6 * p + t) = nI x ∧ Ic 8 t = nI y ∧ Im 168 (4 * t + 1) = nI y ∧ Ic 6 t = nI kd ∧ Im 168 (4 * t) = nI kd ∧ Ic 12 t = Im 168 (4 * t + 3) ∧ (Im 168 (4 * t + 3) = m1 ∨ ∃ d, d < T ∧ Im 168 (4 * t + 3) = nI d) ∧ cst Im p t = if 50 ≤ x then 0 else if 0 < x then (y * (100 - x) + 99) / 100 else if Im 173 p = nI 0 then mM else if kd = 3 then mM else if Im 168 (4 * t + 3) = m1 then y else if kn Im p (Im 168 (4 * t + 3)).toNatClampNeg = true then y else mM := by
  obtain ⟨a1, a2, a3, a4, a5⟩ := h
  have hT := a1.1
  have hP := a1.2.1
  obtain ⟨x, hx, x1, x2⟩ := a5.s (p := p) (t := t) (by omega) (by omega)
  obtain ⟨⟨kd, hk, k1, k2⟩, ⟨y, y1, y2, y3, y4⟩, -, d1, d2⟩ := a2 t ht
  refine ⟨x, y, kd, hx, y2, hk, x1, x2, y3, y4, k1, k2, d1, ?_, ?_⟩
  · rw [← d1]
    rcases d2 with d2 | ⟨d, h1, h2⟩
    · exact Or.inl d2
    · exact Or.inr ⟨d, by omega, h2⟩
  · unfold cst
    rw [x2, y4, k2, nI_clamp (by omega), nI_clamp (by omega), ite_eq (a := kd) (b := 3) (by omega) (by omega)]
theorem cst_le (h : rLf T P N 26 29 Ic Im) {p t : Nat} (hp : p < P) (ht : t < T) : cst Im p t ≤ mM := by
  obtain ⟨x, y, kd, hx, hy, hk, -, -, -, -, -, -, -, -, e⟩ := cost_v h hp ht
  have h9 : (y * (100 - x) + 99) / 100 ≤ mM := by
    have : y * (100 - x) ≤ 9 * 100 := Nat.mul_le_mul hy (by omega)
    have e : mM = 1000000 := rfl
    omega
  have e1 : y ≤ mM := by have e : mM = 1000000 := rfl; omega
  rw [e]
  split
  · exact Nat.zero_le _
  · split
    · exact h9
    · split
      · exact Nat.le_refl _
      · split
        · exact Nat.le_refl _
        · split
          · exact e1
          · split
            · exact e1
            · exact Nat.le_refl _
theorem cst_dead (h : rLf T P N 26 29 Ic Im) {p t : Nat} (hp : p < P) (ht : t < T) (hd : Im 173 p = nI 0) : cst Im p t = mM := by
  obtain ⟨x, y, kd, hx, hy, hk, -, x2, -, -, -, -, -, -, e⟩ := cost_v h hp ht
  have hT := h.1.1
  have hP := h.1.2.1
  obtain ⟨Lv, l1, l2, l3, l4, l5⟩ := h.2.2.2.2.l
  have hL : Lv p = false := by
    have := l2 p (by omega)
    rw [hd] at this
    cases c : Lv p
    · rfl
    · rw [c] at this
      exact absurd this (by decide)
  have x0 := (l4 p hp hL).1 t (by omega)
  rw [x2] at x0
  have x0 : x = 0 := (nI_eq (by omega) (by omega)).mp x0
  subst x0
  rw [e, if_neg (by omega), if_neg (by omega), if_pos hd]
theorem cost_c (h : rLf T P N 26 29 Ic Im) {p t : Nat} (hp : p < P) (ht : t < T) : f3_costOf SZ 149 (nI p) (nI t) Ic Jc = some (nI (cst Im p t)) := by
  obtain ⟨x, y, kd, hx, hy, hk, x1, x2, y1, y2, k1, k2, d1, d2, e⟩ := cost_v h hp ht
  have hT := h.1.1
  have hP := h.1.2.1
  have a5 := h.2.2.2.2
  obtain ⟨Lv, l1, l2, l3, l4, l5⟩ := a5.l
  rw [e]
  have sO : f1_skillOf SZ 29 (nI p) (nI t) Ic Jc = some (nI x) := by
    unfold f1_skillOf
    simp (disch := omega) only [↓M1, ↓ofNat_nI, L0, L1, L2, L3, L4, L5, L6, L7, L8, L9, L10, L12, L31, L32, L40, L48, L50, L99, L100, L120, L180, L256, L500, n_lt0, n_ge0, n_let, n_lef, n_ltt, n_ltf, n_eqt, n_eqf, m_lt, m_le, m_eq, m_eq2, m_le2, m_lt2, m_nle, m_nlt, if_true, if_false, eq_self, Option.bind_some, mb0, mb1, mbb, mbn0, mbn1, not_true, not_false_eq_true, reduceIte, Bool.false_eq_true, nI_add, nI_clamp, pk_mul, in_t, in_f, in_m, zr, za, at_SZ, put_SZ, rd_at, wr_at, rd_m, wr_m, f10_cell_eq, zF isL1.f, x1]
  have yO : f6_at SZ (mm_rf SZ 4 1) (nI t) Ic Jc = some (nI y) := by simp (disch := omega) only [↓M1, ↓ofNat_nI, L0, L1, L2, L3, L4, L5, L6, L7, L8, L9, L10, L12, L31, L32, L40, L48, L50, L99, L100, L120, L180, L256, L500, n_lt0, n_ge0, n_let, n_lef, n_ltt, n_ltf, n_eqt, n_eqf, m_lt, m_le, m_eq, m_eq2, m_le2, m_lt2, m_nle, m_nlt, if_true, if_false, eq_self, Option.bind_some, mb0, mb1, mbb, mbn0, mbn1, not_true, not_false_eq_true, reduceIte, Bool.false_eq_true, nI_add, nI_clamp, pk_mul, in_t, in_f, in_m, zr, za, at_SZ, put_SZ, rd_at, wr_at, rd_m, wr_m, y1]
  have nO : f6_at SZ (mm_rf SZ 4 3) (nI t) Ic Jc = some (Im 168 (4 * t + 3)) := by simp (disch := omega) only [↓M1, ↓ofNat_nI, L0, L1, L2, L3, L4, L5, L6, L7, L8, L9, L10, L12, L31, L32, L40, L48, L50, L99, L100, L120, L180, L256, L500, n_lt0, n_ge0, n_let, n_lef, n_ltt, n_ltf, n_eqt, n_eqf, m_lt, m_le, m_eq, m_eq2, m_le2, m_lt2, m_nle, m_nlt, if_true, if_false, eq_self, Option.bind_some, mb0, mb1, mbb, mbn0, mbn1, not_true, not_false_eq_true, reduceIte, Bool.false_eq_true, nI_add, nI_clamp, pk_mul, in_t, in_f, in_m, zr, za, at_SZ, put_SZ, rd_at, wr_at, rd_m, wr_m, d1]
  have z0 : mm_rf SZ 149 0 = 4 := by simp (disch := omega) only [↓M1, ↓ofNat_nI, L0, L1, L2, L3, L4, L5, L6, L7, L8, L9, L10, L12, L31, L32, L40, L48, L50, L99, L100, L120, L180, L256, L500, n_lt0, n_ge0, n_let, n_lef, n_ltt, n_ltf, n_eqt, n_eqf, m_lt, m_le, m_eq, m_eq2, m_le2, m_lt2, m_nle, m_nlt, if_true, if_false, eq_self, Option.bind_some, mb0, mb1, mbb, mbn0, mbn1, not_true, not_false_eq_true, reduceIte, Bool.false_eq_true, nI_add, nI_clamp, pk_mul, in_t, in_f, in_m, zr, za, at_SZ, put_SZ, rd_at, wr_at, rd_m, wr_m]
  have z1 : mm_rf SZ 149 1 = 29 := by simp (disch := omega) only [↓M1, ↓ofNat_nI, L0, L1, L2, L3, L4, L5, L6, L7, L8, L9, L10, L12, L31, L32, L40, L48, L50, L99, L100, L120, L180, L256, L500, n_lt0, n_ge0, n_let, n_lef, n_ltt, n_ltf, n_eqt, n_eqf, m_lt, m_le, m_eq, m_eq2, m_le2, m_lt2, m_nle, m_nlt, if_true, if_false, eq_self, Option.bind_some, mb0, mb1, mbb, mbn0, mbn1, not_true, not_false_eq_true, reduceIte, Bool.false_eq_true, nI_add, nI_clamp, pk_mul, in_t, in_f, in_m, zr, za, at_SZ, put_SZ, rd_at, wr_at, rd_m, wr_m]
  unfold f3_costOf f3_costOf_103 f3_costOf_107 f3_costOf_108 f3_costOf_122
  rw [z0, z1, sO, Option.bind_some, yO, Option.bind_some]
  by_cases c1 : 50 ≤ x
  · rw [if_pos c1, if_neg (show ¬ nI x < 50 from nI_nlt (a := x) (b := 50) c1 (by omega))]
    rfl
  · rw [if_neg c1, if_pos (show nI x < 50 from nI_lt (b := 50) (by omega) (by omega))]
    by_cases c2 : 0 < x
    · rw [if_pos c2, if_neg (show ¬ nI x ≤ 0 from nI_nle c2 (by omega)), show (100 : Int32) - nI x = nI (100 - x) from pk_sub (a := 100) (by omega), pk_mul, show nI (y * (100 - x)) + 99 = nI (y * (100 - x) + 99) from nI_add _ _]
      have : y * (100 - x) ≤ 9 * 100 := Nat.mul_le_mul hy (by omega)
      rw [show (nI (y * (100 - x) + 99) / 100 : Int32) = nI ((y * (100 - x) + 99) / 100) from pk_div (d := 100) (by omega) (by omega) (by omega)]
    · have : x = 0 := by omega
      subst this
      rw [if_neg c2, if_pos (show nI 0 ≤ 0 by decide), nO, Option.bind_some, l1 p (by omega), Option.bind_some]
      have lp := l2 p (by omega)
      cases hl : Lv p
      · rw [hl] at lp
        rw [if_pos (show Im 173 p = nI 0 from lp), if_pos (show b01 false = 0 by decide), if_pos rfl]
        rfl
      · rw [hl] at lp
        rw [if_neg (show ¬ Im 173 p = nI 0 by rw [lp]; decide), if_neg (show ¬ b01 true = 0 by decide), forb_eq (by omega) hk k1, Option.bind_some]
        by_cases c3 : kd = 3
        · rw [if_pos c3, if_pos c3, if_neg n10, if_pos rfl]
          rfl
        · rw [if_neg c3, if_neg c3, if_pos rfl]
          rcases d2 with d2 | ⟨d, hd, d2⟩
          · rw [d2, if_pos (show m1 = -1 from rfl), if_neg n10, if_pos (show m1 = m1 from rfl)]
          · rw [d2, if_neg (n_m1 (by omega)), if_neg (show ¬ nI d = m1 from n_m1 (by omega)), ckn a5 isL1.f (by omega) (by omega), Option.bind_some, nI_clamp (by omega)]
            cases kn Im p d
            · rw [if_pos (show b01 false = 0 by decide), if_pos rfl, if_neg (show ¬ false = true by decide)]
              rfl
            · rw [if_neg (show ¬ b01 true = 0 by decide), if_neg n10, if_pos rfl]
theorem cost_m (h : rLf T P N 26 29 Ic Im) {p t : Nat} (hp : p < P) (ht : t < T) (hl : Im 173 p = b01 true) : f11_costOf SZ 167 (nI p) (nI t) Im Jm = some (nI (cst Im p t)) := by
  obtain ⟨x, y, kd, hx, hy, hk, x1, x2, y1, y2, k1, k2, d1, d2, e⟩ := cost_v h hp ht
  have hT := h.1.1
  have hP := h.1.2.1
  rw [e]
  have hq : (nI y * (nI 100 - nI x) + nI 99) / nI 100 = nI ((y * (100 - x) + 99) / 100) := by
    have : y * (100 - x) ≤ 9 * 100 := Nat.mul_le_mul hy (by omega)
    rw [pk_sub hx, pk_mul, nI_add, pk_div (by omega) (by omega) (by omega)]
  unfold f11_costOf f11_costOf_91 f11_costOf_97 f11_costOf_99 f11_costOf_51
  by_cases c1 : 50 ≤ x
  · rw [if_pos c1]
    simp (disch := omega) only [↓M1, ↓ofNat_nI, L0, L1, L2, L3, L4, L5, L6, L7, L8, L9, L10, L12, L31, L32, L40, L48, L50, L99, L100, L120, L180, L256, L500, n_lt0, n_ge0, n_let, n_lef, n_ltt, n_ltf, n_eqt, n_eqf, m_lt, m_le, m_eq, m_eq2, m_le2, m_lt2, m_nle, m_nlt, if_true, if_false, eq_self, Option.bind_some, mb0, mb1, mbb, mbn0, mbn1, not_true, not_false_eq_true, reduceIte, Bool.false_eq_true, nI_add, nI_clamp, pk_mul, in_t, in_f, in_m, zr, za, at_SZ, put_SZ, rd_at, wr_at, rd_m, wr_m, x2, y2]
  · rw [if_neg c1]
    by_cases c2 : 0 < x
    · rw [if_pos c2]
      simp (disch := omega) only [↓M1, ↓ofNat_nI, L0, L1, L2, L3, L4, L5, L6, L7, L8, L9, L10, L12, L31, L32, L40, L48, L50, L99, L100, L120, L180, L256, L500, n_lt0, n_ge0, n_let, n_lef, n_ltt, n_ltf, n_eqt, n_eqf, m_lt, m_le, m_eq, m_eq2, m_le2, m_lt2, m_nle, m_nlt, if_true, if_false, eq_self, Option.bind_some, mb0, mb1, mbb, mbn0, mbn1, not_true, not_false_eq_true, reduceIte, Bool.false_eq_true, nI_add, nI_clamp, pk_mul, in_t, in_f, in_m, zr, za, at_SZ, put_SZ, rd_at, wr_at, rd_m, wr_m, x2, y2, hq]
    · have : x = 0 := by omega
      subst this
      rw [if_neg c2, if_neg (show ¬ Im 173 p = nI 0 by rw [hl]; decide)]
      by_cases c3 : kd = 3
      · subst c3
        rw [if_pos rfl]
        simp (disch := omega) only [↓M1, ↓ofNat_nI, L0, L1, L2, L3, L4, L5, L6, L7, L8, L9, L10, L12, L31, L32, L40, L48, L50, L99, L100, L120, L180, L256, L500, n_lt0, n_ge0, n_let, n_lef, n_ltt, n_ltf, n_eqt, n_eqf, m_lt, m_le, m_eq, m_eq2, m_le2, m_lt2, m_nle, m_nlt, if_true, if_false, eq_self, Option.bind_some, mb0, mb1, mbb, mbn0, mbn1, not_true, not_false_eq_true, reduceIte, Bool.false_eq_true, nI_add, nI_clamp, pk_mul, in_t, in_f, in_m, zr, za, at_SZ, put_SZ, rd_at, wr_at, rd_m, wr_m, x2, y2, k2]
        rfl
      · rw [if_neg c3]
        rcases d2 with d2 | ⟨d, hd, d2⟩
        · rw [d2, if_pos rfl]
          simp (disch := omega) only [↓M1, ↓ofNat_nI, L0, L1, L2, L3, L4, L5, L6, L7, L8, L9, L10, L12, L31, L32, L40, L48, L50, L99, L100, L120, L180, L256, L500, n_lt0, n_ge0, n_let, n_lef, n_ltt, n_ltf, n_eqt, n_eqf, m_lt, m_le, m_eq, m_eq2, m_le2, m_lt2, m_nle, m_nlt, if_true, if_false, eq_self, Option.bind_some, mb0, mb1, mbb, mbn0, mbn1, not_true, not_false_eq_true, reduceIte, Bool.false_eq_true, nI_add, nI_clamp, pk_mul, in_t, in_f, in_m, zr, za, at_SZ, put_SZ, rd_at, wr_at, rd_m, wr_m, x2, y2, k2, d2]
        · rw [d2, if_neg (show ¬ nI d = m1 from n_m1 (by omega)), nI_clamp (by omega)]
          have mk := mkn (Im := Im) (p := p) (t := d) (J := Jm) (by omega) (by omega)
          cases hk : kn Im p d
          · rw [hk] at mk
            simp (disch := omega) only [↓M1, ↓ofNat_nI, L0, L1, L2, L3, L4, L5, L6, L7, L8, L9, L10, L12, L31, L32, L40, L48, L50, L99, L100, L120, L180, L256, L500, n_lt0, n_ge0, n_let, n_lef, n_ltt, n_ltf, n_eqt, n_eqf, m_lt, m_le, m_eq, m_eq2, m_le2, m_lt2, m_nle, m_nlt, if_true, if_false, eq_self, Option.bind_some, mb0, mb1, mbb, mbn0, mbn1, not_true, not_false_eq_true, reduceIte, Bool.false_eq_true, nI_add, nI_clamp, pk_mul, in_t, in_f, in_m, zr, za, at_SZ, put_SZ, rd_at, wr_at, rd_m, wr_m, x2, y2, k2, d2, mk, bF0]
            rfl
          · rw [hk] at mk
            simp (disch := omega) only [↓M1, ↓ofNat_nI, L0, L1, L2, L3, L4, L5, L6, L7, L8, L9, L10, L12, L31, L32, L40, L48, L50, L99, L100, L120, L180, L256, L500, n_lt0, n_ge0, n_let, n_lef, n_ltt, n_ltf, n_eqt, n_eqf, m_lt, m_le, m_eq, m_eq2, m_le2, m_lt2, m_nle, m_nlt, if_true, if_false, eq_self, Option.bind_some, mb0, mb1, mbb, mbn0, mbn1, not_true, not_false_eq_true, reduceIte, Bool.false_eq_true, nI_add, nI_clamp, pk_mul, in_t, in_f, in_m, zr, za, at_SZ, put_SZ, rd_at, wr_at, rd_m, wr_m, x2, y2, k2, d2, mk, bT0]
/-! the class's plan -/
/-- what the plan reads, at any of its states -/
def pc (T P N : Nat) (w : Nat → Nat) (Im I : mm_I) : Prop := rLf T P N 26 29 I Im ∧ ∀ t, t < 6 → w t ≤ 8 ∧ I 132 t = nI (w t)
theorem rLf.fp {I : mm_I} (h : rLf T P N 26 29 Ic Im) (e : ∀ r, r < 149 → I r = Ic r) : rLf T P N 26 29 I Im := by
  obtain ⟨a1, a2, a3, a4, a5⟩ := h
  refine ⟨a1.c (by rw [e 4 (by omega)]) (by rw [e 4 (by omega)]) rfl rfl, a2.c (e 6 (by omega)) (e 8 (by omega)) (e 10 (by omega)) (e 12 (by omega)) rfl, a3.c (e 14 (by omega)) rfl, ?_, a5.c (fun k hk => e _ (by omega)) rfl⟩
  unfold rG
  rw [e 26 (by omega)]
  exact a4
theorem pc.fp {w : Nat → Nat} {I : mm_I} (h : pc T P N w Im Ic) (e : ∀ r, r < 149 → I r = Ic r) : pc T P N w Im I :=
  ⟨h.1.fp e, fun t ht => by rw [e 132 (by omega)]; exact h.2 t ht⟩
theorem pc.up {w : Nat → Nat} {r k : Nat} {x : Int32} (h : pc T P N w Im Ic) (hr : 149 ≤ r) : pc T P N w Im (mm_up Ic r k x) := h.fp fun q hq => mm_up_o (by omega)
variable {w : Nat → Nat}
theorem fill_loop {n : Nat} : ∀ (d k : Nat) (I : mm_I), k ≤ 8 → 8 < k + d → (∀ r, r ≠ 157 → I r = Ic r) → (∀ q, q < k → I 157 q = m1) → ∃ I', f6_fill_2 SZ n d 156 m1 (nI k) I Jc = some (I', Jc) ∧ (∀ r, r ≠ 157 → I' r = Ic r) ∧ ∀ q, q < 8 → I' 157 q = m1 := by
  intro d
  induction d with
  | zero => intro k I h1 h2; omega
  | succ d ih =>
    intro k I h1 h2 i1 i2
    have cS : f6_fill_2 SZ n (d + 1) 156 m1 (nI k) I Jc = f6_fill_2_b SZ n (f6_fill_2 SZ n d) 156 m1 (nI k) I Jc := rfl
    rw [cS]
    unfold f6_fill_2_b
    by_cases c : k = 8
    · subst c
      refine ⟨I, ?_, i1, i2⟩
      simp (disch := omega) only [↓M1, ↓ofNat_nI, L0, L1, L2, L3, L4, L5, L6, L7, L8, L9, L10, L12, L31, L32, L40, L48, L50, L99, L100, L120, L180, L256, L500, n_lt0, n_ge0, n_let, n_lef, n_ltt, n_ltf, n_eqt, n_eqf, m_lt, m_le, m_eq, m_eq2, m_le2, m_lt2, m_nle, m_nlt, if_true, if_false, eq_self, Option.bind_some, mb0, mb1, mbb, mbn0, mbn1, not_true, not_false_eq_true, reduceIte, Bool.false_eq_true, nI_add, nI_clamp, pk_mul, in_t, in_f, in_m, zr, za, at_SZ, put_SZ, rd_at, wr_at, rd_m, wr_m]
    · obtain ⟨I', g1, g2⟩ := ih (k + 1) (mm_up I 157 k m1) (by omega) (by omega) (fun r hr => by rw [mm_up_o hr]; exact i1 r hr) (fun q hq => by
        by_cases e : q = k
        · subst e; exact up_s2
        · rw [up_o2 (by omega)]; exact i2 q (by omega))
      refine ⟨I', ?_, g2⟩
      simp (disch := omega) only [↓M1, ↓ofNat_nI, L0, L1, L2, L3, L4, L5, L6, L7, L8, L9, L10, L12, L31, L32, L40, L48, L50, L99, L100, L120, L180, L256, L500, n_lt0, n_ge0, n_let, n_lef, n_ltt, n_ltf, n_eqt, n_eqf, m_lt, m_le, m_eq, m_eq2, m_le2, m_lt2, m_nle, m_nlt, if_true, if_false, eq_self, Option.bind_some, mb0, mb1, mbb, mbn0, mbn1, not_true, not_false_eq_true, reduceIte, Bool.false_eq_true, nI_add, nI_clamp, pk_mul, in_t, in_f, in_m, zr, za, at_SZ, put_SZ, rd_at, wr_at, rd_m, wr_m]
      exact g1
theorem want_loop {n : Nat} (h : pc T P N w Im Ic) : ∀ (d k : Nat), k ≤ T → T < k + d → f3_wantedInAll_4 SZ n d 149 (nI (sw w k)) (nI k) Ic Jc = some (nI (sw w T)) := by
  intro d
  induction d with
  | zero => intro k h1 h2; omega
  | succ d ih =>
    intro k h1 h2
    have hT := h.1.1.1
    have e5 := h.1.1.2.2.1
    have cS : f3_wantedInAll_4 SZ n (d + 1) 149 (nI (sw w k)) (nI k) Ic Jc = f3_wantedInAll_4_b SZ n (f3_wantedInAll_4 SZ n d) 149 (nI (sw w k)) (nI k) Ic Jc := rfl
    rw [cS]
    unfold f3_wantedInAll_4_b
    rw [show mm_rf SZ 149 0 = 4 by simp (disch := omega) only [↓M1, ↓ofNat_nI, L0, L1, L2, L3, L4, L5, L6, L7, L8, L9, L10, L12, L31, L32, L40, L48, L50, L99, L100, L120, L180, L256, L500, n_lt0, n_ge0, n_let, n_lef, n_ltt, n_ltf, n_eqt, n_eqf, m_lt, m_le, m_eq, m_eq2, m_le2, m_lt2, m_nle, m_nlt, if_true, if_false, eq_self, Option.bind_some, mb0, mb1, mbb, mbn0, mbn1, not_true, not_false_eq_true, reduceIte, Bool.false_eq_true, nI_add, nI_clamp, pk_mul, in_t, in_f, in_m, zr, za, at_SZ, put_SZ, rd_at, wr_at, rd_m, wr_m], e5]
    by_cases c : k = T
    · subst c
      rw [if_pos (nI_le (Nat.le_refl k) (by omega))]
    · rw [if_neg (nI_ge (show k < T by omega) (by omega)), show f6_at SZ (mm_rf SZ 149 2) (nI k) Ic Jc = some (nI (w k)) from by simp (disch := omega) only [↓M1, ↓ofNat_nI, L0, L1, L2, L3, L4, L5, L6, L7, L8, L9, L10, L12, L31, L32, L40, L48, L50, L99, L100, L120, L180, L256, L500, n_lt0, n_ge0, n_let, n_lef, n_ltt, n_ltf, n_eqt, n_eqf, m_lt, m_le, m_eq, m_eq2, m_le2, m_lt2, m_nle, m_nlt, if_true, if_false, eq_self, Option.bind_some, mb0, mb1, mbb, mbn0, mbn1, not_true, not_false_eq_true, reduceIte, Bool.false_eq_true, nI_add, nI_clamp, pk_mul, in_t, in_f, in_m, zr, za, at_SZ, put_SZ, rd_at, wr_at, rd_m, wr_m, (h.2 k (by omega)).2], Option.bind_some, nI_1, nI_add]
      exact ih (k + 1) (by omega) (by omega)
/-- the states are counted -/
theorem states_loop {n : Nat} (hw : sw w T ≤ 8) : ∀ (d k : Nat) (I : mm_I), k ≤ T → T < k + d → pc T P N w Im I → (∀ r, r < 149 ∨ 157 < r → I r = Ic r) → I 149 7 = nI (stp w k) → (∀ t, t < k → I 151 t = nI (stp w t)) → ∃ I', f3_countStates_7 SZ n d 149 (nI k) I Jc = some (I', Jc) ∧ pc T P N w Im I' ∧ (∀ r, r < 149 ∨ 157 < r → I' r = Ic r) ∧ I' 149 7 = nI (stp w T) ∧ (∀ t, t < T → I' 151 t = nI (stp w t)) ∧ I' 157 = I 157 := by
  intro d
  induction d with
  | zero => intro k I h1 h2; omega
  | succ d ih =>
    intro k I h1 h2 h i0 i1 i2
    have hT := h.1.1.1
    have e5 := h.1.1.2.2.1
    have cS : f3_countStates_7 SZ n (d + 1) 149 (nI k) I Jc = f3_countStates_7_b SZ n (f3_countStates_7 SZ n d) 149 (nI k) I Jc := rfl
    rw [cS]
    unfold f3_countStates_7_b
    rw [show mm_rf SZ 149 0 = 4 by simp (disch := omega) only [↓M1, ↓ofNat_nI, L0, L1, L2, L3, L4, L5, L6, L7, L8, L9, L10, L12, L31, L32, L40, L48, L50, L99, L100, L120, L180, L256, L500, n_lt0, n_ge0, n_let, n_lef, n_ltt, n_ltf, n_eqt, n_eqf, m_lt, m_le, m_eq, m_eq2, m_le2, m_lt2, m_nle, m_nlt, if_true, if_false, eq_self, Option.bind_some, mb0, mb1, mbb, mbn0, mbn1, not_true, not_false_eq_true, reduceIte, Bool.false_eq_true, nI_add, nI_clamp, pk_mul, in_t, in_f, in_m, zr, za, at_SZ, put_SZ, rd_at, wr_at, rd_m, wr_m], e5]
    by_cases c : k = T
    · subst c
      rw [if_pos (nI_le (Nat.le_refl k) (by omega))]
      exact ⟨I, rfl, h, i0, i1, i2, rfl⟩
    · have hs := stp_144 w (T := k) (by omega) (Nat.le_trans (sw_mono w (by omega)) hw)
      have hwk := h.2 k (by omega)
      obtain ⟨I', g1, g2, g3, g4, g5, g6⟩ := ih (k + 1) (mm_up (mm_up I 151 k (nI (stp w k))) 149 7 (nI (stp w k * (w k + 1)))) (by omega) (by omega) ((h.up (by omega)).up (by omega)) (fun r hr => by rw [mm_up_o (by omega), mm_up_o (by omega)]; exact i0 r hr) up_s2 (fun t ht => by
        rw [up_o2 (by omega)]
        by_cases e : t = k
        · subst e; exact up_s2
        · rw [up_o2 (by omega)]; exact i2 t (by omega))
      refine ⟨I', ?_, g2, g3, g4, g5, by rw [g6, mm_up_o (by omega), mm_up_o (by omega)]⟩
      rw [if_neg (nI_ge (show k < T by omega) (by omega)), show f6_put SZ (mm_rf SZ 149 3) (nI k) (I 149 7) I Jc = some (mm_up I 151 k (nI (stp w k)), Jc) from by simp (disch := omega) only [↓M1, ↓ofNat_nI, L0, L1, L2, L3, L4, L5, L6, L7, L8, L9, L10, L12, L31, L32, L40, L48, L50, L99, L100, L120, L180, L256, L500, n_lt0, n_ge0, n_let, n_lef, n_ltt, n_ltf, n_eqt, n_eqf, m_lt, m_le, m_eq, m_eq2, m_le2, m_lt2, m_nle, m_nlt, if_true, if_false, eq_self, Option.bind_some, mb0, mb1, mbb, mbn0, mbn1, not_true, not_false_eq_true, reduceIte, Bool.false_eq_true, nI_add, nI_clamp, pk_mul, in_t, in_f, in_m, zr, za, at_SZ, put_SZ, rd_at, wr_at, rd_m, wr_m, i1], Option.bind_some]
      dsimp only
      rw [show f6_at SZ (mm_rf SZ 149 2) (nI k) (mm_up I 151 k (nI (stp w k))) Jc = some (nI (w k)) from by simp (disch := omega) only [↓M1, ↓ofNat_nI, L0, L1, L2, L3, L4, L5, L6, L7, L8, L9, L10, L12, L31, L32, L40, L48, L50, L99, L100, L120, L180, L256, L500, n_lt0, n_ge0, n_let, n_lef, n_ltt, n_ltf, n_eqt, n_eqf, m_lt, m_le, m_eq, m_eq2, m_le2, m_lt2, m_nle, m_nlt, if_true, if_false, eq_self, Option.bind_some, mb0, mb1, mbb, mbn0, mbn1, not_true, not_false_eq_true, reduceIte, Bool.false_eq_true, nI_add, nI_clamp, pk_mul, in_t, in_f, in_m, zr, za, at_SZ, put_SZ, rd_at, wr_at, rd_m, wr_m, up_s2, up_o2, hwk.2], Option.bind_some, up_o2 (a := 149) (by omega), i1, nI_1, nI_1, pk_mul]
      exact g1
theorem costs_in {n p : Nat} (hp : p < P) {rec2 : Nat → Int32 → mm_I → mm_J → Option (mm_I × mm_J)} : ∀ (d k : Nat) (I : mm_I), k ≤ T → T < k + d → pc T P N w Im I → (∀ q t, q < p → t < T → I 153 (6 * q + t) = nI (cst Im q t)) → (∀ t, t < k → I 153 (6 * p + t) = nI (cst Im p t)) → ∃ I', f3_fillCosts_15 SZ n rec2 d 149 (nI p) (nI k) I Jc = rec2 149 (nI (p + 1)) I' Jc ∧ pc T P N w Im I' ∧ (∀ r, r ≠ 153 → I' r = I r) ∧ ∀ q t, q < p + 1 → t < T → I' 153 (6 * q + t) = nI (cst Im q t) := by
  intro d
  induction d with
  | zero => intro k I h1 h2; omega
  | succ d ih =>
    intro k I h1 h2 h i1 i2
    have hT := h.1.1.1
    have hP := h.1.1.2.1
    have e5 := h.1.1.2.2.1
    have cS : f3_fillCosts_15 SZ n rec2 (d + 1) 149 (nI p) (nI k) I Jc = f3_fillCosts_15_b SZ n rec2 (f3_fillCosts_15 SZ n rec2 d) 149 (nI p) (nI k) I Jc := rfl
    rw [cS]
    unfold f3_fillCosts_15_b
    rw [show mm_rf SZ 149 0 = 4 by simp (disch := omega) only [↓M1, ↓ofNat_nI, L0, L1, L2, L3, L4, L5, L6, L7, L8, L9, L10, L12, L31, L32, L40, L48, L50, L99, L100, L120, L180, L256, L500, n_lt0, n_ge0, n_let, n_lef, n_ltt, n_ltf, n_eqt, n_eqf, m_lt, m_le, m_eq, m_eq2, m_le2, m_lt2, m_nle, m_nlt, if_true, if_false, eq_self, Option.bind_some, mb0, mb1, mbb, mbn0, mbn1, not_true, not_false_eq_true, reduceIte, Bool.false_eq_true, nI_add, nI_clamp, pk_mul, in_t, in_f, in_m, zr, za, at_SZ, put_SZ, rd_at, wr_at, rd_m, wr_m], e5]
    by_cases c : k = T
    · subst c
      rw [if_pos (nI_le (Nat.le_refl k) (by omega)), nI_1]
      refine ⟨I, rfl, h, fun _ _ => rfl, fun q t hq ht => ?_⟩
      by_cases e : q = p
      · subst e; exact i2 t ht
      · exact i1 q t (by omega) ht
    · have hk : k < T := by omega
      obtain ⟨I', g1, g2, g3, g4⟩ := ih (k + 1) (mm_up I 153 (6 * p + k) (nI (cst Im p k))) (by omega) (by omega) (h.up (by omega)) (fun q t hq ht => by rw [up_o2 (by omega)]; exact i1 q t hq ht) (fun t ht => by
        by_cases e : t = k
        · subst e; exact up_s2
        · rw [up_o2 (by omega)]; exact i2 t (by omega))
      refine ⟨I', ?_, g2, fun r hr => by rw [g3 r hr, mm_up_o hr], g4⟩
      rw [if_neg (nI_ge hk (by omega)), f10_cell_eq (by omega) (by omega), Option.bind_some, cost_c h.1 hp hk, Option.bind_some, show f6_put SZ (mm_rf SZ 149 4) (nI (6 * p + k)) (nI (cst Im p k)) I Jc = some (mm_up I 153 (6 * p + k) (nI (cst Im p k)), Jc) from by simp (disch := omega) only [↓M1, ↓ofNat_nI, L0, L1, L2, L3, L4, L5, L6, L7, L8, L9, L10, L12, L31, L32, L40, L48, L50, L99, L100, L120, L180, L256, L500, n_lt0, n_ge0, n_let, n_lef, n_ltt, n_ltf, n_eqt, n_eqf, m_lt, m_le, m_eq, m_eq2, m_le2, m_lt2, m_nle, m_nlt, if_true, if_false, eq_self, Option.bind_some, mb0, mb1, mbb, mbn0, mbn1, not_true, not_false_eq_true, reduceIte, Bool.false_eq_true, nI_add, nI_clamp, pk_mul, in_t, in_f, in_m, zr, za, at_SZ, put_SZ, rd_at, wr_at, rd_m, wr_m], Option.bind_some, nI_1]
      exact g1
theorem costs_out {n : Nat} (hn : 7 ≤ n) : ∀ (d p : Nat) (I : mm_I), p ≤ P → P < p + d → pc T P N w Im I → (∀ q t, q < p → t < T → I 153 (6 * q + t) = nI (cst Im q t)) → ∃ I', f3_fillCosts_2 SZ n d 149 (nI p) I Jc = some (I', Jc) ∧ pc T P N w Im I' ∧ (∀ r, r ≠ 153 → I' r = I r) ∧ ∀ q t, q < P → t < T → I' 153 (6 * q + t) = nI (cst Im q t) := by
  intro d
  induction d with
  | zero => intro k I h1 h2; omega
  | succ d ih =>
    intro p I h1 h2 h i1
    have hT := h.1.1.1
    have hP := h.1.1.2.1
    have e6 := h.1.1.2.2.2.2.1
    have cS : f3_fillCosts_2 SZ n (d + 1) 149 (nI p) I Jc = f3_fillCosts_2_b SZ n (f3_fillCosts_2 SZ n d) 149 (nI p) I Jc := rfl
    rw [cS]
    unfold f3_fillCosts_2_b
    rw [show mm_rf SZ 149 0 = 4 by simp (disch := omega) only [↓M1, ↓ofNat_nI, L0, L1, L2, L3, L4, L5, L6, L7, L8, L9, L10, L12, L31, L32, L40, L48, L50, L99, L100, L120, L180, L256, L500, n_lt0, n_ge0, n_let, n_lef, n_ltt, n_ltf, n_eqt, n_eqf, m_lt, m_le, m_eq, m_eq2, m_le2, m_lt2, m_nle, m_nlt, if_true, if_false, eq_self, Option.bind_some, mb0, mb1, mbb, mbn0, mbn1, not_true, not_false_eq_true, reduceIte, Bool.false_eq_true, nI_add, nI_clamp, pk_mul, in_t, in_f, in_m, zr, za, at_SZ, put_SZ, rd_at, wr_at, rd_m, wr_m], e6]
    by_cases c : p = P
    · subst c
      rw [if_pos (nI_le (Nat.le_refl p) (by omega))]
      exact ⟨I, rfl, h, fun _ _ => rfl, i1⟩
    · obtain ⟨I1, q1, q2, q3, q4⟩ := costs_in (Jc := Jc) (n := n) (show p < P by omega) (rec2 := f3_fillCosts_2 SZ n d) n 0 I (Nat.zero_le T) (by omega) h i1 (fun t ht => absurd ht (Nat.not_lt_zero t))
      obtain ⟨I2, u1, u2, u3, u4⟩ := ih (p + 1) I1 (by omega) (by omega) q2 q4
      refine ⟨I2, ?_, u2, fun r hr => by rw [u3 r hr, q3 r hr], u4⟩
      rw [if_neg (nI_ge (show p < P by omega) (by omega))]
      exact q1.trans u1
end PLN
