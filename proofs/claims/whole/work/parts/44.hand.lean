/-! ===== part 44: lastHand, fits (written by wip/whole/pre.py) ===== -/
theorem cnt_pos {P : Nat → Bool} : ∀ {n : Nat}, cnt P n ≠ 0 → ∃ p, p < n ∧ P p = true ∧ ∀ j, j < p → P j = false
  | 0, h => absurd rfl h
  | n + 1, h => by
    by_cases q : cnt P n = 0
    · have hz : ∀ m, m ≤ n → cnt P m = 0 := by
        intro m hm
        have mono : ∀ (d m : Nat), cnt P m ≤ cnt P (m + d) := by
          intro d
          induction d with
          | zero => intro m; exact Nat.le_refl _
          | succ d ih =>
            intro m
            have := ih m
            show _ ≤ cnt P (m + d) + _
            omega
        have := mono (n - m) m
        rw [show m + (n - m) = n by omega, q] at this
        omega
      have hf : ∀ j, j < n → P j = false := by
        intro j hj
        have e1 := hz (j + 1) (by omega)
        have e1 : cnt P j + (if P j = true then 1 else 0) = 0 := e1
        cases hp : P j
        · rfl
        · rw [hp] at e1
          simp at e1
      refine ⟨n, by omega, ?_, hf⟩
      have h : cnt P n + (if P n = true then 1 else 0) ≠ 0 := h
      cases hp : P n
      · rw [hp, q] at h
        exact absurd rfl h
      · rfl
    · obtain ⟨p, h1, h2, h3⟩ := cnt_pos q
      exact ⟨p, by omega, h2, h3⟩
theorem least_loop {n p : Nat} {Q : Nat → Bool} (hp : p < 8) (h1 : Q p = true) (h2 : ∀ j, j < p → Q j = false) {I : mm_I} {J : mm_J} : ∀ (d k : Nat), k ≤ p → p < k + d → f10_leastOf_2 SZ n d (bsI Q 8) (nI k) I J = some (nI p) := by
  intro d
  induction d with
  | zero => intro k h1 h2; omega
  | succ d ih =>
    intro k h3 h4
    show f10_leastOf_2_b SZ n (f10_leastOf_2 SZ n d) _ _ I J = _
    unfold f10_leastOf_2_b
    rw [has_eq (by omega)]
    by_cases h : k = p
    · subst h
      rw [h1]
      simp (disch := omega) only [↓M1, ↓ofNat_nI, L0, L1, L2, L3, L4, L5, L6, L7, L8, L9, L10, L12, L31, L32, L40, L48, L50, L99, L100, L120, L180, L256, L500, n_lt0, n_ge0, n_let, n_lef, n_ltt, n_ltf, n_eqt, n_eqf, m_lt, m_le, m_eq, m_eq2, m_le2, m_lt2, m_nle, m_nlt, if_true, if_false, eq_self, Option.bind_some, mb0, mb1, mbb, mbn0, mbn1, not_true, not_false_eq_true, reduceIte, Bool.false_eq_true, nI_add, nI_clamp, pk_mul, in_t, in_f, in_m, zr, za, at_SZ, put_SZ, rd_at, wr_at, rd_m, wr_m]
      rw [if_neg (by decide)]
    · rw [h2 k (by omega)]
      simp (disch := omega) only [↓M1, ↓ofNat_nI, L0, L1, L2, L3, L4, L5, L6, L7, L8, L9, L10, L12, L31, L32, L40, L48, L50, L99, L100, L120, L180, L256, L500, n_lt0, n_ge0, n_let, n_lef, n_ltt, n_ltf, n_eqt, n_eqf, m_lt, m_le, m_eq, m_eq2, m_le2, m_lt2, m_nle, m_nlt, if_true, if_false, eq_self, Option.bind_some, mb0, mb1, mbb, mbn0, mbn1, not_true, not_false_eq_true, reduceIte, Bool.false_eq_true, nI_add, nI_clamp, pk_mul, in_t, in_f, in_m, zr, za, at_SZ, put_SZ, rd_at, wr_at, rd_m, wr_m]
      rw [if_pos (by decide)]
      exact ih (k + 1) (by omega) (by omega)
theorem hand_loop {n p : Nat} {Q : Nat → Bool} (hp : p < 8) (h1 : Q p = true) (h2 : ∀ j, j < p → Q j = false) {t b r : Int32} {I : mm_I} {J : mm_J} (hr : f11_lastHand_45_b SZ n (fun _ _ _ _ _ _ _ => none) 167 t b (bsI Q 8) (nI p) I J = some r) : ∀ (d k : Nat), k ≤ p → p < k + d → f11_lastHand_45 SZ n d 167 t b (bsI Q 8) (nI k) I J = some r := by
  intro d
  induction d with
  | zero => intro k h1 h2; omega
  | succ d ih =>
    intro k h3 h4
    show f11_lastHand_45_b SZ n (f11_lastHand_45 SZ n d) _ _ _ _ _ I J = _
    by_cases h : k = p
    · subst h
      unfold f11_lastHand_45_b at *
      rw [mhas_eq (by omega), h1] at *
      simp only [Option.bind_some] at *
      rw [if_neg (by decide)] at *
      exact hr
    · unfold f11_lastHand_45_b
      rw [mhas_eq (by omega), h2 k (by omega), Option.bind_some, if_pos (by decide), nI_one]
      exact ih (k + 1) (by omega) (by omega)
theorem st_lastHand : St_lastHand Inv := by
  intro k hk a b I J h
  have h0 := h
  obtain ⟨T, P, a1, a2, a3, a4, a5, a6, a7, a8, a9, a10, a11, a12, a13, a14, a15⟩ := h
  suffices hh : ∃ o, f10_lastHand SZ 100 0 a b I J = some o ∧ f11_lastHand SZ 100 167 a b I J = some o by
    obtain ⟨o, o1, o2⟩ := hh
    exact ⟨100, o, o, o1, o2, rfl, Inv_mono k I J h0⟩
  have hT := a1.1
  have hP := a1.2.1
  unfold f10_lastHand f11_lastHand f10_lastHand_101
  simp only [zr]
  rcases in_cases T (by omega) a with ha | ⟨t, ht, rfl⟩
  · rw [cTr_out a1 ha, mTr_out a1 ha]
    exact ⟨_, rfl, rfl⟩
  · rw [cTr_in a1 ht, mTr_in a1 ht, Option.bind_some, Option.bind_some, if_neg (show ¬ (1 : Int32) = 0 by decide), if_neg (show ¬ (1 : Int32) = 0 by decide)]
    rcases bnd_cases 0 1 (by decide) (by decide) b with hb | ⟨w, -, hw, rfl, hb⟩
    · rw [show f10_within SZ b 0 1 I J = _ from cWi (lo := 0) (hi := 1), show f11_in SZ b.toInt64 0 1 I J = _ from mWi (lo := 0) (hi := 1) (by decide) (by decide), hb]
      exact ⟨_, rfl, rfl⟩
    · rw [show f10_within SZ (nI w) 0 1 I J = _ from cWi (lo := 0) (hi := 1), show f11_in SZ (nI w).toInt64 0 1 I J = _ from mWi (lo := 0) (hi := 1) (by decide) (by decide), hb, Option.bind_some, Option.bind_some, if_neg (show ¬ b01 true = 0 by decide), if_neg (show ¬ b01 true = 0 by decide)]
      rw [with_eq (by omega) (Or.inl rfl) (by omega), knw_eq (by omega) (by omega) hP a1.2.2.2.2.2, Option.bind_some, Option.bind_some]
      have e := a5.wit hP (t := t) (by omega) (x := 1) (by decide)
      have e : bsI (fun p => decide (1 ≤ I (29 + 4) (6 * p + t))) 8 = bsI (fun p => !decide (I 173 p = nI 0) && decide (1 ≤ I 174 (6 * p + t))) P := e
      rw [← e]
      have hq : ∀ p, p < 8 → (fun p => decide (1 ≤ I (29 + 4) (6 * p + t))) p = true → p < P := by
        intro p hp hq
        have hq : decide (1 ≤ I (29 + 4) (6 * p + t)) = true := hq
        rcases Nat.lt_or_ge p P with q | q
        · exact q
        · have e1 := (a5.1 (6 * p + t) (by omega)).1
          have e2 := a5.2.1 p t hp (by omega) (Or.inl q)
          rw [e1, e2] at hq
          exact absurd hq (by decide)
      generalize (fun p => decide (1 ≤ I (29 + 4) (6 * p + t))) = Q at *
      rw [cnt_eq, mbits_eq (by omega), Option.bind_some, Option.bind_some]
      by_cases hc : nI (cnt Q 8) = 1
      · rw [if_pos hc, if_pos hc]
        obtain ⟨p, p1, p2, p3⟩ := cnt_pos (P := Q) (n := 8) (fun q => by rw [q] at hc; exact absurd hc (by decide))
        have hpP : p < P := hq p p1 p2
        obtain ⟨-, -, ⟨k2, -, c2, d2⟩, -⟩ := a2 t ht
        obtain ⟨x4, -, -, c4, d4⟩ := a4.2.2.2.2.1
        have ea : I 31 p = I 172 p := a5.2.2.2.2.2.1 p hpP
        rw [show f10_leastOf SZ 100 (bsI Q 8) I J = some (nI p) from least_loop p1 p2 p3 100 0 (by omega) (by omega), Option.bind_some]
        have key : ∀ (z x : Int32), nI k2 * (if 0 < z then z else 0) = (if 0 ≤ z then nI k2 * z else 0) := by
          intro z x
          by_cases q : 0 < z
          · rw [if_pos q, if_pos (Int32.le_of_lt q)]
          · by_cases q2 : 0 ≤ z
            · have : z = 0 := Int32.le_antisymm (Int32.not_lt.mp q) q2
              rw [if_neg q, if_pos q2, this]
            · rw [if_neg q, if_neg q2, Int32.mul_zero]
        refine ⟨if w = 0 then nI p else (if nI 0 ≤ nI x4 - I 172 p then nI k2 * (nI x4 - I 172 p) else nI 0), ?_, ?_⟩
        · simp (disch := omega) only [↓M1, ↓ofNat_nI, L0, L1, L2, L3, L4, L5, L6, L7, L8, L9, L10, L12, L31, L32, L40, L48, L50, L99, L100, L120, L180, L256, L500, n_lt0, n_ge0, n_let, n_lef, n_ltt, n_ltf, n_eqt, n_eqf, m_lt, m_le, m_eq, m_eq2, m_le2, m_lt2, m_nle, m_nlt, if_true, if_false, eq_self, Option.bind_some, mb0, mb1, mbb, mbn0, mbn1, not_true, not_false_eq_true, reduceIte, Bool.false_eq_true, nI_add, nI_clamp, pk_mul, in_t, in_f, in_m, zr, za, at_SZ, put_SZ, rd_at, wr_at, rd_m, wr_m, ea, c2, c4]
          by_cases q : w = 0
          · subst q
            rfl
          · have q' : ¬ nI w = nI 0 := ne_nI q (by omega) (by omega)
            rw [if_neg q', if_neg q]
            exact congrArg some (key _ 0)
        · refine hand_loop p1 p2 p3 ?_ 100 0 (by omega) (by omega)
          unfold f11_lastHand_45_b f11_lastHand_105
          rw [mhas_eq (by omega), p2, Option.bind_some, if_neg (by decide)]
          simp (disch := omega) only [↓M1, ↓ofNat_nI, L0, L1, L2, L3, L4, L5, L6, L7, L8, L9, L10, L12, L31, L32, L40, L48, L50, L99, L100, L120, L180, L256, L500, n_lt0, n_ge0, n_let, n_lef, n_ltt, n_ltf, n_eqt, n_eqf, m_lt, m_le, m_eq, m_eq2, m_le2, m_lt2, m_nle, m_nlt, if_true, if_false, eq_self, Option.bind_some, mb0, mb1, mbb, mbn0, mbn1, not_true, not_false_eq_true, reduceIte, Bool.false_eq_true, nI_add, nI_clamp, pk_mul, in_t, in_f, in_m, zr, za, at_SZ, put_SZ, rd_at, wr_at, rd_m, wr_m, d2, d4]
          by_cases q : w = 0
          · subst q
            rfl
          · have q' : ¬ nI w = nI 0 := ne_nI q (by omega) (by omega)
            rw [if_neg q', if_neg q]
            by_cases q2 : nI 0 ≤ nI x4 - I 172 p
            · rw [if_pos q2, if_pos q2]
            · rw [if_neg q2, if_neg q2]
      · rw [if_neg hc, if_neg hc]
        exact ⟨_, rfl, rfl⟩
