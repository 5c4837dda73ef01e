/-! ===== part 53: the call year (written by wip/whole/pre.py) ===== -/
theorem liv3 {T P N F n : Nat} {Ic Im : mm_I} {J : mm_J} (hn : 9 ≤ n) (hP : P ≤ 8) (h : rF T P N F Ic (vCur Im)) (h2 : Im 167 2 = nI P) : f11_livesSet SZ n 167 Im J = some (Ic F 8) := by
  obtain ⟨Lv, l1, l2, l3, l4, l5⟩ := h.l
  rw [l5]
  exact liv2 hn hP h2 l2 l3
theorem yrs_loop {T P n m : Nat} {Jc Jm : mm_J} (hn : 9 ≤ n) (hm : m < 2 ^ 20) : ∀ (d k N : Nat) (Ic Im : mm_I), k ≤ m → m < k + d → N + (m - k) < 2 ^ 29 → rLf T P N 26 29 Ic Im → ∃ Ic' Im', f10_year_15 SZ n d 0 (nI m) (nI k) Ic Jc = some (Ic' 29 8, Ic', Jc) ∧ f11_year_17 SZ n d 167 (nI m) (nI k) Im Jm = some (Ic' 29 8, Im', Jm) ∧ fF 29 Ic Ic' ∧ fV Im Im' ∧ Ic' 29 12 = Ic 29 12 ∧ Im' 167 24 = Im 167 24 ∧ rF T P (N + (m - k)) 29 Ic' (vCur Im') := by
  intro d
  induction d with
  | zero => intro k N Ic Im h1 h2; omega
  | succ d ih =>
    intro k N Ic Im h1 h2 h3 h
    have cS : f10_year_15 SZ n (d + 1) 0 (nI m) (nI k) Ic Jc = f10_year_15_b SZ n (f10_year_15 SZ n d) 0 (nI m) (nI k) Ic Jc := rfl
    have mS : f11_year_17 SZ n (d + 1) 167 (nI m) (nI k) Im Jm = f11_year_17_b SZ n (f11_year_17 SZ n d) 167 (nI m) (nI k) Im Jm := rfl
    rw [cS, mS]
    unfold f10_year_15_b f11_year_17_b
    by_cases c : k = m
    · subst c
      rw [if_pos (nI_le (Nat.le_refl k) (by omega)), if_pos (nI_le (Nat.le_refl k) (by omega)), liv3 hn h.1.2.1 h.2.2.2.2 h.1.2.2.2.2.2, Option.bind_some]
      refine ⟨Ic, Im, rfl, rfl, fF.refl, fV.refl, rfl, rfl, ?_⟩
      rw [Nat.sub_self]
      exact h.2.2.2.2
    · obtain ⟨I1, B1, q1, q2, q3, q4, q5, q6, q7⟩ := year_lock (Jc := Jc) (Jm := Jm) isL1 h (n := n) (by omega) hn
      obtain ⟨I2, B2, u1, u2, u3, u4, u5, u6, u7⟩ := ih (k + 1) (N + 1) I1 B1 (by omega) (by omega) (by omega) (h.go isL1 q3 q4 q7)
      rw [show N + 1 + (m - (k + 1)) = N + (m - k) by omega] at u7
      rw [if_neg (nI_ge (show k < m by omega) (by omega)), if_neg (nI_ge (show k < m by omega) (by omega)), show mm_rf SZ 0 15 = 147 by simp (disch := omega) only [↓M1, ↓ofNat_nI, L0, L1, L2, L3, L4, L5, L6, L7, L8, L9, L10, L12, L31, L32, L40, L48, L50, L99, L100, L120, L180, L256, L500, n_lt0, n_ge0, n_let, n_lef, n_ltt, n_ltf, n_eqt, n_eqf, m_lt, m_le, m_eq, m_eq2, m_le2, m_lt2, m_nle, m_nlt, if_true, if_false, eq_self, Option.bind_some, mb0, mb1, mbb, mbn0, mbn1, not_true, not_false_eq_true, reduceIte, Bool.false_eq_true, nI_add, nI_clamp, pk_mul, in_t, in_f, in_m, zr, za, at_SZ, put_SZ, rd_at, wr_at, rd_m, wr_m], q1, q2, Option.bind_some, Option.bind_some, nI_1]
      exact ⟨I2, B2, u1, u2, q3.trans u3, q4.trans u4, u5.trans q5, u6.trans q6, u7⟩
theorem st_year : St_year Inv := by
  intro k hk a I J h
  have h0 := h
  obtain ⟨T, P, hA⟩ := h
  refine ⟨1000, ?_⟩
  show ∃ o1 o2, f10_year SZ 1000 0 a I J = some o1 ∧ (fun I J => f11_year SZ 1000 167 a I J) o1.2.1 o1.2.2 = some o2 ∧ o1.1 = o2.1 ∧ Inv (k + 1) o2.2.1 o2.2.2
  rcases bnd_cases 1 99 (by decide) (by decide) a with hb | ⟨m, m1', m2', rfl, hb⟩
  · refine ⟨(-1000000002, I, J), (-1000000002, I, J), ?_, ?_, rfl, Inv_mono k I J h0⟩
    · unfold f10_year
      rw [show f10_within SZ a 1 99 I J = _ from cWi (lo := 1) (hi := 99), hb]
      rfl
    · show f11_year SZ 1000 167 a I J = _
      unfold f11_year
      rw [show f11_in SZ a.toInt64 1 99 I J = _ from mWi (lo := 1) (hi := 99) (by decide) (by decide), hb]
      rfl
  · refine two (J := J) hA (fun Im hB => ?_)
    obtain ⟨Ic', Im', q1, q2, q3, q4, q5, q6, q7⟩ := yrs_loop (n := 1000) (m := m) (Jc := J) (Jm := J) (by omega) (by omega) 1000 0 (100 * k) I Im (Nat.zero_le m) (by omega) (by omega) hB.lf
    obtain ⟨s, s1, s2, s3⟩ := hB.2.2.2.2.2.1
    refine ⟨Ic' 29 8, Ic', Im', ?_, ?_, q3, q4, q7.mono (by omega), s, s1, by rw [q5]; exact s2, by rw [q6]; exact s3⟩
    · unfold f10_year
      rw [show f10_within SZ (nI m) 1 99 I J = _ from cWi (lo := 1) (hi := 99), hb, Option.bind_some, if_neg (show ¬ b01 true = 0 by decide)]
      exact q1
    · show f11_year SZ 1000 167 (nI m) Im J = _
      unfold f11_year
      rw [show f11_in SZ (nI m).toInt64 1 99 Im J = _ from mWi (lo := 1) (hi := 99) (by decide) (by decide), hb, Option.bind_some, if_neg (show ¬ b01 true = 0 by decide)]
      exact q2
