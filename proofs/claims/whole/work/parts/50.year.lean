/-! ===== part 50: a year: fading, learning, what is left aside, both sides (written by wip/whole/pre.py) ===== -/
section YR
variable {T P N L R F : Nat} {Ic Im : mm_I} {Jc Jm : mm_J}
def yS (F : Nat) (Ic Im Ic' Im' : mm_I) : Prop := fF F Ic Ic' ∧ fV Im Im' ∧ Ic' F = Ic F ∧ Im' 167 = Im 167 ∧ Im' 173 = Im 173 ∧ Im' 176 = Im 176
theorem yS.refl : yS F Ic Im Ic Im := ⟨fF.refl, fV.refl, rfl, rfl, rfl, rfl⟩
theorem yS.trans {I1 B1 I2 B2 : mm_I} (h : yS F Ic Im I1 B1) (g : yS F I1 B1 I2 B2) : yS F Ic Im I2 B2 :=
  ⟨h.1.trans g.1, h.2.1.trans g.2.1, g.2.2.1.trans h.2.2.1, g.2.2.2.1.trans h.2.2.2.1, g.2.2.2.2.1.trans h.2.2.2.2.1, g.2.2.2.2.2.trans h.2.2.2.2.2⟩
theorem yS.c {r k : Nat} {x : Int32} (h : F < r ∧ r ≤ F + 16) : yS F Ic Im (mm_up Ic r k x) Im := ⟨fF.up (by omega), fV.refl, mm_up_o (by omega), rfl, rfl, rfl⟩
theorem yS.m {r k : Nat} {x : Int32} (h : 172 ≤ r ∧ r ≤ 182) (h3 : r ≠ 173) (h6 : r ≠ 176) : yS F Ic Im Ic (mm_up Im r k x) := ⟨fF.refl, fV.up h, rfl, mm_up_o (by omega), mm_up_o (by omega), mm_up_o (by omega)⟩
theorem fd_cases {x f : Nat} (hx : x ≤ 100) (hf : f ≤ 100) : (∃ d, 0 < d ∧ d ≤ x ∧ nI x - nI f = nI d) ∨ (¬ (nI 0 < nI x - nI f) ∧ ¬ (nI 50 < nI x - nI f)) := by
  rcases Nat.lt_or_ge f x with h | h
  · exact Or.inl ⟨x - f, by omega, by omega, pk_sub (by omega)⟩
  · have e := pk_sub_toInt (a := x) (b := f) (by omega) (by omega)
    refine Or.inr ⟨?_, ?_⟩ <;> (rw [Int32.lt_iff_toInt_lt, e, nI_toInt (by omega)]; omega)
/-- the trade that fades, in the class -/
theorem fade_A (hL : isL L R F) {p t d : Nat} {b : Int32} (hp : p < 8) (ht : t < 6) (h0 : 0 < d) (hd : d ≤ 100) : f2_fade_65 SZ L (nI p) (nI t) (nI d) b Ic Jc = if b = 0 then some (mm_up Ic (F + 4) (6 * p + t) (nI d), Jc) else some (mm_up (mm_up Ic (F + 4) (6 * p + t) (nI d)) (F + 14) p m1, Jc) := by
  unfold f2_fade_65 f2_fade_107 f2_fade_117 f2_fade_129 f1_setSkill
  rw [(zL hL).2.2]
  simp (disch := omega) only [↓M1, ↓ofNat_nI, L0, L1, L2, L3, L4, L5, L6, L7, L8, L9, L10, L12, L31, L32, L40, L48, L50, L99, L100, L120, L180, L256, L500, n_lt0, n_ge0, n_let, n_lef, n_ltt, n_ltf, n_eqt, n_eqf, m_lt, m_le, m_eq, m_eq2, m_le2, m_lt2, m_nle, m_nlt, if_true, if_false, eq_self, Option.bind_some, mb0, mb1, mbb, mbn0, mbn1, not_true, not_false_eq_true, reduceIte, Bool.false_eq_true, nI_add, nI_clamp, pk_mul, in_t, in_f, in_m, zr, za, at_SZ, put_SZ, rd_at, wr_at, rd_m, wr_m, f10_cell_eq, zF hL.f]
  rfl
theorem fade_B (hL : isL L R F) {p t : Nat} {D : Int32} (hp : p < 8) (ht : t < 6) (h0 : ¬ (nI 0 < D)) : f2_fade_65 SZ L (nI p) (nI t) D 0 Ic Jc = some (mm_up (mm_up (mm_up Ic (F + 4) (6 * p + t) (nI 0)) (F + 6) (6 * p + t) (Ic F 11)) (F + 14) p m1, Jc) := by
  have hr := hL.r
  unfold f2_fade_65 f2_fade_107 f2_fade_117 f2_fade_129 f1_setSkill
  rw [(zL hL).2.2]
  simp (disch := omega) only [↓M1, ↓ofNat_nI, L0, L1, L2, L3, L4, L5, L6, L7, L8, L9, L10, L12, L31, L32, L40, L48, L50, L99, L100, L120, L180, L256, L500, n_lt0, n_ge0, n_let, n_lef, n_ltt, n_ltf, n_eqt, n_eqf, m_lt, m_le, m_eq, m_eq2, m_le2, m_lt2, m_nle, m_nlt, if_true, if_false, eq_self, Option.bind_some, mb0, mb1, mbb, mbn0, mbn1, not_true, not_false_eq_true, reduceIte, Bool.false_eq_true, nI_add, nI_clamp, pk_mul, in_t, in_f, in_m, zr, za, at_SZ, put_SZ, rd_at, wr_at, rd_m, wr_m, up_s2, up_o2, f10_cell_eq, zF hL.f, eq_false h0]
theorem fade_lock (hL : isL L R F) (h : rLf T P N R F Ic Im) {p t : Nat} (hp : p < P) (ht : t < T) (hl : Im 173 p = b01 true) : ∃ Ic' Im', f2_fade SZ L (nI p) (nI t) Ic Jc = some (Ic', Jc) ∧ f11_forgetOn SZ 167 (nI p) (nI t) Im Jm = some (Im', Jm) ∧ yS F Ic Im Ic' Im' ∧ Im' 177 = Im 177 ∧ rF T P N F Ic' (vCur Im') := by
  obtain ⟨a1, a2, a3, a4, a5⟩ := h
  have hT := a1.1
  have hP := a1.2.1
  have hr := hL.r
  obtain ⟨x, hx, x1, x2⟩ := a5.s (p := p) (t := t) (by omega) (by omega)
  obtain ⟨kd, hkd, k1, k2⟩ := (a2 t ht).1
  obtain ⟨fd, f1, f2, f3, f4⟩ := a4.2.2.1
  obtain ⟨y, y1, y2, y3⟩ := a5.ye
  have eC : f2_fade SZ L (nI p) (nI t) Ic Jc = if kd = 2 then (if x < 50 then f2_fade_65 SZ L (nI p) (nI t) (nI x - nI fd) 0 Ic Jc else (if nI 50 < nI x - nI fd then f2_fade_65 SZ L (nI p) (nI t) (nI x - nI fd) 0 Ic Jc else f2_fade_65 SZ L (nI p) (nI t) (nI 50) 1 Ic Jc)) else f2_fade_65 SZ L (nI p) (nI t) (nI x - nI fd) 0 Ic Jc := by
    unfold f2_fade f2_fade_53 f2_fade_54 f1_skillOf
    rw [(zL hL).2.2, (zL hL).2.1, (zL hL).1]
    simp (disch := omega) only [↓M1, ↓ofNat_nI, L0, L1, L2, L3, L4, L5, L6, L7, L8, L9, L10, L12, L31, L32, L40, L48, L50, L99, L100, L120, L180, L256, L500, n_lt0, n_ge0, n_let, n_lef, n_ltt, n_ltf, n_eqt, n_eqf, m_lt, m_le, m_eq, m_eq2, m_le2, m_lt2, m_nle, m_nlt, if_true, if_false, eq_self, Option.bind_some, mb0, mb1, mbb, mbn0, mbn1, not_true, not_false_eq_true, reduceIte, Bool.false_eq_true, nI_add, nI_clamp, pk_mul, in_t, in_f, in_m, zr, za, at_SZ, put_SZ, rd_at, wr_at, rd_m, wr_m, f10_cell_eq, zF hL.f, x1, k1, f3]
    rw [ite_eq (by omega) (by omega), ite_lt (by omega) (by omega)]
  have eM : f11_forgetOn SZ 167 (nI p) (nI t) Im Jm = if kd = 2 then (if x < 50 then f11_forgetOn_68 SZ 167 (nI p) (nI (6 * p + t)) (nI x - nI fd) Im Jm else (if nI 50 < nI x - nI fd then f11_forgetOn_68 SZ 167 (nI p) (nI (6 * p + t)) (nI x - nI fd) Im Jm else some (mm_up (mm_up Im 174 (6 * p + t) (nI 50)) 179 p m1, Jm))) else f11_forgetOn_68 SZ 167 (nI p) (nI (6 * p + t)) (nI x - nI fd) Im Jm := by
    unfold f11_forgetOn f11_forgetOn_108
    simp (disch := omega) only [↓M1, ↓ofNat_nI, L0, L1, L2, L3, L4, L5, L6, L7, L8, L9, L10, L12, L31, L32, L40, L48, L50, L99, L100, L120, L180, L256, L500, n_lt0, n_ge0, n_let, n_lef, n_ltt, n_ltf, n_eqt, n_eqf, m_lt, m_le, m_eq, m_eq2, m_le2, m_lt2, m_nle, m_nlt, if_true, if_false, eq_self, Option.bind_some, mb0, mb1, mbb, mbn0, mbn1, not_true, not_false_eq_true, reduceIte, Bool.false_eq_true, nI_add, nI_clamp, pk_mul, in_t, in_f, in_m, zr, za, at_SZ, put_SZ, rd_at, wr_at, rd_m, wr_m, x2, k2, f4]
    rw [ite_eq (by omega) (by omega), ite_lt (by omega) (by omega)]
  have sk : ∀ d, 0 < d → d ≤ 100 → rF T P N F (mm_up Ic (F + 4) (6 * p + t) (nI d)) (vCur (mm_up Im 174 (6 * p + t) (nI d))) := fun d h1 h2 => (a5.sk hp ht h2 hl (fun e => absurd e (by omega)) hP hT).e (vCur_up (j := 0) (by omega))
  have plain : ∃ Ic' Im', f2_fade_65 SZ L (nI p) (nI t) (nI x - nI fd) 0 Ic Jc = some (Ic', Jc) ∧ f11_forgetOn_68 SZ 167 (nI p) (nI (6 * p + t)) (nI x - nI fd) Im Jm = some (Im', Jm) ∧ yS F Ic Im Ic' Im' ∧ Im' 177 = Im 177 ∧ rF T P N F Ic' (vCur Im') := by
    rcases fd_cases hx f2 with ⟨d, d0, d1, e⟩ | ⟨e, -⟩
    · rw [e]
      refine ⟨_, mm_up Im 174 (6 * p + t) (nI d), (fade_A hL (by omega) (by omega) d0 (by omega)).trans (if_pos rfl), ?_, (yS.c (by omega)).trans (yS.m (by omega) (by omega) (by omega)), mm_up_o (by omega), sk d d0 (by omega)⟩
      unfold f11_forgetOn_68 f11_forgetOn_108
      simp (disch := omega) only [↓M1, ↓ofNat_nI, L0, L1, L2, L3, L4, L5, L6, L7, L8, L9, L10, L12, L31, L32, L40, L48, L50, L99, L100, L120, L180, L256, L500, n_lt0, n_ge0, n_let, n_lef, n_ltt, n_ltf, n_eqt, n_eqf, m_lt, m_le, m_eq, m_eq2, m_le2, m_lt2, m_nle, m_nlt, if_true, if_false, eq_self, Option.bind_some, mb0, mb1, mbb, mbn0, mbn1, not_true, not_false_eq_true, reduceIte, Bool.false_eq_true, nI_add, nI_clamp, pk_mul, in_t, in_f, in_m, zr, za, at_SZ, put_SZ, rd_at, wr_at, rd_m, wr_m]
    · refine ⟨_, mm_up (mm_up (mm_up Im 174 (6 * p + t) (nI 0)) 179 p m1) 175 (6 * p + t) (nI y), fade_B hL (by omega) (by omega) e, ?_, ?_, ?_, ?_⟩
      · unfold f11_forgetOn_68 f11_forgetOn_108
        simp (disch := omega) only [↓M1, ↓ofNat_nI, L0, L1, L2, L3, L4, L5, L6, L7, L8, L9, L10, L12, L31, L32, L40, L48, L50, L99, L100, L120, L180, L256, L500, n_lt0, n_ge0, n_let, n_lef, n_ltt, n_ltf, n_eqt, n_eqf, m_lt, m_le, m_eq, m_eq2, m_le2, m_lt2, m_nle, m_nlt, if_true, if_false, eq_self, Option.bind_some, mb0, mb1, mbb, mbn0, mbn1, not_true, not_false_eq_true, reduceIte, Bool.false_eq_true, nI_add, nI_clamp, pk_mul, in_t, in_f, in_m, zr, za, at_SZ, put_SZ, rd_at, wr_at, rd_m, wr_m, up_s2, up_o2, y3, eq_false e]
      · exact (((yS.c (by omega)).trans (yS.c (by omega))).trans (yS.c (by omega))).trans (((yS.m (by omega) (by omega) (by omega)).trans (yS.m (by omega) (by omega) (by omega))).trans (yS.m (by omega) (by omega) (by omega)))
      · rw [mm_up_o (by omega), mm_up_o (by omega), mm_up_o (by omega)]
      · rw [y2, mm_up_comm (show 179 ≠ 175 by omega), mm_up_comm (show 174 ≠ 175 by omega), mm_up_comm (show F + 4 ≠ F + 6 by omega)]
        have g1 : rF T P N F (mm_up Ic (F + 6) (6 * p + t) (nI y)) (vCur (mm_up Im 175 (6 * p + t) (nI y))) := (a5.gone (k := 6 * p + t) (x := nI y) (by omega) (Or.inr ⟨y, y1, rfl⟩)).e (vCur_up (j := 1) (by omega))
        have g2 : rF T P N F (mm_up (mm_up Ic (F + 6) (6 * p + t) (nI y)) (F + 4) (6 * p + t) (nI 0)) (vCur (mm_up (mm_up Im 175 (6 * p + t) (nI y)) 174 (6 * p + t) (nI 0))) := (g1.sk (s := 0) hp ht (by omega) (by
            show mm_up Im 175 (6 * p + t) (nI y) 173 p = b01 true
            rw [up_o2 (by omega)]; exact hl) (fun _ => by
            show _ = mm_up Im 175 (6 * p + t) (nI y) 175 (6 * p + t)
            rw [up_s2, up_s2]) hP hT).e (vCur_up (j := 0) (by omega))
        exact (g2.frg (x := m1) hp (Or.inl rfl) (Or.inl rfl) hP).e (vCur_up (j := 7) (by omega))
  rw [eC, eM]
  split
  · split
    · exact plain
    · split
      · exact plain
      · refine ⟨_, _, (fade_A hL (d := 50) (by omega) (by omega) (by omega) (by omega)).trans (if_neg n10), rfl, ((yS.c (by omega)).trans (yS.c (by omega))).trans ((yS.m (by omega) (by omega) (by omega)).trans (yS.m (by omega) (by omega) (by omega))), ?_, ?_⟩
        · rw [mm_up_o (by omega), mm_up_o (by omega)]
        · exact ((sk 50 (by omega) (by omega)).frg (x := m1) hp (Or.inl rfl) (Or.inl rfl) hP).e (vCur_up (j := 7) (by omega))
  · exact plain
/-- learning goes on -/
theorem learn_lock (hL : isL L R F) (h : rLf T P N R F Ic Im) {p t : Nat} (hp : p < P) (ht : t < T) (hl : Im 173 p = b01 true) (he : Im 177 p = nI t) : ∃ Ic' Im', f2_learnOn SZ L (nI p) (nI t) Ic Jc = some (Ic', Jc) ∧ f11_learnOn SZ 167 (nI p) (nI t) Im Jm = some (Im', Jm) ∧ yS F Ic Im Ic' Im' ∧ rF T P N F Ic' (vCur Im') := by
  obtain ⟨a1, a2, a3, a4, a5⟩ := h
  have hT := a1.1
  have hP := a1.2.1
  have hr := hL.r
  obtain ⟨x, hx, x1, x2⟩ := a5.s (p := p) (t := t) (by omega) (by omega)
  obtain ⟨w, w1, w2, w3, w4⟩ := (a2 t ht).2.1
  have el : Ic (F + 12) p = Im 178 p := a5.lt hp (by rw [he]; exact n_m1 (by omega))
  have hq : nI 100 / nI w = nI (100 / w) := pk_div (by omega) (by omega) (by omega)
  have hq1 : 0 < 100 / w := Nat.div_pos (by omega) (by omega)
  have hq2 : 100 / w ≤ 100 := Nat.div_le_self _ _
  generalize 100 / w = g at *
  -- the new skill
  have fin : ∀ d, 0 < d → d ≤ 100 → ∃ Ic' Im', f2_learnOn_62 SZ L (nI p) (nI t) (Im 178 p + nI 1) (nI d) Ic Jc = some (Ic', Jc) ∧ f11_learnOn_73 SZ 167 (nI p) (nI t) (nI (6 * p + t)) 174 (nI (6 * p + t)) (nI d) (mm_up Im 178 p (Im 178 p + nI 1)) Jm = some (Im', Jm) ∧ yS F Ic Im Ic' Im' ∧ rF T P N F Ic' (vCur Im') := by
    intro d d0 d1
    have g1 : rF T P N F (mm_up Ic (F + 4) (6 * p + t) (nI d)) (vCur (mm_up Im 174 (6 * p + t) (nI d))) := (a5.sk hp ht d1 hl (fun e => absurd e (by omega)) hP hT).e (vCur_up (j := 0) (by omega))
    have g2 : rF T P N F (mm_up (mm_up Ic (F + 4) (6 * p + t) (nI d)) (F + 12) p (Im 178 p + nI 1)) (vCur (mm_up (mm_up Im 174 (6 * p + t) (nI d)) 178 p (Im 178 p + nI 1))) := (g1.lnt (x := Im 178 p + nI 1) hp).e (vCur_up (j := 6) (by omega))
    unfold f2_learnOn_62 f2_learnOn_106 f1_setSkill f11_learnOn_73 f11_learnOn_95
    rw [(zL hL).2.2]
    simp (disch := omega) only [↓M1, ↓ofNat_nI, L0, L1, L2, L3, L4, L5, L6, L7, L8, L9, L10, L12, L31, L32, L40, L48, L50, L99, L100, L120, L180, L256, L500, n_lt0, n_ge0, n_let, n_lef, n_ltt, n_ltf, n_eqt, n_eqf, m_lt, m_le, m_eq, m_eq2, m_le2, m_lt2, m_nle, m_nlt, if_true, if_false, eq_self, Option.bind_some, mb0, mb1, mbb, mbn0, mbn1, not_true, not_false_eq_true, reduceIte, Bool.false_eq_true, nI_add, nI_clamp, pk_mul, in_t, in_f, in_m, zr, za, at_SZ, put_SZ, rd_at, wr_at, rd_m, wr_m, up_s2, up_o2, f10_cell_eq, zF hL.f]
    by_cases c : d = 100
    · subst c
      simp (disch := omega) only [↓M1, ↓ofNat_nI, L0, L1, L2, L3, L4, L5, L6, L7, L8, L9, L10, L12, L31, L32, L40, L48, L50, L99, L100, L120, L180, L256, L500, n_lt0, n_ge0, n_let, n_lef, n_ltt, n_ltf, n_eqt, n_eqf, m_lt, m_le, m_eq, m_eq2, m_le2, m_lt2, m_nle, m_nlt, if_true, if_false, eq_self, Option.bind_some, mb0, mb1, mbb, mbn0, mbn1, not_true, not_false_eq_true, reduceIte, Bool.false_eq_true, nI_add, nI_clamp, pk_mul, in_t, in_f, in_m, zr, za, at_SZ, put_SZ, rd_at, wr_at, rd_m, wr_m, up_s2, up_o2]
      refine ⟨_, _, rfl, rfl, ((yS.c (by omega)).trans (yS.c (by omega))).trans ((yS.c (by omega)).trans ((yS.m (by omega) (by omega) (by omega)).trans ((yS.m (by omega) (by omega) (by omega)).trans (yS.m (by omega) (by omega) (by omega))))), ?_⟩
      rw [mm_up_comm (show 178 ≠ 174 by omega)]
      exact (g2.lrn (x := m1) hp (Or.inl rfl) (Or.inl rfl) (fun e => absurd rfl e) hP).e (vCur_up (j := 5) (by omega))
    · simp (disch := omega) only [↓M1, ↓ofNat_nI, L0, L1, L2, L3, L4, L5, L6, L7, L8, L9, L10, L12, L31, L32, L40, L48, L50, L99, L100, L120, L180, L256, L500, n_lt0, n_ge0, n_let, n_lef, n_ltt, n_ltf, n_eqt, n_eqf, m_lt, m_le, m_eq, m_eq2, m_le2, m_lt2, m_nle, m_nlt, if_true, if_false, eq_self, Option.bind_some, mb0, mb1, mbb, mbn0, mbn1, not_true, not_false_eq_true, reduceIte, Bool.false_eq_true, nI_add, nI_clamp, pk_mul, in_t, in_f, in_m, zr, za, at_SZ, put_SZ, rd_at, wr_at, rd_m, wr_m, up_s2, up_o2]
      refine ⟨_, _, rfl, rfl, ((yS.c (by omega)).trans (yS.c (by omega))).trans ((yS.m (by omega) (by omega) (by omega)).trans ((yS.m (by omega) (by omega) (by omega)).trans (yS.m (by omega) (by omega) (by omega)))), ?_⟩
      rw [show nI t = (mm_up (mm_up Im 178 p (Im 178 p + nI 1)) 174 (6 * p + t) (nI d)) 177 p from by rw [up_o2 (by omega), up_o2 (by omega)]; exact he.symm, mm_up_self, mm_up_comm (show 178 ≠ 174 by omega)]
      exact g2
  unfold f2_learnOn f11_learnOn f11_learnOn_66 f1_skillOf
  rw [(zL hL).2.2, (zL hL).1]
  rcases Nat.lt_or_ge 1 w with cw | cw
  · skip
    by_cases hle : nI w ≤ Im 178 p + nI 1
    · have f1 : (nI w ≤ Im 178 p + nI 1) = True := eq_true hle
      have f2 : (Im 178 p + nI 1 < nI w) = False := eq_false (Int32.not_lt.mpr hle)
      simp (disch := omega) only [↓M1, ↓ofNat_nI, L0, L1, L2, L3, L4, L5, L6, L7, L8, L9, L10, L12, L31, L32, L40, L48, L50, L99, L100, L120, L180, L256, L500, n_lt0, n_ge0, n_let, n_lef, n_ltt, n_ltf, n_eqt, n_eqf, m_lt, m_le, m_eq, m_eq2, m_le2, m_lt2, m_nle, m_nlt, if_true, if_false, eq_self, Option.bind_some, mb0, mb1, mbb, mbn0, mbn1, not_true, not_false_eq_true, reduceIte, Bool.false_eq_true, nI_add, nI_clamp, pk_mul, in_t, in_f, in_m, zr, za, at_SZ, put_SZ, rd_at, wr_at, rd_m, wr_m, up_s2, up_o2, f10_cell_eq, zF hL.f, w3, w4, el, f1, f2]
      exact fin 100 (by omega) (by omega)
    · have f1 : (nI w ≤ Im 178 p + nI 1) = False := eq_false hle
      have f2 : (Im 178 p + nI 1 < nI w) = True := eq_true (Int32.not_le.mp hle)
      rcases Nat.lt_trichotomy (x + g) 100 with c | c | c
      · simp (disch := omega) only [↓M1, ↓ofNat_nI, L0, L1, L2, L3, L4, L5, L6, L7, L8, L9, L10, L12, L31, L32, L40, L48, L50, L99, L100, L120, L180, L256, L500, n_lt0, n_ge0, n_let, n_lef, n_ltt, n_ltf, n_eqt, n_eqf, m_lt, m_le, m_eq, m_eq2, m_le2, m_lt2, m_nle, m_nlt, if_true, if_false, eq_self, Option.bind_some, mb0, mb1, mbb, mbn0, mbn1, not_true, not_false_eq_true, reduceIte, Bool.false_eq_true, nI_add, nI_clamp, pk_mul, in_t, in_f, in_m, zr, za, at_SZ, put_SZ, rd_at, wr_at, rd_m, wr_m, up_s2, up_o2, f10_cell_eq, zF hL.f, w3, w4, el, f1, f2, hq, x1, x2]
        exact fin (x + g) (by omega) (by omega)
      · simp (disch := omega) only [↓M1, ↓ofNat_nI, L0, L1, L2, L3, L4, L5, L6, L7, L8, L9, L10, L12, L31, L32, L40, L48, L50, L99, L100, L120, L180, L256, L500, n_lt0, n_ge0, n_let, n_lef, n_ltt, n_ltf, n_eqt, n_eqf, m_lt, m_le, m_eq, m_eq2, m_le2, m_lt2, m_nle, m_nlt, if_true, if_false, eq_self, Option.bind_some, mb0, mb1, mbb, mbn0, mbn1, not_true, not_false_eq_true, reduceIte, Bool.false_eq_true, nI_add, nI_clamp, pk_mul, in_t, in_f, in_m, zr, za, at_SZ, put_SZ, rd_at, wr_at, rd_m, wr_m, up_s2, up_o2, f10_cell_eq, zF hL.f, w3, w4, el, f1, f2, hq, x1, x2, c]
        exact fin 100 (by omega) (by omega)
      · simp (disch := omega) only [↓M1, ↓ofNat_nI, L0, L1, L2, L3, L4, L5, L6, L7, L8, L9, L10, L12, L31, L32, L40, L48, L50, L99, L100, L120, L180, L256, L500, n_lt0, n_ge0, n_let, n_lef, n_ltt, n_ltf, n_eqt, n_eqf, m_lt, m_le, m_eq, m_eq2, m_le2, m_lt2, m_nle, m_nlt, if_true, if_false, eq_self, Option.bind_some, mb0, mb1, mbb, mbn0, mbn1, not_true, not_false_eq_true, reduceIte, Bool.false_eq_true, nI_add, nI_clamp, pk_mul, in_t, in_f, in_m, zr, za, at_SZ, put_SZ, rd_at, wr_at, rd_m, wr_m, up_s2, up_o2, f10_cell_eq, zF hL.f, w3, w4, el, f1, f2, hq, x1, x2]
        exact fin 100 (by omega) (by omega)
  · obtain rfl : w = 1 := by omega
    by_cases hle : nI 1 ≤ Im 178 p + nI 1
    · have f1 : (nI 1 ≤ Im 178 p + nI 1) = True := eq_true hle
      have f2 : (Im 178 p + nI 1 < nI 1) = False := eq_false (Int32.not_lt.mpr hle)
      simp (disch := omega) only [↓M1, ↓ofNat_nI, L0, L1, L2, L3, L4, L5, L6, L7, L8, L9, L10, L12, L31, L32, L40, L48, L50, L99, L100, L120, L180, L256, L500, n_lt0, n_ge0, n_let, n_lef, n_ltt, n_ltf, n_eqt, n_eqf, m_lt, m_le, m_eq, m_eq2, m_le2, m_lt2, m_nle, m_nlt, if_true, if_false, eq_self, Option.bind_some, mb0, mb1, mbb, mbn0, mbn1, not_true, not_false_eq_true, reduceIte, Bool.false_eq_true, nI_add, nI_clamp, pk_mul, in_t, in_f, in_m, zr, za, at_SZ, put_SZ, rd_at, wr_at, rd_m, wr_m, up_s2, up_o2, f10_cell_eq, zF hL.f, w3, w4, el, f1, f2]
      exact fin 100 (by omega) (by omega)
    · have f1 : (nI 1 ≤ Im 178 p + nI 1) = False := eq_false hle
      have f2 : (Im 178 p + nI 1 < nI 1) = True := eq_true (Int32.not_le.mp hle)
      rcases Nat.lt_trichotomy (x + g) 100 with c | c | c
      · simp (disch := omega) only [↓M1, ↓ofNat_nI, L0, L1, L2, L3, L4, L5, L6, L7, L8, L9, L10, L12, L31, L32, L40, L48, L50, L99, L100, L120, L180, L256, L500, n_lt0, n_ge0, n_let, n_lef, n_ltt, n_ltf, n_eqt, n_eqf, m_lt, m_le, m_eq, m_eq2, m_le2, m_lt2, m_nle, m_nlt, if_true, if_false, eq_self, Option.bind_some, mb0, mb1, mbb, mbn0, mbn1, not_true, not_false_eq_true, reduceIte, Bool.false_eq_true, nI_add, nI_clamp, pk_mul, in_t, in_f, in_m, zr, za, at_SZ, put_SZ, rd_at, wr_at, rd_m, wr_m, up_s2, up_o2, f10_cell_eq, zF hL.f, w3, w4, el, f1, f2, hq, x1, x2]
        exact fin (x + g) (by omega) (by omega)
      · simp (disch := omega) only [↓M1, ↓ofNat_nI, L0, L1, L2, L3, L4, L5, L6, L7, L8, L9, L10, L12, L31, L32, L40, L48, L50, L99, L100, L120, L180, L256, L500, n_lt0, n_ge0, n_let, n_lef, n_ltt, n_ltf, n_eqt, n_eqf, m_lt, m_le, m_eq, m_eq2, m_le2, m_lt2, m_nle, m_nlt, if_true, if_false, eq_self, Option.bind_some, mb0, mb1, mbb, mbn0, mbn1, not_true, not_false_eq_true, reduceIte, Bool.false_eq_true, nI_add, nI_clamp, pk_mul, in_t, in_f, in_m, zr, za, at_SZ, put_SZ, rd_at, wr_at, rd_m, wr_m, up_s2, up_o2, f10_cell_eq, zF hL.f, w3, w4, el, f1, f2, hq, x1, x2, c]
        exact fin 100 (by omega) (by omega)
      · simp (disch := omega) only [↓M1, ↓ofNat_nI, L0, L1, L2, L3, L4, L5, L6, L7, L8, L9, L10, L12, L31, L32, L40, L48, L50, L99, L100, L120, L180, L256, L500, n_lt0, n_ge0, n_let, n_lef, n_ltt, n_ltf, n_eqt, n_eqf, m_lt, m_le, m_eq, m_eq2, m_le2, m_lt2, m_nle, m_nlt, if_true, if_false, eq_self, Option.bind_some, mb0, mb1, mbb, mbn0, mbn1, not_true, not_false_eq_true, reduceIte, Bool.false_eq_true, nI_add, nI_clamp, pk_mul, in_t, in_f, in_m, zr, za, at_SZ, put_SZ, rd_at, wr_at, rd_m, wr_m, up_s2, up_o2, f10_cell_eq, zF hL.f, w3, w4, el, f1, f2, hq, x1, x2]
        exact fin 100 (by omega) (by omega)
theorem due_eq {y g : Nat} (hy : y < 2 ^ 30) (hg : g < 2 ^ 29) : (nI y - nI g < nI 9) = (y < g + 9) := propext (by
  rw [Int32.lt_iff_toInt_lt, pk_sub_toInt hy (by omega), nI_toInt (by omega)]
  omega)
/-- what is left aside -/
theorem aside_lock (hL : isL L R F) (h : rLf T P N R F Ic Im) {n p t : Nat} (hN : N < 2 ^ 29) (hn : 9 ≤ n) (hp : p < P) (ht : t < T) (hl : Im 173 p = b01 true) : ∃ Ic' Im', f2_leaveAside SZ n L (nI p) (nI t) Ic Jc = some (Ic', Jc) ∧ f11_tradeYear_63 SZ n 167 (nI p) (nI t) (nI (6 * p + t)) 0 0 Im Jm = some (Im', Jm) ∧ yS F Ic Im Ic' Im' ∧ rF T P N F Ic' (vCur Im') := by
  obtain ⟨a1, a2, a3, a4, a5⟩ := h
  have hT := a1.1
  have hP := a1.2.1
  have hr := hL.r
  obtain ⟨x, hx, x1, x2⟩ := a5.s (p := p) (t := t) (by omega) (by omega)
  obtain ⟨kd, hkd, k1, k2⟩ := (a2 t ht).1
  obtain ⟨ru, f2, f3, f4⟩ := a4.2.2.2.1
  obtain ⟨y, y1, y2, y3⟩ := a5.ye
  obtain ⟨hd, hd1, hd2, h3, h4⟩ := a4.1
  have eP : Ic (F + 8) p = Im 176 p := (a5.pr hp).1
  have nothing : ∃ Ic' Im', some (Ic, Jc) = some (Ic', Jc) ∧ some (Im, Jm) = some (Im', Jm) ∧ yS F Ic Im Ic' Im' ∧ rF T P N F Ic' (vCur Im') := ⟨Ic, Im, rfl, rfl, yS.refl, a5⟩
  have hkn : kn Im p t = decide (nI 0 < nI x) := by
    unfold kn
    rw [x2]
  unfold f2_leaveAside f2_leaveAside_87 f11_tradeYear_63 f11_tradeYear_199 f11_tradeYear_132
  rw [(zL hL).2.2, (zL hL).2.1, ckn a5 hL.f (by omega) (by omega), Option.bind_some, hkn]
  by_cases hx0 : x = 0
  · subst hx0
    rw [show decide (nI 0 < nI 0) = false by decide, if_pos (show b01 false = 0 by decide)]
    have gE : Ic (F + 6) (6 * p + t) = Im 175 (6 * p + t) := a5.2.2.1 (6 * p + t) (by omega) x2
    unfold f2_isBackDue f2_isBackDue_54 f2_isBackDue_55
    rw [(zL hL).2.2, (zL hL).1]
    simp (disch := omega) only [↓M1, ↓ofNat_nI, L0, L1, L2, L3, L4, L5, L6, L7, L8, L9, L10, L12, L31, L32, L40, L48, L50, L99, L100, L120, L180, L256, L500, n_lt0, n_ge0, n_let, n_lef, n_ltt, n_ltf, n_eqt, n_eqf, m_lt, m_le, m_eq, m_eq2, m_le2, m_lt2, m_nle, m_nlt, if_true, if_false, eq_self, Option.bind_some, mb0, mb1, mbb, mbn0, mbn1, not_true, not_false_eq_true, reduceIte, Bool.false_eq_true, nI_add, nI_clamp, pk_mul, in_t, in_f, in_m, zr, za, at_SZ, put_SZ, rd_at, wr_at, rd_m, wr_m, up_s2, up_o2, f10_cell_eq, zF hL.f, x2, k1, k2, gE]
    by_cases ck : kd = 1
    · subst ck
      simp (disch := omega) only [↓M1, ↓ofNat_nI, L0, L1, L2, L3, L4, L5, L6, L7, L8, L9, L10, L12, L31, L32, L40, L48, L50, L99, L100, L120, L180, L256, L500, n_lt0, n_ge0, n_let, n_lef, n_ltt, n_ltf, n_eqt, n_eqf, m_lt, m_le, m_eq, m_eq2, m_le2, m_lt2, m_nle, m_nlt, if_true, if_false, eq_self, Option.bind_some, mb0, mb1, mbb, mbn0, mbn1, not_true, not_false_eq_true, reduceIte, Bool.false_eq_true, nI_add, nI_clamp, pk_mul, in_t, in_f, in_m, zr, za, at_SZ, put_SZ, rd_at, wr_at, rd_m, wr_m, up_s2, up_o2]
      rcases a5.2.2.2.1 (6 * p + t) (by omega) with g | ⟨g, g1, g2⟩
      · have g : Im 175 (6 * p + t) = m1 := g
        simp (disch := omega) only [↓M1, ↓ofNat_nI, L0, L1, L2, L3, L4, L5, L6, L7, L8, L9, L10, L12, L31, L32, L40, L48, L50, L99, L100, L120, L180, L256, L500, n_lt0, n_ge0, n_let, n_lef, n_ltt, n_ltf, n_eqt, n_eqf, m_lt, m_le, m_eq, m_eq2, m_le2, m_lt2, m_nle, m_nlt, if_true, if_false, eq_self, Option.bind_some, mb0, mb1, mbb, mbn0, mbn1, not_true, not_false_eq_true, reduceIte, Bool.false_eq_true, nI_add, nI_clamp, pk_mul, in_t, in_f, in_m, zr, za, at_SZ, put_SZ, rd_at, wr_at, rd_m, wr_m, up_s2, up_o2, g]
        exact nothing
      · have g2 : Im 175 (6 * p + t) = nI g := g2
        by_cases cd : y < g + 9
        · have q1 : (nI y - nI g < nI 9) = True := by
            rw [due_eq (by omega) (by omega)]
            exact eq_true cd
          simp (disch := omega) only [↓M1, ↓ofNat_nI, L0, L1, L2, L3, L4, L5, L6, L7, L8, L9, L10, L12, L31, L32, L40, L48, L50, L99, L100, L120, L180, L256, L500, n_lt0, n_ge0, n_let, n_lef, n_ltt, n_ltf, n_eqt, n_eqf, m_lt, m_le, m_eq, m_eq2, m_le2, m_lt2, m_nle, m_nlt, if_true, if_false, eq_self, Option.bind_some, mb0, mb1, mbb, mbn0, mbn1, not_true, not_false_eq_true, reduceIte, Bool.false_eq_true, nI_add, nI_clamp, pk_mul, in_t, in_f, in_m, zr, za, at_SZ, put_SZ, rd_at, wr_at, rd_m, wr_m, up_s2, up_o2, g2, y2, y3, q1]
          exact nothing
        · have q1 : (nI y - nI g < nI 9) = False := by
            rw [due_eq (by omega) (by omega)]
            exact eq_false cd
          simp (disch := omega) only [↓M1, ↓ofNat_nI, L0, L1, L2, L3, L4, L5, L6, L7, L8, L9, L10, L12, L31, L32, L40, L48, L50, L99, L100, L120, L180, L256, L500, n_lt0, n_ge0, n_let, n_lef, n_ltt, n_ltf, n_eqt, n_eqf, m_lt, m_le, m_eq, m_eq2, m_le2, m_lt2, m_nle, m_nlt, if_true, if_false, eq_self, Option.bind_some, mb0, mb1, mbb, mbn0, mbn1, not_true, not_false_eq_true, reduceIte, Bool.false_eq_true, nI_add, nI_clamp, pk_mul, in_t, in_f, in_m, zr, za, at_SZ, put_SZ, rd_at, wr_at, rd_m, wr_m, up_s2, up_o2, g2, y2, y3, q1]
          have hc := cnt_le (kn Im p) T
          rw [room_c (by omega) hL a5 hT (by omega) hd2 h3, Option.bind_some, km_eq (by omega) hT (by omega) a1.2.2.2.1, Option.bind_some, h4, ite_le (by omega) (by omega)]
          by_cases cr : hd ≤ cnt (kn Im p) T
          · rw [if_pos cr, decide_eq_false (by omega)]
            simp (disch := omega) only [↓M1, ↓ofNat_nI, L0, L1, L2, L3, L4, L5, L6, L7, L8, L9, L10, L12, L31, L32, L40, L48, L50, L99, L100, L120, L180, L256, L500, n_lt0, n_ge0, n_let, n_lef, n_ltt, n_ltf, n_eqt, n_eqf, m_lt, m_le, m_eq, m_eq2, m_le2, m_lt2, m_nle, m_nlt, if_true, if_false, eq_self, Option.bind_some, mb0, mb1, mbb, mbn0, mbn1, not_true, not_false_eq_true, reduceIte, Bool.false_eq_true, nI_add, nI_clamp, pk_mul, in_t, in_f, in_m, zr, za, at_SZ, put_SZ, rd_at, wr_at, rd_m, wr_m, up_s2, up_o2, bF0]
            exact nothing
          · rw [if_neg cr, decide_eq_true (by omega)]
            unfold f1_setSkill
            simp (disch := omega) only [↓M1, ↓ofNat_nI, L0, L1, L2, L3, L4, L5, L6, L7, L8, L9, L10, L12, L31, L32, L40, L48, L50, L99, L100, L120, L180, L256, L500, n_lt0, n_ge0, n_let, n_lef, n_ltt, n_ltf, n_eqt, n_eqf, m_lt, m_le, m_eq, m_eq2, m_le2, m_lt2, m_nle, m_nlt, if_true, if_false, eq_self, Option.bind_some, mb0, mb1, mbb, mbn0, mbn1, not_true, not_false_eq_true, reduceIte, Bool.false_eq_true, nI_add, nI_clamp, pk_mul, in_t, in_f, in_m, zr, za, at_SZ, put_SZ, rd_at, wr_at, rd_m, wr_m, up_s2, up_o2, f10_cell_eq, zF hL.f, bT0]
            refine ⟨_, _, rfl, rfl, (yS.c (by omega)).trans ((yS.m (by omega) (by omega) (by omega)).trans (yS.m (by omega) (by omega) (by omega))), ?_⟩
            have g1 : rF T P N F (mm_up Ic (F + 4) (6 * p + t) (nI 1)) (vCur (mm_up Im 174 (6 * p + t) (nI 1))) := (a5.sk hp ht (s := 1) (by omega) hl (fun e => absurd e (by omega)) hP hT).e (vCur_up (j := 0) (by omega))
            exact (g1.goneM (k := 6 * p + t) (x := m1) (by omega) (Or.inl rfl) (by
              show mm_up Im 174 (6 * p + t) (nI 1) 174 (6 * p + t) ≠ 0
              rw [up_s2]; decide)).e (vCur_up (j := 1) (by omega))
    · simp (disch := omega) only [↓M1, ↓ofNat_nI, L0, L1, L2, L3, L4, L5, L6, L7, L8, L9, L10, L12, L31, L32, L40, L48, L50, L99, L100, L120, L180, L256, L500, n_lt0, n_ge0, n_let, n_lef, n_ltt, n_ltf, n_eqt, n_eqf, m_lt, m_le, m_eq, m_eq2, m_le2, m_lt2, m_nle, m_nlt, if_true, if_false, eq_self, Option.bind_some, mb0, mb1, mbb, mbn0, mbn1, not_true, not_false_eq_true, reduceIte, Bool.false_eq_true, nI_add, nI_clamp, pk_mul, in_t, in_f, in_m, zr, za, at_SZ, put_SZ, rd_at, wr_at, rd_m, wr_m, up_s2, up_o2]
      exact nothing
  · rw [show decide (nI 0 < nI x) = true from decide_eq_true (nI_lt (by omega) (by omega)), if_neg (show ¬ b01 true = 0 by decide)]
    unfold f1_skillOf
    simp (disch := omega) only [↓M1, ↓ofNat_nI, L0, L1, L2, L3, L4, L5, L6, L7, L8, L9, L10, L12, L31, L32, L40, L48, L50, L99, L100, L120, L180, L256, L500, n_lt0, n_ge0, n_let, n_lef, n_ltt, n_ltf, n_eqt, n_eqf, m_lt, m_le, m_eq, m_eq2, m_le2, m_lt2, m_nle, m_nlt, if_true, if_false, eq_self, Option.bind_some, mb0, mb1, mbb, mbn0, mbn1, not_true, not_false_eq_true, reduceIte, Bool.false_eq_true, nI_add, nI_clamp, pk_mul, in_t, in_f, in_m, zr, za, at_SZ, put_SZ, rd_at, wr_at, rd_m, wr_m, up_s2, up_o2, f10_cell_eq, zF hL.f, x1, x2, eP]
    by_cases cp : Im 176 p = nI t
    · rw [if_pos cp, if_pos cp, ← x2, mm_up_self]
      exact nothing
    · rw [if_neg cp, if_neg cp, f3, f4]
      have fin : ∀ d, 0 < d → d ≤ 100 → ∃ Ic' Im', some (mm_up Ic (F + 4) (6 * p + t) (nI d), Jc) = some (Ic', Jc) ∧ some (mm_up Im 174 (6 * p + t) (nI d), Jm) = some (Im', Jm) ∧ yS F Ic Im Ic' Im' ∧ rF T P N F Ic' (vCur Im') := fun d h1 h2 => ⟨_, _, rfl, rfl, (yS.c (by omega)).trans (yS.m (by omega) (by omega) (by omega)), (a5.sk hp ht h2 hl (fun e => absurd e (by omega)) hP hT).e (vCur_up (j := 0) (by omega))⟩
      unfold f1_setSkill
      rcases fd_cases hx f2 with ⟨d, d0, d1, e⟩ | ⟨e, -⟩
      · rw [e]
        rcases Nat.lt_or_ge 1 d with w | w
        · simp (disch := omega) only [↓M1, ↓ofNat_nI, L0, L1, L2, L3, L4, L5, L6, L7, L8, L9, L10, L12, L31, L32, L40, L48, L50, L99, L100, L120, L180, L256, L500, n_lt0, n_ge0, n_let, n_lef, n_ltt, n_ltf, n_eqt, n_eqf, m_lt, m_le, m_eq, m_eq2, m_le2, m_lt2, m_nle, m_nlt, if_true, if_false, eq_self, Option.bind_some, mb0, mb1, mbb, mbn0, mbn1, not_true, not_false_eq_true, reduceIte, Bool.false_eq_true, nI_add, nI_clamp, pk_mul, in_t, in_f, in_m, zr, za, at_SZ, put_SZ, rd_at, wr_at, rd_m, wr_m, up_s2, up_o2, f10_cell_eq, zF hL.f]
          exact fin d d0 (by omega)
        · have : d = 1 := by omega
          subst this
          simp (disch := omega) only [↓M1, ↓ofNat_nI, L0, L1, L2, L3, L4, L5, L6, L7, L8, L9, L10, L12, L31, L32, L40, L48, L50, L99, L100, L120, L180, L256, L500, n_lt0, n_ge0, n_let, n_lef, n_ltt, n_ltf, n_eqt, n_eqf, m_lt, m_le, m_eq, m_eq2, m_le2, m_lt2, m_nle, m_nlt, if_true, if_false, eq_self, Option.bind_some, mb0, mb1, mbb, mbn0, mbn1, not_true, not_false_eq_true, reduceIte, Bool.false_eq_true, nI_add, nI_clamp, pk_mul, in_t, in_f, in_m, zr, za, at_SZ, put_SZ, rd_at, wr_at, rd_m, wr_m, up_s2, up_o2, f10_cell_eq, zF hL.f]
          exact fin 1 d0 (by omega)
      · have e' : (nI 1 < nI x - nI ru) = False := eq_false fun q => e (Int32.lt_trans (show nI 0 < nI 1 by decide) q)
        have e'' : (nI 1 ≤ nI x - nI ru) = False := eq_false fun q => e (Int32.lt_of_lt_of_le (show nI 0 < nI 1 by decide) q)
        simp (disch := omega) only [↓M1, ↓ofNat_nI, L0, L1, L2, L3, L4, L5, L6, L7, L8, L9, L10, L12, L31, L32, L40, L48, L50, L99, L100, L120, L180, L256, L500, n_lt0, n_ge0, n_let, n_lef, n_ltt, n_ltf, n_eqt, n_eqf, m_lt, m_le, m_eq, m_eq2, m_le2, m_lt2, m_nle, m_nlt, if_true, if_false, eq_self, Option.bind_some, mb0, mb1, mbb, mbn0, mbn1, not_true, not_false_eq_true, reduceIte, Bool.false_eq_true, nI_add, nI_clamp, pk_mul, in_t, in_f, in_m, zr, za, at_SZ, put_SZ, rd_at, wr_at, rd_m, wr_m, up_s2, up_o2, f10_cell_eq, zF hL.f, e', e'']
        exact fin 1 (by omega) (by omega)
theorem t63a {n : Nat} {a b c e : Int32} {I : mm_I} {J : mm_J} : f11_tradeYear_63 SZ n 167 a b c (nI 1) e I J = some (I, J) := by
  unfold f11_tradeYear_63 f11_tradeYear_73
  rw [if_neg (show ¬ nI 1 = 0 by decide)]
theorem t63b {n : Nat} {a b c : Int32} {I : mm_I} {J : mm_J} : f11_tradeYear_63 SZ n 167 a b c (nI 0) (nI 1) I J = some (I, J) := by
  unfold f11_tradeYear_63 f11_tradeYear_73
  rw [if_pos (show nI 0 = 0 from rfl), if_neg (show ¬ nI 1 = 0 by decide)]
/-- one trade of one person's year -/
theorem trade_lock (hL : isL L R F) (h : rLf T P N R F Ic Im) {n p t : Nat} (hN : N < 2 ^ 29) (hn : 9 ≤ n) (hp : p < P) (ht : t < T) (hl : Im 173 p = b01 true) : ∃ Ic' Im', (∀ (rec64 : Nat → Int32 → Int32 → Int32 → mm_I → mm_J → Option (mm_I × mm_J)) (v2 : Int32), f2_passYearOf_64_b SZ n rec64 L (nI p) v2 (nI t) Ic Jc = rec64 L (nI p) v2 (nI (t + 1)) Ic' Jc) ∧ f11_tradeYear SZ n 167 (nI p) (nI t) Im Jm = some (Im', Jm) ∧ yS F Ic Im Ic' Im' ∧ rF T P N F Ic' (vCur Im') := by
  have h' := h
  obtain ⟨a1, a2, a3, a4, a5⟩ := h
  have hT := a1.1
  have hP := a1.2.1
  have e5 := a1.2.2.1
  have eF : Ic (F + 14) p = Im 179 p := (a5.fo hp).1
  have eL : Ic (F + 10) p = Im 177 p := (a5.le hp).1
  unfold f2_passYearOf_64_b f2_passYearOf_97 f2_passYearOf_120 f2_passYearOf_134 f2_passYearOf_146 f2_passYearOf_163 f11_tradeYear f11_tradeYear_22 f11_tradeYear_39 f11_tradeYear_52
  rw [(zL hL).2.2, (zL hL).1]
  by_cases cf : Im 179 p = nI t
  · obtain ⟨I1, B1, q1, q2, q3, q4, q5⟩ := fade_lock (Jc := Jc) (Jm := Jm) hL h' hp ht hl
    by_cases cl : Im 177 p = nI t
    · obtain ⟨I2, B2, u1, u2, u3, u4⟩ := learn_lock (Jc := Jc) (Jm := Jm) hL (h'.go hL q3.1 q3.2.1 q5) hp ht (by rw [q3.2.2.2.2.1]; exact hl) (by rw [q4]; exact cl)
      refine ⟨I2, B2, fun rec64 v2 => ?_, ?_, q3.trans u3, u4⟩
      · simp (disch := omega) only [↓M1, ↓ofNat_nI, L0, L1, L2, L3, L4, L5, L6, L7, L8, L9, L10, L12, L31, L32, L40, L48, L50, L99, L100, L120, L180, L256, L500, n_lt0, n_ge0, n_let, n_lef, n_ltt, n_ltf, n_eqt, n_eqf, m_lt, m_le, m_eq, m_eq2, m_le2, m_lt2, m_nle, m_nlt, if_true, if_false, eq_self, Option.bind_some, mb0, mb1, mbb, mbn0, mbn1, not_true, not_false_eq_true, reduceIte, Bool.false_eq_true, nI_add, nI_clamp, pk_mul, in_t, in_f, in_m, zr, za, at_SZ, put_SZ, rd_at, wr_at, rd_m, wr_m, up_s2, up_o2, zF hL.f, eF, eL, cf, cl, e5, q1, u1]
      · simp (disch := omega) only [↓M1, ↓ofNat_nI, L0, L1, L2, L3, L4, L5, L6, L7, L8, L9, L10, L12, L31, L32, L40, L48, L50, L99, L100, L120, L180, L256, L500, n_lt0, n_ge0, n_let, n_lef, n_ltt, n_ltf, n_eqt, n_eqf, m_lt, m_le, m_eq, m_eq2, m_le2, m_lt2, m_nle, m_nlt, if_true, if_false, eq_self, Option.bind_some, mb0, mb1, mbb, mbn0, mbn1, not_true, not_false_eq_true, reduceIte, Bool.false_eq_true, nI_add, nI_clamp, pk_mul, in_t, in_f, in_m, zr, za, at_SZ, put_SZ, rd_at, wr_at, rd_m, wr_m, up_s2, up_o2, cf, cl, q2, u2, t63a, t63b]
    · refine ⟨I1, B1, fun rec64 v2 => ?_, ?_, q3, q5⟩
      · simp (disch := omega) only [↓M1, ↓ofNat_nI, L0, L1, L2, L3, L4, L5, L6, L7, L8, L9, L10, L12, L31, L32, L40, L48, L50, L99, L100, L120, L180, L256, L500, n_lt0, n_ge0, n_let, n_lef, n_ltt, n_ltf, n_eqt, n_eqf, m_lt, m_le, m_eq, m_eq2, m_le2, m_lt2, m_nle, m_nlt, if_true, if_false, eq_self, Option.bind_some, mb0, mb1, mbb, mbn0, mbn1, not_true, not_false_eq_true, reduceIte, Bool.false_eq_true, nI_add, nI_clamp, pk_mul, in_t, in_f, in_m, zr, za, at_SZ, put_SZ, rd_at, wr_at, rd_m, wr_m, up_s2, up_o2, zF hL.f, eF, eL, cf, eq_false cl, e5, q1]
      · simp (disch := omega) only [↓M1, ↓ofNat_nI, L0, L1, L2, L3, L4, L5, L6, L7, L8, L9, L10, L12, L31, L32, L40, L48, L50, L99, L100, L120, L180, L256, L500, n_lt0, n_ge0, n_let, n_lef, n_ltt, n_ltf, n_eqt, n_eqf, m_lt, m_le, m_eq, m_eq2, m_le2, m_lt2, m_nle, m_nlt, if_true, if_false, eq_self, Option.bind_some, mb0, mb1, mbb, mbn0, mbn1, not_true, not_false_eq_true, reduceIte, Bool.false_eq_true, nI_add, nI_clamp, pk_mul, in_t, in_f, in_m, zr, za, at_SZ, put_SZ, rd_at, wr_at, rd_m, wr_m, up_s2, up_o2, cf, eq_false cl, q2, t63a, t63b]
  · by_cases cl : Im 177 p = nI t
    · obtain ⟨I2, B2, u1, u2, u3, u4⟩ := learn_lock (Jc := Jc) (Jm := Jm) hL h' hp ht hl cl
      refine ⟨I2, B2, fun rec64 v2 => ?_, ?_, u3, u4⟩
      · simp (disch := omega) only [↓M1, ↓ofNat_nI, L0, L1, L2, L3, L4, L5, L6, L7, L8, L9, L10, L12, L31, L32, L40, L48, L50, L99, L100, L120, L180, L256, L500, n_lt0, n_ge0, n_let, n_lef, n_ltt, n_ltf, n_eqt, n_eqf, m_lt, m_le, m_eq, m_eq2, m_le2, m_lt2, m_nle, m_nlt, if_true, if_false, eq_self, Option.bind_some, mb0, mb1, mbb, mbn0, mbn1, not_true, not_false_eq_true, reduceIte, Bool.false_eq_true, nI_add, nI_clamp, pk_mul, in_t, in_f, in_m, zr, za, at_SZ, put_SZ, rd_at, wr_at, rd_m, wr_m, up_s2, up_o2, zF hL.f, eF, eL, eq_false cf, cl, e5, u1]
      · simp (disch := omega) only [↓M1, ↓ofNat_nI, L0, L1, L2, L3, L4, L5, L6, L7, L8, L9, L10, L12, L31, L32, L40, L48, L50, L99, L100, L120, L180, L256, L500, n_lt0, n_ge0, n_let, n_lef, n_ltt, n_ltf, n_eqt, n_eqf, m_lt, m_le, m_eq, m_eq2, m_le2, m_lt2, m_nle, m_nlt, if_true, if_false, eq_self, Option.bind_some, mb0, mb1, mbb, mbn0, mbn1, not_true, not_false_eq_true, reduceIte, Bool.false_eq_true, nI_add, nI_clamp, pk_mul, in_t, in_f, in_m, zr, za, at_SZ, put_SZ, rd_at, wr_at, rd_m, wr_m, up_s2, up_o2, eq_false cf, cl, u2, t63a, t63b]
    · obtain ⟨I2, B2, u1, u2, u3, u4⟩ := aside_lock (Jc := Jc) (Jm := Jm) hL h' hN hn hp ht hl
      refine ⟨I2, B2, fun rec64 v2 => ?_, ?_, u3, u4⟩
      · simp (disch := omega) only [↓M1, ↓ofNat_nI, L0, L1, L2, L3, L4, L5, L6, L7, L8, L9, L10, L12, L31, L32, L40, L48, L50, L99, L100, L120, L180, L256, L500, n_lt0, n_ge0, n_let, n_lef, n_ltt, n_ltf, n_eqt, n_eqf, m_lt, m_le, m_eq, m_eq2, m_le2, m_lt2, m_nle, m_nlt, if_true, if_false, eq_self, Option.bind_some, mb0, mb1, mbb, mbn0, mbn1, not_true, not_false_eq_true, reduceIte, Bool.false_eq_true, nI_add, nI_clamp, pk_mul, in_t, in_f, in_m, zr, za, at_SZ, put_SZ, rd_at, wr_at, rd_m, wr_m, up_s2, up_o2, zF hL.f, eF, eL, eq_false cf, eq_false cl, e5, u1]
      · simp (disch := omega) only [↓M1, ↓ofNat_nI, L0, L1, L2, L3, L4, L5, L6, L7, L8, L9, L10, L12, L31, L32, L40, L48, L50, L99, L100, L120, L180, L256, L500, n_lt0, n_ge0, n_let, n_lef, n_ltt, n_ltf, n_eqt, n_eqf, m_lt, m_le, m_eq, m_eq2, m_le2, m_lt2, m_nle, m_nlt, if_true, if_false, eq_self, Option.bind_some, mb0, mb1, mbb, mbn0, mbn1, not_true, not_false_eq_true, reduceIte, Bool.false_eq_true, nI_add, nI_clamp, pk_mul, in_t, in_f, in_m, zr, za, at_SZ, put_SZ, rd_at, wr_at, rd_m, wr_m, up_s2, up_o2, eq_false cf, eq_false cl]
        exact u2
end YR
