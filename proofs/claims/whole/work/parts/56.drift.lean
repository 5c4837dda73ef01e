/-! ===== part 56: births, drawn years; drift (written by wip/whole/pre.py) ===== -/
section BR
variable {T P N L R F : Nat} {Ic Im : mm_I} {Jc Jm : mm_J}
theorem best_no {s : Nat → Int32} {t : Nat} (h : nI 0 < s t) : ∀ T : Nat, T ≤ 100 → t < T → bestS s T = m1 → False
  | 0, _, ht, _ => absurd ht (Nat.not_lt_zero t)
  | T + 1, hT, ht, w => by
    by_cases c : nI 0 < s T
    · rcases bestS_cases s T with e | ⟨b, b1, b2, b3⟩
      · rw [bestS_new c e] at w
        exact n_m1 (by omega) w
      · by_cases u : s b < s T
        · rw [bestS_up (by omega) c b2 u] at w
          exact n_m1 (by omega) w
        · rw [bestS_stay (by omega) b2 u] at w
          exact n_m1 (by omega) w
    · rw [bestS_no c] at w
      refine best_no h T (by omega) ?_ w
      rcases Nat.lt_or_ge t T with q | q
      · exact q
      · have : t = T := by omega
        subst this
        exact absurd h c
theorem best_one {s : Nat → Int32} {T t : Nat} (hT : T ≤ 100) (ht : t < T) (h : nI 0 < s t) (h0 : ∀ k, k < T → k ≠ t → s k = nI 0) : bestS s T = nI t := by
  rcases bestS_cases s T with w | ⟨b, w1, w2, w3⟩
  · exfalso
    exact best_no h T hT ht w
  · by_cases e : b = t
    · rw [w2, e]
    · rw [h0 b w1 e] at w3
      exact absurd w3 (by decide)
/-- a birth -/
theorem birth_lock (hL : isL L R F) (h : rLs T P N R F Ic Im) {n p : Nat} (hn : 9 ≤ n) (hp : p < P) (hT0 : 0 < T) (hl : Im 173 p = nI 0) : ∃ Ic' Im', f2_bearChild SZ L (nI p) Ic Jc = some (Ic', Jc) ∧ (∀ rec90 w, f11_has SZ w (nI p) Im Jm = some 1 → f11_drawYear_90_b SZ n rec90 167 w (nI p) Im Jm = rec90 167 w (nI (p + 1)) Im' Jm) ∧ fF F Ic Ic' ∧ fV Im Im' ∧ rLs T P N R F Ic' Im' ∧ ∀ q, q ≠ p → Im' 173 q = Im 173 q := by
  have hT := h.1.1.1
  have hP := h.1.1.2.1
  have hr := hL.r
  have e5 := h.1.1.2.2.1
  have e0 := h.1.1.2.2.2.1
  have e2 := h.1.1.2.2.2.2.2
  have a5 := h.1.2.2.2.2
  obtain ⟨Lv, l1, l2, l3, l4, l5⟩ := a5.l
  have hLv : Lv p = false := by
    have := l2 p (by omega)
    rw [hl] at this
    cases c : Lv p
    · rfl
    · rw [c] at this
      exact absurd this (by decide)
  obtain ⟨k0, k4, -, -⟩ := l4 p hp hLv
  -- born
  have r1 : rF T P N F (mm_up Ic F 8 (Ic F 8 ||| (nI 1 <<< (nI p &&& nI 31)))) (vCur (mm_up Im 173 p (nI 1))) := (a5.born hp hP).e (vCur_up (j := 3) (by omega))
  have r2 : rF T P N F (mm_up (mm_up Ic F 8 (Ic F 8 ||| (nI 1 <<< (nI p &&& nI 31)))) (F + 2) p (nI 0)) (vCur (mm_up (mm_up Im 173 p (nI 1)) 172 p (nI 0))) := (r1.age (x := nI 0) hp).e (vCur_up (j := 2) (by omega))
  have r3 : rF T P N F (mm_up (mm_up (mm_up Ic F 8 (Ic F 8 ||| (nI 1 <<< (nI p &&& nI 31)))) (F + 2) p (nI 0)) (F + 16) p (nI 0)) (vCur (mm_up (mm_up (mm_up Im 173 p (nI 1)) 172 p (nI 0)) 180 p (nI 0))) := (r2.ern (x := nI 0) hp).e (vCur_up (j := 8) (by omega))
  obtain ⟨g0, s, s0, s1, s2⟩ := h
  obtain ⟨g, t, g1, ht, dC, dM⟩ := draws (s := s) (m := T) s0 hT0 (by omega)
  -- after the draw
  have C1 : ∃ I1, I1 = mm_up (mm_up (mm_up (mm_up Ic F 8 (Ic F 8 ||| (nI 1 <<< (nI p &&& nI 31)))) (F + 2) p (nI 0)) (F + 16) p (nI 0)) F 12 (nI g) := ⟨_, rfl⟩
  obtain ⟨I1, hI1⟩ := C1
  have D1 : ∃ B1, B1 = mm_up (mm_up (mm_up (mm_up Im 173 p (nI 1)) 172 p (nI 0)) 180 p (nI 0)) 167 24 (nI g) := ⟨_, rfl⟩
  obtain ⟨B1, hB1⟩ := D1
  have r4 : rF T P N F I1 (vCur B1) := by
    rw [hI1, hB1, vCur_c (Im := mm_up (mm_up (mm_up Im 173 p (nI 1)) 172 p (nI 0)) 180 p (nI 0)) (fun r h1 h2 => mm_up_o (by omega)) (up_o2 (by omega))]
    exact r3.seed
  have f1 : fF F Ic I1 := by
    rw [hI1]
    exact (fF.up (by omega)).trans ((fF.up (by omega)).trans ((fF.up (by omega)).trans (fF.up (by omega))))
  have f2 : fV Im B1 := by
    rw [hB1]
    exact (fV.up (by omega)).trans ((fV.up (by omega)).trans ((fV.up (by omega)).trans (fV.up7 (by omega))))
  have i12 : I1 F 12 = nI g := by rw [hI1, up_s2]
  have b24 : B1 167 24 = nI g := by rw [hB1, up_s2]
  have blv : B1 173 p = b01 true := by
    rw [hB1, up_o2 (by omega), up_o2 (by omega), up_o2 (by omega), up_s2]; rfl
  have bq : ∀ q, q ≠ p → B1 173 q = Im 173 q := fun q hq => by
    rw [hB1, up_o2 (by omega), up_o2 (by omega), up_o2 (by omega), up_o2 (by omega)]
  have b174 : ∀ k, B1 174 k = Im 174 k := fun k => by
    rw [hB1, up_o2 (by omega), up_o2 (by omega), up_o2 (by omega), up_o2 (by omega)]
  have b176 : B1 176 p = m1 := by
    rw [hB1, up_o2 (by omega), up_o2 (by omega), up_o2 (by omega), up_o2 (by omega)]; exact k4
  have b0 : B1 167 0 = nI T := by rw [f2.2 0 (by omega) (by omega)]; exact e0
  obtain ⟨kd, hkd, kd1, kd2⟩ := (g0.2.1 t ht).1
  have i6 : I1 6 t = nI kd := by rw [f1 6 (by omega)]; exact kd1
  have b168 : B1 168 (4 * t) = nI kd := by rw [f2.1 168 (by omega) (by omega)]; exact kd2
  -- the class
  have cC : f2_bearChild SZ L (nI p) Ic Jc = (f0_isForbidden SZ 4 (nI t) I1 Jc).bind fun o4 => if o4 = 0 then ((f1_setSkill SZ F (nI p) (nI t) 50 I1 Jc).bind fun o6 => (f6_put SZ (F + 7) (nI p) (nI t) o6.1 o6.2).bind fun o7 => f2_bearChild_88 SZ o7.1 o7.2) else f2_bearChild_88 SZ I1 Jc := by
    unfold f2_bearChild
    rw [(zL hL).1, (zL hL).2.2, (zF hL.f).1.1, (zF hL.f).1.2.2.2.2.2.2.2, (zF hL.f).1.2.2.2.1, show f6_put SZ (F + 1) (nI p) 0 (mm_up Ic F 8 (Ic F 8 ||| (1 : Int32) <<< (nI p &&& 31))) Jc = some (mm_up (mm_up Ic F 8 (Ic F 8 ||| (nI 1 <<< (nI p &&& nI 31)))) (F + 2) p (nI 0), Jc) from by simp (disch := omega) only [↓M1, ↓ofNat_nI, L0, L1, L2, L3, L4, L5, L6, L7, L8, L9, L10, L12, L31, L32, L40, L48, L50, L99, L100, L120, L180, L256, L500, n_lt0, n_ge0, n_let, n_lef, n_ltt, n_ltf, n_eqt, n_eqf, m_lt, m_le, m_eq, m_eq2, m_le2, m_lt2, m_nle, m_nlt, if_true, if_false, eq_self, Option.bind_some, mb0, mb1, mbb, mbn0, mbn1, not_true, not_false_eq_true, reduceIte, Bool.false_eq_true, nI_add, nI_clamp, pk_mul, in_t, in_f, in_m, zr, za, at_SZ, put_SZ, rd_at, wr_at, rd_m, wr_m, zF hL.f], Option.bind_some]
    dsimp only
    rw [show ∀ I, f6_put SZ (F + 15) (nI p) 0 I Jc = some (mm_up I (F + 16) p (nI 0), Jc) from fun I => by simp (disch := omega) only [↓M1, ↓ofNat_nI, L0, L1, L2, L3, L4, L5, L6, L7, L8, L9, L10, L12, L31, L32, L40, L48, L50, L99, L100, L120, L180, L256, L500, n_lt0, n_ge0, n_let, n_lef, n_ltt, n_ltf, n_eqt, n_eqf, m_lt, m_le, m_eq, m_eq2, m_le2, m_lt2, m_nle, m_nlt, if_true, if_false, eq_self, Option.bind_some, mb0, mb1, mbb, mbn0, mbn1, not_true, not_false_eq_true, reduceIte, Bool.false_eq_true, nI_add, nI_clamp, pk_mul, in_t, in_f, in_m, zr, za, at_SZ, put_SZ, rd_at, wr_at, rd_m, wr_m, zF hL.f], Option.bind_some]
    dsimp only
    rw [up_o2 (a := 4) (by omega), up_o2 (a := 4) (by omega), up_o2 (a := 4) (by omega), e5, dC F _ Jc (by rw [up_o2 (by omega), up_o2 (by omega), up_o2 (by omega)]; exact s1), Option.bind_some, hI1]
  have cF : f0_isForbidden SZ 4 (nI t) I1 Jc = some (if kd = 3 then 1 else 0) := by
    unfold f0_isForbidden f0_isForbidden_17
    simp only [zr]
    have e : f6_at SZ 5 (nI t) I1 Jc = some (nI kd) := by simp (disch := omega) only [↓M1, ↓ofNat_nI, L0, L1, L2, L3, L4, L5, L6, L7, L8, L9, L10, L12, L31, L32, L40, L48, L50, L99, L100, L120, L180, L256, L500, n_lt0, n_ge0, n_let, n_lef, n_ltt, n_ltf, n_eqt, n_eqf, m_lt, m_le, m_eq, m_eq2, m_le2, m_lt2, m_nle, m_nlt, if_true, if_false, eq_self, Option.bind_some, mb0, mb1, mbb, mbn0, mbn1, not_true, not_false_eq_true, reduceIte, Bool.false_eq_true, nI_add, nI_clamp, pk_mul, in_t, in_f, in_m, zr, za, at_SZ, put_SZ, rd_at, wr_at, rd_m, wr_m, i6]
    rw [e, Option.bind_some]
    by_cases c : kd = 3
    · rw [if_pos c, if_pos (by rw [c]; rfl)]; rfl
    · rw [if_neg c, if_neg (show ¬ nI kd = (3 : Int32) from fun w => c ((nI_eq (a := kd) (b := 3) (by omega) (by omega)).mp w))]; rfl
  -- the reference
  have mS : ∀ (x : Nat) (b : Int32), x ≤ 50 → f11_bestOf SZ n 167 (nI p) (mm_up B1 174 (6 * p + t) (nI x)) Jm = some b → ∀ rec90 w, f11_drawYear_167 SZ n rec90 167 w (nI p) 174 (nI (6 * p + t)) (nI x) B1 Jm = rec90 167 w (nI (p + 1)) (mm_up (mm_up B1 174 (6 * p + t) (nI x)) 176 p b) Jm := by
    intro x b hx hb rec90 w
    unfold f11_drawYear_167 f11_drawYear_179
    simp (disch := omega) only [↓M1, ↓ofNat_nI, L0, L1, L2, L3, L4, L5, L6, L7, L8, L9, L10, L12, L31, L32, L40, L48, L50, L99, L100, L120, L180, L256, L500, n_lt0, n_ge0, n_let, n_lef, n_ltt, n_ltf, n_eqt, n_eqf, m_lt, m_le, m_eq, m_eq2, m_le2, m_lt2, m_nle, m_nlt, if_true, if_false, eq_self, Option.bind_some, mb0, mb1, mbb, mbn0, mbn1, not_true, not_false_eq_true, reduceIte, Bool.false_eq_true, nI_add, nI_clamp, pk_mul, in_t, in_f, in_m, zr, za, at_SZ, put_SZ, rd_at, wr_at, rd_m, wr_m, hb]
  have mM : ∀ rec90 w, f11_has SZ w (nI p) Im Jm = some 1 → f11_drawYear_90_b SZ n rec90 167 w (nI p) Im Jm = if kd = 3 then f11_drawYear_167 SZ n rec90 167 w (nI p) 174 (nI (6 * p + t)) (nI 0) B1 Jm else f11_drawYear_167 SZ n rec90 167 w (nI p) 174 (nI (6 * p + t)) (nI 50) B1 Jm := by
    intro rec90 w hw
    unfold f11_drawYear_90_b
    rw [e2, if_neg (nI_ge hp (by omega)), hw, Option.bind_some, if_neg n10, e0, dM Im Jm s2, Option.bind_some]
    dsimp only
    have hB1' : mm_up (mm_up (mm_up (mm_up Im 167 24 (nI g)) 173 p (nI 1)) 172 p (nI 0)) 180 p (nI 0) = B1 := by
      rw [mm_up_comm (r := 167) (a := 173) (by omega), mm_up_comm (r := 167) (a := 172) (by omega), mm_up_comm (r := 167) (a := 180) (by omega), hB1]
    simp (disch := omega) only [↓M1, ↓ofNat_nI, L0, L1, L2, L3, L4, L5, L6, L7, L8, L9, L10, L12, L31, L32, L40, L48, L50, L99, L100, L120, L180, L256, L500, n_lt0, n_ge0, n_let, n_lef, n_ltt, n_ltf, n_eqt, n_eqf, m_lt, m_le, m_eq, m_eq2, m_le2, m_lt2, m_nle, m_nlt, if_true, if_false, eq_self, Option.bind_some, mb0, mb1, mbb, mbn0, mbn1, not_true, not_false_eq_true, reduceIte, Bool.false_eq_true, nI_add, nI_clamp, pk_mul, in_t, in_f, in_m, zr, za, at_SZ, put_SZ, rd_at, wr_at, rd_m, wr_m, hB1', b168]
    rw [ite_eq (by omega) (by omega)]
  by_cases c : kd = 3
  · have z : B1 174 (6 * p + t) = nI 0 := by rw [b174]; exact k0 t (by omega)
    have zs : mm_up B1 174 (6 * p + t) (nI 0) = B1 := by
      rw [← z]; exact mm_up_self
    have eb : f11_bestOf SZ n 167 (nI p) (mm_up B1 174 (6 * p + t) (nI 0)) Jm = some m1 := by
      rw [zs, mbest_eq (T := T) (by omega) hT (by omega) b0]
      refine congrArg some ?_
      rcases bestS_cases (fun t => B1 174 (6 * p + t)) T with w | ⟨b, w1, -, w3⟩
      · exact w
      · have w3 : nI 0 < B1 174 (6 * p + b) := w3
        rw [b174, k0 b (by omega)] at w3
        exact absurd w3 (by decide)
    have ps : mm_up B1 176 p m1 = B1 := by
      rw [← b176]; exact mm_up_self
    refine ⟨I1, B1, ?_, fun rec90 w hw => ?_, f1, f2, ⟨g0.go hL f1 f2 r4, g, g1, i12, b24⟩, bq⟩
    · rw [cC, cF, if_pos c, Option.bind_some, if_neg n10]
      rfl
    · rw [mM rec90 w hw, if_pos c, mS 0 m1 (by omega) eb, zs, ps]
  · have eb : f11_bestOf SZ n 167 (nI p) (mm_up B1 174 (6 * p + t) (nI 50)) Jm = some (nI t) := by
      rw [mbest_eq (T := T) (by omega) hT (by omega) (by rw [up_o2 (by omega)]; exact b0)]
      refine congrArg some (best_one (by omega) ht ?_ fun k hk he => ?_)
      · show nI 0 < mm_up B1 174 (6 * p + t) (nI 50) 174 (6 * p + t)
        rw [up_s2]; decide
      · show mm_up B1 174 (6 * p + t) (nI 50) 174 (6 * p + k) = nI 0
        rw [up_o2 (by omega), b174]
        exact k0 k (by omega)
    have q1 : rF T P N F (mm_up I1 (F + 4) (6 * p + t) (nI 50)) (vCur (mm_up B1 174 (6 * p + t) (nI 50))) := (r4.sk (s := 50) hp ht (by omega) blv (fun e => absurd e (by omega)) hP hT).e (vCur_up (j := 0) (by omega))
    have q2 : rF T P N F (mm_up (mm_up I1 (F + 4) (6 * p + t) (nI 50)) (F + 8) p (nI t)) (vCur (mm_up (mm_up B1 174 (6 * p + t) (nI 50)) 176 p (nI t))) := (q1.prac (x := nI t) hp (Or.inr ⟨t, ht, rfl⟩) (Or.inr (by
      show mm_up B1 174 (6 * p + t) (nI 50) 173 p = b01 true
      rw [up_o2 (by omega)]; exact blv)) hP).e (vCur_up (j := 4) (by omega))
    have f3 := f1.trans ((fF.up (F := F) (r := F + 4) (k := 6 * p + t) (x := nI 50) (by omega)).trans (fF.up (r := F + 8) (k := p) (x := nI t) (by omega)))
    have f4 := f2.trans ((fV.up (r := 174) (k := 6 * p + t) (x := nI 50) (by omega)).trans (fV.up (r := 176) (k := p) (x := nI t) (by omega)))
    refine ⟨_, _, ?_, fun rec90 w hw => ?_, f3, f4, ⟨g0.go hL f3 f4 q2, g, g1, ?_, ?_⟩, fun q hq => ?_⟩
    · rw [cC, cF, if_neg c, Option.bind_some, if_pos rfl, show f1_setSkill SZ F (nI p) (nI t) 50 I1 Jc = some (mm_up I1 (F + 4) (6 * p + t) (nI 50), Jc) from by
        unfold f1_setSkill
        simp (disch := omega) only [↓M1, ↓ofNat_nI, L0, L1, L2, L3, L4, L5, L6, L7, L8, L9, L10, L12, L31, L32, L40, L48, L50, L99, L100, L120, L180, L256, L500, n_lt0, n_ge0, n_let, n_lef, n_ltt, n_ltf, n_eqt, n_eqf, m_lt, m_le, m_eq, m_eq2, m_le2, m_lt2, m_nle, m_nlt, if_true, if_false, eq_self, Option.bind_some, mb0, mb1, mbb, mbn0, mbn1, not_true, not_false_eq_true, reduceIte, Bool.false_eq_true, nI_add, nI_clamp, pk_mul, in_t, in_f, in_m, zr, za, at_SZ, put_SZ, rd_at, wr_at, rd_m, wr_m, f10_cell_eq, zF hL.f], Option.bind_some]
      dsimp only
      rw [show ∀ I, f6_put SZ (F + 7) (nI p) (nI t) I Jc = some (mm_up I (F + 8) p (nI t), Jc) from fun I => by simp (disch := omega) only [↓M1, ↓ofNat_nI, L0, L1, L2, L3, L4, L5, L6, L7, L8, L9, L10, L12, L31, L32, L40, L48, L50, L99, L100, L120, L180, L256, L500, n_lt0, n_ge0, n_let, n_lef, n_ltt, n_ltf, n_eqt, n_eqf, m_lt, m_le, m_eq, m_eq2, m_le2, m_lt2, m_nle, m_nlt, if_true, if_false, eq_self, Option.bind_some, mb0, mb1, mbb, mbn0, mbn1, not_true, not_false_eq_true, reduceIte, Bool.false_eq_true, nI_add, nI_clamp, pk_mul, in_t, in_f, in_m, zr, za, at_SZ, put_SZ, rd_at, wr_at, rd_m, wr_m, zF hL.f], Option.bind_some]
      rfl
    · rw [mM rec90 w hw, if_neg c, mS 50 (nI t) (by omega) eb]
    · rw [up_o2 (by omega), up_o2 (by omega), i12]
    · rw [up_o2 (by omega), up_o2 (by omega), b24]
    · rw [up_o2 (by omega), up_o2 (by omega), bq q hq]
theorem births_loop (hL : isL L R F) {n : Nat} (hn : 9 ≤ n) (hT0 : 0 < T) (D : Nat → Bool) : ∀ (d k : Nat) (Ic Im : mm_I), k ≤ P → P < k + d → rLs T P N R F Ic Im → (∀ q, k ≤ q → q < P → D q = true → Im 173 q = nI 0) → ∃ Ic' Im', f2_bearChildren_2 SZ n d L (bsI D 8) (nI k) Ic Jc = some (Ic', Jc) ∧ f11_drawYear_90 SZ n d 167 (bsI D 8) (nI k) Im Jm = some (Im', Jm) ∧ fF F Ic Ic' ∧ fV Im Im' ∧ rLs T P N R F Ic' Im' := by
  intro d
  induction d with
  | zero => intro k Ic Im h1 h2; omega
  | succ d ih =>
    intro k Ic Im h1 h2 h hD
    have hP := h.1.1.2.1
    have e6 := h.1.1.2.2.2.2.1
    have e2 := h.1.1.2.2.2.2.2
    have cS : f2_bearChildren_2 SZ n (d + 1) L (bsI D 8) (nI k) Ic Jc = f2_bearChildren_2_b SZ n (f2_bearChildren_2 SZ n d) L (bsI D 8) (nI k) Ic Jc := rfl
    have mS : f11_drawYear_90 SZ n (d + 1) 167 (bsI D 8) (nI k) Im Jm = f11_drawYear_90_b SZ n (f11_drawYear_90 SZ n d) 167 (bsI D 8) (nI k) Im Jm := rfl
    rw [cS, mS]
    by_cases c : k = P
    · subst c
      unfold f2_bearChildren_2_b f11_drawYear_90_b
      rw [(zL hL).1, e6, e2, if_pos (nI_le (Nat.le_refl k) (by omega)), if_pos (nI_le (Nat.le_refl k) (by omega))]
      exact ⟨Ic, Im, rfl, rfl, fF.refl, fV.refl, h⟩
    · have hk : k < P := by omega
      have cc : f2_bearChildren_2_b SZ n (f2_bearChildren_2 SZ n d) L (bsI D 8) (nI k) Ic Jc = if b01 (D k) = 0 then f2_bearChildren_2 SZ n d L (bsI D 8) (nI (k + 1)) Ic Jc else ((f2_bearChild SZ L (nI k) Ic Jc).bind fun o4 => f2_bearChildren_2 SZ n d L (bsI D 8) (nI (k + 1)) o4.1 o4.2) := by
        unfold f2_bearChildren_2_b f2_bearChildren_26
        rw [(zL hL).1, e6, if_neg (nI_ge hk (by omega)), has_eq (by omega), Option.bind_some, nI_1]
      rw [cc]
      cases hd : D k
      · obtain ⟨I2, B2, u1, u2, u3⟩ := ih (k + 1) Ic Im (by omega) (by omega) h (fun q h1 h2 h3 => hD q (by omega) h2 h3)
        refine ⟨I2, B2, ?_, ?_, u3⟩
        · rw [if_pos (show b01 false = 0 by decide)]
          exact u1
        · unfold f11_drawYear_90_b f11_drawYear_179
          rw [e2, if_neg (nI_ge hk (by omega)), mhas_eq (by omega), hd, Option.bind_some, if_pos (show b01 false = 0 by decide), nI_1]
          exact u2
      · obtain ⟨I1, B1, p1, p2, p3, p4, p5, p6⟩ := birth_lock (Jc := Jc) (Jm := Jm) hL h hn hk hT0 (hD k (Nat.le_refl k) hk hd)
        obtain ⟨I2, B2, u1, u2, u3, u4, u5⟩ := ih (k + 1) I1 B1 (by omega) (by omega) p5 (fun q h1 h2 h3 => by rw [p6 q (by omega)]; exact hD q (by omega) h2 h3)
        refine ⟨I2, B2, ?_, ?_, p3.trans u3, p4.trans u4, u5⟩
        · rw [if_neg (show ¬ b01 true = 0 by decide), p1, Option.bind_some]
          exact u1
        · rw [p2 _ _ (by rw [mhas_eq (by omega), hd]; rfl)]
          exact u2
theorem dpeople_loop (hL : isL L R F) {n v : Nat} (hn : 9 ≤ n) (hT0 : 0 < T) (hv : v ≤ 100) : ∀ (d k : Nat) (Ic Im : mm_I), k ≤ P → P < k + d → rLs T P N R F Ic Im → ∃ Ic' Im' d', (∀ rec2 v1 v3, f2_passDrawnYears_10 SZ n rec2 d L v1 (nI v) v3 (nI k) Ic Jc = f2_passDrawnYears_10 SZ n rec2 (d' + 1) L v1 (nI v) v3 (nI P) Ic' Jc) ∧ f11_drawYear_2 SZ n d 167 (nI v) (nI k) Im Jm = f11_drawYear_2 SZ n (d' + 1) 167 (nI v) (nI P) Im' Jm ∧ fF F Ic Ic' ∧ fV Im Im' ∧ rLs T P N R F Ic' Im' := by
  intro d
  induction d with
  | zero => intro k Ic Im h1 h2; omega
  | succ d ih =>
    intro k Ic Im h1 h2 h
    by_cases c : k = P
    · subst c
      exact ⟨Ic, Im, d, fun _ _ _ => rfl, rfl, fF.refl, fV.refl, h⟩
    · obtain ⟨I1, B1, q1, q2, q3, q4, q5⟩ := dstep_lock (Jc := Jc) (Jm := Jm) hL h hn (show k < P by omega) hT0 hv
      obtain ⟨I2, B2, d', u1, u2, u3, u4, u5⟩ := ih (k + 1) I1 B1 (by omega) (by omega) q5
      refine ⟨I2, B2, d', fun rec2 v1 v3 => ?_, ?_, q3.trans u3, q4.trans u4, u5⟩
      · rw [← u1]
        exact q1 rec2 _ v1 v3
      · rw [← u2]
        exact q2 _
theorem dyear_lock (hL : isL L R F) (h : rLs T P N R F Ic Im) {n v : Nat} (hN : N < 2 ^ 29) (hn : 9 ≤ n) (hT0 : 0 < T) (hv : v ≤ 100) : ∃ Ic' Im', (∀ rec2 v1 k, f2_passDrawnYears_10 SZ n rec2 n L v1 (nI v) (nI k) (nI 0) Ic Jc = rec2 L v1 (nI v) (nI (k + 1)) Ic' Jc) ∧ f11_drawYear SZ n 167 (nI v) Im Jm = some (Im', Jm) ∧ fF F Ic Ic' ∧ fV Im Im' ∧ rLs T P (N + 1) R F Ic' Im' := by
  have hP := h.1.1.2.1
  obtain ⟨I1, B1, d', q1, q2, q3, q4, q5⟩ := dpeople_loop (Jc := Jc) (Jm := Jm) hL hn hT0 hv n 0 Ic Im (Nat.zero_le P) (by omega) h
  obtain ⟨I2, B2, y1, y2, y3, y4, y5, y6, y7⟩ := year_lock (Jc := Jc) (Jm := Jm) hL q5.1 (n := n) hN hn
  have q7 := q5.go hL y3 y4 y7 y5 y6
  obtain ⟨Lv, l1, l2, l3, l4, l5⟩ := q5.1.2.2.2.2.l
  obtain ⟨Lw, n1, n2, n3, n4, n5⟩ := y7.l
  have eD : ∀ k, k < 8 → Dd B1 B2 k = (Lv k && !Lw k) := fun k hk => by
    unfold Dd
    rw [l2 k hk, n2 k hk, b01_n, b01_n, Bool.not_not]
  have ew : I1 F 8 &&& (I2 F 8 ^^^ m1) = bsI (fun q => decide (q < P) && Dd B1 B2 q) 8 := by
    rw [l5, n5, bsI_andn Lv Lw 8 (by omega)]
    refine bsI_congr fun k hk => ?_
    show (Lv k && !(decide (k < 8) && Lw k)) = (decide (k < P) && Dd B1 B2 k)
    rw [eD k hk, decide_eq_true hk, Bool.true_and]
    by_cases c : k < P
    · rw [decide_eq_true c, Bool.true_and]
    · rw [decide_eq_false c, l3 k (by omega)]
      rfl
  obtain ⟨I3, B3, w1, w2, w3, w4, w5⟩ := births_loop (Jc := Jc) (Jm := Jm) (n := n) hL hn hT0 (fun q => decide (q < P) && Dd B1 B2 q) n 0 I2 B2 (Nat.zero_le P) (by omega) q7 (fun q h1 h2 h3 => by
    have h3 : (decide (q < P) && (!decide (B1 173 q = nI 0) && decide (B2 173 q = nI 0))) = true := h3
    rw [Bool.and_eq_true, Bool.and_eq_true] at h3
    exact of_decide_eq_true h3.2.2)
  refine ⟨I3, B3, fun rec2 v1 k => ?_, ?_, q3.trans (y3.trans w3), q4.trans (y4.trans w4), w5⟩
  · rw [q1]
    show f2_passDrawnYears_10_b SZ n rec2 _ L v1 (nI v) (nI k) (nI P) I1 Jc = _
    unfold f2_passDrawnYears_10_b f2_bearChildren
    rw [(zL hL).1, (zL hL).2.2, q5.1.1.2.2.2.2.1, if_pos (nI_le (Nat.le_refl P) (by omega)), y1, Option.bind_some]
    dsimp only
    rw [show I1 F 8 &&& (I2 F 8 ^^^ -1) = _ from ew, show f2_bearChildren_2 SZ n n L (bsI (fun q => decide (q < P) && Dd B1 B2 q) 8) 0 I2 Jc = _ from w1, Option.bind_some, nI_1]
  · unfold f11_drawYear
    rw [show f11_drawYear_2 SZ n n 167 (nI v) 0 Im Jm = _ from q2]
    show f11_drawYear_2_b SZ n _ 167 (nI v) (nI P) B1 Jm = _
    unfold f11_drawYear_2_b
    rw [q5.1.1.2.2.2.2.2, if_pos (nI_le (Nat.le_refl P) (by omega)), y2, Option.bind_some, bsI_wid hP]
    exact w2
theorem dyears_loop (hL : isL L R F) {n m v : Nat} (hn : 9 ≤ n) (hm : m < 2 ^ 20) (hT0 : 0 < T) (hv : v ≤ 100) : ∀ (d k N : Nat) (Ic Im : mm_I), k ≤ m → m < k + d → N + (m - k) < 2 ^ 29 → rLs T P N R F Ic Im → ∃ Ic' Im' d', f2_passDrawnYears_2 SZ n d L (nI m) (nI v) (nI k) Ic Jc = some (Ic', Jc) ∧ f11_drift_23 SZ n d 167 (nI m) (nI v) (nI k) Im Jm = f11_drift_23 SZ n (d' + 1) 167 (nI m) (nI v) (nI m) Im' Jm ∧ (∀ w, f11_compared_52 SZ n d 167 (nI m) (nI v) w (nI k) Im Jm = f11_compared_52 SZ n (d' + 1) 167 (nI m) (nI v) w (nI m) Im' Jm) ∧ fF F Ic Ic' ∧ fV Im Im' ∧ rLs T P (N + (m - k)) R F Ic' Im' := by
  intro d
  induction d with
  | zero => intro k N Ic Im h1 h2; omega
  | succ d ih =>
    intro k N Ic Im h1 h2 h3 h
    have cS : f2_passDrawnYears_2 SZ n (d + 1) L (nI m) (nI v) (nI k) Ic Jc = f2_passDrawnYears_2_b SZ n (f2_passDrawnYears_2 SZ n d) L (nI m) (nI v) (nI k) Ic Jc := rfl
    rw [cS]
    unfold f2_passDrawnYears_2_b
    by_cases c : k = m
    · subst c
      rw [if_pos (nI_le (Nat.le_refl k) (by omega)), Nat.sub_self]
      exact ⟨Ic, Im, d, rfl, rfl, fun _ => rfl, fF.refl, fV.refl, h⟩
    · have hk : k < m := by omega
      obtain ⟨I1, B1, q1, q2, q3, q4, q5⟩ := dyear_lock (Jc := Jc) (Jm := Jm) hL h (n := n) (by omega) hn hT0 hv
      obtain ⟨I2, B2, d', u1, u2, u3, u4, u5, u6⟩ := ih (k + 1) (N + 1) I1 B1 (by omega) (by omega) (by omega) q5
      rw [show N + 1 + (m - (k + 1)) = N + (m - k) by omega] at u6
      refine ⟨I2, B2, d', ?_, ?_, fun w => ?_, q3.trans u4, q4.trans u5, u6⟩
      · rw [if_neg (nI_ge hk (by omega)), ← u1]
        exact q1 _ _ _
      · rw [← u2]
        show f11_drift_23_b SZ n (f11_drift_23 SZ n d) 167 (nI m) (nI v) (nI k) Im Jm = _
        unfold f11_drift_23_b
        rw [if_neg (nI_ge hk (by omega)), q2, Option.bind_some, nI_1]
      · rw [← u3]
        show f11_compared_52_b SZ n (f11_compared_52 SZ n d) 167 (nI m) (nI v) w (nI k) Im Jm = _
        unfold f11_compared_52_b
        rw [if_neg (nI_ge hk (by omega)), q2, Option.bind_some, nI_1]
end BR
theorem isD {a b : Int32} {I : mm_I} {J : mm_J} : f11_isDrift SZ a b I J = some (b01 ((decide (nI 1 ≤ a) && decide (a ≤ nI 90)) && (decide (nI 0 ≤ b) && decide (b ≤ nI 100)))) := by
  unfold f11_isDrift f11_isDrift_28 f11_isDrift_29
  rw [show f11_in SZ a.toInt64 1 90 I J = _ from mWi (lo := 1) (hi := 90) (by decide) (by decide), show f11_in SZ b.toInt64 0 100 I J = _ from mWi (lo := 0) (hi := 100) (by decide) (by decide), Option.bind_some, Option.bind_some]
  cases (decide (nI 1 ≤ a) && decide (a ≤ nI 90)) <;> cases (decide (nI 0 ≤ b) && decide (b ≤ nI 100)) <;> rfl
theorem st_drift : St_drift Inv := by
  intro k hk a b I J h
  have h0 := h
  obtain ⟨T, P, hA⟩ := h
  have a1 := hA.1
  have hT := a1.1
  have hP := a1.2.1
  refine ⟨1000, ?_⟩
  show ∃ o1 o2, f10_drift SZ 1000 0 a b I J = some o1 ∧ (fun I J => f11_drift SZ 1000 167 a b I J) o1.2.1 o1.2.2 = some o2 ∧ o1.1 = o2.1 ∧ Inv (k + 1) o2.2.1 o2.2.2
  have out : f10_drift SZ 1000 0 a b I J = some (-1000000002, I, J) → f11_drift SZ 1000 167 a b I J = some (-1000000002, I, J) → ∃ o1 o2, f10_drift SZ 1000 0 a b I J = some o1 ∧ (fun I J => f11_drift SZ 1000 167 a b I J) o1.2.1 o1.2.2 = some o2 ∧ o1.1 = o2.1 ∧ Inv (k + 1) o2.2.1 o2.2.2 := fun h1 h2 => ⟨_, _, h1, h2, rfl, Inv_mono k I J h0⟩
  have wa : f10_within SZ a 1 90 I J = some (b01 (decide (nI 1 ≤ a) && decide (a ≤ nI 90))) := cWi (lo := 1) (hi := 90)
  have wb : f10_within SZ b 0 100 I J = some (b01 (decide (nI 0 ≤ b) && decide (b ≤ nI 100))) := cWi (lo := 0) (hi := 100)
  rcases bnd_cases 1 90 (by decide) (by decide) a with ha | ⟨m, m1', m2', rfl, ha⟩
  · refine out ?_ ?_
    · unfold f10_drift f10_drift_20
      rw [wa, ha]
      rfl
    · unfold f11_drift
      rw [isD, ha]
      rfl
  rcases bnd_cases 0 100 (by decide) (by decide) b with hb | ⟨v, v1', v2', rfl, hb⟩
  · refine out ?_ ?_
    · unfold f10_drift f10_drift_20
      rw [wa, ha, Option.bind_some, if_neg (show ¬ b01 true = 0 by decide), wb, hb]
      rfl
    · unfold f11_drift
      rw [isD, ha, hb]
      rfl
  by_cases hT0 : T = 0
  · subst hT0
    refine ⟨(-1000000003, I, J), (-1000000003, I, J), ?_, ?_, rfl, Inv_mono k I J h0⟩
    · unfold f10_drift
      rw [wa, ha, Option.bind_some, if_neg (show ¬ b01 true = 0 by decide), wb, hb, Option.bind_some, if_neg (show ¬ b01 true = 0 by decide), show mm_rf SZ 0 1 = 4 by simp (disch := omega) only [↓M1, ↓ofNat_nI, L0, L1, L2, L3, L4, L5, L6, L7, L8, L9, L10, L12, L31, L32, L40, L48, L50, L99, L100, L120, L180, L256, L500, n_lt0, n_ge0, n_let, n_lef, n_ltt, n_ltf, n_eqt, n_eqf, m_lt, m_le, m_eq, m_eq2, m_le2, m_lt2, m_nle, m_nlt, if_true, if_false, eq_self, Option.bind_some, mb0, mb1, mbb, mbn0, mbn1, not_true, not_false_eq_true, reduceIte, Bool.false_eq_true, nI_add, nI_clamp, pk_mul, in_t, in_f, in_m, zr, za, at_SZ, put_SZ, rd_at, wr_at, rd_m, wr_m], a1.2.2.1]
      rfl
    · show f11_drift SZ 1000 167 (nI m) (nI v) I J = _
      unfold f11_drift
      rw [isD, ha, hb, Option.bind_some, a1.2.2.2.1]
      rfl
  · refine two (J := J) hA (fun Im hB => ?_)
    obtain ⟨Ic', Im', d', q1, q2, -, q4, q5, q6⟩ := dyears_loop (n := 1000) (m := m) (v := v) (Jc := J) (Jm := J) isL1 (by omega) (by omega) (by omega : 0 < T) (by omega) 1000 0 (100 * k) I Im (Nat.zero_le m) (by omega) (by omega) ⟨hB.lf, hB.2.2.2.2.2.1⟩
    obtain ⟨r1, s, s1, s2, s3⟩ := q6
    refine ⟨bsI (fun t => decide (bsI (fun p => decide (nI 1 ≤ Ic' 33 (6 * p + t))) 8 = nI 0)) T, Ic', Im', ?_, ?_, q4, q5, r1.2.2.2.2.mono (by omega), s, s1, s2, s3⟩
    · unfold f10_drift f2_passDrawnYears
      rw [wa, ha, Option.bind_some, if_neg (show ¬ b01 true = 0 by decide), wb, hb, Option.bind_some, if_neg (show ¬ b01 true = 0 by decide), show mm_rf SZ 0 1 = 4 by simp (disch := omega) only [↓M1, ↓ofNat_nI, L0, L1, L2, L3, L4, L5, L6, L7, L8, L9, L10, L12, L31, L32, L40, L48, L50, L99, L100, L120, L180, L256, L500, n_lt0, n_ge0, n_let, n_lef, n_ltt, n_ltf, n_eqt, n_eqf, m_lt, m_le, m_eq, m_eq2, m_le2, m_lt2, m_nle, m_nlt, if_true, if_false, eq_self, Option.bind_some, mb0, mb1, mbb, mbn0, mbn1, not_true, not_false_eq_true, reduceIte, Bool.false_eq_true, nI_add, nI_clamp, pk_mul, in_t, in_f, in_m, zr, za, at_SZ, put_SZ, rd_at, wr_at, rd_m, wr_m], a1.2.2.1, if_neg (nI_ne0 (by omega) (by omega)), show mm_rf SZ 0 15 = 147 by simp (disch := omega) only [↓M1, ↓ofNat_nI, L0, L1, L2, L3, L4, L5, L6, L7, L8, L9, L10, L12, L31, L32, L40, L48, L50, L99, L100, L120, L180, L256, L500, n_lt0, n_ge0, n_let, n_lef, n_ltt, n_ltf, n_eqt, n_eqf, m_lt, m_le, m_eq, m_eq2, m_le2, m_lt2, m_nle, m_nlt, if_true, if_false, eq_self, Option.bind_some, mb0, mb1, mbb, mbn0, mbn1, not_true, not_false_eq_true, reduceIte, Bool.false_eq_true, nI_add, nI_clamp, pk_mul, in_t, in_f, in_m, zr, za, at_SZ, put_SZ, rd_at, wr_at, rd_m, wr_m], show f2_passDrawnYears_2 SZ 1000 1000 147 (nI m) (nI v) 0 I J = _ from q1, Option.bind_some]
      dsimp only
      rw [dt_eq (by omega) isL1 hT r1.1.2.2.1, Option.bind_some]
    · show f11_drift SZ 1000 167 (nI m) (nI v) Im J = _
      unfold f11_drift
      rw [isD, ha, hb, Option.bind_some, hB.1.2.2.2.1, if_neg (show ¬ b01 (true && true) = 0 by decide), if_neg (nI_ne0 (by omega) (by omega)), show f11_drift_23 SZ 1000 1000 167 (nI m) (nI v) 0 Im J = _ from q2]
      show f11_drift_23_b SZ 1000 _ 167 (nI m) (nI v) (nI m) Im' J = _
      unfold f11_drift_23_b
      rw [if_pos (nI_le (Nat.le_refl m) (by omega)), ds_eq (by omega) hT hP r1.1.2.2.2.1 r1.1.2.2.2.2.2, Option.bind_some, r1.2.2.2.2.ded hT hP]
      rfl
