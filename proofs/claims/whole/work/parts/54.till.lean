/-! ===== part 54: a trial life; till (written by wip/whole/pre.py) ===== -/
theorem two2 {k T P : Nat} {I : mm_I} {J : mm_J} {fc : Option (Int32 × mm_I × mm_J)} {fm : mm_I → mm_J → Option (Int32 × mm_I × mm_J)} (hA : rAll T P (100 * k) I I) (lock : ∀ Im, rAll T P (100 * k) I Im → ∃ r Ic' Im', fc = some (r, Ic', J) ∧ fm Im J = some (r, Im', J) ∧ (∀ r, 167 ≤ r → Ic' r = I r) ∧ (∀ r, r < 167 → Im' r = Im r) ∧ rAll T P (100 * (k + 1)) Ic' Im') : ∃ o1 o2, fc = some o1 ∧ fm o1.2.1 o1.2.2 = some o2 ∧ o1.1 = o2.1 ∧ Inv (k + 1) o2.2.1 o2.2.2 := by
  obtain ⟨r, Ic', Im0, c1, -, f1, -, -⟩ := lock I hA
  obtain ⟨r2, Ic2, Im', c2, m2, -, f3, hR⟩ := lock Ic' (hA.m f1)
  have e : (r, Ic', J) = (r2, Ic2, J) := Option.some.inj (c1.symm.trans c2)
  have e1 : r = r2 := congrArg (fun x => x.1) e
  have e2 : Ic' = Ic2 := congrArg (fun x => x.2.1) e
  subst e1 e2
  exact ⟨(r, Ic', J), (r, Im', J), c1, m2, rfl, T, P, hR.k f3⟩
theorem isL2 : isL 148 28 80 := Or.inr ⟨rfl, rfl, rfl⟩
theorem cp7 {I : mm_I} {J : mm_J} {b : Bool} (hb : I 26 5 = b01 b) : ∃ I', f7_copyFrom SZ 28 26 I J = some (I', J) ∧ (∀ r, r ≠ 28 → I' r = I r) ∧ ∀ k, k ≤ 5 → I' 28 k = I 26 k := by
  have e : f7_copyFrom SZ 28 26 I J = some (mm_up (mm_up (mm_up (mm_up (mm_up (mm_up I 28 0 (I 26 0)) 28 1 (I 26 1)) 28 2 (I 26 2)) 28 3 (I 26 3)) 28 4 (I 26 4)) 28 5 (I 26 5), J) := by
    unfold f7_copyFrom
    simp (disch := omega) only [up_o2]
    rw [hb, if_pos mbb]
  refine ⟨_, e, fun r hr => ?_, fun k hk => ?_⟩
  · simp only [mm_up_o hr]
  · have : k = 0 ∨ k = 1 ∨ k = 2 ∨ k = 3 ∨ k = 4 ∨ k = 5 := by omega
    rcases this with rfl | rfl | rfl | rfl | rfl | rfl <;> simp (disch := omega) only [up_s2, up_o2]
theorem trial_start {T P N : Nat} {I Im : mm_I} (J : mm_J) (h : rAll T P N I Im) : ∃ I1 I2, f1_copyFrom SZ 1000 80 29 I J = some (I1, J) ∧ f7_copyFrom SZ 28 26 I1 J = some (I2, J) ∧ (∀ r, r ≠ 28 → (r < 80 ∨ 96 < r) → I2 r = I r) ∧ rLf T P N 28 80 I2 Im ∧ I2 80 12 = I 29 12 := by
  obtain ⟨a1, a2, a3, a4, a5, -⟩ := h
  have hP := a1.2.1
  obtain ⟨b, b1, b2⟩ := a4.2.2.2.2.2
  obtain ⟨I1, c0, cf, c2, c4, c6, c8, c10, c12, c14, c16, cc⟩ := copyF (n := 1000) (by omega) isL2.f isL1.f (by omega) I J
  have e : ∀ r, (r < 80 ∨ 96 < r) → I1 r = I r := cf
  obtain ⟨I2, d1, d2, d3⟩ := cp7 (I := I1) (J := J) (b := b) (by rw [e 26 (by omega)]; exact b1)
  have g : ∀ r k, r ≠ 28 → (r < 80 ∨ 96 < r) → I2 r k = I r k := fun r k h1 h2 => by rw [d2 r h1, e r h2]
  have g' : ∀ r, r ≠ 28 → (r < 80 ∨ 96 < r) → I2 r = I r := fun r h1 h2 => by rw [d2 r h1, e r h2]
  refine ⟨I1, I2, c0, d1, g', ⟨a1.c (g 4 5 (by omega) (by omega)) (g 4 6 (by omega) (by omega)) rfl rfl, a2.c (g' 6 (by omega) (by omega)) (g' 8 (by omega) (by omega)) (g' 10 (by omega) (by omega)) (g' 12 (by omega) (by omega)) rfl, a3.c (g' 14 (by omega) (by omega)) rfl, ?_, ?_⟩, ?_⟩
  · have q : ∀ k, k ≤ 5 → I2 28 k = I 26 k := fun k hk => by rw [d3 k hk, e 26 (by omega)]
    unfold rG
    rw [q 0 (by omega), q 1 (by omega), q 2 (by omega), q 3 (by omega), q 4 (by omega), q 5 (by omega)]
    exact a4
  · exact (a5.pt (F := 80) hP c2 c4 c6 c8 c10 c12 c14 c16 cc).c (fun k hk => d2 _ (by omega)) rfl
  · rw [d2 80 (by omega), cc 12 (by omega) (by omega)]
theorem trial_save {T P N : Nat} {I Im : mm_I} (J : mm_J) (h : rAll T P N I Im) : ∃ I1, f11_save SZ 1000 167 2 Im J = some (I1, J) ∧ (∀ r, r ≠ 199 → I1 r = Im r) ∧ (∀ c, c < 360 → I1 199 c = Im 199 c) ∧ rF T P N 29 I (vImg I1 2) ∧ I1 199 529 = Im 167 24 := by
  have hP := h.1.2.1
  have r := h.2.2.2.2.1
  obtain ⟨I1, s1, s2, s3, s4, s5, s6, s7⟩ := save_all (n := 1000) (i := 2) (Im := Im) (J := J) (by omega) (by omega) r.bt
  exact ⟨I1, s1, s2, fun c hc => s5 c (Or.inl (by omega)), r.r hP (save_v s3 s4 s6 hP), s7⟩
theorem trial_load {T P N : Nat} {I I1 I3 : mm_I} (J : mm_J) (hP : P ≤ 8) (h : rF T P N 29 I (vImg I1 2)) (e : I3 199 = I1 199) : ∃ I4, f11_load SZ 1000 167 2 I3 J = some (I4, J) ∧ fV I3 I4 ∧ rF T P N 29 I (vCur I4) ∧ I4 167 24 = I1 199 529 := by
  have ev : vImg I3 2 = vImg I1 2 := by
    unfold vImg
    rw [e]
  have h3 : rF T P N 29 I (vImg I3 2) := by rw [ev]; exact h
  obtain ⟨I4, l1, l2, l3, l4, l5, l6⟩ := load_all (n := 1000) (i := 2) (Im := I3) (J := J) (by omega) (by omega) h3.bti
  exact ⟨I4, l1, l2, h3.r hP (load_v l3 l4 l5 hP), by rw [l6, e]⟩
theorem rAll.trial {T P N N2 : Nat} {Ic Ic' Im Im' : mm_I} (h : rAll T P N Ic Im) (hN : N ≤ N2) (fc : ∀ r, r ≠ 28 → (r < 80 ∨ 96 < r) → Ic' r = Ic r) (f1 : ∀ r, r ≠ 167 → r ≠ 199 → (r < 172 ∨ 182 < r) → Im' r = Im r) (f2 : ∀ k, k ≠ 23 → k ≠ 24 → Im' 167 k = Im 167 k) (f3 : ∀ c, c < 360 → Im' 199 c = Im 199 c) (hF : rF T P N 29 Ic (vCur Im')) (hS : Im' 167 24 = Im 167 24) : rAll T P N2 Ic' Im' := by
  obtain ⟨a1, a2, a3, a4, a5, a6, a7, a8, a9, a10, a11, a12, a13, a14, a15⟩ := h
  have hP := a1.2.1
  have g : ∀ r k, r ≠ 28 → (r < 80 ∨ 96 < r) → Ic' r k = Ic r k := fun r k h1 h2 => by rw [fc r h1 h2]
  have q : ∀ r k, r ≠ 167 → r ≠ 199 → (r < 172 ∨ 182 < r) → Im' r k = Im r k := fun r k h1 h2 h3 => by rw [f1 r h1 h2 h3]
  refine ⟨a1.c (g 4 5 (by omega) (by omega)) (g 4 6 (by omega) (by omega)) (f2 0 (by omega) (by omega)) (f2 2 (by omega) (by omega)), a2.c (fc 6 (by omega) (by omega)) (fc 8 (by omega) (by omega)) (fc 10 (by omega) (by omega)) (fc 12 (by omega) (by omega)) (f1 168 (by omega) (by omega) (by omega)), a3.c (fc 14 (by omega) (by omega)) (f1 171 (by omega) (by omega) (by omega)), a4.c (fun k _ => g 26 k (by omega) (by omega)) (fun k h1 h2 => f2 k (by omega) (by omega)), (hF.c (fun k hk => fc _ (by omega) (by omega)) rfl).mono hN, a6.c (g 29 12 (by omega) (by omega)) hS, ?_, ?_, ?_, a10.c (g 0 19 (by omega) (by omega)) (f1 200 (by omega) (by omega) (by omega)), a11.c (fc 132 (by omega) (by omega)) (f1 183 (by omega) (by omega) (by omega)), a12.c (g 133 6 (by omega) (by omega)) (fc 135 (by omega) (by omega)) (fc 137 (by omega) (by omega)) (f2 48 (by omega) (by omega)) (f1 194 (by omega) (by omega) (by omega)) (f1 195 (by omega) (by omega) (by omega)), a13.c (g 133 7 (by omega) (by omega)) (fc 141 (by omega) (by omega)) (fc 143 (by omega) (by omega)) (fc 145 (by omega) (by omega)) (f2 51 (by omega) (by omega)) (f1 196 (by omega) (by omega) (by omega)) (f1 197 (by omega) (by omega) (by omega)) (f1 198 (by omega) (by omega) (by omega)), a14.c (g 1 1 (by omega) (by omega)) (fc 3 (by omega) (by omega)) (f2 27 (by omega) (by omega)) (f1 184 (by omega) (by omega) (by omega)), a15.c (g 1 6 (by omega) (by omega)) (f2 28 (by omega) (by omega))⟩
  · exact (a7.c (fun k hk => fc _ (by omega) (by omega)) (vTold_c (f1 170 (by omega) (by omega) (by omega)) (f1 169 (by omega) (by omega) (by omega)))).mono hN
  · exact (a8.o hP (fun k hk => fc _ (by omega) (by omega)) (fun c h1 h2 => f3 c (by omega)) (q 200 0 (by omega) (by omega) (by omega))).mono hN
  · exact (a9.o hP (fun k hk => fc _ (by omega) (by omega)) (fun c h1 h2 => f3 c (by omega)) (q 200 1 (by omega) (by omega) (by omega))).mono hN
theorem till_loop {T P n t : Nat} {Jc Jm : mm_J} (hn : 9 ≤ n) (ht : t < T) : ∀ (d k N : Nat) (Ic Im : mm_I), k ≤ 200 → 200 < k + d → N + (200 - k) < 2 ^ 29 → rLf T P N 28 80 Ic Im → ∃ r Ic' Im', f10_till_38 SZ n d 0 (nI t) (nI k) Ic Jc = some (r, Ic', Jc) ∧ f11_till_19 SZ n d 167 (nI t) (nI k) Im Jm = f11_till_47 SZ n 167 r Im' Jm ∧ fF 80 Ic Ic' ∧ fV Im Im' := by
  intro d
  induction d with
  | zero => intro k N Ic Im h1 h2; omega
  | succ d ih =>
    intro k N Ic Im h1 h2 h3 h
    have hT := h.1.1
    have hP := h.1.2.1
    have cS : f10_till_38 SZ n (d + 1) 0 (nI t) (nI k) Ic Jc = f10_till_38_b SZ n (f10_till_38 SZ n d) 0 (nI t) (nI k) Ic Jc := rfl
    have mS : f11_till_19 SZ n (d + 1) 167 (nI t) (nI k) Im Jm = f11_till_19_b SZ n (f11_till_19 SZ n d) 167 (nI t) (nI k) Im Jm := rfl
    rw [cS, mS]
    unfold f10_till_38_b f11_till_19_b f10_till_71
    by_cases c : k = 200
    · subst c
      rw [if_pos (show (200 : Int32) ≤ nI 200 by decide), if_pos (show (200 : Int32) ≤ nI 200 by decide)]
      exact ⟨_, Ic, Im, rfl, rfl, fF.refl, fV.refl⟩
    · rw [if_neg (show ¬ (200 : Int32) ≤ nI k from nI_ge (b := 200) (by omega) (by omega)), if_neg (show ¬ (200 : Int32) ≤ nI k from nI_ge (b := 200) (by omega) (by omega))]
      have kc : f1_withSkill SZ n (mm_rf SZ 0 9) (nI t) 50 Ic Jc = some (bsI (fun p => !decide (Im 173 p = nI 0) && decide (nI 50 ≤ Im 174 (6 * p + t))) P) := by
        rw [show mm_rf SZ 0 9 = 80 by simp (disch := omega) only [↓M1, ↓ofNat_nI, L0, L1, L2, L3, L4, L5, L6, L7, L8, L9, L10, L12, L31, L32, L40, L48, L50, L99, L100, L120, L180, L256, L500, n_lt0, n_ge0, n_let, n_lef, n_ltt, n_ltf, n_eqt, n_eqf, m_lt, m_le, m_eq, m_eq2, m_le2, m_lt2, m_nle, m_nlt, if_true, if_false, eq_self, Option.bind_some, mb0, mb1, mbb, mbn0, mbn1, not_true, not_false_eq_true, reduceIte, Bool.false_eq_true, nI_add, nI_clamp, pk_mul, in_t, in_f, in_m, zr, za, at_SZ, put_SZ, rd_at, wr_at, rd_m, wr_m], with_eq hn isL2.f (by omega)]
        exact congrArg some (h.2.2.2.2.wit hP (t := t) (x := nI 50) (by omega) (by decide))
      have km : f11_knowers SZ n 167 (nI t) 50 Im Jm = some (bsI (fun p => !decide (Im 173 p = nI 0) && decide (nI 50 ≤ Im 174 (6 * p + t))) P) := knw_eq hn (by omega) hP h.1.2.2.2.2.2
      rw [kc, km, Option.bind_some, Option.bind_some]
      generalize bsI (fun p => !decide (Im 173 p = nI 0) && decide (nI 50 ≤ Im 174 (6 * p + t))) P = W
      by_cases cW : W = 0
      · rw [if_pos cW, if_pos cW]
        exact ⟨_, Ic, Im, rfl, rfl, fF.refl, fV.refl⟩
      · rw [if_neg cW, if_neg cW]
        obtain ⟨I1, B1, q1, q2, q3, q4, q5, q6, q7⟩ := year_lock (Jc := Jc) (Jm := Jm) isL2 h (n := n) (by omega) hn
        obtain ⟨r, I2, B2, u1, u2, u3, u4⟩ := ih (k + 1) (N + 1) I1 B1 (by omega) (by omega) (by omega) (h.go isL2 q3 q4 q7)
        rw [show mm_rf SZ 0 16 = 148 by simp (disch := omega) only [↓M1, ↓ofNat_nI, L0, L1, L2, L3, L4, L5, L6, L7, L8, L9, L10, L12, L31, L32, L40, L48, L50, L99, L100, L120, L180, L256, L500, n_lt0, n_ge0, n_let, n_lef, n_ltt, n_ltf, n_eqt, n_eqf, m_lt, m_le, m_eq, m_eq2, m_le2, m_lt2, m_nle, m_nlt, if_true, if_false, eq_self, Option.bind_some, mb0, mb1, mbb, mbn0, mbn1, not_true, not_false_eq_true, reduceIte, Bool.false_eq_true, nI_add, nI_clamp, pk_mul, in_t, in_f, in_m, zr, za, at_SZ, put_SZ, rd_at, wr_at, rd_m, wr_m], q1, q2, Option.bind_some, Option.bind_some, nI_1]
        exact ⟨r, I2, B2, u1, u2, q3.trans u3, q4.trans u4⟩
theorem st_till : St_till Inv := by
  intro k hk t I J h
  have h0 := h
  obtain ⟨T, P, hA⟩ := h
  refine ⟨1000, ?_⟩
  show ∃ o1 o2, f10_till SZ 1000 0 t I J = some o1 ∧ (fun I J => f11_till SZ 1000 167 t I J) o1.2.1 o1.2.2 = some o2 ∧ o1.1 = o2.1 ∧ Inv (k + 1) o2.2.1 o2.2.2
  have a1 := hA.1
  have hT := a1.1
  have hP := a1.2.1
  rcases in_cases T (by omega) t with ht | ⟨t', ht', rfl⟩
  · refine ⟨(-1000000001, I, J), (-1000000001, I, J), ?_, ?_, rfl, Inv_mono k I J h0⟩
    · unfold f10_till
      rw [show mm_rf SZ 0 1 = 4 by simp (disch := omega) only [↓M1, ↓ofNat_nI, L0, L1, L2, L3, L4, L5, L6, L7, L8, L9, L10, L12, L31, L32, L40, L48, L50, L99, L100, L120, L180, L256, L500, n_lt0, n_ge0, n_let, n_lef, n_ltt, n_ltf, n_eqt, n_eqf, m_lt, m_le, m_eq, m_eq2, m_le2, m_lt2, m_nle, m_nlt, if_true, if_false, eq_self, Option.bind_some, mb0, mb1, mbb, mbn0, mbn1, not_true, not_false_eq_true, reduceIte, Bool.false_eq_true, nI_add, nI_clamp, pk_mul, in_t, in_f, in_m, zr, za, at_SZ, put_SZ, rd_at, wr_at, rd_m, wr_m], cTr_out a1 ht]
      rfl
    · show f11_till SZ 1000 167 t I J = _
      unfold f11_till
      rw [mTr_out a1 ht]
      rfl
  · refine two2 (J := J) hA (fun Im hB => ?_)
    obtain ⟨I1, I2, c1, c2, c3, c4, c5⟩ := trial_start J hB
    obtain ⟨B1, s1, s2, s3, s4, s5⟩ := trial_save J hB
    have c4' : rLf T P (100 * k) 28 80 I2 B1 := by
      obtain ⟨b1, b2, b3, b4, b5⟩ := c4
      refine ⟨b1.c rfl rfl (by rw [s2 167 (by omega)]) (by rw [s2 167 (by omega)]), b2.c rfl rfl rfl rfl (s2 168 (by omega)), b3.c rfl (s2 171 (by omega)), ?_, b5.c (fun _ _ => rfl) (vCur_c (fun r h1 h2 => s2 r (by omega)) (by rw [s2 167 (by omega)]))⟩
      unfold rG
      rw [s2 167 (by omega)]
      exact b4
    obtain ⟨r, I3, B3, l1, l2, l3, l4⟩ := till_loop (n := 1000) (Jc := J) (Jm := J) (by omega) ht' 1000 0 (100 * k) I2 B1 (by omega) (by omega) (by omega) c4'
    obtain ⟨B4, m1', m2', m3', m4'⟩ := trial_load J hP s4 (l4.1 199 (by omega) (by omega))
    refine ⟨r, I3, B4, ?_, ?_, fun q hq => ?_, fun q hq => ?_, hB.trial (by omega) (fun q h1 h2 => ?_) (fun q h1 h2 h3 => ?_) (fun q h1 h2 => ?_) (fun c hc => ?_) m3' ?_⟩
    · unfold f10_till
      rw [show mm_rf SZ 0 1 = 4 by simp (disch := omega) only [↓M1, ↓ofNat_nI, L0, L1, L2, L3, L4, L5, L6, L7, L8, L9, L10, L12, L31, L32, L40, L48, L50, L99, L100, L120, L180, L256, L500, n_lt0, n_ge0, n_let, n_lef, n_ltt, n_ltf, n_eqt, n_eqf, m_lt, m_le, m_eq, m_eq2, m_le2, m_lt2, m_nle, m_nlt, if_true, if_false, eq_self, Option.bind_some, mb0, mb1, mbb, mbn0, mbn1, not_true, not_false_eq_true, reduceIte, Bool.false_eq_true, nI_add, nI_clamp, pk_mul, in_t, in_f, in_m, zr, za, at_SZ, put_SZ, rd_at, wr_at, rd_m, wr_m], cTr_in hB.1 ht', Option.bind_some, if_neg n10, show mm_rf SZ 0 9 = 80 by simp (disch := omega) only [↓M1, ↓ofNat_nI, L0, L1, L2, L3, L4, L5, L6, L7, L8, L9, L10, L12, L31, L32, L40, L48, L50, L99, L100, L120, L180, L256, L500, n_lt0, n_ge0, n_let, n_lef, n_ltt, n_ltf, n_eqt, n_eqf, m_lt, m_le, m_eq, m_eq2, m_le2, m_lt2, m_nle, m_nlt, if_true, if_false, eq_self, Option.bind_some, mb0, mb1, mbb, mbn0, mbn1, not_true, not_false_eq_true, reduceIte, Bool.false_eq_true, nI_add, nI_clamp, pk_mul, in_t, in_f, in_m, zr, za, at_SZ, put_SZ, rd_at, wr_at, rd_m, wr_m], show mm_rf SZ 0 6 = 29 by simp (disch := omega) only [↓M1, ↓ofNat_nI, L0, L1, L2, L3, L4, L5, L6, L7, L8, L9, L10, L12, L31, L32, L40, L48, L50, L99, L100, L120, L180, L256, L500, n_lt0, n_ge0, n_let, n_lef, n_ltt, n_ltf, n_eqt, n_eqf, m_lt, m_le, m_eq, m_eq2, m_le2, m_lt2, m_nle, m_nlt, if_true, if_false, eq_self, Option.bind_some, mb0, mb1, mbb, mbn0, mbn1, not_true, not_false_eq_true, reduceIte, Bool.false_eq_true, nI_add, nI_clamp, pk_mul, in_t, in_f, in_m, zr, za, at_SZ, put_SZ, rd_at, wr_at, rd_m, wr_m], c1, Option.bind_some, show mm_rf SZ 0 5 = 28 by simp (disch := omega) only [↓M1, ↓ofNat_nI, L0, L1, L2, L3, L4, L5, L6, L7, L8, L9, L10, L12, L31, L32, L40, L48, L50, L99, L100, L120, L180, L256, L500, n_lt0, n_ge0, n_let, n_lef, n_ltt, n_ltf, n_eqt, n_eqf, m_lt, m_le, m_eq, m_eq2, m_le2, m_lt2, m_nle, m_nlt, if_true, if_false, eq_self, Option.bind_some, mb0, mb1, mbb, mbn0, mbn1, not_true, not_false_eq_true, reduceIte, Bool.false_eq_true, nI_add, nI_clamp, pk_mul, in_t, in_f, in_m, zr, za, at_SZ, put_SZ, rd_at, wr_at, rd_m, wr_m], show mm_rf SZ 0 3 = 26 by simp (disch := omega) only [↓M1, ↓ofNat_nI, L0, L1, L2, L3, L4, L5, L6, L7, L8, L9, L10, L12, L31, L32, L40, L48, L50, L99, L100, L120, L180, L256, L500, n_lt0, n_ge0, n_let, n_lef, n_ltt, n_ltf, n_eqt, n_eqf, m_lt, m_le, m_eq, m_eq2, m_le2, m_lt2, m_nle, m_nlt, if_true, if_false, eq_self, Option.bind_some, mb0, mb1, mbb, mbn0, mbn1, not_true, not_false_eq_true, reduceIte, Bool.false_eq_true, nI_add, nI_clamp, pk_mul, in_t, in_f, in_m, zr, za, at_SZ, put_SZ, rd_at, wr_at, rd_m, wr_m], c2, Option.bind_some]
      exact l1
    · show f11_till SZ 1000 167 (nI t') Im J = _
      unfold f11_till
      rw [mTr_in hB.1 ht', Option.bind_some, if_neg n10, s1, Option.bind_some]
      refine l2.trans ?_
      unfold f11_till_47
      rw [m1']
      rfl
    · rw [l3 q (by omega), c3 q (by omega) (by omega)]
    · rw [m2'.1 q (by omega) (by omega), l4.1 q (by omega) (by omega), s2 q (by omega)]
    · rw [l3 q (by omega), c3 q h1 h2]
    · rw [m2'.1 q h1 h3, l4.1 q h1 h3, s2 q h2]
    · rw [m2'.2 q h1 h2, l4.2 q h1 h2, s2 167 (by omega)]
    · rw [m2'.1 199 (by omega) (by omega), l4.1 199 (by omega) (by omega), s3 c hc]
    · rw [m4', s5]
