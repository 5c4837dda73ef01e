/-! ===== part 62: the reference's least sums, and its walk (written by wip/whole/pre.py) ===== -/
section LEA
variable {T P N : Nat} {Ic Im : mm_I} {Jm : mm_J} {w : Nat → Nat}
/-- what the reference reads, at any state of it -/
def pm (T P N : Nat) (w : Nat → Nat) (Ic Im I : mm_I) : Prop := rLf T P N 26 29 Ic I ∧ I 173 = Im 173 ∧ I 174 = Im 174 ∧ I 168 = Im 168 ∧ ∀ t, t < 6 → w t ≤ 8 ∧ I 183 t = nI (w t)
theorem rLf.fm {I : mm_I} (h : rLf T P N 26 29 Ic Im) (e1 : ∀ r, r ≠ 167 → r < 190 → I r = Im r) (e2 : ∀ k, k ≠ 44 → k ≠ 47 → I 167 k = Im 167 k) : rLf T P N 26 29 Ic I := by
  obtain ⟨a1, a2, a3, a4, a5⟩ := h
  refine ⟨a1.c rfl rfl (e2 0 (by omega) (by omega)) (e2 2 (by omega) (by omega)), a2.c rfl rfl rfl rfl (e1 168 (by omega) (by omega)), a3.c rfl (e1 171 (by omega) (by omega)), ?_, a5.c (fun _ _ => rfl) (vCur_c (fun r h1 h2 => e1 r (by omega) (by omega)) (e2 23 (by omega) (by omega)))⟩
  unfold rG
  rw [e2 6 (by omega) (by omega), e2 7 (by omega) (by omega), e2 8 (by omega) (by omega), e2 9 (by omega) (by omega), e2 10 (by omega) (by omega), e2 11 (by omega) (by omega)]
  exact a4
theorem pm.up {I : mm_I} {r k : Nat} {x : Int32} (h : pm T P N w Ic Im I) (hr : 190 ≤ r ∨ (r = 167 ∧ k = 44)) : pm T P N w Ic Im (mm_up I r k x) := by
  obtain ⟨h1, h2, h3, h4, h5⟩ := h
  refine ⟨h1.fm (fun q h1 h2 => mm_up_o (by omega)) (fun q h1 h2 => up_o2 (by omega)), ?_, ?_, ?_, fun t ht => ⟨(h5 t ht).1, ?_⟩⟩
  · rw [mm_up_o (by omega)]; exact h2
  · rw [mm_up_o (by omega)]; exact h3
  · rw [mm_up_o (by omega)]; exact h4
  · rw [up_o2 (by omega)]; exact (h5 t ht).2
theorem pm.cst {I : mm_I} (h : pm T P N w Ic Im I) : cst I = cst Im := by
  obtain ⟨-, h2, h3, h4, -⟩ := h
  funext p t
  unfold Jvm.Pilot.CForgottenCraftsLaw_law_r4581_da2337.cst kn
  rw [h2, h3, h4]
def pL (T P N : Nat) (w : Nat → Nat) (Ic Im I : mm_I) : Prop := pm T P N w Ic Im I ∧ sw w T ≤ 8 ∧ I 167 44 = nI (stp w T) ∧ ∀ t, t < T → I 191 t = nI (stp w t)
theorem pL.up {I : mm_I} {k : Nat} {x : Int32} (h : pL T P N w Ic Im I) : pL T P N w Ic Im (mm_up I 190 k x) :=
  ⟨h.1.up (by omega), h.2.1, by rw [up_o2 (by omega)]; exact h.2.2.1, fun t ht => by rw [up_o2 (by omega)]; exact h.2.2.2 t ht⟩
theorem pL.S {I : mm_I} (h : pL T P N w Ic Im I) : stp w T ≤ 144 := stp_144 w h.1.1.1.1 h.2.1
theorem by_0 {I : mm_I} {E : Nat → Nat} {p s : Nat} (h : pL T P N w Ic Im I) (hp : p < P) (hs : s < stp w T) (row : ∀ s', s' < stp w T → I 190 (256 * (p + 1) + s') = nI (E s')) : f11_byGiving SZ 167 (nI p) (nI s) (-1) I Jm = some (nI (E s)) := by
  have hP := h.1.1.1.2.1
  have hS := h.S
  unfold f11_byGiving
  simp (disch := omega) only [↓M1, ↓ofNat_nI, L0, L1, L2, L3, L4, L5, L6, L7, L8, L9, L10, L12, L31, L32, L40, L48, L50, L99, L100, L120, L180, L256, L500, n_lt0, n_ge0, n_let, n_lef, n_ltt, n_ltf, n_eqt, n_eqf, m_lt, m_le, m_eq, m_eq2, m_le2, m_lt2, m_nle, m_nlt, if_true, if_false, eq_self, Option.bind_some, mb0, mb1, mbb, mbn0, mbn1, not_true, not_false_eq_true, reduceIte, Bool.false_eq_true, nI_add, nI_clamp, pk_mul, in_t, in_f, in_m, zr, za, at_SZ, put_SZ, rd_at, wr_at, rd_m, wr_m, row s hs]
theorem by_c {I : mm_I} {E : Nat → Nat} {p s t : Nat} (h : pL T P N w Ic Im I) (hp : p < P) (ht : t < T) (hs : s < stp w T) (hE : ∀ s, E s ≤ mM) (row : ∀ s', s' < stp w T → I 190 (256 * (p + 1) + s') = nI (E s')) : f11_byGiving SZ 167 (nI p) (nI s) (nI t) I Jm = some (nI (gv w (cst Im p) E s t)) := by
  have hT := h.1.1.1.1
  have hP := h.1.1.1.2.1
  have hS := h.S
  have eM := mMe
  have hst := stp_mono w (show t ≤ T by omega)
  have hst0 := stp_pos w t
  obtain ⟨hw8, hw⟩ := h.1.2.2.2.2 t (by omega)
  have hc := cst_le h.1.1 hp ht
  rw [h.1.cst] at hc
  have sO := h.2.2.2 t ht
  have hq : s / stp w t ≤ s := Nat.div_le_self _ _
  obtain ⟨Lv, l1, l2, l3, l4, l5⟩ := h.1.1.2.2.2.2.l
  have lp := l2 p (by omega)
  have no : f11_byGiving_52 SZ 167 (nI p) (nI s) (nI t) I Jm = some (nI mM) := by
    unfold f11_byGiving_52 f11_byGiving_53 f11_byGiving_94 f11_byGiving_112
    rw [if_pos rfl, if_pos (show (1000000 : Int32) ≤ 1000000 by decide)]
    rfl
  have i1 : mm_inb (nI p) (mm_al SZ (mm_rf SZ 167 13)) = true := by simp (disch := omega) only [↓M1, ↓ofNat_nI, L0, L1, L2, L3, L4, L5, L6, L7, L8, L9, L10, L12, L31, L32, L40, L48, L50, L99, L100, L120, L180, L256, L500, n_lt0, n_ge0, n_let, n_lef, n_ltt, n_ltf, n_eqt, n_eqf, m_lt, m_le, m_eq, m_eq2, m_le2, m_lt2, m_nle, m_nlt, if_true, if_false, eq_self, Option.bind_some, mb0, mb1, mbb, mbn0, mbn1, not_true, not_false_eq_true, reduceIte, Bool.false_eq_true, nI_add, nI_clamp, pk_mul, in_t, in_f, in_m, zr, za, at_SZ, put_SZ, rd_at, wr_at, rd_m, wr_m]
  have i2 : mm_inb (nI t) (mm_al SZ (mm_rf SZ 167 43)) = true := by simp (disch := omega) only [↓M1, ↓ofNat_nI, L0, L1, L2, L3, L4, L5, L6, L7, L8, L9, L10, L12, L31, L32, L40, L48, L50, L99, L100, L120, L180, L256, L500, n_lt0, n_ge0, n_let, n_lef, n_ltt, n_ltf, n_eqt, n_eqf, m_lt, m_le, m_eq, m_eq2, m_le2, m_lt2, m_nle, m_nlt, if_true, if_false, eq_self, Option.bind_some, mb0, mb1, mbb, mbn0, mbn1, not_true, not_false_eq_true, reduceIte, Bool.false_eq_true, nI_add, nI_clamp, pk_mul, in_t, in_f, in_m, zr, za, at_SZ, put_SZ, rd_at, wr_at, rd_m, wr_m]
  have i3 : mm_inb (nI t) (mm_al SZ (mm_rf SZ 167 25)) = true := by simp (disch := omega) only [↓M1, ↓ofNat_nI, L0, L1, L2, L3, L4, L5, L6, L7, L8, L9, L10, L12, L31, L32, L40, L48, L50, L99, L100, L120, L180, L256, L500, n_lt0, n_ge0, n_let, n_lef, n_ltt, n_ltf, n_eqt, n_eqf, m_lt, m_le, m_eq, m_eq2, m_le2, m_lt2, m_nle, m_nlt, if_true, if_false, eq_self, Option.bind_some, mb0, mb1, mbb, mbn0, mbn1, not_true, not_false_eq_true, reduceIte, Bool.false_eq_true, nI_add, nI_clamp, pk_mul, in_t, in_f, in_m, zr, za, at_SZ, put_SZ, rd_at, wr_at, rd_m, wr_m]
  have z1 : mm_rf SZ 167 13 = 173 := by simp (disch := omega) only [↓M1, ↓ofNat_nI, L0, L1, L2, L3, L4, L5, L6, L7, L8, L9, L10, L12, L31, L32, L40, L48, L50, L99, L100, L120, L180, L256, L500, n_lt0, n_ge0, n_let, n_lef, n_ltt, n_ltf, n_eqt, n_eqf, m_lt, m_le, m_eq, m_eq2, m_le2, m_lt2, m_nle, m_nlt, if_true, if_false, eq_self, Option.bind_some, mb0, mb1, mbb, mbn0, mbn1, not_true, not_false_eq_true, reduceIte, Bool.false_eq_true, nI_add, nI_clamp, pk_mul, in_t, in_f, in_m, zr, za, at_SZ, put_SZ, rd_at, wr_at, rd_m, wr_m]
  have z2 : mm_rf SZ 167 43 = 191 := by simp (disch := omega) only [↓M1, ↓ofNat_nI, L0, L1, L2, L3, L4, L5, L6, L7, L8, L9, L10, L12, L31, L32, L40, L48, L50, L99, L100, L120, L180, L256, L500, n_lt0, n_ge0, n_let, n_lef, n_ltt, n_ltf, n_eqt, n_eqf, m_lt, m_le, m_eq, m_eq2, m_le2, m_lt2, m_nle, m_nlt, if_true, if_false, eq_self, Option.bind_some, mb0, mb1, mbb, mbn0, mbn1, not_true, not_false_eq_true, reduceIte, Bool.false_eq_true, nI_add, nI_clamp, pk_mul, in_t, in_f, in_m, zr, za, at_SZ, put_SZ, rd_at, wr_at, rd_m, wr_m]
  have z3 : mm_rf SZ 167 25 = 183 := by simp (disch := omega) only [↓M1, ↓ofNat_nI, L0, L1, L2, L3, L4, L5, L6, L7, L8, L9, L10, L12, L31, L32, L40, L48, L50, L99, L100, L120, L180, L256, L500, n_lt0, n_ge0, n_let, n_lef, n_ltt, n_ltf, n_eqt, n_eqf, m_lt, m_le, m_eq, m_eq2, m_le2, m_lt2, m_nle, m_nlt, if_true, if_false, eq_self, Option.bind_some, mb0, mb1, mbb, mbn0, mbn1, not_true, not_false_eq_true, reduceIte, Bool.false_eq_true, nI_add, nI_clamp, pk_mul, in_t, in_f, in_m, zr, za, at_SZ, put_SZ, rd_at, wr_at, rd_m, wr_m]
  have z4 : mm_rf SZ 167 42 = 190 := by simp (disch := omega) only [↓M1, ↓ofNat_nI, L0, L1, L2, L3, L4, L5, L6, L7, L8, L9, L10, L12, L31, L32, L40, L48, L50, L99, L100, L120, L180, L256, L500, n_lt0, n_ge0, n_let, n_lef, n_ltt, n_ltf, n_eqt, n_eqf, m_lt, m_le, m_eq, m_eq2, m_le2, m_lt2, m_nle, m_nlt, if_true, if_false, eq_self, Option.bind_some, mb0, mb1, mbb, mbn0, mbn1, not_true, not_false_eq_true, reduceIte, Bool.false_eq_true, nI_add, nI_clamp, pk_mul, in_t, in_f, in_m, zr, za, at_SZ, put_SZ, rd_at, wr_at, rd_m, wr_m]
  unfold f11_byGiving
  rw [if_pos (nI_pos' (by omega)), if_pos i1, z1, nI_clamp (by omega)]
  cases hl : Lv p
  · rw [hl] at lp
    rw [if_pos (show I 173 p = 0 from lp), no]
    have hd := cst_dead h.1.1 hp ht lp
    rw [h.1.cst] at hd
    refine congrArg (fun x => some (nI x)) ?_
    unfold gv
    rw [hd]
    split
    · rfl
    · exact (Nat.min_eq_left (Nat.le_add_right _ _)).symm
  · rw [hl] at lp
    have hcm := cost_m (Jm := Jm) h.1.1 hp ht lp
    rw [h.1.cst] at hcm
    have hdl : dg w s t ≤ 8 := by
      have : dg w s t < w t + 1 := Nat.mod_lt _ (Nat.succ_pos _)
      omega
    have e1 : nI s / I 191 t - nI s / I 191 t / (I 183 t + 1) * (I 183 t + 1) = nI (dg w s t) := by
      rw [sO, hw, nI_1, pk_div (by omega) (by omega) (by omega), pk_rem (by omega) (by omega) (by omega)]
      rfl
    rw [if_neg (show ¬ I 173 p = 0 by rw [lp]; decide), if_pos i2, z2, nI_clamp (by omega), if_neg (show ¬ I 191 t = 0 by rw [sO]; exact nI_ne0 (by omega) (by omega)), if_pos i3, z3, if_neg (show ¬ I 183 t + 1 = 0 by rw [hw, nI_1]; exact nI_ne0 (by omega) (by omega)), e1]
    unfold gv
    by_cases c : dg w s t = 0
    · rw [if_pos (show nI (dg w s t) ≤ 0 by rw [c]; decide), if_pos c, no]
    · obtain ⟨h1, -, -⟩ := dg_sub w (Nat.pos_of_ne_zero c)
      have hEs := hE (s - stp w t)
      rw [if_neg (nI_nle (by omega) (by omega)), if_neg c]
      unfold f11_byGiving_53 f11_byGiving_94 f11_byGiving_112
      have ix : (256 : Int32) * (nI p + 1) + nI s - I 191 t = nI (256 * (p + 1) + (s - stp w t)) := by
        rw [sO, nI_1, show (256 : Int32) = nI 256 from rfl, pk_mul, nI_add, pk_sub (by omega)]
        exact congrArg nI (by omega)
      have i4 : mm_inb (nI (256 * (p + 1) + (s - stp w t))) (mm_al SZ 190) = true := by simp (disch := omega) only [↓M1, ↓ofNat_nI, L0, L1, L2, L3, L4, L5, L6, L7, L8, L9, L10, L12, L31, L32, L40, L48, L50, L99, L100, L120, L180, L256, L500, n_lt0, n_ge0, n_let, n_lef, n_ltt, n_ltf, n_eqt, n_eqf, m_lt, m_le, m_eq, m_eq2, m_le2, m_lt2, m_nle, m_nlt, if_true, if_false, eq_self, Option.bind_some, mb0, mb1, mbb, mbn0, mbn1, not_true, not_false_eq_true, reduceIte, Bool.false_eq_true, nI_add, nI_clamp, pk_mul, in_t, in_f, in_m, zr, za, at_SZ, put_SZ, rd_at, wr_at, rd_m, wr_m]
      rw [if_neg n10, if_pos i2, z2, z4, nI_clamp (by omega), ix, if_pos i4, hcm, Option.bind_some, nI_clamp (by omega), row _ (by omega), nI_add, mMi]
      by_cases c2 : E (s - stp w t) + cst Im p t ≤ mM
      · rw [if_pos (nI_le c2 (by omega))]
        exact congrArg (fun x => some (nI x)) (by omega)
      · rw [if_neg (nI_ge (by omega) (by omega))]
        exact congrArg (fun x => some (nI x)) (by omega)
/-- one cell of the least sums -/
theorem least_in {E : Nat → Nat} {n p s : Nat} {rec85 : Nat → Int32 → mm_I → mm_J → Option (Int32 × mm_I × mm_J)} {rec91 : Nat → Int32 → Int32 → mm_I → mm_J → Option (Int32 × mm_I × mm_J)} (hp : p < P) (hs : s < stp w T) (hE : ∀ s, E s ≤ mM) : ∀ (d k : Nat) (I : mm_I), k ≤ T → T < k + d → pL T P N w Ic Im I → (∀ s', s' < stp w T → I 190 (256 * (p + 1) + s') = nI (E s')) → I 190 (256 * p + s) = nI (lst w (cst Im p) E s k) → ∃ I', f11_findLeast_143 SZ n rec85 rec91 d 167 (nI p) (nI s) (nI k) I Jm = rec91 167 (nI p) (nI (s + 1)) I' Jm ∧ pL T P N w Ic Im I' ∧ (∀ r, r ≠ 190 → I' r = I r) ∧ (∀ q, q ≠ 256 * p + s → I' 190 q = I 190 q) ∧ I' 190 (256 * p + s) = nI (lst w (cst Im p) E s T) := by
  intro d
  induction d with
  | zero => intro k I h1 h2; omega
  | succ d ih =>
    intro k I h1 h2 h row i1
    have hT := h.1.1.1.1
    have hP := h.1.1.1.2.1
    have hS := h.S
    have e0 := h.1.1.1.2.2.2.1
    have e2 := h.1.1.1.2.2.2.2.2
    have eM := mMe
    have cS : f11_findLeast_143 SZ n rec85 rec91 (d + 1) 167 (nI p) (nI s) (nI k) I Jm = f11_findLeast_143_b SZ n rec85 rec91 (f11_findLeast_143 SZ n rec85 rec91 d) 167 (nI p) (nI s) (nI k) I Jm := rfl
    rw [cS]
    unfold f11_findLeast_143_b f11_findLeast_222 f11_findLeast_215
    rw [e0, e2]
    by_cases c : k = T
    · subst c
      rw [if_pos (nI_le (Nat.le_refl k) (by omega)), nI_1]
      exact ⟨I, rfl, h, fun _ _ => rfl, fun _ _ => rfl, i1⟩
    · have hk : k < T := by omega
      have g1 := gv_le w (cst Im p) E s k
      have g2 := lst_mM (w := w) (c := cst Im p) (s := s) (k := k) hE
      have ix : (256 : Int32) * nI p + nI s = nI (256 * p + s) := by
        rw [show (256 : Int32) = nI 256 from rfl, pk_mul, nI_add]
      have ib : mm_inb (nI (256 * p + s)) (mm_al SZ 190) = true := by simp (disch := omega) only [↓M1, ↓ofNat_nI, L0, L1, L2, L3, L4, L5, L6, L7, L8, L9, L10, L12, L31, L32, L40, L48, L50, L99, L100, L120, L180, L256, L500, n_lt0, n_ge0, n_let, n_lef, n_ltt, n_ltf, n_eqt, n_eqf, m_lt, m_le, m_eq, m_eq2, m_le2, m_lt2, m_nle, m_nlt, if_true, if_false, eq_self, Option.bind_some, mb0, mb1, mbb, mbn0, mbn1, not_true, not_false_eq_true, reduceIte, Bool.false_eq_true, nI_add, nI_clamp, pk_mul, in_t, in_f, in_m, zr, za, at_SZ, put_SZ, rd_at, wr_at, rd_m, wr_m]
      obtain ⟨I', k1, k2, k3, k4, k5⟩ := ih (k + 1) (mm_up I 190 (256 * p + s) (nI (lst w (cst Im p) E s (k + 1)))) (by omega) (by omega) h.up (fun s' hs' => by rw [up_o2 (by omega)]; exact row s' hs') up_s2
      refine ⟨I', ?_, k2, fun r hr => by rw [k3 r hr, mm_up_o hr], fun q hq => by rw [k4 q hq, up_o2 (by omega)], k5⟩
      rw [if_neg (nI_ge hk (by omega)), if_neg (nI_ge hp (by omega)), by_c h hp hk hs hE row, Option.bind_some, show mm_rf SZ 167 42 = 190 by simp (disch := omega) only [↓M1, ↓ofNat_nI, L0, L1, L2, L3, L4, L5, L6, L7, L8, L9, L10, L12, L31, L32, L40, L48, L50, L99, L100, L120, L180, L256, L500, n_lt0, n_ge0, n_let, n_lef, n_ltt, n_ltf, n_eqt, n_eqf, m_lt, m_le, m_eq, m_eq2, m_le2, m_lt2, m_nle, m_nlt, if_true, if_false, eq_self, Option.bind_some, mb0, mb1, mbb, mbn0, mbn1, not_true, not_false_eq_true, reduceIte, Bool.false_eq_true, nI_add, nI_clamp, pk_mul, in_t, in_f, in_m, zr, za, at_SZ, put_SZ, rd_at, wr_at, rd_m, wr_m], ix, if_pos ib, if_pos ib, if_pos ib, if_pos ib, nI_clamp (by omega), i1, nI_1, ← k1]
      have el : lst w (cst Im p) E s (k + 1) = min (lst w (cst Im p) E s k) (gv w (cst Im p) E s k) := rfl
      rw [el]
      by_cases c2 : lst w (cst Im p) E s k ≤ gv w (cst Im p) E s k
      · rw [if_pos (nI_le c2 (by omega)), Nat.min_eq_left c2]
      · rw [if_neg (nI_ge (by omega) (by omega)), Nat.min_eq_right (by omega)]
theorem least_mid {E : Nat → Nat} {n p : Nat} (hn : 7 ≤ n) {rec85 : Nat → Int32 → mm_I → mm_J → Option (Int32 × mm_I × mm_J)} (hp : p < P) (hE : ∀ s, E s ≤ mM) : ∀ (d s : Nat) (I : mm_I), s ≤ stp w T → stp w T < s + d → pL T P N w Ic Im I → (∀ s', s' < stp w T → I 190 (256 * (p + 1) + s') = nI (E s')) → (∀ s', s' < s → I 190 (256 * p + s') = nI (lst w (cst Im p) E s' T)) → ∃ I', f11_findLeast_91 SZ n rec85 d 167 (nI p) (nI s) I Jm = rec85 167 (nI p + (-1)) I' Jm ∧ pL T P N w Ic Im I' ∧ (∀ r, r ≠ 190 → I' r = I r) ∧ (∀ k, 256 * (p + 1) ≤ k → I' 190 k = I 190 k) ∧ ∀ s', s' < stp w T → I' 190 (256 * p + s') = nI (lst w (cst Im p) E s' T) := by
  intro d
  induction d with
  | zero => intro s I h1 h2; omega
  | succ d ih =>
    intro s I h1 h2 h row i2
    have hT := h.1.1.1.1
    have hP := h.1.1.1.2.1
    have hS := h.S
    have e2 := h.1.1.1.2.2.2.2.2
    have cS : f11_findLeast_91 SZ n rec85 (d + 1) 167 (nI p) (nI s) I Jm = f11_findLeast_91_b SZ n rec85 (f11_findLeast_91 SZ n rec85 d) 167 (nI p) (nI s) I Jm := rfl
    rw [cS]
    unfold f11_findLeast_91_b f11_findLeast_139
    rw [h.2.2.1, e2]
    by_cases c : s = stp w T
    · rw [if_pos (nI_le (by omega) (by omega))]
      exact ⟨I, rfl, h, fun _ _ => rfl, fun _ _ => rfl, fun s' hs' => i2 s' (by omega)⟩
    · have hs : s < stp w T := by omega
      have ix : (256 : Int32) * nI p + nI s = nI (256 * p + s) := by
        rw [show (256 : Int32) = nI 256 from rfl, pk_mul, nI_add]
      have ib : mm_inb (nI (256 * p + s)) (mm_al SZ 190) = true := by simp (disch := omega) only [↓M1, ↓ofNat_nI, L0, L1, L2, L3, L4, L5, L6, L7, L8, L9, L10, L12, L31, L32, L40, L48, L50, L99, L100, L120, L180, L256, L500, n_lt0, n_ge0, n_let, n_lef, n_ltt, n_ltf, n_eqt, n_eqf, m_lt, m_le, m_eq, m_eq2, m_le2, m_lt2, m_nle, m_nlt, if_true, if_false, eq_self, Option.bind_some, mb0, mb1, mbb, mbn0, mbn1, not_true, not_false_eq_true, reduceIte, Bool.false_eq_true, nI_add, nI_clamp, pk_mul, in_t, in_f, in_m, zr, za, at_SZ, put_SZ, rd_at, wr_at, rd_m, wr_m]
      obtain ⟨I1, q1, q2, q3, q4, q5⟩ := least_in (Jm := Jm) (n := n) (rec85 := rec85) (rec91 := f11_findLeast_91 SZ n rec85 d) hp hs hE n 0 (mm_up I 190 (256 * p + s) (nI (E s))) (Nat.zero_le T) (by omega) h.up (fun s' hs' => by rw [up_o2 (by omega)]; exact row s' hs') up_s2
      obtain ⟨I', g1, g2, g3, g4, g5⟩ := ih (s + 1) I1 (by omega) (by omega) q2 (fun s' hs' => by rw [q4 _ (by omega), up_o2 (by omega)]; exact row s' hs') (fun s' hs' => by
        by_cases e : s' = s
        · subst e; exact q5
        · rw [q4 _ (by omega), up_o2 (by omega)]; exact i2 s' (by omega))
      refine ⟨I', ?_, g2, fun r hr => by rw [g3 r hr, q3 r hr, mm_up_o hr], fun k hk => by rw [g4 k hk, q4 k (by omega), up_o2 (by omega)], g5⟩
      rw [if_neg (nI_ge hs (by omega)), if_neg (show ¬ nI p = nI P from fun q => by have := (nI_eq (by omega) (by omega)).mp q; omega), by_0 h hp hs row, Option.bind_some, show mm_rf SZ 167 42 = 190 by simp (disch := omega) only [↓M1, ↓ofNat_nI, L0, L1, L2, L3, L4, L5, L6, L7, L8, L9, L10, L12, L31, L32, L40, L48, L50, L99, L100, L120, L180, L256, L500, n_lt0, n_ge0, n_let, n_lef, n_ltt, n_ltf, n_eqt, n_eqf, m_lt, m_le, m_eq, m_eq2, m_le2, m_lt2, m_nle, m_nlt, if_true, if_false, eq_self, Option.bind_some, mb0, mb1, mbb, mbn0, mbn1, not_true, not_false_eq_true, reduceIte, Bool.false_eq_true, nI_add, nI_clamp, pk_mul, in_t, in_f, in_m, zr, za, at_SZ, put_SZ, rd_at, wr_at, rd_m, wr_m], ix, if_pos ib, nI_clamp (by omega)]
      exact q1.trans g1
/-- the base row -/
theorem least_base {n : Nat} (hn : 7 ≤ n) {rec85 : Nat → Int32 → mm_I → mm_J → Option (Int32 × mm_I × mm_J)} : ∀ (d s : Nat) (I : mm_I), s ≤ stp w T → stp w T < s + d → pL T P N w Ic Im I → (∀ s', s' < s → I 190 (256 * P + s') = nI (if s' = 0 then 0 else mM)) → ∃ I', f11_findLeast_91 SZ n rec85 d 167 (nI P) (nI s) I Jm = rec85 167 (nI P + (-1)) I' Jm ∧ pL T P N w Ic Im I' ∧ (∀ r, r ≠ 190 → I' r = I r) ∧ ∀ s', s' < stp w T → I' 190 (256 * P + s') = nI (if s' = 0 then 0 else mM) := by
  intro d
  induction d with
  | zero => intro s I h1 h2; omega
  | succ d ih =>
    intro s I h1 h2 h i2
    have hT := h.1.1.1.1
    have hP := h.1.1.1.2.1
    have hS := h.S
    have e2 := h.1.1.1.2.2.2.2.2
    have e0 := h.1.1.1.2.2.2.1
    have cS : f11_findLeast_91 SZ n rec85 (d + 1) 167 (nI P) (nI s) I Jm = f11_findLeast_91_b SZ n rec85 (f11_findLeast_91 SZ n rec85 d) 167 (nI P) (nI s) I Jm := rfl
    rw [cS]
    unfold f11_findLeast_91_b f11_findLeast_139
    rw [h.2.2.1, e2]
    by_cases c : s = stp w T
    · rw [if_pos (nI_le (by omega) (by omega))]
      exact ⟨I, rfl, h, fun _ _ => rfl, fun s' hs' => i2 s' (by omega)⟩
    · have hs : s < stp w T := by omega
      have ix : (256 : Int32) * nI P + nI s = nI (256 * P + s) := by
        rw [show (256 : Int32) = nI 256 from rfl, pk_mul, nI_add]
      have ib : mm_inb (nI (256 * P + s)) (mm_al SZ 190) = true := by simp (disch := omega) only [↓M1, ↓ofNat_nI, L0, L1, L2, L3, L4, L5, L6, L7, L8, L9, L10, L12, L31, L32, L40, L48, L50, L99, L100, L120, L180, L256, L500, n_lt0, n_ge0, n_let, n_lef, n_ltt, n_ltf, n_eqt, n_eqf, m_lt, m_le, m_eq, m_eq2, m_le2, m_lt2, m_nle, m_nlt, if_true, if_false, eq_self, Option.bind_some, mb0, mb1, mbb, mbn0, mbn1, not_true, not_false_eq_true, reduceIte, Bool.false_eq_true, nI_add, nI_clamp, pk_mul, in_t, in_f, in_m, zr, za, at_SZ, put_SZ, rd_at, wr_at, rd_m, wr_m]
      obtain ⟨I', g1, g2, g3, g4⟩ := ih (s + 1) (mm_up I 190 (256 * P + s) (nI (if s = 0 then 0 else mM))) (by omega) (by omega) h.up (fun s' hs' => by
        by_cases e : s' = s
        · subst e; exact up_s2
        · rw [up_o2 (by omega)]; exact i2 s' (by omega))
      have one : ∀ x, f11_findLeast_143 SZ n rec85 (f11_findLeast_91 SZ n rec85 d) n 167 (nI P) (nI s) 0 (mm_up I 190 (256 * P + s) x) Jm = f11_findLeast_91 SZ n rec85 d 167 (nI P) (nI (s + 1)) (mm_up I 190 (256 * P + s) x) Jm := fun x => by
        obtain ⟨n', rfl⟩ : ∃ n', n = n' + 1 := ⟨n - 1, by omega⟩
        show f11_findLeast_143_b SZ (n' + 1) rec85 (f11_findLeast_91 SZ (n' + 1) rec85 d) (f11_findLeast_143 SZ (n' + 1) rec85 (f11_findLeast_91 SZ (n' + 1) rec85 d) n') 167 (nI P) (nI s) 0 (mm_up I 190 (256 * P + s) x) Jm = _
        unfold f11_findLeast_143_b f11_findLeast_222
        rw [up_o2 (a := 167) (by omega), up_o2 (a := 167) (by omega), e0, e2, if_pos (show nI P ≤ nI P from nI_le (Nat.le_refl P) (by omega)), ite_self, nI_1]
      refine ⟨I', ?_, g2, fun r hr => by rw [g3 r hr, mm_up_o hr], g4⟩
      rw [if_neg (nI_ge hs (by omega)), if_pos rfl, show mm_rf SZ 167 42 = 190 by simp (disch := omega) only [↓M1, ↓ofNat_nI, L0, L1, L2, L3, L4, L5, L6, L7, L8, L9, L10, L12, L31, L32, L40, L48, L50, L99, L100, L120, L180, L256, L500, n_lt0, n_ge0, n_let, n_lef, n_ltt, n_ltf, n_eqt, n_eqf, m_lt, m_le, m_eq, m_eq2, m_le2, m_lt2, m_nle, m_nlt, if_true, if_false, eq_self, Option.bind_some, mb0, mb1, mbb, mbn0, mbn1, not_true, not_false_eq_true, reduceIte, Bool.false_eq_true, nI_add, nI_clamp, pk_mul, in_t, in_f, in_m, zr, za, at_SZ, put_SZ, rd_at, wr_at, rd_m, wr_m], ix, if_pos ib, if_pos ib, nI_clamp (by omega), one, one]
      by_cases e : s = 0
      · rw [if_pos e] at g1
        rw [if_pos (show nI s = 0 by rw [e]; rfl)]
        exact g1
      · rw [if_neg e] at g1
        rw [if_neg (nI_ne0 (by omega) (by omega))]
        exact g1
def rowsM (w : Nat → Nat) (T P : Nat) (Im I : mm_I) (i : Nat) : Prop := ∀ p', i ≤ p' → p' ≤ P → ∀ s, s < stp w T → I 190 (256 * p' + s) = nI (EE w T P (cst Im) (P - p') s)
theorem least_down {n : Nat} (hn : 145 ≤ n) : ∀ (i d : Nat) (I : mm_I), i ≤ P → i < d → pL T P N w Ic Im I → rowsM w T P Im I i → ∃ I', f11_findLeast_85 SZ n d 167 (nI i + (-1)) I Jm = some (if mM ≤ EE w T P (cst Im) P (stp w T - 1) then 0 else 1, I', Jm) ∧ pL T P N w Ic Im I' ∧ (∀ r, r ≠ 190 → I' r = I r) ∧ rowsM w T P Im I' 0 := by
  intro i
  induction i with
  | zero =>
    intro d I h1 h2 h row
    obtain ⟨d', rfl⟩ : ∃ d', d = d' + 1 := ⟨d - 1, by omega⟩
    have hS := h.S
    have hS0 := stp_pos w T
    have eM := mMe
    have hEE := EE_le w T P (cst Im) P (stp w T - 1)
    refine ⟨I, ?_, h, fun _ _ => rfl, row⟩
    have ib : mm_inb (nI (stp w T - 1)) (mm_al SZ 190) = true := by simp (disch := omega) only [↓M1, ↓ofNat_nI, L0, L1, L2, L3, L4, L5, L6, L7, L8, L9, L10, L12, L31, L32, L40, L48, L50, L99, L100, L120, L180, L256, L500, n_lt0, n_ge0, n_let, n_lef, n_ltt, n_ltf, n_eqt, n_eqf, m_lt, m_le, m_eq, m_eq2, m_le2, m_lt2, m_nle, m_nlt, if_true, if_false, eq_self, Option.bind_some, mb0, mb1, mbb, mbn0, mbn1, not_true, not_false_eq_true, reduceIte, Bool.false_eq_true, nI_add, nI_clamp, pk_mul, in_t, in_f, in_m, zr, za, at_SZ, put_SZ, rd_at, wr_at, rd_m, wr_m]
    have last := row 0 (Nat.le_refl 0) (Nat.zero_le P) (stp w T - 1) (by omega)
    rw [Nat.mul_zero, Nat.zero_add, Nat.sub_zero] at last
    show f11_findLeast_85_b SZ n (f11_findLeast_85 SZ n d') 167 (nI 0 + (-1)) I Jm = _
    unfold f11_findLeast_85_b f11_findLeast_256
    rw [if_pos (show nI 0 + (-1) < 0 by decide), h.2.2.1, show nI (stp w T) - 1 = nI (stp w T - 1) from pk_sub (b := 1) (by omega), show mm_rf SZ 167 42 = 190 by simp (disch := omega) only [↓M1, ↓ofNat_nI, L0, L1, L2, L3, L4, L5, L6, L7, L8, L9, L10, L12, L31, L32, L40, L48, L50, L99, L100, L120, L180, L256, L500, n_lt0, n_ge0, n_let, n_lef, n_ltt, n_ltf, n_eqt, n_eqf, m_lt, m_le, m_eq, m_eq2, m_le2, m_lt2, m_nle, m_nlt, if_true, if_false, eq_self, Option.bind_some, mb0, mb1, mbb, mbn0, mbn1, not_true, not_false_eq_true, reduceIte, Bool.false_eq_true, nI_add, nI_clamp, pk_mul, in_t, in_f, in_m, zr, za, at_SZ, put_SZ, rd_at, wr_at, rd_m, wr_m], if_pos ib, nI_clamp (by omega), last, mMi]
    by_cases c : mM ≤ EE w T P (cst Im) P (stp w T - 1)
    · rw [if_pos (nI_le c (by omega)), if_pos c]
      rfl
    · rw [if_neg (nI_ge (by omega) (by omega)), if_neg c]
      rfl
  | succ j ih =>
    intro d I h1 h2 h row
    obtain ⟨d', rfl⟩ : ∃ d', d = d' + 1 := ⟨d - 1, by omega⟩
    have hP := h.1.1.1.2.1
    have hS := h.S
    obtain ⟨I1, q1, q2, q3, q4, q5⟩ := least_mid (Jm := Jm) (n := n) (by omega) (rec85 := f11_findLeast_85 SZ n d') (show j < P by omega) (E := EE w T P (cst Im) (P - (j + 1))) (EE_le w T P (cst Im) _) n 0 I (Nat.zero_le _) (by omega) h (row (j + 1) (Nat.le_refl _) h1) (fun s' hs' => absurd hs' (Nat.not_lt_zero s'))
    have eE : ∀ s, EE w T P (cst Im) (P - j) s = lst w (cst Im j) (EE w T P (cst Im) (P - (j + 1))) s T := fun s => by
      rw [EE_suc (by omega), show P - 1 - j = P - (j + 1) by omega]
    obtain ⟨I2, u1, u2, u3, u4⟩ := ih d' I1 (by omega) (by omega) q2 (fun p' h3 h4 s hs => by
      by_cases e : p' = j
      · subst e
        rw [q5 s hs, eE]
      · rw [q4 _ (by omega)]
        exact row p' (by omega) h4 s hs)
    refine ⟨I2, ?_, u2, fun r hr => by rw [u3 r hr, q3 r hr], u4⟩
    show f11_findLeast_85_b SZ n (f11_findLeast_85 SZ n d') 167 (nI (j + 1) + (-1)) I Jm = _
    unfold f11_findLeast_85_b
    rw [pk_m1, if_neg (nI_pos (by omega))]
    exact q1.trans u1
end LEA
