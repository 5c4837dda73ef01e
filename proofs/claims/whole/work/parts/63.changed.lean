/-! ===== part 63: changed (written by wip/whole/pre.py) ===== -/
section CHD
variable {T P N : Nat} {Ic Im : mm_I} {Jc Jm : mm_J} {w : Nat → Nat}
theorem sw_le (h : ∀ t, t < 6 → w t ≤ 8) : ∀ k, k ≤ 6 → sw w k ≤ 8 * k
  | 0, _ => Nat.le_refl _
  | k + 1, hk => by
    have h1 := h k (by omega)
    have h2 := sw_le h k (by omega)
    show sw w k + w k ≤ _
    omega
theorem find_loop {n : Nat} (hn : 200 ≤ n) : ∀ (d k : Nat) (I : mm_I), k ≤ T → T < k + d → pm T P N w Ic Im I → (sw w k ≤ 8 → I 167 44 = nI (stp w k) ∧ ∀ t, t < k → I 191 t = nI (stp w t)) → ∃ r I', f11_findLeast_9 SZ n d 167 (nI (sw w k)) (nI k) I Jm = some (r, I', Jm) ∧ (∀ r, r ≠ 167 → r ≠ 190 → r ≠ 191 → I' r = I r) ∧ (∀ k, k ≠ 44 → I' 167 k = I 167 k) ∧ ((sw w T ≤ 8 ∧ r = (if mM ≤ EE w T P (cst Im) P (stp w T - 1) then 0 else 1) ∧ pL T P N w Ic Im I' ∧ rowsM w T P Im I' 0) ∨ (8 < sw w T ∧ r = 0)) := by
  intro d
  induction d with
  | zero => intro k I h1 h2; omega
  | succ d ih =>
    intro k I h1 h2 h i1
    have hT := h.1.1.1
    have hP := h.1.1.2.1
    have e0 := h.1.1.2.2.2.1
    have e2 := h.1.1.2.2.2.2.2
    have hsl := sw_le (fun t ht => (h.2.2.2.2 t ht).1) k (by omega)
    have cS : f11_findLeast_9 SZ n (d + 1) 167 (nI (sw w k)) (nI k) I Jm = f11_findLeast_9_b SZ n (f11_findLeast_9 SZ n d) 167 (nI (sw w k)) (nI k) I Jm := rfl
    rw [cS]
    unfold f11_findLeast_9_b
    rw [e0]
    by_cases c : k = T
    · subst c
      rw [if_pos (nI_le (Nat.le_refl k) (by omega))]
      by_cases c8 : sw w k ≤ 8
      · obtain ⟨i2, i3⟩ := i1 c8
        have hp : pL k P N w Ic Im I := ⟨h, c8, i2, i3⟩
        have hS := hp.S
        obtain ⟨n', hn'⟩ : ∃ n', n = n' + 1 := ⟨n - 1, by omega⟩
        obtain ⟨I1, q1, q2, q3, q4⟩ := least_base (Jm := Jm) (n := n) (by omega) (rec85 := f11_findLeast_85 SZ n n') n 0 I (Nat.zero_le _) (by omega) hp (fun s' hs' => absurd hs' (Nat.not_lt_zero s'))
        obtain ⟨I2, u1, u2, u3, u4⟩ := least_down (Jm := Jm) (n := n) (by omega) P n' I1 (Nat.le_refl P) (by omega) q2 (fun p' h3 h4 s' hs' => by
          have : p' = P := by omega
          subst this
          rw [q4 s' hs', Nat.sub_self]
          rfl)
        refine ⟨_, I2, ?_, fun r h3 h4 h5 => by rw [u3 r h4, q3 r h4], fun k _ => by rw [u3 167 (by omega), q3 167 (by omega)], Or.inl ⟨c8, rfl, u2, u4⟩⟩
        rw [if_pos (show nI (sw w k) ≤ 8 from nI_le (b := 8) c8 (by omega)), e2]
        refine Eq.trans ?_ u1
        have e : f11_findLeast_85 SZ n n 167 (nI P) I Jm = f11_findLeast_85_b SZ n (f11_findLeast_85 SZ n n') 167 (nI P) I Jm := by
          have : ∀ m, m = n' + 1 → f11_findLeast_85 SZ n m 167 (nI P) I Jm = f11_findLeast_85_b SZ n (f11_findLeast_85 SZ n n') 167 (nI P) I Jm := fun m hm => by subst hm; rfl
          exact this n hn'
        rw [e]
        unfold f11_findLeast_85_b
        rw [if_neg (nI_pos (by omega))]
        exact q1
      · refine ⟨0, I, ?_, fun _ _ _ _ => rfl, fun _ _ => rfl, Or.inr ⟨by omega, rfl⟩⟩
        rw [if_neg (show ¬ nI (sw w k) ≤ 8 from nI_ge (a := 8) (by omega) (by omega))]
    · have hk : k < T := by omega
      obtain ⟨hw8, hw⟩ := h.2.2.2.2 k (by omega)
      have ib5 : mm_inb (nI k) (mm_al SZ (mm_rf SZ 167 25)) = true := by simp (disch := omega) only [↓M1, ↓ofNat_nI, L0, L1, L2, L3, L4, L5, L6, L7, L8, L9, L10, L12, L31, L32, L40, L48, L50, L99, L100, L120, L180, L256, L500, n_lt0, n_ge0, n_let, n_lef, n_ltt, n_ltf, n_eqt, n_eqf, m_lt, m_le, m_eq, m_eq2, m_le2, m_lt2, m_nle, m_nlt, if_true, if_false, eq_self, Option.bind_some, mb0, mb1, mbb, mbn0, mbn1, not_true, not_false_eq_true, reduceIte, Bool.false_eq_true, nI_add, nI_clamp, pk_mul, in_t, in_f, in_m, zr, za, at_SZ, put_SZ, rd_at, wr_at, rd_m, wr_m]
      have ib3 : mm_inb (nI k) (mm_al SZ (mm_rf SZ 167 43)) = true := by simp (disch := omega) only [↓M1, ↓ofNat_nI, L0, L1, L2, L3, L4, L5, L6, L7, L8, L9, L10, L12, L31, L32, L40, L48, L50, L99, L100, L120, L180, L256, L500, n_lt0, n_ge0, n_let, n_lef, n_ltt, n_ltf, n_eqt, n_eqf, m_lt, m_le, m_eq, m_eq2, m_le2, m_lt2, m_nle, m_nlt, if_true, if_false, eq_self, Option.bind_some, mb0, mb1, mbb, mbn0, mbn1, not_true, not_false_eq_true, reduceIte, Bool.false_eq_true, nI_add, nI_clamp, pk_mul, in_t, in_f, in_m, zr, za, at_SZ, put_SZ, rd_at, wr_at, rd_m, wr_m]
      have es : sw w (k + 1) = sw w k + w k := rfl
      unfold f11_findLeast_63
      rw [if_neg (nI_ge hk (by omega)), if_pos ib5, if_pos ib3, if_pos ib5, show mm_rf SZ 167 25 = 183 by simp (disch := omega) only [↓M1, ↓ofNat_nI, L0, L1, L2, L3, L4, L5, L6, L7, L8, L9, L10, L12, L31, L32, L40, L48, L50, L99, L100, L120, L180, L256, L500, n_lt0, n_ge0, n_let, n_lef, n_ltt, n_ltf, n_eqt, n_eqf, m_lt, m_le, m_eq, m_eq2, m_le2, m_lt2, m_nle, m_nlt, if_true, if_false, eq_self, Option.bind_some, mb0, mb1, mbb, mbn0, mbn1, not_true, not_false_eq_true, reduceIte, Bool.false_eq_true, nI_add, nI_clamp, pk_mul, in_t, in_f, in_m, zr, za, at_SZ, put_SZ, rd_at, wr_at, rd_m, wr_m], show mm_rf SZ 167 43 = 191 by simp (disch := omega) only [↓M1, ↓ofNat_nI, L0, L1, L2, L3, L4, L5, L6, L7, L8, L9, L10, L12, L31, L32, L40, L48, L50, L99, L100, L120, L180, L256, L500, n_lt0, n_ge0, n_let, n_lef, n_ltt, n_ltf, n_eqt, n_eqf, m_lt, m_le, m_eq, m_eq2, m_le2, m_lt2, m_nle, m_nlt, if_true, if_false, eq_self, Option.bind_some, mb0, mb1, mbb, mbn0, mbn1, not_true, not_false_eq_true, reduceIte, Bool.false_eq_true, nI_add, nI_clamp, pk_mul, in_t, in_f, in_m, zr, za, at_SZ, put_SZ, rd_at, wr_at, rd_m, wr_m], nI_clamp (by omega), hw, nI_add, nI_1, up_o2 (a := 183) (by omega), hw, nI_1, up_o2 (a := 167) (by omega)]
      by_cases c8 : sw w k + w k ≤ 8
      · obtain ⟨i2, i3⟩ := i1 (by omega)
        obtain ⟨r, I', g1, g2, g3, g4⟩ := ih (k + 1) (mm_up (mm_up I 191 k (nI (stp w k))) 167 44 (nI (stp w k * (w k + 1)))) (by omega) (by omega) ((h.up (by omega)).up (by omega)) (fun _ => ⟨up_s2, fun t ht => by
          rw [up_o2 (by omega)]
          by_cases e : t = k
          · subst e; exact up_s2
          · rw [up_o2 (by omega)]; exact i3 t (by omega)⟩)
        refine ⟨r, I', ?_, fun r h3 h4 h5 => by rw [g2 r h3 h4 h5, mm_up_o h3, mm_up_o h5], fun q hq => by rw [g3 q hq, up_o2 (by omega), up_o2 (by omega)], g4⟩
        rw [if_pos (show nI (sw w k + w k) ≤ 8 from nI_le (b := 8) c8 (by omega)), i2, pk_mul]
        exact g1
      · obtain ⟨r, I', g1, g2, g3, g4⟩ := ih (k + 1) (mm_up (mm_up I 191 k (I 167 44)) 167 44 (I 167 44)) (by omega) (by omega) ((h.up (by omega)).up (by omega)) (fun q => absurd q (by omega))
        refine ⟨r, I', ?_, fun r h3 h4 h5 => by rw [g2 r h3 h4 h5, mm_up_o h3, mm_up_o h5], fun q hq => by rw [g3 q hq, up_o2 (by omega), up_o2 (by omega)], g4⟩
        rw [if_neg (show ¬ nI (sw w k + w k) ≤ 8 from nI_ge (a := 8) (by omega) (by omega))]
        exact g1
/-- the walk: one person -/
theorem walk_in {I : mm_I} {n p s : Nat} {v1 : Int32} {rec55 : Nat → Int32 → Int32 → Int32 → Int32 → mm_I → mm_J → Option (Int32 × mm_I × mm_J)} (h : pL T P N w Ic Im I) (row : rowsM w T P Im I 0) (hp : p < P) (hs : s < stp w T) (hE : EE w T P (cst Im) (P - p) s < mM) : ∀ (i d : Nat), i ≤ T → i < d → f11_changed_71 SZ n rec55 d 167 v1 (nI s) (if fstF (hit w T P Im p s) T (T - i) < T then nI (fstF (hit w T P Im p s) T (T - i)) else m1) (nI p) (nI i + (-1)) I Jm = rec55 167 v1 (nI (if rk w T P Im p s < T then s - stp w (rk w T P Im p s) else s)) (if rk w T P Im p s < T then nI (rk w T P Im p s) else m1) (nI (p + 1)) I Jm := by
  intro i
  have hT := h.1.1.1.1
  have hP := h.1.1.1.2.1
  have hS := h.S
  have eM := mMe
  induction i with
  | zero =>
    intro d h1 h2
    obtain ⟨d', rfl⟩ : ∃ d', d = d' + 1 := ⟨d - 1, by omega⟩
    show f11_changed_71_b SZ n rec55 (f11_changed_71 SZ n rec55 d') 167 v1 (nI s) (if rk w T P Im p s < T then nI (rk w T P Im p s) else m1) (nI p) (nI 0 + (-1)) I Jm = _
    unfold f11_changed_71_b f11_changed_148
    rw [if_pos (show nI 0 + (-1) < 0 by decide)]
    by_cases c : rk w T P Im p s < T
    · obtain ⟨g1, -⟩ := hit_dg (fstF_t c) hE
      have g1 : stp w (rk w T P Im p s) ≤ s := g1
      rw [if_pos c, if_pos c]
      generalize rk w T P Im p s = r at *
      have ib : mm_inb (nI r) (mm_al SZ (mm_rf SZ 167 43)) = true := by simp (disch := omega) only [↓M1, ↓ofNat_nI, L0, L1, L2, L3, L4, L5, L6, L7, L8, L9, L10, L12, L31, L32, L40, L48, L50, L99, L100, L120, L180, L256, L500, n_lt0, n_ge0, n_let, n_lef, n_ltt, n_ltf, n_eqt, n_eqf, m_lt, m_le, m_eq, m_eq2, m_le2, m_lt2, m_nle, m_nlt, if_true, if_false, eq_self, Option.bind_some, mb0, mb1, mbb, mbn0, mbn1, not_true, not_false_eq_true, reduceIte, Bool.false_eq_true, nI_add, nI_clamp, pk_mul, in_t, in_f, in_m, zr, za, at_SZ, put_SZ, rd_at, wr_at, rd_m, wr_m]
      rw [if_pos (nI_pos' (by omega)), if_pos ib, show mm_rf SZ 167 43 = 191 by simp (disch := omega) only [↓M1, ↓ofNat_nI, L0, L1, L2, L3, L4, L5, L6, L7, L8, L9, L10, L12, L31, L32, L40, L48, L50, L99, L100, L120, L180, L256, L500, n_lt0, n_ge0, n_let, n_lef, n_ltt, n_ltf, n_eqt, n_eqf, m_lt, m_le, m_eq, m_eq2, m_le2, m_lt2, m_nle, m_nlt, if_true, if_false, eq_self, Option.bind_some, mb0, mb1, mbb, mbn0, mbn1, not_true, not_false_eq_true, reduceIte, Bool.false_eq_true, nI_add, nI_clamp, pk_mul, in_t, in_f, in_m, zr, za, at_SZ, put_SZ, rd_at, wr_at, rd_m, wr_m], nI_clamp (by omega), h.2.2.2 r c, pk_sub g1, nI_1]
    · rw [if_neg c, if_neg c, if_neg (show ¬ 0 ≤ m1 by decide), show nI s - 0 = nI s from Int32.sub_zero _, nI_1]
  | succ j ih =>
    intro d h1 h2
    obtain ⟨d', rfl⟩ : ∃ d', d = d' + 1 := ⟨d - 1, by omega⟩
    have ih' := ih d' (by omega) (by omega)
    have hg := gv_le w (cst Im p) (EE w T P (cst Im) (P - 1 - p)) s j
    have hEE := EE_le w T P (cst Im) (P - p) s
    have ix : (256 : Int32) * nI p + nI s = nI (256 * p + s) := by
      rw [show (256 : Int32) = nI 256 from rfl, pk_mul, nI_add]
    have ib : mm_inb (nI (256 * p + s)) (mm_al SZ 190) = true := by simp (disch := omega) only [↓M1, ↓ofNat_nI, L0, L1, L2, L3, L4, L5, L6, L7, L8, L9, L10, L12, L31, L32, L40, L48, L50, L99, L100, L120, L180, L256, L500, n_lt0, n_ge0, n_let, n_lef, n_ltt, n_ltf, n_eqt, n_eqf, m_lt, m_le, m_eq, m_eq2, m_le2, m_lt2, m_nle, m_nlt, if_true, if_false, eq_self, Option.bind_some, mb0, mb1, mbb, mbn0, mbn1, not_true, not_false_eq_true, reduceIte, Bool.false_eq_true, nI_add, nI_clamp, pk_mul, in_t, in_f, in_m, zr, za, at_SZ, put_SZ, rd_at, wr_at, rd_m, wr_m]
    have eT : T - j = (T - (j + 1)) + 1 := by omega
    have ef : fstF (hit w T P Im p s) T (T - j) = if hit w T P Im p s j = true then j else fstF (hit w T P Im p s) T (T - (j + 1)) := by
      rw [eT]
      show (if hit w T P Im p s (T - (T - (j + 1) + 1)) = true then T - (T - (j + 1) + 1) else _) = _
      rw [show T - (T - (j + 1) + 1) = j by omega]
    show f11_changed_71_b SZ n rec55 (f11_changed_71 SZ n rec55 d') 167 v1 (nI s) _ (nI p) (nI (j + 1) + (-1)) I Jm = _
    unfold f11_changed_71_b f11_changed_125 f11_changed_126
    rw [pk_m1, if_neg (nI_pos (by omega)), by_c h hp (show j < T by omega) hs (EE_le w T P (cst Im) (P - 1 - p)) (fun s' hs' => by rw [row (p + 1) (Nat.zero_le _) (by omega) s' hs', show P - (p + 1) = P - 1 - p by omega]), Option.bind_some, show mm_rf SZ 167 42 = 190 by simp (disch := omega) only [↓M1, ↓ofNat_nI, L0, L1, L2, L3, L4, L5, L6, L7, L8, L9, L10, L12, L31, L32, L40, L48, L50, L99, L100, L120, L180, L256, L500, n_lt0, n_ge0, n_let, n_lef, n_ltt, n_ltf, n_eqt, n_eqf, m_lt, m_le, m_eq, m_eq2, m_le2, m_lt2, m_nle, m_nlt, if_true, if_false, eq_self, Option.bind_some, mb0, mb1, mbb, mbn0, mbn1, not_true, not_false_eq_true, reduceIte, Bool.false_eq_true, nI_add, nI_clamp, pk_mul, in_t, in_f, in_m, zr, za, at_SZ, put_SZ, rd_at, wr_at, rd_m, wr_m], ix, if_pos ib, if_pos ib, nI_clamp (by omega), row p (Nat.zero_le _) (by omega) s hs, mMi, if_neg (show ¬ nI mM ≤ nI (EE w T P (cst Im) (P - p) s) from nI_ge hE (by omega)), ← ih', ef]
    by_cases c : gv w (cst Im p) (EE w T P (cst Im) (P - 1 - p)) s j = EE w T P (cst Im) (P - p) s
    · rw [if_pos (show nI (gv w (cst Im p) (EE w T P (cst Im) (P - 1 - p)) s j) = nI (EE w T P (cst Im) (P - p) s) by rw [c]), if_pos (show hit w T P Im p s j = true from decide_eq_true c), if_pos (show j < T by omega)]
    · rw [if_neg (show ¬ nI (gv w (cst Im p) (EE w T P (cst Im) (P - 1 - p)) s j) = nI (EE w T P (cst Im) (P - p) s) from fun q => c ((nI_eq (by omega) (by omega)).mp q)), if_neg (show ¬ hit w T P Im p s j = true from fun q => c (of_decide_eq_true q))]
theorem walk_out {I : mm_I} {n a : Nat} (hn : 7 ≤ n) (h : pL T P N w Ic Im I) (row : rowsM w T P Im I 0) (ha : a < P) (hE : EE w T P (cst Im) P (stp w T - 1) < mM) : ∀ (d p : Nat) (v3 : Int32), p ≤ a + 1 → a + 1 < p + d → (p = a + 1 → v3 = gvn w T P Im a) → f11_changed_55 SZ n d 167 (nI a) (nI (sqn w T P Im p)) v3 (nI p) I Jm = some (gvn w T P Im a, I, Jm) := by
  intro d
  have hT := h.1.1.1.1
  have hP := h.1.1.1.2.1
  induction d with
  | zero => intro k v3 h1 h2; omega
  | succ d ih =>
    intro p v3 h1 h2 h3
    have cS : f11_changed_55 SZ n (d + 1) 167 (nI a) (nI (sqn w T P Im p)) v3 (nI p) I Jm = f11_changed_55_b SZ n (f11_changed_55 SZ n d) 167 (nI a) (nI (sqn w T P Im p)) v3 (nI p) I Jm := rfl
    rw [cS]
    unfold f11_changed_55_b
    by_cases c : p = a + 1
    · rw [h3 c, c, if_pos (nI_lt (by omega) (by omega))]
    · obtain ⟨s1, s2⟩ := sq_ok hE p (by omega)
      have wi := walk_in (Jm := Jm) (n := n) (v1 := nI a) (rec55 := f11_changed_55 SZ n d) h row (show p < P by omega) s1 s2 T n (Nat.le_refl T) (by omega)
      rw [Nat.sub_self, show fstF (hit w T P Im p (sqn w T P Im p)) T 0 = T from rfl, if_neg (Nat.lt_irrefl T)] at wi
      rw [if_neg (nI_nlt (by omega) (by omega)), h.1.1.1.2.2.2.1, sub_m1]
      refine wi.trans ?_
      exact ih (p + 1) _ (by omega) (by omega) (fun e => by
        have : p = a := by omega
        subst this
        rfl)
/-- what the plans and the rings leave -/
theorem rAll.scr {N2 : Nat} {Ic' Im' : mm_I} (h : rAll T P N Ic Im) (hN : N ≤ N2) (fc : ∀ r, r < 149 → Ic' r = Ic r) (f1 : ∀ r, 167 < r → (r < 190 ∨ 193 < r) → Im' r = Im r) (f2 : ∀ k, k ≠ 44 → k ≠ 47 → Im' 167 k = Im 167 k) : rAll T P N2 Ic' Im' := by
  obtain ⟨a1, a2, a3, a4, a5, a6, a7, a8, a9, a10, a11, a12, a13, a14, a15⟩ := h
  have g : ∀ r k, r < 149 → Ic' r k = Ic r k := fun r k h1 => by rw [fc r h1]
  have f1' : ∀ r, 167 < r → (r < 190 ∨ 193 < r) → Im' r = Im r := f1
  refine ⟨a1.c (g 4 5 (by omega)) (g 4 6 (by omega)) (f2 0 (by omega) (by omega)) (f2 2 (by omega) (by omega)), a2.c (fc 6 (by omega)) (fc 8 (by omega)) (fc 10 (by omega)) (fc 12 (by omega)) (f1 168 (by omega) (by omega)), a3.c (fc 14 (by omega)) (f1 171 (by omega) (by omega)), a4.c (fun k _ => g 26 k (by omega)) (fun k h1 h2 => f2 k (by omega) (by omega)), (a5.c (fun k hk => fc _ (by omega)) (vCur_c (fun r h1 h2 => f1 r (by omega) (by omega)) (f2 23 (by omega) (by omega)))).mono hN, a6.c (g 29 12 (by omega)) (f2 24 (by omega) (by omega)), (a7.c (fun k hk => fc _ (by omega)) (vTold_c (f1 170 (by omega) (by omega)) (f1 169 (by omega) (by omega)))).mono hN, (a8.c (fun k hk => fc _ (by omega)) (f1 199 (by omega) (by omega)) (f1 200 (by omega) (by omega))).mono hN, (a9.c (fun k hk => fc _ (by omega)) (f1 199 (by omega) (by omega)) (f1 200 (by omega) (by omega))).mono hN, a10.c (g 0 19 (by omega)) (f1 200 (by omega) (by omega)), a11.c (fc 132 (by omega)) (f1 183 (by omega) (by omega)), a12.c (g 133 6 (by omega)) (fc 135 (by omega)) (fc 137 (by omega)) (f2 48 (by omega) (by omega)) (f1 194 (by omega) (by omega)) (f1 195 (by omega) (by omega)), a13.c (g 133 7 (by omega)) (fc 141 (by omega)) (fc 143 (by omega)) (fc 145 (by omega)) (f2 51 (by omega) (by omega)) (f1 196 (by omega) (by omega)) (f1 197 (by omega) (by omega)) (f1 198 (by omega) (by omega)), a14.c (g 1 1 (by omega)) (fc 3 (by omega)) (f2 27 (by omega) (by omega)) (f1 184 (by omega) (by omega)), a15.c (g 1 6 (by omega)) (f2 28 (by omega) (by omega))⟩
end CHD
theorem changed_lock {T P k : Nat} {I Im : mm_I} {J : mm_J} {a : Int32} (hB : rAll T P (100 * k) I Im) (ha : a = m1 ∨ ∃ q, q < P ∧ a = nI q) : ∃ r Ic' Im', f10_changed_19 SZ 1000 0 a I J = some (r, Ic', J) ∧ f11_changed_17 SZ 1000 167 a Im J = some (r, Im', J) ∧ (∀ r, 167 ≤ r → Ic' r = I r) ∧ (∀ r, r < 167 → Im' r = Im r) ∧ rAll T P (100 * (k + 1)) Ic' Im' := by
  have hT := hB.1.1
  have hP := hB.1.2.1
  have eM := mMe
  -- the wants, as numbers
  have hw : ∃ w : Nat → Nat, ∀ t, t < 6 → w t ≤ 8 ∧ I 132 t = nI (w t) ∧ Im 183 t = nI (w t) := by
    refine ⟨fun t => (I 132 t).toNatClampNeg, fun t ht => ?_⟩
    obtain ⟨x, x1, x2, x3⟩ := hB.2.2.2.2.2.2.2.2.2.2.1 t ht
    have e : (I 132 t).toNatClampNeg = x := by rw [x2, nI_clamp (by omega)]
    refine ⟨?_, ?_, ?_⟩
    · show (I 132 t).toNatClampNeg ≤ 8
      rw [e]; exact x1
    · show I 132 t = nI (I 132 t).toNatClampNeg
      rw [e]; exact x2
    · show Im 183 t = nI (I 132 t).toNatClampNeg
      rw [e]; exact x3
  obtain ⟨w, hw⟩ := hw
  obtain ⟨r, Ic', c1, c2, c3⟩ := solve_c (Jc := J) (w := w) (P := P) (T := T) (N := 100 * k) (Im := Im) (Ic := I) ⟨hB.lf, fun t ht => ⟨(hw t ht).1, (hw t ht).2.1⟩⟩
  have h0 : pm T P (100 * k) w I Im (mm_up Im 167 44 1) := by
    have : pm T P (100 * k) w I Im Im := ⟨hB.lf, rfl, rfl, rfl, fun t ht => ⟨(hw t ht).1, (hw t ht).2.2⟩⟩
    exact this.up (by omega)
  obtain ⟨rm, Im', m1', m2', m3', m4'⟩ := find_loop (Jm := J) (n := 1000) (by omega) 1000 0 (mm_up Im 167 44 1) (Nat.zero_le T) (by omega) h0 (fun _ => ⟨up_s2, fun t ht => absurd ht (Nat.not_lt_zero t)⟩)
  have fin : rAll T P (100 * (k + 1)) Ic' Im' := hB.scr (by omega) (fun r hr => c2 r (Or.inl hr)) (fun r h1 h2 => by rw [m2' r (by omega) (by omega) (by omega), mm_up_o (by omega)]) (fun q h1 h2 => by rw [m3' q h1, up_o2 (by omega)])
  have g1 : ∀ r, 167 ≤ r → Ic' r = I r := fun r hr => c2 r (Or.inr (by omega))
  have g2 : ∀ r, r < 167 → Im' r = Im r := fun r hr => by rw [m2' r (by omega) (by omega) (by omega), mm_up_o (by omega)]
  have fM : f11_findLeast SZ 1000 167 Im J = some (rm, Im', J) := m1'
  have none' : r = m1 → rm = 0 → ∃ r Ic' Im', f10_changed_19 SZ 1000 0 a I J = some (r, Ic', J) ∧ f11_changed_17 SZ 1000 167 a Im J = some (r, Im', J) ∧ (∀ r, 167 ≤ r → Ic' r = I r) ∧ (∀ r, r < 167 → Im' r = Im r) ∧ rAll T P (100 * (k + 1)) Ic' Im' := by
    intro e1 e2
    refine ⟨m1, Ic', Im', ?_, ?_, g1, g2, fin⟩
    · unfold f10_changed_19 f10_changed_37
      rw [show mm_rf SZ 0 17 = 149 by simp (disch := omega) only [↓M1, ↓ofNat_nI, L0, L1, L2, L3, L4, L5, L6, L7, L8, L9, L10, L12, L31, L32, L40, L48, L50, L99, L100, L120, L180, L256, L500, n_lt0, n_ge0, n_let, n_lef, n_ltt, n_ltf, n_eqt, n_eqf, m_lt, m_le, m_eq, m_eq2, m_le2, m_lt2, m_nle, m_nlt, if_true, if_false, eq_self, Option.bind_some, mb0, mb1, mbb, mbn0, mbn1, not_true, not_false_eq_true, reduceIte, Bool.false_eq_true, nI_add, nI_clamp, pk_mul, in_t, in_f, in_m, zr, za, at_SZ, put_SZ, rd_at, wr_at, rd_m, wr_m], c1, e1, Option.bind_some]
      dsimp only
      rw [if_pos (show m1 = -1 from rfl), ite_self]
    · unfold f11_changed_17
      rw [fM, e2, Option.bind_some]
      rfl
  rcases c3 with ⟨c8, cE, er, cg⟩ | ⟨er, c9⟩
  · rcases m4' with ⟨-, em, hL, row⟩ | ⟨m8, -⟩
    · rw [if_neg (by omega)] at em
      have hS := hL.S
      have hS0 := stp_pos w T
      have ib : mm_inb (nI (stp w T - 1)) (mm_al SZ (mm_rf SZ 167 42)) = true := by simp (disch := omega) only [↓M1, ↓ofNat_nI, L0, L1, L2, L3, L4, L5, L6, L7, L8, L9, L10, L12, L31, L32, L40, L48, L50, L99, L100, L120, L180, L256, L500, n_lt0, n_ge0, n_let, n_lef, n_ltt, n_ltf, n_eqt, n_eqf, m_lt, m_le, m_eq, m_eq2, m_le2, m_lt2, m_nle, m_nlt, if_true, if_false, eq_self, Option.bind_some, mb0, mb1, mbb, mbn0, mbn1, not_true, not_false_eq_true, reduceIte, Bool.false_eq_true, nI_add, nI_clamp, pk_mul, in_t, in_f, in_m, zr, za, at_SZ, put_SZ, rd_at, wr_at, rd_m, wr_m]
      have last := row 0 (Nat.le_refl 0) (Nat.zero_le P) (stp w T - 1) (by omega)
      rw [Nat.mul_zero, Nat.zero_add, Nat.sub_zero] at last
      have e44 : Im' 167 44 - 1 = nI (stp w T - 1) := by
        rw [hL.2.2.1]
        exact pk_sub (b := 1) (by omega)
      rcases ha with rfl | ⟨q, hq, rfl⟩
      · refine ⟨r, Ic', Im', ?_, ?_, g1, g2, fin⟩
        · unfold f10_changed_19 f10_changed_37
          rw [show mm_rf SZ 0 17 = 149 by simp (disch := omega) only [↓M1, ↓ofNat_nI, L0, L1, L2, L3, L4, L5, L6, L7, L8, L9, L10, L12, L31, L32, L40, L48, L50, L99, L100, L120, L180, L256, L500, n_lt0, n_ge0, n_let, n_lef, n_ltt, n_ltf, n_eqt, n_eqf, m_lt, m_le, m_eq, m_eq2, m_le2, m_lt2, m_nle, m_nlt, if_true, if_false, eq_self, Option.bind_some, mb0, mb1, mbb, mbn0, mbn1, not_true, not_false_eq_true, reduceIte, Bool.false_eq_true, nI_add, nI_clamp, pk_mul, in_t, in_f, in_m, zr, za, at_SZ, put_SZ, rd_at, wr_at, rd_m, wr_m], c1, Option.bind_some]
          dsimp only
          rw [if_pos (show m1 = -1 from rfl)]
        · unfold f11_changed_17
          rw [fM, em, Option.bind_some]
          dsimp only
          rw [if_neg n10, if_pos (show m1 = -1 from rfl), e44, if_pos ib, show mm_rf SZ 167 42 = 190 by simp (disch := omega) only [↓M1, ↓ofNat_nI, L0, L1, L2, L3, L4, L5, L6, L7, L8, L9, L10, L12, L31, L32, L40, L48, L50, L99, L100, L120, L180, L256, L500, n_lt0, n_ge0, n_let, n_lef, n_ltt, n_ltf, n_eqt, n_eqf, m_lt, m_le, m_eq, m_eq2, m_le2, m_lt2, m_nle, m_nlt, if_true, if_false, eq_self, Option.bind_some, mb0, mb1, mbb, mbn0, mbn1, not_true, not_false_eq_true, reduceIte, Bool.false_eq_true, nI_add, nI_clamp, pk_mul, in_t, in_f, in_m, zr, za, at_SZ, put_SZ, rd_at, wr_at, rd_m, wr_m], nI_clamp (by omega), last, er]
      · have wo := walk_out (Jm := J) (n := 1000) (by omega) hL row hq cE 1000 0 m1 (by omega) (by omega) (fun e => absurd e (by omega))
        refine ⟨gvn w T P Im q, Ic', Im', ?_, ?_, g1, g2, fin⟩
        · unfold f10_changed_19 f10_changed_37
          rw [show mm_rf SZ 0 17 = 149 by simp (disch := omega) only [↓M1, ↓ofNat_nI, L0, L1, L2, L3, L4, L5, L6, L7, L8, L9, L10, L12, L31, L32, L40, L48, L50, L99, L100, L120, L180, L256, L500, n_lt0, n_ge0, n_let, n_lef, n_ltt, n_ltf, n_eqt, n_eqf, m_lt, m_le, m_eq, m_eq2, m_le2, m_lt2, m_nle, m_nlt, if_true, if_false, eq_self, Option.bind_some, mb0, mb1, mbb, mbn0, mbn1, not_true, not_false_eq_true, reduceIte, Bool.false_eq_true, nI_add, nI_clamp, pk_mul, in_t, in_f, in_m, zr, za, at_SZ, put_SZ, rd_at, wr_at, rd_m, wr_m], c1, er, Option.bind_some]
          dsimp only
          rw [if_neg (n_m1 (by omega)), if_neg (n_m1 (by omega)), show f6_at SZ (mm_rf SZ 149 6) (nI q) Ic' J = some (gvn w T P Im q) from by simp (disch := omega) only [↓M1, ↓ofNat_nI, L0, L1, L2, L3, L4, L5, L6, L7, L8, L9, L10, L12, L31, L32, L40, L48, L50, L99, L100, L120, L180, L256, L500, n_lt0, n_ge0, n_let, n_lef, n_ltt, n_ltf, n_eqt, n_eqf, m_lt, m_le, m_eq, m_eq2, m_le2, m_lt2, m_nle, m_nlt, if_true, if_false, eq_self, Option.bind_some, mb0, mb1, mbb, mbn0, mbn1, not_true, not_false_eq_true, reduceIte, Bool.false_eq_true, nI_add, nI_clamp, pk_mul, in_t, in_f, in_m, zr, za, at_SZ, put_SZ, rd_at, wr_at, rd_m, wr_m, cg q hq], Option.bind_some]
        · unfold f11_changed_17
          rw [fM, em, Option.bind_some]
          dsimp only
          rw [if_neg n10, if_neg (n_m1 (by omega)), e44]
          exact wo
    · omega
  · rcases m4' with ⟨m8, em, -, -⟩ | ⟨m8, em⟩
    · rcases c9 with c9 | c9
      · omega
      · rw [if_pos (by omega)] at em
        exact none' er em
    · exact none' er em
theorem st_changed : St_changed Inv := by
  intro k hk a I J h
  have h0 := h
  obtain ⟨T, P, hA⟩ := h
  have a1 := hA.1
  have hT := a1.1
  have hP := a1.2.1
  refine ⟨1000, ?_⟩
  show ∃ o1 o2, f10_changed SZ 1000 0 a I J = some o1 ∧ (fun I J => f11_changed SZ 1000 167 a I J) o1.2.1 o1.2.2 = some o2 ∧ o1.1 = o2.1 ∧ Inv (k + 1) o2.2.1 o2.2.2
  by_cases em : a = -1
  · refine two2 (J := J) hA (fun Im hB => ?_)
    obtain ⟨r, Ic', Im', q1, q2, q3⟩ := changed_lock (J := J) (a := a) hB (Or.inl em)
    refine ⟨r, Ic', Im', ?_, ?_, q3⟩
    · unfold f10_changed
      rw [if_pos em]
      exact q1
    · show f11_changed SZ 1000 167 a Im J = _
      unfold f11_changed
      rw [if_pos em]
      exact q2
  · rcases in_cases P (by omega) a with hp | ⟨q, hq, rfl⟩
    · refine ⟨(-1000000001, I, J), (-1000000001, I, J), ?_, ?_, rfl, Inv_mono k I J h0⟩
      · unfold f10_changed
        rw [if_neg em, show mm_rf SZ 0 1 = 4 by simp (disch := omega) only [↓M1, ↓ofNat_nI, L0, L1, L2, L3, L4, L5, L6, L7, L8, L9, L10, L12, L31, L32, L40, L48, L50, L99, L100, L120, L180, L256, L500, n_lt0, n_ge0, n_let, n_lef, n_ltt, n_ltf, n_eqt, n_eqf, m_lt, m_le, m_eq, m_eq2, m_le2, m_lt2, m_nle, m_nlt, if_true, if_false, eq_self, Option.bind_some, mb0, mb1, mbb, mbn0, mbn1, not_true, not_false_eq_true, reduceIte, Bool.false_eq_true, nI_add, nI_clamp, pk_mul, in_t, in_f, in_m, zr, za, at_SZ, put_SZ, rd_at, wr_at, rd_m, wr_m], cPe_out a1 hp]
        rfl
      · show f11_changed SZ 1000 167 a I J = _
        unfold f11_changed
        rw [if_neg em, mPe_out a1 hp]
        rfl
    · refine two2 (J := J) hA (fun Im hB => ?_)
      obtain ⟨r, Ic', Im', q1, q2, q3⟩ := changed_lock (J := J) (a := nI q) hB (Or.inr ⟨q, hq, rfl⟩)
      refine ⟨r, Ic', Im', ?_, ?_, q3⟩
      · unfold f10_changed
        rw [if_neg em, show mm_rf SZ 0 1 = 4 by simp (disch := omega) only [↓M1, ↓ofNat_nI, L0, L1, L2, L3, L4, L5, L6, L7, L8, L9, L10, L12, L31, L32, L40, L48, L50, L99, L100, L120, L180, L256, L500, n_lt0, n_ge0, n_let, n_lef, n_ltt, n_ltf, n_eqt, n_eqf, m_lt, m_le, m_eq, m_eq2, m_le2, m_lt2, m_nle, m_nlt, if_true, if_false, eq_self, Option.bind_some, mb0, mb1, mbb, mbn0, mbn1, not_true, not_false_eq_true, reduceIte, Bool.false_eq_true, nI_add, nI_clamp, pk_mul, in_t, in_f, in_m, zr, za, at_SZ, put_SZ, rd_at, wr_at, rd_m, wr_m], cPe_in a1 hq, Option.bind_some, if_neg n10]
        exact q1
      · show f11_changed SZ 1000 167 (nI q) Im J = _
        unfold f11_changed
        rw [if_neg em, mPe_in hB.1 hq, Option.bind_some, if_neg n10]
        exact q2
