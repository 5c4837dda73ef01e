/-! ===== part 60: the class's sums, and what is given (written by wip/whole/pre.py) ===== -/
theorem mMi : (1000000 : Int32) = nI mM := rfl
theorem mMe : mM = 1000000 := rfl
theorem mnI {a b : Nat} (ha : a ≤ 2000000) (hb : b ≤ 2000000) : (if nI a < nI b then nI a else nI b) = nI (min b a) := by
  rw [ite_lt (by omega) (by omega)]
  split
  · exact congrArg nI (by omega)
  · exact congrArg nI (by omega)
theorem sub_m1 (P : Nat) : nI P - 1 = nI P + (-1) := by
  cases P with
  | zero => decide
  | succ j => rw [nI_pred, pk_m1]
/-- the first of T at which f holds, from T - d on; T, if none -/
def fstF (f : Nat → Bool) (T : Nat) : Nat → Nat
  | 0 => T
  | d + 1 => if f (T - (d + 1)) = true then T - (d + 1) else fstF f T d
theorem fstF_le (f : Nat → Bool) (T : Nat) : ∀ d, fstF f T d ≤ T
  | 0 => Nat.le_refl T
  | d + 1 => by
    unfold fstF
    split
    · omega
    · exact fstF_le f T d
theorem fstF_t {f : Nat → Bool} {T : Nat} : ∀ {d : Nat}, fstF f T d < T → f (fstF f T d) = true
  | 0, h => absurd h (Nat.lt_irrefl T)
  | d + 1, h => by
    by_cases c : f (T - (d + 1)) = true
    · have e : fstF f T (d + 1) = T - (d + 1) := if_pos c
      rw [e]; exact c
    · have e : fstF f T (d + 1) = fstF f T d := if_neg c
      rw [e] at h ⊢
      exact fstF_t h
theorem fstF_f {f : Nat → Bool} {T : Nat} : ∀ {d : Nat}, d ≤ T → fstF f T d = T → ∀ t, T - d ≤ t → t < T → f t = false
  | 0, _, _, t, h1, h2 => absurd h2 (by omega)
  | d + 1, hd, h, t, h1, h2 => by
    by_cases c : f (T - (d + 1)) = true
    · have e : fstF f T (d + 1) = T - (d + 1) := if_pos c
      rw [e] at h
      omega
    · have e : fstF f T (d + 1) = fstF f T d := if_neg c
      rw [e] at h
      by_cases q : t = T - (d + 1)
      · rw [q]
        exact eq_false_of_ne_true c
      · exact fstF_f (by omega) h t (by omega) h2
section SUM
variable {T P N : Nat} {Im : mm_I} {Jc : mm_J} {w : Nat → Nat}
/-- steps, states and costs stand -/
def pS (T P N : Nat) (w : Nat → Nat) (Im I : mm_I) : Prop := pc T P N w Im I ∧ sw w T ≤ 8 ∧ I 149 7 = nI (stp w T) ∧ (∀ t, t < T → I 151 t = nI (stp w t)) ∧ ∀ q t, q < P → t < T → I 153 (6 * q + t) = nI (cst Im q t)
theorem pS.up {I : mm_I} {r k : Nat} {x : Int32} (h : pS T P N w Im I) (hr : r = 155 ∨ r = 157) : pS T P N w Im (mm_up I r k x) :=
  ⟨h.1.up (by omega), h.2.1, by rw [up_o2 (by omega)]; exact h.2.2.1, fun t ht => by rw [up_o2 (by omega)]; exact h.2.2.2.1 t ht, fun q t hq ht => by rw [up_o2 (by omega)]; exact h.2.2.2.2 q t hq ht⟩
theorem pS.S {I : mm_I} (h : pS T P N w Im I) : stp w T ≤ 144 := stp_144 w h.1.1.1.1 h.2.1
theorem ix_lt {p s S : Nat} (hp : p ≤ 8) (hS : S ≤ 144) (hs : s < S) : p * S + s < 1296 := by
  have := Nat.mul_le_mul hp hS
  omega
theorem sum_0 {I : mm_I} {E : Nat → Nat} {p s : Nat} (h : pS T P N w Im I) (hp : p < P) (hs : s < stp w T) (row : ∀ s', s' < stp w T → I 155 ((p + 1) * stp w T + s') = nI (E s')) : f3_sumWith SZ 149 (nI p) (nI s) (-1) I Jc = some (nI (E s)) := by
  have hP := h.1.1.1.2.1
  have hx := ix_lt (p := p + 1) (by omega) h.S hs
  unfold f3_sumWith
  rw [if_pos rfl, h.2.2.1, nI_1, pk_mul, nI_add, show f6_at SZ (mm_rf SZ 149 5) (nI ((p + 1) * stp w T + s)) I Jc = some (nI (E s)) from by simp (disch := omega) only [↓M1, ↓ofNat_nI, L0, L1, L2, L3, L4, L5, L6, L7, L8, L9, L10, L12, L31, L32, L40, L48, L50, L99, L100, L120, L180, L256, L500, n_lt0, n_ge0, n_let, n_lef, n_ltt, n_ltf, n_eqt, n_eqf, m_lt, m_le, m_eq, m_eq2, m_le2, m_lt2, m_nle, m_nlt, if_true, if_false, eq_self, Option.bind_some, mb0, mb1, mbb, mbn0, mbn1, not_true, not_false_eq_true, reduceIte, Bool.false_eq_true, nI_add, nI_clamp, pk_mul, in_t, in_f, in_m, zr, za, at_SZ, put_SZ, rd_at, wr_at, rd_m, wr_m, row s hs], Option.bind_some]
theorem sum_c {I : mm_I} {E : Nat → Nat} {p s t : Nat} (h : pS T P N w Im I) (hp : p < P) (ht : t < T) (hs : s < stp w T) (hE : ∀ s, E s ≤ mM) (row : ∀ s', s' < stp w T → I 155 ((p + 1) * stp w T + s') = nI (E s')) : f3_sumWith SZ 149 (nI p) (nI s) (nI t) I Jc = some (nI (gv w (cst Im p) E s t)) := by
  have hT := h.1.1.1.1
  have hP := h.1.1.1.2.1
  have hS := h.S
  have hst := stp_mono w (show t ≤ T by omega)
  have hst0 := stp_pos w t
  obtain ⟨hw8, hw⟩ := h.1.2 t (by omega)
  have hc := cst_le h.1.1 hp ht
  have sO : f6_at SZ (mm_rf SZ 149 3) (nI t) I Jc = some (nI (stp w t)) := by simp (disch := omega) only [↓M1, ↓ofNat_nI, L0, L1, L2, L3, L4, L5, L6, L7, L8, L9, L10, L12, L31, L32, L40, L48, L50, L99, L100, L120, L180, L256, L500, n_lt0, n_ge0, n_let, n_lef, n_ltt, n_ltf, n_eqt, n_eqf, m_lt, m_le, m_eq, m_eq2, m_le2, m_lt2, m_nle, m_nlt, if_true, if_false, eq_self, Option.bind_some, mb0, mb1, mbb, mbn0, mbn1, not_true, not_false_eq_true, reduceIte, Bool.false_eq_true, nI_add, nI_clamp, pk_mul, in_t, in_f, in_m, zr, za, at_SZ, put_SZ, rd_at, wr_at, rd_m, wr_m, h.2.2.2.1 t ht]
  have wO : f6_at SZ (mm_rf SZ 149 2) (nI t) I Jc = some (nI (w t)) := by simp (disch := omega) only [↓M1, ↓ofNat_nI, L0, L1, L2, L3, L4, L5, L6, L7, L8, L9, L10, L12, L31, L32, L40, L48, L50, L99, L100, L120, L180, L256, L500, n_lt0, n_ge0, n_let, n_lef, n_ltt, n_ltf, n_eqt, n_eqf, m_lt, m_le, m_eq, m_eq2, m_le2, m_lt2, m_nle, m_nlt, if_true, if_false, eq_self, Option.bind_some, mb0, mb1, mbb, mbn0, mbn1, not_true, not_false_eq_true, reduceIte, Bool.false_eq_true, nI_add, nI_clamp, pk_mul, in_t, in_f, in_m, zr, za, at_SZ, put_SZ, rd_at, wr_at, rd_m, wr_m, hw]
  have cO : f6_at SZ (mm_rf SZ 149 4) (nI (6 * p + t)) I Jc = some (nI (cst Im p t)) := by simp (disch := omega) only [↓M1, ↓ofNat_nI, L0, L1, L2, L3, L4, L5, L6, L7, L8, L9, L10, L12, L31, L32, L40, L48, L50, L99, L100, L120, L180, L256, L500, n_lt0, n_ge0, n_let, n_lef, n_ltt, n_ltf, n_eqt, n_eqf, m_lt, m_le, m_eq, m_eq2, m_le2, m_lt2, m_nle, m_nlt, if_true, if_false, eq_self, Option.bind_some, mb0, mb1, mbb, mbn0, mbn1, not_true, not_false_eq_true, reduceIte, Bool.false_eq_true, nI_add, nI_clamp, pk_mul, in_t, in_f, in_m, zr, za, at_SZ, put_SZ, rd_at, wr_at, rd_m, wr_m, h.2.2.2.2 p t hp ht]
  have m1' : (if (1 : Int32) < nI (stp w t) then nI (stp w t) else 1) = nI (stp w t) := by
    by_cases c : stp w t = 1
    · rw [c]; decide
    · rw [if_pos (show (1 : Int32) < nI (stp w t) from nI_lt (a := 1) (by omega) (by omega))]
  have m2' : (if (0 : Int32) < nI (w t) then nI (w t) else 0) = nI (w t) := by
    by_cases c : w t = 0
    · rw [c]; decide
    · rw [if_pos (show (0 : Int32) < nI (w t) from nI_lt (a := 0) (by omega) (by omega))]
  have hq : s / stp w t ≤ s := Nat.div_le_self _ _
  have st : f3_stillWanted SZ 149 (nI s) (nI t) I Jc = some (nI (dg w s t)) := by
    unfold f3_stillWanted
    rw [sO, Option.bind_some, m1', if_neg (nI_ne0 (by omega) (by omega)), wO, Option.bind_some, m2', nI_1, if_neg (nI_ne0 (by omega) (by omega)), pk_div (by omega) (by omega) (by omega), pk_rem (by omega) (by omega) (by omega)]
    rfl
  have hdl : dg w s t ≤ 8 := by
    have : dg w s t < w t + 1 := Nat.mod_lt _ (Nat.succ_pos _)
    omega
  unfold f3_sumWith
  rw [if_neg (n_m1 (by omega)), st, Option.bind_some]
  unfold gv
  by_cases c : dg w s t = 0
  · rw [if_pos (show nI (dg w s t) = 0 by rw [c]; rfl), if_pos c]
    rfl
  · obtain ⟨h1, -, -⟩ := dg_sub w (Nat.pos_of_ne_zero c)
    have hx := ix_lt (p := p + 1) (s := s - stp w t) (by omega) h.S (by omega)
    have hEs := hE (s - stp w t)
    have e := mMe
    rw [if_neg (nI_ne0 (by omega) (by omega)), if_neg c, f10_cell_eq (by omega) (by omega), Option.bind_some, cO, Option.bind_some, sO, Option.bind_some, h.2.2.1, nI_1, pk_mul, nI_add, pk_sub (by omega), show (p + 1) * stp w T + s - stp w t = (p + 1) * stp w T + (s - stp w t) by omega, show f6_at SZ (mm_rf SZ 149 5) (nI ((p + 1) * stp w T + (s - stp w t))) I Jc = some (nI (E (s - stp w t))) from by simp (disch := omega) only [↓M1, ↓ofNat_nI, L0, L1, L2, L3, L4, L5, L6, L7, L8, L9, L10, L12, L31, L32, L40, L48, L50, L99, L100, L120, L180, L256, L500, n_lt0, n_ge0, n_let, n_lef, n_ltt, n_ltf, n_eqt, n_eqf, m_lt, m_le, m_eq, m_eq2, m_le2, m_lt2, m_nle, m_nlt, if_true, if_false, eq_self, Option.bind_some, mb0, mb1, mbb, mbn0, mbn1, not_true, not_false_eq_true, reduceIte, Bool.false_eq_true, nI_add, nI_clamp, pk_mul, in_t, in_f, in_m, zr, za, at_SZ, put_SZ, rd_at, wr_at, rd_m, wr_m, row (s - stp w t) (by omega)], Option.bind_some, nI_add, mMi, mnI (by omega) (by omega)]
theorem lst_mM {c E : Nat → Nat} {s k : Nat} (hE : ∀ s, E s ≤ mM) : lst w c E s k ≤ mM := Nat.le_trans (lst_le w c E s k) (hE s)
theorem sums_in {I : mm_I} {E : Nat → Nat} {n p s : Nat} {rec57 : Nat → Int32 → mm_I → mm_J → Option (mm_I × mm_J)} {rec63 : Nat → Int32 → Int32 → mm_I → mm_J → Option (mm_I × mm_J)} (h : pS T P N w Im I) (hp : p < P) (hs : s < stp w T) (hE : ∀ s, E s ≤ mM) (row : ∀ s', s' < stp w T → I 155 ((p + 1) * stp w T + s') = nI (E s')) : ∀ (d k : Nat), k ≤ T → T < k + d → f3_fillSums_82 SZ n rec57 rec63 d 149 (nI p) (nI s) (nI (lst w (cst Im p) E s k)) (nI k) I Jc = rec63 149 (nI p) (nI (s + 1)) (mm_up I 155 (p * stp w T + s) (nI (lst w (cst Im p) E s T))) Jc := by
  intro d
  induction d with
  | zero => intro k h1 h2; omega
  | succ d ih =>
    intro k h1 h2
    have hT := h.1.1.1.1
    have hP := h.1.1.1.2.1
    have e5 := h.1.1.1.2.2.1
    have e := mMe
    have cS : f3_fillSums_82 SZ n rec57 rec63 (d + 1) 149 (nI p) (nI s) (nI (lst w (cst Im p) E s k)) (nI k) I Jc = f3_fillSums_82_b SZ n rec57 rec63 (f3_fillSums_82 SZ n rec57 rec63 d) 149 (nI p) (nI s) (nI (lst w (cst Im p) E s k)) (nI k) I Jc := rfl
    rw [cS]
    unfold f3_fillSums_82_b
    rw [show mm_rf SZ 149 0 = 4 by simp (disch := omega) only [↓M1, ↓ofNat_nI, L0, L1, L2, L3, L4, L5, L6, L7, L8, L9, L10, L12, L31, L32, L40, L48, L50, L99, L100, L120, L180, L256, L500, n_lt0, n_ge0, n_let, n_lef, n_ltt, n_ltf, n_eqt, n_eqf, m_lt, m_le, m_eq, m_eq2, m_le2, m_lt2, m_nle, m_nlt, if_true, if_false, eq_self, Option.bind_some, mb0, mb1, mbb, mbn0, mbn1, not_true, not_false_eq_true, reduceIte, Bool.false_eq_true, nI_add, nI_clamp, pk_mul, in_t, in_f, in_m, zr, za, at_SZ, put_SZ, rd_at, wr_at, rd_m, wr_m], e5]
    by_cases c : k = T
    · subst c
      have hx := ix_lt (p := p) (by omega) h.S hs
      rw [if_pos (nI_le (Nat.le_refl k) (by omega)), h.2.2.1, pk_mul, nI_add, show f6_put SZ (mm_rf SZ 149 5) (nI (p * stp w k + s)) (nI (lst w (cst Im p) E s k)) I Jc = some (mm_up I 155 (p * stp w k + s) (nI (lst w (cst Im p) E s k)), Jc) from by simp (disch := omega) only [↓M1, ↓ofNat_nI, L0, L1, L2, L3, L4, L5, L6, L7, L8, L9, L10, L12, L31, L32, L40, L48, L50, L99, L100, L120, L180, L256, L500, n_lt0, n_ge0, n_let, n_lef, n_ltt, n_ltf, n_eqt, n_eqf, m_lt, m_le, m_eq, m_eq2, m_le2, m_lt2, m_nle, m_nlt, if_true, if_false, eq_self, Option.bind_some, mb0, mb1, mbb, mbn0, mbn1, not_true, not_false_eq_true, reduceIte, Bool.false_eq_true, nI_add, nI_clamp, pk_mul, in_t, in_f, in_m, zr, za, at_SZ, put_SZ, rd_at, wr_at, rd_m, wr_m], Option.bind_some, nI_1]
    · have hk : k < T := by omega
      have g1 := gv_le w (cst Im p) E s k
      have g2 := lst_mM (w := w) (c := cst Im p) (s := s) (k := k) hE
      rw [if_neg (nI_ge hk (by omega)), sum_c h hp hk hs hE row, Option.bind_some, mnI (by omega) (by omega), nI_1]
      exact ih (k + 1) (by omega) (by omega)
theorem sums_mid {E : Nat → Nat} {n p : Nat} (hn : 7 ≤ n) {rec57 : Nat → Int32 → mm_I → mm_J → Option (mm_I × mm_J)} (hp : p < P) (hE : ∀ s, E s ≤ mM) : ∀ (d s : Nat) (I : mm_I), s ≤ stp w T → stp w T < s + d → pS T P N w Im I → (∀ s', s' < stp w T → I 155 ((p + 1) * stp w T + s') = nI (E s')) → (∀ s', s' < s → I 155 (p * stp w T + s') = nI (lst w (cst Im p) E s' T)) → ∃ I', f3_fillSums_63 SZ n rec57 d 149 (nI p) (nI s) I Jc = rec57 149 (nI p + (-1)) I' Jc ∧ pS T P N w Im I' ∧ (∀ r, r ≠ 155 → I' r = I r) ∧ (∀ k, (p + 1) * stp w T ≤ k → I' 155 k = I 155 k) ∧ ∀ s', s' < stp w T → I' 155 (p * stp w T + s') = nI (lst w (cst Im p) E s' T) := by
  intro d
  induction d with
  | zero => intro s I h1 h2; omega
  | succ d ih =>
    intro s I h1 h2 h row i2
    have hT := h.1.1.1.1
    have hP := h.1.1.1.2.1
    have hS := h.S
    have hm : (p + 1) * stp w T = p * stp w T + stp w T := Nat.succ_mul _ _
    have cS : f3_fillSums_63 SZ n rec57 (d + 1) 149 (nI p) (nI s) I Jc = f3_fillSums_63_b SZ n rec57 (f3_fillSums_63 SZ n rec57 d) 149 (nI p) (nI s) I Jc := rfl
    rw [cS]
    unfold f3_fillSums_63_b
    rw [h.2.2.1]
    by_cases c : s = stp w T
    · rw [if_pos (nI_le (by omega) (by omega))]
      exact ⟨I, rfl, h, fun _ _ => rfl, fun _ _ => rfl, fun s' hs' => i2 s' (by omega)⟩
    · have hs : s < stp w T := by omega
      have hx := ix_lt (p := p) (by omega) hS hs
      obtain ⟨I', g1, g2, g3, g4, g5⟩ := ih (s + 1) (mm_up I 155 (p * stp w T + s) (nI (lst w (cst Im p) E s T))) (by omega) (by omega) (h.up (Or.inl rfl)) (fun s' hs' => by rw [up_o2 (by omega)]; exact row s' hs') (fun s' hs' => by
        by_cases e : s' = s
        · subst e; exact up_s2
        · rw [up_o2 (by omega)]; exact i2 s' (by omega))
      refine ⟨I', ?_, g2, fun r hr => by rw [g3 r hr, mm_up_o hr], fun k hk => by rw [g4 k hk, up_o2 (by omega)], g5⟩
      rw [if_neg (nI_ge hs (by omega)), sum_0 h hp hs row, Option.bind_some]
      exact (sums_in h hp hs hE row n 0 (Nat.zero_le T) (by omega)).trans g1
theorem sums_out {n : Nat} (hn : 145 ≤ n) : ∀ (i d : Nat) (I : mm_I), i ≤ P → i < d → pS T P N w Im I → (∀ p', i ≤ p' → p' ≤ P → ∀ s, s < stp w T → I 155 (p' * stp w T + s) = nI (EE w T P (cst Im) (P - p') s)) → ∃ I', f3_fillSums_57 SZ n d 149 (nI i + (-1)) I Jc = some (I', Jc) ∧ pS T P N w Im I' ∧ (∀ r, r ≠ 155 → I' r = I r) ∧ ∀ p', p' ≤ P → ∀ s, s < stp w T → I' 155 (p' * stp w T + s) = nI (EE w T P (cst Im) (P - p') s) := by
  intro i
  induction i with
  | zero =>
    intro d I h1 h2 h row
    obtain ⟨d', rfl⟩ : ∃ d', d = d' + 1 := ⟨d - 1, by omega⟩
    refine ⟨I, ?_, h, fun _ _ => rfl, fun p' hp' => row p' (Nat.zero_le _) hp'⟩
    show f3_fillSums_57_b SZ n (f3_fillSums_57 SZ n d') 149 (nI 0 + (-1)) I Jc = _
    unfold f3_fillSums_57_b
    rw [if_pos (show nI 0 + (-1) < 0 by decide)]
  | succ j ih =>
    intro d I h1 h2 h row
    obtain ⟨d', rfl⟩ : ∃ d', d = d' + 1 := ⟨d - 1, by omega⟩
    have hP := h.1.1.1.2.1
    have hS := h.S
    have hm : (j + 1) * stp w T = j * stp w T + stp w T := Nat.succ_mul _ _
    obtain ⟨I1, q1, q2, q3, q4, q5⟩ := sums_mid (Jc := Jc) (n := n) (by omega) (rec57 := f3_fillSums_57 SZ n d') (show j < P by omega) (E := EE w T P (cst Im) (P - (j + 1))) (EE_le w T P (cst Im) _) n 0 I (Nat.zero_le _) (by omega) h (row (j + 1) (Nat.le_refl _) h1) (fun s' hs' => absurd hs' (Nat.not_lt_zero s'))
    have eE : ∀ s, EE w T P (cst Im) (P - j) s = lst w (cst Im j) (EE w T P (cst Im) (P - (j + 1))) s T := fun s => by
      rw [show P - j = (P - (j + 1)) + 1 by omega]
      show lst w (cst Im (P - 1 - (P - (j + 1)))) _ s T = _
      rw [show P - 1 - (P - (j + 1)) = j by omega]
    obtain ⟨I2, u1, u2, u3, u4⟩ := ih d' I1 (by omega) (by omega) q2 (fun p' h3 h4 s hs => by
      by_cases e : p' = j
      · subst e
        rw [q5 s hs, eE]
      · have : (j + 1) * stp w T ≤ p' * stp w T := Nat.mul_le_mul_right _ (by omega)
        rw [q4 _ (by omega)]
        exact row p' (by omega) h4 s hs)
    refine ⟨I2, ?_, u2, fun r hr => by rw [u3 r hr, q3 r hr], u4⟩
    show f3_fillSums_57_b SZ n (f3_fillSums_57 SZ n d') 149 (nI (j + 1) + (-1)) I Jc = _
    unfold f3_fillSums_57_b
    rw [pk_m1, if_neg (nI_pos (by omega))]
    exact q1.trans u1
theorem sums_base {n : Nat} (hn : 145 ≤ n) : ∀ (d s : Nat) (I : mm_I), s ≤ stp w T → stp w T < s + d → pS T P N w Im I → (∀ s', s' < s → I 155 (P * stp w T + s') = nI (if s' = 0 then 0 else mM)) → ∃ I', f3_fillSums_2 SZ n d 149 (nI s) I Jc = some (I', Jc) ∧ pS T P N w Im I' ∧ (∀ r, r ≠ 155 → I' r = I r) ∧ ∀ p', p' ≤ P → ∀ s, s < stp w T → I' 155 (p' * stp w T + s) = nI (EE w T P (cst Im) (P - p') s) := by
  intro d
  induction d with
  | zero => intro s I h1 h2; omega
  | succ d ih =>
    intro s I h1 h2 h i2
    have hP := h.1.1.1.2.1
    have e6 := h.1.1.1.2.2.2.2.1
    have hS := h.S
    have cS : f3_fillSums_2 SZ n (d + 1) 149 (nI s) I Jc = f3_fillSums_2_b SZ n (f3_fillSums_2 SZ n d) 149 (nI s) I Jc := rfl
    rw [cS]
    unfold f3_fillSums_2_b f3_fillSums_38
    rw [show mm_rf SZ 149 0 = 4 by simp (disch := omega) only [↓M1, ↓ofNat_nI, L0, L1, L2, L3, L4, L5, L6, L7, L8, L9, L10, L12, L31, L32, L40, L48, L50, L99, L100, L120, L180, L256, L500, n_lt0, n_ge0, n_let, n_lef, n_ltt, n_ltf, n_eqt, n_eqf, m_lt, m_le, m_eq, m_eq2, m_le2, m_lt2, m_nle, m_nlt, if_true, if_false, eq_self, Option.bind_some, mb0, mb1, mbb, mbn0, mbn1, not_true, not_false_eq_true, reduceIte, Bool.false_eq_true, nI_add, nI_clamp, pk_mul, in_t, in_f, in_m, zr, za, at_SZ, put_SZ, rd_at, wr_at, rd_m, wr_m], e6, h.2.2.1]
    by_cases c : s = stp w T
    · rw [if_pos (nI_le (by omega) (by omega)), sub_m1]
      obtain ⟨I', g1, g2, g3, g4⟩ := sums_out (Jc := Jc) hn P n I (Nat.le_refl P) (by omega) h (fun p' h3 h4 s' hs' => by
        have : p' = P := by omega
        subst this
        rw [i2 s' (by omega), Nat.sub_self]
        rfl)
      exact ⟨I', g1, g2, g3, g4⟩
    · have hs : s < stp w T := by omega
      have hx := ix_lt (p := P) (by omega) hS hs
      obtain ⟨I', g1, g2, g3, g4⟩ := ih (s + 1) (mm_up I 155 (P * stp w T + s) (nI (if s = 0 then 0 else mM))) (by omega) (by omega) (h.up (Or.inl rfl)) (fun s' hs' => by
        by_cases e : s' = s
        · subst e; exact up_s2
        · rw [up_o2 (by omega)]; exact i2 s' (by omega))
      refine ⟨I', ?_, g2, fun r hr => by rw [g3 r hr, mm_up_o hr], g4⟩
      have pO : ∀ x, f6_put SZ (mm_rf SZ 149 5) (nI (P * stp w T + s)) x I Jc = some (mm_up I 155 (P * stp w T + s) x, Jc) := fun x => by simp (disch := omega) only [↓M1, ↓ofNat_nI, L0, L1, L2, L3, L4, L5, L6, L7, L8, L9, L10, L12, L31, L32, L40, L48, L50, L99, L100, L120, L180, L256, L500, n_lt0, n_ge0, n_let, n_lef, n_ltt, n_ltf, n_eqt, n_eqf, m_lt, m_le, m_eq, m_eq2, m_le2, m_lt2, m_nle, m_nlt, if_true, if_false, eq_self, Option.bind_some, mb0, mb1, mbb, mbn0, mbn1, not_true, not_false_eq_true, reduceIte, Bool.false_eq_true, nI_add, nI_clamp, pk_mul, in_t, in_f, in_m, zr, za, at_SZ, put_SZ, rd_at, wr_at, rd_m, wr_m]
      rw [if_neg (nI_ge hs (by omega)), pk_mul, nI_add, pO, pO, Option.bind_some, Option.bind_some, nI_1]
      by_cases e : s = 0
      · rw [if_pos e] at g1
        rw [if_pos (show nI s = 0 by rw [e]; rfl)]
        exact g1
      · rw [if_neg e] at g1
        rw [if_neg (nI_ne0 (by omega) (by omega))]
        exact g1
end SUM
