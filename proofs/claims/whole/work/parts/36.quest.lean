/-! ===== part 36: what is left alone; who knows what; told, trade, person, makers (written by wip/whole/pre.py) ===== -/
theorem rAll.m {T P N : Nat} {Ic Im Im' : mm_I} (h : rAll T P N Ic Im) (e : ∀ r, 167 ≤ r → Im' r = Im r) : rAll T P N Ic Im' := by
  obtain ⟨a1, a2, a3, a4, a5, a6, a7, a8, a9, a10, a11, a12, a13, a14, a15⟩ := h
  have g : ∀ r k, 167 ≤ r → Im' r k = Im r k := fun r k hr => by rw [e r hr]
  exact ⟨a1.c rfl rfl (g 167 0 (by omega)) (g 167 2 (by omega)), a2.c rfl rfl rfl rfl (e 168 (by omega)), a3.c rfl (e 171 (by omega)), a4.c (fun _ _ => rfl) (fun k _ _ => g 167 k (by omega)), a5.c (fun _ _ => rfl) (vCur_c (fun r h1 _ => e r (by omega)) (g 167 23 (by omega))), a6.c rfl (g 167 24 (by omega)), a7.c (fun _ _ => rfl) (vTold_c (e 170 (by omega)) (e 169 (by omega))), a8.c (fun _ _ => rfl) (e 199 (by omega)) (e 200 (by omega)), a9.c (fun _ _ => rfl) (e 199 (by omega)) (e 200 (by omega)), a10.c rfl (e 200 (by omega)), a11.c rfl (e 183 (by omega)), a12.c rfl rfl rfl (g 167 48 (by omega)) (e 194 (by omega)) (e 195 (by omega)), a13.c rfl rfl rfl rfl (g 167 51 (by omega)) (e 196 (by omega)) (e 197 (by omega)) (e 198 (by omega)), a14.c rfl rfl (g 167 27 (by omega)) (e 184 (by omega)), a15.c rfl (g 167 28 (by omega))⟩
theorem rAll.k {T P N : Nat} {Ic Ic' Im : mm_I} (h : rAll T P N Ic Im) (e : ∀ r, r < 167 → Ic' r = Ic r) : rAll T P N Ic' Im := by
  obtain ⟨a1, a2, a3, a4, a5, a6, a7, a8, a9, a10, a11, a12, a13, a14, a15⟩ := h
  have g : ∀ r k, r < 167 → Ic' r k = Ic r k := fun r k hr => by rw [e r hr]
  exact ⟨a1.c (g 4 5 (by omega)) (g 4 6 (by omega)) rfl rfl, a2.c (e 6 (by omega)) (e 8 (by omega)) (e 10 (by omega)) (e 12 (by omega)) rfl, a3.c (e 14 (by omega)) rfl, a4.c (fun k _ => g 26 k (by omega)) (fun _ _ _ => rfl), a5.c (fun k _ => e _ (by omega)) rfl, a6.c (g 29 12 (by omega)) rfl, a7.c (fun k _ => e _ (by omega)) rfl, a8.c (fun k _ => e _ (by omega)) rfl rfl, a9.c (fun k _ => e _ (by omega)) rfl rfl, a10.c (g 0 19 (by omega)) rfl, a11.c (e 132 (by omega)) rfl, a12.c (g 133 6 (by omega)) (e 135 (by omega)) (e 137 (by omega)) rfl rfl rfl, a13.c (g 133 7 (by omega)) (e 141 (by omega)) (e 143 (by omega)) (e 145 (by omega)) rfl rfl rfl rfl, a14.c (g 1 1 (by omega)) (e 3 (by omega)) rfl rfl, a15.c (g 1 6 (by omega)) rfl⟩
/-- all but the Folk at F is left alone -/
def fF (F : Nat) (I I' : mm_I) : Prop := ∀ r, (r < F ∨ F + 16 < r) → I' r = I r
/-- all but the reference's people, year and seed is left alone -/
def fV (I I' : mm_I) : Prop := (∀ r, r ≠ 167 → (r < 172 ∨ 182 < r) → I' r = I r) ∧ ∀ k, k ≠ 23 → k ≠ 24 → I' 167 k = I 167 k
theorem fF.refl {F : Nat} {I : mm_I} : fF F I I := fun _ _ => rfl
theorem fV.refl {I : mm_I} : fV I I := ⟨fun _ _ _ => rfl, fun _ _ _ => rfl⟩
theorem fF.trans {F : Nat} {I I' I'' : mm_I} (h : fF F I I') (g : fF F I' I'') : fF F I I'' := fun r hr => (g r hr).trans (h r hr)
theorem fV.trans {I I' I'' : mm_I} (h : fV I I') (g : fV I' I'') : fV I I'' := ⟨fun r h1 h2 => (g.1 r h1 h2).trans (h.1 r h1 h2), fun k h1 h2 => (g.2 k h1 h2).trans (h.2 k h1 h2)⟩
theorem fF.up {F r k : Nat} {x : Int32} {I : mm_I} (h : F ≤ r ∧ r ≤ F + 16) : fF F I (mm_up I r k x) := fun q hq => mm_up_o (by omega)
theorem fV.up {r k : Nat} {x : Int32} {I : mm_I} (h : 172 ≤ r ∧ r ≤ 182) : fV I (mm_up I r k x) := ⟨fun q h1 h2 => mm_up_o (by omega), fun q _ _ => up_o2 (by omega)⟩
theorem fV.up7 {k : Nat} {x : Int32} {I : mm_I} (h : k = 23 ∨ k = 24) : fV I (mm_up I 167 k x) := ⟨fun q h1 h2 => mm_up_o h1, fun q h1 h2 => up_o2 (by omega)⟩
theorem rAll.folk {T P N N2 : Nat} {Ic Ic' Im Im' : mm_I} (h : rAll T P N Ic Im) (hN : N ≤ N2) (fc : fF 29 Ic Ic') (fm : fV Im Im') (hF : rF T P N2 29 Ic' (vCur Im')) (hS : rS Ic' Im') : rAll T P N2 Ic' Im' := by
  obtain ⟨a1, a2, a3, a4, a5, a6, a7, a8, a9, a10, a11, a12, a13, a14, a15⟩ := h.mono hN
  have e : ∀ r, (r < 29 ∨ 45 < r) → Ic' r = Ic r := fc
  have e2 := fm.1
  have g : ∀ r k, (r < 29 ∨ 45 < r) → Ic' r k = Ic r k := fun r k hr => by rw [e r hr]
  exact ⟨a1.c (g 4 5 (by omega)) (g 4 6 (by omega)) (fm.2 0 (by omega) (by omega)) (fm.2 2 (by omega) (by omega)), a2.c (e 6 (by omega)) (e 8 (by omega)) (e 10 (by omega)) (e 12 (by omega)) (e2 168 (by omega) (by omega)), a3.c (e 14 (by omega)) (e2 171 (by omega) (by omega)), a4.c (fun k _ => g 26 k (by omega)) (fun k h1 h2 => fm.2 k (by omega) (by omega)), hF, hS, a7.c (fun k _ => e _ (by omega)) (vTold_c (e2 170 (by omega) (by omega)) (e2 169 (by omega) (by omega))), a8.c (fun k _ => e _ (by omega)) (e2 199 (by omega) (by omega)) (e2 200 (by omega) (by omega)), a9.c (fun k _ => e _ (by omega)) (e2 199 (by omega) (by omega)) (e2 200 (by omega) (by omega)), a10.c (g 0 19 (by omega)) (e2 200 (by omega) (by omega)), a11.c (e 132 (by omega)) (e2 183 (by omega) (by omega)), a12.c (g 133 6 (by omega)) (e 135 (by omega)) (e 137 (by omega)) (fm.2 48 (by omega) (by omega)) (e2 194 (by omega) (by omega)) (e2 195 (by omega) (by omega)), a13.c (g 133 7 (by omega)) (e 141 (by omega)) (e 143 (by omega)) (e 145 (by omega)) (fm.2 51 (by omega) (by omega)) (e2 196 (by omega) (by omega)) (e2 197 (by omega) (by omega)) (e2 198 (by omega) (by omega)), a14.c (g 1 1 (by omega)) (e 3 (by omega)) (fm.2 27 (by omega) (by omega)) (e2 184 (by omega) (by omega)), a15.c (g 1 6 (by omega)) (fm.2 28 (by omega) (by omega))⟩
/-! sets of people and of trades -/
theorem with_loop {n F t : Nat} (hF : isF F) (ht : t < 6) {x : Int32} {I : mm_I} {J : mm_J} : ∀ (d k : Nat), k ≤ 8 → 8 < k + d → f1_withSkill_5 SZ n d F (nI t) x (bsI (fun p => decide (x ≤ I (F + 4) (6 * p + t))) k) (nI k) I J = some (bsI (fun p => decide (x ≤ I (F + 4) (6 * p + t))) 8) := by
  intro d
  induction d with
  | zero => intro k h1 h2; omega
  | succ d ih =>
    intro k h1 h2
    show f1_withSkill_5_b SZ n (f1_withSkill_5 SZ n d) _ _ _ _ _ I J = _
    unfold f1_withSkill_5_b f1_withSkill_30
    by_cases h : k = 8
    · subst h
      simp (disch := omega) only [↓M1, ↓ofNat_nI, L0, L1, L2, L3, L4, L5, L6, L7, L8, L9, L10, L12, L31, L32, L40, L48, L50, L99, L100, L120, L180, L256, L500, n_lt0, n_ge0, n_let, n_lef, n_ltt, n_ltf, n_eqt, n_eqf, m_lt, m_le, m_eq, m_eq2, m_le2, m_lt2, m_nle, m_nlt, if_true, if_false, eq_self, Option.bind_some, mb0, mb1, mbb, mbn0, mbn1, not_true, not_false_eq_true, reduceIte, Bool.false_eq_true, nI_add, nI_clamp, pk_mul, in_t, in_f, in_m, zr, za, at_SZ, put_SZ, rd_at, wr_at, rd_m, wr_m]
    · simp (disch := omega) only [↓M1, ↓ofNat_nI, L0, L1, L2, L3, L4, L5, L6, L7, L8, L9, L10, L12, L31, L32, L40, L48, L50, L99, L100, L120, L180, L256, L500, n_lt0, n_ge0, n_let, n_lef, n_ltt, n_ltf, n_eqt, n_eqf, m_lt, m_le, m_eq, m_eq2, m_le2, m_lt2, m_nle, m_nlt, if_true, if_false, eq_self, Option.bind_some, mb0, mb1, mbb, mbn0, mbn1, not_true, not_false_eq_true, reduceIte, Bool.false_eq_true, nI_add, nI_clamp, pk_mul, in_t, in_f, in_m, zr, za, at_SZ, put_SZ, rd_at, wr_at, rd_m, wr_m, skillOf_eq hF]
      by_cases hc : I (F + 4) (6 * k + t) < x
      · rw [if_pos hc, bsI_f (P := fun p => decide (x ≤ I (F + 4) (6 * p + t))) (decide_eq_false (Int32.not_le.mpr hc))]
        exact ih (k + 1) (by omega) (by omega)
      · rw [if_neg hc, bsI_t (P := fun p => decide (x ≤ I (F + 4) (6 * p + t))) (decide_eq_true (Int32.not_lt.mp hc))]
        exact ih (k + 1) (by omega) (by omega)
theorem with_eq {n F t : Nat} (hn : 9 ≤ n) (hF : isF F) (ht : t < 6) {x : Int32} {I : mm_I} {J : mm_J} : f1_withSkill SZ n F (nI t) x I J = some (bsI (fun p => decide (x ≤ I (F + 4) (6 * p + t))) 8) := with_loop hF ht n 0 (by omega) (by omega)
theorem knw_loop {n t P : Nat} (ht : t < 6) (hP : P ≤ 8) {x : Int32} {I : mm_I} {J : mm_J} (hp : I 167 2 = nI P) : ∀ (d k : Nat), k ≤ P → P < k + d → f11_knowers_5 SZ n d 167 (nI t) x (bsI (fun p => !decide (I 173 p = nI 0) && decide (x ≤ I 174 (6 * p + t))) k) (nI k) I J = some (bsI (fun p => !decide (I 173 p = nI 0) && decide (x ≤ I 174 (6 * p + t))) P) := by
  intro d
  induction d with
  | zero => intro k h1 h2; omega
  | succ d ih =>
    intro k h1 h2
    show f11_knowers_5_b SZ n (f11_knowers_5 SZ n d) _ _ _ _ _ I J = _
    unfold f11_knowers_5_b f11_knowers_48 f11_knowers_49
    rw [hp]
    by_cases h : k = P
    · subst h
      simp (disch := omega) only [↓M1, ↓ofNat_nI, L0, L1, L2, L3, L4, L5, L6, L7, L8, L9, L10, L12, L31, L32, L40, L48, L50, L99, L100, L120, L180, L256, L500, n_lt0, n_ge0, n_let, n_lef, n_ltt, n_ltf, n_eqt, n_eqf, m_lt, m_le, m_eq, m_eq2, m_le2, m_lt2, m_nle, m_nlt, if_true, if_false, eq_self, Option.bind_some, mb0, mb1, mbb, mbn0, mbn1, not_true, not_false_eq_true, reduceIte, Bool.false_eq_true, nI_add, nI_clamp, pk_mul, in_t, in_f, in_m, zr, za, at_SZ, put_SZ, rd_at, wr_at, rd_m, wr_m]
    · simp (disch := omega) only [↓M1, ↓ofNat_nI, L0, L1, L2, L3, L4, L5, L6, L7, L8, L9, L10, L12, L31, L32, L40, L48, L50, L99, L100, L120, L180, L256, L500, n_lt0, n_ge0, n_let, n_lef, n_ltt, n_ltf, n_eqt, n_eqf, m_lt, m_le, m_eq, m_eq2, m_le2, m_lt2, m_nle, m_nlt, if_true, if_false, eq_self, Option.bind_some, mb0, mb1, mbb, mbn0, mbn1, not_true, not_false_eq_true, reduceIte, Bool.false_eq_true, nI_add, nI_clamp, pk_mul, in_t, in_f, in_m, zr, za, at_SZ, put_SZ, rd_at, wr_at, rd_m, wr_m, or_0]
      by_cases hl : I 173 k = nI 0
      · rw [if_pos hl, bsI_f (P := fun p => !decide (I 173 p = nI 0) && decide (x ≤ I 174 (6 * p + t))) (by simp [hl])]
        exact ih (k + 1) (by omega) (by omega)
      · rw [if_neg hl]
        by_cases hc : I 174 (6 * k + t) < x
        · rw [if_pos hc, bsI_f (P := fun p => !decide (I 173 p = nI 0) && decide (x ≤ I 174 (6 * p + t))) (by simp [hl, Int32.not_le.mpr hc])]
          exact ih (k + 1) (by omega) (by omega)
        · rw [if_neg hc, bsI_t (P := fun p => !decide (I 173 p = nI 0) && decide (x ≤ I 174 (6 * p + t))) (by simp [hl, Int32.not_lt.mp hc])]
          exact ih (k + 1) (by omega) (by omega)
theorem knw_eq {n t P : Nat} (hn : 9 ≤ n) (ht : t < 6) (hP : P ≤ 8) {x : Int32} {I : mm_I} {J : mm_J} (hp : I 167 2 = nI P) : f11_knowers SZ n 167 (nI t) x I J = some (bsI (fun p => !decide (I 173 p = nI 0) && decide (x ≤ I 174 (6 * p + t))) P) := knw_loop ht hP hp n 0 (by omega) (by omega)
theorem liv_loop {n P : Nat} (hP : P ≤ 8) {I : mm_I} {J : mm_J} (hp : I 167 2 = nI P) : ∀ (d k : Nat), k ≤ P → P < k + d → f11_livesSet_4 SZ n d 167 (bsI (fun p => !decide (I 173 p = nI 0)) k) (nI k) I J = some (bsI (fun p => !decide (I 173 p = nI 0)) P) := by
  intro d
  induction d with
  | zero => intro k h1 h2; omega
  | succ d ih =>
    intro k h1 h2
    show f11_livesSet_4_b SZ n (f11_livesSet_4 SZ n d) _ _ _ I J = _
    unfold f11_livesSet_4_b f11_livesSet_29
    rw [hp]
    by_cases h : k = P
    · subst h
      simp (disch := omega) only [↓M1, ↓ofNat_nI, L0, L1, L2, L3, L4, L5, L6, L7, L8, L9, L10, L12, L31, L32, L40, L48, L50, L99, L100, L120, L180, L256, L500, n_lt0, n_ge0, n_let, n_lef, n_ltt, n_ltf, n_eqt, n_eqf, m_lt, m_le, m_eq, m_eq2, m_le2, m_lt2, m_nle, m_nlt, if_true, if_false, eq_self, Option.bind_some, mb0, mb1, mbb, mbn0, mbn1, not_true, not_false_eq_true, reduceIte, Bool.false_eq_true, nI_add, nI_clamp, pk_mul, in_t, in_f, in_m, zr, za, at_SZ, put_SZ, rd_at, wr_at, rd_m, wr_m]
    · simp (disch := omega) only [↓M1, ↓ofNat_nI, L0, L1, L2, L3, L4, L5, L6, L7, L8, L9, L10, L12, L31, L32, L40, L48, L50, L99, L100, L120, L180, L256, L500, n_lt0, n_ge0, n_let, n_lef, n_ltt, n_ltf, n_eqt, n_eqf, m_lt, m_le, m_eq, m_eq2, m_le2, m_lt2, m_nle, m_nlt, if_true, if_false, eq_self, Option.bind_some, mb0, mb1, mbb, mbn0, mbn1, not_true, not_false_eq_true, reduceIte, Bool.false_eq_true, nI_add, nI_clamp, pk_mul, in_t, in_f, in_m, zr, za, at_SZ, put_SZ, rd_at, wr_at, rd_m, wr_m, or_0]
      by_cases hl : I 173 k = nI 0
      · rw [if_pos hl, bsI_f (P := fun p => !decide (I 173 p = nI 0)) (by simp [hl])]
        exact ih (k + 1) (by omega) (by omega)
      · rw [if_neg hl, bsI_t (P := fun p => !decide (I 173 p = nI 0)) (by simp [hl])]
        exact ih (k + 1) (by omega) (by omega)
theorem liv_eq {n P : Nat} (hn : 9 ≤ n) (hP : P ≤ 8) {I : mm_I} {J : mm_J} (hp : I 167 2 = nI P) : f11_livesSet SZ n 167 I J = some (bsI (fun p => !decide (I 173 p = nI 0)) P) := liv_loop hP hp n 0 (by omega) (by omega)
/-! the same of both -/
theorem b01_n (b : Bool) : decide (b01 b = nI 0) = !b := by cases b <;> decide
theorem rF.liv {T P N F : Nat} {Ic : mm_I} {v : vw} (h : rF T P N F Ic v) (hP : P ≤ 8) : Ic F 8 = bsI (fun p => !decide (v.1 3 p = nI 0)) P := by
  obtain ⟨h1, h2, h3, h4, h5, h6, ⟨Lv, l1, l2, l3, l4⟩, -⟩ := h
  rw [l1, bsI_wid hP]
  refine bsI_congr (fun p hp => ?_)
  show Lv p = (decide (p < P) && !decide (v.1 3 p = nI 0))
  rw [l2 p hp, b01_n, Bool.not_not]
  by_cases q : p < P
  · simp [q]
  · simp [q, l3 p (by omega)]
theorem nle0 {x : Int32} (hx : 0 < x) : decide (x ≤ 0) = false := decide_eq_false (Int32.not_le.mpr hx)
theorem rF.wit {T P N F : Nat} {Ic : mm_I} {v : vw} (h : rF T P N F Ic v) (hP : P ≤ 8) {t : Nat} (ht : t < 6) {x : Int32} (hx : 0 < x) : bsI (fun p => decide (x ≤ Ic (F + 4) (6 * p + t))) 8 = bsI (fun p => !decide (v.1 3 p = nI 0) && decide (x ≤ v.1 0 (6 * p + t))) P := by
  obtain ⟨h1, h2, h3, h4, h5, h6, ⟨Lv, l1, l2, l3, l4⟩, -⟩ := h
  rw [bsI_wid hP]
  refine bsI_congr (fun p hp => ?_)
  show decide (x ≤ Ic (F + 4) (6 * p + t)) = (decide (p < P) && (!decide (v.1 3 p = nI 0) && decide (x ≤ v.1 0 (6 * p + t))))
  rw [l2 p hp, b01_n, Bool.not_not, (h1 (6 * p + t) (by omega)).1]
  by_cases q : p < P
  · cases hl : Lv p
    · rw [(l4 p q hl).1 t ht, nle0 hx]
      simp
    · simp [q]
  · rw [h2 p t hp ht (Or.inl (by omega)), nle0 hx]
    simp [q]
theorem kb_loop {n F p : Nat} (hF : isF F) (hp : p < 8) {I : mm_I} {J : mm_J} : ∀ (d k : Nat), k ≤ 6 → 6 < k + d → f1_knownBy_4 SZ n d F (nI p) (bsI (fun t => decide (nI 0 < I (F + 4) (6 * p + t))) k) (nI k) I J = some (bsI (fun t => decide (nI 0 < I (F + 4) (6 * p + t))) 6) := by
  intro d
  induction d with
  | zero => intro k h1 h2; omega
  | succ d ih =>
    intro k h1 h2
    show f1_knownBy_4_b SZ n (f1_knownBy_4 SZ n d) _ _ _ _ I J = _
    unfold f1_knownBy_4_b f1_knownBy_31
    by_cases h : k = 6
    · subst h
      simp (disch := omega) only [↓M1, ↓ofNat_nI, L0, L1, L2, L3, L4, L5, L6, L7, L8, L9, L10, L12, L31, L32, L40, L48, L50, L99, L100, L120, L180, L256, L500, n_lt0, n_ge0, n_let, n_lef, n_ltt, n_ltf, n_eqt, n_eqf, m_lt, m_le, m_eq, m_eq2, m_le2, m_lt2, m_nle, m_nlt, if_true, if_false, eq_self, Option.bind_some, mb0, mb1, mbb, mbn0, mbn1, not_true, not_false_eq_true, reduceIte, Bool.false_eq_true, nI_add, nI_clamp, pk_mul, in_t, in_f, in_m, zr, za, at_SZ, put_SZ, rd_at, wr_at, rd_m, wr_m]
    · simp (disch := omega) only [↓M1, ↓ofNat_nI, L0, L1, L2, L3, L4, L5, L6, L7, L8, L9, L10, L12, L31, L32, L40, L48, L50, L99, L100, L120, L180, L256, L500, n_lt0, n_ge0, n_let, n_lef, n_ltt, n_ltf, n_eqt, n_eqf, m_lt, m_le, m_eq, m_eq2, m_le2, m_lt2, m_nle, m_nlt, if_true, if_false, eq_self, Option.bind_some, mb0, mb1, mbb, mbn0, mbn1, not_true, not_false_eq_true, reduceIte, Bool.false_eq_true, nI_add, nI_clamp, pk_mul, in_t, in_f, in_m, zr, za, at_SZ, put_SZ, rd_at, wr_at, rd_m, wr_m, f10_cell_eq, zF hF]
      by_cases hc : I (F + 4) (6 * p + k) ≤ nI 0
      · rw [if_pos hc, bsI_f (P := fun t => decide (nI 0 < I (F + 4) (6 * p + t))) (decide_eq_false (Int32.not_lt.mpr hc))]
        exact ih (k + 1) (by omega) (by omega)
      · rw [if_neg hc, bsI_t (P := fun t => decide (nI 0 < I (F + 4) (6 * p + t))) (decide_eq_true (Int32.not_le.mp hc))]
        exact ih (k + 1) (by omega) (by omega)
theorem kb_eq {n F p : Nat} (hn : 7 ≤ n) (hF : isF F) (hp : p < 8) {I : mm_I} {J : mm_J} : f1_knownBy SZ n F (nI p) I J = some (bsI (fun t => decide (nI 0 < I (F + 4) (6 * p + t))) 6) := kb_loop hF hp n 0 (by omega) (by omega)
theorem mKn {p t : Nat} (hp : p < 8) (ht : t < 6) {I : mm_I} {J : mm_J} : f11_knows SZ 167 (nI p) (nI t) I J = some (b01 (decide (nI 0 < I 174 (6 * p + t)))) := by
  unfold f11_knows f11_knows_19
  simp (disch := omega) only [↓M1, ↓ofNat_nI, L0, L1, L2, L3, L4, L5, L6, L7, L8, L9, L10, L12, L31, L32, L40, L48, L50, L99, L100, L120, L180, L256, L500, n_lt0, n_ge0, n_let, n_lef, n_ltt, n_ltf, n_eqt, n_eqf, m_lt, m_le, m_eq, m_eq2, m_le2, m_lt2, m_nle, m_nlt, if_true, if_false, eq_self, Option.bind_some, mb0, mb1, mbb, mbn0, mbn1, not_true, not_false_eq_true, reduceIte, Bool.false_eq_true, nI_add, nI_clamp, pk_mul, in_t, in_f, in_m, zr, za, at_SZ, put_SZ, rd_at, wr_at, rd_m, wr_m]
  by_cases hc : I 174 (6 * p + t) ≤ nI 0
  · rw [if_pos hc, decide_eq_false (Int32.not_lt.mpr hc)]; rfl
  · rw [if_neg hc, decide_eq_true (Int32.not_le.mp hc)]; rfl
theorem cKn {F p t : Nat} (hF : isF F) (hp : p < 8) (ht : t < 6) {I : mm_I} {J : mm_J} : f1_knows SZ F (nI p) (nI t) I J = some (b01 (decide (nI 0 < I (F + 4) (6 * p + t)))) := by
  unfold f1_knows f1_knows_20
  simp (disch := omega) only [↓M1, ↓ofNat_nI, L0, L1, L2, L3, L4, L5, L6, L7, L8, L9, L10, L12, L31, L32, L40, L48, L50, L99, L100, L120, L180, L256, L500, n_lt0, n_ge0, n_let, n_lef, n_ltt, n_ltf, n_eqt, n_eqf, m_lt, m_le, m_eq, m_eq2, m_le2, m_lt2, m_nle, m_nlt, if_true, if_false, eq_self, Option.bind_some, mb0, mb1, mbb, mbn0, mbn1, not_true, not_false_eq_true, reduceIte, Bool.false_eq_true, nI_add, nI_clamp, pk_mul, in_t, in_f, in_m, zr, za, at_SZ, put_SZ, rd_at, wr_at, rd_m, wr_m, f10_cell_eq, zF hF]
  by_cases hc : I (F + 4) (6 * p + t) ≤ nI 0
  · rw [if_pos hc, decide_eq_false (Int32.not_lt.mpr hc)]; rfl
  · rw [if_neg hc, decide_eq_true (Int32.not_le.mp hc)]; rfl
theorem ks_loop {n T p : Nat} (hT : T ≤ 6) (hp : p < 8) {I : mm_I} {J : mm_J} (h0 : I 167 0 = nI T) : ∀ (d k : Nat), k ≤ T → T < k + d → f11_knownSet_4 SZ n d 167 (nI p) (bsI (fun t => decide (nI 0 < I 174 (6 * p + t))) k) (nI k) I J = some (bsI (fun t => decide (nI 0 < I 174 (6 * p + t))) T) := by
  intro d
  induction d with
  | zero => intro k h1 h2; omega
  | succ d ih =>
    intro k h1 h2
    show f11_knownSet_4_b SZ n (f11_knownSet_4 SZ n d) _ _ _ _ I J = _
    unfold f11_knownSet_4_b f11_knownSet_29
    rw [h0]
    by_cases h : k = T
    · subst h
      simp (disch := omega) only [↓M1, ↓ofNat_nI, L0, L1, L2, L3, L4, L5, L6, L7, L8, L9, L10, L12, L31, L32, L40, L48, L50, L99, L100, L120, L180, L256, L500, n_lt0, n_ge0, n_let, n_lef, n_ltt, n_ltf, n_eqt, n_eqf, m_lt, m_le, m_eq, m_eq2, m_le2, m_lt2, m_nle, m_nlt, if_true, if_false, eq_self, Option.bind_some, mb0, mb1, mbb, mbn0, mbn1, not_true, not_false_eq_true, reduceIte, Bool.false_eq_true, nI_add, nI_clamp, pk_mul, in_t, in_f, in_m, zr, za, at_SZ, put_SZ, rd_at, wr_at, rd_m, wr_m]
    · simp (disch := omega) only [↓M1, ↓ofNat_nI, L0, L1, L2, L3, L4, L5, L6, L7, L8, L9, L10, L12, L31, L32, L40, L48, L50, L99, L100, L120, L180, L256, L500, n_lt0, n_ge0, n_let, n_lef, n_ltt, n_ltf, n_eqt, n_eqf, m_lt, m_le, m_eq, m_eq2, m_le2, m_lt2, m_nle, m_nlt, if_true, if_false, eq_self, Option.bind_some, mb0, mb1, mbb, mbn0, mbn1, not_true, not_false_eq_true, reduceIte, Bool.false_eq_true, nI_add, nI_clamp, pk_mul, in_t, in_f, in_m, zr, za, at_SZ, put_SZ, rd_at, wr_at, rd_m, wr_m, or_0, mKn, b01_e]
      by_cases hc : decide (nI 0 < I 174 (6 * p + k)) = true
      · rw [if_neg (by rw [hc]; decide), bsI_t (P := fun t => decide (nI 0 < I 174 (6 * p + t))) hc]
        exact ih (k + 1) (by omega) (by omega)
      · have hc : decide (nI 0 < I 174 (6 * p + k)) = false := eq_false_of_ne_true hc
        rw [if_pos hc, bsI_f (P := fun t => decide (nI 0 < I 174 (6 * p + t))) hc]
        exact ih (k + 1) (by omega) (by omega)
theorem ks_eq {n T p : Nat} (hn : 7 ≤ n) (hT : T ≤ 6) (hp : p < 8) {I : mm_I} {J : mm_J} (h0 : I 167 0 = nI T) : f11_knownSet SZ n 167 (nI p) I J = some (bsI (fun t => decide (nI 0 < I 174 (6 * p + t))) T) := ks_loop hT hp h0 n 0 (by omega) (by omega)
theorem rF.kno {T P N F : Nat} {Ic : mm_I} {v : vw} (h : rF T P N F Ic v) (hT : T ≤ 6) {p : Nat} (hp : p < 8) : bsI (fun t => decide (nI 0 < Ic (F + 4) (6 * p + t))) 6 = bsI (fun t => decide (nI 0 < v.1 0 (6 * p + t))) T := by
  obtain ⟨h1, h2, -⟩ := h
  rw [bsI_wid hT]
  refine bsI_congr (fun t ht => ?_)
  show decide (nI 0 < Ic (F + 4) (6 * p + t)) = (decide (t < T) && decide (nI 0 < v.1 0 (6 * p + t)))
  rw [(h1 (6 * p + t) (by omega)).1]
  by_cases q : t < T
  · simp [q]
  · rw [h2 p t hp ht (Or.inr (by omega))]
    simp [q]
    decide
theorem dt_loop {n L R F T : Nat} (hn : 9 ≤ n) (hL : isL L R F) (hT : T ≤ 6) {I : mm_I} {J : mm_J} (h0 : I 4 5 = nI T) : ∀ (d k : Nat), k ≤ T → T < k + d → f2_deadTrades_4 SZ n d L (bsI (fun t => decide (bsI (fun p => decide (nI 1 ≤ I (F + 4) (6 * p + t))) 8 = nI 0)) k) (nI k) I J = some (bsI (fun t => decide (bsI (fun p => decide (nI 1 ≤ I (F + 4) (6 * p + t))) 8 = nI 0)) T) := by
  intro d
  induction d with
  | zero => intro k h1 h2; omega
  | succ d ih =>
    intro k h1 h2
    show f2_deadTrades_4_b SZ n (f2_deadTrades_4 SZ n d) _ _ _ I J = _
    unfold f2_deadTrades_4_b f2_deadTrades_33
    rw [(zL hL).1, (zL hL).2.2, h0]
    by_cases h : k = T
    · subst h
      simp (disch := omega) only [↓M1, ↓ofNat_nI, L0, L1, L2, L3, L4, L5, L6, L7, L8, L9, L10, L12, L31, L32, L40, L48, L50, L99, L100, L120, L180, L256, L500, n_lt0, n_ge0, n_let, n_lef, n_ltt, n_ltf, n_eqt, n_eqf, m_lt, m_le, m_eq, m_eq2, m_le2, m_lt2, m_nle, m_nlt, if_true, if_false, eq_self, Option.bind_some, mb0, mb1, mbb, mbn0, mbn1, not_true, not_false_eq_true, reduceIte, Bool.false_eq_true, nI_add, nI_clamp, pk_mul, in_t, in_f, in_m, zr, za, at_SZ, put_SZ, rd_at, wr_at, rd_m, wr_m]
    · simp (disch := omega) only [↓M1, ↓ofNat_nI, L0, L1, L2, L3, L4, L5, L6, L7, L8, L9, L10, L12, L31, L32, L40, L48, L50, L99, L100, L120, L180, L256, L500, n_lt0, n_ge0, n_let, n_lef, n_ltt, n_ltf, n_eqt, n_eqf, m_lt, m_le, m_eq, m_eq2, m_le2, m_lt2, m_nle, m_nlt, if_true, if_false, eq_self, Option.bind_some, mb0, mb1, mbb, mbn0, mbn1, not_true, not_false_eq_true, reduceIte, Bool.false_eq_true, nI_add, nI_clamp, pk_mul, in_t, in_f, in_m, zr, za, at_SZ, put_SZ, rd_at, wr_at, rd_m, wr_m, with_eq hn hL.f]
      by_cases hc : bsI (fun p => decide (nI 1 ≤ I (F + 4) (6 * p + k))) 8 = nI 0
      · rw [if_pos hc, bsI_t (P := fun t => decide (bsI (fun p => decide (nI 1 ≤ I (F + 4) (6 * p + t))) 8 = nI 0)) (decide_eq_true hc)]
        exact ih (k + 1) (by omega) (by omega)
      · rw [if_neg hc, bsI_f (P := fun t => decide (bsI (fun p => decide (nI 1 ≤ I (F + 4) (6 * p + t))) 8 = nI 0)) (decide_eq_false hc)]
        exact ih (k + 1) (by omega) (by omega)
theorem dt_eq {n L R F T : Nat} (hn : 9 ≤ n) (hL : isL L R F) (hT : T ≤ 6) {I : mm_I} {J : mm_J} (h0 : I 4 5 = nI T) : f2_deadTrades SZ n L I J = some (bsI (fun t => decide (bsI (fun p => decide (nI 1 ≤ I (F + 4) (6 * p + t))) 8 = nI 0)) T) := dt_loop hn hL hT h0 n 0 (by omega) (by omega)
theorem ds_loop {n T P : Nat} (hn : 9 ≤ n) (hT : T ≤ 6) (hP : P ≤ 8) {I : mm_I} {J : mm_J} (h0 : I 167 0 = nI T) (h2 : I 167 2 = nI P) : ∀ (d k : Nat), k ≤ T → T < k + d → f11_deadSet_4 SZ n d 167 (bsI (fun t => decide (bsI (fun p => !decide (I 173 p = nI 0) && decide (nI 1 ≤ I 174 (6 * p + t))) P = nI 0)) k) (nI k) I J = some (bsI (fun t => decide (bsI (fun p => !decide (I 173 p = nI 0) && decide (nI 1 ≤ I 174 (6 * p + t))) P = nI 0)) T) := by
  intro d
  induction d with
  | zero => intro k h1 h2; omega
  | succ d ih =>
    intro k h1 h3
    show f11_deadSet_4_b SZ n (f11_deadSet_4 SZ n d) _ _ _ I J = _
    unfold f11_deadSet_4_b f11_deadSet_29
    rw [h0]
    by_cases h : k = T
    · subst h
      simp (disch := omega) only [↓M1, ↓ofNat_nI, L0, L1, L2, L3, L4, L5, L6, L7, L8, L9, L10, L12, L31, L32, L40, L48, L50, L99, L100, L120, L180, L256, L500, n_lt0, n_ge0, n_let, n_lef, n_ltt, n_ltf, n_eqt, n_eqf, m_lt, m_le, m_eq, m_eq2, m_le2, m_lt2, m_nle, m_nlt, if_true, if_false, eq_self, Option.bind_some, mb0, mb1, mbb, mbn0, mbn1, not_true, not_false_eq_true, reduceIte, Bool.false_eq_true, nI_add, nI_clamp, pk_mul, in_t, in_f, in_m, zr, za, at_SZ, put_SZ, rd_at, wr_at, rd_m, wr_m]
    · simp (disch := omega) only [↓M1, ↓ofNat_nI, L0, L1, L2, L3, L4, L5, L6, L7, L8, L9, L10, L12, L31, L32, L40, L48, L50, L99, L100, L120, L180, L256, L500, n_lt0, n_ge0, n_let, n_lef, n_ltt, n_ltf, n_eqt, n_eqf, m_lt, m_le, m_eq, m_eq2, m_le2, m_lt2, m_nle, m_nlt, if_true, if_false, eq_self, Option.bind_some, mb0, mb1, mbb, mbn0, mbn1, not_true, not_false_eq_true, reduceIte, Bool.false_eq_true, nI_add, nI_clamp, pk_mul, in_t, in_f, in_m, zr, za, at_SZ, put_SZ, rd_at, wr_at, rd_m, wr_m, knw_eq hn (t := k) (by omega) hP h2, or_0]
      by_cases hc : bsI (fun p => !decide (I 173 p = nI 0) && decide (nI 1 ≤ I 174 (6 * p + k))) P = nI 0
      · rw [if_pos hc, bsI_t (P := fun t => decide (bsI (fun p => !decide (I 173 p = nI 0) && decide (nI 1 ≤ I 174 (6 * p + t))) P = nI 0)) (decide_eq_true hc)]
        exact ih (k + 1) (by omega) (by omega)
      · rw [if_neg hc, bsI_f (P := fun t => decide (bsI (fun p => !decide (I 173 p = nI 0) && decide (nI 1 ≤ I 174 (6 * p + t))) P = nI 0)) (decide_eq_false hc)]
        exact ih (k + 1) (by omega) (by omega)
theorem ds_eq {n T P : Nat} (hn : 9 ≤ n) (hT : T ≤ 6) (hP : P ≤ 8) {I : mm_I} {J : mm_J} (h0 : I 167 0 = nI T) (h2 : I 167 2 = nI P) : f11_deadSet SZ n 167 I J = some (bsI (fun t => decide (bsI (fun p => !decide (I 173 p = nI 0) && decide (nI 1 ≤ I 174 (6 * p + t))) P = nI 0)) T) := ds_loop hn hT hP h0 h2 n 0 (by omega) (by omega)
theorem rF.ded {T P N F : Nat} {Ic : mm_I} {v : vw} (h : rF T P N F Ic v) (hT : T ≤ 6) (hP : P ≤ 8) : bsI (fun t => decide (bsI (fun p => decide (nI 1 ≤ Ic (F + 4) (6 * p + t))) 8 = nI 0)) T = bsI (fun t => decide (bsI (fun p => !decide (v.1 3 p = nI 0) && decide (nI 1 ≤ v.1 0 (6 * p + t))) P = nI 0)) T :=
  bsI_congr (fun t ht => by
    show decide (_ = _) = decide (_ = _)
    rw [h.wit hP (t := t) (by omega) (by decide)])
