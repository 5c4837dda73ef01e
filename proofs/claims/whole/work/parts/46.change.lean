/-! ===== part 46: what a Life has; may one learn (written by wip/whole/pre.py) ===== -/
def rG (R : Nat) (Ic Im : mm_I) : Prop := (∃ h, 1 ≤ h ∧ h ≤ 6 ∧ Ic R 0 = nI h ∧ Im 167 6 = nI h) ∧ (∃ h, h ≤ 3 ∧ Ic R 1 = nI h ∧ Im 167 7 = nI h) ∧ (∃ h, 1 ≤ h ∧ h ≤ 100 ∧ Ic R 2 = nI h ∧ Im 167 8 = nI h) ∧ (∃ h, h ≤ 100 ∧ Ic R 3 = nI h ∧ Im 167 9 = nI h) ∧ (∃ h, 1 ≤ h ∧ h ≤ 120 ∧ Ic R 4 = nI h ∧ Im 167 10 = nI h) ∧ ∃ b : Bool, Ic R 5 = b01 b ∧ Im 167 11 = b01 b
theorem rR.g {Ic Im : mm_I} (h : rR Ic Im) : rG 26 Ic Im := h
/-- a Life's own and the reference's tell of the same -/
def rLf (T P N R F : Nat) (Ic Im : mm_I) : Prop := rT T P Ic Im ∧ rC T Ic Im ∧ rL Ic Im ∧ rG R Ic Im ∧ rF T P N F Ic (vCur Im)
theorem isL.r {L R F : Nat} (h : isL L R F) : 26 ≤ R ∧ R ≤ 28 ∧ 29 ≤ F ∧ F ≤ 80 := by
  rcases h with ⟨-, rfl, rfl⟩ | ⟨-, rfl, rfl⟩ <;> omega
/-- what a Folk's change and the people's leave -/
theorem rLf.go {T P N N2 L R F : Nat} {Ic Ic' Im Im' : mm_I} (hL : isL L R F) (h : rLf T P N R F Ic Im) (fc : fF F Ic Ic') (fm : fV Im Im') (hF : rF T P N2 F Ic' (vCur Im')) : rLf T P N2 R F Ic' Im' := by
  obtain ⟨a1, a2, a3, a4, a5⟩ := h
  have hr := hL.r
  have e : ∀ r, (r < F ∨ F + 16 < r) → Ic' r = Ic r := fc
  have e2 := fm.1
  have g : ∀ r k, (r < F ∨ F + 16 < r) → Ic' r k = Ic r k := fun r k hr => by rw [e r hr]
  refine ⟨a1.c (g 4 5 (by omega)) (g 4 6 (by omega)) (fm.2 0 (by omega) (by omega)) (fm.2 2 (by omega) (by omega)), a2.c (e 6 (by omega)) (e 8 (by omega)) (e 10 (by omega)) (e 12 (by omega)) (e2 168 (by omega) (by omega)), a3.c (e 14 (by omega)) (e2 171 (by omega) (by omega)), ?_, hF⟩
  unfold rG at *
  rw [g R 0 (by omega), g R 1 (by omega), g R 2 (by omega), g R 3 (by omega), g R 4 (by omega), g R 5 (by omega), fm.2 6 (by omega) (by omega), fm.2 7 (by omega) (by omega), fm.2 8 (by omega) (by omega), fm.2 9 (by omega) (by omega), fm.2 10 (by omega) (by omega), fm.2 11 (by omega) (by omega)]
  exact a4
section LF
variable {T P N L R F : Nat} {Ic Im : mm_I} {Jc Jm : mm_J}
theorem rF.s (h : rF T P N F Ic (vCur Im)) {p t : Nat} (hp : p < 8) (ht : t < 6) : ∃ s, s ≤ 100 ∧ Ic (F + 4) (6 * p + t) = nI s ∧ Im 174 (6 * p + t) = nI s := by
  obtain ⟨e1, s, hs, e2⟩ := h.1 (6 * p + t) (by omega)
  exact ⟨s, hs, e1.trans e2, e2⟩
theorem rF.l (h : rF T P N F Ic (vCur Im)) : ∃ Lv : Nat → Bool, (∀ p, p < 8 → ∀ J, f1_lives SZ F (nI p) Ic J = some (b01 (Lv p))) ∧ (∀ p, p < 8 → Im 173 p = b01 (Lv p)) ∧ (∀ p, P ≤ p → Lv p = false) ∧ (∀ p, p < P → Lv p = false → (∀ t, t < 6 → Im 174 (6 * p + t) = nI 0) ∧ Im 176 p = m1 ∧ Im 177 p = m1 ∧ Im 179 p = m1) ∧ Ic F 8 = bsI Lv 8 := by
  obtain ⟨Lv, l1, l2, l3, l4⟩ := h.2.2.2.2.2.2.1
  refine ⟨Lv, fun p hp J => ?_, l2, l3, l4, l1⟩
  unfold f1_lives
  rw [l1, has_eq hp, Option.bind_some, if_pos mbb]
theorem rF.pr (h : rF T P N F Ic (vCur Im)) {p : Nat} (hp : p < P) : Ic (F + 8) p = Im 176 p ∧ orT T (Im 176 p) := h.2.2.2.2.2.2.2.1 p hp
theorem rF.le (h : rF T P N F Ic (vCur Im)) {p : Nat} (hp : p < P) : Ic (F + 10) p = Im 177 p ∧ orT T (Im 177 p) := h.2.2.2.2.2.2.2.2.1 p hp
theorem rF.lt (h : rF T P N F Ic (vCur Im)) {p : Nat} (hp : p < P) (hn : Im 177 p ≠ -1) : Ic (F + 12) p = Im 178 p := h.2.2.2.2.2.2.2.2.2.1 p hp hn
theorem rF.fo (h : rF T P N F Ic (vCur Im)) {p : Nat} (hp : p < P) : Ic (F + 14) p = Im 179 p ∧ orT T (Im 179 p) := h.2.2.2.2.2.2.2.2.2.2.1 p hp
theorem rF.ea (h : rF T P N F Ic (vCur Im)) {p : Nat} (hp : p < P) : Ic (F + 16) p = Im 180 p := h.2.2.2.2.2.2.2.2.2.2.2.1 p hp
theorem rF.wi (h : rF T P N F Ic (vCur Im)) : ∃ W : Nat → Bool, Ic F 9 = bsI W 8 ∧ (∀ p, p < 8 → Im 181 p = b01 (W p)) ∧ ∀ p, P ≤ p → W p = false := h.2.2.2.2.2.2.2.2.2.2.2.2.1
theorem rF.ni (h : rF T P N F Ic (vCur Im)) : ∃ W : Nat → Bool, Ic F 10 = bsI W 8 ∧ (∀ p, p < 8 → Im 182 p = b01 (W p)) ∧ ∀ p, P ≤ p → W p = false := h.2.2.2.2.2.2.2.2.2.2.2.2.2.1
theorem rF.ye (h : rF T P N F Ic (vCur Im)) : ∃ y, y ≤ N ∧ Ic F 11 = nI y ∧ Im 167 23 = nI y := h.2.2.2.2.2.2.2.2.2.2.2.2.2.2
theorem rF.ag (h : rF T P N F Ic (vCur Im)) {p : Nat} (hp : p < P) : Ic (F + 2) p = Im 172 p := h.2.2.2.2.2.1 p hp
/-- knows, as a bit -/
def kn (Im : mm_I) (p t : Nat) : Bool := decide (nI 0 < Im 174 (6 * p + t))
theorem ckn (h : rF T P N F Ic (vCur Im)) (hF : isF F) {p t : Nat} (hp : p < 8) (ht : t < 6) {J : mm_J} : f1_knows SZ F (nI p) (nI t) Ic J = some (b01 (kn Im p t)) := by
  rw [cKn hF hp ht, (h.1 (6 * p + t) (by omega)).1]
  rfl
theorem mkn {p t : Nat} (hp : p < 8) (ht : t < 6) {J : mm_J} : f11_knows SZ 167 (nI p) (nI t) Im J = some (b01 (kn Im p t)) := mKn hp ht
theorem orT_c {T : Nat} {x : Int32} (h : orT T x) (hT : T ≤ 6) : (x = m1 ∧ ¬ (0 : Int32) ≤ x) ∨ ∃ t, t < T ∧ x = nI t ∧ ¬ x = m1 ∧ (0 : Int32) ≤ x := by
  rcases h with h | ⟨t, ht, rfl⟩
  · exact Or.inl ⟨h, by rw [h]; decide⟩
  · refine Or.inr ⟨t, ht, rfl, ?_, nI_pos' (by omega)⟩
    rw [m_eq (by omega)]
    exact id
theorem may_lock (hL : isL L R F) (h : rLf T P N R F Ic Im) {p t : Nat} (hp : p < P) (ht : t < T) : ∃ m : Bool, f2_mayLearn SZ L (nI p) (nI t) Ic Jc = some (b01 m) ∧ f11_mayLearn SZ 167 (nI p) (nI t) Im Jm = some (b01 m) ∧ (m = true → Im 173 p = b01 true ∧ Im 177 p = m1) := by
  obtain ⟨a1, a2, a3, a4, a5⟩ := h
  have hT := a1.1
  have hP := a1.2.1
  have hF := hL.f
  obtain ⟨Lv, l1, l2, l3, l4, -⟩ := a5.l
  obtain ⟨e9, o9⟩ := a5.le hp
  obtain ⟨⟨k0, -, c0, d0⟩, -, -, c3, o3⟩ := a2 t ht
  have ck := ckn a5 hF (p := p) (t := t) (by omega) (by omega) (J := Jc)
  have mk := mkn (Im := Im) (p := p) (t := t) (by omega) (by omega) (J := Jm)
  unfold f2_mayLearn f2_mayLearn_49 f2_mayLearn_80 f2_mayLearn_85 f0_isForbidden f0_isForbidden_17 f11_mayLearn f11_mayLearn_24 f11_mayLearn_29 f11_mayLearn_79 f11_mayLearn_80
  rw [(zL hL).1, (zL hL).2.2, l1 p (by omega), ck, mk]
  simp (disch := omega) only [↓M1, ↓ofNat_nI, L0, L1, L2, L3, L4, L5, L6, L7, L8, L9, L10, L12, L31, L32, L40, L48, L50, L99, L100, L120, L180, L256, L500, n_lt0, n_ge0, n_let, n_lef, n_ltt, n_ltf, n_eqt, n_eqf, m_lt, m_le, m_eq, m_eq2, m_le2, m_lt2, m_nle, m_nlt, if_true, if_false, eq_self, Option.bind_some, mb0, mb1, mbb, mbn0, mbn1, not_true, not_false_eq_true, reduceIte, Bool.false_eq_true, nI_add, nI_clamp, pk_mul, in_t, in_f, in_m, zr, za, at_SZ, put_SZ, rd_at, wr_at, rd_m, wr_m, zF hF, e9, ← c3, c0, d0, l2 p (by omega)]
  cases hl : Lv p
  · refine ⟨false, rfl, ?_, fun q => absurd q (by decide)⟩
    rw [if_pos (show b01 false = nI 0 by decide), if_pos (show b01 false = nI 0 by decide)]
    rcases orT_c o3 (by omega) with ⟨q, -⟩ | ⟨u, hu, q, -, -⟩
    · rw [q]
      simp (disch := omega) only [↓M1, ↓ofNat_nI, L0, L1, L2, L3, L4, L5, L6, L7, L8, L9, L10, L12, L31, L32, L40, L48, L50, L99, L100, L120, L180, L256, L500, n_lt0, n_ge0, n_let, n_lef, n_ltt, n_ltf, n_eqt, n_eqf, m_lt, m_le, m_eq, m_eq2, m_le2, m_lt2, m_nle, m_nlt, if_true, if_false, eq_self, Option.bind_some, mb0, mb1, mbb, mbn0, mbn1, not_true, not_false_eq_true, reduceIte, Bool.false_eq_true, nI_add, nI_clamp, pk_mul, in_t, in_f, in_m, zr, za, at_SZ, put_SZ, rd_at, wr_at, rd_m, wr_m]
      rfl
    · rw [q]
      simp (disch := omega) only [↓M1, ↓ofNat_nI, L0, L1, L2, L3, L4, L5, L6, L7, L8, L9, L10, L12, L31, L32, L40, L48, L50, L99, L100, L120, L180, L256, L500, n_lt0, n_ge0, n_let, n_lef, n_ltt, n_ltf, n_eqt, n_eqf, m_lt, m_le, m_eq, m_eq2, m_le2, m_lt2, m_nle, m_nlt, if_true, if_false, eq_self, Option.bind_some, mb0, mb1, mbb, mbn0, mbn1, not_true, not_false_eq_true, reduceIte, Bool.false_eq_true, nI_add, nI_clamp, pk_mul, in_t, in_f, in_m, zr, za, at_SZ, put_SZ, rd_at, wr_at, rd_m, wr_m, mkn (Im := Im) (p := p) (t := u) (by omega) (by omega)]
      cases kn Im p u <;> rfl
  · rw [if_neg (show ¬ b01 true = nI 0 by decide), if_neg (show ¬ b01 true = nI 0 by decide), if_neg (show ¬ b01 true = nI 0 by decide)]
    rcases orT_c o9 hT with ⟨q9, q9'⟩ | ⟨u9, -, q9, q9', q9''⟩
    · rw [if_pos q9, if_neg (show ¬ nI 0 ≤ Im 177 p from q9'), if_neg (show ¬ nI 0 ≤ Im 177 p from q9')]
      cases hk : kn Im p t
      · rw [if_pos (show b01 false = nI 0 by decide), if_pos (show b01 false = nI 0 by decide), if_pos (show b01 false = nI 0 by decide)]
        by_cases k3 : nI k0 = nI 3
        · rw [if_pos k3, if_pos k3, if_pos k3]
          refine ⟨false, rfl, ?_, fun q => absurd q (by decide)⟩
          rcases orT_c o3 (by omega) with ⟨q, -⟩ | ⟨u, hu, q, -, -⟩
          · rw [q]
            simp (disch := omega) only [↓M1, ↓ofNat_nI, L0, L1, L2, L3, L4, L5, L6, L7, L8, L9, L10, L12, L31, L32, L40, L48, L50, L99, L100, L120, L180, L256, L500, n_lt0, n_ge0, n_let, n_lef, n_ltt, n_ltf, n_eqt, n_eqf, m_lt, m_le, m_eq, m_eq2, m_le2, m_lt2, m_nle, m_nlt, if_true, if_false, eq_self, Option.bind_some, mb0, mb1, mbb, mbn0, mbn1, not_true, not_false_eq_true, reduceIte, Bool.false_eq_true, nI_add, nI_clamp, pk_mul, in_t, in_f, in_m, zr, za, at_SZ, put_SZ, rd_at, wr_at, rd_m, wr_m]
            rfl
          · rw [q]
            simp (disch := omega) only [↓M1, ↓ofNat_nI, L0, L1, L2, L3, L4, L5, L6, L7, L8, L9, L10, L12, L31, L32, L40, L48, L50, L99, L100, L120, L180, L256, L500, n_lt0, n_ge0, n_let, n_lef, n_ltt, n_ltf, n_eqt, n_eqf, m_lt, m_le, m_eq, m_eq2, m_le2, m_lt2, m_nle, m_nlt, if_true, if_false, eq_self, Option.bind_some, mb0, mb1, mbb, mbn0, mbn1, not_true, not_false_eq_true, reduceIte, Bool.false_eq_true, nI_add, nI_clamp, pk_mul, in_t, in_f, in_m, zr, za, at_SZ, put_SZ, rd_at, wr_at, rd_m, wr_m, mkn (Im := Im) (p := p) (t := u) (by omega) (by omega)]
            cases kn Im p u <;> rfl
        · rw [if_neg k3, if_neg k3, if_neg k3]
          rcases orT_c o3 (by omega) with ⟨q, -⟩ | ⟨u, hu, q, q', -⟩
          · rw [q]
            refine ⟨true, ?_, ?_, fun _ => ⟨rfl, q9⟩⟩
            · simp (disch := omega) only [↓M1, ↓ofNat_nI, L0, L1, L2, L3, L4, L5, L6, L7, L8, L9, L10, L12, L31, L32, L40, L48, L50, L99, L100, L120, L180, L256, L500, n_lt0, n_ge0, n_let, n_lef, n_ltt, n_ltf, n_eqt, n_eqf, m_lt, m_le, m_eq, m_eq2, m_le2, m_lt2, m_nle, m_nlt, if_true, if_false, eq_self, Option.bind_some, mb0, mb1, mbb, mbn0, mbn1, not_true, not_false_eq_true, reduceIte, Bool.false_eq_true, nI_add, nI_clamp, pk_mul, in_t, in_f, in_m, zr, za, at_SZ, put_SZ, rd_at, wr_at, rd_m, wr_m]
              rfl
            · simp (disch := omega) only [↓M1, ↓ofNat_nI, L0, L1, L2, L3, L4, L5, L6, L7, L8, L9, L10, L12, L31, L32, L40, L48, L50, L99, L100, L120, L180, L256, L500, n_lt0, n_ge0, n_let, n_lef, n_ltt, n_ltf, n_eqt, n_eqf, m_lt, m_le, m_eq, m_eq2, m_le2, m_lt2, m_nle, m_nlt, if_true, if_false, eq_self, Option.bind_some, mb0, mb1, mbb, mbn0, mbn1, not_true, not_false_eq_true, reduceIte, Bool.false_eq_true, nI_add, nI_clamp, pk_mul, in_t, in_f, in_m, zr, za, at_SZ, put_SZ, rd_at, wr_at, rd_m, wr_m]
              rfl
          · rw [q]
            refine ⟨kn Im p u, ?_, ?_, fun _ => ⟨rfl, q9⟩⟩
            · simp (disch := omega) only [↓M1, ↓ofNat_nI, L0, L1, L2, L3, L4, L5, L6, L7, L8, L9, L10, L12, L31, L32, L40, L48, L50, L99, L100, L120, L180, L256, L500, n_lt0, n_ge0, n_let, n_lef, n_ltt, n_ltf, n_eqt, n_eqf, m_lt, m_le, m_eq, m_eq2, m_le2, m_lt2, m_nle, m_nlt, if_true, if_false, eq_self, Option.bind_some, mb0, mb1, mbb, mbn0, mbn1, not_true, not_false_eq_true, reduceIte, Bool.false_eq_true, nI_add, nI_clamp, pk_mul, in_t, in_f, in_m, zr, za, at_SZ, put_SZ, rd_at, wr_at, rd_m, wr_m, ckn a5 hF (p := p) (t := u) (by omega) (by omega)]
              cases kn Im p u <;> rfl
            · simp (disch := omega) only [↓M1, ↓ofNat_nI, L0, L1, L2, L3, L4, L5, L6, L7, L8, L9, L10, L12, L31, L32, L40, L48, L50, L99, L100, L120, L180, L256, L500, n_lt0, n_ge0, n_let, n_lef, n_ltt, n_ltf, n_eqt, n_eqf, m_lt, m_le, m_eq, m_eq2, m_le2, m_lt2, m_nle, m_nlt, if_true, if_false, eq_self, Option.bind_some, mb0, mb1, mbb, mbn0, mbn1, not_true, not_false_eq_true, reduceIte, Bool.false_eq_true, nI_add, nI_clamp, pk_mul, in_t, in_f, in_m, zr, za, at_SZ, put_SZ, rd_at, wr_at, rd_m, wr_m, mkn (Im := Im) (p := p) (t := u) (by omega) (by omega)]
              cases kn Im p u <;> rfl
      · rw [if_neg (show ¬ b01 true = nI 0 by decide), if_neg (show ¬ b01 true = nI 0 by decide), if_neg (show ¬ b01 true = nI 0 by decide)]
        refine ⟨false, rfl, ?_, fun q => absurd q (by decide)⟩
        rcases orT_c o3 (by omega) with ⟨q, -⟩ | ⟨u, hu, q, -, -⟩
        · rw [q]
          simp (disch := omega) only [↓M1, ↓ofNat_nI, L0, L1, L2, L3, L4, L5, L6, L7, L8, L9, L10, L12, L31, L32, L40, L48, L50, L99, L100, L120, L180, L256, L500, n_lt0, n_ge0, n_let, n_lef, n_ltt, n_ltf, n_eqt, n_eqf, m_lt, m_le, m_eq, m_eq2, m_le2, m_lt2, m_nle, m_nlt, if_true, if_false, eq_self, Option.bind_some, mb0, mb1, mbb, mbn0, mbn1, not_true, not_false_eq_true, reduceIte, Bool.false_eq_true, nI_add, nI_clamp, pk_mul, in_t, in_f, in_m, zr, za, at_SZ, put_SZ, rd_at, wr_at, rd_m, wr_m]
          rfl
        · rw [q]
          simp (disch := omega) only [↓M1, ↓ofNat_nI, L0, L1, L2, L3, L4, L5, L6, L7, L8, L9, L10, L12, L31, L32, L40, L48, L50, L99, L100, L120, L180, L256, L500, n_lt0, n_ge0, n_let, n_lef, n_ltt, n_ltf, n_eqt, n_eqf, m_lt, m_le, m_eq, m_eq2, m_le2, m_lt2, m_nle, m_nlt, if_true, if_false, eq_self, Option.bind_some, mb0, mb1, mbb, mbn0, mbn1, not_true, not_false_eq_true, reduceIte, Bool.false_eq_true, nI_add, nI_clamp, pk_mul, in_t, in_f, in_m, zr, za, at_SZ, put_SZ, rd_at, wr_at, rd_m, wr_m, mkn (Im := Im) (p := p) (t := u) (by omega) (by omega)]
          cases kn Im p u <;> rfl
    · rw [if_neg q9', if_pos (show nI 0 ≤ Im 177 p from q9''), if_pos (show nI 0 ≤ Im 177 p from q9'')]
      refine ⟨false, rfl, ?_, fun q => absurd q (by decide)⟩
      rcases orT_c o3 (by omega) with ⟨q, -⟩ | ⟨u, hu, q, -, -⟩
      · rw [q]
        simp (disch := omega) only [↓M1, ↓ofNat_nI, L0, L1, L2, L3, L4, L5, L6, L7, L8, L9, L10, L12, L31, L32, L40, L48, L50, L99, L100, L120, L180, L256, L500, n_lt0, n_ge0, n_let, n_lef, n_ltt, n_ltf, n_eqt, n_eqf, m_lt, m_le, m_eq, m_eq2, m_le2, m_lt2, m_nle, m_nlt, if_true, if_false, eq_self, Option.bind_some, mb0, mb1, mbb, mbn0, mbn1, not_true, not_false_eq_true, reduceIte, Bool.false_eq_true, nI_add, nI_clamp, pk_mul, in_t, in_f, in_m, zr, za, at_SZ, put_SZ, rd_at, wr_at, rd_m, wr_m]
        rfl
      · rw [q]
        simp (disch := omega) only [↓M1, ↓ofNat_nI, L0, L1, L2, L3, L4, L5, L6, L7, L8, L9, L10, L12, L31, L32, L40, L48, L50, L99, L100, L120, L180, L256, L500, n_lt0, n_ge0, n_let, n_lef, n_ltt, n_ltf, n_eqt, n_eqf, m_lt, m_le, m_eq, m_eq2, m_le2, m_lt2, m_nle, m_nlt, if_true, if_false, eq_self, Option.bind_some, mb0, mb1, mbb, mbn0, mbn1, not_true, not_false_eq_true, reduceIte, Bool.false_eq_true, nI_add, nI_clamp, pk_mul, in_t, in_f, in_m, zr, za, at_SZ, put_SZ, rd_at, wr_at, rd_m, wr_m, mkn (Im := Im) (p := p) (t := u) (by omega) (by omega)]
        cases kn Im p u <;> rfl
end LF
