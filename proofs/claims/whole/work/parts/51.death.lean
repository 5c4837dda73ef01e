/-! ===== part 51: one person's year: age, death, the best trade (written by wip/whole/pre.py) ===== -/
theorem ite_cg {α : Type} {c d : Prop} [Decidable c] [Decidable d] {x y : α} (h : c = d) : (if c then x else y) = if d then x else y := by
  by_cases w : d
  · rw [if_pos w, if_pos (h ▸ w)]
  · rw [if_neg w, if_neg (h ▸ w)]
section DEAD
variable {T P N L R F : Nat} {Ic Im : mm_I} {Jc Jm : mm_J}
theorem rF.lnc {v : vw} (h : rF T P N F Ic v) {p : Nat} {x : Int32} (h5 : v.1 5 p = -1) : rF T P N F (mm_up Ic (F + 12) p x) v := by
  obtain ⟨h1, h2, h3, h4, h5', h6, ⟨Lv, l1, l2, l3, l4⟩, h8, h9, h10, h11, h12, ⟨Wt, w1, w2⟩, ⟨Nt, n1, n2⟩, y, y1, y2, y3⟩ := h
  refine ⟨?_, ?_, ?_, ?_, ?_, ?_, ⟨Lv, ?_, ?_, l3, ?_⟩, ?_, ?_, ?_, ?_, ?_, ⟨Wt, ?_, ?_⟩, ⟨Nt, ?_, ?_⟩, y, y1, ?_, y3⟩ <;> try first | assumption | (simp (disch := omega) only [up_o2]; assumption)
  intro q hq hd
  by_cases e : q = p
  · subst e
    exact absurd h5 hd
  · rw [up_o2 (by omega)]
    exact h10 q hq hd
/-- the trades of the dead, one by one -/
def eC (F p : Nat) : Nat → mm_I → mm_I
  | 0, I => I
  | k + 1, I => mm_up (mm_up (eC F p k I) (F + 4) (6 * p + k) (nI 0)) (F + 6) (6 * p + k) m1
def eM (p : Nat) : Nat → mm_I → mm_I
  | 0, I => I
  | k + 1, I => mm_up (mm_up (eM p k I) 174 (6 * p + k) (nI 0)) 175 (6 * p + k) m1
theorem eC_o {F p r : Nat} {I : mm_I} (h4 : r ≠ F + 4) (h6 : r ≠ F + 6) : ∀ k, eC F p k I r = I r
  | 0 => rfl
  | k + 1 => by
    show mm_up (mm_up (eC F p k I) _ _ _) _ _ _ r = _
    rw [mm_up_o h6, mm_up_o h4, eC_o h4 h6 k]
theorem eM_o {p r : Nat} {I : mm_I} (h4 : r ≠ 174) (h6 : r ≠ 175) : ∀ k, eM p k I r = I r
  | 0 => rfl
  | k + 1 => by
    show mm_up (mm_up (eM p k I) _ _ _) _ _ _ r = _
    rw [mm_up_o h6, mm_up_o h4, eM_o h4 h6 k]
theorem ce_loop {n p : Nat} (hF : isF F) (hp : p < 8) : ∀ (d k : Nat), k ≤ 6 → 6 < k + d → f1_empty_2 SZ n d F (nI p) (nI k) (eC F p k Ic) Jc = some (mm_up (mm_up (mm_up (mm_up (eC F p 6 Ic) (F + 8) p m1) (F + 10) p m1) (F + 12) p (nI 0)) (F + 14) p m1, Jc) := by
  intro d
  induction d with
  | zero => intro k h1 h2; omega
  | succ d ih =>
    intro k h1 h2
    show f1_empty_2_b SZ n (f1_empty_2 SZ n d) _ _ _ _ _ = _
    unfold f1_empty_2_b
    by_cases h : k = 6
    · subst h
      simp (disch := omega) only [↓M1, ↓ofNat_nI, L0, L1, L2, L3, L4, L5, L6, L7, L8, L9, L10, L12, L31, L32, L40, L48, L50, L99, L100, L120, L180, L256, L500, n_lt0, n_ge0, n_let, n_lef, n_ltt, n_ltf, n_eqt, n_eqf, m_lt, m_le, m_eq, m_eq2, m_le2, m_lt2, m_nle, m_nlt, if_true, if_false, eq_self, Option.bind_some, mb0, mb1, mbb, mbn0, mbn1, not_true, not_false_eq_true, reduceIte, Bool.false_eq_true, nI_add, nI_clamp, pk_mul, in_t, in_f, in_m, zr, za, at_SZ, put_SZ, rd_at, wr_at, rd_m, wr_m, zF hF]
    · simp (disch := omega) only [↓M1, ↓ofNat_nI, L0, L1, L2, L3, L4, L5, L6, L7, L8, L9, L10, L12, L31, L32, L40, L48, L50, L99, L100, L120, L180, L256, L500, n_lt0, n_ge0, n_let, n_lef, n_ltt, n_ltf, n_eqt, n_eqf, m_lt, m_le, m_eq, m_eq2, m_le2, m_lt2, m_nle, m_nlt, if_true, if_false, eq_self, Option.bind_some, mb0, mb1, mbb, mbn0, mbn1, not_true, not_false_eq_true, reduceIte, Bool.false_eq_true, nI_add, nI_clamp, pk_mul, in_t, in_f, in_m, zr, za, at_SZ, put_SZ, rd_at, wr_at, rd_m, wr_m, zF hF, f10_cell_eq]
      exact ih (k + 1) (by omega) (by omega)
theorem me_loop {n p : Nat} (hp : p < 8) : ∀ (d k : Nat), k ≤ 6 → 6 < k + d → f11_die_9 SZ n d 167 (nI p) (nI k) (mm_up (eM p k Im) 173 p (nI 0)) Jm = some (mm_up (mm_up (mm_up (mm_up (eM p 6 Im) 173 p (nI 0)) 177 p m1) 179 p m1) 176 p m1, Jm) := by
  intro d
  induction d with
  | zero => intro k h1 h2; omega
  | succ d ih =>
    intro k h1 h2
    show f11_die_9_b SZ n (f11_die_9 SZ n d) _ _ _ _ _ = _
    unfold f11_die_9_b
    by_cases h : k = 6
    · subst h
      simp (disch := omega) only [↓M1, ↓ofNat_nI, L0, L1, L2, L3, L4, L5, L6, L7, L8, L9, L10, L12, L31, L32, L40, L48, L50, L99, L100, L120, L180, L256, L500, n_lt0, n_ge0, n_let, n_lef, n_ltt, n_ltf, n_eqt, n_eqf, m_lt, m_le, m_eq, m_eq2, m_le2, m_lt2, m_nle, m_nlt, if_true, if_false, eq_self, Option.bind_some, mb0, mb1, mbb, mbn0, mbn1, not_true, not_false_eq_true, reduceIte, Bool.false_eq_true, nI_add, nI_clamp, pk_mul, in_t, in_f, in_m, zr, za, at_SZ, put_SZ, rd_at, wr_at, rd_m, wr_m]
    · simp (disch := omega) only [↓M1, ↓ofNat_nI, L0, L1, L2, L3, L4, L5, L6, L7, L8, L9, L10, L12, L31, L32, L40, L48, L50, L99, L100, L120, L180, L256, L500, n_lt0, n_ge0, n_let, n_lef, n_ltt, n_ltf, n_eqt, n_eqf, m_lt, m_le, m_eq, m_eq2, m_le2, m_lt2, m_nle, m_nlt, if_true, if_false, eq_self, Option.bind_some, mb0, mb1, mbb, mbn0, mbn1, not_true, not_false_eq_true, reduceIte, Bool.false_eq_true, nI_add, nI_clamp, pk_mul, in_t, in_f, in_m, zr, za, at_SZ, put_SZ, rd_at, wr_at, rd_m, wr_m]
      rw [mm_up_comm (show 173 ≠ 174 by omega), mm_up_comm (show 173 ≠ 175 by omega)]
      exact ih (k + 1) (by omega) (by omega)
theorem rF.eS (h : rF T P N F Ic (vCur Im)) (hP : P ≤ 8) (hT : T ≤ 6) {p : Nat} (hp : p < P) (hl : Im 173 p = b01 true) : ∀ k, k ≤ 6 → rF T P N F (eC F p k Ic) (vCur (eM p k Im)) ∧ ∀ t, t < k → eM p k Im 174 (6 * p + t) = nI 0
  | 0, _ => ⟨h, fun t ht => absurd ht (Nat.not_lt_zero t)⟩
  | k + 1, hk => by
    obtain ⟨g, g0⟩ := h.eS hP hT hp hl k (by omega)
    have hl' : eM p k Im 173 p = b01 true := by rw [eM_o (by omega) (by omega)]; exact hl
    have a : rF T P N F (mm_up (eC F p k Ic) (F + 6) (6 * p + k) m1) (vCur (mm_up (eM p k Im) 175 (6 * p + k) m1)) := (g.gone (k := 6 * p + k) (x := m1) (by omega) (Or.inl rfl)).e (vCur_up (j := 1) (by omega))
    refine ⟨?_, fun t ht => ?_⟩
    · show rF T P N F (mm_up (mm_up (eC F p k Ic) (F + 4) (6 * p + k) (nI 0)) (F + 6) (6 * p + k) m1) (vCur (mm_up (mm_up (eM p k Im) 174 (6 * p + k) (nI 0)) 175 (6 * p + k) m1))
      rw [mm_up_comm (show F + 4 ≠ F + 6 by omega), mm_up_comm (show 174 ≠ 175 by omega)]
      by_cases c : k < T
      · exact (a.sk (s := 0) hp c (by omega) (by
          show mm_up (eM p k Im) 175 (6 * p + k) m1 173 p = b01 true
          rw [up_o2 (by omega)]; exact hl') (fun _ => by
          show _ = mm_up (eM p k Im) 175 (6 * p + k) m1 175 (6 * p + k)
          rw [up_s2, up_s2]) hP hT).e (vCur_up (j := 0) (by omega))
      · have z := a.2.1 p k (by omega) (by omega) (Or.inr (by omega))
        have z1 : mm_up (eM p k Im) 175 (6 * p + k) m1 174 (6 * p + k) = nI 0 := z
        have z2 : mm_up (eC F p k Ic) (F + 6) (6 * p + k) m1 (F + 4) (6 * p + k) = nI 0 := (a.1 (6 * p + k) (by omega)).1.trans z
        rw [← z2, mm_up_self, z2, ← z1, mm_up_self]
        exact a
    · show mm_up (mm_up (eM p k Im) 174 (6 * p + k) (nI 0)) 175 (6 * p + k) m1 174 (6 * p + t) = nI 0
      by_cases e : t = k
      · subst e
        rw [up_o2 (by omega), up_s2]
      · rw [up_o2 (by omega), up_o2 (by omega)]
        exact g0 t (by omega)
/-- the best trade is the same -/
theorem rF.best (h : rF T P N F Ic (vCur Im)) (hT : T ≤ 6) {p : Nat} (hp : p < 8) : (∀ t, t < 6 → nI 0 ≤ Ic (F + 4) (6 * p + t)) ∧ bestS (fun t => Ic (F + 4) (6 * p + t)) 6 = bestS (fun t => Im 174 (6 * p + t)) T := by
  have e : ∀ t, t < 6 → ∃ s, s ≤ 100 ∧ Ic (F + 4) (6 * p + t) = nI s ∧ Im 174 (6 * p + t) = nI s := fun t ht => h.s hp ht
  refine ⟨fun t ht => ?_, ?_⟩
  · obtain ⟨s, h1, h2, h3⟩ := e t ht
    rw [h2]
    exact nI_pos' (by omega)
  · rw [bestS_congr (u := fun t => Im 174 (6 * p + t)) (by omega) (fun t ht => by
      obtain ⟨s, h1, h2, h3⟩ := e t ht
      rw [h2, h3])]
    exact bestS_wid hT (fun t h1 h2 => h.2.1 p t hp h2 (Or.inr h1))
theorem best_orT {s : Nat → Int32} {T : Nat} : orT T (bestS s T) := by
  rcases bestS_cases s T with h | ⟨b, h1, h2, h3⟩
  · exact Or.inl h
  · exact Or.inr ⟨b, h1, h2⟩
theorem ckn_m {F : Nat} {p : Int32} (hF : isF F) : f1_knows SZ F p m1 Ic Jc = some 0 := by
  unfold f1_knows f1_knows_20
  rw [f10_cell_neg (by decide)]
  simp (disch := omega) only [↓M1, ↓ofNat_nI, L0, L1, L2, L3, L4, L5, L6, L7, L8, L9, L10, L12, L31, L32, L40, L48, L50, L99, L100, L120, L180, L256, L500, n_lt0, n_ge0, n_let, n_lef, n_ltt, n_ltf, n_eqt, n_eqf, m_lt, m_le, m_eq, m_eq2, m_le2, m_lt2, m_nle, m_nlt, if_true, if_false, eq_self, Option.bind_some, mb0, mb1, mbb, mbn0, mbn1, not_true, not_false_eq_true, reduceIte, Bool.false_eq_true, nI_add, nI_clamp, pk_mul, in_t, in_f, in_m, zr, za, at_SZ, put_SZ, rd_at, wr_at, rd_m, wr_m, zF hF]
theorem die_eq {n p : Nat} (hn : 7 ≤ n) (hp : p < 8) : f11_die SZ n 167 (nI p) Im Jm = some (mm_up (mm_up (mm_up (mm_up (eM p 6 Im) 173 p (nI 0)) 177 p m1) 179 p m1) 176 p m1, Jm) := by
  unfold f11_die
  simp (disch := omega) only [↓M1, ↓ofNat_nI, L0, L1, L2, L3, L4, L5, L6, L7, L8, L9, L10, L12, L31, L32, L40, L48, L50, L99, L100, L120, L180, L256, L500, n_lt0, n_ge0, n_let, n_lef, n_ltt, n_ltf, n_eqt, n_eqf, m_lt, m_le, m_eq, m_eq2, m_le2, m_lt2, m_nle, m_nlt, if_true, if_false, eq_self, Option.bind_some, mb0, mb1, mbb, mbn0, mbn1, not_true, not_false_eq_true, reduceIte, Bool.false_eq_true, nI_add, nI_clamp, pk_mul, in_t, in_f, in_m, zr, za, at_SZ, put_SZ, rd_at, wr_at, rd_m, wr_m]
  exact me_loop hp n 0 (by omega) (by omega)
theorem rF.dead (h : rF T P N F Ic (vCur Im)) (hP : P ≤ 8) (hT : T ≤ 6) {p : Nat} (hp : p < P) (hl : Im 173 p = b01 true) (hL : 29 ≤ F) : rF T P N F (mm_up (mm_up (mm_up (mm_up (mm_up (eC F p 6 Ic) (F + 8) p m1) (F + 10) p m1) (F + 12) p (nI 0)) (F + 14) p m1) F 8 (Ic F 8 &&& ((nI 1 <<< (nI p &&& nI 31)) ^^^ m1))) (vCur (mm_up (mm_up (mm_up (mm_up (eM p 6 Im) 173 p (nI 0)) 177 p m1) 179 p m1) 176 p m1)) := by
  obtain ⟨g, g0⟩ := h.eS hP hT hp hl 6 (by omega)
  have e : mm_up (mm_up (mm_up (mm_up (eM p 6 Im) 173 p (nI 0)) 177 p m1) 179 p m1) 176 p m1 = mm_up (mm_up (mm_up (mm_up (eM p 6 Im) 176 p m1) 177 p m1) 179 p m1) 173 p (nI 0) := by
    rw [mm_up_comm (r := 179) (show 179 ≠ 176 by omega), mm_up_comm (r := 177) (show 177 ≠ 176 by omega), mm_up_comm (r := 173) (show 173 ≠ 176 by omega), mm_up_comm (r := 173) (show 173 ≠ 177 by omega), mm_up_comm (r := 173) (show 173 ≠ 179 by omega)]
  rw [e]
  have g1 : rF T P N F (mm_up (eC F p 6 Ic) (F + 8) p m1) (vCur (mm_up (eM p 6 Im) 176 p m1)) := (g.prac (x := m1) hp (Or.inl rfl) (Or.inl rfl) hP).e (vCur_up (j := 4) (by omega))
  have g2 : rF T P N F (mm_up (mm_up (eC F p 6 Ic) (F + 8) p m1) (F + 10) p m1) (vCur (mm_up (mm_up (eM p 6 Im) 176 p m1) 177 p m1)) := (g1.lrn (x := m1) hp (Or.inl rfl) (Or.inl rfl) (fun q => absurd rfl q) hP).e (vCur_up (j := 5) (by omega))
  have g3 : rF T P N F (mm_up (mm_up (mm_up (eC F p 6 Ic) (F + 8) p m1) (F + 10) p m1) (F + 12) p (nI 0)) (vCur (mm_up (mm_up (eM p 6 Im) 176 p m1) 177 p m1)) := g2.lnc (by
    show mm_up (mm_up (eM p 6 Im) 176 p m1) 177 p m1 177 p = m1
    rw [up_s2])
  have g4 : rF T P N F (mm_up (mm_up (mm_up (mm_up (eC F p 6 Ic) (F + 8) p m1) (F + 10) p m1) (F + 12) p (nI 0)) (F + 14) p m1) (vCur (mm_up (mm_up (mm_up (eM p 6 Im) 176 p m1) 177 p m1) 179 p m1)) := (g3.frg (x := m1) hp (Or.inl rfl) (Or.inl rfl) hP).e (vCur_up (j := 7) (by omega))
  have e8 : (mm_up (mm_up (mm_up (mm_up (eC F p 6 Ic) (F + 8) p m1) (F + 10) p m1) (F + 12) p (nI 0)) (F + 14) p m1) F 8 = Ic F 8 := by
    rw [up_o2 (by omega), up_o2 (by omega), up_o2 (by omega), up_o2 (by omega), eC_o (by omega) (by omega)]
  rw [← e8]
  refine (g4.kill hp hP (fun t ht => ?_) ?_ ?_ ?_).e (vCur_up (j := 3) (by omega))
  · show mm_up (mm_up (mm_up (eM p 6 Im) 176 p m1) 177 p m1) 179 p m1 174 (6 * p + t) = nI 0
    rw [up_o2 (by omega), up_o2 (by omega), up_o2 (by omega)]
    exact g0 t ht
  · show mm_up (mm_up (mm_up (eM p 6 Im) 176 p m1) 177 p m1) 179 p m1 176 p = m1
    rw [up_o2 (by omega), up_o2 (by omega), up_s2]
  · show mm_up (mm_up (mm_up (eM p 6 Im) 176 p m1) 177 p m1) 179 p m1 177 p = m1
    rw [up_o2 (by omega), up_s2]
  · show mm_up (mm_up (mm_up (eM p 6 Im) 176 p m1) 177 p m1) 179 p m1 179 p = m1
    rw [up_s2]
end DEAD
