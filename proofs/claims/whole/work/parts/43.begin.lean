/-! ===== part 43: the best trade; begin (written by wip/whole/pre.py) ===== -/
theorem bestS_cases (s : Nat → Int32) : ∀ t : Nat, bestS s t = m1 ∨ ∃ b, b < t ∧ bestS s t = nI b ∧ nI 0 < s b
  | 0 => Or.inl rfl
  | t + 1 => by
    unfold bestS
    split
    · rename_i h
      exact Or.inr ⟨t, by omega, rfl, h.1⟩
    · rcases bestS_cases s t with h | ⟨b, h1, h2, h3⟩
      · exact Or.inl h
      · exact Or.inr ⟨b, by omega, h2, h3⟩
theorem bestS_no {s : Nat → Int32} {t : Nat} (h : ¬ nI 0 < s t) : bestS s (t + 1) = bestS s t := by
  show (if _ then _ else _) = _
  rw [if_neg (fun q => h q.1)]
theorem bestS_new {s : Nat → Int32} {t : Nat} (h : nI 0 < s t) (h2 : bestS s t = m1) : bestS s (t + 1) = nI t := by
  show (if _ then _ else _) = _
  rw [if_pos ⟨h, Or.inl (by rw [h2]; decide)⟩]
theorem bestS_up {s : Nat → Int32} {t b : Nat} (hb : b < 2 ^ 31) (h : nI 0 < s t) (h2 : bestS s t = nI b) (h3 : s b < s t) : bestS s (t + 1) = nI t := by
  show (if _ then _ else _) = _
  rw [if_pos ⟨h, Or.inr (by rw [h2, nI_clamp hb]; exact h3)⟩]
theorem bestS_stay {s : Nat → Int32} {t b : Nat} (hb : b < 2 ^ 31) (h2 : bestS s t = nI b) (h3 : ¬ s b < s t) : bestS s (t + 1) = nI b := by
  show (if _ then _ else _) = _
  rw [if_neg, h2]
  rintro ⟨_, q | q⟩
  · rw [h2] at q
    exact nI_pos hb q
  · rw [h2, nI_clamp hb] at q
    exact h3 q
theorem bestS_congr {s u : Nat → Int32} : ∀ {t : Nat}, t ≤ 100 → (∀ k, k < t → s k = u k) → bestS s t = bestS u t
  | 0, _, _ => rfl
  | t + 1, ht, h => by
    have e := bestS_congr (s := s) (u := u) (t := t) (by omega) (fun k hk => h k (by omega))
    show (if _ then _ else _) = (if _ then _ else _)
    rw [← e, h t (by omega)]
    rcases bestS_cases s t with q | ⟨b, q1, q2, q3⟩
    · rw [q]
      have : ∀ x : Int32, ((m1 < 0 ∨ x < u t) ↔ True) := fun x => ⟨fun _ => trivial, fun _ => Or.inl (by decide)⟩
      simp only [this]
    · rw [q2, nI_clamp (by omega), h b (by omega)]
theorem bestS_wid {s : Nat → Int32} {T : Nat} : ∀ {m : Nat}, T ≤ m → (∀ k, T ≤ k → k < m → s k = nI 0) → bestS s m = bestS s T
  | 0, h, _ => by
    have : T = 0 := by omega
    rw [this]
  | m + 1, h, hz => by
    by_cases e : T = m + 1
    · rw [e]
    · rw [bestS_no (by rw [hz m (by omega) (by omega)]; decide)]
      exact bestS_wid (by omega) (fun k h1 h2 => hz k h1 (by omega))
theorem mbest_loop {n T p : Nat} (hT : T ≤ 6) (hp : p < 8) {I : mm_I} {J : mm_J} (h0 : I 167 0 = nI T) : ∀ (d k : Nat), k ≤ T → T < k + d → f11_bestOf_4 SZ n d 167 (nI p) (bestS (fun t => I 174 (6 * p + t)) k) (nI k) I J = some (bestS (fun t => I 174 (6 * p + t)) T) := by
  intro d
  induction d with
  | zero => intro k h1 h2; omega
  | succ d ih =>
    intro k h1 h2
    show f11_bestOf_4_b SZ n (f11_bestOf_4 SZ n d) _ _ _ _ I J = _
    unfold f11_bestOf_4_b f11_bestOf_50 f11_bestOf_54 f11_bestOf_55
    rw [h0]
    by_cases h : k = T
    · subst h
      simp (disch := omega) only [↓M1, ↓ofNat_nI, L0, L1, L2, L3, L4, L5, L6, L7, L8, L9, L10, L12, L31, L32, L40, L48, L50, L99, L100, L120, L180, L256, L500, n_lt0, n_ge0, n_let, n_lef, n_ltt, n_ltf, n_eqt, n_eqf, m_lt, m_le, m_eq, m_eq2, m_le2, m_lt2, m_nle, m_nlt, if_true, if_false, eq_self, Option.bind_some, mb0, mb1, mbb, mbn0, mbn1, not_true, not_false_eq_true, reduceIte, Bool.false_eq_true, nI_add, nI_clamp, pk_mul, in_t, in_f, in_m, zr, za, at_SZ, put_SZ, rd_at, wr_at, rd_m, wr_m]
    · simp (disch := omega) only [↓M1, ↓ofNat_nI, L0, L1, L2, L3, L4, L5, L6, L7, L8, L9, L10, L12, L31, L32, L40, L48, L50, L99, L100, L120, L180, L256, L500, n_lt0, n_ge0, n_let, n_lef, n_ltt, n_ltf, n_eqt, n_eqf, m_lt, m_le, m_eq, m_eq2, m_le2, m_lt2, m_nle, m_nlt, if_true, if_false, eq_self, Option.bind_some, mb0, mb1, mbb, mbn0, mbn1, not_true, not_false_eq_true, reduceIte, Bool.false_eq_true, nI_add, nI_clamp, pk_mul, in_t, in_f, in_m, zr, za, at_SZ, put_SZ, rd_at, wr_at, rd_m, wr_m, mKn, b01_e]
      by_cases hc : nI 0 < I 174 (6 * p + k)
      · rw [if_neg (by rw [decide_eq_true hc]; decide)]
        rcases bestS_cases (fun t => I 174 (6 * p + t)) k with q | ⟨b, q1, q2, q3⟩
        · rw [q]
          simp (disch := omega) only [↓M1, ↓ofNat_nI, L0, L1, L2, L3, L4, L5, L6, L7, L8, L9, L10, L12, L31, L32, L40, L48, L50, L99, L100, L120, L180, L256, L500, n_lt0, n_ge0, n_let, n_lef, n_ltt, n_ltf, n_eqt, n_eqf, m_lt, m_le, m_eq, m_eq2, m_le2, m_lt2, m_nle, m_nlt, if_true, if_false, eq_self, Option.bind_some, mb0, mb1, mbb, mbn0, mbn1, not_true, not_false_eq_true, reduceIte, Bool.false_eq_true, nI_add, nI_clamp, pk_mul, in_t, in_f, in_m, zr, za, at_SZ, put_SZ, rd_at, wr_at, rd_m, wr_m]
          have := ih (k + 1) (by omega) (by omega)
          rw [bestS_new (s := fun t => I 174 (6 * p + t)) hc q] at this
          exact this
        · rw [q2]
          simp (disch := omega) only [↓M1, ↓ofNat_nI, L0, L1, L2, L3, L4, L5, L6, L7, L8, L9, L10, L12, L31, L32, L40, L48, L50, L99, L100, L120, L180, L256, L500, n_lt0, n_ge0, n_let, n_lef, n_ltt, n_ltf, n_eqt, n_eqf, m_lt, m_le, m_eq, m_eq2, m_le2, m_lt2, m_nle, m_nlt, if_true, if_false, eq_self, Option.bind_some, mb0, mb1, mbb, mbn0, mbn1, not_true, not_false_eq_true, reduceIte, Bool.false_eq_true, nI_add, nI_clamp, pk_mul, in_t, in_f, in_m, zr, za, at_SZ, put_SZ, rd_at, wr_at, rd_m, wr_m]
          by_cases hd : I 174 (6 * p + k) ≤ I 174 (6 * p + b)
          · rw [if_pos hd]
            have := ih (k + 1) (by omega) (by omega)
            rw [bestS_stay (s := fun t => I 174 (6 * p + t)) (by omega) q2 (Int32.not_lt.mpr hd)] at this
            exact this
          · rw [if_neg hd]
            have := ih (k + 1) (by omega) (by omega)
            rw [bestS_up (s := fun t => I 174 (6 * p + t)) (by omega) hc q2 (Int32.not_le.mp hd)] at this
            exact this
      · rw [if_pos (decide_eq_false hc)]
        have := ih (k + 1) (by omega) (by omega)
        rw [bestS_no (s := fun t => I 174 (6 * p + t)) hc] at this
        exact this
theorem mbest_eq {n T p : Nat} (hn : 7 ≤ n) (hT : T ≤ 6) (hp : p < 8) {I : mm_I} {J : mm_J} (h0 : I 167 0 = nI T) : f11_bestOf SZ n 167 (nI p) I J = some (bestS (fun t => I 174 (6 * p + t)) T) := mbest_loop hT hp h0 n 0 (by omega) (by omega)
theorem cbest_loop {n F p : Nat} (hF : isF F) (hp : p < 8) {I : mm_I} {J : mm_J} (hs : ∀ t, t < 6 → nI 0 ≤ I (F + 4) (6 * p + t)) : ∀ (d k : Nat), k ≤ 6 → 6 < k + d → f1_bestOf_4 SZ n d F (nI p) (bestS (fun t => I (F + 4) (6 * p + t)) k) (nI k) I J = some (bestS (fun t => I (F + 4) (6 * p + t)) 6) := by
  intro d
  induction d with
  | zero => intro k h1 h2; omega
  | succ d ih =>
    intro k h1 h2
    show f1_bestOf_4_b SZ n (f1_bestOf_4 SZ n d) _ _ _ _ I J = _
    unfold f1_bestOf_4_b f1_bestOf_27
    by_cases h : k = 6
    · subst h
      simp (disch := omega) only [↓M1, ↓ofNat_nI, L0, L1, L2, L3, L4, L5, L6, L7, L8, L9, L10, L12, L31, L32, L40, L48, L50, L99, L100, L120, L180, L256, L500, n_lt0, n_ge0, n_let, n_lef, n_ltt, n_ltf, n_eqt, n_eqf, m_lt, m_le, m_eq, m_eq2, m_le2, m_lt2, m_nle, m_nlt, if_true, if_false, eq_self, Option.bind_some, mb0, mb1, mbb, mbn0, mbn1, not_true, not_false_eq_true, reduceIte, Bool.false_eq_true, nI_add, nI_clamp, pk_mul, in_t, in_f, in_m, zr, za, at_SZ, put_SZ, rd_at, wr_at, rd_m, wr_m]
    · have hn0 := ih (k + 1) (by omega) (by omega)
      simp (disch := omega) only [↓M1, ↓ofNat_nI, L0, L1, L2, L3, L4, L5, L6, L7, L8, L9, L10, L12, L31, L32, L40, L48, L50, L99, L100, L120, L180, L256, L500, n_lt0, n_ge0, n_let, n_lef, n_ltt, n_ltf, n_eqt, n_eqf, m_lt, m_le, m_eq, m_eq2, m_le2, m_lt2, m_nle, m_nlt, if_true, if_false, eq_self, Option.bind_some, mb0, mb1, mbb, mbn0, mbn1, not_true, not_false_eq_true, reduceIte, Bool.false_eq_true, nI_add, nI_clamp, pk_mul, in_t, in_f, in_m, zr, za, at_SZ, put_SZ, rd_at, wr_at, rd_m, wr_m, skillOf_eq hF]
      rcases bestS_cases (fun t => I (F + 4) (6 * p + t)) k with q | ⟨b, q1, q2, q3⟩
      · rw [q, skillOf_neg hF (by decide), Option.bind_some]
        by_cases hc : nI 0 < I (F + 4) (6 * p + k)
        · rw [if_neg (show ¬ I (F + 4) (6 * p + k) ≤ 0 from Int32.not_le.mpr hc)]
          rw [bestS_new (s := fun t => I (F + 4) (6 * p + t)) hc q] at hn0
          exact hn0
        · rw [if_pos (show I (F + 4) (6 * p + k) ≤ 0 from Int32.not_lt.mp hc)]
          rw [bestS_no (s := fun t => I (F + 4) (6 * p + t)) hc, q] at hn0
          exact hn0
      · rw [q2, skillOf_eq hF hp (by omega), Option.bind_some]
        by_cases hd : I (F + 4) (6 * p + k) ≤ I (F + 4) (6 * p + b)
        · rw [if_pos hd]
          rw [bestS_stay (s := fun t => I (F + 4) (6 * p + t)) (by omega) q2 (Int32.not_lt.mpr hd)] at hn0
          exact hn0
        · rw [if_neg hd]
          have hd' := Int32.not_le.mp hd
          have hc : nI 0 < I (F + 4) (6 * p + k) := by
            have q3 : nI 0 < I (F + 4) (6 * p + b) := q3
            rw [Int32.lt_iff_toInt_lt] at *
            omega
          rw [bestS_up (s := fun t => I (F + 4) (6 * p + t)) (by omega) hc q2 hd'] at hn0
          exact hn0
theorem cbest_eq {n F p : Nat} (hn : 7 ≤ n) (hF : isF F) (hp : p < 8) {I : mm_I} {J : mm_J} (hs : ∀ t, t < 6 → nI 0 ≤ I (F + 4) (6 * p + t)) : f1_bestOf SZ n F (nI p) I J = some (bestS (fun t => I (F + 4) (6 * p + t)) 6) := cbest_loop hF hp hs n 0 (by omega) (by omega)
/-! begin, the reference's -/
def bg (P T p k m : Nat) (I Im : mm_I) : Prop := ((∀ r, r ≠ 167 → (r < 172 ∨ 182 < r) → I r = Im r) ∧ (∀ q, q ≠ 23 → I 167 q = Im 167 q) ∧ I 167 23 = nI 0) ∧ (∀ q, q < p → I 176 q = bestS (fun t => if 6 * q + t < 6 * P then Im 170 (6 * q + t) else nI 0) T ∧ I 177 q = m1 ∧ I 178 q = nI 0 ∧ I 179 q = m1 ∧ I 180 q = nI 0 ∧ I 181 q = nI 0 ∧ I 182 q = nI 0) ∧ (∀ q, q < m → I 172 q = Im 169 q ∧ I 173 q = b01 (decide (q < P))) ∧ ∀ c, c < 6 * p + k → I 174 c = (if c < 6 * P then Im 170 c else nI 0) ∧ I 175 c = m1
theorem bg_in {n P T p : Nat} (hP : P ≤ 8) (hT : T ≤ 6) (hp : p < 8) {J : mm_J} {Im : mm_I} {v1 : Int32} (h0 : Im 167 0 = nI T) (h2 : Im 167 2 = nI P) (hn : 7 ≤ n) {rec12 : Nat → Int32 → Int32 → mm_I → mm_J → Option (Int32 × mm_I × mm_J)} (G : mm_I → Prop) (hG : ∀ I, bg P T (p + 1) 0 (p + 1) I Im → ∃ I', rec12 167 v1 (nI (p + 1)) I J = some (v1, I', J) ∧ G I') : ∀ (d k : Nat) (I : mm_I), k ≤ 6 → 6 < k + d → bg P T p k (p + 1) I Im → ∃ I', f11_begin_51 SZ n rec12 d 167 v1 (nI p) (nI k) I J = some (v1, I', J) ∧ G I' := by
  intro d
  induction d with
  | zero => intro k I h1 h2; omega
  | succ d ih =>
    intro k I h1 h3 hb
    obtain ⟨⟨i1, i2, i3⟩, i4, i5', i6⟩ := hb
    show ∃ I', f11_begin_51_b SZ n rec12 (f11_begin_51 SZ n rec12 d) 167 v1 (nI p) (nI k) I J = some (v1, I', J) ∧ _
    by_cases h : k = 6
    · subst h
      obtain ⟨I', g1, g2⟩ := hG (mm_up (mm_up (mm_up (mm_up (mm_up (mm_up (mm_up I 176 p (bestS (fun t => I 174 (6 * p + t)) T)) 177 p m1) 178 p (nI 0)) 179 p m1) 180 p (nI 0)) 181 p (nI 0)) 182 p (nI 0)) ⟨⟨fun r hr hs => by
          simp (disch := omega) only [mm_up_o]; exact i1 r hr hs, fun q hq => by
          simp (disch := omega) only [up_o2]; exact i2 q hq, by
          simp (disch := omega) only [up_o2]; exact i3⟩, fun q hq => by
          by_cases e : q = p
          · subst e
            simp (disch := omega) only [up_s2, up_o2, true_and]
            exact ⟨bestS_congr (by omega) (fun t ht => (i6 (6 * q + t) (by omega)).1), trivial⟩
          · simp (disch := omega) only [up_o2]
            exact i4 q (by omega), fun q hq => by
          simp (disch := omega) only [up_o2]; exact i5' q hq, fun c hc => by
          simp (disch := omega) only [up_o2]; exact i6 c (by omega)⟩
      refine ⟨I', ?_, g2⟩
      unfold f11_begin_51_b
      rw [mbest_eq hn hT hp (show I 167 0 = nI T by rw [i2 0 (by omega)]; exact h0)]
      simp (disch := omega) only [↓M1, ↓ofNat_nI, L0, L1, L2, L3, L4, L5, L6, L7, L8, L9, L10, L12, L31, L32, L40, L48, L50, L99, L100, L120, L180, L256, L500, n_lt0, n_ge0, n_let, n_lef, n_ltt, n_ltf, n_eqt, n_eqf, m_lt, m_le, m_eq, m_eq2, m_le2, m_lt2, m_nle, m_nlt, if_true, if_false, eq_self, Option.bind_some, mb0, mb1, mbb, mbn0, mbn1, not_true, not_false_eq_true, reduceIte, Bool.false_eq_true, nI_add, nI_clamp, pk_mul, in_t, in_f, in_m, zr, za, at_SZ, put_SZ, rd_at, wr_at, rd_m, wr_m]
      exact g1
    · obtain ⟨I', g1, g2⟩ := ih (k + 1) (mm_up (mm_up I 174 (6 * p + k) (if 6 * p + k < 6 * P then Im 170 (6 * p + k) else nI 0)) 175 (6 * p + k) m1) (by omega) (by omega) ⟨⟨fun r hr hs => by
          simp (disch := omega) only [mm_up_o]; exact i1 r hr hs, fun q hq => by
          simp (disch := omega) only [up_o2]; exact i2 q hq, by
          simp (disch := omega) only [up_o2]; exact i3⟩, fun q hq => by
          simp (disch := omega) only [up_o2]
          exact i4 q (by omega), fun q hq => by
          simp (disch := omega) only [up_o2]; exact i5' q hq, fun c hc => by
          by_cases e : c = 6 * p + k
          · subst e
            simp (disch := omega) only [up_s2, up_o2]
            exact ⟨trivial, trivial⟩
          · simp (disch := omega) only [up_o2]
            exact i6 c (by omega)⟩
      refine ⟨I', ?_, g2⟩
      unfold f11_begin_51_b f11_begin_90
      have e2 : I 167 2 = nI P := by rw [i2 2 (by omega)]; exact h2
      rw [e2]
      by_cases hq : p < P
      · rw [if_pos (by omega)] at g1
        simp (disch := omega) only [↓M1, ↓ofNat_nI, L0, L1, L2, L3, L4, L5, L6, L7, L8, L9, L10, L12, L31, L32, L40, L48, L50, L99, L100, L120, L180, L256, L500, n_lt0, n_ge0, n_let, n_lef, n_ltt, n_ltf, n_eqt, n_eqf, m_lt, m_le, m_eq, m_eq2, m_le2, m_lt2, m_nle, m_nlt, if_true, if_false, eq_self, Option.bind_some, mb0, mb1, mbb, mbn0, mbn1, not_true, not_false_eq_true, reduceIte, Bool.false_eq_true, nI_add, nI_clamp, pk_mul, in_t, in_f, in_m, zr, za, at_SZ, put_SZ, rd_at, wr_at, rd_m, wr_m, i1 170 (by omega) (by omega)]
        exact g1
      · rw [if_neg (by omega)] at g1
        simp (disch := omega) only [↓M1, ↓ofNat_nI, L0, L1, L2, L3, L4, L5, L6, L7, L8, L9, L10, L12, L31, L32, L40, L48, L50, L99, L100, L120, L180, L256, L500, n_lt0, n_ge0, n_let, n_lef, n_ltt, n_ltf, n_eqt, n_eqf, m_lt, m_le, m_eq, m_eq2, m_le2, m_lt2, m_nle, m_nlt, if_true, if_false, eq_self, Option.bind_some, mb0, mb1, mbb, mbn0, mbn1, not_true, not_false_eq_true, reduceIte, Bool.false_eq_true, nI_add, nI_clamp, pk_mul, in_t, in_f, in_m, zr, za, at_SZ, put_SZ, rd_at, wr_at, rd_m, wr_m]
        exact g1
theorem bg_out {n P T : Nat} (hP : P ≤ 8) (hT : T ≤ 6) {J : mm_J} {Im : mm_I} {v1 : Int32} (h0 : Im 167 0 = nI T) (h2 : Im 167 2 = nI P) (hn : 7 ≤ n) : ∀ (d p : Nat) (I : mm_I), p ≤ 8 → 8 < p + d → bg P T p 0 p I Im → ∃ I', f11_begin_12 SZ n d 167 v1 (nI p) I J = some (v1, I', J) ∧ bg P T 8 0 8 I' Im := by
  intro d
  induction d with
  | zero => intro p I h1 h2; omega
  | succ d ih =>
    intro p I h1 h3 hb
    show ∃ I', f11_begin_12_b SZ n (f11_begin_12 SZ n d) 167 v1 (nI p) I J = some (v1, I', J) ∧ _
    by_cases h : p = 8
    · subst h
      refine ⟨I, ?_, hb⟩
      unfold f11_begin_12_b
      simp (disch := omega) only [↓M1, ↓ofNat_nI, L0, L1, L2, L3, L4, L5, L6, L7, L8, L9, L10, L12, L31, L32, L40, L48, L50, L99, L100, L120, L180, L256, L500, n_lt0, n_ge0, n_let, n_lef, n_ltt, n_ltf, n_eqt, n_eqf, m_lt, m_le, m_eq, m_eq2, m_le2, m_lt2, m_nle, m_nlt, if_true, if_false, eq_self, Option.bind_some, mb0, mb1, mbb, mbn0, mbn1, not_true, not_false_eq_true, reduceIte, Bool.false_eq_true, nI_add, nI_clamp, pk_mul, in_t, in_f, in_m, zr, za, at_SZ, put_SZ, rd_at, wr_at, rd_m, wr_m]
    · obtain ⟨⟨i1, i2, i3⟩, i4, i5', i6⟩ := hb
      have key := bg_in (n := n) (rec12 := f11_begin_12 SZ n d) (v1 := v1) hP hT (show p < 8 by omega) (J := J) h0 h2 hn (fun I' => bg P T 8 0 8 I' Im) (fun I hI => ih (p + 1) I (by omega) (by omega) hI) n 0 (mm_up (mm_up I 172 p (Im 169 p)) 173 p (b01 (decide (p < P)))) (by omega) (by omega) ⟨⟨fun r hr hs => by
          simp (disch := omega) only [mm_up_o]; exact i1 r hr hs, fun q hq => by
          simp (disch := omega) only [up_o2]; exact i2 q hq, by
          simp (disch := omega) only [up_o2]; exact i3⟩, fun q hq => by
          simp (disch := omega) only [up_o2]
          exact i4 q (by omega), fun q hq => by
          by_cases e : q = p
          · subst e
            simp (disch := omega) only [up_s2, up_o2]
            exact ⟨trivial, trivial⟩
          · simp (disch := omega) only [up_o2]
            exact i5' q (by omega), fun c hc => by
          simp (disch := omega) only [up_o2]
          exact i6 c (by omega)⟩
      obtain ⟨I', g1, g2⟩ := key
      refine ⟨I', ?_, g2⟩
      unfold f11_begin_12_b f11_begin_48
      have e2 : I 167 2 = nI P := by rw [i2 2 (by omega)]; exact h2
      by_cases hq : p < P
      · rw [decide_eq_true hq] at g1
        simp (disch := omega) only [↓M1, ↓ofNat_nI, L0, L1, L2, L3, L4, L5, L6, L7, L8, L9, L10, L12, L31, L32, L40, L48, L50, L99, L100, L120, L180, L256, L500, n_lt0, n_ge0, n_let, n_lef, n_ltt, n_ltf, n_eqt, n_eqf, m_lt, m_le, m_eq, m_eq2, m_le2, m_lt2, m_nle, m_nlt, if_true, if_false, eq_self, Option.bind_some, mb0, mb1, mbb, mbn0, mbn1, not_true, not_false_eq_true, reduceIte, Bool.false_eq_true, nI_add, nI_clamp, pk_mul, in_t, in_f, in_m, zr, za, at_SZ, put_SZ, rd_at, wr_at, rd_m, wr_m, up_s2, up_o2, e2, i1 169 (by omega) (by omega)]
        exact g1
      · rw [decide_eq_false hq] at g1
        simp (disch := omega) only [↓M1, ↓ofNat_nI, L0, L1, L2, L3, L4, L5, L6, L7, L8, L9, L10, L12, L31, L32, L40, L48, L50, L99, L100, L120, L180, L256, L500, n_lt0, n_ge0, n_let, n_lef, n_ltt, n_ltf, n_eqt, n_eqf, m_lt, m_le, m_eq, m_eq2, m_le2, m_lt2, m_nle, m_nlt, if_true, if_false, eq_self, Option.bind_some, mb0, mb1, mbb, mbn0, mbn1, not_true, not_false_eq_true, reduceIte, Bool.false_eq_true, nI_add, nI_clamp, pk_mul, in_t, in_f, in_m, zr, za, at_SZ, put_SZ, rd_at, wr_at, rd_m, wr_m, up_s2, up_o2, e2, i1 169 (by omega) (by omega)]
        exact g1
theorem mbegin_eq {n P T : Nat} (hP : P ≤ 8) (hT : T ≤ 6) {J : mm_J} {Im : mm_I} (h0 : Im 167 0 = nI T) (h2 : Im 167 2 = nI P) (hn : 9 ≤ n) : ∃ I', f11_begin SZ n 167 Im J = some (Im 167 23, I', J) ∧ bg P T 8 0 8 I' Im := by
  unfold f11_begin
  refine bg_out hP hT h0 h2 (by omega) n 0 (mm_up Im 167 23 0) (by omega) (by omega) ⟨⟨fun r hr _ => mm_up_o hr, fun q hq => up_o2 (by omega), up_s2⟩, fun q hq => absurd hq (Nat.not_lt_zero q), fun q hq => absurd hq (Nat.not_lt_zero q), fun c hc => absurd hc (by omega)⟩
theorem bg_v {P T N F : Nat} {Ic I' Im : mm_I} (hP : P ≤ 8) (hT : T ≤ 6) (h : rF T P N F Ic (vTold P Im)) (hb : bg P T 8 0 8 I' Im) : vR P (vCur I') (vTold P Im) := by
  obtain ⟨⟨i1, i2, i3⟩, i4, i5', i6⟩ := hb
  refine ⟨fun j k hj hk hkP => ?_, i3⟩
  have hj' : j = 0 ∨ j = 1 ∨ j = 2 ∨ j = 3 ∨ j = 4 ∨ j = 5 ∨ j = 6 ∨ j = 7 ∨ j = 8 ∨ j = 9 ∨ j = 10 := by omega
  rcases hj' with rfl | rfl | rfl | rfl | rfl | rfl | rfl | rfl | rfl | rfl | rfl
  · exact (i6 k (by omega)).1
  · exact (i6 k (by omega)).2
  · exact (i5' k (by omega)).1
  · rw [show (vCur I').1 3 k = b01 (decide (k < P)) from (i5' k (by omega)).2]
    show _ = if k < P then (1 : Int32) else 0
    by_cases q : k < P
    · rw [if_pos q, decide_eq_true q]; rfl
    · rw [if_neg q, decide_eq_false q]; rfl
  · have hkP : k < P := by omega
    rw [show (vCur I').1 4 k = _ from (i4 k (by omega)).1]
    show _ = bestS (fun t => Im 170 (6 * k + t)) 6
    have z : ∀ t, T ≤ t → t < 6 → Im 170 (6 * k + t) = nI 0 := by
      intro t h1 h2
      have := h.2.1 k t (by omega) h2 (Or.inr h1)
      have this : (if 6 * k + t < 6 * P then Im 170 (6 * k + t) else 0) = 0 := this
      rw [if_pos (by omega)] at this
      exact this
    rw [bestS_wid (s := fun t => Im 170 (6 * k + t)) hT z]
    exact bestS_congr (by omega) (fun t ht => by rw [if_pos (by omega)])
  · exact (i4 k (by omega)).2.1
  · exact (i4 k (by omega)).2.2.1
  · exact (i4 k (by omega)).2.2.2.1
  · exact (i4 k (by omega)).2.2.2.2.1
  · exact (i4 k (by omega)).2.2.2.2.2.1
  · exact (i4 k (by omega)).2.2.2.2.2.2
theorem st_begin : St_begin Inv := by
  intro k hk I J h
  obtain ⟨T, P, hA⟩ := h
  have hA' := hA
  obtain ⟨a1, a2, a3, a4, a5, a6, a7, a8⟩ := hA
  have hT := a1.1
  have hP := a1.2.1
  obtain ⟨I', c0, cf, c2, c4, c6, c8, c10, c12, c14, c16, cc⟩ := copyF (n := 1000) (by omega) (Or.inl rfl : isF 29) (Or.inr (Or.inl rfl) : isF 46) (by omega) I J
  have f1 : fF 29 I (mm_up I' 29 12 (I 29 12)) := cf.trans (fF.up (by omega))
  have me : ∀ r, 167 ≤ r → (mm_up I' 29 12 (I 29 12)) r = I r := f1.le (by omega)
  obtain ⟨I2, s0, sb⟩ := mbegin_eq (n := 1000) (P := P) (T := T) hP hT (J := J) (Im := mm_up I' 29 12 (I 29 12)) (by rw [me 167 (by omega)]; exact a1.2.2.2.1) (by rw [me 167 (by omega)]; exact a1.2.2.2.2.2) (by omega)
  have a7' : rF T P (100 * k) 46 I (vTold P (mm_up I' 29 12 (I 29 12))) := by
    rw [vTold_c (me 170 (by omega)) (me 169 (by omega))]
    exact a7
  have sf : fV (mm_up I' 29 12 (I 29 12)) I2 := ⟨fun r h1 h2 => sb.1.1 r h1 h2, fun q h1 h2 => sb.1.2.1 q h1⟩
  obtain ⟨y, y1, y2, y3⟩ := a5.2.2.2.2.2.2.2.2.2.2.2.2.2.2
  obtain ⟨s, hs, t1, t2⟩ := a6
  refine ⟨1000, (I 29 11, mm_up I' 29 12 (I 29 12), J), (mm_up I' 29 12 (I 29 12) 167 23, I2, J), ?_, s0, ?_, Inv_folk hA' f1 sf (((((a7'.pt hP c2 c4 c6 c8 c10 c12 c14 c16 cc).seed (x := I 29 12)).r hP (bg_v hP hT a7' sb))).mono (by omega)) ⟨s, hs, ?_, ?_⟩⟩
  · unfold f10_begin f10_startAnew
    simp only [zr]
    rw [c0]
    rfl
  · show I 29 11 = _
    rw [me 167 (by omega), y2]
    exact y3.symm
  · rw [up_s2]; exact t1
  · show I2 167 24 = nI s
    rw [sb.1.2.1 24 (by omega), me 167 (by omega)]
    exact t2
