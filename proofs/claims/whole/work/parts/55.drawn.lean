/-! ===== part 55: drawn changes and births, both sides (written by wip/whole/pre.py) ===== -/
theorem or_and (a b : Int32) : (a ||| b) ^^^ m1 = (a ^^^ m1) &&& (b ^^^ m1) := by
  apply Int32.toBitVec_inj.mp
  simp only [Int32.toBitVec_xor, Int32.toBitVec_or, Int32.toBitVec_and]
  rw [show m1.toBitVec = BitVec.allOnes 32 from by decide]
  rw [BitVec.xor_allOnes, BitVec.xor_allOnes, BitVec.xor_allOnes, BitVec.not_or]
theorem and_m1 (a : Int32) : a &&& ((0 : Int32) ^^^ m1) = a := by
  apply Int32.toBitVec_inj.mp
  rw [Int32.toBitVec_and, show ((0 : Int32) ^^^ m1).toBitVec = BitVec.allOnes 32 from by decide, BitVec.and_allOnes]
theorem bsI_andn (P Q : Nat → Bool) : ∀ n, n ≤ 8 → bsI P 8 &&& (bsI Q n ^^^ m1) = bsI (fun k => P k && !(decide (k < n) && Q k)) 8
  | 0, _ => by
    show bsI P 8 &&& ((0 : Int32) ^^^ m1) = _
    rw [and_m1]
    exact bsI_congr fun k _ => by simp
  | n + 1, h => by
    show bsI P 8 &&& ((bsI Q n ||| (if Q n = true then (1 : Int32) <<< (nI n &&& 31) else 0)) ^^^ m1) = _
    cases hq : Q n
    · rw [if_neg (by decide), or_00, bsI_andn P Q n (by omega)]
      refine bsI_congr fun k _ => ?_
      by_cases e : k = n
      · subst e
        rw [hq]; simp
      · have : decide (k < n + 1) = decide (k < n) := decide_eq_decide.mpr (by omega)
        rw [this]
    · rw [if_pos rfl, or_and, ← Int32.and_assoc, bsI_andn P Q n (by omega)]
      refine (bsI_del (P := fun k => P k && !(decide (k < n) && Q k)) (k := n) (by omega)).trans (bsI_congr fun k _ => ?_)
      by_cases e : k = n
      · subst e
        simp [hq]
      · have h1 : decide (k < n + 1) = decide (k < n) := decide_eq_decide.mpr (by omega)
        have h2 : (n == k) = false := beq_eq_false_iff_ne.mpr (Ne.symm e)
        rw [h1, h2]
        simp
section DW
variable {T P N L R F : Nat} {Ic Im : mm_I} {Jc Jm : mm_J}
/-- with the seed -/
def rLs (T P N R F : Nat) (Ic Im : mm_I) : Prop := rLf T P N R F Ic Im ∧ ∃ s, s < 2 ^ 31 ∧ Ic F 12 = nI s ∧ Im 167 24 = nI s
theorem rLs.go {N2 : Nat} {Ic' Im' : mm_I} (hL : isL L R F) (h : rLs T P N R F Ic Im) (fc : fF F Ic Ic') (fm : fV Im Im') (hF : rF T P N2 F Ic' (vCur Im')) (s1 : Ic' F 12 = Ic F 12) (s2 : Im' 167 24 = Im 167 24) : rLs T P N2 R F Ic' Im' := by
  obtain ⟨h1, s, h2, h3, h4⟩ := h
  exact ⟨h1.go hL fc fm hF, s, h2, s1.trans h3, s2.trans h4⟩
/-- one draw on both sides -/
theorem rLs.draw (hL : isL L R F) (h : rLs T P N R F Ic Im) {m : Nat} (h0 : 0 < m) (h1 : m < 2 ^ 31) : ∃ v Ic' Im', v < m ∧ f1_draw SZ F (nI m) Ic Jc = some (nI v, Ic', Jc) ∧ f11_draw SZ 167 (nI m) Im Jm = some (nI v, Im', Jm) ∧ fF F Ic Ic' ∧ fV Im Im' ∧ rLs T P N R F Ic' Im' ∧ (∀ r k, r ≠ F → Ic' r k = Ic r k) ∧ (∀ r k, r ≠ 167 → Im' r k = Im r k) ∧ Ic' F 8 = Ic F 8 := by
  obtain ⟨h2, s, s0, s1, s2⟩ := h
  have hr := hL.r
  obtain ⟨g, v, g1, v1, dC, dM⟩ := draws (s := s) (m := m) s0 h0 h1
  refine ⟨v, _, _, v1, dC F Ic Jc s1, dM Im Jm s2, fF.up (by omega), fV.up7 (by omega), ⟨h2.go hL (fF.up (by omega)) (fV.up7 (by omega)) ?_, g, g1, up_s2, up_s2⟩, fun r k hk => by rw [mm_up_o hk], fun r k hk => by rw [mm_up_o hk], up_o2 (by omega)⟩
  rw [vCur_c (Im := Im) (fun r h1 h2 => mm_up_o (by omega)) (up_o2 (by omega))]
  exact h2.2.2.2.2.seed
/-- the trade that is liked least -/
theorem ll_loop (hL : isL L R F) (h : rLf T P N R F Ic Im) {n p : Nat} (hp : p < P) : ∀ (d k : Nat) (v2 : Int32), k ≤ T → T < k + d → (v2 = m1 ∨ ∃ q, q < k ∧ v2 = nI q) → ∃ r, orT T r ∧ f2_leastLiked_4 SZ n d L (nI p) v2 (nI k) Ic Jc = some r ∧ f11_leastLiked_4 SZ n d 167 (nI p) v2 (nI k) Im Jm = some r := by
  intro d
  induction d with
  | zero => intro k v2 h1 h2; omega
  | succ d ih =>
    intro k v2 h1 h2 hv
    obtain ⟨a1, a2, a3, a4, a5⟩ := h
    have hT := a1.1
    have hP := a1.2.1
    have e5 := a1.2.2.1
    have e0 := a1.2.2.2.1
    have cS : f2_leastLiked_4 SZ n (d + 1) L (nI p) v2 (nI k) Ic Jc = f2_leastLiked_4_b SZ n (f2_leastLiked_4 SZ n d) L (nI p) v2 (nI k) Ic Jc := rfl
    have mS : f11_leastLiked_4 SZ n (d + 1) 167 (nI p) v2 (nI k) Im Jm = f11_leastLiked_4_b SZ n (f11_leastLiked_4 SZ n d) 167 (nI p) v2 (nI k) Im Jm := rfl
    rw [cS, mS]
    unfold f2_leastLiked_4_b f2_leastLiked_53 f2_leastLiked_55 f11_leastLiked_4_b f11_leastLiked_50 f11_leastLiked_54 f11_leastLiked_55
    rw [(zL hL).1, (zL hL).2.2, e5, e0]
    by_cases c : k = T
    · subst c
      rw [if_pos (nI_le (Nat.le_refl k) (by omega)), if_pos (nI_le (Nat.le_refl k) (by omega))]
      refine ⟨v2, ?_, rfl, rfl⟩
      exact hv
    · have hk : k < T := by omega
      rw [if_neg (nI_ge hk (by omega)), if_neg (nI_ge hk (by omega)), ckn a5 hL.f (by omega) (by omega), mkn (by omega) (by omega), Option.bind_some, Option.bind_some, nI_1]
      have stay := ih (k + 1) v2 (by omega) (by omega) (hv.imp id fun ⟨q, h1, h2⟩ => ⟨q, by omega, h2⟩)
      have new := ih (k + 1) (nI k) (by omega) (by omega) (Or.inr ⟨k, by omega, rfl⟩)
      cases kn Im p k
      · rw [if_pos (show b01 false = 0 by decide), if_pos (show b01 false = 0 by decide)]
        exact stay
      · rw [if_neg (show ¬ b01 true = 0 by decide), if_neg (show ¬ b01 true = 0 by decide)]
        rcases hv with rfl | ⟨q, hq, rfl⟩
        · rw [if_pos (show m1 = -1 from rfl), if_pos (show m1 < 0 by decide)]
          exact new
        · obtain ⟨x, hx, x1, x2⟩ := a3 (6 * p + k) (by omega)
          obtain ⟨y, hy, y1, y2⟩ := a3 (6 * p + q) (by omega)
          rw [if_neg (n_m1 (by omega)), if_neg (nI_pos (by omega)), likeOf_eq (by omega) (by omega), likeOf_eq (by omega) (by omega), Option.bind_some, Option.bind_some, x1, y1]
          by_cases w : y ≤ x
          · simp (disch := omega) only [↓M1, ↓ofNat_nI, L0, L1, L2, L3, L4, L5, L6, L7, L8, L9, L10, L12, L31, L32, L40, L48, L50, L99, L100, L120, L180, L256, L500, n_lt0, n_ge0, n_let, n_lef, n_ltt, n_ltf, n_eqt, n_eqf, m_lt, m_le, m_eq, m_eq2, m_le2, m_lt2, m_nle, m_nlt, if_true, if_false, eq_self, Option.bind_some, mb0, mb1, mbb, mbn0, mbn1, not_true, not_false_eq_true, reduceIte, Bool.false_eq_true, nI_add, nI_clamp, pk_mul, in_t, in_f, in_m, zr, za, at_SZ, put_SZ, rd_at, wr_at, rd_m, wr_m, x2, y2]
            exact stay
          · simp (disch := omega) only [↓M1, ↓ofNat_nI, L0, L1, L2, L3, L4, L5, L6, L7, L8, L9, L10, L12, L31, L32, L40, L48, L50, L99, L100, L120, L180, L256, L500, n_lt0, n_ge0, n_let, n_lef, n_ltt, n_ltf, n_eqt, n_eqf, m_lt, m_le, m_eq, m_eq2, m_le2, m_lt2, m_nle, m_nlt, if_true, if_false, eq_self, Option.bind_some, mb0, mb1, mbb, mbn0, mbn1, not_true, not_false_eq_true, reduceIte, Bool.false_eq_true, nI_add, nI_clamp, pk_mul, in_t, in_f, in_m, zr, za, at_SZ, put_SZ, rd_at, wr_at, rd_m, wr_m, x2, y2]
            exact new
theorem ll_lock (hL : isL L R F) (h : rLf T P N R F Ic Im) {n p : Nat} (hn : 9 ≤ n) (hp : p < P) : ∃ r, orT T r ∧ f2_leastLiked SZ n L (nI p) Ic Jc = some r ∧ f11_leastLiked SZ n 167 (nI p) Im Jm = some r := by
  have hT := h.1.1
  exact ll_loop hL h hp n 0 m1 (Nat.zero_le T) (by omega) (Or.inl rfl)
/-- a drawn change -/
theorem try_lock (hL : isL L R F) (h : rLs T P N R F Ic Im) {n p : Nat} (hn : 9 ≤ n) (hp : p < P) (hT0 : 0 < T) : ∃ Ic' Im', f2_tryDrawnChange SZ n L (nI p) Ic Jc = some (Ic', Jc) ∧ (∀ rec2 v, ((f11_draw SZ 167 (Im 167 0) Im Jm).bind fun o9 => (f11_knownMany SZ n 167 (nI p) o9.2.1 o9.2.2).bind fun o10 => if (o9.2.1 167 6) ≤ o10 then ((f11_leastLiked SZ n 167 (nI p) o9.2.1 o9.2.2).bind fun o12 => f11_drawYear_71 SZ n rec2 167 v (nI p) 167 (nI p) o9.1 o12 o9.2.1 o9.2.2) else (f11_drawYear_71 SZ n rec2 167 v (nI p) 167 (nI p) o9.1 (-1) o9.2.1 o9.2.2)) = rec2 167 v (nI (p + 1)) Im' Jm) ∧ fF F Ic Ic' ∧ fV Im Im' ∧ rLs T P N R F Ic' Im' := by
  have hT := h.1.1.1
  have hP := h.1.1.2.1
  have e5 := h.1.1.2.2.1
  have e0 := h.1.1.2.2.2.1
  obtain ⟨t, I1, B1, ht, d1, d2, d3, d4, d5, -, -, -⟩ := h.draw (Jc := Jc) (Jm := Jm) hL hT0 (by omega)
  obtain ⟨hd, hd1, hd2, g1, g2⟩ := d5.1.2.2.2.1.1
  have a5 := d5.1.2.2.2.2
  have hc := cnt_le (kn B1 p) T
  have rm := room_c (Jc := Jc) (by omega : 7 ≤ n) hL a5 hT (show p < 8 by omega) hd2 g1
  have km := km_eq (n := n) (p := p) (Jm := Jm) (by omega) hT (by omega) d5.1.1.2.2.2.1
  obtain ⟨l, l1, l2, l3⟩ := ll_lock (Jc := Jc) (Jm := Jm) hL d5.1 hn hp
  unfold f2_tryDrawnChange f2_tryDrawnChange_32 f11_drawYear_71 f11_drawYear_77
  rw [(zL hL).1, (zL hL).2.2, e5, e0, d1, d2, Option.bind_some]
  simp only [Option.bind_some]
  rw [rm, km, Option.bind_some]
  simp only [Option.bind_some]
  rw [g2]
  by_cases cr : hd ≤ cnt (kn B1 p) T
  · obtain ⟨r, I2, B2, u1, u2, u3, u4, u5, u6, u7⟩ := change_lock (Jc := Jc) (Jm := Jm) hL d5.1 (n := n) hn hp ht (f := l) (l := m1) l1 (Or.inl rfl)
    refine ⟨I2, B2, ?_, fun rec2 v => ?_, d3.trans u3, d4.trans u4, d5.go hL u3 u4 u5 u6 u7⟩
    · rw [decide_eq_false (by omega), if_pos (show b01 false = 0 by decide), l2, Option.bind_some, show f2_beginChange SZ n L (nI p) (nI t) l (-1) I1 Jc = _ from u1]
      rfl
    · rw [if_pos (nI_le cr (by omega)), l3, Option.bind_some, show f11_changeNow SZ n 167 (nI p) (nI t) l (-1) B1 Jm = _ from u2, Option.bind_some, nI_1]
  · obtain ⟨r, I2, B2, u1, u2, u3, u4, u5, u6, u7⟩ := change_lock (Jc := Jc) (Jm := Jm) hL d5.1 (n := n) hn hp ht (f := m1) (l := m1) (Or.inl rfl) (Or.inl rfl)
    refine ⟨I2, B2, ?_, fun rec2 v => ?_, d3.trans u3, d4.trans u4, d5.go hL u3 u4 u5 u6 u7⟩
    · rw [decide_eq_true (by omega), if_neg (show ¬ b01 true = 0 by decide), show f2_beginChange SZ n L (nI p) (nI t) (-1) (-1) I1 Jc = _ from u1]
      rfl
    · rw [if_neg (nI_ge (by omega) (by omega)), show f11_changeNow SZ n 167 (nI p) (nI t) (-1) (-1) B1 Jm = _ from u2, Option.bind_some, nI_1]
/-- one person's drawing -/
theorem dstep_lock (hL : isL L R F) (h : rLs T P N R F Ic Im) {n p v : Nat} (hn : 9 ≤ n) (hp : p < P) (hT0 : 0 < T) (hv : v ≤ 100) : ∃ Ic' Im', (∀ rec2 rec10 v1 v3, f2_passDrawnYears_10_b SZ n rec2 rec10 L v1 (nI v) v3 (nI p) Ic Jc = rec10 L v1 (nI v) v3 (nI (p + 1)) Ic' Jc) ∧ (∀ rec2, f11_drawYear_2_b SZ n rec2 167 (nI v) (nI p) Im Jm = rec2 167 (nI v) (nI (p + 1)) Im' Jm) ∧ fF F Ic Ic' ∧ fV Im Im' ∧ rLs T P N R F Ic' Im' := by
  have hT := h.1.1.1
  have hP := h.1.1.2.1
  have e6 := h.1.1.2.2.2.2.1
  have e2 := h.1.1.2.2.2.2.2
  have a5 := h.1.2.2.2.2
  obtain ⟨Lv, l1, l2, l3, l4, l5⟩ := a5.l
  have lk := l2 p (by omega)
  have eL : f6_at SZ (mm_rf SZ F 4) (nI p) Ic Jc = some (Im 177 p) := by
    rw [(zF hL.f).1.2.2.2.2.1]
    simp (disch := omega) only [↓M1, ↓ofNat_nI, L0, L1, L2, L3, L4, L5, L6, L7, L8, L9, L10, L12, L31, L32, L40, L48, L50, L99, L100, L120, L180, L256, L500, n_lt0, n_ge0, n_let, n_lef, n_ltt, n_ltf, n_eqt, n_eqf, m_lt, m_le, m_eq, m_eq2, m_le2, m_lt2, m_nle, m_nlt, if_true, if_false, eq_self, Option.bind_some, mb0, mb1, mbb, mbn0, mbn1, not_true, not_false_eq_true, reduceIte, Bool.false_eq_true, nI_add, nI_clamp, pk_mul, in_t, in_f, in_m, zr, za, at_SZ, put_SZ, rd_at, wr_at, rd_m, wr_m, zF hL.f, (a5.le hp).1]
  have b3 : mm_inb (nI p) (mm_al SZ (mm_rf SZ 167 13)) = true := by simp (disch := omega) only [↓M1, ↓ofNat_nI, L0, L1, L2, L3, L4, L5, L6, L7, L8, L9, L10, L12, L31, L32, L40, L48, L50, L99, L100, L120, L180, L256, L500, n_lt0, n_ge0, n_let, n_lef, n_ltt, n_ltf, n_eqt, n_eqf, m_lt, m_le, m_eq, m_eq2, m_le2, m_lt2, m_nle, m_nlt, if_true, if_false, eq_self, Option.bind_some, mb0, mb1, mbb, mbn0, mbn1, not_true, not_false_eq_true, reduceIte, Bool.false_eq_true, nI_add, nI_clamp, pk_mul, in_t, in_f, in_m, zr, za, at_SZ, put_SZ, rd_at, wr_at, rd_m, wr_m]
  have b7 : mm_inb (nI p) (mm_al SZ (mm_rf SZ 167 17)) = true := by simp (disch := omega) only [↓M1, ↓ofNat_nI, L0, L1, L2, L3, L4, L5, L6, L7, L8, L9, L10, L12, L31, L32, L40, L48, L50, L99, L100, L120, L180, L256, L500, n_lt0, n_ge0, n_let, n_lef, n_ltt, n_ltf, n_eqt, n_eqf, m_lt, m_le, m_eq, m_eq2, m_le2, m_lt2, m_nle, m_nlt, if_true, if_false, eq_self, Option.bind_some, mb0, mb1, mbb, mbn0, mbn1, not_true, not_false_eq_true, reduceIte, Bool.false_eq_true, nI_add, nI_clamp, pk_mul, in_t, in_f, in_m, zr, za, at_SZ, put_SZ, rd_at, wr_at, rd_m, wr_m]
  have z3 : mm_rf SZ 167 13 = 173 := by simp (disch := omega) only [↓M1, ↓ofNat_nI, L0, L1, L2, L3, L4, L5, L6, L7, L8, L9, L10, L12, L31, L32, L40, L48, L50, L99, L100, L120, L180, L256, L500, n_lt0, n_ge0, n_let, n_lef, n_ltt, n_ltf, n_eqt, n_eqf, m_lt, m_le, m_eq, m_eq2, m_le2, m_lt2, m_nle, m_nlt, if_true, if_false, eq_self, Option.bind_some, mb0, mb1, mbb, mbn0, mbn1, not_true, not_false_eq_true, reduceIte, Bool.false_eq_true, nI_add, nI_clamp, pk_mul, in_t, in_f, in_m, zr, za, at_SZ, put_SZ, rd_at, wr_at, rd_m, wr_m]
  have z7 : mm_rf SZ 167 17 = 177 := by simp (disch := omega) only [↓M1, ↓ofNat_nI, L0, L1, L2, L3, L4, L5, L6, L7, L8, L9, L10, L12, L31, L32, L40, L48, L50, L99, L100, L120, L180, L256, L500, n_lt0, n_ge0, n_let, n_lef, n_ltt, n_ltf, n_eqt, n_eqf, m_lt, m_le, m_eq, m_eq2, m_le2, m_lt2, m_nle, m_nlt, if_true, if_false, eq_self, Option.bind_some, mb0, mb1, mbb, mbn0, mbn1, not_true, not_false_eq_true, reduceIte, Bool.false_eq_true, nI_add, nI_clamp, pk_mul, in_t, in_f, in_m, zr, za, at_SZ, put_SZ, rd_at, wr_at, rd_m, wr_m]
  have cS : ∀ (rec2 : Nat → Int32 → Int32 → Int32 → mm_I → mm_J → Option (mm_I × mm_J)) (rec10 : Nat → Int32 → Int32 → Int32 → Int32 → mm_I → mm_J → Option (mm_I × mm_J)) v1 v3, f2_passDrawnYears_10_b SZ n rec2 rec10 L v1 (nI v) v3 (nI p) Ic Jc = if b01 (Lv p) = 0 then rec10 L v1 (nI v) v3 (nI (p + 1)) Ic Jc else (if Im 177 p = -1 then ((f1_draw SZ F 100 Ic Jc).bind fun o8 => if nI v ≤ o8.1 then rec10 L v1 (nI v) v3 (nI (p + 1)) o8.2.1 o8.2.2 else ((f2_tryDrawnChange SZ n L (nI p) o8.2.1 o8.2.2).bind fun o10 => rec10 L v1 (nI v) v3 (nI (p + 1)) o10.1 o10.2)) else rec10 L v1 (nI v) v3 (nI (p + 1)) Ic Jc) := by
    intro rec2 rec10 v1 v3
    unfold f2_passDrawnYears_10_b f2_passDrawnYears_69
    rw [(zL hL).1, (zL hL).2.2, e6, if_neg (nI_ge hp (by omega)), l1 p (by omega), Option.bind_some, eL, Option.bind_some, nI_1]
  have mS : ∀ (rec2 : Nat → Int32 → Int32 → mm_I → mm_J → Option (mm_I × mm_J)), f11_drawYear_2_b SZ n rec2 167 (nI v) (nI p) Im Jm = if b01 (Lv p) = 0 then rec2 167 (nI v) (nI (p + 1)) Im Jm else (if 0 ≤ Im 177 p then rec2 167 (nI v) (nI (p + 1)) Im Jm else ((f11_draw SZ 167 100 Im Jm).bind fun o7 => if nI v ≤ o7.1 then rec2 167 (nI v) (nI (p + 1)) o7.2.1 o7.2.2 else ((f11_draw SZ 167 (o7.2.1 167 0) o7.2.1 o7.2.2).bind fun o9 => (f11_knownMany SZ n 167 (nI p) o9.2.1 o9.2.2).bind fun o10 => if (o9.2.1 167 6) ≤ o10 then ((f11_leastLiked SZ n 167 (nI p) o9.2.1 o9.2.2).bind fun o12 => f11_drawYear_71 SZ n rec2 167 (nI v) (nI p) 167 (nI p) o9.1 o12 o9.2.1 o9.2.2) else (f11_drawYear_71 SZ n rec2 167 (nI v) (nI p) 167 (nI p) o9.1 (-1) o9.2.1 o9.2.2)))) := by
    intro rec2
    unfold f11_drawYear_2_b f11_drawYear_77
    rw [e2, if_neg (nI_ge hp (by omega)), if_pos b3, if_pos b7, z3, z7, nI_clamp (by omega), lk, nI_1]
  cases hl : Lv p
  · rw [hl] at cS mS
    exact ⟨Ic, Im, fun rec2 rec10 v1 v3 => (cS rec2 rec10 v1 v3).trans (if_pos (show b01 false = 0 by decide)), fun rec2 => (mS rec2).trans (if_pos (show b01 false = 0 by decide)), fF.refl, fV.refl, h⟩
  · rw [hl] at cS mS
    rcases orT_c (a5.le hp).2 hT with ⟨e, e'⟩ | ⟨q, hq, e, e', e''⟩
    · rw [e] at cS mS
      obtain ⟨x, I1, B1, hx, d1, d2, d3, d4, d5, -, -, -⟩ := h.draw (Jc := Jc) (Jm := Jm) hL (m := 100) (by omega) (by omega)
      rw [show f11_draw SZ 167 100 Im Jm = _ from d2] at mS
      rw [show f1_draw SZ F 100 Ic Jc = _ from d1] at cS
      by_cases cx : v ≤ x
      · refine ⟨I1, B1, fun rec2 rec10 v1 v3 => ?_, fun rec2 => ?_, d3, d4, d5⟩
        · rw [cS, if_neg (show ¬ b01 true = 0 by decide), if_pos (show m1 = -1 from rfl), Option.bind_some, if_pos (nI_le cx (by omega))]
        · rw [mS, if_neg (show ¬ b01 true = 0 by decide), if_neg (show ¬ 0 ≤ m1 by decide), Option.bind_some, if_pos (nI_le cx (by omega))]
      · obtain ⟨I2, B2, t1, t2, t3, t4, t5⟩ := try_lock (Jc := Jc) (Jm := Jm) hL d5 hn hp hT0
        refine ⟨I2, B2, fun rec2 rec10 v1 v3 => ?_, fun rec2 => ?_, d3.trans t3, d4.trans t4, t5⟩
        · rw [cS, if_neg (show ¬ b01 true = 0 by decide), if_pos (show m1 = -1 from rfl), Option.bind_some, if_neg (nI_ge (by omega) (by omega)), t1, Option.bind_some]
        · rw [mS, if_neg (show ¬ b01 true = 0 by decide), if_neg (show ¬ 0 ≤ m1 by decide), Option.bind_some, if_neg (nI_ge (by omega) (by omega))]
          exact t2 rec2 (nI v)
    · rw [e] at cS mS
      refine ⟨Ic, Im, fun rec2 rec10 v1 v3 => ?_, fun rec2 => ?_, fF.refl, fV.refl, h⟩
      · rw [cS, if_neg (show ¬ b01 true = 0 by decide), if_neg (n_m1 (by omega))]
      · rw [mS, if_neg (show ¬ b01 true = 0 by decide), if_pos (nI_pos' (by omega))]
end DW
