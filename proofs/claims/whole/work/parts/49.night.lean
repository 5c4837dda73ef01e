/-! ===== part 49: both steps from one lock; change; draws; night (written by wip/whole/pre.py) ===== -/
theorem two {k T P : Nat} {I : mm_I} {J : mm_J} {fc : Option (Int32 × mm_I × mm_J)} {fm : mm_I → mm_J → Option (Int32 × mm_I × mm_J)} (hA : rAll T P (100 * k) I I) (lock : ∀ Im, rAll T P (100 * k) I Im → ∃ r Ic' Im', fc = some (r, Ic', J) ∧ fm Im J = some (r, Im', J) ∧ fF 29 I Ic' ∧ fV Im Im' ∧ rF T P (100 * (k + 1)) 29 Ic' (vCur Im') ∧ rS Ic' Im') : ∃ o1 o2, fc = some o1 ∧ fm o1.2.1 o1.2.2 = some o2 ∧ o1.1 = o2.1 ∧ Inv (k + 1) o2.2.1 o2.2.2 := by
  obtain ⟨r, Ic', Im0, c1, -, f1, -, -, -⟩ := lock I hA
  obtain ⟨r2, Ic2, Im', c2, m2, f2, f3, hR, hS⟩ := lock Ic' (hA.m (f1.le (by omega)))
  have e : (r, Ic', J) = (r2, Ic2, J) := Option.some.inj (c1.symm.trans c2)
  have e1 : r = r2 := congrArg (fun x => x.1) e
  have e2 : Ic' = Ic2 := congrArg (fun x => x.2.1) e
  subst e1 e2
  exact ⟨(r, Ic', J), (r, Im', J), c1, m2, rfl, Inv_folk hA f2 f3 hR hS⟩
theorem rAll.lf {T P N : Nat} {Ic Im : mm_I} (h : rAll T P N Ic Im) : rLf T P N 26 29 Ic Im := ⟨h.1, h.2.1, h.2.2.1, h.2.2.2.1, h.2.2.2.2.1⟩
theorem isL1 : isL 147 26 29 := Or.inl ⟨rfl, rfl, rfl⟩
theorem n_m1 {q : Nat} (h : q < 2 ^ 31) : ¬ nI q = -1 := by
  intro e
  have := m_eq (a := q) h
  rw [show (nI q = m1) = (nI q = -1) from rfl] at this
  rw [this] at e
  exact e
theorem out_m1 {n : Nat} (hn : n < 2 ^ 31) : (m1 : Int32) < 0 ∨ nI n ≤ m1 := Or.inl (by decide)
theorem ch0 {n : Nat} {p t f l : Int32} {I : mm_I} {J : mm_J} : f10_change_30 SZ n 0 p t f l 0 I J = some (-1000000001, I, J) := by
  unfold f10_change_30 f10_change_56 f10_change_60 f10_change_61 f10_change_88 f10_change_90
  rw [f0_hasPerson_eq, Option.bind_some]
  split
  · rfl
  · split
    · rfl
    · split
      · split <;> rfl
      · split <;> rfl
theorem n10 : ¬ (1 : Int32) = 0 := by decide
theorem st_change : St_change Inv := by
  intro k hk p t f l I J h
  have h0 := h
  obtain ⟨T, P, hA⟩ := h
  refine ⟨1000, ?_⟩
  show ∃ o1 o2, f10_change SZ 1000 0 p t f l I J = some o1 ∧ (fun I J => f11_change SZ 1000 167 p t f l I J) o1.2.1 o1.2.2 = some o2 ∧ o1.1 = o2.1 ∧ Inv (k + 1) o2.2.1 o2.2.2
  have unk : f10_change SZ 1000 0 p t f l I J = some (-1000000001, I, J) → f11_change SZ 1000 167 p t f l I J = some (-1000000001, I, J) → ∃ o1 o2, f10_change SZ 1000 0 p t f l I J = some o1 ∧ (fun I J => f11_change SZ 1000 167 p t f l I J) o1.2.1 o1.2.2 = some o2 ∧ o1.1 = o2.1 ∧ Inv (k + 1) o2.2.1 o2.2.2 := fun h1 h2 => ⟨_, _, h1, h2, rfl, Inv_mono k I J h0⟩
  have a1 := hA.1
  have hT := a1.1
  have hP := a1.2.1
  rcases in_cases P (by omega) p with hp | ⟨p', hp', rfl⟩
  · refine unk ?_ ?_
    · unfold f10_change f10_change_29
      rw [cKp_outP a1 hp, Option.bind_some, if_pos (show (0 : Int32) = 0 from rfl)]
      exact ch0
    · unfold f11_change
      rw [mPe_out a1 hp]
      rfl
  rcases in_cases T (by omega) t with ht | ⟨t', ht', rfl⟩
  · refine unk ?_ ?_
    · unfold f10_change f10_change_29
      rw [cKp_outT a1 hp' ht, Option.bind_some, if_pos (show (0 : Int32) = 0 from rfl)]
      exact ch0
    · unfold f11_change
      rw [mPe_in a1 hp', Option.bind_some, if_neg n10, mTr_out a1 ht]
      rfl
  have cF : orT T f → f10_change SZ 1000 0 (nI p') (nI t') f l I J = f10_change_30 SZ 1000 0 (nI p') (nI t') f l 1 I J := by
    intro hf
    unfold f10_change f10_change_25
    rw [cKp_in a1 hp' ht', Option.bind_some, if_neg n10]
    rcases hf with rfl | ⟨q, hq, rfl⟩
    · rw [if_pos rfl]
    · rw [if_neg (n_m1 (by omega)), show mm_rf SZ 0 1 = 4 from rfl, cTr_in a1 hq, Option.bind_some, if_neg n10]
  have mF : orT T f → ∀ {Im : mm_I} {Jm : mm_J}, rT T P I Im → f11_change SZ 1000 167 (nI p') (nI t') f l Im Jm = f11_change_33 SZ 1000 167 (nI p') (nI t') f l Im Jm := by
    intro hf Im Jm b1
    unfold f11_change
    rw [mPe_in b1 hp', Option.bind_some, if_neg n10, mTr_in b1 ht', Option.bind_some, if_neg n10]
    rcases hf with rfl | ⟨q, hq, rfl⟩
    · rw [if_pos rfl]
    · rw [if_neg (n_m1 (by omega)), mTr_in b1 hq, Option.bind_some, if_neg n10]
  have good : orT T f → (l = m1 ∨ ∃ q, q < P ∧ l = nI q) → ¬ l = nI p' → ∃ o1 o2, f10_change SZ 1000 0 (nI p') (nI t') f l I J = some o1 ∧ (fun I J => f11_change SZ 1000 167 (nI p') (nI t') f l I J) o1.2.1 o1.2.2 = some o2 ∧ o1.1 = o2.1 ∧ Inv (k + 1) o2.2.1 o2.2.2 := by
    intro hf hl hne
    refine two (J := J) hA (fun Im hB => ?_)
    obtain ⟨r, Ic', Im', g1, g2, g3, g4, g5, g6, g7⟩ := change_lock (Jc := J) (Jm := J) isL1 hB.lf (n := 1000) (by omega) hp' ht' hf hl
    obtain ⟨s, s1, s2, s3⟩ := hB.2.2.2.2.2.1
    refine ⟨r, Ic', Im', ?_, ?_, g3, g4, g5.mono (by omega), s, s1, by rw [g6]; exact s2, by rw [g7]; exact s3⟩
    · rw [cF hf]
      unfold f10_change_30 f10_change_56 f10_change_61 f10_change_90
      have : ∀ o : Option (Int32 × mm_I × mm_J), o = some (r, Ic', J) → (if (1 : Int32) = 0 then f10_change_88 SZ 1000 I J else if (1 : Int32) = 0 then f10_change_88 SZ 1000 I J else o.bind fun o3 => some (o3.1, o3.2.1, o3.2.2)) = some (r, Ic', J) := by
        intro o e
        rw [if_neg n10, if_neg n10, e]
        rfl
      rcases hl with rfl | ⟨q, hq, rfl⟩
      · rw [if_pos rfl]
        exact this _ g1
      · rw [if_neg (n_m1 (by omega)), show mm_rf SZ 0 1 = 4 from rfl, cPe_in a1 hq, Option.bind_some, if_neg n10, if_neg hne]
        exact this _ g1
    · show f11_change SZ 1000 167 (nI p') (nI t') f l Im J = _
      rw [mF hf hB.1]
      unfold f11_change_33 f11_change_58
      have : ∀ o : Option (Int32 × mm_I × mm_J), o = some (r, Im', J) → (o.bind fun o1 => some (o1.1, o1.2.1, o1.2.2)) = some (r, Im', J) := by
        intro o e
        rw [e]
        rfl
      rcases hl with rfl | ⟨q, hq, rfl⟩
      · rw [if_pos rfl]
        exact this _ g2
      · rw [if_neg (n_m1 (by omega)), mPe_in hB.1 hq, Option.bind_some, if_neg n10, if_neg hne]
        exact this _ g2
  have lend : orT T f → ∃ o1 o2, f10_change SZ 1000 0 (nI p') (nI t') f l I J = some o1 ∧ (fun I J => f11_change SZ 1000 167 (nI p') (nI t') f l I J) o1.2.1 o1.2.2 = some o2 ∧ o1.1 = o2.1 ∧ Inv (k + 1) o2.2.1 o2.2.2 := by
    intro hf
    by_cases el : l = -1
    · exact good hf (Or.inl el) (by rw [el]; intro e; exact n_m1 (q := p') (by omega) e.symm)
    · rcases in_cases P (by omega) l with hl | ⟨l', hl', rfl⟩
      · refine unk ?_ ?_
        · rw [cF hf]
          unfold f10_change_30 f10_change_60 f10_change_61 f10_change_88 f10_change_90
          rw [if_neg el, show mm_rf SZ 0 1 = 4 from rfl, cPe_out a1 hl]
          rfl
        · rw [mF hf a1]
          unfold f11_change_33
          rw [if_neg el, mPe_out a1 hl]
          rfl
      · by_cases e : nI l' = nI p'
        · refine unk ?_ ?_
          · rw [cF hf]
            unfold f10_change_30 f10_change_60 f10_change_61 f10_change_88 f10_change_90
            rw [if_neg el, show mm_rf SZ 0 1 = 4 from rfl, cPe_in a1 hl', Option.bind_some, if_neg n10, if_pos e]
            rfl
          · rw [mF hf a1]
            unfold f11_change_33
            rw [if_neg el, mPe_in a1 hl', Option.bind_some, if_neg n10, if_pos e]
            rfl
        · exact good hf (Or.inr ⟨l', hl', rfl⟩) e
  by_cases ef : f = -1
  · exact lend (Or.inl ef)
  · rcases in_cases T (by omega) f with hf | ⟨f', hf', rfl⟩
    · refine unk ?_ ?_
      · unfold f10_change f10_change_29
        rw [cKp_in a1 hp' ht', Option.bind_some, if_neg n10, if_neg ef, show mm_rf SZ 0 1 = 4 from rfl, cTr_out a1 hf, Option.bind_some, if_pos (show (0 : Int32) = 0 from rfl)]
        exact ch0
      · unfold f11_change
        rw [mPe_in a1 hp', Option.bind_some, if_neg n10, mTr_in a1 ht', Option.bind_some, if_neg n10, if_neg ef, mTr_out a1 hf]
        rfl
    · exact lend (Or.inr ⟨f', hf', rfl⟩)
/-! draws -/
def dr (s : Nat) : Nat := (s * 1103515245 + 12345) % 2147483648
theorem dr_lt (s : Nat) : dr s < 2 ^ 31 := Nat.mod_lt _ (by decide)
theorem l_and (n : Nat) (h : n < 2 ^ 63) : lN n &&& 2147483647 = lN (n % 2147483648) := by
  apply Int64.toBitVec_inj.mp
  apply BitVec.eq_of_toNat_eq
  rw [Int64.toBitVec_and, BitVec.toNat_and, show (2147483647 : Int64).toBitVec.toNat = 2 ^ 31 - 1 from by decide, Nat.and_two_pow_sub_one_eq_mod]
  show (BitVec.ofNat 64 n).toNat % 2 ^ 31 = (BitVec.ofNat 64 (n % 2147483648)).toNat
  rw [BitVec.toNat_ofNat, BitVec.toNat_ofNat]
  omega
theorem dr_l {s : Nat} (hs : s < 2 ^ 31) : (nI s).toInt64 * 1103515245 + 12345 = lN (s * 1103515245 + 12345) := by
  rw [nI_l hs, show (1103515245 : Int64) = lN 1103515245 from rfl, show (12345 : Int64) = lN 12345 from rfl, lN_mul, lN_add]
theorem drC {s : Nat} (hs : s < 2 ^ 31) : ((((nI s).toInt64 * 1103515245) + 12345) &&& 2147483647).toInt32 = nI (dr s) := by
  rw [dr_l hs, l_and _ (by omega), lN_i]
  rfl
theorem drM {s : Nat} (hs : s < 2 ^ 31) : ((((nI s).toInt64 * 1103515245) + 12345) - (((nI s).toInt64 * 1103515245) + 12345) / 2147483648 * 2147483648).toInt32 = nI (dr s) := by
  rw [dr_l hs, show (2147483648 : Int64) = lN 2147483648 from rfl, pk_lRem (by omega) (by omega) (by omega), lN_i]
  rfl
theorem draw_c {F s m : Nat} (hm : 0 < m) (hm' : m < 2 ^ 31) (hs : s < 2 ^ 31) {Ic : mm_I} {Jc : mm_J} (e : Ic F 12 = nI s) : f1_draw SZ F (nI m) Ic Jc = some (nI (dr s / 65536 % m), mm_up Ic F 12 (nI (dr s)), Jc) := by
  unfold f1_draw f1_draw_39
  have h1 := dr_lt s
  rw [e, drC hs, if_neg (nI_nle hm hm'), if_neg (nI_ne0 hm hm'), up_s2, show (65536 : Int32) = nI 65536 from rfl, pk_div (by omega) (by omega) (by omega), pk_rem (by omega) (by omega) (by omega)]
theorem draw_m {s m : Nat} (hm : 0 < m) (hm' : m < 2 ^ 31) (hs : s < 2 ^ 31) {Im : mm_I} {Jm : mm_J} (e : Im 167 24 = nI s) : f11_draw SZ 167 (nI m) Im Jm = some (nI (dr s / 65536 % m), mm_up Im 167 24 (nI (dr s)), Jm) := by
  unfold f11_draw
  have h1 := dr_lt s
  rw [e, drM hs, if_neg (nI_ne0 hm hm'), up_s2, show (65536 : Int32) = nI 65536 from rfl, pk_div (by omega) (by omega) (by omega), pk_rem (by omega) (by omega) (by omega)]
theorem liv2 {n P : Nat} {Lv : Nat → Bool} (hn : 9 ≤ n) (hP : P ≤ 8) {I : mm_I} {J : mm_J} (h2 : I 167 2 = nI P) (h3 : ∀ p, p < 8 → I 173 p = b01 (Lv p)) (h4 : ∀ p, P ≤ p → Lv p = false) : f11_livesSet SZ n 167 I J = some (bsI Lv 8) := by
  rw [liv_eq hn hP h2, bsI_wid hP]
  refine congrArg some (bsI_congr fun p hp => ?_)
  rw [h3 p hp, b01_n, Bool.not_not]
  by_cases e : p < P
  · simp [e]
  · rw [h4 p (by omega)]; simp [e]
theorem ct8_del : ∀ (a b c d e f g h : Bool) (k : Fin 8), p8 a b c d e f g h k.1 = true → ct8 (a && !(k.1 == 0)) (b && !(k.1 == 1)) (c && !(k.1 == 2)) (d && !(k.1 == 3)) (e && !(k.1 == 4)) (f && !(k.1 == 5)) (g && !(k.1 == 6)) (h && !(k.1 == 7)) + 1 = ct8 a b c d e f g h := by decide +kernel
theorem cnt_del {P : Nat → Bool} {k : Nat} (hk : k < 8) (h : P k = true) : cnt (fun j => P j && !(k == j)) 8 + 1 = cnt P 8 := by
  rw [cnt_8, cnt_8]
  exact ct8_del _ _ _ _ _ _ _ _ ⟨k, hk⟩ (by rw [bs_m P k hk]; exact h)
/-! night -/
theorem night_lock {T P k p t : Nat} {I Im : mm_I} {J : mm_J} (hB : rAll T P (100 * k) I Im) (hp : p < P) (ht : t < T) : ∃ r Ic' Im', f10_night SZ 0 (nI p) (nI t) I J = some (r, Ic', J) ∧ f11_night SZ 1000 167 (nI p) (nI t) Im J = some (r, Im', J) ∧ fF 29 I Ic' ∧ fV Im Im' ∧ rF T P (100 * (k + 1)) 29 Ic' (vCur Im') ∧ rS Ic' Im' := by
  have a1 := hB.1
  have a5 : rF T P (100 * (k + 1)) 29 I (vCur Im) := hB.2.2.2.2.1.mono (by omega)
  obtain ⟨s, hs, s1, s2⟩ := hB.2.2.2.2.2.1
  have hT := a1.1
  have hP := a1.2.1
  obtain ⟨c1, x, hx, cx⟩ := a5.1 (6 * p + t) (by omega)
  have c1 : I 33 (6 * p + t) = Im 174 (6 * p + t) := c1
  have cx : Im 174 (6 * p + t) = nI x := cx
  obtain ⟨Lv, l1, l2, l3, l4⟩ := a5.2.2.2.2.2.2.1
  have l2 : ∀ p, p < 8 → Im 173 p = b01 (Lv p) := l2
  obtain ⟨W, w1, w2, w3⟩ := a5.ni
  have w2p : Im 182 p = b01 (W p) := w2 p (by omega)
  have l2p : Im 173 p = b01 (Lv p) := l2 p (by omega)
  unfold f10_night f11_night f11_night_16 f11_night_47 f10_night_38 f10_night_58
  simp only [zr]
  rw [cKp_in a1 hp ht, Option.bind_some, if_neg n10, cKn (Or.inl rfl) (by omega) (by omega), Option.bind_some, mPe_in a1 hp, Option.bind_some, if_neg n10, mTr_in a1 ht, Option.bind_some, if_neg n10, show I (29 + 4) (6 * p + t) = nI x from c1.trans cx]
  have no : ∃ r Ic' Im', some ((-1000000003 : Int32), I, J) = some (r, Ic', J) ∧ some ((-1000000003 : Int32), Im, J) = some (r, Im', J) ∧ fF 29 I Ic' ∧ fV Im Im' ∧ rF T P (100 * (k + 1)) 29 Ic' (vCur Im') ∧ rS Ic' Im' := ⟨_, I, Im, rfl, rfl, fF.refl, fV.refl, a5, s, hs, s1, s2⟩
  by_cases hx0 : x = 0
  · subst hx0
    rw [show decide (nI 0 < nI 0) = false by decide, if_pos (show b01 false = 0 by decide)]
    simp (disch := omega) only [↓M1, ↓ofNat_nI, L0, L1, L2, L3, L4, L5, L6, L7, L8, L9, L10, L12, L31, L32, L40, L48, L50, L99, L100, L120, L180, L256, L500, n_lt0, n_ge0, n_let, n_lef, n_ltt, n_ltf, n_eqt, n_eqf, m_lt, m_le, m_eq, m_eq2, m_le2, m_lt2, m_nle, m_nlt, if_true, if_false, eq_self, Option.bind_some, mb0, mb1, mbb, mbn0, mbn1, not_true, not_false_eq_true, reduceIte, Bool.false_eq_true, nI_add, nI_clamp, pk_mul, in_t, in_f, in_m, zr, za, at_SZ, put_SZ, rd_at, wr_at, rd_m, wr_m, up_s2, up_o2]
    rw [l2p]
    cases hl : Lv p
    · rw [if_pos (show b01 false = nI 0 by decide)]
      exact no
    · rw [if_neg (show ¬ b01 true = nI 0 by decide), mKn (by omega) (by omega), cx, Option.bind_some, show decide (nI 0 < nI 0) = false by decide, if_pos (show b01 false = nI 0 by decide)]
      exact no
  · have hl : Lv p = true := by
      cases hl : Lv p
      · have := (l4 p hp hl).1 t (by omega)
        have this : Im 174 (6 * p + t) = nI 0 := this
        rw [cx] at this
        exact absurd ((nI_eq (by omega) (by omega)).mp this) hx0
      · rfl
    have hd : decide (nI 0 < nI x) = true := decide_eq_true (nI_lt (by omega) (by omega))
    rw [hd, if_neg (show ¬ b01 true = 0 by decide), w1, has_eq (P := W) (k := p) (by omega), Option.bind_some]
    simp (disch := omega) only [↓M1, ↓ofNat_nI, L0, L1, L2, L3, L4, L5, L6, L7, L8, L9, L10, L12, L31, L32, L40, L48, L50, L99, L100, L120, L180, L256, L500, n_lt0, n_ge0, n_let, n_lef, n_ltt, n_ltf, n_eqt, n_eqf, m_lt, m_le, m_eq, m_eq2, m_le2, m_lt2, m_nle, m_nlt, if_true, if_false, eq_self, Option.bind_some, mb0, mb1, mbb, mbn0, mbn1, not_true, not_false_eq_true, reduceIte, Bool.false_eq_true, nI_add, nI_clamp, pk_mul, in_t, in_f, in_m, zr, za, at_SZ, put_SZ, rd_at, wr_at, rd_m, wr_m, up_s2, up_o2, l2p, hl]
    rw [if_neg (show ¬ b01 true = nI 0 by decide), mKn (by omega) (by omega), cx, Option.bind_some, hd, if_neg (show ¬ b01 true = nI 0 by decide)]
    simp (disch := omega) only [↓M1, ↓ofNat_nI, L0, L1, L2, L3, L4, L5, L6, L7, L8, L9, L10, L12, L31, L32, L40, L48, L50, L99, L100, L120, L180, L256, L500, n_lt0, n_ge0, n_let, n_lef, n_ltt, n_ltf, n_eqt, n_eqf, m_lt, m_le, m_eq, m_eq2, m_le2, m_lt2, m_nle, m_nlt, if_true, if_false, eq_self, Option.bind_some, mb0, mb1, mbb, mbn0, mbn1, not_true, not_false_eq_true, reduceIte, Bool.false_eq_true, nI_add, nI_clamp, pk_mul, in_t, in_f, in_m, zr, za, at_SZ, put_SZ, rd_at, wr_at, rd_m, wr_m, up_s2, up_o2, w2p]
    cases hW : W p
    · rw [if_pos (show b01 false = nI 0 by decide), if_pos (show b01 false = nI 0 by decide)]
      trace_state
      sorry
    · rw [if_neg (show ¬ b01 true = nI 0 by decide), if_neg (show ¬ b01 true = nI 0 by decide)]
      exact no
theorem st_night : St_night Inv := by
  intro k hk p t I J h
  have h0 := h
  obtain ⟨T, P, hA⟩ := h
  refine ⟨1000, ?_⟩
  show ∃ o1 o2, f10_night SZ 0 p t I J = some o1 ∧ (fun I J => f11_night SZ 1000 167 p t I J) o1.2.1 o1.2.2 = some o2 ∧ o1.1 = o2.1 ∧ Inv (k + 1) o2.2.1 o2.2.2
  have unk : f10_night SZ 0 p t I J = some (-1000000001, I, J) → f11_night SZ 1000 167 p t I J = some (-1000000001, I, J) → ∃ o1 o2, f10_night SZ 0 p t I J = some o1 ∧ (fun I J => f11_night SZ 1000 167 p t I J) o1.2.1 o1.2.2 = some o2 ∧ o1.1 = o2.1 ∧ Inv (k + 1) o2.2.1 o2.2.2 := fun h1 h2 => ⟨_, _, h1, h2, rfl, Inv_mono k I J h0⟩
  have a1 := hA.1
  have hT := a1.1
  have hP := a1.2.1
  rcases in_cases P (by omega) p with hp | ⟨p', hp', rfl⟩
  · refine unk ?_ ?_
    · unfold f10_night
      rw [cKp_outP a1 hp]
      rfl
    · unfold f11_night
      rw [mPe_out a1 hp]
      rfl
  rcases in_cases T (by omega) t with ht | ⟨t', ht', rfl⟩
  · refine unk ?_ ?_
    · unfold f10_night
      rw [cKp_outT a1 hp' ht]
      rfl
    · unfold f11_night
      rw [mPe_in a1 hp', Option.bind_some, if_neg n10, mTr_out a1 ht]
      rfl
  exact two (J := J) (fm := fun I J => f11_night SZ 1000 167 (nI p') (nI t') I J) hA (fun Im hB => night_lock hB hp' ht')
