/-! ===== part 67: the reference tries every code (written by wip/whole/pre.py) ===== -/
theorem ct8_ins : ∀ (a b c d e f g h : Bool) (k : Fin 8), ct8 (a || k.1 == 0) (b || k.1 == 1) (c || k.1 == 2) (d || k.1 == 3) (e || k.1 == 4) (f || k.1 == 5) (g || k.1 == 6) (h || k.1 == 7) = ct8 a b c d e f g h + if p8 a b c d e f g h k.1 = true then 0 else 1 := by decide +kernel
theorem cnt_ins {P : Nat → Bool} {k : Nat} (hk : k < 8) : cnt (fun j => P j || k == j) 8 = cnt P 8 + if P k = true then 0 else 1 := by
  rw [cnt_8, cnt_8]
  have := ct8_ins (P 0) (P 1) (P 2) (P 3) (P 4) (P 5) (P 6) (P 7) ⟨k, hk⟩
  rw [bs_m P k hk] at this
  exact this
/-- the last i digits, as a set -/
def sS (c m : Nat) : Nat → Nat → Bool
  | 0 => fun _ => false
  | i + 1 => fun j => sS c m i j || dt8 c m (m - 1 - i) == j
theorem sS_iff {c m : Nat} : ∀ {i x : Nat}, i ≤ m → (sS c m i x = true ↔ ∃ k, m - i ≤ k ∧ k < m ∧ dt8 c m k = x)
  | 0, x, _ => ⟨fun h => Bool.noConfusion (show false = true from h), fun ⟨k, h1, h2, _⟩ => absurd h1 (by omega)⟩
  | i + 1, x, hi => by
    show (sS c m i x || dt8 c m (m - 1 - i) == x) = true ↔ _
    rw [Bool.or_eq_true, sS_iff (by omega), beq_iff_eq]
    constructor
    · rintro (⟨k, h1, h2, h3⟩ | h)
      · exact ⟨k, by omega, h2, h3⟩
      · exact ⟨m - 1 - i, by omega, by omega, h⟩
    · intro ⟨k, h1, h2, h3⟩
      by_cases e : k = m - 1 - i
      · rw [e] at h3
        exact Or.inr h3
      · exact Or.inl ⟨k, by omega, h2, h3⟩
theorem sS_cnt {c m : Nat} : ∀ i, i ≤ m → cnt (sS c m i) 8 ≤ i ∧ (cnt (sS c m i) 8 = i ↔ ∀ k, m - i ≤ k → k < m → ∀ l, k < l → l < m → dt8 c m k ≠ dt8 c m l)
  | 0, _ => ⟨Nat.le_refl 0, ⟨fun _ k h1 h2 => absurd h1 (by omega), fun _ => rfl⟩⟩
  | i + 1, hi => by
    obtain ⟨h1, h2⟩ := sS_cnt (c := c) (m := m) i (by omega)
    have e : cnt (sS c m (i + 1)) 8 = cnt (sS c m i) 8 + if sS c m i (dt8 c m (m - 1 - i)) = true then 0 else 1 := cnt_ins (dt8_lt _ _ _)
    rw [e]
    by_cases q : sS c m i (dt8 c m (m - 1 - i)) = true
    · rw [if_pos q]
      refine ⟨by omega, ⟨fun w => absurd w (by omega), fun w => ?_⟩⟩
      obtain ⟨k, g1, g2, g3⟩ := (sS_iff (by omega)).mp q
      exact absurd g3.symm (w (m - 1 - i) (by omega) (by omega) k (by omega) g2)
    · rw [if_neg q]
      refine ⟨by omega, ⟨fun w k g1 g2 l g3 g4 => ?_, fun w => ?_⟩⟩
      · by_cases ek : k = m - 1 - i
        · intro he
          refine q ((sS_iff (by omega)).mpr ⟨l, by omega, g4, ?_⟩)
          rw [← ek]; exact he.symm
        · exact (h2.mp (by omega)) k (by omega) g2 l g3 g4
      · have := h2.mpr fun k g1 g2 l g3 g4 => w k (by omega) g2 l g3 g4
        omega
section ENU
variable {T P N : Nat} {Ic Im : mm_I} {Jm : mm_J}
/-- the reference's search, so far -/
def mr (Im I : mm_I) (b : Nat × Nat × Nat) : Prop := (∀ r, r ≠ 167 → r ≠ 192 → r ≠ 193 → I r = Im r) ∧ (∀ k, k ≠ 47 → I 167 k = Im 167 k) ∧ I 167 47 = nI b.2.1 ∧ ∀ k, k < b.2.1 → I 193 k = nI (dt8 b.2.2 b.2.1 k)
theorem kn_row {I : mm_I} (e : I 174 = Im 174) : kn I = kn Im := by
  funext p t
  unfold kn
  rw [e]
theorem lk_row {I : mm_I} (e1 : I 171 = Im 171) (e2 : I 174 = Im 174) (p : Nat) : ∀ k, lkS I p k = lkS Im p k
  | 0 => rfl
  | k + 1 => by
    unfold lkS
    rw [lk_row e1 e2 p k, kn_row e2, e1]
theorem ofr_row {I : mm_I} (e1 : I 171 = Im 171) (e2 : I 174 = Im 174) (e3 : I 173 = Im 173) (e4 : I 177 = Im 177) (p : Nat) : ofr T I p = ofr T Im p := by
  unfold ofr
  rw [e3, e4, lk_row e1 e2]
theorem Gn_row {I : mm_I} (e1 : I 171 = Im 171) (e2 : I 174 = Im 174) (e3 : I 173 = Im 173) (e4 : I 177 = Im 177) (e5 : I 168 = Im 168) : Gn T I = Gn T Im := by
  funext p q
  unfold Gn
  rw [ofr_row e1 e2 e3 e4, ofr_row e1 e2 e3 e4, kn_row e2, e1, e5]
theorem cnt_0 {f : Nat → Bool} : ∀ {n : Nat}, (∀ k, k < n → f k = false) → cnt f n = 0
  | 0, _ => rfl
  | n + 1, h => by
    show cnt f n + (if f n = true then 1 else 0) = 0
    rw [cnt_0 (fun k hk => h k (by omega)), h n (by omega)]
    rfl
theorem cnt_pos1 {f : Nat → Bool} {q : Nat} : ∀ {n : Nat}, q < n → f q = true → 0 < cnt f n
  | 0, h, _ => absurd h (Nat.not_lt_zero q)
  | n + 1, h, hf => by
    show 0 < cnt f n + (if f n = true then 1 else 0)
    by_cases e : q = n
    · subst e
      rw [if_pos hf]; omega
    · have := cnt_pos1 (n := n) (by omega) hf
      omega
theorem swap_m (h : rLf T P N 26 29 Ic Im) {n p : Nat} (hn : 9 ≤ n) (hp : p < P) : f11_maySwap SZ n 167 (nI p) Im Jm = some (b01 (!decide (ofr T Im p = m1))) := by
  have hT := h.1.1
  have hP := h.1.2.1
  have a5 := h.2.2.2.2
  obtain ⟨Lv, l1, l2, l3, l4, l5⟩ := a5.l
  have lp := l2 p (by omega)
  have b3 : mm_inb (nI p) (mm_al SZ (mm_rf SZ 167 13)) = true := by simp (disch := omega) only [↓M1, ↓ofNat_nI, L0, L1, L2, L3, L4, L5, L6, L7, L8, L9, L10, L12, L31, L32, L40, L48, L50, L99, L100, L120, L180, L256, L500, n_lt0, n_ge0, n_let, n_lef, n_ltt, n_ltf, n_eqt, n_eqf, m_lt, m_le, m_eq, m_eq2, m_le2, m_lt2, m_nle, m_nlt, if_true, if_false, eq_self, Option.bind_some, mb0, mb1, mbb, mbn0, mbn1, not_true, not_false_eq_true, reduceIte, Bool.false_eq_true, nI_add, nI_clamp, pk_mul, in_t, in_f, in_m, zr, za, at_SZ, put_SZ, rd_at, wr_at, rd_m, wr_m]
  have b7 : mm_inb (nI p) (mm_al SZ (mm_rf SZ 167 17)) = true := by simp (disch := omega) only [↓M1, ↓ofNat_nI, L0, L1, L2, L3, L4, L5, L6, L7, L8, L9, L10, L12, L31, L32, L40, L48, L50, L99, L100, L120, L180, L256, L500, n_lt0, n_ge0, n_let, n_lef, n_ltt, n_ltf, n_eqt, n_eqf, m_lt, m_le, m_eq, m_eq2, m_le2, m_lt2, m_nle, m_nlt, if_true, if_false, eq_self, Option.bind_some, mb0, mb1, mbb, mbn0, mbn1, not_true, not_false_eq_true, reduceIte, Bool.false_eq_true, nI_add, nI_clamp, pk_mul, in_t, in_f, in_m, zr, za, at_SZ, put_SZ, rd_at, wr_at, rd_m, wr_m]
  unfold f11_maySwap f11_maySwap_30 f11_maySwap_31 ofr
  rw [if_pos b3, if_pos b7, show mm_rf SZ 167 13 = 173 by simp (disch := omega) only [↓M1, ↓ofNat_nI, L0, L1, L2, L3, L4, L5, L6, L7, L8, L9, L10, L12, L31, L32, L40, L48, L50, L99, L100, L120, L180, L256, L500, n_lt0, n_ge0, n_let, n_lef, n_ltt, n_ltf, n_eqt, n_eqf, m_lt, m_le, m_eq, m_eq2, m_le2, m_lt2, m_nle, m_nlt, if_true, if_false, eq_self, Option.bind_some, mb0, mb1, mbb, mbn0, mbn1, not_true, not_false_eq_true, reduceIte, Bool.false_eq_true, nI_add, nI_clamp, pk_mul, in_t, in_f, in_m, zr, za, at_SZ, put_SZ, rd_at, wr_at, rd_m, wr_m], show mm_rf SZ 167 17 = 177 by simp (disch := omega) only [↓M1, ↓ofNat_nI, L0, L1, L2, L3, L4, L5, L6, L7, L8, L9, L10, L12, L31, L32, L40, L48, L50, L99, L100, L120, L180, L256, L500, n_lt0, n_ge0, n_let, n_lef, n_ltt, n_ltf, n_eqt, n_eqf, m_lt, m_le, m_eq, m_eq2, m_le2, m_lt2, m_nle, m_nlt, if_true, if_false, eq_self, Option.bind_some, mb0, mb1, mbb, mbn0, mbn1, not_true, not_false_eq_true, reduceIte, Bool.false_eq_true, nI_add, nI_clamp, pk_mul, in_t, in_f, in_m, zr, za, at_SZ, put_SZ, rd_at, wr_at, rd_m, wr_m], nI_clamp (by omega)]
  cases hl : Lv p
  · rw [hl] at lp
    rw [if_pos (show Im 173 p = 0 from lp), if_pos (show Im 173 p = nI 0 from lp)]
    rfl
  · rw [hl] at lp
    rw [if_neg (show ¬ Im 173 p = 0 by rw [lp]; decide), if_neg (show ¬ Im 173 p = nI 0 by rw [lp]; decide)]
    rcases orT_c (a5.le hp).2 hT with ⟨e, e'⟩ | ⟨q, hq, e, e', e''⟩
    · rw [e, if_neg (show ¬ 0 ≤ m1 by decide), if_pos (show m1 = m1 from rfl), km_eq (by omega) hT (by omega) h.1.2.2.2.1, Option.bind_some]
      have hc := cnt_le (kn Im p) T
      by_cases c : lkS Im p T = m1
      · have := cnt_0 (n := T) (lk_none (by omega) c)
        rw [this, if_pos (show nI 0 ≤ 0 by decide), decide_eq_true c]
        rfl
      · rcases lk_or Im p T with w | ⟨q, hq, -, w⟩
        · exact absurd w c
        · have := cnt_pos1 hq w
          rw [if_neg (nI_nle this (by omega)), decide_eq_false c]
          rfl
    · rw [e, if_pos (nI_pos' (by omega)), if_neg (show ¬ nI q = m1 from n_m1 (by omega))]
      rfl
theorem gain_m (h : rLf T P N 26 29 Ic Im) {n p q : Nat} (hn : 9 ≤ n) (hp : p < 8) (hq : q < 8) (h1 : ¬ ofr T Im p = m1) (h2 : ¬ ofr T Im q = m1) : f11_gainBy SZ n 167 (nI p) (nI q) Im Jm = some (nI (Gn T Im p q)) := by
  have hT := h.1.1
  have el : ∀ p, ¬ ofr T Im p = m1 → lkS Im p T = ofr T Im p := fun p hp => by
    unfold ofr at hp ⊢
    by_cases c1 : Im 173 p = nI 0
    · rw [if_pos c1] at hp; exact absurd rfl hp
    · rw [if_neg c1] at hp ⊢
      by_cases c2 : Im 177 p = m1
      · rw [if_pos c2]
      · rw [if_neg c2] at hp; exact absurd rfl hp
  unfold f11_gainBy f11_gainBy_67 f11_gainBy_73
  rw [lk_m h hn hp, lk_m h hn hq, Option.bind_some, Option.bind_some, el p h1, el q h2]
  unfold Gn
  rw [if_neg h1, if_neg h2]
  rcases ofr_or T Im p with e1 | ⟨a, ha, e1⟩
  · exact absurd e1 h1
  · rcases ofr_or T Im q with e2 | ⟨b, hb, e2⟩
    · exact absurd e2 h2
    · obtain ⟨kd, hk, k1, k2⟩ := (h.2.1 b hb).1
      obtain ⟨x, y, hx, hy, x1, x2, y1, y2⟩ := gain_v h hp (a := a) (b := b) (by omega) (by omega)
      have mk := mkn (Im := Im) (p := p) (t := b) (J := Jm) hp (by omega)
      have hd : (if (0 : Int32) ≤ nI x - nI y then some (nI x - nI y) else some (0 : Int32)) = some (nI (x - y)) := by
        rcases Nat.le_total y x with w | w
        · rw [pk_sub w, if_pos (nI_pos' (by omega))]
        · by_cases e : x = y
          · rw [e, pk_sub (Nat.le_refl y), if_pos (nI_pos' (by omega))]
          · rw [if_neg ?_, show x - y = 0 by omega]
            · rfl
            · rw [Int32.le_iff_toInt_le, pk_sub_toInt (by omega) (by omega)]
              rw [show (0 : Int32).toInt = 0 from by decide]
              omega
      have ib1 : mm_inb (6 * nI p + nI b) (mm_al SZ (mm_rf SZ 167 5)) = true := by simp (disch := omega) only [↓M1, ↓ofNat_nI, L0, L1, L2, L3, L4, L5, L6, L7, L8, L9, L10, L12, L31, L32, L40, L48, L50, L99, L100, L120, L180, L256, L500, n_lt0, n_ge0, n_let, n_lef, n_ltt, n_ltf, n_eqt, n_eqf, m_lt, m_le, m_eq, m_eq2, m_le2, m_lt2, m_nle, m_nlt, if_true, if_false, eq_self, Option.bind_some, mb0, mb1, mbb, mbn0, mbn1, not_true, not_false_eq_true, reduceIte, Bool.false_eq_true, nI_add, nI_clamp, pk_mul, in_t, in_f, in_m, zr, za, at_SZ, put_SZ, rd_at, wr_at, rd_m, wr_m]
      have ib2 : mm_inb (6 * nI p + nI a) (mm_al SZ (mm_rf SZ 167 5)) = true := by simp (disch := omega) only [↓M1, ↓ofNat_nI, L0, L1, L2, L3, L4, L5, L6, L7, L8, L9, L10, L12, L31, L32, L40, L48, L50, L99, L100, L120, L180, L256, L500, n_lt0, n_ge0, n_let, n_lef, n_ltt, n_ltf, n_eqt, n_eqf, m_lt, m_le, m_eq, m_eq2, m_le2, m_lt2, m_nle, m_nlt, if_true, if_false, eq_self, Option.bind_some, mb0, mb1, mbb, mbn0, mbn1, not_true, not_false_eq_true, reduceIte, Bool.false_eq_true, nI_add, nI_clamp, pk_mul, in_t, in_f, in_m, zr, za, at_SZ, put_SZ, rd_at, wr_at, rd_m, wr_m]
      have ib3 : mm_inb (4 * nI b) (mm_al SZ (mm_rf SZ 167 1)) = true := by simp (disch := omega) only [↓M1, ↓ofNat_nI, L0, L1, L2, L3, L4, L5, L6, L7, L8, L9, L10, L12, L31, L32, L40, L48, L50, L99, L100, L120, L180, L256, L500, n_lt0, n_ge0, n_let, n_lef, n_ltt, n_ltf, n_eqt, n_eqf, m_lt, m_le, m_eq, m_eq2, m_le2, m_lt2, m_nle, m_nlt, if_true, if_false, eq_self, Option.bind_some, mb0, mb1, mbb, mbn0, mbn1, not_true, not_false_eq_true, reduceIte, Bool.false_eq_true, nI_add, nI_clamp, pk_mul, in_t, in_f, in_m, zr, za, at_SZ, put_SZ, rd_at, wr_at, rd_m, wr_m]
      have ix1 : (6 : Int32) * nI p + nI b = nI (6 * p + b) := by rw [show (6 : Int32) = nI 6 from rfl, pk_mul, nI_add]
      have ix2 : (6 : Int32) * nI p + nI a = nI (6 * p + a) := by rw [show (6 : Int32) = nI 6 from rfl, pk_mul, nI_add]
      have ix3 : (4 : Int32) * nI b = nI (4 * b) := by rw [show (4 : Int32) = nI 4 from rfl, pk_mul]
      rw [e1, e2, if_pos ib1, if_pos ib2, mk, Option.bind_some, if_pos ib3, show mm_rf SZ 167 5 = 171 by simp (disch := omega) only [↓M1, ↓ofNat_nI, L0, L1, L2, L3, L4, L5, L6, L7, L8, L9, L10, L12, L31, L32, L40, L48, L50, L99, L100, L120, L180, L256, L500, n_lt0, n_ge0, n_let, n_lef, n_ltt, n_ltf, n_eqt, n_eqf, m_lt, m_le, m_eq, m_eq2, m_le2, m_lt2, m_nle, m_nlt, if_true, if_false, eq_self, Option.bind_some, mb0, mb1, mbb, mbn0, mbn1, not_true, not_false_eq_true, reduceIte, Bool.false_eq_true, nI_add, nI_clamp, pk_mul, in_t, in_f, in_m, zr, za, at_SZ, put_SZ, rd_at, wr_at, rd_m, wr_m], show mm_rf SZ 167 1 = 168 by simp (disch := omega) only [↓M1, ↓ofNat_nI, L0, L1, L2, L3, L4, L5, L6, L7, L8, L9, L10, L12, L31, L32, L40, L48, L50, L99, L100, L120, L180, L256, L500, n_lt0, n_ge0, n_let, n_lef, n_ltt, n_ltf, n_eqt, n_eqf, m_lt, m_le, m_eq, m_eq2, m_le2, m_lt2, m_nle, m_nlt, if_true, if_false, eq_self, Option.bind_some, mb0, mb1, mbb, mbn0, mbn1, not_true, not_false_eq_true, reduceIte, Bool.false_eq_true, nI_add, nI_clamp, pk_mul, in_t, in_f, in_m, zr, za, at_SZ, put_SZ, rd_at, wr_at, rd_m, wr_m], ix1, ix2, ix3, nI_clamp (by omega), nI_clamp (by omega), nI_clamp (by omega), nI_clamp (by omega), nI_clamp (by omega), k2, x2, y2, nI_clamp (by omega), nI_clamp (by omega)]
      cases kn Im p b
      · rw [if_pos (show b01 false = 0 by decide), if_neg (show ¬ false = true by decide)]
        by_cases c : kd = 3
        · rw [if_pos (show nI kd = 3 by rw [c]; rfl), if_pos (show nI kd = nI 3 by rw [c])]
          rfl
        · rw [if_neg (show ¬ nI kd = (3 : Int32) from fun w => c ((nI_eq (a := kd) (b := 3) (by omega) (by omega)).mp w)), if_neg (show ¬ nI kd = nI 3 from fun w => c ((nI_eq (by omega) (by omega)).mp w))]
          exact hd
      · rw [if_neg (show ¬ b01 true = 0 by decide), if_pos rfl]
        rfl
/-- is it a ring? the digits first -/
theorem digits_loop {n c m : Nat} (hc : c < 4096) (hm : 2 ≤ m ∧ m ≤ 4) : ∀ (i d : Nat) (I : mm_I), i ≤ m → i < d → (∀ k, i ≤ k → k < m → I 192 k = nI (dt8 c m k)) → ∃ I', f11_isRing_10 SZ n d 167 (nI m) (nI (c / 8 ^ (m - i))) (bsI (sS c m (m - i)) 8) (nI i + (-1)) I Jm = (f11_bits SZ n (bsI (sS c m m) 8) I' Jm).bind (fun o2 => if o2 = nI m then f11_isRing_65 SZ n 167 (nI m) 1 I' Jm else f11_isRing_65 SZ n 167 (nI m) 0 I' Jm) ∧ (∀ r, r ≠ 192 → I' r = I r) ∧ ∀ k, k < m → I' 192 k = nI (dt8 c m k) := by
  intro i
  induction i with
  | zero =>
    intro d I h1 h2 h3
    obtain ⟨d', rfl⟩ : ∃ d', d = d' + 1 := ⟨d - 1, by omega⟩
    refine ⟨I, ?_, fun _ _ => rfl, fun k hk => h3 k (Nat.zero_le k) hk⟩
    show f11_isRing_10_b SZ n (f11_isRing_10 SZ n d') 167 (nI m) (nI (c / 8 ^ (m - 0))) (bsI (sS c m (m - 0)) 8) (nI 0 + (-1)) I Jm = _
    unfold f11_isRing_10_b
    rw [if_pos (show nI 0 + (-1) < 0 by decide), Nat.sub_zero]
  | succ j ih =>
    intro d I h1 h2 h3
    obtain ⟨d', rfl⟩ : ∃ d', d = d' + 1 := ⟨d - 1, by omega⟩
    have hq : c / 8 ^ (m - (j + 1)) ≤ c := Nat.div_le_self _ _
    have h8 := dt8_lt c m j
    have ed : c / 8 ^ (m - (j + 1)) % 8 = dt8 c m j := by
      unfold dt8
      rw [show m - 1 - j = m - (j + 1) by omega]
    have eq : c / 8 ^ (m - (j + 1)) / 8 = c / 8 ^ (m - j) := by
      rw [Nat.div_div_eq_div_mul, show m - j = (m - (j + 1)) + 1 by omega, Nat.pow_succ]
    have es : sS c m (m - j) = fun x => sS c m (m - (j + 1)) x || dt8 c m j == x := by
      rw [show m - j = (m - (j + 1)) + 1 by omega]
      show (fun x => sS c m (m - (j + 1)) x || dt8 c m (m - 1 - (m - (j + 1))) == x) = _
      rw [show m - 1 - (m - (j + 1)) = j by omega]
    obtain ⟨I', g1, g2, g3⟩ := ih d' (mm_up I 192 j (nI (dt8 c m j))) (by omega) (by omega) (fun k h4 h5 => by
      by_cases e : k = j
      · subst e; exact up_s2
      · rw [up_o2 (by omega)]; exact h3 k (by omega) h5)
    refine ⟨I', ?_, fun r hr => by rw [g2 r hr, mm_up_o hr], g3⟩
    have ib : mm_inb (nI j) (mm_al SZ (mm_rf SZ 167 45)) = true := by simp (disch := omega) only [↓M1, ↓ofNat_nI, L0, L1, L2, L3, L4, L5, L6, L7, L8, L9, L10, L12, L31, L32, L40, L48, L50, L99, L100, L120, L180, L256, L500, n_lt0, n_ge0, n_let, n_lef, n_ltt, n_ltf, n_eqt, n_eqf, m_lt, m_le, m_eq, m_eq2, m_le2, m_lt2, m_nle, m_nlt, if_true, if_false, eq_self, Option.bind_some, mb0, mb1, mbb, mbn0, mbn1, not_true, not_false_eq_true, reduceIte, Bool.false_eq_true, nI_add, nI_clamp, pk_mul, in_t, in_f, in_m, zr, za, at_SZ, put_SZ, rd_at, wr_at, rd_m, wr_m]
    show f11_isRing_10_b SZ n (f11_isRing_10 SZ n d') 167 (nI m) (nI (c / 8 ^ (m - (j + 1)))) (bsI (sS c m (m - (j + 1))) 8) (nI (j + 1) + (-1)) I Jm = _
    rw [← g1, es, ← bsI_one h8, ← eq]
    unfold f11_isRing_10_b
    rw [pk_m1, if_neg (nI_pos (by omega)), if_pos ib, if_pos ib, show mm_rf SZ 167 45 = 192 by simp (disch := omega) only [↓M1, ↓ofNat_nI, L0, L1, L2, L3, L4, L5, L6, L7, L8, L9, L10, L12, L31, L32, L40, L48, L50, L99, L100, L120, L180, L256, L500, n_lt0, n_ge0, n_let, n_lef, n_ltt, n_ltf, n_eqt, n_eqf, m_lt, m_le, m_eq, m_eq2, m_le2, m_lt2, m_nle, m_nlt, if_true, if_false, eq_self, Option.bind_some, mb0, mb1, mbb, mbn0, mbn1, not_true, not_false_eq_true, reduceIte, Bool.false_eq_true, nI_add, nI_clamp, pk_mul, in_t, in_f, in_m, zr, za, at_SZ, put_SZ, rd_at, wr_at, rd_m, wr_m], nI_clamp (by omega), show nI (c / 8 ^ (m - (j + 1))) - nI (c / 8 ^ (m - (j + 1))) / 8 * 8 = nI (c / 8 ^ (m - (j + 1)) % 8) from pk_rem (d := 8) (by omega) (by omega) (by omega), show nI (c / 8 ^ (m - (j + 1))) / 8 = nI (c / 8 ^ (m - (j + 1)) / 8) from pk_div (d := 8) (by omega) (by omega) (by omega), ed, up_s2]
    rfl
/-- the flags -/
def ckB (P c m : Nat) (b : Bool) : Nat → Bool
  | 0 => b
  | k + 1 => ckB P c m b k && (decide (dt8 c m k < P) && decide (dt8 c m 0 ≤ dt8 c m k))
theorem ckB_iff {P c m : Nat} {b : Bool} : ∀ {k : Nat}, ckB P c m b k = true ↔ b = true ∧ ∀ i, i < k → dt8 c m i < P ∧ dt8 c m 0 ≤ dt8 c m i
  | 0 => ⟨fun h => ⟨h, fun i hi => absurd hi (Nat.not_lt_zero i)⟩, fun h => h.1⟩
  | k + 1 => by
    show (ckB P c m b k && (decide (dt8 c m k < P) && decide (dt8 c m 0 ≤ dt8 c m k))) = true ↔ _
    rw [Bool.and_eq_true, Bool.and_eq_true, ckB_iff, decide_eq_true_iff, decide_eq_true_iff]
    constructor
    · intro ⟨⟨h1, h2⟩, h3, h4⟩
      refine ⟨h1, fun i hi => ?_⟩
      by_cases e : i = k
      · rw [e]; exact ⟨h3, h4⟩
      · exact h2 i (by omega)
    · intro ⟨h1, h2⟩
      exact ⟨⟨h1, fun i hi => h2 i (by omega)⟩, h2 k (by omega)⟩
theorem flags_loop {I : mm_I} {n c m : Nat} {b : Bool} (hP : P ≤ 8) (h2 : I 167 2 = nI P) (hm : 2 ≤ m ∧ m ≤ 4) (hd : ∀ k, k < m → I 192 k = nI (dt8 c m k)) : ∀ (d k : Nat), k ≤ m → m < k + d → f11_isRing_70 SZ n d 167 (nI m) (b01 (ckB P c m b k)) (nI k) I Jm = some (b01 (ckB P c m b m), I, Jm) := by
  intro d
  induction d with
  | zero => intro k h1 h2; omega
  | succ d ih =>
    intro k h1 h3
    have cS : ∀ v, f11_isRing_70 SZ n (d + 1) 167 (nI m) v (nI k) I Jm = f11_isRing_70_b SZ n (f11_isRing_70 SZ n d) 167 (nI m) v (nI k) I Jm := fun _ => rfl
    rw [cS]
    unfold f11_isRing_70_b f11_isRing_115 f11_isRing_116
    by_cases e : k = m
    · subst e
      rw [if_pos (nI_le (Nat.le_refl k) (by omega)), if_pos mbb]
    · have hk : k < m := by omega
      have hk8 := dt8_lt c m k
      have h08 := dt8_lt c m 0
      have ih' := ih (k + 1) (by omega) (by omega)
      have ec : ckB P c m b (k + 1) = (ckB P c m b k && (decide (dt8 c m k < P) && decide (dt8 c m 0 ≤ dt8 c m k))) := rfl
      have ib : mm_inb (nI k) (mm_al SZ (mm_rf SZ 167 45)) = true := by simp (disch := omega) only [↓M1, ↓ofNat_nI, L0, L1, L2, L3, L4, L5, L6, L7, L8, L9, L10, L12, L31, L32, L40, L48, L50, L99, L100, L120, L180, L256, L500, n_lt0, n_ge0, n_let, n_lef, n_ltt, n_ltf, n_eqt, n_eqf, m_lt, m_le, m_eq, m_eq2, m_le2, m_lt2, m_nle, m_nlt, if_true, if_false, eq_self, Option.bind_some, mb0, mb1, mbb, mbn0, mbn1, not_true, not_false_eq_true, reduceIte, Bool.false_eq_true, nI_add, nI_clamp, pk_mul, in_t, in_f, in_m, zr, za, at_SZ, put_SZ, rd_at, wr_at, rd_m, wr_m]
      have ib0 : mm_inb 0 (mm_al SZ (mm_rf SZ 167 45)) = true := by simp (disch := omega) only [↓M1, ↓ofNat_nI, L0, L1, L2, L3, L4, L5, L6, L7, L8, L9, L10, L12, L31, L32, L40, L48, L50, L99, L100, L120, L180, L256, L500, n_lt0, n_ge0, n_let, n_lef, n_ltt, n_ltf, n_eqt, n_eqf, m_lt, m_le, m_eq, m_eq2, m_le2, m_lt2, m_nle, m_nlt, if_true, if_false, eq_self, Option.bind_some, mb0, mb1, mbb, mbn0, mbn1, not_true, not_false_eq_true, reduceIte, Bool.false_eq_true, nI_add, nI_clamp, pk_mul, in_t, in_f, in_m, zr, za, at_SZ, put_SZ, rd_at, wr_at, rd_m, wr_m]
      rw [if_neg (nI_ge hk (by omega)), if_pos ib, if_pos ib0, if_pos ib, show mm_rf SZ 167 45 = 192 by simp (disch := omega) only [↓M1, ↓ofNat_nI, L0, L1, L2, L3, L4, L5, L6, L7, L8, L9, L10, L12, L31, L32, L40, L48, L50, L99, L100, L120, L180, L256, L500, n_lt0, n_ge0, n_let, n_lef, n_ltt, n_ltf, n_eqt, n_eqf, m_lt, m_le, m_eq, m_eq2, m_le2, m_lt2, m_nle, m_nlt, if_true, if_false, eq_self, Option.bind_some, mb0, mb1, mbb, mbn0, mbn1, not_true, not_false_eq_true, reduceIte, Bool.false_eq_true, nI_add, nI_clamp, pk_mul, in_t, in_f, in_m, zr, za, at_SZ, put_SZ, rd_at, wr_at, rd_m, wr_m], nI_clamp (by omega), show (0 : Int32).toNatClampNeg = 0 from by decide, hd k hk, hd 0 (by omega), h2, nI_1]
      cases hb : ckB P c m b k
      · rw [ec, hb, Bool.false_and] at ih'
        rw [if_pos (show b01 false = 0 by decide)]
        exact ih'
      · rw [ec, hb, Bool.true_and] at ih'
        rw [if_neg (show ¬ b01 true = 0 by decide)]
        by_cases c1 : dt8 c m k < P
        · rw [decide_eq_true c1, Bool.true_and] at ih'
          rw [if_neg (nI_ge c1 (by omega))]
          by_cases c2 : dt8 c m 0 ≤ dt8 c m k
          · rw [decide_eq_true c2] at ih'
            rw [if_neg (nI_nlt c2 (by omega))]
            exact ih'
          · rw [decide_eq_false c2] at ih'
            rw [if_pos (nI_lt (by omega) (by omega))]
            exact ih'
        · rw [decide_eq_false c1, Bool.false_and] at ih'
          rw [if_pos (nI_le (by omega) (by omega))]
          exact ih'
theorem isRing_m {I : mm_I} {n c m : Nat} (hn : 9 ≤ n) (hP : P ≤ 8) (h2 : I 167 2 = nI P) (hc : c < 4096) (hm : 2 ≤ m ∧ m ≤ 4) : ∃ I', f11_isRing SZ n 167 (nI c) (nI m) I Jm = some (b01 (ckB P c m (decide (cnt (sS c m m) 8 = m)) m), I', Jm) ∧ (∀ r, r ≠ 192 → I' r = I r) ∧ ∀ k, k < m → I' 192 k = nI (dt8 c m k) := by
  obtain ⟨I', g1, g2, g3⟩ := digits_loop (Jm := Jm) (n := n) hc hm m n I (Nat.le_refl m) (by omega) (fun k h1 h2 => absurd h1 (by omega))
  have hcl := (sS_cnt (c := c) (m := m) m (Nat.le_refl m)).1
  refine ⟨I', ?_, g2, g3⟩
  unfold f11_isRing
  rw [Nat.sub_self, Nat.pow_zero, Nat.div_one, show bsI (sS c m 0) 8 = 0 from (bsI_0 (by omega)).mpr (fun _ _ => rfl)] at g1
  rw [sub_m1]
  refine (show f11_isRing_10 SZ n n 167 (nI m) (nI c) 0 (nI m + (-1)) I Jm = _ from g1).trans ?_
  have fl := fun b => flags_loop (I := I') (Jm := Jm) (n := n) (c := c) (m := m) (b := b) hP (by rw [g2 167 (by omega)]; exact h2) hm g3 n 0 (Nat.zero_le m) (by omega)
  rw [mbits_eq hn, Option.bind_some]
  unfold f11_isRing_65
  by_cases e : cnt (sS c m m) 8 = m
  · rw [decide_eq_true e, if_pos (by rw [e])]
    exact fl true
  · rw [decide_eq_false e, if_neg (fun w => e ((nI_eq (by omega) (by omega)).mp w))]
    exact fl false
end ENU
