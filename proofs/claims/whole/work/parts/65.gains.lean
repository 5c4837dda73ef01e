/-! ===== part 65: what is offered, and what is gained (written by wip/whole/pre.py) ===== -/
def lkS (Im : mm_I) (p : Nat) : Nat → Int32
  | 0 => m1
  | k + 1 => if kn Im p k = true then (if lkS Im p k = m1 then nI k else if Im 171 (6 * p + (lkS Im p k).toNatClampNeg) ≤ Im 171 (6 * p + k) then lkS Im p k else nI k) else lkS Im p k
theorem lk_or (Im : mm_I) (p : Nat) : ∀ k, lkS Im p k = m1 ∨ ∃ q, q < k ∧ lkS Im p k = nI q ∧ kn Im p q = true
  | 0 => Or.inl rfl
  | k + 1 => by
    have ih := lk_or Im p k
    have ih' : lkS Im p k = m1 ∨ ∃ q, q < k + 1 ∧ lkS Im p k = nI q ∧ kn Im p q = true := ih.imp id fun ⟨q, h1, h2⟩ => ⟨q, by omega, h2⟩
    unfold lkS
    by_cases c : kn Im p k = true
    · rw [if_pos c]
      split
      · exact Or.inr ⟨k, by omega, rfl, c⟩
      · split
        · exact ih'
        · exact Or.inr ⟨k, by omega, rfl, c⟩
    · rw [if_neg c]
      exact ih'
theorem lk_none {Im : mm_I} {p : Nat} : ∀ {k : Nat}, k ≤ 100 → lkS Im p k = m1 → ∀ q, q < k → kn Im p q = false
  | 0, _, _, q, hq => absurd hq (Nat.not_lt_zero q)
  | k + 1, hk, h, q, hq => by
    have hn : ¬ nI k = m1 := n_m1 (by omega)
    unfold lkS at h
    by_cases c : kn Im p k = true
    · exfalso
      rw [if_pos c] at h
      by_cases c2 : lkS Im p k = m1
      · rw [if_pos c2] at h
        exact hn h
      · rw [if_neg c2] at h
        split at h
        · exact c2 h
        · exact hn h
    · rw [if_neg c] at h
      by_cases e : q = k
      · rw [e]; exact eq_false_of_ne_true c
      · exact lk_none (by omega) h q (by omega)
/-- what one offers -/
def ofr (T : Nat) (Im : mm_I) (p : Nat) : Int32 := if Im 173 p = nI 0 then m1 else if Im 177 p = m1 then lkS Im p T else m1
def Gn (T : Nat) (Im : mm_I) (p q : Nat) : Nat := if ofr T Im p = m1 then 0 else if ofr T Im q = m1 then 0 else if kn Im p (ofr T Im q).toNatClampNeg = true then 0 else if Im 168 (4 * (ofr T Im q).toNatClampNeg) = nI 3 then 0 else (Im 171 (6 * p + (ofr T Im q).toNatClampNeg)).toNatClampNeg - (Im 171 (6 * p + (ofr T Im p).toNatClampNeg)).toNatClampNeg
theorem ofr_or (T : Nat) (Im : mm_I) (p : Nat) : ofr T Im p = m1 ∨ ∃ q, q < T ∧ ofr T Im p = nI q := by
  unfold ofr
  split
  · exact Or.inl rfl
  · split
    · rcases lk_or Im p T with h | ⟨q, h1, h2, -⟩
      · exact Or.inl h
      · exact Or.inr ⟨q, h1, h2⟩
    · exact Or.inl rfl
section GAI
variable {T P N L R F : Nat} {Ic Im : mm_I} {Jc Jm : mm_J}
theorem lk_loop (hL : isL L R F) (h : rLf T P N R F Ic Im) {n p : Nat} (hp : p < 8) : ∀ (d k : Nat), k ≤ T → T < k + d → f2_leastLiked_4 SZ n d L (nI p) (lkS Im p k) (nI k) Ic Jc = some (lkS Im p T) ∧ f11_leastLiked_4 SZ n d 167 (nI p) (lkS Im p k) (nI k) Im Jm = some (lkS Im p T) := by
  intro d
  induction d with
  | zero => intro k h1 h2; omega
  | succ d ih =>
    intro k h1 h2
    obtain ⟨a1, a2, a3, a4, a5⟩ := h
    have hT := a1.1
    have e5 := a1.2.2.1
    have e0 := a1.2.2.2.1
    have cS : ∀ v2, f2_leastLiked_4 SZ n (d + 1) L (nI p) v2 (nI k) Ic Jc = f2_leastLiked_4_b SZ n (f2_leastLiked_4 SZ n d) L (nI p) v2 (nI k) Ic Jc := fun _ => rfl
    have mS : ∀ v2, f11_leastLiked_4 SZ n (d + 1) 167 (nI p) v2 (nI k) Im Jm = f11_leastLiked_4_b SZ n (f11_leastLiked_4 SZ n d) 167 (nI p) v2 (nI k) Im Jm := fun _ => rfl
    rw [cS, mS]
    by_cases c : k = T
    · unfold f2_leastLiked_4_b f11_leastLiked_4_b
      subst c
      rw [(zL hL).1, e5, e0, if_pos (nI_le (Nat.le_refl k) (by omega)), if_pos (nI_le (Nat.le_refl k) (by omega))]
      exact ⟨rfl, rfl⟩
    · have hk : k < T := by omega
      have ih' := ih (k + 1) (by omega) (by omega)
      have el : lkS Im p (k + 1) = if kn Im p k = true then (if lkS Im p k = m1 then nI k else if Im 171 (6 * p + (lkS Im p k).toNatClampNeg) ≤ Im 171 (6 * p + k) then lkS Im p k else nI k) else lkS Im p k := rfl
      rw [el] at ih'
      unfold f2_leastLiked_4_b f2_leastLiked_53 f2_leastLiked_55 f11_leastLiked_4_b f11_leastLiked_50 f11_leastLiked_54 f11_leastLiked_55
      rw [(zL hL).1, (zL hL).2.2, e5, e0, if_neg (nI_ge hk (by omega)), if_neg (nI_ge hk (by omega)), ckn a5 hL.f hp (by omega), mkn hp (by omega), Option.bind_some, Option.bind_some, nI_1]
      by_cases hkn : kn Im p k = true
      · rw [hkn, if_pos rfl] at ih'
        rw [hkn, if_neg (show ¬ b01 true = 0 by decide), if_neg (show ¬ b01 true = 0 by decide)]
        rcases lk_or Im p k with e | ⟨q, hq, e, -⟩
        · rw [e, if_pos rfl] at ih'
          rw [e, if_pos (show m1 = -1 from rfl), if_pos (show m1 < 0 by decide)]
          exact ih'
        · obtain ⟨x, hx, x1, x2⟩ := a3 (6 * p + k) (by omega)
          obtain ⟨y, hy, y1, y2⟩ := a3 (6 * p + q) (by omega)
          rw [e, if_neg (show ¬ nI q = m1 from n_m1 (by omega)), nI_clamp (by omega), y2, x2] at ih'
          rw [e, if_neg (n_m1 (by omega)), if_neg (nI_pos (by omega)), likeOf_eq (by omega) (by omega), likeOf_eq (by omega) (by omega), Option.bind_some, Option.bind_some, x1, y1]
          by_cases w : y ≤ x
          · rw [if_pos (nI_le w (by omega))] at ih'
            simp (disch := omega) only [↓M1, ↓ofNat_nI, L0, L1, L2, L3, L4, L5, L6, L7, L8, L9, L10, L12, L31, L32, L40, L48, L50, L99, L100, L120, L180, L256, L500, n_lt0, n_ge0, n_let, n_lef, n_ltt, n_ltf, n_eqt, n_eqf, m_lt, m_le, m_eq, m_eq2, m_le2, m_lt2, m_nle, m_nlt, if_true, if_false, eq_self, Option.bind_some, mb0, mb1, mbb, mbn0, mbn1, not_true, not_false_eq_true, reduceIte, Bool.false_eq_true, nI_add, nI_clamp, pk_mul, in_t, in_f, in_m, zr, za, at_SZ, put_SZ, rd_at, wr_at, rd_m, wr_m, x2, y2]
            exact ih'
          · rw [if_neg (nI_ge (by omega) (by omega))] at ih'
            simp (disch := omega) only [↓M1, ↓ofNat_nI, L0, L1, L2, L3, L4, L5, L6, L7, L8, L9, L10, L12, L31, L32, L40, L48, L50, L99, L100, L120, L180, L256, L500, n_lt0, n_ge0, n_let, n_lef, n_ltt, n_ltf, n_eqt, n_eqf, m_lt, m_le, m_eq, m_eq2, m_le2, m_lt2, m_nle, m_nlt, if_true, if_false, eq_self, Option.bind_some, mb0, mb1, mbb, mbn0, mbn1, not_true, not_false_eq_true, reduceIte, Bool.false_eq_true, nI_add, nI_clamp, pk_mul, in_t, in_f, in_m, zr, za, at_SZ, put_SZ, rd_at, wr_at, rd_m, wr_m, x2, y2]
            exact ih'
      · rw [if_neg hkn] at ih'
        rw [eq_false_of_ne_true hkn, if_pos (show b01 false = 0 by decide), if_pos (show b01 false = 0 by decide)]
        exact ih'
theorem lk_c (hL : isL L R F) (h : rLf T P N R F Ic Im) {n p : Nat} (hn : 9 ≤ n) (hp : p < 8) : f2_leastLiked SZ n L (nI p) Ic Jc = some (lkS Im p T) := by
  have hT := h.1.1
  exact (lk_loop (Jm := fun _ _ => 0) hL h hp n 0 (Nat.zero_le T) (by omega)).1
theorem lk_m (h : rLf T P N 26 29 Ic Im) {n p : Nat} (hn : 9 ≤ n) (hp : p < 8) : f11_leastLiked SZ n 167 (nI p) Im Jm = some (lkS Im p T) := by
  have hT := h.1.1
  exact (lk_loop (Jc := fun _ _ => 0) isL1 h hp n 0 (Nat.zero_le T) (by omega)).2
/-- a gain, as a number -/
theorem gain_v (h : rLf T P N 26 29 Ic Im) {p a b : Nat} (hp : p < 8) (ha : a < 6) (hb : b < 6) : ∃ x y, x ≤ 99 ∧ y ≤ 99 ∧ Ic 14 (6 * p + b) = nI x ∧ Im 171 (6 * p + b) = nI x ∧ Ic 14 (6 * p + a) = nI y ∧ Im 171 (6 * p + a) = nI y := by
  obtain ⟨x, hx, x1, x2⟩ := h.2.2.1 (6 * p + b) (by omega)
  obtain ⟨y, hy, y1, y2⟩ := h.2.2.1 (6 * p + a) (by omega)
  exact ⟨x, y, hx, hy, x1, x2, y1, y2⟩
theorem max0 {x y : Nat} (hx : x ≤ 99) (hy : y ≤ 99) : (if (0 : Int32) < nI x - nI y then nI x - nI y else 0) = nI (x - y) := by
  rcases fd_cases (x := x) (f := y) (by omega) (by omega) with ⟨d, d0, d1, e⟩ | ⟨e, -⟩
  · have : x - y = d := by
      rcases Nat.le_total y x with q | q
      · rw [pk_sub q] at e
        exact (nI_eq (by omega) (by omega)).mp e
      · exfalso
        have := pk_sub_toInt (a := x) (b := y) (by omega) (by omega)
        rw [e, nI_toInt (by omega)] at this
        omega
    rw [e, if_pos (show (0 : Int32) < nI d from nI_lt (a := 0) (by omega) (by omega)), this]
  · have : x - y = 0 := by
      rcases Nat.lt_or_ge y x with q | q
      · exfalso
        rw [pk_sub (by omega)] at e
        exact e (nI_lt (a := 0) (by omega) (by omega))
      · omega
    rw [if_neg (show ¬ (0 : Int32) < nI x - nI y from e), this]
    rfl
theorem gain_c (h : rLf T P N 26 29 Ic Im) {p q : Nat} (hp : p < 8) (hq : q < 8) : f5_gainOf SZ 158 (nI p) (ofr T Im p) (ofr T Im q) Ic Jc = some (nI (Gn T Im p q)) := by
  have hT := h.1.1
  have a5 := h.2.2.2.2
  have z0 : mm_rf SZ (mm_rf SZ 158 0) 0 = 4 := by simp (disch := omega) only [↓M1, ↓ofNat_nI, L0, L1, L2, L3, L4, L5, L6, L7, L8, L9, L10, L12, L31, L32, L40, L48, L50, L99, L100, L120, L180, L256, L500, n_lt0, n_ge0, n_let, n_lef, n_ltt, n_ltf, n_eqt, n_eqf, m_lt, m_le, m_eq, m_eq2, m_le2, m_lt2, m_nle, m_nlt, if_true, if_false, eq_self, Option.bind_some, mb0, mb1, mbb, mbn0, mbn1, not_true, not_false_eq_true, reduceIte, Bool.false_eq_true, nI_add, nI_clamp, pk_mul, in_t, in_f, in_m, zr, za, at_SZ, put_SZ, rd_at, wr_at, rd_m, wr_m]
  have z2 : mm_rf SZ (mm_rf SZ 158 0) 2 = 29 := by simp (disch := omega) only [↓M1, ↓ofNat_nI, L0, L1, L2, L3, L4, L5, L6, L7, L8, L9, L10, L12, L31, L32, L40, L48, L50, L99, L100, L120, L180, L256, L500, n_lt0, n_ge0, n_let, n_lef, n_ltt, n_ltf, n_eqt, n_eqf, m_lt, m_le, m_eq, m_eq2, m_le2, m_lt2, m_nle, m_nlt, if_true, if_false, eq_self, Option.bind_some, mb0, mb1, mbb, mbn0, mbn1, not_true, not_false_eq_true, reduceIte, Bool.false_eq_true, nI_add, nI_clamp, pk_mul, in_t, in_f, in_m, zr, za, at_SZ, put_SZ, rd_at, wr_at, rd_m, wr_m]
  unfold f5_gainOf f5_gainOf_43 f5_gainOf_44 f5_gainOf_84 Gn
  rw [z0, z2]
  rcases ofr_or T Im p with e1 | ⟨a, ha, e1⟩
  · rw [e1, if_pos (show m1 = -1 from rfl), if_pos rfl, if_pos (show m1 = m1 from rfl)]
    rfl
  · rw [e1, if_neg (n_m1 (by omega)), if_neg (show ¬ nI a = m1 from n_m1 (by omega))]
    rcases ofr_or T Im q with e2 | ⟨b, hb, e2⟩
    · rw [e2, if_pos (show m1 = -1 from rfl), if_pos rfl, if_pos (show m1 = m1 from rfl)]
      rfl
    · obtain ⟨kd, hk, k1, k2⟩ := (h.2.1 b hb).1
      obtain ⟨x, y, hx, hy, x1, x2, y1, y2⟩ := gain_v h hp (a := a) (b := b) (by omega) (by omega)
      rw [e2, if_neg (n_m1 (by omega)), if_neg (show ¬ nI b = m1 from n_m1 (by omega)), ckn a5 isL1.f hp (by omega), Option.bind_some, nI_clamp (by omega), nI_clamp (by omega), forb_eq (by omega) hk k1, Option.bind_some, k2, x2, y2, nI_clamp (by omega), nI_clamp (by omega), likeOf_eq hp (by omega), likeOf_eq hp (by omega), Option.bind_some, Option.bind_some, x1, y1, max0 hx hy]
      cases kn Im p b
      · rw [if_pos (show b01 false = 0 by decide), if_neg (show ¬ false = true by decide)]
        by_cases c : kd = 3
        · rw [if_pos c, if_neg n10, if_pos rfl, if_pos (show nI kd = nI 3 by rw [c])]
          rfl
        · rw [if_neg c, if_pos rfl, if_neg n10, if_neg (show ¬ nI kd = nI 3 from fun w => c ((nI_eq (by omega) (by omega)).mp w))]
      · rw [if_neg (show ¬ b01 true = 0 by decide), if_pos rfl, if_pos rfl]
        rfl
/-- the offers -/
theorem offers_loop {n : Nat} (hn : 9 ≤ n) : ∀ (d p : Nat) (I : mm_I), p ≤ 8 → 8 < p + d → rLf T P N 26 29 I Im → (∀ q, q < p → I 160 q = ofr T Im q) → ∃ I', f5_fillGains_2 SZ n d 158 (nI p) I Jc = f5_fillGains_78 SZ n n 158 0 I' Jc ∧ rLf T P N 26 29 I' Im ∧ (∀ r, r ≠ 160 → I' r = I r) ∧ ∀ q, q < 8 → I' 160 q = ofr T Im q := by
  intro d
  induction d with
  | zero => intro p I h1 h2; omega
  | succ d ih =>
    intro p I h1 h2 h i1
    have hT := h.1.1
    have hP := h.1.2.1
    have a5 := h.2.2.2.2
    have cS : f5_fillGains_2 SZ n (d + 1) 158 (nI p) I Jc = f5_fillGains_2_b SZ n (f5_fillGains_2 SZ n d) 158 (nI p) I Jc := rfl
    rw [cS]
    unfold f5_fillGains_2_b f5_fillGains_44 f5_fillGains_45 f5_fillGains_67
    by_cases c : p = 8
    · subst c
      rw [if_pos (show (8 : Int32) ≤ nI 8 by decide)]
      exact ⟨I, rfl, h, fun _ _ => rfl, i1⟩
    · have hp : p < 8 := by omega
      obtain ⟨Lv, l1, l2, l3, l4, l5⟩ := a5.l
      have lp := l2 p hp
      have z2 : mm_rf SZ (mm_rf SZ 158 0) 2 = 29 := by simp (disch := omega) only [↓M1, ↓ofNat_nI, L0, L1, L2, L3, L4, L5, L6, L7, L8, L9, L10, L12, L31, L32, L40, L48, L50, L99, L100, L120, L180, L256, L500, n_lt0, n_ge0, n_let, n_lef, n_ltt, n_ltf, n_eqt, n_eqf, m_lt, m_le, m_eq, m_eq2, m_le2, m_lt2, m_nle, m_nlt, if_true, if_false, eq_self, Option.bind_some, mb0, mb1, mbb, mbn0, mbn1, not_true, not_false_eq_true, reduceIte, Bool.false_eq_true, nI_add, nI_clamp, pk_mul, in_t, in_f, in_m, zr, za, at_SZ, put_SZ, rd_at, wr_at, rd_m, wr_m]
      have pO : ∀ x, f6_put SZ (mm_rf SZ 158 1) (nI p) x I Jc = some (mm_up I 160 p x, Jc) := fun x => by simp (disch := omega) only [↓M1, ↓ofNat_nI, L0, L1, L2, L3, L4, L5, L6, L7, L8, L9, L10, L12, L31, L32, L40, L48, L50, L99, L100, L120, L180, L256, L500, n_lt0, n_ge0, n_let, n_lef, n_ltt, n_ltf, n_eqt, n_eqf, m_lt, m_le, m_eq, m_eq2, m_le2, m_lt2, m_nle, m_nlt, if_true, if_false, eq_self, Option.bind_some, mb0, mb1, mbb, mbn0, mbn1, not_true, not_false_eq_true, reduceIte, Bool.false_eq_true, nI_add, nI_clamp, pk_mul, in_t, in_f, in_m, zr, za, at_SZ, put_SZ, rd_at, wr_at, rd_m, wr_m]
      have nxt : ∀ x, x = ofr T Im p → ∃ I', f5_fillGains_2 SZ n d 158 (nI p + 1) (mm_up I 160 p x) Jc = f5_fillGains_78 SZ n n 158 0 I' Jc ∧ rLf T P N 26 29 I' Im ∧ (∀ r, r ≠ 160 → I' r = I r) ∧ ∀ q, q < 8 → I' 160 q = ofr T Im q := fun x hx => by
        obtain ⟨I', g1, g2, g3, g4⟩ := ih (p + 1) (mm_up I 160 p x) (by omega) (by omega) (h.fp fun r hr => mm_up_o (by omega)) (fun q hq => by
          by_cases e : q = p
          · subst e; rw [up_s2, hx]
          · rw [up_o2 (by omega)]; exact i1 q (by omega))
        refine ⟨I', ?_, g2, fun r hr => by rw [g3 r hr, mm_up_o hr], g4⟩
        rw [nI_1]
        exact g1
      rw [if_neg (show ¬ (8 : Int32) ≤ nI p from nI_ge (b := 8) hp (by omega)), z2, l1 p hp, Option.bind_some, pO, if_pos rfl, if_neg n10, show mm_rf SZ 158 0 = 147 by simp (disch := omega) only [↓M1, ↓ofNat_nI, L0, L1, L2, L3, L4, L5, L6, L7, L8, L9, L10, L12, L31, L32, L40, L48, L50, L99, L100, L120, L180, L256, L500, n_lt0, n_ge0, n_let, n_lef, n_ltt, n_ltf, n_eqt, n_eqf, m_lt, m_le, m_eq, m_eq2, m_le2, m_lt2, m_nle, m_nlt, if_true, if_false, eq_self, Option.bind_some, mb0, mb1, mbb, mbn0, mbn1, not_true, not_false_eq_true, reduceIte, Bool.false_eq_true, nI_add, nI_clamp, pk_mul, in_t, in_f, in_m, zr, za, at_SZ, put_SZ, rd_at, wr_at, rd_m, wr_m], lk_c isL1 h hn hp, Option.bind_some, Option.bind_some, pO, Option.bind_some]
      cases hl : Lv p
      · rw [hl] at lp
        rw [if_pos (show b01 false = 0 by decide)]
        exact nxt m1 (by unfold ofr; rw [if_pos (show Im 173 p = nI 0 from lp)])
      · rw [hl] at lp
        have hpP : p < P := by
          rcases Nat.lt_or_ge p P with q | q
          · exact q
          · rw [l3 p q] at hl
            exact Bool.noConfusion hl
        have e1 : ¬ Im 173 p = nI 0 := by rw [lp]; decide
        rw [if_neg (show ¬ b01 true = 0 by decide), show f6_at SZ (mm_rf SZ 29 4) (nI p) I Jc = some (Im 177 p) from by simp (disch := omega) only [↓M1, ↓ofNat_nI, L0, L1, L2, L3, L4, L5, L6, L7, L8, L9, L10, L12, L31, L32, L40, L48, L50, L99, L100, L120, L180, L256, L500, n_lt0, n_ge0, n_let, n_lef, n_ltt, n_ltf, n_eqt, n_eqf, m_lt, m_le, m_eq, m_eq2, m_le2, m_lt2, m_nle, m_nlt, if_true, if_false, eq_self, Option.bind_some, mb0, mb1, mbb, mbn0, mbn1, not_true, not_false_eq_true, reduceIte, Bool.false_eq_true, nI_add, nI_clamp, pk_mul, in_t, in_f, in_m, zr, za, at_SZ, put_SZ, rd_at, wr_at, rd_m, wr_m, (a5.le hpP).1], Option.bind_some]
        by_cases cl : Im 177 p = m1
        · rw [if_pos (show Im 177 p = -1 from cl)]
          exact nxt _ (by unfold ofr; rw [if_neg e1, if_pos cl])
        · rw [if_neg (show ¬ Im 177 p = -1 from cl)]
          exact nxt m1 (by unfold ofr; rw [if_neg e1, if_neg cl])
theorem gains_in {n p : Nat} (hp : p < 8) {rec78 : Nat → Int32 → mm_I → mm_J → Option (mm_I × mm_J)} : ∀ (d k : Nat) (I : mm_I), k ≤ 8 → 8 < k + d → rLf T P N 26 29 I Im → (∀ q, q < 8 → I 160 q = ofr T Im q) → (∀ a b, a < p → b < 8 → I 162 (a * 8 + b) = nI (Gn T Im a b)) → (∀ b, b < k → I 162 (p * 8 + b) = nI (Gn T Im p b)) → ∃ I', f5_fillGains_86 SZ n rec78 d 158 (nI p) (nI k) I Jc = rec78 158 (nI (p + 1)) I' Jc ∧ rLf T P N 26 29 I' Im ∧ (∀ r, r ≠ 162 → I' r = I r) ∧ ∀ a b, a < p + 1 → b < 8 → I' 162 (a * 8 + b) = nI (Gn T Im a b) := by
  intro d
  induction d with
  | zero => intro k I h1 h2; omega
  | succ d ih =>
    intro k I h1 h2 h io i1 i2
    have cS : f5_fillGains_86 SZ n rec78 (d + 1) 158 (nI p) (nI k) I Jc = f5_fillGains_86_b SZ n rec78 (f5_fillGains_86 SZ n rec78 d) 158 (nI p) (nI k) I Jc := rfl
    rw [cS]
    unfold f5_fillGains_86_b
    by_cases c : k = 8
    · subst c
      rw [if_pos (show (8 : Int32) ≤ nI 8 by decide), nI_1]
      refine ⟨I, rfl, h, fun _ _ => rfl, fun a b ha hb => ?_⟩
      by_cases e : a = p
      · subst e; exact i2 b hb
      · exact i1 a b (by omega) hb
    · have hk : k < 8 := by omega
      obtain ⟨I', g1, g2, g3, g4⟩ := ih (k + 1) (mm_up I 162 (p * 8 + k) (nI (Gn T Im p k))) (by omega) (by omega) (h.fp fun r hr => mm_up_o (by omega)) (fun q hq => by rw [up_o2 (by omega)]; exact io q hq) (fun a b ha hb => by rw [up_o2 (by omega)]; exact i1 a b ha hb) (fun b hb => by
        by_cases e : b = k
        · subst e; exact up_s2
        · rw [up_o2 (by omega)]; exact i2 b (by omega))
      refine ⟨I', ?_, g2, fun r hr => by rw [g3 r hr, mm_up_o hr], g4⟩
      rw [if_neg (show ¬ (8 : Int32) ≤ nI k from nI_ge (b := 8) hk (by omega)), show f6_at SZ (mm_rf SZ 158 1) (nI p) I Jc = some (ofr T Im p) from by simp (disch := omega) only [↓M1, ↓ofNat_nI, L0, L1, L2, L3, L4, L5, L6, L7, L8, L9, L10, L12, L31, L32, L40, L48, L50, L99, L100, L120, L180, L256, L500, n_lt0, n_ge0, n_let, n_lef, n_ltt, n_ltf, n_eqt, n_eqf, m_lt, m_le, m_eq, m_eq2, m_le2, m_lt2, m_nle, m_nlt, if_true, if_false, eq_self, Option.bind_some, mb0, mb1, mbb, mbn0, mbn1, not_true, not_false_eq_true, reduceIte, Bool.false_eq_true, nI_add, nI_clamp, pk_mul, in_t, in_f, in_m, zr, za, at_SZ, put_SZ, rd_at, wr_at, rd_m, wr_m, io p hp], Option.bind_some, show f6_at SZ (mm_rf SZ 158 1) (nI k) I Jc = some (ofr T Im k) from by simp (disch := omega) only [↓M1, ↓ofNat_nI, L0, L1, L2, L3, L4, L5, L6, L7, L8, L9, L10, L12, L31, L32, L40, L48, L50, L99, L100, L120, L180, L256, L500, n_lt0, n_ge0, n_let, n_lef, n_ltt, n_ltf, n_eqt, n_eqf, m_lt, m_le, m_eq, m_eq2, m_le2, m_lt2, m_nle, m_nlt, if_true, if_false, eq_self, Option.bind_some, mb0, mb1, mbb, mbn0, mbn1, not_true, not_false_eq_true, reduceIte, Bool.false_eq_true, nI_add, nI_clamp, pk_mul, in_t, in_f, in_m, zr, za, at_SZ, put_SZ, rd_at, wr_at, rd_m, wr_m, io k hk], Option.bind_some, gain_c h hp hk, Option.bind_some, show f6_put SZ (mm_rf SZ 158 2) (nI p * 8 + nI k) (nI (Gn T Im p k)) I Jc = some (mm_up I 162 (p * 8 + k) (nI (Gn T Im p k)), Jc) from by simp (disch := omega) only [↓M1, ↓ofNat_nI, L0, L1, L2, L3, L4, L5, L6, L7, L8, L9, L10, L12, L31, L32, L40, L48, L50, L99, L100, L120, L180, L256, L500, n_lt0, n_ge0, n_let, n_lef, n_ltt, n_ltf, n_eqt, n_eqf, m_lt, m_le, m_eq, m_eq2, m_le2, m_lt2, m_nle, m_nlt, if_true, if_false, eq_self, Option.bind_some, mb0, mb1, mbb, mbn0, mbn1, not_true, not_false_eq_true, reduceIte, Bool.false_eq_true, nI_add, nI_clamp, pk_mul, in_t, in_f, in_m, zr, za, at_SZ, put_SZ, rd_at, wr_at, rd_m, wr_m], Option.bind_some, nI_1]
      exact g1
theorem gains_out {n : Nat} (hn : 9 ≤ n) : ∀ (d p : Nat) (I : mm_I), p ≤ 8 → 8 < p + d → rLf T P N 26 29 I Im → (∀ q, q < 8 → I 160 q = ofr T Im q) → (∀ a b, a < p → b < 8 → I 162 (a * 8 + b) = nI (Gn T Im a b)) → ∃ I', f5_fillGains_78 SZ n d 158 (nI p) I Jc = some (I', Jc) ∧ rLf T P N 26 29 I' Im ∧ (∀ r, r ≠ 162 → I' r = I r) ∧ ∀ a b, a < 8 → b < 8 → I' 162 (a * 8 + b) = nI (Gn T Im a b) := by
  intro d
  induction d with
  | zero => intro p I h1 h2; omega
  | succ d ih =>
    intro p I h1 h2 h io i1
    have cS : f5_fillGains_78 SZ n (d + 1) 158 (nI p) I Jc = f5_fillGains_78_b SZ n (f5_fillGains_78 SZ n d) 158 (nI p) I Jc := rfl
    rw [cS]
    unfold f5_fillGains_78_b
    by_cases c : p = 8
    · subst c
      rw [if_pos (show (8 : Int32) ≤ nI 8 by decide)]
      exact ⟨I, rfl, h, fun _ _ => rfl, i1⟩
    · obtain ⟨I1, q1, q2, q3, q4⟩ := gains_in (Jc := Jc) (n := n) (show p < 8 by omega) (rec78 := f5_fillGains_78 SZ n d) n 0 I (by omega) (by omega) h io i1 (fun b hb => absurd hb (Nat.not_lt_zero b))
      obtain ⟨I2, u1, u2, u3, u4⟩ := ih (p + 1) I1 (by omega) (by omega) q2 (fun q hq => by rw [q3 160 (by omega)]; exact io q hq) q4
      refine ⟨I2, ?_, u2, fun r hr => by rw [u3 r hr, q3 r hr], u4⟩
      rw [if_neg (show ¬ (8 : Int32) ≤ nI p from nI_ge (b := 8) (by omega) (by omega))]
      exact q1.trans u1
theorem fill_gains {I : mm_I} {n : Nat} (hn : 9 ≤ n) (h : rLf T P N 26 29 I Im) : ∃ I', f5_fillGains SZ n 158 I Jc = some (I', Jc) ∧ (∀ r, r ≠ 160 → r ≠ 162 → I' r = I r) ∧ ∀ a b, a < 8 → b < 8 → I' 162 (a * 8 + b) = nI (Gn T Im a b) := by
  obtain ⟨I1, q1, q2, q3, q4⟩ := offers_loop (Jc := Jc) hn n 0 I (by omega) (by omega) h (fun q hq => absurd hq (Nat.not_lt_zero q))
  obtain ⟨I2, u1, u2, u3, u4⟩ := gains_out (Jc := Jc) hn n 0 I1 (by omega) (by omega) q2 q4 (fun a b ha => absurd ha (Nat.not_lt_zero a))
  exact ⟨I2, q1.trans u1, fun r h1 h2 => by rw [u3 r h2, q3 r h1], u4⟩
end GAI
