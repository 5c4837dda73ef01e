/-! ===== part 66: the class walks the rings (written by wip/whole/pre.py) ===== -/
section WLK
variable {T P N : Nat} {Im I0 : mm_I} {Jc : mm_J}
/-- the class's search, so far -/
def rg (T P N : Nat) (Im I0 I : mm_I) (b : Nat × Nat × Nat) : Prop :=
  rLf T P N 26 29 I Im ∧ (∀ r, r ≠ 158 → r ≠ 164 → r ≠ 166 → I r = I0 r) ∧ (∀ a b, a < 8 → b < 8 → I 162 (a * 8 + b) = nI (Gn T Im a b)) ∧ I 158 5 = nI b.1 ∧ I 158 6 = nI b.2.1 ∧ (∀ k, k < b.2.1 → I 166 k = nI (dt8 b.2.2 b.2.1 k)) ∧ b.1 ≤ 400 ∧ b.2.1 ≤ 4
def pth (j c : Nat) (I : mm_I) : Prop := ∀ k, k < j → I 164 k = nI (dt8 c j k)
theorem Gn_le (h : rLf T P N 26 29 I0 Im) {p q : Nat} (hp : p < 8) : Gn T Im p q ≤ 99 := by
  have hT := h.1.1
  unfold Gn
  split
  · exact Nat.zero_le _
  · next c1 =>
    split
    · exact Nat.zero_le _
    · next c2 =>
      split
      · exact Nat.zero_le _
      · split
        · exact Nat.zero_le _
        · rcases ofr_or T Im p with e1 | ⟨a, ha, e1⟩
          · exact absurd e1 c1
          · rcases ofr_or T Im q with e2 | ⟨b, hb, e2⟩
            · exact absurd e2 c2
            · obtain ⟨x, y, hx, hy, x1, x2, y1, y2⟩ := gain_v h hp (a := a) (b := b) (by omega) (by omega)
              rw [e1, e2, nI_clamp (by omega), nI_clamp (by omega), x2, y2, nI_clamp (by omega), nI_clamp (by omega)]
              omega
theorem sG_le {f : Nat → Nat} {B : Nat} : ∀ {n : Nat}, (∀ k, k < n → f k ≤ B) → sG f n ≤ n * B
  | 0, _ => Nat.zero_le _
  | n + 1, h => by
    have h1 := sG_le (f := f) (B := B) (n := n) (fun k hk => h k (by omega))
    have h2 := h n (by omega)
    show sG f n + f n ≤ (n + 1) * B
    rw [Nat.succ_mul]
    omega
theorem Sm_le (h : rLf T P N 26 29 I0 Im) {c j : Nat} (hj : j ≤ 4) : Sm (Gn T Im) c j ≤ 297 := by
  unfold Sm
  have := sG_le (f := fun k => Gn T Im (dt8 c j k) (dt8 c j (k + 1))) (B := 99) (n := j - 1) (fun k _ => Gn_le h (dt8_lt _ _ _))
  have : (j - 1) * 99 ≤ 3 * 99 := Nat.mul_le_mul_right _ (by omega)
  omega
theorem gf_c {I : mm_I} {b : Nat × Nat × Nat} (h : rg T P N Im I0 I b) {p q : Nat} (hp : p < 8) (hq : q < 8) : f5_gainFrom SZ 158 (nI p) (nI q) I Jc = some (nI (Gn T Im p q)) := by
  unfold f5_gainFrom
  simp (disch := omega) only [↓M1, ↓ofNat_nI, L0, L1, L2, L3, L4, L5, L6, L7, L8, L9, L10, L12, L31, L32, L40, L48, L50, L99, L100, L120, L180, L256, L500, n_lt0, n_ge0, n_let, n_lef, n_ltt, n_ltf, n_eqt, n_eqf, m_lt, m_le, m_eq, m_eq2, m_le2, m_lt2, m_nle, m_nlt, if_true, if_false, eq_self, Option.bind_some, mb0, mb1, mbb, mbn0, mbn1, not_true, not_false_eq_true, reduceIte, Bool.false_eq_true, nI_add, nI_clamp, pk_mul, in_t, in_f, in_m, zr, za, at_SZ, put_SZ, rd_at, wr_at, rd_m, wr_m, h.2.2.1 p q hp hq]
theorem on_no {I : mm_I} {n j c x : Nat} (hj : j ≤ 4) (hp : pth j c I) (hx : x < 8) (hn : ∀ i, i < j → dt8 c j i ≠ x) : ∀ (d k : Nat), k ≤ j → j < k + d → f5_isOnPath_2 SZ n d 158 (nI x) (nI j) (nI k) I Jc = some 0 := by
  intro d
  induction d with
  | zero => intro k h1 h2; omega
  | succ d ih =>
    intro k h1 h2
    have cS : f5_isOnPath_2 SZ n (d + 1) 158 (nI x) (nI j) (nI k) I Jc = f5_isOnPath_2_b SZ n (f5_isOnPath_2 SZ n d) 158 (nI x) (nI j) (nI k) I Jc := rfl
    rw [cS]
    unfold f5_isOnPath_2_b
    by_cases c' : k = j
    · subst c'
      rw [if_pos (nI_le (Nat.le_refl k) (by omega))]
    · have hk : k < j := by omega
      have h8 := dt8_lt c j k
      rw [if_neg (nI_ge hk (by omega)), show f6_at SZ (mm_rf SZ 158 3) (nI k) I Jc = some (nI (dt8 c j k)) from by simp (disch := omega) only [↓M1, ↓ofNat_nI, L0, L1, L2, L3, L4, L5, L6, L7, L8, L9, L10, L12, L31, L32, L40, L48, L50, L99, L100, L120, L180, L256, L500, n_lt0, n_ge0, n_let, n_lef, n_ltt, n_ltf, n_eqt, n_eqf, m_lt, m_le, m_eq, m_eq2, m_le2, m_lt2, m_nle, m_nlt, if_true, if_false, eq_self, Option.bind_some, mb0, mb1, mbb, mbn0, mbn1, not_true, not_false_eq_true, reduceIte, Bool.false_eq_true, nI_add, nI_clamp, pk_mul, in_t, in_f, in_m, zr, za, at_SZ, put_SZ, rd_at, wr_at, rd_m, wr_m, hp k hk], Option.bind_some, if_neg (fun q => hn k hk ((nI_eq (by omega) (by omega)).mp q)), nI_1]
      exact ih (k + 1) (by omega) (by omega)
theorem on_yes {I : mm_I} {n j c x : Nat} (hj : j ≤ 4) (hp : pth j c I) (hx : x < 8) {i : Nat} (hi : i < j) (he : dt8 c j i = x) : ∀ (d k : Nat), k ≤ i → j < k + d → f5_isOnPath_2 SZ n d 158 (nI x) (nI j) (nI k) I Jc = some 1 := by
  intro d
  induction d with
  | zero => intro k h1 h2; omega
  | succ d ih =>
    intro k h1 h2
    have cS : f5_isOnPath_2 SZ n (d + 1) 158 (nI x) (nI j) (nI k) I Jc = f5_isOnPath_2_b SZ n (f5_isOnPath_2 SZ n d) 158 (nI x) (nI j) (nI k) I Jc := rfl
    have hk : k < j := by omega
    have h8 := dt8_lt c j k
    rw [cS]
    unfold f5_isOnPath_2_b
    rw [if_neg (nI_ge hk (by omega)), show f6_at SZ (mm_rf SZ 158 3) (nI k) I Jc = some (nI (dt8 c j k)) from by simp (disch := omega) only [↓M1, ↓ofNat_nI, L0, L1, L2, L3, L4, L5, L6, L7, L8, L9, L10, L12, L31, L32, L40, L48, L50, L99, L100, L120, L180, L256, L500, n_lt0, n_ge0, n_let, n_lef, n_ltt, n_ltf, n_eqt, n_eqf, m_lt, m_le, m_eq, m_eq2, m_le2, m_lt2, m_nle, m_nlt, if_true, if_false, eq_self, Option.bind_some, mb0, mb1, mbb, mbn0, mbn1, not_true, not_false_eq_true, reduceIte, Bool.false_eq_true, nI_add, nI_clamp, pk_mul, in_t, in_f, in_m, zr, za, at_SZ, put_SZ, rd_at, wr_at, rd_m, wr_m, hp k hk], Option.bind_some]
    by_cases q : dt8 c j k = x
    · rw [if_pos (by rw [q])]
    · have : k ≠ i := fun w => q (by rw [w]; exact he)
      rw [if_neg (fun w => q ((nI_eq (by omega) (by omega)).mp w)), nI_1]
      exact ih (k + 1) (by omega) (by omega)
theorem cp4_loop {n : Nat} : ∀ (d k : Nat) (I I1 : mm_I), k ≤ 4 → 4 < k + d → (∀ r, r ≠ 166 → I r = I1 r) → (∀ q, q < k → I 166 q = I1 164 q) → ∃ I', f6_copyFrom_2 SZ n d 165 163 (nI k) I Jc = some (I', Jc) ∧ (∀ r, r ≠ 166 → I' r = I1 r) ∧ ∀ q, q < 4 → I' 166 q = I1 164 q := by
  intro d
  induction d with
  | zero => intro k I I1 h1 h2; omega
  | succ d ih =>
    intro k I I1 h1 h2 i1 i2
    have cS : f6_copyFrom_2 SZ n (d + 1) 165 163 (nI k) I Jc = f6_copyFrom_2_b SZ n (f6_copyFrom_2 SZ n d) 165 163 (nI k) I Jc := rfl
    rw [cS]
    unfold f6_copyFrom_2_b f6_copyFrom_38
    by_cases c : k = 4
    · subst c
      refine ⟨I, ?_, i1, i2⟩
      simp (disch := omega) only [↓M1, ↓ofNat_nI, L0, L1, L2, L3, L4, L5, L6, L7, L8, L9, L10, L12, L31, L32, L40, L48, L50, L99, L100, L120, L180, L256, L500, n_lt0, n_ge0, n_let, n_lef, n_ltt, n_ltf, n_eqt, n_eqf, m_lt, m_le, m_eq, m_eq2, m_le2, m_lt2, m_nle, m_nlt, if_true, if_false, eq_self, Option.bind_some, mb0, mb1, mbb, mbn0, mbn1, not_true, not_false_eq_true, reduceIte, Bool.false_eq_true, nI_add, nI_clamp, pk_mul, in_t, in_f, in_m, zr, za, at_SZ, put_SZ, rd_at, wr_at, rd_m, wr_m]
    · obtain ⟨I', g1, g2, g3⟩ := ih (k + 1) (mm_up I 166 k (I 164 k)) I1 (by omega) (by omega) (fun r hr => by rw [mm_up_o hr]; exact i1 r hr) (fun q hq => by
        by_cases e : q = k
        · subst e; rw [up_s2, i1 164 (by omega)]
        · rw [up_o2 (by omega)]; exact i2 q (by omega))
      refine ⟨I', ?_, g2, g3⟩
      simp (disch := omega) only [↓M1, ↓ofNat_nI, L0, L1, L2, L3, L4, L5, L6, L7, L8, L9, L10, L12, L31, L32, L40, L48, L50, L99, L100, L120, L180, L256, L500, n_lt0, n_ge0, n_let, n_lef, n_ltt, n_ltf, n_eqt, n_eqf, m_lt, m_le, m_eq, m_eq2, m_le2, m_lt2, m_nle, m_nlt, if_true, if_false, eq_self, Option.bind_some, mb0, mb1, mbb, mbn0, mbn1, not_true, not_false_eq_true, reduceIte, Bool.false_eq_true, nI_add, nI_clamp, pk_mul, in_t, in_f, in_m, zr, za, at_SZ, put_SZ, rd_at, wr_at, rd_m, wr_m]
      exact g1
theorem close_c {I : mm_I} {b : Nat × Nat × Nat} {n m c : Nat} (hn : 5 ≤ n) (h : rg T P N Im I0 I b) (hm : 2 ≤ m ∧ m ≤ 4) (hg : Gd (Gn T Im) P c m) (hp : pth m c I) : ∃ I', f5_closeRing SZ n 158 (nI m) (nI (Sm (Gn T Im) c m)) (nI (Gn T Im (dt8 c m (m - 1)) (dt8 c m 0))) I Jc = some (I', Jc) ∧ rg T P N Im I0 I' (upR (Gn T Im) P m c b) ∧ pth m c I' := by
  have hs := Sm_le h.1 (c := c) hm.2
  have hG := Gn_le h.1 (p := dt8 c m (m - 1)) (q := dt8 c m 0) (dt8_lt _ _ _)
  have hv := Vr_t (Gn T Im) P hg
  obtain ⟨h1, h2, h3, h4, h5, h6, h7, h8⟩ := h
  unfold f5_closeRing f5_closeRing_37 upR
  rw [hv]
  generalize Gn T Im (dt8 c m (m - 1)) (dt8 c m 0) = g at *
  generalize Sm (Gn T Im) c m = s at *
  by_cases c0 : g = 0
  · subst c0
    rw [if_pos (show nI 0 ≤ 0 by decide), if_neg (Nat.lt_irrefl 0), if_neg (Nat.not_lt_zero _)]
    exact ⟨I, rfl, ⟨h1, h2, h3, h4, h5, h6, h7, h8⟩, hp⟩
  · rw [if_neg (nI_nle (by omega) (by omega)), if_pos (show 0 < g by omega), h4, nI_add]
    by_cases c1 : s + g ≤ b.1
    · rw [if_pos (nI_le c1 (by omega)), if_neg (by omega)]
      exact ⟨I, rfl, ⟨h1, h2, h3, h4, h5, h6, h7, h8⟩, hp⟩
    · rw [if_neg (nI_ge (by omega) (by omega)), if_pos (by omega)]
      obtain ⟨I', k1, k2, k3⟩ := cp4_loop (Jc := Jc) (n := n) n 0 (mm_up (mm_up I 158 5 (nI (s + g))) 158 6 (nI m)) (mm_up (mm_up I 158 5 (nI (s + g))) 158 6 (nI m)) (by omega) (by omega) (fun _ _ => rfl) (fun q hq => absurd hq (Nat.not_lt_zero q))
      have fr : ∀ r, r ≠ 158 → r ≠ 166 → I' r = I r := fun r hr hr' => by rw [k2 r hr', mm_up_o hr, mm_up_o hr]
      refine ⟨I', ?_, ⟨h1.fp fun r hr => fr r (by omega) (by omega), fun r q1 q2 q3 => by rw [fr r q1 q3]; exact h2 r q1 q2 q3, fun a b ha hb => by rw [fr 162 (by omega) (by omega)]; exact h3 a b ha hb, ?_, ?_, fun k hk => ?_, by show s + g ≤ 400; omega, hm.2⟩, fun k hk => by rw [fr 164 (by omega) (by omega)]; exact hp k hk⟩
      · rw [show mm_rf SZ 158 4 = 165 by simp (disch := omega) only [↓M1, ↓ofNat_nI, L0, L1, L2, L3, L4, L5, L6, L7, L8, L9, L10, L12, L31, L32, L40, L48, L50, L99, L100, L120, L180, L256, L500, n_lt0, n_ge0, n_let, n_lef, n_ltt, n_ltf, n_eqt, n_eqf, m_lt, m_le, m_eq, m_eq2, m_le2, m_lt2, m_nle, m_nlt, if_true, if_false, eq_self, Option.bind_some, mb0, mb1, mbb, mbn0, mbn1, not_true, not_false_eq_true, reduceIte, Bool.false_eq_true, nI_add, nI_clamp, pk_mul, in_t, in_f, in_m, zr, za, at_SZ, put_SZ, rd_at, wr_at, rd_m, wr_m], show mm_rf SZ 158 3 = 163 by simp (disch := omega) only [↓M1, ↓ofNat_nI, L0, L1, L2, L3, L4, L5, L6, L7, L8, L9, L10, L12, L31, L32, L40, L48, L50, L99, L100, L120, L180, L256, L500, n_lt0, n_ge0, n_let, n_lef, n_ltt, n_ltf, n_eqt, n_eqf, m_lt, m_le, m_eq, m_eq2, m_le2, m_lt2, m_nle, m_nlt, if_true, if_false, eq_self, Option.bind_some, mb0, mb1, mbb, mbn0, mbn1, not_true, not_false_eq_true, reduceIte, Bool.false_eq_true, nI_add, nI_clamp, pk_mul, in_t, in_f, in_m, zr, za, at_SZ, put_SZ, rd_at, wr_at, rd_m, wr_m], show f6_copyFrom SZ n 165 163 (mm_up (mm_up I 158 5 (nI (s + g))) 158 6 (nI m)) Jc = _ from k1]
        rfl
      · rw [k2 158 (by omega), up_o2 (by omega), up_s2]
      · rw [k2 158 (by omega), up_s2]
      · have hk : k < m := hk
        rw [k3 k (by omega), up_o2 (by omega), up_o2 (by omega)]
        exact hp k hk
theorem rg.path {I : mm_I} {b : Nat × Nat × Nat} {k : Nat} {x : Int32} (h : rg T P N Im I0 I b) : rg T P N Im I0 (mm_up I 164 k x) b := by
  obtain ⟨h1, h2, h3, h4, h5, h6, h7, h8⟩ := h
  exact ⟨h1.fp fun r hr => mm_up_o (by omega), fun r q1 q2 q3 => by rw [mm_up_o q2]; exact h2 r q1 q2 q3, fun a b ha hb => by rw [up_o2 (by omega)]; exact h3 a b ha hb, by rw [up_o2 (by omega)]; exact h4, by rw [up_o2 (by omega)]; exact h5, fun k hk => by rw [up_o2 (by omega)]; exact h6 k hk, h7, h8⟩
theorem foR_low (G : Nat → Nat → Nat) {m c j e : Nat} (hj : 1 ≤ j) (hm : j + 1 + e = m) (b : Nat × Nat × Nat) : ∀ y, y ≤ dt8 c j 0 + 1 → foR G P m (8 * c * 8 ^ e) (y * 8 ^ e) b = b
  | 0, _ => by rw [Nat.zero_mul]; rfl
  | y + 1, hy => by
    have h8 := dt8_lt c j 0
    rw [show (y + 1) * 8 ^ e = y * 8 ^ e + 8 ^ e from Nat.succ_mul _ _, foR_add, foR_low G hj hm b y (by omega), ← Nat.add_mul]
    have := foR_bad G P (m := m) (c := 8 * c + y) (j := j + 1) (by omega) (by omega) (fun g => by
      rw [Gd_ext G P hj (by omega)] at g
      have := g.2.1
      omega) b
    rw [show m - (j + 1) = e by omega] at this
    exact this
theorem walk_c {n m : Nat} (hn : 9 ≤ n) (hm : 2 ≤ m ∧ m ≤ 4) : ∀ (e D j c : Nat) (I : mm_I) (b : Nat × Nat × Nat), j + e = m → 1 ≤ j → e < D → Gd (Gn T Im) P c j → pth j c I → rg T P N Im I0 I b → ∃ I', f5_walkOn D SZ n 158 (nI j) (nI m) (nI (Sm (Gn T Im) c j)) I Jc = some (I', Jc) ∧ rg T P N Im I0 I' (foR (Gn T Im) P m (c * 8 ^ e) (8 ^ e) b) ∧ pth j c I' := by
  intro e
  induction e with
  | zero =>
    intro D j c I b h1 h2 h3 hg hp h
    obtain ⟨D', rfl⟩ : ∃ D', D = D' + 1 := ⟨D - 1, by omega⟩
    have hjm : j = m := by omega
    subst hjm
    have h80 := dt8_lt c j 0
    have h81 := dt8_lt c j (j - 1)
    obtain ⟨I', k1, k2, k3⟩ := close_c (Jc := Jc) (n := n) (by omega) h hm hg hp
    refine ⟨I', ?_, ?_, k3⟩
    · show f5_walkOn_b SZ n (f5_walkOn D' SZ n) 158 (nI j) (nI j) (nI (Sm (Gn T Im) c j)) I Jc = _
      unfold f5_walkOn_b
      rw [show f6_at SZ (mm_rf SZ 158 3) 0 I Jc = some (nI (dt8 c j 0)) from by simp (disch := omega) only [↓M1, ↓ofNat_nI, L0, L1, L2, L3, L4, L5, L6, L7, L8, L9, L10, L12, L31, L32, L40, L48, L50, L99, L100, L120, L180, L256, L500, n_lt0, n_ge0, n_let, n_lef, n_ltt, n_ltf, n_eqt, n_eqf, m_lt, m_le, m_eq, m_eq2, m_le2, m_lt2, m_nle, m_nlt, if_true, if_false, eq_self, Option.bind_some, mb0, mb1, mbb, mbn0, mbn1, not_true, not_false_eq_true, reduceIte, Bool.false_eq_true, nI_add, nI_clamp, pk_mul, in_t, in_f, in_m, zr, za, at_SZ, put_SZ, rd_at, wr_at, rd_m, wr_m, hp 0 (by omega)], Option.bind_some, show nI j - 1 = nI (j - 1) from pk_sub (b := 1) (by omega), show f6_at SZ (mm_rf SZ 158 3) (nI (j - 1)) I Jc = some (nI (dt8 c j (j - 1))) from by simp (disch := omega) only [↓M1, ↓ofNat_nI, L0, L1, L2, L3, L4, L5, L6, L7, L8, L9, L10, L12, L31, L32, L40, L48, L50, L99, L100, L120, L180, L256, L500, n_lt0, n_ge0, n_let, n_lef, n_ltt, n_ltf, n_eqt, n_eqf, m_lt, m_le, m_eq, m_eq2, m_le2, m_lt2, m_nle, m_nlt, if_true, if_false, eq_self, Option.bind_some, mb0, mb1, mbb, mbn0, mbn1, not_true, not_false_eq_true, reduceIte, Bool.false_eq_true, nI_add, nI_clamp, pk_mul, in_t, in_f, in_m, zr, za, at_SZ, put_SZ, rd_at, wr_at, rd_m, wr_m, hp (j - 1) (by omega)], Option.bind_some, if_neg (nI_nlt (Nat.le_refl j) (by omega)), gf_c h h81 h80, Option.bind_some, k1]
      rfl
    · rw [Nat.pow_zero, Nat.mul_one]
      exact k2
  | succ e ih =>
    intro D j c I b h1 h2 h3 hg hp h
    obtain ⟨D', rfl⟩ : ∃ D', D = D' + 1 := ⟨D - 1, by omega⟩
    have h80 := dt8_lt c j 0
    have h81 := dt8_lt c j (j - 1)
    have hsj := Sm_le h.1 (c := c) (j := j) (by omega)
    -- the loop over the next
    have loop : ∀ (dd x : Nat) (I : mm_I) (b : Nat × Nat × Nat), x ≤ 8 → 8 < x + dd → dt8 c j 0 < x → pth j c I → rg T P N Im I0 I b → ∃ I', f5_walkOn_48 SZ n (f5_walkOn D' SZ n) dd 158 (nI j) (nI m) (nI (Sm (Gn T Im) c j)) (nI (dt8 c j (j - 1))) (nI x) I Jc = some (I', Jc) ∧ rg T P N Im I0 I' (foR (Gn T Im) P m ((8 * c + x) * 8 ^ e) ((8 - x) * 8 ^ e) b) ∧ pth j c I' := by
      intro dd
      induction dd with
      | zero => intro x I b h1 h2; omega
      | succ dd ih2 =>
        intro x I b g1 g2 g3 gp gr
        have cS : f5_walkOn_48 SZ n (f5_walkOn D' SZ n) (dd + 1) 158 (nI j) (nI m) (nI (Sm (Gn T Im) c j)) (nI (dt8 c j (j - 1))) (nI x) I Jc = f5_walkOn_48_b SZ n (f5_walkOn D' SZ n) (f5_walkOn_48 SZ n (f5_walkOn D' SZ n) dd) 158 (nI j) (nI m) (nI (Sm (Gn T Im) c j)) (nI (dt8 c j (j - 1))) (nI x) I Jc := rfl
        rw [cS]
        unfold f5_walkOn_48_b f5_walkOn_102
        by_cases cx : x = 8
        · subst cx
          rw [if_pos (show (8 : Int32) ≤ nI 8 by decide), Nat.sub_self, Nat.zero_mul]
          exact ⟨I, rfl, gr, gp⟩
        · have hx : x < 8 := by omega
          have hGx := Gn_le gr.1 (p := dt8 c j (j - 1)) (q := x) h81
          have split : foR (Gn T Im) P m ((8 * c + x) * 8 ^ e) ((8 - x) * 8 ^ e) b = foR (Gn T Im) P m ((8 * c + (x + 1)) * 8 ^ e) ((8 - (x + 1)) * 8 ^ e) (foR (Gn T Im) P m ((8 * c + x) * 8 ^ e) (8 ^ e) b) := by
            have e1 : (8 - x) * 8 ^ e = 8 ^ e + (8 - (x + 1)) * 8 ^ e := by
              obtain ⟨y, hy⟩ : ∃ y, 8 - x = y + 1 := ⟨8 - x - 1, by omega⟩
              rw [hy, show 8 - (x + 1) = y by omega, Nat.succ_mul, Nat.add_comm]
            have e2 : (8 * c + x) * 8 ^ e + 8 ^ e = (8 * c + (x + 1)) * 8 ^ e := (Nat.succ_mul _ _).symm
            rw [e1, foR_add, e2]
          rw [split, if_neg (show ¬ (8 : Int32) ≤ nI x from nI_ge (b := 8) hx (by omega)), gf_c gr h81 hx, Option.bind_some, nI_1]
          have bad : ¬ Gd (Gn T Im) P (8 * c + x) (j + 1) → foR (Gn T Im) P m ((8 * c + x) * 8 ^ e) (8 ^ e) b = b := fun q => by
            have := foR_bad (Gn T Im) P (m := m) (c := 8 * c + x) (j := j + 1) (by omega) (by omega) q b
            rw [show m - (j + 1) = e by omega] at this
            exact this
          by_cases c1 : Gn T Im (dt8 c j (j - 1)) x = 0
          · rw [if_pos (show nI (Gn T Im (dt8 c j (j - 1)) x) ≤ 0 by rw [c1]; decide), bad (fun q => by
              rw [Gd_ext _ P h2 hx] at q
              have := q.2.2.1
              omega)]
            exact ih2 (x + 1) I b (by omega) (by omega) (by omega) gp gr
          · rw [if_neg (nI_nle (by omega) (by omega))]
            by_cases c2 : ∀ i, i < j → dt8 c j i ≠ x
            · rw [show f5_isOnPath SZ n 158 (nI x) (nI j) I Jc = some 0 from on_no (by omega) gp hx c2 n 0 (Nat.zero_le j) (by omega), Option.bind_some, if_pos rfl]
              have hgx : Gd (Gn T Im) P (8 * c + x) (j + 1) := (Gd_ext _ P h2 hx).mpr ⟨hg, g3, by omega, c2⟩
              obtain ⟨I1, k1, k2, k3⟩ := ih D' (j + 1) (8 * c + x) (mm_up I 164 j (nI x)) b (by omega) (by omega) (by omega) hgx (fun k hk => by
                by_cases q : k = j
                · subst q; rw [up_s2, dt8_last hx]
                · rw [up_o2 (by omega), dt8_ext hx (by omega)]; exact gp k (by omega)) gr.path
              rw [Sm_ext _ h2 hx] at k1
              obtain ⟨I2, u1, u2, u3⟩ := ih2 (x + 1) I1 _ (by omega) (by omega) (by omega) (fun k hk => by
                rw [k3 k (by omega), dt8_ext hx hk]) k2
              refine ⟨I2, ?_, u2, u3⟩
              rw [show f6_put SZ (mm_rf SZ 158 3) (nI j) (nI x) I Jc = some (mm_up I 164 j (nI x), Jc) from by simp (disch := omega) only [↓M1, ↓ofNat_nI, L0, L1, L2, L3, L4, L5, L6, L7, L8, L9, L10, L12, L31, L32, L40, L48, L50, L99, L100, L120, L180, L256, L500, n_lt0, n_ge0, n_let, n_lef, n_ltt, n_ltf, n_eqt, n_eqf, m_lt, m_le, m_eq, m_eq2, m_le2, m_lt2, m_nle, m_nlt, if_true, if_false, eq_self, Option.bind_some, mb0, mb1, mbb, mbn0, mbn1, not_true, not_false_eq_true, reduceIte, Bool.false_eq_true, nI_add, nI_clamp, pk_mul, in_t, in_f, in_m, zr, za, at_SZ, put_SZ, rd_at, wr_at, rd_m, wr_m], Option.bind_some, nI_1, nI_add]
              dsimp only
              rw [k1, Option.bind_some]
              exact u1
            · have c2' : ∃ i, i < j ∧ dt8 c j i = x := by
                refine Classical.byContradiction fun q => c2 fun i hi he => q ⟨i, hi, he⟩
              obtain ⟨i, hi, he⟩ := c2'
              rw [show f5_isOnPath SZ n 158 (nI x) (nI j) I Jc = some 1 from on_yes (by omega) gp hx hi he n 0 (Nat.zero_le i) (by omega), Option.bind_some, if_neg n10, bad (fun q => by
                rw [Gd_ext _ P h2 hx] at q
                exact q.2.2.2 i hi he)]
              exact ih2 (x + 1) I b (by omega) (by omega) (by omega) gp gr
    obtain ⟨I', k1, k2, k3⟩ := loop n (dt8 c j 0 + 1) I b (by omega) (by omega) (by omega) hp h
    refine ⟨I', ?_, ?_, k3⟩
    · show f5_walkOn_b SZ n (f5_walkOn D' SZ n) 158 (nI j) (nI m) (nI (Sm (Gn T Im) c j)) I Jc = _
      unfold f5_walkOn_b
      rw [show f6_at SZ (mm_rf SZ 158 3) 0 I Jc = some (nI (dt8 c j 0)) from by simp (disch := omega) only [↓M1, ↓ofNat_nI, L0, L1, L2, L3, L4, L5, L6, L7, L8, L9, L10, L12, L31, L32, L40, L48, L50, L99, L100, L120, L180, L256, L500, n_lt0, n_ge0, n_let, n_lef, n_ltt, n_ltf, n_eqt, n_eqf, m_lt, m_le, m_eq, m_eq2, m_le2, m_lt2, m_nle, m_nlt, if_true, if_false, eq_self, Option.bind_some, mb0, mb1, mbb, mbn0, mbn1, not_true, not_false_eq_true, reduceIte, Bool.false_eq_true, nI_add, nI_clamp, pk_mul, in_t, in_f, in_m, zr, za, at_SZ, put_SZ, rd_at, wr_at, rd_m, wr_m, hp 0 (by omega)], Option.bind_some, show nI j - 1 = nI (j - 1) from pk_sub (b := 1) (by omega), show f6_at SZ (mm_rf SZ 158 3) (nI (j - 1)) I Jc = some (nI (dt8 c j (j - 1))) from by simp (disch := omega) only [↓M1, ↓ofNat_nI, L0, L1, L2, L3, L4, L5, L6, L7, L8, L9, L10, L12, L31, L32, L40, L48, L50, L99, L100, L120, L180, L256, L500, n_lt0, n_ge0, n_let, n_lef, n_ltt, n_ltf, n_eqt, n_eqf, m_lt, m_le, m_eq, m_eq2, m_le2, m_lt2, m_nle, m_nlt, if_true, if_false, eq_self, Option.bind_some, mb0, mb1, mbb, mbn0, mbn1, not_true, not_false_eq_true, reduceIte, Bool.false_eq_true, nI_add, nI_clamp, pk_mul, in_t, in_f, in_m, zr, za, at_SZ, put_SZ, rd_at, wr_at, rd_m, wr_m, hp (j - 1) (by omega)], Option.bind_some, if_pos (nI_lt (show j < m by omega) (by omega)), nI_1]
      exact k1
    · have e1 : c * 8 ^ (e + 1) = 8 * c * 8 ^ e := by
        rw [Nat.pow_succ, Nat.mul_comm (8 ^ e) 8, ← Nat.mul_assoc, Nat.mul_comm c 8]
      have e2 : 8 ^ (e + 1) = (dt8 c j 0 + 1) * 8 ^ e + (8 - (dt8 c j 0 + 1)) * 8 ^ e := by
        rw [← Nat.add_mul, show dt8 c j 0 + 1 + (8 - (dt8 c j 0 + 1)) = 8 by omega, Nat.pow_succ, Nat.mul_comm]
      rw [e1, e2, foR_add, foR_low (Gn T Im) h2 (by omega) b _ (Nat.le_refl _), ← Nat.add_mul]
      exact k2
theorem foR_high (G : Nat → Nat → Nat) {m e : Nat} (hm : 1 + e = m) (b : Nat × Nat × Nat) {a : Nat} (ha : P ≤ a) : ∀ y, a + y ≤ 8 → foR G P m (a * 8 ^ e) (y * 8 ^ e) b = b
  | 0, _ => by rw [Nat.zero_mul]; rfl
  | y + 1, hy => by
    rw [show (y + 1) * 8 ^ e = y * 8 ^ e + 8 ^ e from Nat.succ_mul _ _, foR_add, foR_high G hm b ha y (by omega), ← Nat.add_mul]
    have := foR_bad G P (m := m) (c := a + y) (j := 1) (by omega) (by omega) (fun g => by
      have := g.1
      unfold dt8 at this
      rw [show 1 - 1 - 0 = 0 by omega, Nat.pow_zero, Nat.div_one] at this
      omega) b
    rw [show m - 1 = e by omega] at this
    exact this
theorem first_loop {n m e : Nat} (hn : 9 ≤ n) (hm : 2 ≤ m ∧ m ≤ 4) (he : 1 + e = m) {rec16 : Nat → Int32 → mm_I → mm_J → Option (mm_I × mm_J)} : ∀ (d a : Nat) (I : mm_I) (b : Nat × Nat × Nat), a ≤ P → P < a + d → rg T P N Im I0 I b → ∃ I', f5_search_23 SZ n rec16 d 158 (nI m) (nI a) I Jc = rec16 158 (nI (m + 1)) I' Jc ∧ rg T P N Im I0 I' (foR (Gn T Im) P m (a * 8 ^ e) ((8 - a) * 8 ^ e) b) := by
  intro d
  induction d with
  | zero => intro a I b h1 h2; omega
  | succ d ih =>
    intro a I b h1 h2 h
    have hP := h.1.1.2.1
    have e6 := h.1.1.2.2.2.2.1
    have cS : f5_search_23 SZ n rec16 (d + 1) 158 (nI m) (nI a) I Jc = f5_search_23_b SZ n rec16 (f5_search_23 SZ n rec16 d) 158 (nI m) (nI a) I Jc := rfl
    rw [cS]
    unfold f5_search_23_b
    rw [show mm_rf SZ (mm_rf SZ 158 0) 0 = 4 by simp (disch := omega) only [↓M1, ↓ofNat_nI, L0, L1, L2, L3, L4, L5, L6, L7, L8, L9, L10, L12, L31, L32, L40, L48, L50, L99, L100, L120, L180, L256, L500, n_lt0, n_ge0, n_let, n_lef, n_ltt, n_ltf, n_eqt, n_eqf, m_lt, m_le, m_eq, m_eq2, m_le2, m_lt2, m_nle, m_nlt, if_true, if_false, eq_self, Option.bind_some, mb0, mb1, mbb, mbn0, mbn1, not_true, not_false_eq_true, reduceIte, Bool.false_eq_true, nI_add, nI_clamp, pk_mul, in_t, in_f, in_m, zr, za, at_SZ, put_SZ, rd_at, wr_at, rd_m, wr_m], e6]
    by_cases c : a = P
    · subst c
      rw [if_pos (nI_le (Nat.le_refl a) (by omega)), nI_1, foR_high (Gn T Im) he b (Nat.le_refl a) _ (by omega)]
      exact ⟨I, rfl, h⟩
    · have ha : a < P := by omega
      have hd : dt8 a 1 0 = a := by
        unfold dt8
        rw [show 1 - 1 - 0 = 0 by omega, Nat.pow_zero, Nat.div_one]
        omega
      have hg : Gd (Gn T Im) P a 1 := ⟨by rw [hd]; exact ha, fun k h1 h2 => absurd h1 (by omega), fun k hk => absurd hk (by omega), fun k hk i hi => absurd hi (by omega)⟩
      obtain ⟨I1, k1, k2, -⟩ := walk_c (Jc := Jc) hn hm e 5 1 a (mm_up I 164 0 (nI a)) b he (by omega) (by omega) hg (fun k hk => by
        have : k = 0 := by omega
        subst this
        rw [up_s2, hd]) h.path
      obtain ⟨I2, u1, u2⟩ := ih (a + 1) I1 _ (by omega) (by omega) k2
      have split : foR (Gn T Im) P m (a * 8 ^ e) ((8 - a) * 8 ^ e) b = foR (Gn T Im) P m ((a + 1) * 8 ^ e) ((8 - (a + 1)) * 8 ^ e) (foR (Gn T Im) P m (a * 8 ^ e) (8 ^ e) b) := by
        have e1 : (8 - a) * 8 ^ e = 8 ^ e + (8 - (a + 1)) * 8 ^ e := by
          obtain ⟨y, hy⟩ : ∃ y, 8 - a = y + 1 := ⟨8 - a - 1, by omega⟩
          rw [hy, show 8 - (a + 1) = y by omega, Nat.succ_mul, Nat.add_comm]
        have e2 : a * 8 ^ e + 8 ^ e = (a + 1) * 8 ^ e := (Nat.succ_mul _ _).symm
        rw [e1, foR_add, e2]
      refine ⟨I2, ?_, by rw [split]; exact u2⟩
      rw [if_neg (nI_ge ha (by omega)), show f6_put SZ (mm_rf SZ 158 3) 0 (nI a) I Jc = some (mm_up I 164 0 (nI a), Jc) from by simp (disch := omega) only [↓M1, ↓ofNat_nI, L0, L1, L2, L3, L4, L5, L6, L7, L8, L9, L10, L12, L31, L32, L40, L48, L50, L99, L100, L120, L180, L256, L500, n_lt0, n_ge0, n_let, n_lef, n_ltt, n_ltf, n_eqt, n_eqf, m_lt, m_le, m_eq, m_eq2, m_le2, m_lt2, m_nle, m_nlt, if_true, if_false, eq_self, Option.bind_some, mb0, mb1, mbb, mbn0, mbn1, not_true, not_false_eq_true, reduceIte, Bool.false_eq_true, nI_add, nI_clamp, pk_mul, in_t, in_f, in_m, zr, za, at_SZ, put_SZ, rd_at, wr_at, rd_m, wr_m], Option.bind_some]
      dsimp only
      rw [show f5_walkOn 5 SZ n 158 1 (nI m) 0 (mm_up I 164 0 (nI a)) Jc = _ from k1, Option.bind_some, nI_1]
      exact u1
/-- the best ring of all -/
def bst (G : Nat → Nat → Nat) (P : Nat) : Nat × Nat × Nat := foR G P 4 0 4096 (foR G P 3 0 512 (foR G P 2 0 64 (0, 0, 0)))
theorem search_c {I : mm_I} {n : Nat} (hn : 9 ≤ n) (h : rLf T P N 26 29 I Im) : ∃ I', f5_search SZ n 158 I Jc = some (I', Jc) ∧ (∀ r, r < 158 ∨ 166 < r → I' r = I r) ∧ I' 158 5 = nI (bst (Gn T Im) P).1 ∧ I' 158 6 = nI (bst (Gn T Im) P).2.1 ∧ (bst (Gn T Im) P).2.1 ≤ 4 ∧ ∀ k, k < (bst (Gn T Im) P).2.1 → I' 166 k = nI (dt8 (bst (Gn T Im) P).2.2 (bst (Gn T Im) P).2.1 k) := by
  obtain ⟨I1, q1, q2, q3⟩ := fill_gains (Jc := Jc) (I := mm_up (mm_up I 158 5 0) 158 6 0) hn (h.fp fun r hr => by rw [mm_up_o (by omega), mm_up_o (by omega)])
  have hP := h.1.2.1
  have r0 : rg T P N Im I1 I1 (0, 0, 0) := ⟨h.fp fun r hr => by rw [q2 r (by omega) (by omega), mm_up_o (by omega), mm_up_o (by omega)], fun _ _ _ _ => rfl, q3, by rw [q2 158 (by omega) (by omega), up_o2 (by omega), up_s2]; rfl, by rw [q2 158 (by omega) (by omega), up_s2]; rfl, fun k hk => absurd hk (Nat.not_lt_zero k), by show 0 ≤ 400; omega, by show 0 ≤ 4; omega⟩
  obtain ⟨n', hn'⟩ : ∃ n', n = n' + 4 := ⟨n - 4, by omega⟩
  obtain ⟨I2, a1, a2⟩ := first_loop (Jc := Jc) (n := n) (m := 2) (e := 1) hn ⟨by omega, by omega⟩ rfl (rec16 := f5_search_16 SZ n (n' + 3)) n 0 I1 _ (Nat.zero_le P) (by omega) r0
  obtain ⟨I3, b1, b2⟩ := first_loop (Jc := Jc) (n := n) (m := 3) (e := 2) hn ⟨by omega, by omega⟩ rfl (rec16 := f5_search_16 SZ n (n' + 2)) n 0 I2 _ (Nat.zero_le P) (by omega) a2
  obtain ⟨I4, c1, c2⟩ := first_loop (Jc := Jc) (n := n) (m := 4) (e := 3) hn ⟨by omega, by omega⟩ rfl (rec16 := f5_search_16 SZ n (n' + 1)) n 0 I3 _ (Nat.zero_le P) (by omega) b2
  have c2 : rg T P N Im I1 I4 (bst (Gn T Im) P) := c2
  refine ⟨I4, ?_, fun r hr => by rw [c2.2.1 r (by omega) (by omega) (by omega), q2 r (by omega) (by omega), mm_up_o (by omega), mm_up_o (by omega)], c2.2.2.2.1, c2.2.2.2.2.1, c2.2.2.2.2.2.2.2, c2.2.2.2.2.2.1⟩
  unfold f5_search
  rw [q1, Option.bind_some]
  have s16 : ∀ k m, (m = 2 ∨ m = 3 ∨ m = 4) → ∀ I, f5_search_16 SZ n (k + 1) 158 (nI m) I Jc = f5_search_23 SZ n (f5_search_16 SZ n k) n 158 (nI m) 0 I Jc := fun k m hm I => by
    show f5_search_16_b SZ n (f5_search_16 SZ n k) 158 (nI m) I Jc = _
    unfold f5_search_16_b
    rw [if_neg (show ¬ (4 : Int32) < nI m from nI_nlt (b := m) (a := 4) (by omega) (by omega))]
  have e4 : f5_search_16 SZ n n 158 2 I1 Jc = f5_search_16 SZ n (n' + 3 + 1) 158 (nI 2) I1 Jc := by
    have : ∀ q, q = n' + 4 → f5_search_16 SZ n q 158 2 I1 Jc = f5_search_16 SZ n (n' + 3 + 1) 158 (nI 2) I1 Jc := fun q hq => by subst hq; rfl
    exact this n hn'
  dsimp only
  rw [e4, s16 _ 2 (by omega), show f5_search_23 SZ n (f5_search_16 SZ n (n' + 3)) n 158 (nI 2) 0 I1 Jc = _ from a1, show n' + 3 = (n' + 2) + 1 from rfl, s16 _ 3 (by omega), show f5_search_23 SZ n (f5_search_16 SZ n (n' + 2)) n 158 (nI 3) 0 I2 Jc = _ from b1, show n' + 2 = (n' + 1) + 1 from rfl, s16 _ 4 (by omega), show f5_search_23 SZ n (f5_search_16 SZ n (n' + 1)) n 158 (nI 4) 0 I3 Jc = _ from c1]
  show f5_search_16_b SZ n (f5_search_16 SZ n n') 158 (nI 5) I4 Jc = _
  unfold f5_search_16_b
  rw [if_pos (show (4 : Int32) < nI 5 by decide)]
end WLK
