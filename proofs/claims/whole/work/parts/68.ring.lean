/-! ===== part 68: ring (written by wip/whole/pre.py) ===== -/
section RNG
variable {T P N : Nat} {Ic Im : mm_I} {Jm : mm_J}
/-- the gains around -/
def ga (G : Nat → Nat → Nat) (c m k : Nat) : Nat := G (dt8 c m k) (dt8 c m ((k + 1) % m))
theorem Vr_all {G : Nat → Nat → Nat} {P c m : Nat} (hm : 2 ≤ m) (h1 : ∀ k, k < m → ∀ l, k < l → l < m → dt8 c m k ≠ dt8 c m l) (h2 : ∀ k, k < m → dt8 c m k < P ∧ dt8 c m 0 ≤ dt8 c m k) (h3 : ∀ k, k < m → 0 < ga G c m k) : Vr G P m c = sG (ga G c m) m := by
  have hmod : ∀ k, k < m - 1 → (k + 1) % m = k + 1 := fun k hk => Nat.mod_eq_of_lt (by omega)
  have hlast : ga G c m (m - 1) = G (dt8 c m (m - 1)) (dt8 c m 0) := by
    unfold ga
    rw [show m - 1 + 1 = m by omega, Nat.mod_self]
  have hg : Gd G P c m := by
    refine ⟨(h2 0 (by omega)).1, fun k hk h => ?_, fun k hk => ?_, fun k hk i hi => h1 i (by omega) k hi hk⟩
    · have a := (h2 k hk).2
      have b := h1 0 (by omega) k (by omega) hk
      omega
    · have := h3 k (by omega)
      unfold ga at this
      rw [hmod k hk] at this
      exact this
  have hp := h3 (m - 1) (by omega)
  rw [hlast] at hp
  rw [Vr_t G P hg, if_pos hp]
  unfold Sm
  obtain ⟨m', rfl⟩ : ∃ m', m = m' + 1 := ⟨m - 1, by omega⟩
  show _ = sG (ga G c (m' + 1)) m' + ga G c (m' + 1) m'
  rw [show m' + 1 - 1 = m' from rfl] at *
  rw [hlast]
  refine congrArg (· + _) (sG_congr fun k hk => ?_)
  unfold ga
  rw [hmod k hk]
theorem Vr_not {G : Nat → Nat → Nat} {P c m : Nat} (hm : 2 ≤ m) (hG : ∀ p q, p < 8 → q < 8 → 0 < G p q → q < P) (h : ¬ ((∀ k, k < m → ∀ l, k < l → l < m → dt8 c m k ≠ dt8 c m l) ∧ (∀ k, k < m → dt8 c m k < P ∧ dt8 c m 0 ≤ dt8 c m k) ∧ ∀ k, k < m → 0 < ga G c m k)) : Vr G P m c = 0 := by
  refine Classical.byContradiction fun hv => h ?_
  have hg : Gd G P c m := Classical.byContradiction fun q => hv (Vr_f G P q)
  rw [Vr_t G P hg] at hv
  have hl : 0 < G (dt8 c m (m - 1)) (dt8 c m 0) := Classical.byContradiction fun q => hv (if_neg q)
  obtain ⟨g1, g2, g3, g4⟩ := hg
  refine ⟨fun k hk l h1 h2 => g4 l h2 k h1, fun k hk => ?_, fun k hk => ?_⟩
  · by_cases e : k = 0
    · subst e; exact ⟨g1, Nat.le_refl _⟩
    · have := g3 (k - 1) (by omega)
      rw [show k - 1 + 1 = k by omega] at this
      exact ⟨hG _ _ (dt8_lt _ _ _) (dt8_lt _ _ _) this, Nat.le_of_lt (g2 k hk (by omega))⟩
  · unfold ga
    by_cases e : k = m - 1
    · rw [e, show m - 1 + 1 = m by omega, Nat.mod_self]; exact hl
    · rw [Nat.mod_eq_of_lt (by omega)]
      exact g3 k (by omega)
theorem Gn_pos {p q : Nat} (h : 0 < Gn T Im p q) : ¬ ofr T Im p = m1 ∧ ¬ ofr T Im q = m1 := by
  unfold Gn at h
  by_cases c1 : ofr T Im p = m1
  · rw [if_pos c1] at h
    exact absurd h (Nat.lt_irrefl 0)
  · refine ⟨c1, fun e => ?_⟩
    rw [if_neg c1, if_pos e] at h
    exact absurd h (Nat.lt_irrefl 0)
theorem ofr_P (h : rLf T P N 26 29 Ic Im) {p : Nat} (hp : p < 8) (ho : ¬ ofr T Im p = m1) : p < P := by
  obtain ⟨Lv, l1, l2, l3, l4, l5⟩ := h.2.2.2.2.l
  rcases Nat.lt_or_ge p P with q | q
  · exact q
  · exfalso
    refine ho ?_
    unfold ofr
    rw [l2 p hp, l3 p q, if_pos (show b01 false = nI 0 by decide)]
/-- the sum around -/
theorem swaps_t (h : rLf T P N 26 29 Ic Im) {n c m : Nat} (hn : 9 ≤ n) (hm : 2 ≤ m ∧ m ≤ 4) (hd : ∀ k, k < m → Im 192 k = nI (dt8 c m k)) (hP : ∀ k, k < m → dt8 c m k < P) : ∀ (d k : Nat), k ≤ m → m < k + d → (∀ i, k ≤ i → i < m → ¬ ofr T Im (dt8 c m i) = m1) → f11_ringSum_4 SZ n d 167 (nI m) 0 (nI k) Im Jm = f11_ringSum_32 SZ n n 167 (nI m) 0 0 Im Jm := by
  intro d
  induction d with
  | zero => intro k h1 h2; omega
  | succ d ih =>
    intro k h1 h2 h3
    have cS : f11_ringSum_4 SZ n (d + 1) 167 (nI m) 0 (nI k) Im Jm = f11_ringSum_4_b SZ n (f11_ringSum_4 SZ n d) 167 (nI m) 0 (nI k) Im Jm := rfl
    rw [cS]
    unfold f11_ringSum_4_b
    by_cases e : k = m
    · subst e
      rw [if_pos (nI_le (Nat.le_refl k) (by omega))]
    · have hk : k < m := by omega
      have ib : mm_inb (nI k) (mm_al SZ (mm_rf SZ 167 45)) = true := by simp (disch := omega) only [↓M1, ↓ofNat_nI, L0, L1, L2, L3, L4, L5, L6, L7, L8, L9, L10, L12, L31, L32, L40, L48, L50, L99, L100, L120, L180, L256, L500, n_lt0, n_ge0, n_let, n_lef, n_ltt, n_ltf, n_eqt, n_eqf, m_lt, m_le, m_eq, m_eq2, m_le2, m_lt2, m_nle, m_nlt, if_true, if_false, eq_self, Option.bind_some, mb0, mb1, mbb, mbn0, mbn1, not_true, not_false_eq_true, reduceIte, Bool.false_eq_true, nI_add, nI_clamp, pk_mul, in_t, in_f, in_m, zr, za, at_SZ, put_SZ, rd_at, wr_at, rd_m, wr_m]
      rw [if_neg (nI_ge hk (by omega)), if_pos ib, show mm_rf SZ 167 45 = 192 by simp (disch := omega) only [↓M1, ↓ofNat_nI, L0, L1, L2, L3, L4, L5, L6, L7, L8, L9, L10, L12, L31, L32, L40, L48, L50, L99, L100, L120, L180, L256, L500, n_lt0, n_ge0, n_let, n_lef, n_ltt, n_ltf, n_eqt, n_eqf, m_lt, m_le, m_eq, m_eq2, m_le2, m_lt2, m_nle, m_nlt, if_true, if_false, eq_self, Option.bind_some, mb0, mb1, mbb, mbn0, mbn1, not_true, not_false_eq_true, reduceIte, Bool.false_eq_true, nI_add, nI_clamp, pk_mul, in_t, in_f, in_m, zr, za, at_SZ, put_SZ, rd_at, wr_at, rd_m, wr_m], nI_clamp (by omega), hd k hk, swap_m h hn (hP k hk), decide_eq_false (h3 k (Nat.le_refl k) hk), Option.bind_some, if_neg (show ¬ b01 (!false) = 0 by decide), nI_1]
      exact ih (k + 1) (by omega) (by omega) (fun i h4 h5 => h3 i (by omega) h5)
theorem swaps_f (h : rLf T P N 26 29 Ic Im) {n c m : Nat} (hn : 9 ≤ n) (hm : 2 ≤ m ∧ m ≤ 4) (hd : ∀ k, k < m → Im 192 k = nI (dt8 c m k)) (hP : ∀ k, k < m → dt8 c m k < P) {i : Nat} (hi : i < m) (ho : ofr T Im (dt8 c m i) = m1) : ∀ (d k : Nat), k ≤ i → m < k + d → f11_ringSum_4 SZ n d 167 (nI m) 0 (nI k) Im Jm = some 0 := by
  intro d
  induction d with
  | zero => intro k h1 h2; omega
  | succ d ih =>
    intro k h1 h2
    have cS : f11_ringSum_4 SZ n (d + 1) 167 (nI m) 0 (nI k) Im Jm = f11_ringSum_4_b SZ n (f11_ringSum_4 SZ n d) 167 (nI m) 0 (nI k) Im Jm := rfl
    rw [cS]
    unfold f11_ringSum_4_b
    have hk : k < m := by omega
    have ib : mm_inb (nI k) (mm_al SZ (mm_rf SZ 167 45)) = true := by simp (disch := omega) only [↓M1, ↓ofNat_nI, L0, L1, L2, L3, L4, L5, L6, L7, L8, L9, L10, L12, L31, L32, L40, L48, L50, L99, L100, L120, L180, L256, L500, n_lt0, n_ge0, n_let, n_lef, n_ltt, n_ltf, n_eqt, n_eqf, m_lt, m_le, m_eq, m_eq2, m_le2, m_lt2, m_nle, m_nlt, if_true, if_false, eq_self, Option.bind_some, mb0, mb1, mbb, mbn0, mbn1, not_true, not_false_eq_true, reduceIte, Bool.false_eq_true, nI_add, nI_clamp, pk_mul, in_t, in_f, in_m, zr, za, at_SZ, put_SZ, rd_at, wr_at, rd_m, wr_m]
    rw [if_neg (nI_ge hk (by omega)), if_pos ib, show mm_rf SZ 167 45 = 192 by simp (disch := omega) only [↓M1, ↓ofNat_nI, L0, L1, L2, L3, L4, L5, L6, L7, L8, L9, L10, L12, L31, L32, L40, L48, L50, L99, L100, L120, L180, L256, L500, n_lt0, n_ge0, n_let, n_lef, n_ltt, n_ltf, n_eqt, n_eqf, m_lt, m_le, m_eq, m_eq2, m_le2, m_lt2, m_nle, m_nlt, if_true, if_false, eq_self, Option.bind_some, mb0, mb1, mbb, mbn0, mbn1, not_true, not_false_eq_true, reduceIte, Bool.false_eq_true, nI_add, nI_clamp, pk_mul, in_t, in_f, in_m, zr, za, at_SZ, put_SZ, rd_at, wr_at, rd_m, wr_m], nI_clamp (by omega), hd k hk, swap_m h hn (hP k hk), Option.bind_some]
    by_cases q : ofr T Im (dt8 c m k) = m1
    · rw [decide_eq_true q]
      rfl
    · have : k ≠ i := fun w => q (by rw [w]; exact ho)
      rw [decide_eq_false q, if_neg (show ¬ b01 (!false) = 0 by decide), nI_1]
      exact ih (k + 1) (by omega) (by omega)
theorem around_t (h : rLf T P N 26 29 Ic Im) {n c m : Nat} (hn : 9 ≤ n) (hm : 2 ≤ m ∧ m ≤ 4) (hd : ∀ k, k < m → Im 192 k = nI (dt8 c m k)) (ho : ∀ k, k < m → ¬ ofr T Im (dt8 c m k) = m1) : ∀ (d k : Nat), k ≤ m → m < k + d → (∀ i, k ≤ i → i < m → 0 < ga (Gn T Im) c m i) → f11_ringSum_32 SZ n d 167 (nI m) (nI (sG (ga (Gn T Im) c m) k)) (nI k) Im Jm = some (nI (sG (ga (Gn T Im) c m) m)) := by
  intro d
  induction d with
  | zero => intro k h1 h2; omega
  | succ d ih =>
    intro k h1 h2 h3
    have cS : f11_ringSum_32 SZ n (d + 1) 167 (nI m) (nI (sG (ga (Gn T Im) c m) k)) (nI k) Im Jm = f11_ringSum_32_b SZ n (f11_ringSum_32 SZ n d) 167 (nI m) (nI (sG (ga (Gn T Im) c m) k)) (nI k) Im Jm := rfl
    rw [cS]
    unfold f11_ringSum_32_b
    by_cases e : k = m
    · subst e
      rw [if_pos (nI_le (Nat.le_refl k) (by omega))]
    · have hk : k < m := by omega
      have hmod : (k + 1) % m < m := Nat.mod_lt _ (by omega)
      have ib : mm_inb (nI k) (mm_al SZ (mm_rf SZ 167 45)) = true := by simp (disch := omega) only [↓M1, ↓ofNat_nI, L0, L1, L2, L3, L4, L5, L6, L7, L8, L9, L10, L12, L31, L32, L40, L48, L50, L99, L100, L120, L180, L256, L500, n_lt0, n_ge0, n_let, n_lef, n_ltt, n_ltf, n_eqt, n_eqf, m_lt, m_le, m_eq, m_eq2, m_le2, m_lt2, m_nle, m_nlt, if_true, if_false, eq_self, Option.bind_some, mb0, mb1, mbb, mbn0, mbn1, not_true, not_false_eq_true, reduceIte, Bool.false_eq_true, nI_add, nI_clamp, pk_mul, in_t, in_f, in_m, zr, za, at_SZ, put_SZ, rd_at, wr_at, rd_m, wr_m]
      have ib2 : mm_inb (nI ((k + 1) % m)) (mm_al SZ (mm_rf SZ 167 45)) = true := by simp (disch := omega) only [↓M1, ↓ofNat_nI, L0, L1, L2, L3, L4, L5, L6, L7, L8, L9, L10, L12, L31, L32, L40, L48, L50, L99, L100, L120, L180, L256, L500, n_lt0, n_ge0, n_let, n_lef, n_ltt, n_ltf, n_eqt, n_eqf, m_lt, m_le, m_eq, m_eq2, m_le2, m_lt2, m_nle, m_nlt, if_true, if_false, eq_self, Option.bind_some, mb0, mb1, mbb, mbn0, mbn1, not_true, not_false_eq_true, reduceIte, Bool.false_eq_true, nI_add, nI_clamp, pk_mul, in_t, in_f, in_m, zr, za, at_SZ, put_SZ, rd_at, wr_at, rd_m, wr_m]
      have hg := h3 k (Nat.le_refl k) hk
      have hgl : ga (Gn T Im) c m k ≤ 99 := by
        unfold ga
        unfold Gn
        split
        · omega
        · split
          · omega
          · split
            · omega
            · split
              · omega
              · have := Gn_le h (p := dt8 c m k) (q := dt8 c m ((k + 1) % m)) (dt8_lt _ _ _)
                unfold Gn at this
                rw [if_neg (by assumption), if_neg (by assumption), if_neg (by assumption), if_neg (by assumption)] at this
                exact this
      rw [if_neg (nI_ge hk (by omega)), if_pos ib, if_neg (nI_ne0 (by omega) (by omega)), nI_1, pk_rem (by omega) (by omega) (by omega), if_pos ib2, show mm_rf SZ 167 45 = 192 by simp (disch := omega) only [↓M1, ↓ofNat_nI, L0, L1, L2, L3, L4, L5, L6, L7, L8, L9, L10, L12, L31, L32, L40, L48, L50, L99, L100, L120, L180, L256, L500, n_lt0, n_ge0, n_let, n_lef, n_ltt, n_ltf, n_eqt, n_eqf, m_lt, m_le, m_eq, m_eq2, m_le2, m_lt2, m_nle, m_nlt, if_true, if_false, eq_self, Option.bind_some, mb0, mb1, mbb, mbn0, mbn1, not_true, not_false_eq_true, reduceIte, Bool.false_eq_true, nI_add, nI_clamp, pk_mul, in_t, in_f, in_m, zr, za, at_SZ, put_SZ, rd_at, wr_at, rd_m, wr_m], nI_clamp (by omega), nI_clamp (by omega), hd k hk, hd _ hmod, gain_m h hn (dt8_lt _ _ _) (dt8_lt _ _ _) (ho k hk) (ho _ hmod), Option.bind_some, show Gn T Im (dt8 c m k) (dt8 c m ((k + 1) % m)) = ga (Gn T Im) c m k from rfl, if_neg (nI_ne0 hg (by omega)), nI_add]
      exact ih (k + 1) (by omega) (by omega) (fun i h4 h5 => h3 i (by omega) h5)
theorem around_f (h : rLf T P N 26 29 Ic Im) {n c m : Nat} (hn : 9 ≤ n) (hm : 2 ≤ m ∧ m ≤ 4) (hd : ∀ k, k < m → Im 192 k = nI (dt8 c m k)) (ho : ∀ k, k < m → ¬ ofr T Im (dt8 c m k) = m1) {i : Nat} (hi : i < m) (hg : ga (Gn T Im) c m i = 0) : ∀ (d k : Nat) (v : Int32), k ≤ i → m < k + d → f11_ringSum_32 SZ n d 167 (nI m) v (nI k) Im Jm = some 0 := by
  intro d
  induction d with
  | zero => intro k v h1 h2; omega
  | succ d ih =>
    intro k v h1 h2
    have cS : f11_ringSum_32 SZ n (d + 1) 167 (nI m) v (nI k) Im Jm = f11_ringSum_32_b SZ n (f11_ringSum_32 SZ n d) 167 (nI m) v (nI k) Im Jm := rfl
    rw [cS]
    unfold f11_ringSum_32_b
    have hk : k < m := by omega
    have hmod : (k + 1) % m < m := Nat.mod_lt _ (by omega)
    have ib : mm_inb (nI k) (mm_al SZ (mm_rf SZ 167 45)) = true := by simp (disch := omega) only [↓M1, ↓ofNat_nI, L0, L1, L2, L3, L4, L5, L6, L7, L8, L9, L10, L12, L31, L32, L40, L48, L50, L99, L100, L120, L180, L256, L500, n_lt0, n_ge0, n_let, n_lef, n_ltt, n_ltf, n_eqt, n_eqf, m_lt, m_le, m_eq, m_eq2, m_le2, m_lt2, m_nle, m_nlt, if_true, if_false, eq_self, Option.bind_some, mb0, mb1, mbb, mbn0, mbn1, not_true, not_false_eq_true, reduceIte, Bool.false_eq_true, nI_add, nI_clamp, pk_mul, in_t, in_f, in_m, zr, za, at_SZ, put_SZ, rd_at, wr_at, rd_m, wr_m]
    have ib2 : mm_inb (nI ((k + 1) % m)) (mm_al SZ (mm_rf SZ 167 45)) = true := by simp (disch := omega) only [↓M1, ↓ofNat_nI, L0, L1, L2, L3, L4, L5, L6, L7, L8, L9, L10, L12, L31, L32, L40, L48, L50, L99, L100, L120, L180, L256, L500, n_lt0, n_ge0, n_let, n_lef, n_ltt, n_ltf, n_eqt, n_eqf, m_lt, m_le, m_eq, m_eq2, m_le2, m_lt2, m_nle, m_nlt, if_true, if_false, eq_self, Option.bind_some, mb0, mb1, mbb, mbn0, mbn1, not_true, not_false_eq_true, reduceIte, Bool.false_eq_true, nI_add, nI_clamp, pk_mul, in_t, in_f, in_m, zr, za, at_SZ, put_SZ, rd_at, wr_at, rd_m, wr_m]
    rw [if_neg (nI_ge hk (by omega)), if_pos ib, if_neg (nI_ne0 (by omega) (by omega)), nI_1, pk_rem (by omega) (by omega) (by omega), if_pos ib2, show mm_rf SZ 167 45 = 192 by simp (disch := omega) only [↓M1, ↓ofNat_nI, L0, L1, L2, L3, L4, L5, L6, L7, L8, L9, L10, L12, L31, L32, L40, L48, L50, L99, L100, L120, L180, L256, L500, n_lt0, n_ge0, n_let, n_lef, n_ltt, n_ltf, n_eqt, n_eqf, m_lt, m_le, m_eq, m_eq2, m_le2, m_lt2, m_nle, m_nlt, if_true, if_false, eq_self, Option.bind_some, mb0, mb1, mbb, mbn0, mbn1, not_true, not_false_eq_true, reduceIte, Bool.false_eq_true, nI_add, nI_clamp, pk_mul, in_t, in_f, in_m, zr, za, at_SZ, put_SZ, rd_at, wr_at, rd_m, wr_m], nI_clamp (by omega), nI_clamp (by omega), hd k hk, hd _ hmod, gain_m h hn (dt8_lt _ _ _) (dt8_lt _ _ _) (ho k hk) (ho _ hmod), Option.bind_some, show Gn T Im (dt8 c m k) (dt8 c m ((k + 1) % m)) = ga (Gn T Im) c m k from rfl]
    by_cases q : ga (Gn T Im) c m k = 0
    · rw [if_pos (show nI (ga (Gn T Im) c m k) = 0 by rw [q]; rfl)]
    · have hgl : ga (Gn T Im) c m k ≤ 99 := Gn_le h (dt8_lt _ _ _)
      have : k ≠ i := fun w => q (by rw [w]; exact hg)
      rw [if_neg (nI_ne0 (by omega) (by omega))]
      exact ih (k + 1) _ (by omega) (by omega)
/-- what the reference finds a code to gain -/
theorem code_m {I : mm_I} {b : Nat × Nat × Nat} {n c m : Nat} (h : rLf T P N 26 29 Ic Im) (hr : mr Im I b) (hn : 9 ≤ n) (hc : c < 4096) (hm : 2 ≤ m ∧ m ≤ 4) : ∃ I', (∀ (α : Type) (X : Int32 → mm_I → mm_J → Option α), ((f11_isRing SZ n 167 (nI c) (nI m) I Jm).bind fun o2 => if o2.1 = 0 then X 0 o2.2.1 o2.2.2 else (f11_ringSum SZ n 167 (nI m) o2.2.1 o2.2.2).bind fun o4 => X o4 o2.2.1 o2.2.2) = X (nI (Vr (Gn T Im) P m c)) I' Jm) ∧ (∀ r, r ≠ 192 → I' r = I r) ∧ (∀ k, k < m → I' 192 k = nI (dt8 c m k)) ∧ Vr (Gn T Im) P m c ≤ 400 := by
  have hP := h.1.2.1
  obtain ⟨r1, r2, r3, r4⟩ := hr
  obtain ⟨I', g1, g2, g3⟩ := isRing_m (Jm := Jm) (I := I) (n := n) hn hP (by rw [r2 2 (by omega)]; exact h.1.2.2.2.2.2) hc hm
  have e1 : ∀ r, r ≠ 167 → r ≠ 192 → r ≠ 193 → I' r = Im r := fun r h1 h2 h3 => by rw [g2 r h2, r1 r h1 h2 h3]
  have hI : rLf T P N 26 29 Ic I' := h.fm (fun r h1 h2 => e1 r h1 (by omega) (by omega)) (fun k h1 h2 => by rw [g2 167 (by omega), r2 k h2])
  have hGn : Gn T I' = Gn T Im := Gn_row (e1 171 (by omega) (by omega) (by omega)) (e1 174 (by omega) (by omega) (by omega)) (e1 173 (by omega) (by omega) (by omega)) (e1 177 (by omega) (by omega) (by omega)) (e1 168 (by omega) (by omega) (by omega))
  have hofr : ∀ p, ofr T I' p = ofr T Im p := ofr_row (e1 171 (by omega) (by omega) (by omega)) (e1 174 (by omega) (by omega) (by omega)) (e1 173 (by omega) (by omega) (by omega)) (e1 177 (by omega) (by omega) (by omega))
  have hGP : ∀ p q, p < 8 → q < 8 → 0 < Gn T Im p q → q < P := fun p q hp hq hg => ofr_P h hq (Gn_pos hg).2
  have hck := ckB_iff (P := P) (c := c) (m := m) (b := decide (cnt (sS c m m) 8 = m)) (k := m)
  have hsc := (sS_cnt (c := c) (m := m) m (Nat.le_refl m)).2
  rw [Nat.sub_self] at hsc
  refine ⟨I', ?_, g2, g3, ?_⟩
  · intro α X
    rw [g1, Option.bind_some]
    dsimp only
    by_cases hk : ckB P c m (decide (cnt (sS c m m) 8 = m)) m = true
    · obtain ⟨k1, k2⟩ := hck.mp hk
      have k1 := hsc.mp (of_decide_eq_true k1)
      have k3 : ∀ k, k < m → dt8 c m k < P := fun k hk => (k2 k hk).1
      rw [hk, if_neg (show ¬ b01 true = 0 by decide)]
      have fin : f11_ringSum SZ n 167 (nI m) I' Jm = some (nI (Vr (Gn T Im) P m c)) := by
        unfold f11_ringSum
        by_cases ho : ∀ i, i < m → ¬ ofr T I' (dt8 c m i) = m1
        · rw [show f11_ringSum_4 SZ n n 167 (nI m) 0 0 I' Jm = _ from swaps_t hI hn hm g3 k3 n 0 (Nat.zero_le m) (by omega) (fun i _ hi => ho i hi)]
          by_cases hg : ∀ i, i < m → 0 < ga (Gn T I') c m i
          · rw [show f11_ringSum_32 SZ n n 167 (nI m) 0 0 I' Jm = _ from around_t hI hn hm g3 ho n 0 (Nat.zero_le m) (by omega) (fun i _ hi => hg i hi), hGn, Vr_all hm.1 (fun k hk l => k1 k (Nat.zero_le k) hk l) k2 (by rw [← hGn]; exact hg)]
          · have : ∃ i, i < m ∧ ga (Gn T I') c m i = 0 := Classical.byContradiction fun q => hg fun i hi => Nat.pos_of_ne_zero fun w => q ⟨i, hi, w⟩
            obtain ⟨i, hi, w⟩ := this
            rw [show f11_ringSum_32 SZ n n 167 (nI m) 0 0 I' Jm = _ from around_f hI hn hm g3 ho hi w n 0 0 (Nat.zero_le i) (by omega), Vr_not hm.1 hGP (fun q => hg (by rw [hGn]; exact q.2.2))]
            rfl
        · have : ∃ i, i < m ∧ ofr T I' (dt8 c m i) = m1 := Classical.byContradiction fun q => ho fun i hi w => q ⟨i, hi, w⟩
          obtain ⟨i, hi, w⟩ := this
          rw [show f11_ringSum_4 SZ n n 167 (nI m) 0 0 I' Jm = _ from swaps_f hI hn hm g3 k3 hi w n 0 (Nat.zero_le i) (by omega), Vr_not hm.1 hGP (fun q => (Gn_pos (q.2.2 i hi)).1 (by rw [← hofr]; exact w))]
          rfl
      rw [fin, Option.bind_some]
    · have hk' : ckB P c m (decide (cnt (sS c m m) 8 = m)) m = false := eq_false_of_ne_true hk
      rw [hk', if_pos (show b01 false = 0 by decide), Vr_not hm.1 hGP (fun q => hk (hck.mpr ⟨decide_eq_true (hsc.mpr fun k _ hk l => q.1 k hk l), q.2.1⟩))]
      rfl
  · unfold Vr
    split
    · split
      · have := Sm_le h (c := c) (j := m) hm.2
        have := Gn_le h (p := dt8 c m (m - 1)) (q := dt8 c m 0) (dt8_lt _ _ _)
        omega
      · omega
    · omega
theorem copy_m {n m : Nat} (hm : m ≤ 4) {v1 v2 v4 : Int32} {rec12 : Nat → Int32 → Int32 → Int32 → mm_I → mm_J → Option (Int32 × mm_I × mm_J)} {rec25 : Nat → Int32 → Int32 → Int32 → Int32 → mm_I → mm_J → Option (Int32 × mm_I × mm_J)} : ∀ (d k : Nat) (I I1 : mm_I), k ≤ m → m < k + d → (∀ r, r ≠ 193 → I r = I1 r) → (∀ q, q < k → I 193 q = I1 192 q) → ∃ I', f11_findRing_69 SZ n rec12 rec25 d 167 v1 v2 (nI m) v4 (nI k) I Jm = rec25 167 v1 v2 (nI m) (v4 + 1) I' Jm ∧ (∀ r, r ≠ 193 → I' r = I1 r) ∧ ∀ q, q < m → I' 193 q = I1 192 q := by
  intro d
  induction d with
  | zero => intro k I I1 h1 h2; omega
  | succ d ih =>
    intro k I I1 h1 h2 i1 i2
    have cS : f11_findRing_69 SZ n rec12 rec25 (d + 1) 167 v1 v2 (nI m) v4 (nI k) I Jm = f11_findRing_69_b SZ n rec12 rec25 (f11_findRing_69 SZ n rec12 rec25 d) 167 v1 v2 (nI m) v4 (nI k) I Jm := rfl
    rw [cS]
    unfold f11_findRing_69_b f11_findRing_95
    by_cases c : k = m
    · subst c
      rw [if_pos (nI_le (Nat.le_refl k) (by omega))]
      exact ⟨I, rfl, i1, i2⟩
    · have hk : k < m := by omega
      have ib : mm_inb (nI k) (mm_al SZ (mm_rf SZ 167 45)) = true := by simp (disch := omega) only [↓M1, ↓ofNat_nI, L0, L1, L2, L3, L4, L5, L6, L7, L8, L9, L10, L12, L31, L32, L40, L48, L50, L99, L100, L120, L180, L256, L500, n_lt0, n_ge0, n_let, n_lef, n_ltt, n_ltf, n_eqt, n_eqf, m_lt, m_le, m_eq, m_eq2, m_le2, m_lt2, m_nle, m_nlt, if_true, if_false, eq_self, Option.bind_some, mb0, mb1, mbb, mbn0, mbn1, not_true, not_false_eq_true, reduceIte, Bool.false_eq_true, nI_add, nI_clamp, pk_mul, in_t, in_f, in_m, zr, za, at_SZ, put_SZ, rd_at, wr_at, rd_m, wr_m]
      have ib2 : mm_inb (nI k) (mm_al SZ (mm_rf SZ 167 46)) = true := by simp (disch := omega) only [↓M1, ↓ofNat_nI, L0, L1, L2, L3, L4, L5, L6, L7, L8, L9, L10, L12, L31, L32, L40, L48, L50, L99, L100, L120, L180, L256, L500, n_lt0, n_ge0, n_let, n_lef, n_ltt, n_ltf, n_eqt, n_eqf, m_lt, m_le, m_eq, m_eq2, m_le2, m_lt2, m_nle, m_nlt, if_true, if_false, eq_self, Option.bind_some, mb0, mb1, mbb, mbn0, mbn1, not_true, not_false_eq_true, reduceIte, Bool.false_eq_true, nI_add, nI_clamp, pk_mul, in_t, in_f, in_m, zr, za, at_SZ, put_SZ, rd_at, wr_at, rd_m, wr_m]
      obtain ⟨I', g1, g2, g3⟩ := ih (k + 1) (mm_up I 193 k (I 192 k)) I1 (by omega) (by omega) (fun r hr => by rw [mm_up_o hr]; exact i1 r hr) (fun q hq => by
        by_cases e : q = k
        · subst e; rw [up_s2, i1 192 (by omega)]
        · rw [up_o2 (by omega)]; exact i2 q (by omega))
      refine ⟨I', ?_, g2, g3⟩
      rw [if_neg (nI_ge hk (by omega)), if_pos ib, if_pos ib2, show mm_rf SZ 167 45 = 192 by simp (disch := omega) only [↓M1, ↓ofNat_nI, L0, L1, L2, L3, L4, L5, L6, L7, L8, L9, L10, L12, L31, L32, L40, L48, L50, L99, L100, L120, L180, L256, L500, n_lt0, n_ge0, n_let, n_lef, n_ltt, n_ltf, n_eqt, n_eqf, m_lt, m_le, m_eq, m_eq2, m_le2, m_lt2, m_nle, m_nlt, if_true, if_false, eq_self, Option.bind_some, mb0, mb1, mbb, mbn0, mbn1, not_true, not_false_eq_true, reduceIte, Bool.false_eq_true, nI_add, nI_clamp, pk_mul, in_t, in_f, in_m, zr, za, at_SZ, put_SZ, rd_at, wr_at, rd_m, wr_m], show mm_rf SZ 167 46 = 193 by simp (disch := omega) only [↓M1, ↓ofNat_nI, L0, L1, L2, L3, L4, L5, L6, L7, L8, L9, L10, L12, L31, L32, L40, L48, L50, L99, L100, L120, L180, L256, L500, n_lt0, n_ge0, n_let, n_lef, n_ltt, n_ltf, n_eqt, n_eqf, m_lt, m_le, m_eq, m_eq2, m_le2, m_lt2, m_nle, m_nlt, if_true, if_false, eq_self, Option.bind_some, mb0, mb1, mbb, mbn0, mbn1, not_true, not_false_eq_true, reduceIte, Bool.false_eq_true, nI_add, nI_clamp, pk_mul, in_t, in_f, in_m, zr, za, at_SZ, put_SZ, rd_at, wr_at, rd_m, wr_m], nI_clamp (by omega), nI_1]
      exact g1
theorem codes_loop {n m L : Nat} (h : rLf T P N 26 29 Ic Im) (hn : 9 ≤ n) (hm : 2 ≤ m ∧ m ≤ 4) (hL : L ≤ 4096) {rec12 : Nat → Int32 → Int32 → Int32 → mm_I → mm_J → Option (Int32 × mm_I × mm_J)} : ∀ (d c : Nat) (I : mm_I) (b : Nat × Nat × Nat), c ≤ L → L < c + d → mr Im I b → b.1 ≤ 400 → ∃ I', f11_findRing_25 SZ n rec12 d 167 (nI b.1) (nI L) (nI m) (nI c) I Jm = rec12 167 (nI (foR (Gn T Im) P m c (L - c) b).1) (nI L) (nI (m + 1)) I' Jm ∧ mr Im I' (foR (Gn T Im) P m c (L - c) b) ∧ (foR (Gn T Im) P m c (L - c) b).1 ≤ 400 := by
  intro d
  induction d with
  | zero => intro c I b h1 h2; omega
  | succ d ih =>
    intro c I b h1 h2 hr hb
    have cS : f11_findRing_25 SZ n rec12 (d + 1) 167 (nI b.1) (nI L) (nI m) (nI c) I Jm = f11_findRing_25_b SZ n rec12 (f11_findRing_25 SZ n rec12 d) 167 (nI b.1) (nI L) (nI m) (nI c) I Jm := rfl
    rw [cS]
    unfold f11_findRing_25_b
    by_cases e : c = L
    · subst e
      rw [if_pos (nI_le (Nat.le_refl c) (by omega)), Nat.sub_self, nI_1]
      exact ⟨I, rfl, hr, hb⟩
    · have hc : c < L := by omega
      obtain ⟨I1, k1, k2, k3, k4⟩ := code_m (Jm := Jm) (n := n) (c := c) (m := m) h hr hn (by omega) hm
      have hsp : foR (Gn T Im) P m c (L - c) b = foR (Gn T Im) P m (c + 1) (L - (c + 1)) (upR (Gn T Im) P m c b) := by
        rw [show L - c = 1 + (L - (c + 1)) by omega, foR_add]
        rfl
      rw [if_neg (nI_ge hc (by omega)), hsp]
      suffices key : ∃ I', f11_findRing_50 SZ n rec12 (f11_findRing_25 SZ n rec12 d) 167 (nI b.1) (nI L) (nI m) (nI c) (nI (Vr (Gn T Im) P m c)) I1 Jm = rec12 167 (nI (foR (Gn T Im) P m (c + 1) (L - (c + 1)) (upR (Gn T Im) P m c b)).1) (nI L) (nI (m + 1)) I' Jm ∧ mr Im I' (foR (Gn T Im) P m (c + 1) (L - (c + 1)) (upR (Gn T Im) P m c b)) ∧ (foR (Gn T Im) P m (c + 1) (L - (c + 1)) (upR (Gn T Im) P m c b)).1 ≤ 400 by
        obtain ⟨I', w1, w2⟩ := key
        exact ⟨I', (k1 _ (fun s0 I J => f11_findRing_50 SZ n rec12 (f11_findRing_25 SZ n rec12 d) 167 (nI b.1) (nI L) (nI m) (nI c) s0 I J)).trans w1, w2⟩
      unfold f11_findRing_50 f11_findRing_95 upR
      obtain ⟨r1, r2, r3, r4⟩ := hr
      by_cases cv : b.1 < Vr (Gn T Im) P m c
      · rw [if_neg (nI_ge cv (by omega)), if_pos cv]
        obtain ⟨I2, u1, u2, u3⟩ := copy_m (Jm := Jm) (n := n) (m := m) hm.2 (v1 := nI (Vr (Gn T Im) P m c)) (v2 := nI L) (v4 := nI c) (rec12 := rec12) (rec25 := f11_findRing_25 SZ n rec12 d) n 0 (mm_up I1 167 47 (nI m)) (mm_up I1 167 47 (nI m)) (Nat.zero_le m) (by omega) (fun _ _ => rfl) (fun q hq => absurd hq (Nat.not_lt_zero q))
        have hr2 : mr Im I2 (Vr (Gn T Im) P m c, m, c) := ⟨fun r h1 h2 h3 => by rw [u2 r h3, mm_up_o h1, k2 r h2, r1 r h1 h2 h3], fun k hk => by rw [u2 167 (by omega), up_o2 (by omega), k2 167 (by omega), r2 k hk], by rw [u2 167 (by omega), up_s2], fun k hk => by
          have hk : k < m := hk
          rw [u3 k hk, up_o2 (by omega)]
          exact k3 k hk⟩
        obtain ⟨I', g1, g2⟩ := ih (c + 1) I2 _ (by omega) (by omega) hr2 k4
        refine ⟨I', ?_, g2⟩
        refine u1.trans ?_
        rw [nI_1]
        exact g1
      · rw [if_pos (nI_le (by omega) (by omega)), if_neg cv, nI_1]
        exact ih (c + 1) I1 b (by omega) (by omega) ⟨fun r h1 h2 h3 => by rw [k2 r h2, r1 r h1 h2 h3], fun k hk => by rw [k2 167 (by omega), r2 k hk], by rw [k2 167 (by omega)]; exact r3, fun k hk => by rw [k2 193 (by omega)]; exact r4 k hk⟩ hb
theorem find_m {n : Nat} (h : rLf T P N 26 29 Ic Im) (hn : 5000 ≤ n) : ∃ I', f11_findRing SZ n 167 Im Jm = some (nI (bst (Gn T Im) P).1, I', Jm) ∧ mr Im I' (bst (Gn T Im) P) := by
  obtain ⟨n', hn'⟩ : ∃ n', n = n' + 4 := ⟨n - 4, by omega⟩
  have r0 : mr Im (mm_up Im 167 47 0) (0, 0, 0) := ⟨fun r h1 _ _ => mm_up_o h1, fun k hk => up_o2 (by omega), up_s2, fun k hk => absurd hk (Nat.not_lt_zero k)⟩
  obtain ⟨I2, a1, a2, a3⟩ := codes_loop (Jm := Jm) (n := n) (m := 2) (L := 64) h (by omega) ⟨by omega, by omega⟩ (by omega) (rec12 := f11_findRing_12 SZ n (n' + 3)) n 0 _ _ (Nat.zero_le 64) (by omega) r0 (Nat.zero_le 400)
  obtain ⟨I3, b1, b2, b3⟩ := codes_loop (Jm := Jm) (n := n) (m := 3) (L := 512) h (by omega) ⟨by omega, by omega⟩ (by omega) (rec12 := f11_findRing_12 SZ n (n' + 2)) n 0 I2 _ (Nat.zero_le 512) (by omega) a2 a3
  obtain ⟨I4, c1, c2, c3⟩ := codes_loop (Jm := Jm) (n := n) (m := 4) (L := 4096) h (by omega) ⟨by omega, by omega⟩ (by omega) (rec12 := f11_findRing_12 SZ n (n' + 1)) n 0 I3 _ (Nat.zero_le 4096) (by omega) b2 b3
  have s12 : ∀ k m L v I, (m = 2 ∨ m = 3 ∨ m = 4) → L ≤ 512 → f11_findRing_12 SZ n (k + 1) 167 v (nI L) (nI m) I Jm = f11_findRing_25 SZ n (f11_findRing_12 SZ n k) n 167 v (nI (L * 8)) (nI m) 0 I Jm := fun k m L v I hm hL => by
    show f11_findRing_12_b SZ n (f11_findRing_12 SZ n k) 167 v (nI L) (nI m) I Jm = _
    unfold f11_findRing_12_b
    rw [if_neg (show ¬ (4 : Int32) < nI m from nI_nlt (b := m) (a := 4) (by omega) (by omega)), show nI L * 8 = nI (L * 8) from pk_mul _ _]
  refine ⟨I4, ?_, c2⟩
  have e0 : f11_findRing SZ n 167 Im Jm = f11_findRing_12 SZ n (n' + 3 + 1) 167 0 (nI 8) (nI 2) (mm_up Im 167 47 0) Jm := by
    unfold f11_findRing
    have : ∀ q, q = n' + 4 → f11_findRing_12 SZ n q 167 0 8 2 (mm_up Im 167 47 0) Jm = f11_findRing_12 SZ n (n' + 3 + 1) 167 0 (nI 8) (nI 2) (mm_up Im 167 47 0) Jm := fun q hq => by subst hq; rfl
    exact this n hn'
  rw [e0, s12 _ 2 8 _ _ (by omega) (by omega), show f11_findRing_25 SZ n (f11_findRing_12 SZ n (n' + 3)) n 167 0 (nI (8 * 8)) (nI 2) 0 (mm_up Im 167 47 0) Jm = _ from a1, show n' + 3 = (n' + 2) + 1 from rfl, s12 _ 3 64 _ _ (by omega) (by omega), show f11_findRing_25 SZ n (f11_findRing_12 SZ n (n' + 2)) n 167 _ (nI (64 * 8)) (nI 3) 0 I2 Jm = _ from b1, show n' + 2 = (n' + 1) + 1 from rfl, s12 _ 4 512 _ _ (by omega) (by omega), show f11_findRing_25 SZ n (f11_findRing_12 SZ n (n' + 1)) n 167 _ (nI (512 * 8)) (nI 4) 0 I3 Jm = _ from c1]
  show f11_findRing_12_b SZ n (f11_findRing_12 SZ n n') 167 _ (nI 4096) (nI 5) I4 Jm = _
  unfold f11_findRing_12_b
  rw [if_pos (show (4 : Int32) < nI 5 by decide)]
  rfl
end RNG
theorem st_ring : St_ring Inv := by
  intro k hk a I J h
  have h0 := h
  obtain ⟨T, P, hA⟩ := h
  refine ⟨5000, ?_⟩
  show ∃ o1 o2, f10_ring SZ 5000 0 a I J = some o1 ∧ (fun I J => f11_ring SZ 5000 167 a I J) o1.2.1 o1.2.2 = some o2 ∧ o1.1 = o2.1 ∧ Inv (k + 1) o2.2.1 o2.2.2
  rcases bnd_cases 0 5 (by decide) (by decide) a with hb | ⟨q, q1, q2, rfl, hb⟩
  · refine ⟨(-1000000002, I, J), (-1000000002, I, J), ?_, ?_, rfl, Inv_mono k I J h0⟩
    · unfold f10_ring
      rw [show f10_within SZ a 0 5 I J = _ from cWi (lo := 0) (hi := 5), hb]
      rfl
    · show f11_ring SZ 5000 167 a I J = _
      unfold f11_ring
      rw [show f11_in SZ a.toInt64 0 5 I J = _ from mWi (lo := 0) (hi := 5) (by decide) (by decide), hb]
      rfl
  · refine two2 (J := J) hA (fun Im hB => ?_)
    obtain ⟨I', c1, c2, c3, c4, c5, c6⟩ := search_c (Jc := J) (n := 5000) (by omega) hB.lf
    obtain ⟨B', m1', m2', m3', m4', m5'⟩ := find_m (Jm := J) (n := 5000) hB.lf (by omega)
    have fin : rAll T P (100 * (k + 1)) I' B' := hB.scr (by omega) (fun r hr => c2 r (by omega)) (fun r h1 h2 => m2' r (by omega) (by omega) (by omega)) (fun q h1 h2 => m3' q h2)
    have g1 : ∀ r, 167 ≤ r → I' r = I r := fun r hr => c2 r (by omega)
    have g2 : ∀ r, r < 167 → B' r = Im r := fun r hr => m2' r (by omega) (by omega) (by omega)
    have hC : ∀ r, (if nI q = 0 then some (I' 158 5, I', J) else (if nI q = 1 then some (I' 158 6, I', J) else (if I' 158 6 ≤ nI q - 2 then some (-1, I', J) else ((f6_at SZ (mm_rf SZ 158 4) (nI q - 2) I' J).bind fun o7 => some (o7, I', J))))) = some (r, I', J) → f10_ring SZ 5000 0 (nI q) I J = some (r, I', J) := fun r hr => by
      unfold f10_ring f10_ring_74
      rw [show f10_within SZ (nI q) 0 5 I J = _ from cWi (lo := 0) (hi := 5), hb, Option.bind_some, if_neg (show ¬ b01 true = 0 by decide), show mm_rf SZ 0 18 = 158 by simp (disch := omega) only [↓M1, ↓ofNat_nI, L0, L1, L2, L3, L4, L5, L6, L7, L8, L9, L10, L12, L31, L32, L40, L48, L50, L99, L100, L120, L180, L256, L500, n_lt0, n_ge0, n_let, n_lef, n_ltt, n_ltf, n_eqt, n_eqf, m_lt, m_le, m_eq, m_eq2, m_le2, m_lt2, m_nle, m_nlt, if_true, if_false, eq_self, Option.bind_some, mb0, mb1, mbb, mbn0, mbn1, not_true, not_false_eq_true, reduceIte, Bool.false_eq_true, nI_add, nI_clamp, pk_mul, in_t, in_f, in_m, zr, za, at_SZ, put_SZ, rd_at, wr_at, rd_m, wr_m], c1, Option.bind_some]
      exact hr
    have hM : ∀ r, (if nI q = 0 then some (nI (bst (Gn T Im) P).1, B', J) else (if nI q = 1 then some (B' 167 47, B', J) else (if B' 167 47 ≤ nI q - 2 then some (-1, B', J) else (if mm_inb (nI q - 2) (mm_al SZ (mm_rf SZ 167 46)) = true then some (B' (mm_rf SZ 167 46) (nI q - 2).toNatClampNeg, B', J) else none)))) = some (r, B', J) → f11_ring SZ 5000 167 (nI q) Im J = some (r, B', J) := fun r hr => by
      unfold f11_ring f11_ring_62
      rw [show f11_in SZ (nI q).toInt64 0 5 Im J = _ from mWi (lo := 0) (hi := 5) (by decide) (by decide), hb, Option.bind_some, if_neg (show ¬ b01 true = 0 by decide), m1', Option.bind_some]
      exact hr
    generalize bst (Gn T Im) P = bb at *
    by_cases e0 : q = 0
    · subst e0
      exact ⟨nI bb.1, I', B', hC _ (by rw [if_pos (show nI 0 = 0 from rfl), c3]), hM _ (if_pos rfl), g1, g2, fin⟩
    · have n0 : ¬ nI q = 0 := nI_ne0 (by omega) (by omega)
      by_cases e1 : q = 1
      · subst e1
        exact ⟨nI bb.2.1, I', B', hC _ (by rw [if_neg n0, if_pos (show nI 1 = 1 from rfl), c4]), hM _ (by rw [if_neg n0, if_pos (show nI 1 = 1 from rfl), m4']), g1, g2, fin⟩
      · have n1 : ¬ nI q = 1 := fun w => e1 ((nI_eq (a := q) (b := 1) (by omega) (by omega)).mp w)
        have e2 : nI q - 2 = nI (q - 2) := pk_sub (b := 2) (by omega)
        by_cases cq : bb.2.1 ≤ q - 2
        · exact ⟨-1, I', B', hC _ (by rw [if_neg n0, if_neg n1, e2, c4, if_pos (nI_le cq (by omega))]), hM _ (by rw [if_neg n0, if_neg n1, e2, m4', if_pos (nI_le cq (by omega))]), g1, g2, fin⟩
        · have ib : mm_inb (nI (q - 2)) (mm_al SZ (mm_rf SZ 167 46)) = true := by simp (disch := omega) only [↓M1, ↓ofNat_nI, L0, L1, L2, L3, L4, L5, L6, L7, L8, L9, L10, L12, L31, L32, L40, L48, L50, L99, L100, L120, L180, L256, L500, n_lt0, n_ge0, n_let, n_lef, n_ltt, n_ltf, n_eqt, n_eqf, m_lt, m_le, m_eq, m_eq2, m_le2, m_lt2, m_nle, m_nlt, if_true, if_false, eq_self, Option.bind_some, mb0, mb1, mbb, mbn0, mbn1, not_true, not_false_eq_true, reduceIte, Bool.false_eq_true, nI_add, nI_clamp, pk_mul, in_t, in_f, in_m, zr, za, at_SZ, put_SZ, rd_at, wr_at, rd_m, wr_m]
          refine ⟨nI (dt8 bb.2.2 bb.2.1 (q - 2)), I', B', hC _ ?_, hM _ ?_, g1, g2, fin⟩
          · rw [if_neg n0, if_neg n1, e2, c4, if_neg (nI_ge (by omega) (by omega)), show f6_at SZ (mm_rf SZ 158 4) (nI (q - 2)) I' J = some (nI (dt8 bb.2.2 bb.2.1 (q - 2))) from by simp (disch := omega) only [↓M1, ↓ofNat_nI, L0, L1, L2, L3, L4, L5, L6, L7, L8, L9, L10, L12, L31, L32, L40, L48, L50, L99, L100, L120, L180, L256, L500, n_lt0, n_ge0, n_let, n_lef, n_ltt, n_ltf, n_eqt, n_eqf, m_lt, m_le, m_eq, m_eq2, m_le2, m_lt2, m_nle, m_nlt, if_true, if_false, eq_self, Option.bind_some, mb0, mb1, mbb, mbn0, mbn1, not_true, not_false_eq_true, reduceIte, Bool.false_eq_true, nI_add, nI_clamp, pk_mul, in_t, in_f, in_m, zr, za, at_SZ, put_SZ, rd_at, wr_at, rd_m, wr_m, c6 (q - 2) (by omega)], Option.bind_some]
          · rw [if_neg n0, if_neg n1, e2, m4', if_neg (nI_ge (by omega) (by omega)), if_pos ib, show mm_rf SZ 167 46 = 193 by simp (disch := omega) only [↓M1, ↓ofNat_nI, L0, L1, L2, L3, L4, L5, L6, L7, L8, L9, L10, L12, L31, L32, L40, L48, L50, L99, L100, L120, L180, L256, L500, n_lt0, n_ge0, n_let, n_lef, n_ltt, n_ltf, n_eqt, n_eqf, m_lt, m_le, m_eq, m_eq2, m_le2, m_lt2, m_nle, m_nlt, if_true, if_false, eq_self, Option.bind_some, mb0, mb1, mbb, mbn0, mbn1, not_true, not_false_eq_true, reduceIte, Bool.false_eq_true, nI_add, nI_clamp, pk_mul, in_t, in_f, in_m, zr, za, at_SZ, put_SZ, rd_at, wr_at, rd_m, wr_m], nI_clamp (by omega), m5' (q - 2) (by omega)]
