/-! ===== part 61: the class gives trades; the plan solved (written by wip/whole/pre.py) ===== -/
theorem lst_cases (w : Nat → Nat) (c E : Nat → Nat) (s : Nat) : ∀ k, lst w c E s k = E s ∨ ∃ t, t < k ∧ lst w c E s k = gv w c E s t
  | 0 => Or.inl rfl
  | k + 1 => by
    have e : lst w c E s (k + 1) = min (lst w c E s k) (gv w c E s k) := rfl
    rw [e]
    rcases Nat.le_total (lst w c E s k) (gv w c E s k) with h | h
    · rw [Nat.min_eq_left h]
      rcases lst_cases w c E s k with g | ⟨t, ht, g⟩
      · exact Or.inl g
      · exact Or.inr ⟨t, by omega, g⟩
    · rw [Nat.min_eq_right h]
      exact Or.inr ⟨k, by omega, rfl⟩
section GIV
variable (w : Nat → Nat) (T P : Nat) (Im : mm_I)
def hit (p s t : Nat) : Bool := decide (gv w (cst Im p) (EE w T P (cst Im) (P - 1 - p)) s t = EE w T P (cst Im) (P - p) s)
def rk (p s : Nat) : Nat := fstF (hit w T P Im p s) T T
def sqn : Nat → Nat
  | 0 => stp w T - 1
  | p + 1 => if rk w T P Im p (sqn p) < T then sqn p - stp w (rk w T P Im p (sqn p)) else sqn p
def gvn (p : Nat) : Int32 := if rk w T P Im p (sqn w T P Im p) < T then nI (rk w T P Im p (sqn w T P Im p)) else m1
variable {w T P Im}
theorem EE_suc {p : Nat} (hp : p < P) (s : Nat) : EE w T P (cst Im) (P - p) s = lst w (cst Im p) (EE w T P (cst Im) (P - 1 - p)) s T := by
  rw [show P - p = (P - 1 - p) + 1 by omega]
  show lst w (cst Im (P - 1 - (P - 1 - p))) _ s T = _
  rw [show P - 1 - (P - 1 - p) = p by omega]
theorem hit_dg {p s t : Nat} (h : hit w T P Im p s t = true) (hE : EE w T P (cst Im) (P - p) s < mM) : stp w t ≤ s ∧ EE w T P (cst Im) (P - 1 - p) (s - stp w t) < mM := by
  have h : gv w (cst Im p) (EE w T P (cst Im) (P - 1 - p)) s t = EE w T P (cst Im) (P - p) s := of_decide_eq_true h
  rw [← h] at hE
  unfold gv at hE
  by_cases c : dg w s t = 0
  · rw [if_pos c] at hE
    omega
  · rw [if_neg c] at hE
    obtain ⟨g, -, -⟩ := dg_sub w (Nat.pos_of_ne_zero c)
    exact ⟨g, by omega⟩
theorem sq_ok (h : EE w T P (cst Im) P (stp w T - 1) < mM) : ∀ p, p ≤ P → sqn w T P Im p < stp w T ∧ EE w T P (cst Im) (P - p) (sqn w T P Im p) < mM
  | 0, _ => ⟨by have := stp_pos w T; show stp w T - 1 < stp w T; omega, by rw [Nat.sub_zero]; exact h⟩
  | p + 1, hp => by
    obtain ⟨h1, h2⟩ := sq_ok h p (by omega)
    show (if rk w T P Im p (sqn w T P Im p) < T then sqn w T P Im p - stp w (rk w T P Im p (sqn w T P Im p)) else sqn w T P Im p) < stp w T ∧ EE w T P (cst Im) (P - (p + 1)) (if rk w T P Im p (sqn w T P Im p) < T then sqn w T P Im p - stp w (rk w T P Im p (sqn w T P Im p)) else sqn w T P Im p) < mM
    rw [show P - (p + 1) = P - 1 - p by omega]
    by_cases c : rk w T P Im p (sqn w T P Im p) < T
    · rw [if_pos c]
      obtain ⟨g1, g2⟩ := hit_dg (fstF_t c) h2
      exact ⟨by omega, g2⟩
    · rw [if_neg c]
      refine ⟨h1, ?_⟩
      have hT : rk w T P Im p (sqn w T P Im p) = T := by
        have := fstF_le (hit w T P Im p (sqn w T P Im p)) T T
        have e : rk w T P Im p (sqn w T P Im p) = fstF (hit w T P Im p (sqn w T P Im p)) T T := rfl
        omega
      rcases lst_cases w (cst Im p) (EE w T P (cst Im) (P - 1 - p)) (sqn w T P Im p) T with g | ⟨t, ht, g⟩
      · rw [← g, ← EE_suc (by omega)]
        exact h2
      · have := fstF_f (Nat.le_refl T) hT t (by omega) ht
        have this : decide (gv w (cst Im p) (EE w T P (cst Im) (P - 1 - p)) (sqn w T P Im p) t = EE w T P (cst Im) (P - p) (sqn w T P Im p)) = false := this
        rw [decide_eq_false_iff_not, EE_suc (by omega)] at this
        exact absurd g.symm this
variable {N : Nat} {Jc : mm_J}
/-- the rows of sums stand -/
def rows (w : Nat → Nat) (T P : Nat) (Im I : mm_I) : Prop := ∀ p', p' ≤ P → ∀ s, s < stp w T → I 155 (p' * stp w T + s) = nI (EE w T P (cst Im) (P - p') s)
theorem give_in {I : mm_I} {n p s : Nat} {rec9 : Nat → Int32 → Int32 → mm_I → mm_J → Option (mm_I × mm_J)} (h : pS T P N w Im I) (row : rows w T P Im I) (hp : p < P) (hs : s < stp w T) : ∀ (e d : Nat), e ≤ T → e < d → f3_giveTrades_39 SZ n rec9 d 149 (nI s) (nI p) (nI (EE w T P (cst Im) (P - p) s)) (nI (T - e)) I Jc = f3_giveTrades_69 SZ n rec9 149 (nI s) (nI p) (nI (fstF (hit w T P Im p s) T e)) I Jc := by
  intro e
  induction e with
  | zero =>
    intro d h1 h2
    obtain ⟨d', rfl⟩ : ∃ d', d = d' + 1 := ⟨d - 1, by omega⟩
    have hT := h.1.1.1.1
    show f3_giveTrades_39_b SZ n rec9 (f3_giveTrades_39 SZ n rec9 d') 149 (nI s) (nI p) (nI (EE w T P (cst Im) (P - p) s)) (nI (T - 0)) I Jc = _
    unfold f3_giveTrades_39_b
    rw [show mm_rf SZ 149 0 = 4 by simp (disch := omega) only [↓M1, ↓ofNat_nI, L0, L1, L2, L3, L4, L5, L6, L7, L8, L9, L10, L12, L31, L32, L40, L48, L50, L99, L100, L120, L180, L256, L500, n_lt0, n_ge0, n_let, n_lef, n_ltt, n_ltf, n_eqt, n_eqf, m_lt, m_le, m_eq, m_eq2, m_le2, m_lt2, m_nle, m_nlt, if_true, if_false, eq_self, Option.bind_some, mb0, mb1, mbb, mbn0, mbn1, not_true, not_false_eq_true, reduceIte, Bool.false_eq_true, nI_add, nI_clamp, pk_mul, in_t, in_f, in_m, zr, za, at_SZ, put_SZ, rd_at, wr_at, rd_m, wr_m], h.1.1.1.2.2.1, Nat.sub_zero, if_pos (nI_le (Nat.le_refl T) (by omega))]
    rfl
  | succ e ih =>
    intro d h1 h2
    obtain ⟨d', rfl⟩ : ∃ d', d = d' + 1 := ⟨d - 1, by omega⟩
    have hT := h.1.1.1.1
    have eM := mMe
    have hg := gv_le w (cst Im p) (EE w T P (cst Im) (P - 1 - p)) s (T - (e + 1))
    have hE := EE_le w T P (cst Im) (P - p) s
    have ih' := ih d' (by omega) (by omega)
    show f3_giveTrades_39_b SZ n rec9 (f3_giveTrades_39 SZ n rec9 d') 149 (nI s) (nI p) (nI (EE w T P (cst Im) (P - p) s)) (nI (T - (e + 1))) I Jc = f3_giveTrades_69 SZ n rec9 149 (nI s) (nI p) (nI (if hit w T P Im p s (T - (e + 1)) = true then T - (e + 1) else fstF (hit w T P Im p s) T e)) I Jc
    unfold f3_giveTrades_39_b
    rw [show mm_rf SZ 149 0 = 4 by simp (disch := omega) only [↓M1, ↓ofNat_nI, L0, L1, L2, L3, L4, L5, L6, L7, L8, L9, L10, L12, L31, L32, L40, L48, L50, L99, L100, L120, L180, L256, L500, n_lt0, n_ge0, n_let, n_lef, n_ltt, n_ltf, n_eqt, n_eqf, m_lt, m_le, m_eq, m_eq2, m_le2, m_lt2, m_nle, m_nlt, if_true, if_false, eq_self, Option.bind_some, mb0, mb1, mbb, mbn0, mbn1, not_true, not_false_eq_true, reduceIte, Bool.false_eq_true, nI_add, nI_clamp, pk_mul, in_t, in_f, in_m, zr, za, at_SZ, put_SZ, rd_at, wr_at, rd_m, wr_m], h.1.1.1.2.2.1, if_neg (nI_ge (by omega) (by omega)), sum_c h hp (show T - (e + 1) < T by omega) hs (EE_le w T P (cst Im) (P - 1 - p)) (fun s' hs' => by rw [row (p + 1) (by omega) s' hs', show P - (p + 1) = P - 1 - p by omega]), Option.bind_some]
    by_cases c : gv w (cst Im p) (EE w T P (cst Im) (P - 1 - p)) s (T - (e + 1)) = EE w T P (cst Im) (P - p) s
    · rw [if_pos (by rw [c]), if_pos (show hit w T P Im p s (T - (e + 1)) = true from decide_eq_true c)]
    · rw [if_neg (fun q => c ((nI_eq (by omega) (by omega)).mp q)), if_neg (show ¬ hit w T P Im p s (T - (e + 1)) = true from fun q => c (of_decide_eq_true q)), nI_1, show T - (e + 1) + 1 = T - e by omega]
      exact ih'
theorem give_out {n : Nat} (hn : 9 ≤ n) (hE : EE w T P (cst Im) P (stp w T - 1) < mM) : ∀ (d p : Nat) (I : mm_I), p ≤ P → P < p + d → pS T P N w Im I → rows w T P Im I → (∀ q, q < p → I 157 q = gvn w T P Im q) → (∀ q, p ≤ q → q < 8 → I 157 q = m1) → ∃ I', f3_giveTrades_9 SZ n d 149 (nI (sqn w T P Im p)) (nI p) I Jc = some (I', Jc) ∧ (∀ r, r ≠ 157 → I' r = I r) ∧ ∀ q, q < P → I' 157 q = gvn w T P Im q := by
  intro d
  induction d with
  | zero => intro k I h1 h2; omega
  | succ d ih =>
    intro p I h1 h2 h row i1 i2
    have hT := h.1.1.1.1
    have hP := h.1.1.1.2.1
    have e6 := h.1.1.1.2.2.2.2.1
    have cS : f3_giveTrades_9 SZ n (d + 1) 149 (nI (sqn w T P Im p)) (nI p) I Jc = f3_giveTrades_9_b SZ n (f3_giveTrades_9 SZ n d) 149 (nI (sqn w T P Im p)) (nI p) I Jc := rfl
    rw [cS]
    unfold f3_giveTrades_9_b
    rw [show mm_rf SZ 149 0 = 4 by simp (disch := omega) only [↓M1, ↓ofNat_nI, L0, L1, L2, L3, L4, L5, L6, L7, L8, L9, L10, L12, L31, L32, L40, L48, L50, L99, L100, L120, L180, L256, L500, n_lt0, n_ge0, n_let, n_lef, n_ltt, n_ltf, n_eqt, n_eqf, m_lt, m_le, m_eq, m_eq2, m_le2, m_lt2, m_nle, m_nlt, if_true, if_false, eq_self, Option.bind_some, mb0, mb1, mbb, mbn0, mbn1, not_true, not_false_eq_true, reduceIte, Bool.false_eq_true, nI_add, nI_clamp, pk_mul, in_t, in_f, in_m, zr, za, at_SZ, put_SZ, rd_at, wr_at, rd_m, wr_m], e6]
    by_cases c : p = P
    · subst c
      rw [if_pos (nI_le (Nat.le_refl p) (by omega))]
      exact ⟨I, rfl, fun _ _ => rfl, i1⟩
    · have hp : p < P := by omega
      obtain ⟨s1, s2⟩ := sq_ok hE p h1
      have hx := ix_lt (p := p) (by omega) h.S s1
      have hin := give_in (Jc := Jc) (n := n) (rec9 := f3_giveTrades_9 SZ n d) h row hp s1 T n (Nat.le_refl T) (by omega)
      rw [Nat.sub_self] at hin
      rw [if_neg (nI_ge hp (by omega)), h.2.2.1, pk_mul, nI_add, show f6_at SZ (mm_rf SZ 149 5) (nI (p * stp w T + sqn w T P Im p)) I Jc = some (nI (EE w T P (cst Im) (P - p) (sqn w T P Im p))) from by simp (disch := omega) only [↓M1, ↓ofNat_nI, L0, L1, L2, L3, L4, L5, L6, L7, L8, L9, L10, L12, L31, L32, L40, L48, L50, L99, L100, L120, L180, L256, L500, n_lt0, n_ge0, n_let, n_lef, n_ltt, n_ltf, n_eqt, n_eqf, m_lt, m_le, m_eq, m_eq2, m_le2, m_lt2, m_nle, m_nlt, if_true, if_false, eq_self, Option.bind_some, mb0, mb1, mbb, mbn0, mbn1, not_true, not_false_eq_true, reduceIte, Bool.false_eq_true, nI_add, nI_clamp, pk_mul, in_t, in_f, in_m, zr, za, at_SZ, put_SZ, rd_at, wr_at, rd_m, wr_m, row p h1 _ s1], Option.bind_some, show f3_giveTrades_39 SZ n (f3_giveTrades_9 SZ n d) n 149 (nI (sqn w T P Im p)) (nI p) (nI (EE w T P (cst Im) (P - p) (sqn w T P Im p))) 0 I Jc = _ from hin]
      have er : rk w T P Im p (sqn w T P Im p) = fstF (hit w T P Im p (sqn w T P Im p)) T T := rfl
      have hle := fstF_le (hit w T P Im p (sqn w T P Im p)) T T
      unfold f3_giveTrades_69 f3_giveTrades_103
      rw [← er] at hle ⊢
      rw [show mm_rf SZ 149 0 = 4 by simp (disch := omega) only [↓M1, ↓ofNat_nI, L0, L1, L2, L3, L4, L5, L6, L7, L8, L9, L10, L12, L31, L32, L40, L48, L50, L99, L100, L120, L180, L256, L500, n_lt0, n_ge0, n_let, n_lef, n_ltt, n_ltf, n_eqt, n_eqf, m_lt, m_le, m_eq, m_eq2, m_le2, m_lt2, m_nle, m_nlt, if_true, if_false, eq_self, Option.bind_some, mb0, mb1, mbb, mbn0, mbn1, not_true, not_false_eq_true, reduceIte, Bool.false_eq_true, nI_add, nI_clamp, pk_mul, in_t, in_f, in_m, zr, za, at_SZ, put_SZ, rd_at, wr_at, rd_m, wr_m], h.1.1.1.2.2.1]
      by_cases cr : rk w T P Im p (sqn w T P Im p) < T
      · obtain ⟨g1, -⟩ := hit_dg (fstF_t cr) s2
        rw [← er] at g1
        have e1 : sqn w T P Im (p + 1) = sqn w T P Im p - stp w (rk w T P Im p (sqn w T P Im p)) := if_pos cr
        have e2 : gvn w T P Im p = nI (rk w T P Im p (sqn w T P Im p)) := if_pos cr
        generalize rk w T P Im p (sqn w T P Im p) = r at *
        obtain ⟨I', k1, k2, k3⟩ := ih (p + 1) (mm_up I 157 p (nI r)) (by omega) (by omega) (h.up (Or.inr rfl)) (fun p' hp' s hs => by rw [up_o2 (by omega)]; exact row p' hp' s hs) (fun q hq => by
          by_cases e : q = p
          · subst e; rw [up_s2, e2]
          · rw [up_o2 (by omega)]; exact i1 q (by omega)) (fun q h3 h4 => by rw [up_o2 (by omega)]; exact i2 q (by omega) h4)
        refine ⟨I', ?_, fun r hr => by rw [k2 r hr, mm_up_o hr], k3⟩
        rw [if_neg (nI_ge cr (by omega)), show f6_put SZ (mm_rf SZ 149 6) (nI p) (nI r) I Jc = some (mm_up I 157 p (nI r), Jc) from by simp (disch := omega) only [↓M1, ↓ofNat_nI, L0, L1, L2, L3, L4, L5, L6, L7, L8, L9, L10, L12, L31, L32, L40, L48, L50, L99, L100, L120, L180, L256, L500, n_lt0, n_ge0, n_let, n_lef, n_ltt, n_ltf, n_eqt, n_eqf, m_lt, m_le, m_eq, m_eq2, m_le2, m_lt2, m_nle, m_nlt, if_true, if_false, eq_self, Option.bind_some, mb0, mb1, mbb, mbn0, mbn1, not_true, not_false_eq_true, reduceIte, Bool.false_eq_true, nI_add, nI_clamp, pk_mul, in_t, in_f, in_m, zr, za, at_SZ, put_SZ, rd_at, wr_at, rd_m, wr_m], Option.bind_some]
        dsimp only
        rw [show f6_at SZ (mm_rf SZ 149 3) (nI r) (mm_up I 157 p (nI r)) Jc = some (nI (stp w r)) from by simp (disch := omega) only [↓M1, ↓ofNat_nI, L0, L1, L2, L3, L4, L5, L6, L7, L8, L9, L10, L12, L31, L32, L40, L48, L50, L99, L100, L120, L180, L256, L500, n_lt0, n_ge0, n_let, n_lef, n_ltt, n_ltf, n_eqt, n_eqf, m_lt, m_le, m_eq, m_eq2, m_le2, m_lt2, m_nle, m_nlt, if_true, if_false, eq_self, Option.bind_some, mb0, mb1, mbb, mbn0, mbn1, not_true, not_false_eq_true, reduceIte, Bool.false_eq_true, nI_add, nI_clamp, pk_mul, in_t, in_f, in_m, zr, za, at_SZ, put_SZ, rd_at, wr_at, rd_m, wr_m, up_s2, up_o2, h.2.2.2.1 r cr], Option.bind_some, pk_sub g1, nI_1, ← e1]
        exact k1
      · have e1 : sqn w T P Im (p + 1) = sqn w T P Im p := if_neg cr
        have e2 : gvn w T P Im p = m1 := if_neg cr
        obtain ⟨I', k1, k2, k3⟩ := ih (p + 1) I (by omega) (by omega) h row (fun q hq => by
          by_cases e : q = p
          · subst e; rw [e2]; exact i2 q (Nat.le_refl q) (by omega)
          · exact i1 q (by omega)) (fun q h3 h4 => i2 q (by omega) h4)
        refine ⟨I', ?_, k2, k3⟩
        rw [if_pos (nI_le (by omega) (by omega)), nI_1, ← e1]
        exact k1
theorem cnt_ext {P : Nat → Bool} {n : Nat} : ∀ {m : Nat}, n ≤ m → (∀ k, n ≤ k → P k = false) → cnt P m = cnt P n
  | 0, h, _ => by
    have : n = 0 := by omega
    rw [this]
  | m + 1, h, hz => by
    by_cases e : n = m + 1
    · rw [e]
    · show cnt P m + (if P m = true then 1 else 0) = _
      rw [hz m (by omega), if_neg (by decide), Nat.add_zero]
      exact cnt_ext (by omega) hz
/-- the plan, solved -/
theorem solve_c {Ic : mm_I} (h : pc T P N w Im Ic) : ∃ r I', f3_solve SZ 1000 149 Ic Jc = some (r, I', Jc) ∧ (∀ q, q < 149 ∨ 157 < q → I' q = Ic q) ∧ ((sw w T ≤ 8 ∧ EE w T P (cst Im) P (stp w T - 1) < mM ∧ r = nI (EE w T P (cst Im) P (stp w T - 1)) ∧ ∀ q, q < P → I' 157 q = gvn w T P Im q) ∨ (r = m1 ∧ (8 < sw w T ∨ EE w T P (cst Im) P (stp w T - 1) = mM))) := by
  have hT := h.1.1.1
  have hP := h.1.1.2.1
  have eM := mMe
  obtain ⟨I1, f1, f2, f3⟩ := fill_loop (Ic := Ic) (Jc := Jc) (n := 1000) 1000 0 Ic (by omega) (by omega) (fun _ _ => rfl) (fun q hq => absurd hq (Nat.not_lt_zero q))
  have h1 : pc T P N w Im I1 := h.fp fun r hr => f2 r (by omega)
  have hw := want_loop (Jc := Jc) (n := 1000) h1 1000 0 (Nat.zero_le T) (by omega)
  obtain ⟨Lv, l1, l2, l3, l4, l5⟩ := h1.1.2.2.2.2.l
  have hsw : sw w T ≤ 48 := by
    have : ∀ k, k ≤ 6 → sw w k ≤ 8 * k := fun k => by
      induction k with
      | zero => intro _; exact Nat.le_refl _
      | succ k ih =>
        intro hk
        have := (h.2 k (by omega)).1
        have := ih (by omega)
        show sw w k + w k ≤ _
        omega
    have := this T hT
    omega
  have hc8 := cnt_le Lv 8
  have hcP : cnt Lv 8 = cnt Lv P := cnt_ext hP l3
  unfold f3_solve
  rw [show mm_rf SZ 149 6 = 156 by simp (disch := omega) only [↓M1, ↓ofNat_nI, L0, L1, L2, L3, L4, L5, L6, L7, L8, L9, L10, L12, L31, L32, L40, L48, L50, L99, L100, L120, L180, L256, L500, n_lt0, n_ge0, n_let, n_lef, n_ltt, n_ltf, n_eqt, n_eqf, m_lt, m_le, m_eq, m_eq2, m_le2, m_lt2, m_nle, m_nlt, if_true, if_false, eq_self, Option.bind_some, mb0, mb1, mbb, mbn0, mbn1, not_true, not_false_eq_true, reduceIte, Bool.false_eq_true, nI_add, nI_clamp, pk_mul, in_t, in_f, in_m, zr, za, at_SZ, put_SZ, rd_at, wr_at, rd_m, wr_m], show f6_fill SZ 1000 156 (-1) Ic Jc = _ from f1, Option.bind_some, show f3_wantedInAll SZ 1000 149 I1 Jc = _ from hw, Option.bind_some, show mm_rf SZ 149 1 = 29 by simp (disch := omega) only [↓M1, ↓ofNat_nI, L0, L1, L2, L3, L4, L5, L6, L7, L8, L9, L10, L12, L31, L32, L40, L48, L50, L99, L100, L120, L180, L256, L500, n_lt0, n_ge0, n_let, n_lef, n_ltt, n_ltf, n_eqt, n_eqf, m_lt, m_le, m_eq, m_eq2, m_le2, m_lt2, m_nle, m_nlt, if_true, if_false, eq_self, Option.bind_some, mb0, mb1, mbb, mbn0, mbn1, not_true, not_false_eq_true, reduceIte, Bool.false_eq_true, nI_add, nI_clamp, pk_mul, in_t, in_f, in_m, zr, za, at_SZ, put_SZ, rd_at, wr_at, rd_m, wr_m]]
  dsimp only
  rw [l5, cnt_eq, Option.bind_some]
  by_cases c1 : sw w T ≤ cnt Lv 8
  · have hs8 : sw w T ≤ 8 := by omega
    have hS := stp_144 w hT hs8
    have hS0 := stp_pos w T
    obtain ⟨I2, s1, s2, s3, s4, s5, s6⟩ := states_loop (Ic := I1) (Jc := Jc) (n := 1000) hs8 1000 0 (mm_up I1 149 7 (nI 1)) (Nat.zero_le T) (by omega) (h1.up (by omega)) (fun r hr => mm_up_o (by omega)) up_s2 (fun t ht => absurd ht (Nat.not_lt_zero t))
    obtain ⟨I3, c2, c3, c4, c5⟩ := costs_out (Jc := Jc) (n := 1000) (by omega) 1000 0 I2 (Nat.zero_le P) (by omega) s2 (fun q t hq => absurd hq (Nat.not_lt_zero q))
    have p3 : pS T P N w Im I3 := ⟨c3, hs8, by rw [c4 149 (by omega)]; exact s4, fun t ht => by rw [c4 151 (by omega)]; exact s5 t ht, c5⟩
    obtain ⟨I4, b1, b2, b3, b4⟩ := sums_base (Jc := Jc) (n := 1000) (by omega) 1000 0 I3 (Nat.zero_le _) (by omega) p3 (fun s' hs' => absurd hs' (Nat.not_lt_zero s'))
    have hEE := EE_le w T P (cst Im) P (stp w T - 1)
    have last : I4 155 (stp w T - 1) = nI (EE w T P (cst Im) P (stp w T - 1)) := by
      have := b4 0 (Nat.zero_le P) (stp w T - 1) (by omega)
      rw [Nat.zero_mul, Nat.zero_add, Nat.sub_zero] at this
      exact this
    have fr : ∀ q, q < 149 ∨ 157 < q → I4 q = Ic q := fun q hq => by rw [b3 q (by omega), c4 q (by omega), s3 q hq, f2 q (by omega)]
    have e157 : ∀ q, q < 8 → I4 157 q = m1 := fun q hq => by
      rw [b3 157 (by omega), c4 157 (by omega), s6, mm_up_o (by omega)]
      exact f3 q hq
    rw [if_pos (nI_le c1 (by omega)), show f3_countStates SZ 1000 149 I1 Jc = _ from s1, Option.bind_some, show f3_fillCosts SZ 1000 149 I2 Jc = _ from c2, Option.bind_some, show f3_fillSums SZ 1000 149 I3 Jc = _ from b1, Option.bind_some]
    dsimp only
    rw [b2.2.2.1, show nI (stp w T) - 1 = nI (stp w T - 1) from pk_sub (b := 1) (by omega), show f6_at SZ (mm_rf SZ 149 5) (nI (stp w T - 1)) I4 Jc = some (nI (EE w T P (cst Im) P (stp w T - 1))) from by simp (disch := omega) only [↓M1, ↓ofNat_nI, L0, L1, L2, L3, L4, L5, L6, L7, L8, L9, L10, L12, L31, L32, L40, L48, L50, L99, L100, L120, L180, L256, L500, n_lt0, n_ge0, n_let, n_lef, n_ltt, n_ltf, n_eqt, n_eqf, m_lt, m_le, m_eq, m_eq2, m_le2, m_lt2, m_nle, m_nlt, if_true, if_false, eq_self, Option.bind_some, mb0, mb1, mbb, mbn0, mbn1, not_true, not_false_eq_true, reduceIte, Bool.false_eq_true, nI_add, nI_clamp, pk_mul, in_t, in_f, in_m, zr, za, at_SZ, put_SZ, rd_at, wr_at, rd_m, wr_m, last], Option.bind_some]
    by_cases c9 : EE w T P (cst Im) P (stp w T - 1) < mM
    · obtain ⟨I5, g1, g2, g3⟩ := give_out (Jc := Jc) (n := 1000) (by omega) c9 1000 0 I4 (Nat.zero_le P) (by omega) b2 b4 (fun q hq => absurd hq (Nat.not_lt_zero q)) (fun q _ hq => e157 q hq)
      refine ⟨_, I5, ?_, fun q hq => by rw [g2 q (by omega)]; exact fr q hq, Or.inl ⟨hs8, c9, rfl, g3⟩⟩
      rw [if_pos (show nI (EE w T P (cst Im) P (stp w T - 1)) < 1000000 from nI_lt (b := mM) c9 (by omega))]
      unfold f3_giveTrades
      rw [b2.2.2.1, show nI (stp w T) - 1 = nI (stp w T - 1) from pk_sub (b := 1) (by omega), show f3_giveTrades_9 SZ 1000 1000 149 (nI (stp w T - 1)) 0 I4 Jc = _ from g1]
      rfl
    · refine ⟨m1, I4, ?_, fr, Or.inr ⟨rfl, Or.inr (by omega)⟩⟩
      rw [if_neg (show ¬ nI (EE w T P (cst Im) P (stp w T - 1)) < 1000000 from nI_nlt (b := mM) (by omega) (by omega))]
      rfl
  · refine ⟨m1, I1, ?_, fun q hq => f2 q (by omega), Or.inr ⟨rfl, Or.inr ?_⟩⟩
    · rw [if_neg (nI_ge (by omega) (by omega))]
      rfl
    · refine EE_far w (Lv := Lv) (fun p t hp ht hl => cst_dead h.1 hp ht ?_) P _ (Nat.le_refl P) ?_
      · rw [l2 p (by omega), hl]; rfl
      · rw [ds_full w T T (Nat.le_refl T), Nat.sub_self]
        show cnt Lv P < sw w T + 0
        omega
end GIV
