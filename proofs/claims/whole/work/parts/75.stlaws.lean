/-! ===== part 75: the call laws (written by wip/whole/pre.py) ===== -/
theorem two3 {k T P : Nat} {I : mm_I} {J : mm_J} {fc : Option (Int32 × mm_I × mm_J)} {fm : mm_I → mm_J → Option (Int32 × mm_I × mm_J)} (hA : rAll T P (100 * k) I I) (lock : ∀ Im Jm, rAll T P (100 * k) I Im → ∃ r Ic' Jc' Im' Jm' T' P', fc = some (r, Ic', Jc') ∧ fm Im Jm = some (r, Im', Jm') ∧ (∀ r, 167 ≤ r → Ic' r = I r) ∧ (∀ r, r < 167 → Im' r = Im r) ∧ rAll T' P' (100 * (k + 1)) Ic' Im') : ∃ o1 o2, fc = some o1 ∧ fm o1.2.1 o1.2.2 = some o2 ∧ o1.1 = o2.1 ∧ Inv (k + 1) o2.2.1 o2.2.2 := by
  obtain ⟨r, Ic', Jc', Im0, Jm0, T0, P0, c1, -, f1, -, -⟩ := lock I J hA
  obtain ⟨r2, Ic2, Jc2, Im', Jm', T', P', c2, m2, -, f3, hR⟩ := lock Ic' Jc' (hA.m f1)
  have e : (r, Ic', Jc') = (r2, Ic2, Jc2) := Option.some.inj (c1.symm.trans c2)
  have e1 : r = r2 := congrArg (fun x => x.1) e
  have e2 : Ic' = Ic2 := congrArg (fun x => x.2.1) e
  subst e1 e2
  exact ⟨(r, Ic', Jc'), (r, Im', Jm'), c1, m2, rfl, T', P', hR.k f3⟩
section STL
variable {tx : Nat → Nat} {L T P N : Nat} {Ic Im : mm_I} {Jc Jm : mm_J}
theorem law_clear {n : Nat} : ∀ (d k : Nat) (I : mm_I), k ≤ 6 → 6 < k + d → (∀ r, r ≠ 189 → I r = Im r) → (∀ q, q < k → I 189 q = m1) → ∃ I', f11_laws_25 SZ n d 167 (nI k) I Jm = f11_laws_48 SZ n n 167 0 0 I' Jm ∧ (∀ r, r ≠ 189 → I' r = Im r) ∧ ∀ q, q < 6 → I' 189 q = m1 := by
  intro d
  induction d with
  | zero => intro k I h1 h2; omega
  | succ d ih =>
    intro k I h1 h2 i1 i2
    have mS : f11_laws_25 SZ n (d + 1) 167 (nI k) I Jm = f11_laws_25_b SZ n (f11_laws_25 SZ n d) 167 (nI k) I Jm := rfl
    rw [mS]
    unfold f11_laws_25_b
    by_cases c : k = 6
    · subst c
      rw [if_pos (show (6 : Int32) ≤ nI 6 by decide)]
      exact ⟨I, rfl, i1, i2⟩
    · have ib : mm_inb (nI k) (mm_al SZ (mm_rf SZ 167 41)) = true := by simp (disch := omega) only [↓M1, ↓ofNat_nI, L0, L1, L2, L3, L4, L5, L6, L7, L8, L9, L10, L12, L31, L32, L40, L48, L50, L99, L100, L120, L180, L256, L500, n_lt0, n_ge0, n_let, n_lef, n_ltt, n_ltf, n_eqt, n_eqf, m_lt, m_le, m_eq, m_eq2, m_le2, m_lt2, m_nle, m_nlt, if_true, if_false, eq_self, Option.bind_some, mb0, mb1, mbb, mbn0, mbn1, not_true, not_false_eq_true, reduceIte, Bool.false_eq_true, nI_add, nI_clamp, pk_mul, in_t, in_f, in_m, zr, za, at_SZ, put_SZ, rd_at, wr_at, rd_m, wr_m]
      obtain ⟨I', g1, g2, g3⟩ := ih (k + 1) (mm_up I 189 k m1) (by omega) (by omega) (fun r hr => by rw [mm_up_o hr]; exact i1 r hr) (fun q hq => by
        by_cases e : q = k
        · subst e; exact up_s2
        · rw [up_o2 (by omega)]; exact i2 q (by omega))
      refine ⟨I', ?_, g2, g3⟩
      rw [if_neg (show ¬ (6 : Int32) ≤ nI k from nI_ge (b := 6) (by omega) (by omega)), if_pos ib, show mm_rf SZ 167 41 = 189 by simp (disch := omega) only [↓M1, ↓ofNat_nI, L0, L1, L2, L3, L4, L5, L6, L7, L8, L9, L10, L12, L31, L32, L40, L48, L50, L99, L100, L120, L180, L256, L500, n_lt0, n_ge0, n_let, n_lef, n_ltt, n_ltf, n_eqt, n_eqf, m_lt, m_le, m_eq, m_eq2, m_le2, m_lt2, m_nle, m_nlt, if_true, if_false, eq_self, Option.bind_some, mb0, mb1, mbb, mbn0, mbn1, not_true, not_false_eq_true, reduceIte, Bool.false_eq_true, nI_add, nI_clamp, pk_mul, in_t, in_f, in_m, zr, za, at_SZ, put_SZ, rd_at, wr_at, rd_m, wr_m], nI_clamp (by omega), nI_1]
      exact g1
/-- the laws stand -/
theorem law_set {n : Nat} {S : Nat → Bool} {v : Nat → Nat} {w : Int32} (h : lrel S v Ic Im) : f11_laws_70 SZ n 167 (nI 0) w Im Jm = some (w, mm_up (mm_up (mm_up (mm_up (mm_up (mm_up (mm_up Im 167 27 0) 167 6 (Ic 27 0)) 167 7 (Ic 27 1)) 167 8 (Ic 27 2)) 167 9 (Ic 27 3)) 167 10 (Ic 27 4)) 167 11 (Ic 27 5), Jm) := by
  have ib : ∀ k : Nat, k < 6 → mm_inb (nI k) (mm_al SZ (mm_rf SZ 167 41)) = true := fun k hk => by simp (disch := omega) only [↓M1, ↓ofNat_nI, L0, L1, L2, L3, L4, L5, L6, L7, L8, L9, L10, L12, L31, L32, L40, L48, L50, L99, L100, L120, L180, L256, L500, n_lt0, n_ge0, n_let, n_lef, n_ltt, n_ltf, n_eqt, n_eqf, m_lt, m_le, m_eq, m_eq2, m_le2, m_lt2, m_nle, m_nlt, if_true, if_false, eq_self, Option.bind_some, mb0, mb1, mbb, mbn0, mbn1, not_true, not_false_eq_true, reduceIte, Bool.false_eq_true, nI_add, nI_clamp, pk_mul, in_t, in_f, in_m, zr, za, at_SZ, put_SZ, rd_at, wr_at, rd_m, wr_m]
  have z : mm_rf SZ 167 41 = 189 := by simp (disch := omega) only [↓M1, ↓ofNat_nI, L0, L1, L2, L3, L4, L5, L6, L7, L8, L9, L10, L12, L31, L32, L40, L48, L50, L99, L100, L120, L180, L256, L500, n_lt0, n_ge0, n_let, n_lef, n_ltt, n_ltf, n_eqt, n_eqf, m_lt, m_le, m_eq, m_eq2, m_le2, m_lt2, m_nle, m_nlt, if_true, if_false, eq_self, Option.bind_some, mb0, mb1, mbb, mbn0, mbn1, not_true, not_false_eq_true, reduceIte, Bool.false_eq_true, nI_add, nI_clamp, pk_mul, in_t, in_f, in_m, zr, za, at_SZ, put_SZ, rd_at, wr_at, rd_m, wr_m]
  have hv : ∀ k, k < 5 → S k = true → v k ≤ 120 := fun k hk hS => by
    have := (h.2.2.2.2.2.1 k hk hS).2
    have hk' : k = 0 ∨ k = 1 ∨ k = 2 ∨ k = 3 ∨ k = 4 := by omega
    have hlh : lwHi k ≤ 120 := by
      rcases hk' with rfl | rfl | rfl | rfl | rfl <;> decide
    omega
  have pick : ∀ (α : Type) (A : Int32 → α) (k : Nat) (I : mm_I), k < 5 → I 189 = Im 189 → (if (0 : Int32) ≤ I 189 k then A (I 189 k) else A (nI (lwDf k))) = A (Ic 27 k) := fun α A k I hk e => by
    rw [e, h.2.2.1 k (by omega), h.2.2.2.1 k hk]
    cases hS : S k
    · rw [if_neg (show ¬ false = true by decide), if_neg (show ¬ false = true by decide), if_neg (show ¬ (0 : Int32) ≤ m1 by decide)]
    · rw [if_pos rfl, if_pos rfl, if_pos (nI_pos' (by have := hv k hk hS; omega))]
  have c0 : (0 : Int32).toNatClampNeg = 0 := by decide
  have c1 : (1 : Int32).toNatClampNeg = 1 := by decide
  have c2 : (2 : Int32).toNatClampNeg = 2 := by decide
  have c3 : (3 : Int32).toNatClampNeg = 3 := by decide
  have c4 : (4 : Int32).toNatClampNeg = 4 := by decide
  have c5 : (5 : Int32).toNatClampNeg = 5 := by decide
  have s5 : ∀ I : mm_I, I 189 = Im 189 → ∀ x, f11_laws_198 SZ n 167 w 167 x I Jm = some (w, mm_up (mm_up I 167 10 x) 167 11 (Ic 27 5), Jm) := fun I e x => by
    unfold f11_laws_198 f11_laws_216
    rw [if_pos (show mm_inb 5 (mm_al SZ (mm_rf SZ 167 41)) = true from ib 5 (by omega)), z, c5, mm_up_o (by omega), e, h.2.2.1 5 (by omega), h.2.2.2.2.1]
    cases hS : S 5
    · rw [if_neg (show ¬ false = true by decide), if_pos (show m1 ≤ 0 by decide)]
      rfl
    · rw [if_pos rfl, h.2.2.2.2.2.2 hS, if_neg (show ¬ nI 1 ≤ 0 by decide)]
      rfl
  have s4 : ∀ I : mm_I, I 189 = Im 189 → ∀ x, f11_laws_174 SZ n 167 w 167 x I Jm = f11_laws_198 SZ n 167 w 167 (Ic 27 4) (mm_up I 167 9 x) Jm := fun I e x => by
    unfold f11_laws_174
    rw [if_pos (show mm_inb 4 (mm_al SZ (mm_rf SZ 167 41)) = true from ib 4 (by omega)), if_pos (show mm_inb 4 (mm_al SZ (mm_rf SZ 167 41)) = true from ib 4 (by omega)), z, c4]
    exact pick _ (fun y => f11_laws_198 SZ n 167 w 167 y (mm_up I 167 9 x) Jm) 4 (mm_up I 167 9 x) (by omega) (by rw [mm_up_o (by omega)]; exact e)
  have s3 : ∀ I : mm_I, I 189 = Im 189 → ∀ x, f11_laws_151 SZ n 167 w 167 x I Jm = f11_laws_174 SZ n 167 w 167 (Ic 27 3) (mm_up I 167 8 x) Jm := fun I e x => by
    unfold f11_laws_151
    rw [if_pos (show mm_inb 3 (mm_al SZ (mm_rf SZ 167 41)) = true from ib 3 (by omega)), if_pos (show mm_inb 3 (mm_al SZ (mm_rf SZ 167 41)) = true from ib 3 (by omega)), z, c3]
    exact pick _ (fun y => f11_laws_174 SZ n 167 w 167 y (mm_up I 167 8 x) Jm) 3 (mm_up I 167 8 x) (by omega) (by rw [mm_up_o (by omega)]; exact e)
  have s2 : ∀ I : mm_I, I 189 = Im 189 → ∀ x, f11_laws_127 SZ n 167 w 167 x I Jm = f11_laws_151 SZ n 167 w 167 (Ic 27 2) (mm_up I 167 7 x) Jm := fun I e x => by
    unfold f11_laws_127
    rw [if_pos (show mm_inb 2 (mm_al SZ (mm_rf SZ 167 41)) = true from ib 2 (by omega)), if_pos (show mm_inb 2 (mm_al SZ (mm_rf SZ 167 41)) = true from ib 2 (by omega)), z, c2]
    exact pick _ (fun y => f11_laws_151 SZ n 167 w 167 y (mm_up I 167 7 x) Jm) 2 (mm_up I 167 7 x) (by omega) (by rw [mm_up_o (by omega)]; exact e)
  have s1 : ∀ I : mm_I, I 189 = Im 189 → ∀ x, f11_laws_104 SZ n 167 w 167 x I Jm = f11_laws_127 SZ n 167 w 167 (Ic 27 1) (mm_up I 167 6 x) Jm := fun I e x => by
    unfold f11_laws_104
    rw [if_pos (show mm_inb 1 (mm_al SZ (mm_rf SZ 167 41)) = true from ib 1 (by omega)), if_pos (show mm_inb 1 (mm_al SZ (mm_rf SZ 167 41)) = true from ib 1 (by omega)), z, c1]
    exact pick _ (fun y => f11_laws_127 SZ n 167 w 167 y (mm_up I 167 6 x) Jm) 1 (mm_up I 167 6 x) (by omega) (by rw [mm_up_o (by omega)]; exact e)
  have s0 : f11_laws_70 SZ n 167 (nI 0) w Im Jm = f11_laws_104 SZ n 167 w 167 (Ic 27 0) (mm_up Im 167 27 0) Jm := by
    unfold f11_laws_70
    rw [if_pos (show nI 0 ≤ 0 by decide), if_pos (show mm_inb 0 (mm_al SZ (mm_rf SZ 167 41)) = true from ib 0 (by omega)), if_pos (show mm_inb 0 (mm_al SZ (mm_rf SZ 167 41)) = true from ib 0 (by omega)), z, c0]
    exact pick _ (fun y => f11_laws_104 SZ n 167 w 167 y (mm_up Im 167 27 0) Jm) 0 (mm_up Im 167 27 0) (by omega) (mm_up_o (by omega))
  rw [s0, s1 _ (mm_up_o (by omega)), s2 _ (by rw [mm_up_o (by omega), mm_up_o (by omega)]), s3 _ (by rw [mm_up_o (by omega), mm_up_o (by omega), mm_up_o (by omega)]), s4 _ (by rw [mm_up_o (by omega), mm_up_o (by omega), mm_up_o (by omega), mm_up_o (by omega)]), s5 _ (by rw [mm_up_o (by omega), mm_up_o (by omega), mm_up_o (by omega), mm_up_o (by omega), mm_up_o (by omega)])]
theorem cp7l {I : mm_I} {J : mm_J} {b : Bool} (hb : I 27 5 = b01 b) : ∃ I', f7_copyFrom SZ 26 27 I J = some (I', J) ∧ (∀ r, r ≠ 26 → I' r = I r) ∧ ∀ k, k ≤ 5 → I' 26 k = I 27 k := by
  have e : f7_copyFrom SZ 26 27 I J = some (mm_up (mm_up (mm_up (mm_up (mm_up (mm_up I 26 0 (I 27 0)) 26 1 (I 27 1)) 26 2 (I 27 2)) 26 3 (I 27 3)) 26 4 (I 27 4)) 26 5 (I 27 5), J) := by
    unfold f7_copyFrom
    simp (disch := omega) only [up_o2]
    rw [hb, if_pos mbb]
  refine ⟨_, e, fun r hr => ?_, fun k hk => ?_⟩
  · simp only [mm_up_o hr]
  · have : k = 0 ∨ k = 1 ∨ k = 2 ∨ k = 3 ∨ k = 4 ∨ k = 5 := by omega
    rcases this with rfl | rfl | rfl | rfl | rfl | rfl <;> simp (disch := omega) only [up_s2, up_o2]
theorem rAll.law {N2 : Nat} {Ic' Im' : mm_I} (h : rAll T P N Ic Im) (hN : N ≤ N2) (fc : ∀ r, r ≠ 1 → r ≠ 26 → r ≠ 27 → Ic' r = Ic r) (f1 : ∀ r, r ≠ 167 → r ≠ 189 → Im' r = Im r) (f2 : ∀ k, (k < 6 ∨ 11 < k) → k ≠ 27 → k ≠ 28 → k ≠ 29 → k ≠ 31 → k ≠ 32 → k ≠ 33 → Im' 167 k = Im 167 k) (hR : rR Ic' Im') (hX : rX Ic' Im') (hQ : rQ Ic' Im') : rAll T P N2 Ic' Im' := by
  obtain ⟨a1, a2, a3, a4, a5, a6, a7, a8, a9, a10, a11, a12, a13, a14, a15⟩ := h
  have g : ∀ r k, r ≠ 1 → r ≠ 26 → r ≠ 27 → Ic' r k = Ic r k := fun r k h1 h2 h3 => by rw [fc r h1 h2 h3]
  have m : ∀ k, (k < 6 ∨ 11 < k) → k ≠ 27 → k ≠ 28 → k ≠ 29 → k ≠ 31 → k ≠ 32 → k ≠ 33 → Im' 167 k = Im 167 k := f2
  refine ⟨a1.c (g 4 5 (by omega) (by omega) (by omega)) (g 4 6 (by omega) (by omega) (by omega)) (m 0 (by omega) (by omega) (by omega) (by omega) (by omega) (by omega) (by omega)) (m 2 (by omega) (by omega) (by omega) (by omega) (by omega) (by omega) (by omega)), a2.c (fc 6 (by omega) (by omega) (by omega)) (fc 8 (by omega) (by omega) (by omega)) (fc 10 (by omega) (by omega) (by omega)) (fc 12 (by omega) (by omega) (by omega)) (f1 168 (by omega) (by omega)), a3.c (fc 14 (by omega) (by omega) (by omega)) (f1 171 (by omega) (by omega)), hR, (a5.c (fun k hk => fc _ (by omega) (by omega) (by omega)) (vCur_c (fun r h1 h2 => f1 r (by omega) (by omega)) (m 23 (by omega) (by omega) (by omega) (by omega) (by omega) (by omega) (by omega)))).mono hN, a6.c (g 29 12 (by omega) (by omega) (by omega)) (m 24 (by omega) (by omega) (by omega) (by omega) (by omega) (by omega) (by omega)), (a7.c (fun k hk => fc _ (by omega) (by omega) (by omega)) (vTold_c (f1 170 (by omega) (by omega)) (f1 169 (by omega) (by omega)))).mono hN, (a8.c (fun k hk => fc _ (by omega) (by omega) (by omega)) (f1 199 (by omega) (by omega)) (f1 200 (by omega) (by omega))).mono hN, (a9.c (fun k hk => fc _ (by omega) (by omega) (by omega)) (f1 199 (by omega) (by omega)) (f1 200 (by omega) (by omega))).mono hN, a10.c (g 0 19 (by omega) (by omega) (by omega)) (f1 200 (by omega) (by omega)), a11.c (fc 132 (by omega) (by omega) (by omega)) (f1 183 (by omega) (by omega)), a12.c (g 133 6 (by omega) (by omega) (by omega)) (fc 135 (by omega) (by omega) (by omega)) (fc 137 (by omega) (by omega) (by omega)) (m 48 (by omega) (by omega) (by omega) (by omega) (by omega) (by omega) (by omega)) (f1 194 (by omega) (by omega)) (f1 195 (by omega) (by omega)), a13.c (g 133 7 (by omega) (by omega) (by omega)) (fc 141 (by omega) (by omega) (by omega)) (fc 143 (by omega) (by omega) (by omega)) (fc 145 (by omega) (by omega) (by omega)) (m 51 (by omega) (by omega) (by omega) (by omega) (by omega) (by omega) (by omega)) (f1 196 (by omega) (by omega)) (f1 197 (by omega) (by omega)) (f1 198 (by omega) (by omega)), hX, hQ⟩
/-- the text as numbers -/
theorem rX.txt (h : rX Ic Im) : ∃ tx L, cT tx L Ic ∧ mT tx L Im := by
  obtain ⟨L, h1, h2, h3, h4⟩ := h
  refine ⟨fun k => (Ic 3 k).toNatClampNeg, L, ⟨h1, h2, fun k hk => ?_⟩, ⟨h1, h3, fun k hk => ?_⟩⟩
  · obtain ⟨c, c1, c2, c3⟩ := h4 k hk
    show (Ic 3 k).toNatClampNeg < 256 ∧ Ic 3 k = nI (Ic 3 k).toNatClampNeg
    rw [c2, nI_clamp (by omega)]
    exact ⟨c1, rfl⟩
  · obtain ⟨c, c1, c2, c3⟩ := h4 k hk
    show (Ic 3 k).toNatClampNeg < 256 ∧ Im 184 k = nI (Ic 3 k).toNatClampNeg
    rw [c2, nI_clamp (by omega), c3]
    exact ⟨c1, rfl⟩
/-- a text opened -/
theorem open_c {n : Nat} (hn : 501 ≤ n) (h : cT tx L Ic) : ∃ I', f4_open SZ n 1 Ic Jc = some (I', Jc) ∧ fR Ic I' ∧ cA tx L (sk tx L 0) I' ∧ I' 1 5 = nI 0 ∧ I' 1 6 = m1 := by
  have f1 : fR Ic (mm_up (mm_up (mm_up Ic 1 4 0) 1 5 0) 1 6 (-1)) := (fR.up (by omega)).trans ((fR.up (by omega)).trans (fR.up (by omega)))
  obtain ⟨I', k1, k2, k3, k4, k5⟩ := adv_c (Jc := Jc) (I := mm_up (mm_up (mm_up Ic 1 4 0) 1 5 0) 1 6 (-1)) (a := 0) hn (h.f f1) (Nat.zero_le L) (by rw [up_o2 (by omega), up_o2 (by omega), up_s2]; rfl)
  refine ⟨I', ?_, f1.trans k2, k3, by rw [k4, up_o2 (by omega), up_s2]; rfl, by rw [k5, up_s2]; rfl⟩
  unfold f4_open
  rw [k1]
  rfl
end STL
theorem st_laws : St_laws Inv := by
  intro k hk I J h
  have h0 := h
  obtain ⟨T, P, hA⟩ := h
  refine ⟨1000, ?_⟩
  show ∃ o1 o2, f10_laws SZ 1000 0 I J = some o1 ∧ (fun I J => f11_laws SZ 1000 167 I J) o1.2.1 o1.2.2 = some o2 ∧ o1.1 = o2.1 ∧ Inv (k + 1) o2.2.1 o2.2.2
  refine two3 (J := J) hA (fun Im Jm hB => ?_)
  obtain ⟨tx, L, hc, hm⟩ := rX.txt hB.2.2.2.2.2.2.2.2.2.2.2.2.2.1
  have hL := hc.1
  by_cases c200 : L ≤ 200
  · obtain ⟨I1, o1, o2, o3, o4, o5⟩ := open_c (Jc := J) (n := 1000) (by omega) hc
    obtain ⟨B1, b1, b2, b3⟩ := law_clear (Jm := Jm) (n := 1000) (Im := mm_up (mm_up Im 167 28 (-1)) 167 29 0) 1000 0 (mm_up (mm_up Im 167 28 (-1)) 167 29 0) (by omega) (by omega) (fun _ _ => rfl) (fun q hq => absurd hq (Nat.not_lt_zero q))
    -- the draft, cleared
    have cl : ∃ I2, f7_clear SZ 27 I1 J = some (I2, J) ∧ fL I1 I2 ∧ lrel (fun _ => false) (fun _ => 0) I2 B1 := by
      refine ⟨_, rfl, fL.up.trans (fL.up.trans (fL.up.trans (fL.up.trans (fL.up.trans (fL.up.trans fL.up))))), ?_, fun _ _ => rfl, fun q hq => ?_, fun q hq => ?_, ?_, fun _ _ q => Bool.noConfusion q, fun q => Bool.noConfusion q⟩
      · rw [up_s2]; decide +kernel
      · show B1 189 q = if false = true then nI 0 else m1
        rw [if_neg (show ¬ false = true by decide)]; exact b3 q hq
      · show _ = nI (if false = true then 0 else lwDf q)
        rw [if_neg (show ¬ false = true by decide)]
        have : q = 0 ∨ q = 1 ∨ q = 2 ∨ q = 3 ∨ q = 4 := by omega
        rcases this with rfl | rfl | rfl | rfl | rfl <;> simp (disch := omega) only [up_s2, up_o2] <;> decide
      · simp (disch := omega) only [up_s2, up_o2]; decide
    obtain ⟨I2, d1, d2, d3⟩ := cl
    have eA : ∀ s, cA tx L s I1 → cA tx L s I2 := fun s q => by
      have e : I2 1 = I1 1 := by
        have : (some (I2, J) : Option (mm_I × mm_J)) = f7_clear SZ 27 I1 J := d1.symm
        unfold f7_clear at this
        have := congrArg (fun x => x.1) (Option.some.inj this)
        rw [show I2 = _ from this]
        simp only [mm_up_o (show (1 : Nat) ≠ 27 by omega)]
      exact ⟨by rw [e]; exact q.1, by rw [e]; exact q.2.1, by rw [e]; exact q.2.2⟩
    have e15 : I2 1 5 = I1 1 5 ∧ I2 1 6 = I1 1 6 := by
      have : (some (I2, J) : Option (mm_I × mm_J)) = f7_clear SZ 27 I1 J := d1.symm
      unfold f7_clear at this
      have := congrArg (fun x => x.1) (Option.some.inj this)
      rw [show I2 = _ from this]
      simp only [mm_up_o (show (1 : Nat) ≠ 27 by omega), and_self]
    have mB : mT tx L B1 := hm.c (by rw [b2 167 (by omega), up_o2 (by omega), up_o2 (by omega)]) (by rw [b2 184 (by omega), mm_up_o (by omega), mm_up_o (by omega)])
    obtain ⟨c, f, S', v', I3, B3, J3, u1, ⟨w, u2, u2'⟩, u3, u4, u5, u6, u7, u8⟩ := law_loop (Jc := J) (n := 1000) (by omega) 1000 0 (sk tx L 0) 0 (fun _ => false) (fun _ => 0) I2 B1 Jm (Nat.zero_le _) (sk_le tx L 0) (by omega) ((hc.f o2).l d2) mB (eA _ o3) (by rw [e15.1]; exact o4) (by rw [e15.2, o5, b2 167 (by omega), up_o2 (by omega), up_s2]; rfl) d3 (Nat.zero_le L) rfl (by rw [b2 167 (by omega), up_s2]; rfl)
    have fc3 : fL I I3 := o2.l.trans (d2.trans u3)
    have bm : ∀ k, k ≠ 28 → k ≠ 29 → k ≠ 31 → k ≠ 32 → k ≠ 33 → B3 167 k = Im 167 k := fun k h1 h2 h3 h4 h5 => by rw [u4.2 k h1 h2 h3 h4 h5, b2 167 (by omega), up_o2 (by omega), up_o2 (by omega)]
    have br : ∀ r, r ≠ 167 → r ≠ 189 → B3 r = Im r := fun r h1 h2 => by rw [u4.1 r h1 h2, b2 r h2, mm_up_o h1, mm_up_o h1]
    have eC : f10_laws SZ 1000 0 I J = (f4_isSound SZ 1 (mm_up I3 1 1 0) J).bind fun o5 => if o5 = 0 then (some ((-10) - (mm_up I3 1 1 0 1 5), mm_up I3 1 1 0, J)) else ((f7_copyFrom SZ 26 27 (mm_up I3 1 1 0) J).bind fun o7 => some (c, o7.1, o7.2)) := by
      unfold f10_laws f7_readFrom f4_clear
      rw [show mm_rf SZ 0 0 = 1 by simp (disch := omega) only [↓M1, ↓ofNat_nI, L0, L1, L2, L3, L4, L5, L6, L7, L8, L9, L10, L12, L31, L32, L40, L48, L50, L99, L100, L120, L180, L256, L500, n_lt0, n_ge0, n_let, n_lef, n_ltt, n_ltf, n_eqt, n_eqf, m_lt, m_le, m_eq, m_eq2, m_le2, m_lt2, m_nle, m_nlt, if_true, if_false, eq_self, Option.bind_some, mb0, mb1, mbb, mbn0, mbn1, not_true, not_false_eq_true, reduceIte, Bool.false_eq_true, nI_add, nI_clamp, pk_mul, in_t, in_f, in_m, zr, za, at_SZ, put_SZ, rd_at, wr_at, rd_m, wr_m], show mm_rf SZ 0 3 = 26 by simp (disch := omega) only [↓M1, ↓ofNat_nI, L0, L1, L2, L3, L4, L5, L6, L7, L8, L9, L10, L12, L31, L32, L40, L48, L50, L99, L100, L120, L180, L256, L500, n_lt0, n_ge0, n_let, n_lef, n_ltt, n_ltf, n_eqt, n_eqf, m_lt, m_le, m_eq, m_eq2, m_le2, m_lt2, m_nle, m_nlt, if_true, if_false, eq_self, Option.bind_some, mb0, mb1, mbb, mbn0, mbn1, not_true, not_false_eq_true, reduceIte, Bool.false_eq_true, nI_add, nI_clamp, pk_mul, in_t, in_f, in_m, zr, za, at_SZ, put_SZ, rd_at, wr_at, rd_m, wr_m], show mm_rf SZ 0 4 = 27 by simp (disch := omega) only [↓M1, ↓ofNat_nI, L0, L1, L2, L3, L4, L5, L6, L7, L8, L9, L10, L12, L31, L32, L40, L48, L50, L99, L100, L120, L180, L256, L500, n_lt0, n_ge0, n_let, n_lef, n_ltt, n_ltf, n_eqt, n_eqf, m_lt, m_le, m_eq, m_eq2, m_le2, m_lt2, m_nle, m_nlt, if_true, if_false, eq_self, Option.bind_some, mb0, mb1, mbb, mbn0, mbn1, not_true, not_false_eq_true, reduceIte, Bool.false_eq_true, nI_add, nI_clamp, pk_mul, in_t, in_f, in_m, zr, za, at_SZ, put_SZ, rd_at, wr_at, rd_m, wr_m], hc.2.1, if_pos (show nI L ≤ 200 from nI_le (b := 200) c200 (by omega)), o1, Option.bind_some]
      dsimp only
      rw [d1, Option.bind_some]
      dsimp only
      rw [show f7_readFrom_6 SZ 1000 1000 27 1 0 I2 J = _ from u1, Option.bind_some, Option.bind_some]
    have eM : f11_laws SZ 1000 167 Im Jm = f11_laws_70 SZ 1000 167 (nI f) w B3 J3 := by
      unfold f11_laws
      rw [hm.2.1, if_pos (show nI L ≤ 200 from nI_le (b := 200) c200 (by omega))]
      refine (show f11_laws_25 SZ 1000 1000 167 0 _ Jm = _ from b1).trans ?_
      rw [← u2]
      rfl
    have e15' : mm_up I3 1 1 0 1 5 = nI f := by rw [up_o2 (by omega)]; exact u6
    by_cases hf : f = 0
    · subst hf
      have hrel := u8 rfl
      obtain ⟨I4, p1, p2, p3⟩ := cp7l (J := J) (I := mm_up I3 1 1 0) (b := S' 5) (by rw [up_o2 (by omega)]; exact hrel.2.2.2.2.1)
      have e27 : ∀ q, q ≤ 5 → I4 26 q = I3 27 q := fun q hq => by rw [p3 q hq, up_o2 (by omega)]
      have fin : rAll T P (100 * (k + 1)) I4 (mm_up (mm_up (mm_up (mm_up (mm_up (mm_up (mm_up B3 167 27 0) 167 6 (I3 27 0)) 167 7 (I3 27 1)) 167 8 (I3 27 2)) 167 9 (I3 27 3)) 167 10 (I3 27 4)) 167 11 (I3 27 5)) := by
        refine hB.law (by omega) (fun r h1 h2 h3 => by rw [p2 r h2, mm_up_o h1, fc3.1 r h1 h3]) (fun r h1 h2 => by simp only [mm_up_o h1]; exact br r h1 h2) (fun q h1 h2 h3 h4 h5 h6 h7 => by
          rw [up_o2 (by omega), up_o2 (by omega), up_o2 (by omega), up_o2 (by omega), up_o2 (by omega), up_o2 (by omega), up_o2 (by omega)]
          exact bm q h3 h4 h5 h6 h7) ?_ ⟨0, by omega, ?_, ?_, fun q hq => absurd hq (Nat.not_lt_zero q)⟩ ?_
        · have hv : ∀ q, q < 5 → ∃ x, lwLo q ≤ x ∧ x ≤ lwHi q ∧ I3 27 q = nI x := fun q hq => by
            have e := hrel.2.2.2.1 q hq
            cases hS : S' q
            · rw [hS, if_neg (show ¬ false = true by decide)] at e
              refine ⟨lwDf q, ?_, ?_, e⟩
              · have : q = 0 ∨ q = 1 ∨ q = 2 ∨ q = 3 ∨ q = 4 := by omega
                rcases this with rfl | rfl | rfl | rfl | rfl <;> decide
              · have : q = 0 ∨ q = 1 ∨ q = 2 ∨ q = 3 ∨ q = 4 := by omega
                rcases this with rfl | rfl | rfl | rfl | rfl <;> decide
            · rw [hS, if_pos rfl] at e
              have := hrel.2.2.2.2.2.1 q hq hS
              exact ⟨v' q, this.1, this.2, e⟩
          obtain ⟨x0, y0, z0, w0⟩ := hv 0 (by omega)
          obtain ⟨x1, y1, z1, w1⟩ := hv 1 (by omega)
          obtain ⟨x2, y2, z2, w2⟩ := hv 2 (by omega)
          obtain ⟨x3, y3, z3, w3⟩ := hv 3 (by omega)
          obtain ⟨x4, y4, z4, w4⟩ := hv 4 (by omega)
          refine ⟨⟨x0, y0, z0, by rw [e27 0 (by omega)]; exact w0, ?_⟩, ⟨x1, z1, by rw [e27 1 (by omega)]; exact w1, ?_⟩, ⟨x2, y2, z2, by rw [e27 2 (by omega)]; exact w2, ?_⟩, ⟨x3, z3, by rw [e27 3 (by omega)]; exact w3, ?_⟩, ⟨x4, y4, z4, by rw [e27 4 (by omega)]; exact w4, ?_⟩, S' 5, by rw [e27 5 (by omega)]; exact hrel.2.2.2.2.1, ?_⟩
          · rw [up_o2 (by omega), up_o2 (by omega), up_o2 (by omega), up_o2 (by omega), up_o2 (by omega), up_s2]; exact w0
          · rw [up_o2 (by omega), up_o2 (by omega), up_o2 (by omega), up_o2 (by omega), up_s2]; exact w1
          · rw [up_o2 (by omega), up_o2 (by omega), up_o2 (by omega), up_s2]; exact w2
          · rw [up_o2 (by omega), up_o2 (by omega), up_s2]; exact w3
          · rw [up_o2 (by omega), up_s2]; exact w4
          · rw [up_s2]; exact hrel.2.2.2.2.1
        · rw [p2 1 (by omega), up_s2]; rfl
        · rw [up_o2 (by omega), up_o2 (by omega), up_o2 (by omega), up_o2 (by omega), up_o2 (by omega), up_o2 (by omega), up_s2]; rfl
        · show I4 1 6 = _
          rw [p2 1 (by omega), up_o2 (by omega), u7, up_o2 (by omega), up_o2 (by omega), up_o2 (by omega), up_o2 (by omega), up_o2 (by omega), up_o2 (by omega), up_o2 (by omega)]
      refine ⟨c, I4, J, _, J3, T, P, ?_, ?_, fun r hr => ?_, fun r hr => ?_, fin⟩
      · rw [eC, snd_c e15', Option.bind_some, if_neg n10, p1]
        rfl
      · show f11_laws SZ 1000 167 Im Jm = _
        rw [eM, law_set hrel, u2' rfl]
      · rw [p2 r (by omega), mm_up_o (by omega), fc3.1 r (by omega) (by omega)]
      · simp only [mm_up_o (show r ≠ 167 by omega)]
        exact br r (by omega) (by omega)
    · have ne : ¬ mm_up I3 1 1 0 1 5 = nI 0 := by
        rw [e15']
        intro q
        exact hf ((nI_eq (by omega) (by omega)).mp q)
      refine ⟨(-10) - nI f, mm_up I3 1 1 0, J, mm_up B3 167 27 0, J3, T, P, ?_, ?_, fun r hr => ?_, fun r hr => ?_, hB.law (by omega) (fun r h1 h2 h3 => by rw [mm_up_o h1, fc3.1 r h1 h3]) (fun r h1 h2 => by rw [mm_up_o h1]; exact br r h1 h2) (fun q h1 h2 h3 h4 h5 h6 h7 => by rw [up_o2 (by omega)]; exact bm q h3 h4 h5 h6 h7) ?_ ⟨0, by omega, ?_, ?_, fun q hq => absurd hq (Nat.not_lt_zero q)⟩ ?_⟩
      · rw [eC, snd_f ne, Option.bind_some, if_pos rfl, e15']
      · show f11_laws SZ 1000 167 Im Jm = _
        rw [eM]
        unfold f11_laws_70
        rw [if_neg (nI_nle (by omega) (by omega))]
      · rw [mm_up_o (by omega), fc3.1 r (by omega) (by omega)]
      · rw [mm_up_o (by omega)]
        exact br r (by omega) (by omega)
      · refine rR.c hB.2.2.2.1 (fun q _ => by rw [mm_up_o (by omega), fc3.1 26 (by omega) (by omega)]) (fun q h1 h2 => by rw [up_o2 (by omega)]; exact bm q (by omega) (by omega) (by omega) (by omega) (by omega))
      · rw [up_s2]; rfl
      · rw [up_s2]; rfl
      · show mm_up I3 1 1 0 1 6 = _
        rw [up_o2 (by omega), up_o2 (by omega)]
        exact u7
  · refine ⟨-1000000003, I, J, Im, Jm, T, P, ?_, ?_, fun _ _ => rfl, fun _ _ => rfl, hB.mono (by omega)⟩
    · unfold f10_laws
      rw [show mm_rf SZ 0 0 = 1 by simp (disch := omega) only [↓M1, ↓ofNat_nI, L0, L1, L2, L3, L4, L5, L6, L7, L8, L9, L10, L12, L31, L32, L40, L48, L50, L99, L100, L120, L180, L256, L500, n_lt0, n_ge0, n_let, n_lef, n_ltt, n_ltf, n_eqt, n_eqf, m_lt, m_le, m_eq, m_eq2, m_le2, m_lt2, m_nle, m_nlt, if_true, if_false, eq_self, Option.bind_some, mb0, mb1, mbb, mbn0, mbn1, not_true, not_false_eq_true, reduceIte, Bool.false_eq_true, nI_add, nI_clamp, pk_mul, in_t, in_f, in_m, zr, za, at_SZ, put_SZ, rd_at, wr_at, rd_m, wr_m], hc.2.1, if_neg (show ¬ nI L ≤ 200 from nI_ge (a := 200) (by omega) (by omega))]
    · show f11_laws SZ 1000 167 Im Jm = _
      unfold f11_laws
      rw [hm.2.1, if_neg (show ¬ nI L ≤ 200 from nI_ge (a := 200) (by omega) (by omega))]
