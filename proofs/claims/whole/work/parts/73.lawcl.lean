/-! ===== part 73: one clause of the laws, both sides (written by wip/whole/pre.py) ===== -/
section LCL
variable {tx : Nat → Nat} {L : Nat} {Ic Im : mm_I} {Jc Jm : mm_J}
/-- where a number's clause ends -/
def nx (tx : Nat → Nat) (L s1 : Nat) : Nat := sk tx L (ten tx L s1)
theorem ncl_c {n s1 k : Nat} {lo hi : Int32} (hn : 501 ≤ n) (h : cT tx L Ic) (hs : s1 ≤ L) (ha : cA tx L s1 Ic) (h5 : Ic 1 5 = nI 0) (hk : k < 6) : ∃ I', ((f4_number SZ n 1 lo hi Ic Jc).bind fun o18 => f7_readClause_155 SZ n 1 (mm_up o18.2.1 27 k o18.1) o18.2.2) = some (I', Jc) ∧ fL Ic I' ∧ ((okN tx L s1 lo hi ∧ tok tx L (nx tx L s1) = 3 ∧ I' 1 5 = nI 0 ∧ I' 1 6 = Ic 1 6 ∧ cA tx L (sk tx L (ten tx L (nx tx L s1))) I' ∧ I' 27 k = nI (dv tx s1 (ten tx L s1 - s1)) ∧ ∀ j, j ≠ k → I' 27 j = Ic 27 j) ∨ (¬ okN tx L s1 lo hi ∧ I' 1 5 = nI (bad tx L s1) ∧ I' 1 6 = nI s1) ∨ (okN tx L s1 lo hi ∧ ¬ tok tx L (nx tx L s1) = 3 ∧ I' 1 5 = nI 1 ∧ I' 1 6 = nI (nx tx L s1))) := by
  have hL := h.1
  obtain ⟨r, I1, k1, k2, k3⟩ := num_c (Jc := Jc) (lo := lo) (hi := hi) hn h hs ha h5
  have f1 : fL Ic (mm_up I1 27 k r) := k2.l.trans fL.up
  have e5 : mm_up I1 27 k r 1 5 = I1 1 5 := up_o2 (by omega)
  have e6 : mm_up I1 27 k r 1 6 = I1 1 6 := up_o2 (by omega)
  have eA : ∀ s, cA tx L s I1 → cA tx L s (mm_up I1 27 k r) := fun s q => ⟨by rw [up_o2 (by omega)]; exact q.1, by rw [up_o2 (by omega)]; exact q.2.1, by rw [up_o2 (by omega)]; exact q.2.2⟩
  rw [k1, Option.bind_some]
  unfold f7_readClause_155
  dsimp only
  rcases k3 with ⟨w1, w2, w3, w4, w5⟩ | ⟨w1, w2, w3, w4, w5⟩
  · obtain ⟨I2, u1, u2, u3⟩ := stop_c (Jc := Jc) hn (h.l f1) (sk_le tx L _) (eA _ w5) (by rw [e5]; exact w3)
    refine ⟨I2, by rw [u1]; rfl, f1.trans u2.l, ?_⟩
    rcases u3 with ⟨v1, v2, v3, v4⟩ | ⟨v1, v2, v3⟩
    · refine Or.inl ⟨w1, v1, v2, by rw [v3, e6, w4], v4, by rw [u2.1 27 (by omega), up_s2, w2], fun j hj => by rw [u2.1 27 (by omega), up_o2 (by omega), k2.1 27 (by omega)]⟩
    · exact Or.inr (Or.inr ⟨w1, v1, v2, v3⟩)
  · have ne : ¬ mm_up I1 27 k r 1 5 = nI 0 := by
      rw [e5, w3]
      unfold bad
      split <;> decide
    refine ⟨mm_up I1 27 k r, by rw [stop_x ne]; rfl, f1, Or.inr (Or.inl ⟨w1, by rw [e5]; exact w3, by rw [e6]; exact w4⟩)⟩
/-- .. when a fault stands already -/
theorem ncl_x {n s1 k : Nat} {lo hi : Int32} (hn : 501 ≤ n) (h : cT tx L Ic) (hs : s1 ≤ L) (ha : cA tx L s1 Ic) (h5 : ¬ Ic 1 5 = nI 0) : ((f4_number SZ n 1 lo hi Ic Jc).bind fun o18 => f7_readClause_155 SZ n 1 (mm_up o18.2.1 27 k o18.1) o18.2.2) = some (mm_up Ic 27 k m1, Jc) := by
  rw [num_x hn h hs ha h5, Option.bind_some]
  unfold f7_readClause_155
  dsimp only
  rw [stop_x (by rw [up_o2 (by omega)]; exact h5)]
  rfl
def fLm (I I' : mm_I) : Prop := (∀ r, r ≠ 167 → r ≠ 189 → I' r = I r) ∧ ∀ k, k ≠ 28 → k ≠ 29 → k ≠ 31 → k ≠ 32 → k ≠ 33 → I' 167 k = I 167 k
theorem fT.l {I I' : mm_I} (h : fT I I') : fLm I I' := ⟨fun r h1 _ => h.1 r h1, h.2⟩
theorem fLm.trans {I I1 I2 : mm_I} (h : fLm I I1) (g : fLm I1 I2) : fLm I I2 := ⟨fun r h1 h2 => (g.1 r h1 h2).trans (h.1 r h1 h2), fun k h1 h2 h3 h4 h5 => (g.2 k h1 h2 h3 h4 h5).trans (h.2 k h1 h2 h3 h4 h5)⟩
theorem fLm.refl {I : mm_I} : fLm I I := fT.refl.l
theorem fLm.up {I : mm_I} {k : Nat} {x : Int32} : fLm I (mm_up I 189 k x) := ⟨fun r _ h2 => mm_up_o h2, fun k _ _ _ _ _ => by rw [mm_up_o (by omega)]⟩
theorem mT.l {I I' : mm_I} (h : mT tx L I) (f : fLm I I') : mT tx L I' := h.c (f.2 27 (by omega) (by omega) (by omega) (by omega) (by omega)) (f.1 184 (by omega) (by omega))
theorem ncl_m {n s1 a k : Nat} {lo hi : Int32} (hn : 501 ≤ n) (h : mT tx L Im) (ha : a ≤ L) (hsa : sk tx L a = s1) (g9 : Im 167 29 = nI a) (hk : k < 6) : ∃ r I', f11_takeLaw_301 SZ n 167 167 189 (nI k) lo hi Im Jm = some (r, I', Jm) ∧ fLm Im I' ∧ ((okN tx L s1 lo hi ∧ tok tx L (nx tx L s1) = 3 ∧ r = nI 0 ∧ I' 167 29 = nI (ten tx L (nx tx L s1)) ∧ I' 167 28 = Im 167 28 ∧ I' 189 k = nI (dv tx s1 (ten tx L s1 - s1)) ∧ ∀ j, j ≠ k → I' 189 j = Im 189 j) ∨ (¬ okN tx L s1 lo hi ∧ r = nI (bad tx L s1) ∧ I' 167 28 = nI s1) ∨ (okN tx L s1 lo hi ∧ ¬ tok tx L (nx tx L s1) = 3 ∧ r = nI 1 ∧ I' 167 28 = nI (nx tx L s1))) := by
  have hL := h.1
  obtain ⟨r, I1, k1, k2, k3⟩ := num_m (Jm := Jm) (lo := lo) (hi := hi) hn h ha hsa g9
  have ib : mm_inb (nI k) (mm_al SZ 189) = true := by simp (disch := omega) only [↓M1, ↓ofNat_nI, L0, L1, L2, L3, L4, L5, L6, L7, L8, L9, L10, L12, L31, L32, L40, L48, L50, L99, L100, L120, L180, L256, L500, n_lt0, n_ge0, n_let, n_lef, n_ltt, n_ltf, n_eqt, n_eqf, m_lt, m_le, m_eq, m_eq2, m_le2, m_lt2, m_nle, m_nlt, if_true, if_false, eq_self, Option.bind_some, mb0, mb1, mbb, mbn0, mbn1, not_true, not_false_eq_true, reduceIte, Bool.false_eq_true, nI_add, nI_clamp, pk_mul, in_t, in_f, in_m, zr, za, at_SZ, put_SZ, rd_at, wr_at, rd_m, wr_m]
  have f1 : fLm Im (mm_up I1 189 k (I1 167 32)) := k2.l.trans fLm.up
  unfold f11_takeLaw_301 f11_into f11_takeLaw_305 f11_takeLaw_317
  rw [k1, Option.bind_some]
  dsimp only
  rw [if_pos ib, nI_clamp (by omega), Option.bind_some]
  dsimp only
  rcases k3 with ⟨w1, w2, w3, w4, w5, w6⟩ | ⟨w1, w2, w3⟩
  · obtain ⟨r2, I2, u1, u2, u3⟩ := stop_m (Jm := Jm) (n := n) (s := nx tx L s1) (a := ten tx L s1) (Im := mm_up I1 189 k (I1 167 32)) hn (h.l f1) (ten_le tx L s1) rfl (by rw [up_o2 (by omega)]; exact w3)
    refine ⟨r2, I2, ?_, f1.trans u2.l, ?_⟩
    · rw [w2, if_pos (show nI 0 ≤ 0 by decide), u1]
      rfl
    · rcases u3 with ⟨v1, v2, v3, v4⟩ | ⟨v1, v2, v3⟩
      · exact Or.inl ⟨w1, v1, v2, v3, by rw [v4, up_o2 (by omega), w5], by rw [u2.1 189 (by omega), up_s2, w4], fun j hj => by rw [u2.1 189 (by omega), up_o2 (by omega), k2.1 189 (by omega)]⟩
      · exact Or.inr (Or.inr ⟨w1, v1, v2, v3⟩)
  · refine ⟨r, mm_up I1 189 k (I1 167 32), ?_, f1, Or.inr (Or.inl ⟨w1, w2, by rw [up_o2 (by omega)]; exact w3⟩)⟩
    rw [w2, if_neg (show ¬ nI (bad tx L s1) ≤ 0 by unfold bad; split <;> decide)]
theorem m193 {n k : Nat} {I : mm_I} {J : mm_J} (hk : k < 5) (hS : I 189 k = m1) : f11_takeLaw_193 SZ n 167 (nI k) I J = f11_takeLaw_301 SZ n 167 167 189 (nI k) (nI (lwLo k)) (nI (lwHi k)) (mm_up I 167 29 (I 167 31)) J := by
  have : k = 0 ∨ k = 1 ∨ k = 2 ∨ k = 3 ∨ k = 4 := by omega
  unfold f11_takeLaw_193 f11_takeLaw_266 f11_takeLaw_271
  rcases this with rfl | rfl | rfl | rfl | rfl
  · simp (disch := omega) only [↓M1, ↓ofNat_nI, L0, L1, L2, L3, L4, L5, L6, L7, L8, L9, L10, L12, L31, L32, L40, L48, L50, L99, L100, L120, L180, L256, L500, n_lt0, n_ge0, n_let, n_lef, n_ltt, n_ltf, n_eqt, n_eqf, m_lt, m_le, m_eq, m_eq2, m_le2, m_lt2, m_nle, m_nlt, if_true, if_false, eq_self, Option.bind_some, mb0, mb1, mbb, mbn0, mbn1, not_true, not_false_eq_true, reduceIte, Bool.false_eq_true, nI_add, nI_clamp, pk_mul, in_t, in_f, in_m, zr, za, at_SZ, put_SZ, rd_at, wr_at, rd_m, wr_m, hS]
    rfl
  · simp (disch := omega) only [↓M1, ↓ofNat_nI, L0, L1, L2, L3, L4, L5, L6, L7, L8, L9, L10, L12, L31, L32, L40, L48, L50, L99, L100, L120, L180, L256, L500, n_lt0, n_ge0, n_let, n_lef, n_ltt, n_ltf, n_eqt, n_eqf, m_lt, m_le, m_eq, m_eq2, m_le2, m_lt2, m_nle, m_nlt, if_true, if_false, eq_self, Option.bind_some, mb0, mb1, mbb, mbn0, mbn1, not_true, not_false_eq_true, reduceIte, Bool.false_eq_true, nI_add, nI_clamp, pk_mul, in_t, in_f, in_m, zr, za, at_SZ, put_SZ, rd_at, wr_at, rd_m, wr_m, hS]
    rfl
  · simp (disch := omega) only [↓M1, ↓ofNat_nI, L0, L1, L2, L3, L4, L5, L6, L7, L8, L9, L10, L12, L31, L32, L40, L48, L50, L99, L100, L120, L180, L256, L500, n_lt0, n_ge0, n_let, n_lef, n_ltt, n_ltf, n_eqt, n_eqf, m_lt, m_le, m_eq, m_eq2, m_le2, m_lt2, m_nle, m_nlt, if_true, if_false, eq_self, Option.bind_some, mb0, mb1, mbb, mbn0, mbn1, not_true, not_false_eq_true, reduceIte, Bool.false_eq_true, nI_add, nI_clamp, pk_mul, in_t, in_f, in_m, zr, za, at_SZ, put_SZ, rd_at, wr_at, rd_m, wr_m, hS]
    rfl
  · simp (disch := omega) only [↓M1, ↓ofNat_nI, L0, L1, L2, L3, L4, L5, L6, L7, L8, L9, L10, L12, L31, L32, L40, L48, L50, L99, L100, L120, L180, L256, L500, n_lt0, n_ge0, n_let, n_lef, n_ltt, n_ltf, n_eqt, n_eqf, m_lt, m_le, m_eq, m_eq2, m_le2, m_lt2, m_nle, m_nlt, if_true, if_false, eq_self, Option.bind_some, mb0, mb1, mbb, mbn0, mbn1, not_true, not_false_eq_true, reduceIte, Bool.false_eq_true, nI_add, nI_clamp, pk_mul, in_t, in_f, in_m, zr, za, at_SZ, put_SZ, rd_at, wr_at, rd_m, wr_m, hS]
    rfl
  · simp (disch := omega) only [↓M1, ↓ofNat_nI, L0, L1, L2, L3, L4, L5, L6, L7, L8, L9, L10, L12, L31, L32, L40, L48, L50, L99, L100, L120, L180, L256, L500, n_lt0, n_ge0, n_let, n_lef, n_ltt, n_ltf, n_eqt, n_eqf, m_lt, m_le, m_eq, m_eq2, m_le2, m_lt2, m_nle, m_nlt, if_true, if_false, eq_self, Option.bind_some, mb0, mb1, mbb, mbn0, mbn1, not_true, not_false_eq_true, reduceIte, Bool.false_eq_true, nI_add, nI_clamp, pk_mul, in_t, in_f, in_m, zr, za, at_SZ, put_SZ, rd_at, wr_at, rd_m, wr_m, hS]
    rfl
theorem m193d {n k v : Nat} {I : mm_I} {J : mm_J} (hk : k < 6) (hv : v ≤ 200) (hS : I 189 k = nI v) : f11_takeLaw_193 SZ n 167 (nI k) I J = some (nI 3, mm_up I 167 28 (I 167 29), J) := by
  have ib : mm_inb (nI k) (mm_al SZ (mm_rf SZ 167 41)) = true := by simp (disch := omega) only [↓M1, ↓ofNat_nI, L0, L1, L2, L3, L4, L5, L6, L7, L8, L9, L10, L12, L31, L32, L40, L48, L50, L99, L100, L120, L180, L256, L500, n_lt0, n_ge0, n_let, n_lef, n_ltt, n_ltf, n_eqt, n_eqf, m_lt, m_le, m_eq, m_eq2, m_le2, m_lt2, m_nle, m_nlt, if_true, if_false, eq_self, Option.bind_some, mb0, mb1, mbb, mbn0, mbn1, not_true, not_false_eq_true, reduceIte, Bool.false_eq_true, nI_add, nI_clamp, pk_mul, in_t, in_f, in_m, zr, za, at_SZ, put_SZ, rd_at, wr_at, rd_m, wr_m]
  unfold f11_takeLaw_193 f11_takeLaw_207 f11_takeLaw_217 f11_fails
  rw [if_neg (nI_pos (by omega)), if_pos ib, show mm_rf SZ 167 41 = 189 by simp (disch := omega) only [↓M1, ↓ofNat_nI, L0, L1, L2, L3, L4, L5, L6, L7, L8, L9, L10, L12, L31, L32, L40, L48, L50, L99, L100, L120, L180, L256, L500, n_lt0, n_ge0, n_let, n_lef, n_ltt, n_ltf, n_eqt, n_eqf, m_lt, m_le, m_eq, m_eq2, m_le2, m_lt2, m_nle, m_nlt, if_true, if_false, eq_self, Option.bind_some, mb0, mb1, mbb, mbn0, mbn1, not_true, not_false_eq_true, reduceIte, Bool.false_eq_true, nI_add, nI_clamp, pk_mul, in_t, in_f, in_m, zr, za, at_SZ, put_SZ, rd_at, wr_at, rd_m, wr_m], nI_clamp (by omega), hS, if_neg (nI_pos (by omega)), if_pos (nI_pos' (by omega))]
  rfl
theorem m193n {n : Nat} {I : mm_I} {J : mm_J} : f11_takeLaw_193 SZ n 167 (-1) I J = some (nI 1, mm_up I 167 28 (I 167 29), J) := by
  unfold f11_takeLaw_193 f11_takeLaw_207 f11_takeLaw_217 f11_fails
  rw [if_pos (show (-1 : Int32) < 0 by decide), if_neg (show ¬ (0 : Int32) ≤ -1 by decide)]
  rfl
/-- what a clause comes to, on both sides -/
def CL (tx : Nat → Nat) (L n s : Nat) (S : Nat → Bool) (Ic Im : mm_I) (Jc Jm : mm_J) : Prop := ∃ Ic' Im' J' r, f7_readClause SZ n 27 1 Ic Jc = some (Ic', Jc) ∧ f11_takeLaw SZ n 167 Im Jm = some (r, Im', J') ∧ fL Ic Ic' ∧ fLm Im Im' ∧ ((∃ k v' a, k < 6 ∧ S k = false ∧ a ≤ L ∧ s < sk tx L a ∧ r = nI 0 ∧ lrel (fun j => S j || k == j) v' Ic' Im' ∧ cA tx L (sk tx L a) Ic' ∧ Im' 167 29 = nI a ∧ Ic' 1 5 = nI 0 ∧ Ic' 1 6 = Ic 1 6 ∧ Im' 167 28 = Im 167 28) ∨ ∃ f pl, 1 ≤ f ∧ f ≤ 4 ∧ r = nI f ∧ Ic' 1 5 = nI f ∧ Ic' 1 6 = nI pl ∧ Im' 167 28 = nI pl)
theorem sk_ge {a : Nat} (ha : a ≤ L) : a ≤ sk tx L a := rnk_ge ha
/-- a clause with a number -/
theorem cl_num {n s k r : Nat} {l : List Nat} {x : Int32} {S : Nat → Bool} {v : Nat → Nat} (hn : 501 ≤ n) (hc : cT tx L Ic) (hm : mT tx L Im) (hs : s ≤ L) (ha : cA tx L s Ic) (h5 : Ic 1 5 = nI 0) (hr : isC r l) (hl : 0 < l.length ∧ l.length ≤ 9) (h256 : ∀ k, k < l.length → l.getD k 0 < 256) (hw : wd tx L l s = true) (hk : k < 5) (hx : x = nI 1 <<< (nI k &&& nI 31)) (h : lrel S v Ic Im)
    (eC : ∀ I1, f7_opens SZ n 27 1 r x Ic Jc = some (1, I1, Jc) → f7_readClause SZ n 27 1 Ic Jc = ((f4_number SZ n 1 (nI (lwLo k)) (nI (lwHi k)) I1 Jc).bind fun o18 => f7_readClause_155 SZ n 1 (mm_up o18.2.1 27 k o18.1) o18.2.2))
    {I1 : mm_I} {J1 : mm_J} (f1 : fT Im I1) (e29 : I1 167 29 = nI s) (e31 : I1 167 31 = nI (lr tx L s)) (e28 : I1 167 28 = Im 167 28) (eM : f11_takeLaw SZ n 167 Im Jm = f11_takeLaw_193 SZ n 167 (nI k) I1 J1) : CL tx L n s S Ic Im Jc Jm := by
  have hL := hc.1
  obtain ⟨w1, w2, w3, w4⟩ := wd_tok hs hl.1 hw
  obtain ⟨I2, o1, o2, o3, o4, o5, o6⟩ := opens_y (Jc := Jc) hn hc hs ha h5 hr hl h256 hw (show k < 8 by omega) hx h.1
  have hc2 := hc.l o2
  have el : s + l.length ≤ L := by rw [← w2]; exact ten_le tx L s
  have e189 : I1 189 k = if S k = true then nI (v k) else m1 := by rw [f1.1 189 (by omega)]; exact h.2.2.1 k (by omega)
  rcases o6 with ⟨hS, p5, p6⟩ | ⟨hS, p5, p6⟩
  · rw [hS, if_neg (by decide)] at e189
    obtain ⟨Ic', c1, c2, c3⟩ := ncl_c (Jc := Jc) (k := k) (lo := nI (lwLo k)) (hi := nI (lwHi k)) hn hc2 (sk_le tx L _) o5 p5 (by omega)
    have f2 : fT I1 (mm_up I1 167 29 (nI (lr tx L s))) := fT.up (by omega)
    obtain ⟨r, Im', m1', m2', m3'⟩ := ncl_m (Jm := J1) (k := k) (a := lr tx L s) (lo := nI (lwLo k)) (hi := nI (lwHi k)) (Im := mm_up I1 167 29 (nI (lr tx L s))) hn ((hm.f f1).f f2) (by rw [w3]; exact el) (by rw [w3]) up_s2 (by omega)
    refine ⟨Ic', Im', J1, r, (eC I2 o1).trans c1, ?_, o2.trans c2, (f1.l.trans f2.l).trans m2', ?_⟩
    · rw [eM, m193 hk e189, e31]
      exact m1'
    · rcases c3 with ⟨q1, q2, q3, q4, q5, q6, q7⟩ | ⟨q1, q2, q3⟩ | ⟨q1, q2, q3, q4⟩
      · rcases m3' with ⟨r1, r2, r3, r4, r5, r6, r7⟩ | ⟨r1, -⟩ | ⟨-, r2, -⟩
        · refine Or.inl ⟨k, _, ten tx L (nx tx L (sk tx L (s + l.length))), by omega, hS, ten_le tx L _, ?_, r3, lrel.add (x := dv tx (sk tx L (s + l.length)) (ten tx L (sk tx L (s + l.length)) - sk tx L (s + l.length))) h hk ?_ ?_ q6 ?_ r6 ?_, q5, r4, q3, by rw [q4, p6], by rw [r5, up_o2 (by omega), e28]⟩
          · obtain ⟨-, -, t3⟩ := ten_stop q2
            have := sk_ge (tx := tx) (ten_le tx L (nx tx L (sk tx L (s + l.length))))
            have g1 := sk_ge (tx := tx) el
            have g2 := sk_ge (tx := tx) (ten_le tx L (sk tx L (s + l.length)))
            have hsl : sk tx L (s + l.length) < L := by
              have := q1.1
              unfold tok at this
              split at this
              · assumption
              · omega
            have g3 := (ten_run hsl q1.1 (Or.inr rfl)).2.1
            have g4 : nx tx L (sk tx L (s + l.length)) = sk tx L (ten tx L (sk tx L (s + l.length))) := rfl
            omega
          · have y3 := q1.2.2.1
            have y4 := q1.2.2.2
            have hk' : k = 0 ∨ k = 1 ∨ k = 2 ∨ k = 3 ∨ k = 4 := by omega
            have hlh : lwLo k ≤ 1 ∧ lwHi k ≤ 120 := by
              rcases hk' with rfl | rfl | rfl | rfl | rfl <;> decide
            have hdv : dv tx (sk tx L (s + l.length)) (ten tx L (sk tx L (s + l.length)) - sk tx L (s + l.length)) < 2 ^ 31 := by
              have hsl : sk tx L (s + l.length) < L := by
                have := q1.1
                unfold tok at this
                split at this
                · assumption
                · omega
              have g3 := ten_run hsl q1.1 (Or.inr rfl)
              have := dv_le (tx := tx) (s := sk tx L (s + l.length)) (i := ten tx L (sk tx L (s + l.length)) - sk tx L (s + l.length)) (fun j hj => tkn_2.mp (g3.2.2.1 _ (by omega) (by omega)))
              have h10 := Nat.pow_le_pow_right (n := 10) (by decide) q1.2.1
              omega
            exact ⟨(nI_leI (by omega) hdv).mp y3, (nI_leI hdv (by omega)).mp y4⟩
          · rw [q7 6 (by omega)]; exact o4
          · intro j hj6 hjk
            rw [q7 j hjk, o3 j hj6]
          · intro j hj
            rw [r7 j hj, mm_up_o (by omega), f1.1 189 (by omega)]
        · exact absurd q1 r1
        · exact absurd q2 r2
      · rcases m3' with ⟨r1, -⟩ | ⟨r1, r2, r3⟩ | ⟨r1, -⟩
        · exact absurd r1 q1
        · refine Or.inr ⟨bad tx L (sk tx L (s + l.length)), sk tx L (s + l.length), ?_, ?_, r2, q2, q3, r3⟩
          · unfold bad; split <;> omega
          · unfold bad; split <;> omega
        · exact absurd r1 q1
      · rcases m3' with ⟨-, r2, -⟩ | ⟨r1, -⟩ | ⟨r1, r2, r3, r4⟩
        · exact absurd r2 q2
        · exact absurd q1 r1
        · exact Or.inr ⟨1, _, by omega, by omega, r3, q3, q4, r4⟩
  · rw [hS, if_pos rfl] at e189
    have hv : v k ≤ 200 := by
      have := (h.2.2.2.2.2.1 k hk hS).2
      have hk' : k = 0 ∨ k = 1 ∨ k = 2 ∨ k = 3 ∨ k = 4 := by omega
      have hlh : lwHi k ≤ 120 := by
        rcases hk' with rfl | rfl | rfl | rfl | rfl <;> decide
      omega
    have ne : ¬ I2 1 5 = nI 0 := by rw [p5]; decide
    have c1 := ncl_x (Jc := Jc) (k := k) (lo := nI (lwLo k)) (hi := nI (lwHi k)) hn hc2 (sk_le tx L _) o5 ne
    refine ⟨mm_up I2 27 k m1, mm_up I1 167 28 (I1 167 29), J1, nI 3, (eC I2 o1).trans c1, ?_, o2.trans fL.up, f1.l.trans (fT.up (by omega)).l, Or.inr ⟨3, s, by omega, by omega, rfl, by rw [up_o2 (by omega)]; exact p5, by rw [up_o2 (by omega)]; exact p6, by rw [up_s2]; exact e29⟩⟩
    rw [eM, m193d (by omega) hv e189]
end LCL
