/-! ===== part 74: laws (written by wip/whole/pre.py) ===== -/
theorem lng {m c : Nat} {I : mm_I} {J : mm_J} (h : 97 ≤ c ∧ c ≤ 122) : f11_longer SZ (lN m) (nI c) I J = some (lN (27 * m + c - 96)) := by
  unfold f11_longer
  rw [show (27 : Int64) * lN m = lN (27 * m) from lN_mul 27 _, nI_l (by omega), lN_add, show lN (27 * m + c) - 96 = lN (27 * m + c - 96) from lN_sub (b := 96) (by omega)]
theorem abc {l : List Nat} (h : ∀ k : Fin l.length, 97 ≤ l.getD k.1 0 ∧ l.getD k.1 0 ≤ 122) : ∀ k, k < l.length → 97 ≤ l.getD k 0 ∧ l.getD k 0 ≤ 122 := fun k hk => h ⟨k, hk⟩
theorem lt256 {l : List Nat} (h : ∀ k, k < l.length → 97 ≤ l.getD k 0 ∧ l.getD k 0 ≤ 122) : ∀ k, k < l.length → l.getD k 0 < 256 := fun k hk => by
  have := h k hk
  omega
theorem aHolds : ∀ k, k < wHolds.length → 97 ≤ wHolds.getD k 0 ∧ wHolds.getD k 0 ≤ 122 := abc (by decide)
theorem aWitn : ∀ k, k < wWitn.length → 97 ≤ wWitn.getD k 0 ∧ wWitn.getD k 0 ≤ 122 := abc (by decide)
theorem aFades : ∀ k, k < wFades.length → 97 ≤ wFades.getD k 0 ∧ wFades.getD k 0 ≤ 122 := abc (by decide)
theorem aRusts : ∀ k, k < wRusts.length → 97 ≤ wRusts.getD k 0 ∧ wRusts.getD k 0 ≤ 122 := abc (by decide)
theorem aDies : ∀ k, k < wDies.length → 97 ≤ wDies.getD k 0 ∧ wDies.getD k 0 ≤ 122 := abc (by decide)
theorem aLent : ∀ k, k < wLent.length → 97 ≤ wLent.getD k 0 ∧ wLent.getD k 0 ≤ 122 := abc (by decide)
section LAW
variable {tx : Nat → Nat} {L : Nat} {Ic Im : mm_I} {Jc Jm : mm_J}
theorem takeLaw_eq {n s : Nat} {I1 : mm_I} {J1 : mm_J} (hs : s ≤ L) (e : f11_readWord SZ n 167 Im Jm = some (I1, J1)) (hJ : J1 167 30 = lN (cd tx s (lr tx L s - s))) : f11_takeLaw SZ n 167 Im Jm = if wd tx L wHolds s = true then f11_takeLaw_193 SZ n 167 0 I1 J1 else if wd tx L wWitn s = true then f11_takeLaw_193 SZ n 167 1 I1 J1 else if wd tx L wFades s = true then f11_takeLaw_193 SZ n 167 2 I1 J1 else if wd tx L wRusts s = true then f11_takeLaw_193 SZ n 167 3 I1 J1 else if wd tx L wDies s = true then f11_takeLaw_193 SZ n 167 4 I1 J1 else if wd tx L wLent s = true then f11_takeLaw_193 SZ n 167 5 I1 J1 else f11_takeLaw_193 SZ n 167 (-1) I1 J1 := by
  have c0 : f11_code SZ 104 111 108 100 I1 J1 = some (lN (vlK wHolds 4)) := by unfold f11_code; decide +kernel
  have c1 : f11_code SZ 119 105 116 110 I1 J1 = some (lN (vlK wWitn 4)) := by unfold f11_code; decide +kernel
  have c2 : f11_code SZ 102 97 100 101 I1 J1 = some (lN (vlK wFades 4)) := by unfold f11_code; decide +kernel
  have c3 : f11_code SZ 114 117 115 116 I1 J1 = some (lN (vlK wRusts 4)) := by unfold f11_code; decide +kernel
  have c4 : f11_code SZ 100 105 101 115 I1 J1 = some (lN (vlK wDies 4)) := by unfold f11_code; decide +kernel
  have c5 : f11_code SZ 108 101 110 116 I1 J1 = some (lN (vlK wLent 4)) := by unfold f11_code; decide +kernel
  have l0 : f11_longer SZ (lN (vlK wHolds 4)) 115 I1 J1 = some (lN (vlK wHolds 5)) := lng (c := 115) (by omega)
  have l1 : f11_longer SZ (lN (vlK wWitn 4)) 101 I1 J1 = some (lN (vlK wWitn 5)) := lng (c := 101) (by omega)
  have l2 : f11_longer SZ (lN (vlK wWitn 5)) 115 I1 J1 = some (lN (vlK wWitn 6)) := lng (c := 115) (by omega)
  have l3 : f11_longer SZ (lN (vlK wWitn 6)) 115 I1 J1 = some (lN (vlK wWitn 7)) := lng (c := 115) (by omega)
  have l4 : f11_longer SZ (lN (vlK wWitn 7)) 101 I1 J1 = some (lN (vlK wWitn 8)) := lng (c := 101) (by omega)
  have l5 : f11_longer SZ (lN (vlK wWitn 8)) 115 I1 J1 = some (lN (vlK wWitn 9)) := lng (c := 115) (by omega)
  have l6 : f11_longer SZ (lN (vlK wFades 4)) 115 I1 J1 = some (lN (vlK wFades 5)) := lng (c := 115) (by omega)
  have l7 : f11_longer SZ (lN (vlK wRusts 4)) 115 I1 J1 = some (lN (vlK wRusts 5)) := lng (c := 115) (by omega)
  have n0 : ∀ k : Nat, k < 3 → f11_takeLaw_109 SZ n 167 (nI k) I1 J1 = f11_takeLaw_193 SZ n 167 (nI k) I1 J1 := fun k hk => by
    unfold f11_takeLaw_109
    rw [if_neg (nI_pos (by omega))]
  unfold f11_takeLaw
  rw [e, Option.bind_some]
  dsimp only
  rw [c0, Option.bind_some, l0, Option.bind_some]
  refine (ite_cg (word_eq (l := wHolds) hs (by decide) aHolds hJ rfl)).trans ?_
  by_cases b0 : wd tx L wHolds s = true
  · rw [if_pos b0, if_pos b0]
    exact n0 0 (by omega)
  rw [if_neg b0, if_neg b0, c1, Option.bind_some, l1, Option.bind_some, l2, Option.bind_some, l3, Option.bind_some, l4, Option.bind_some, l5, Option.bind_some]
  refine (ite_cg (word_eq (l := wWitn) hs (by decide) aWitn hJ rfl)).trans ?_
  by_cases b1 : wd tx L wWitn s = true
  · rw [if_pos b1, if_pos b1]
    exact n0 1 (by omega)
  rw [if_neg b1, if_neg b1, c2, Option.bind_some, l6, Option.bind_some]
  refine (ite_cg (word_eq (l := wFades) hs (by decide) aFades hJ rfl)).trans ?_
  by_cases b2 : wd tx L wFades s = true
  · rw [if_pos b2, if_pos b2]
    exact n0 2 (by omega)
  rw [if_neg b2, if_neg b2]
  unfold f11_takeLaw_109
  rw [if_pos (show (-1 : Int32) < 0 by decide), c3, Option.bind_some, l7, Option.bind_some]
  refine (ite_cg (word_eq (l := wRusts) hs (by decide) aRusts hJ rfl)).trans ?_
  by_cases b3 : wd tx L wRusts s = true
  · rw [if_pos b3, if_pos b3]
  rw [if_neg b3, if_neg b3, c4, Option.bind_some]
  refine (ite_cg (word_eq (l := wDies) hs (by decide) aDies hJ rfl)).trans ?_
  by_cases b4 : wd tx L wDies s = true
  · rw [if_pos b4, if_pos b4]
  rw [if_neg b4, if_neg b4, c5, Option.bind_some]
  exact ite_cg (word_eq (l := wLent) hs (by decide) aLent hJ rfl)
/-- 'lent' -/
theorem cl_lent {n s : Nat} {S : Nat → Bool} {v : Nat → Nat} (hn : 501 ≤ n) (hc : cT tx L Ic) (hm : mT tx L Im) (hs : s ≤ L) (ha : cA tx L s Ic) (h5 : Ic 1 5 = nI 0) (hw : wd tx L wLent s = true) (h : lrel S v Ic Im)
    (eC : ∀ I1, f7_opens SZ n 27 1 (1000000 + 13) 32 Ic Jc = some (1, I1, Jc) → f7_readClause SZ n 27 1 Ic Jc = f7_readClause_155 SZ n 1 (mm_up I1 27 5 1) Jc)
    {I1 : mm_I} {J1 : mm_J} (f1 : fT Im I1) (e29 : I1 167 29 = nI s) (e31 : I1 167 31 = nI (lr tx L s)) (e28 : I1 167 28 = Im 167 28) (eM : f11_takeLaw SZ n 167 Im Jm = f11_takeLaw_193 SZ n 167 5 I1 J1) : CL tx L n s S Ic Im Jc Jm := by
  have hL := hc.1
  obtain ⟨w1, w2, w3, w4⟩ := wd_tok hs (show 0 < wLent.length by decide) hw
  obtain ⟨I2, o1, o2, o3, o4, o5, o6⟩ := opens_y (Jc := Jc) (k := 5) hn hc hs ha h5 iC13 (by decide) (lt256 aLent) hw (by omega) (by decide : (32 : Int32) = nI 1 <<< (nI 5 &&& nI 31)) h.1
  have el : s + wLent.length ≤ L := by rw [← w2]; exact ten_le tx L s
  have e189 : I1 189 5 = if S 5 = true then nI (v 5) else m1 := by rw [f1.1 189 (by omega)]; exact h.2.2.1 5 (by omega)
  have fc : fL Ic (mm_up I2 27 5 1) := o2.trans fL.up
  rcases o6 with ⟨hS, p5, p6⟩ | ⟨hS, p5, p6⟩
  · rw [hS, if_neg (by decide)] at e189
    obtain ⟨I3, c1, c2, c3⟩ := stop_c (Jc := Jc) (n := n) (Ic := mm_up I2 27 5 1) hn (hc.l fc) (sk_le tx L _) (show cA tx L (sk tx L (s + wLent.length)) (mm_up I2 27 5 1) from ⟨by rw [up_o2 (by omega)]; exact o5.1, by rw [up_o2 (by omega)]; exact o5.2.1, by rw [up_o2 (by omega)]; exact o5.2.2⟩) (by rw [up_o2 (by omega)]; exact p5)
    have fm : fLm Im (mm_up (mm_up I1 167 29 (nI (lr tx L s))) 189 5 1) := f1.l.trans ((fT.up (by omega)).l.trans fLm.up)
    obtain ⟨r, I4, d1, d2, d3⟩ := stop_m (Jm := J1) (n := n) (a := lr tx L s) (Im := mm_up (mm_up I1 167 29 (nI (lr tx L s))) 189 5 1) hn (hm.l fm) (by rw [w3]; exact el) rfl (by rw [up_o2 (by omega), up_s2])
    have ib : mm_inb 5 (mm_al SZ (mm_rf SZ 167 41)) = true := by simp (disch := omega) only [↓M1, ↓ofNat_nI, L0, L1, L2, L3, L4, L5, L6, L7, L8, L9, L10, L12, L31, L32, L40, L48, L50, L99, L100, L120, L180, L256, L500, n_lt0, n_ge0, n_let, n_lef, n_ltt, n_ltf, n_eqt, n_eqf, m_lt, m_le, m_eq, m_eq2, m_le2, m_lt2, m_nle, m_nlt, if_true, if_false, eq_self, Option.bind_some, mb0, mb1, mbb, mbn0, mbn1, not_true, not_false_eq_true, reduceIte, Bool.false_eq_true, nI_add, nI_clamp, pk_mul, in_t, in_f, in_m, zr, za, at_SZ, put_SZ, rd_at, wr_at, rd_m, wr_m]
    rw [w3] at d3
    refine ⟨I3, I4, J1, r, ?_, ?_, fc.trans c2.l, fm.trans d2.l, ?_⟩
    · rw [eC I2 o1]
      unfold f7_readClause_155
      rw [c1]
      rfl
    · rw [eM]
      unfold f11_takeLaw_193 f11_takeLaw_305 f11_takeLaw_317
      rw [if_neg (show ¬ (5 : Int32) < 0 by decide), if_pos ib, if_pos ib, show mm_rf SZ 167 41 = 189 by simp (disch := omega) only [↓M1, ↓ofNat_nI, L0, L1, L2, L3, L4, L5, L6, L7, L8, L9, L10, L12, L31, L32, L40, L48, L50, L99, L100, L120, L180, L256, L500, n_lt0, n_ge0, n_let, n_lef, n_ltt, n_ltf, n_eqt, n_eqf, m_lt, m_le, m_eq, m_eq2, m_le2, m_lt2, m_nle, m_nlt, if_true, if_false, eq_self, Option.bind_some, mb0, mb1, mbb, mbn0, mbn1, not_true, not_false_eq_true, reduceIte, Bool.false_eq_true, nI_add, nI_clamp, pk_mul, in_t, in_f, in_m, zr, za, at_SZ, put_SZ, rd_at, wr_at, rd_m, wr_m], show (5 : Int32).toNatClampNeg = 5 from by decide, e189, if_pos (show m1 < 0 by decide), if_pos rfl, if_pos (show (0 : Int32) ≤ 0 by decide), e31, d1]
      rfl
    · rcases c3 with ⟨q1, q2, q3, q4⟩ | ⟨q1, q2, q3⟩
      · rcases d3 with ⟨-, r2, r3, r4⟩ | ⟨r1, -⟩
        · refine Or.inl ⟨5, _, ten tx L (sk tx L (s + wLent.length)), by omega, hS, ten_le tx L _, ?_, r2, lrel.lent h ?_ ?_ ?_ ?_ ?_, q4, r3, q2, by rw [q3, up_o2 (by omega), p6], by rw [r4, up_o2 (by omega), up_o2 (by omega), e28]⟩
          · obtain ⟨-, -, t3⟩ := ten_stop q1
            have g1 := sk_ge (tx := tx) el
            have g2 := sk_ge (tx := tx) (ten_le tx L (sk tx L (s + wLent.length)))
            omega
          · rw [c2.1 27 (by omega), up_o2 (by omega)]; exact o4
          · rw [c2.1 27 (by omega), up_s2]
          · intro j hj
            rw [c2.1 27 (by omega), up_o2 (by omega), o3 j (by omega)]
          · rw [d2.1 189 (by omega), up_s2]
          · intro j hj
            rw [d2.1 189 (by omega), up_o2 (by omega), mm_up_o (by omega), f1.1 189 (by omega)]
        · exact absurd q1 r1
      · rcases d3 with ⟨r1, -⟩ | ⟨-, r2, r3⟩
        · exact absurd r1 q1
        · exact Or.inr ⟨1, _, by omega, by omega, r2, q2, q3, r3⟩
  · rw [hS, if_pos rfl, h.2.2.2.2.2.2 hS] at e189
    have ne : ¬ mm_up I2 27 5 1 1 5 = nI 0 := by rw [up_o2 (by omega), p5]; decide
    refine ⟨mm_up I2 27 5 1, mm_up I1 167 28 (I1 167 29), J1, nI 3, ?_, ?_, fc, f1.l.trans (fT.up (by omega)).l, Or.inr ⟨3, s, by omega, by omega, rfl, by rw [up_o2 (by omega)]; exact p5, by rw [up_o2 (by omega)]; exact p6, by rw [up_s2]; exact e29⟩⟩
    · rw [eC I2 o1]
      unfold f7_readClause_155
      rw [stop_x ne]
      rfl
    · rw [eM]
      exact m193d (k := 5) (v := 1) (by omega) (by omega) e189
/-- any clause of the laws -/
theorem clause_lock {n s a : Nat} {S : Nat → Bool} {v : Nat → Nat} (hn : 501 ≤ n) (hc : cT tx L Ic) (hm : mT tx L Im) (hs : s ≤ L) (ha : cA tx L s Ic) (h5 : Ic 1 5 = nI 0) (h : lrel S v Ic Im) (hal : a ≤ L) (hsa : sk tx L a = s) (g9 : Im 167 29 = nI a) : CL tx L n s S Ic Im Jc Jm := by
  obtain ⟨I1, J1, k1, f1, e29, e31, eJ, e28⟩ := word_m (Jm := Jm) hn hm hal hsa g9
  have eT := takeLaw_eq hs k1 eJ
  have r0 := fun (w : wd tx L wHolds s = false) => opens_n (Jc := Jc) (k := 0) (x := 1) hn hc hs ha iC8 (by decide) (lt256 aHolds) w
  have r1 := fun (w : wd tx L wWitn s = false) => opens_n (Jc := Jc) (k := 0) (x := 2) hn hc hs ha iC9 (by decide) (lt256 aWitn) w
  have r2 := fun (w : wd tx L wFades s = false) => opens_n (Jc := Jc) (k := 0) (x := 4) hn hc hs ha iC10 (by decide) (lt256 aFades) w
  have r3 := fun (w : wd tx L wRusts s = false) => opens_n (Jc := Jc) (k := 0) (x := 8) hn hc hs ha iC11 (by decide) (lt256 aRusts) w
  have r4 := fun (w : wd tx L wDies s = false) => opens_n (Jc := Jc) (k := 0) (x := 16) hn hc hs ha iC12 (by decide) (lt256 aDies) w
  have r5 := fun (w : wd tx L wLent s = false) => opens_n (Jc := Jc) (k := 0) (x := 32) hn hc hs ha iC13 (by decide) (lt256 aLent) w
  by_cases b0 : wd tx L wHolds s = true
  · rw [if_pos b0] at eT
    refine cl_num (k := 0) (x := 1) hn hc hm hs ha h5 iC8 (by decide) (lt256 aHolds) b0 (by omega) (by decide) h (fun I1 e => ?_) f1 e29 e31 e28 eT
    unfold f7_readClause
    rw [e, Option.bind_some, if_neg n10]
    rfl
  rw [if_neg b0] at eT
  have r0 := r0 (eq_false_of_ne_true b0)
  by_cases b1 : wd tx L wWitn s = true
  · rw [if_pos b1] at eT
    refine cl_num (k := 1) (x := 2) hn hc hm hs ha h5 iC9 (by decide) (lt256 aWitn) b1 (by omega) (by decide) h (fun I1 e => ?_) f1 e29 e31 e28 eT
    unfold f7_readClause
    rw [r0, Option.bind_some, if_pos rfl, e, Option.bind_some, if_neg n10]
    rfl
  rw [if_neg b1] at eT
  have r1 := r1 (eq_false_of_ne_true b1)
  by_cases b2 : wd tx L wFades s = true
  · rw [if_pos b2] at eT
    refine cl_num (k := 2) (x := 4) hn hc hm hs ha h5 iC10 (by decide) (lt256 aFades) b2 (by omega) (by decide) h (fun I1 e => ?_) f1 e29 e31 e28 eT
    unfold f7_readClause
    rw [r0, Option.bind_some, if_pos rfl, r1, Option.bind_some, if_pos rfl, e, Option.bind_some, if_neg n10]
    rfl
  rw [if_neg b2] at eT
  have r2 := r2 (eq_false_of_ne_true b2)
  by_cases b3 : wd tx L wRusts s = true
  · rw [if_pos b3] at eT
    refine cl_num (k := 3) (x := 8) hn hc hm hs ha h5 iC11 (by decide) (lt256 aRusts) b3 (by omega) (by decide) h (fun I1 e => ?_) f1 e29 e31 e28 eT
    unfold f7_readClause
    rw [r0, Option.bind_some, if_pos rfl, r1, Option.bind_some, if_pos rfl, r2, Option.bind_some, if_pos rfl, e, Option.bind_some, if_neg n10]
    rfl
  rw [if_neg b3] at eT
  have r3 := r3 (eq_false_of_ne_true b3)
  by_cases b4 : wd tx L wDies s = true
  · rw [if_pos b4] at eT
    refine cl_num (k := 4) (x := 16) hn hc hm hs ha h5 iC12 (by decide) (lt256 aDies) b4 (by omega) (by decide) h (fun I1 e => ?_) f1 e29 e31 e28 eT
    unfold f7_readClause
    rw [r0, Option.bind_some, if_pos rfl, r1, Option.bind_some, if_pos rfl, r2, Option.bind_some, if_pos rfl, r3, Option.bind_some, if_pos rfl, e, Option.bind_some, if_neg n10]
    rfl
  rw [if_neg b4] at eT
  have r4 := r4 (eq_false_of_ne_true b4)
  by_cases b5 : wd tx L wLent s = true
  · rw [if_pos b5] at eT
    refine cl_lent hn hc hm hs ha h5 b5 h (fun I1 e => ?_) f1 e29 e31 e28 eT
    unfold f7_readClause
    rw [r0, Option.bind_some, if_pos rfl, r1, Option.bind_some, if_pos rfl, r2, Option.bind_some, if_pos rfl, r3, Option.bind_some, if_pos rfl, r4, Option.bind_some, if_pos rfl, e, Option.bind_some, if_neg n10]
  rw [if_neg b5] at eT
  have r5 := r5 (eq_false_of_ne_true b5)
  have e5 : mm_up (mm_up Ic 1 5 (nI 1)) 1 6 (nI s) 1 5 = nI 1 := by rw [up_o2 (by omega), up_s2]
  refine ⟨mm_up (mm_up Ic 1 5 (nI 1)) 1 6 (nI s), mm_up I1 167 28 (I1 167 29), J1, nI 1, ?_, eT.trans m193n, ((fR.up (by omega)).trans (fR.up (by omega))).l, f1.l.trans (fT.up (by omega)).l, Or.inr ⟨1, s, by omega, by omega, rfl, e5, up_s2, by rw [up_s2]; exact e29⟩⟩
  unfold f7_readClause f7_readClause_155
  rw [r0, Option.bind_some, if_pos rfl, r1, Option.bind_some, if_pos rfl, r2, Option.bind_some, if_pos rfl, r3, Option.bind_some, if_pos rfl, r4, Option.bind_some, if_pos rfl, r5, Option.bind_some, if_pos rfl]
  dsimp only
  rw [ha.1, show f4_blame SZ 1 1 (nI s) Ic Jc = some (mm_up (mm_up Ic 1 5 (nI 1)) 1 6 (nI s), Jc) from blame_t (f := 1) h5, Option.bind_some]
  dsimp only
  rw [stop_x (by rw [e5]; decide)]
  rfl
/-- all clauses -/
theorem law_loop {n : Nat} (hn : 501 ≤ n) : ∀ (d i s a : Nat) (S : Nat → Bool) (v : Nat → Nat) (Ic Im : mm_I) (Jm : mm_J), i ≤ s → s ≤ L → L + 1 < i + d → cT tx L Ic → mT tx L Im → cA tx L s Ic → Ic 1 5 = nI 0 → Ic 1 6 = Im 167 28 → lrel S v Ic Im → a ≤ L → sk tx L a = s → Im 167 29 = nI a → ∃ (c : Int32) (f : Nat) (S' : Nat → Bool) (v' : Nat → Nat) (Ic' Im' : mm_I) (J' : mm_J), f7_readFrom_6 SZ n d 27 1 (nI i) Ic Jc = some (c, Ic', Jc) ∧ (∃ w, f11_laws_48 SZ n d 167 (nI 0) (nI (cnt S 8)) Im Jm = f11_laws_70 SZ n 167 (nI f) w Im' J' ∧ (f = 0 → w = c)) ∧ fL Ic Ic' ∧ fLm Im Im' ∧ f ≤ 4 ∧ Ic' 1 5 = nI f ∧ Ic' 1 6 = Im' 167 28 ∧ (f = 0 → lrel S' v' Ic' Im') := by
  intro d
  induction d with
  | zero => intro i s a S v Ic Im Jm h1 h2 h3; omega
  | succ d ih =>
    intro i s a S v Ic Im Jm h1 h2 h3 hc hm ha h5 h6 h hal hsa g9
    have hL := hc.1
    have hcnt : ∀ S, cnt S 8 ≤ 8 := fun S => cnt_le S 8
    have e38 : ∀ (I : mm_I) (S : Nat → Bool), I 27 6 = bsI S 8 → f7_readFrom_38 SZ n 27 I Jc = some (nI (cnt S 8), I, Jc) := fun I S e => by
      unfold f7_readFrom_38
      rw [e, cnt_eq]
      rfl
    have cS : f7_readFrom_6 SZ n (d + 1) 27 1 (nI i) Ic Jc = f7_readFrom_6_b SZ n (f7_readFrom_6 SZ n d) 27 1 (nI i) Ic Jc := rfl
    have mS : f11_laws_48 SZ n (d + 1) 167 (nI 0) (nI (cnt S 8)) Im Jm = f11_laws_48_b SZ n (f11_laws_48 SZ n d) 167 (nI 0) (nI (cnt S 8)) Im Jm := rfl
    obtain ⟨I1, k1, k2, k3, k4⟩ := here_m (Jm := Jm) hn hm hal g9
    rw [hsa] at k1 k3
    have hrel1 : lrel S v Ic I1 := ⟨h.1, h.2.1, fun k hk => by rw [k2.1 189 (by omega)]; exact h.2.2.1 k hk, h.2.2.2⟩
    rw [cS, mS]
    unfold f7_readFrom_6_b f11_laws_48_b
    rw [if_pos (show nI 0 = 0 from rfl), k1, Option.bind_some, snd_c h5, Option.bind_some, if_neg n10, ha.2.1]
    dsimp only
    by_cases hsL : s < L
    · obtain ⟨h8, -⟩ := hc.2.2 s hsL
      have ht : tok tx L s = tkn (tx s) := if_pos hsL
      have ht4 := tkn_4 (tx s)
      have hsk : sk tx L s = s := by rw [← hsa]; exact sk_sk tx L a
      rw [if_pos hsL, if_neg (nI_pos (by omega)), if_neg (show ¬ (500 : Int32) ≤ nI i from nI_ge (b := 500) (by omega) (by omega)), if_neg (show ¬ nI (tok tx L s) = 0 from nI_ne0 (by omega) (by omega))]
      obtain ⟨Ic', Im', J', r, c1, c2, c3, c4, c5⟩ := clause_lock (Jc := Jc) (Jm := Jm) (a := s) hn hc (hm.f k2) h2 ha h5 hrel1 h2 hsk k3
      rw [c1, c2, Option.bind_some, Option.bind_some]
      dsimp only
      rw [nI_1, nI_1]
      rcases c5 with ⟨k, v', a', q1, q2, q3, q4, q5, q6, q7, q8, q9, q10, q11⟩ | ⟨f, pl, q1, q2, q3, q4, q5, q6⟩
      · have hcn : cnt (fun j => S j || k == j) 8 = cnt S 8 + 1 := by
          rw [cnt_ins (by omega), q2]
          rfl
        obtain ⟨c, f, S', v'', Ic2, Im2, J2, u1, ⟨w, u2, u2'⟩, u3, u4, u5, u6, u7, u8⟩ := ih (i + 1) (sk tx L a') a' (fun j => S j || k == j) v' Ic' Im' J' (by omega) (sk_le tx L a') (by omega) (hc.l c3) (((hm.f k2)).l c4) q7 q9 (by rw [q10, q11, k4 28 (by omega)]; exact h6) q6 q3 rfl q8
        refine ⟨c, f, S', v'', Ic2, Im2, J2, u1, ⟨w, ?_, u2'⟩, c3.trans u3, k2.l.trans (c4.trans u4), u5, u6, u7, u8⟩
        rw [q5, ← hcn]
        exact u2
      · obtain ⟨d', rfl⟩ : ∃ d', d = d' + 1 := ⟨d - 1, by omega⟩
        have ne : ¬ Ic' 1 5 = nI 0 := by
          rw [q4]
          intro w
          have := (nI_eq (by omega) (by omega)).mp w
          omega
        obtain ⟨c, hcc⟩ : ∃ c, f7_readFrom_6 SZ n (d' + 1) 27 1 (nI (i + 1)) Ic' Jc = some (c, Ic', Jc) := by
          show ∃ c, f7_readFrom_6_b SZ n (f7_readFrom_6 SZ n d') 27 1 (nI (i + 1)) Ic' Jc = some (c, Ic', Jc)
          unfold f7_readFrom_6_b
          rw [snd_f ne, Option.bind_some, if_pos rfl, ite_self]
          obtain ⟨c, hb⟩ : ∃ c, fJ6_bitCount SZ (Ic' 27 6) Ic' Jc = some c := ⟨_, rfl⟩
          refine ⟨c, ?_⟩
          unfold f7_readFrom_38
          rw [hb]
          rfl
        refine ⟨c, f, S, v, Ic', Im', J', hcc, ⟨nI (cnt S 8 + 1), ?_, fun e => absurd e (by omega)⟩, c3, k2.l.trans c4, q2, q4, by rw [q5, q6], fun e => absurd e (by omega)⟩
        rw [q3]
        show f11_laws_48_b SZ n (f11_laws_48 SZ n d') 167 (nI f) (nI (cnt S 8 + 1)) Im' J' = _
        unfold f11_laws_48_b
        rw [if_neg (nI_ne0 (by omega) (by omega))]
    · have hsL' : s = L := by omega
      have ht : tok tx L s = 0 := if_neg hsL
      refine ⟨nI (cnt S 8), 0, S, v, Ic, I1, Jm, ?_, ⟨nI (cnt S 8), ?_, fun _ => rfl⟩, fL.refl, k2.l, by omega, h5, by rw [h6, k4 28 (by omega)], fun _ => hrel1⟩
      · rw [ht, if_pos (show nI 0 = 0 from rfl), ite_self, e38 Ic S h.1]
      · rw [if_neg hsL, if_pos (show m1 < 0 by decide)]
end LAW
