/-! ===== part 52: one person's year, and all people's (written by wip/whole/pre.py) ===== -/
section YR2
variable {T P N L R F : Nat} {Ic Im : mm_I} {Jc Jm : mm_J}
theorem trades_loop (hL : isL L R F) {n p : Nat} (hN : N < 2 ^ 29) (hn : 9 ≤ n) (hp : p < P) : ∀ (d k : Nat) (Ic Im : mm_I), k ≤ T → T < k + d → rLf T P N R F Ic Im → Im 173 p = b01 true → ∃ Ic' Im' d', (∀ v2, f2_passYearOf_64 SZ n d L (nI p) v2 (nI k) Ic Jc = f2_passYearOf_64 SZ n (d' + 1) L (nI p) v2 (nI T) Ic' Jc) ∧ (∀ rec4 v1, f11_yearNow_73 SZ n rec4 d 167 v1 (nI p) (nI k) Im Jm = f11_yearNow_73 SZ n rec4 (d' + 1) 167 v1 (nI p) (nI T) Im' Jm) ∧ yS F Ic Im Ic' Im' ∧ rLf T P N R F Ic' Im' := by
  intro d
  induction d with
  | zero => intro k Ic Im h1 h2; omega
  | succ d ih =>
    intro k Ic Im h1 h2 h hl
    by_cases c : k = T
    · subst c
      exact ⟨Ic, Im, d, fun _ => rfl, fun _ _ => rfl, yS.refl, h⟩
    · obtain ⟨I1, B1, q1, q2, q3, q4⟩ := trade_lock (Jc := Jc) (Jm := Jm) hL h hN hn hp (show k < T by omega) hl
      have h' := h.go hL q3.1 q3.2.1 q4
      obtain ⟨I2, B2, d', u1, u2, u3, u4⟩ := ih (k + 1) I1 B1 (by omega) (by omega) h' (by rw [q3.2.2.2.2.1]; exact hl)
      have hT := h.1.1
      refine ⟨I2, B2, d', fun v2 => ?_, fun rec4 v1 => ?_, q3.trans u3, u4⟩
      · rw [← u1 v2]
        exact q1 (f2_passYearOf_64 SZ n d) v2
      · rw [← u2 rec4 v1]
        show f11_yearNow_73_b SZ n rec4 (f11_yearNow_73 SZ n rec4 d) 167 v1 (nI p) (nI k) Im Jm = _
        unfold f11_yearNow_73_b
        rw [h.1.2.2.2.1, if_neg (nI_ge (show k < T by omega) (by omega)), q2, Option.bind_some, nI_1]
/-- the end of one person's year -/
theorem tail_lock (hL : isL L R F) (h : rLf T P N R F Ic Im) {n p : Nat} {v2 : Int32} (hn : 9 ≤ n) (hp : p < P) (hl : Im 173 p = b01 true) (hv : v2 = Im 176 p) : ∃ (dead : Bool) (Ic' Im' : mm_I), (∀ rec64, f2_passYearOf_64_b SZ n rec64 L (nI p) v2 (nI T) Ic Jc = some (Ic', Jc)) ∧ (∀ rec4 rec73 v1, f11_yearNow_73_b SZ n rec4 rec73 167 v1 (nI p) (nI T) Im Jm = rec4 167 (if dead = true then v1 ||| (nI 1 <<< (nI p &&& nI 31)) else v1) (nI (p + 1)) Im' Jm) ∧ fF F Ic Ic' ∧ fV Im Im' ∧ Ic' F 12 = Ic F 12 ∧ Im' 167 = Im 167 ∧ rF T P N F Ic' (vCur Im') ∧ (∀ q, q ≠ p → Im' 173 q = Im 173 q) ∧ Im' 173 p = b01 (!dead) := by
  obtain ⟨a1, a2, a3, a4, a5⟩ := h
  have hT := a1.1
  have hP := a1.2.1
  have hr := hL.r
  have e5 := a1.2.2.1
  have e0 := a1.2.2.2.1
  obtain ⟨dd, d1, d2, d3, d4⟩ := a4.2.2.2.2.1
  have eA : Ic (F + 2) p = Im 172 p := a5.ag hp
  have r1 : rF T P N F (mm_up Ic (F + 2) p (Im 172 p + nI 1)) (vCur (mm_up Im 172 p (Im 172 p + nI 1))) := (a5.age (x := Im 172 p + nI 1) hp).e (vCur_up (j := 2) (by omega))
  have l1 : mm_up Im 172 p (Im 172 p + nI 1) 173 p = b01 true := by rw [up_o2 (by omega)]; exact hl
  have v1' : mm_up Im 172 p (Im 172 p + nI 1) 176 p = Im 176 p := by rw [up_o2 (by omega)]
  have cA : ∀ rec64, f2_passYearOf_64_b SZ n rec64 L (nI p) v2 (nI T) Ic Jc = if Im 172 p + nI 1 < nI dd then ((f1_knows SZ F (nI p) v2 (mm_up Ic (F + 2) p (Im 172 p + nI 1)) Jc).bind fun o6 => if o6 = 0 then ((f1_bestOf SZ n F (nI p) (mm_up Ic (F + 2) p (Im 172 p + nI 1)) Jc).bind fun o8 => (f6_put SZ (F + 7) (nI p) o8 (mm_up Ic (F + 2) p (Im 172 p + nI 1)) Jc).bind fun o9 => some (o9.1, o9.2)) else some (mm_up Ic (F + 2) p (Im 172 p + nI 1), Jc)) else ((f1_empty SZ n F (nI p) (mm_up Ic (F + 2) p (Im 172 p + nI 1)) Jc).bind fun o10 => some (mm_up o10.1 F 8 ((o10.1 F 8) &&& (((1 : Int32) <<< (nI p &&& 31)) ^^^ (-1))), o10.2)) := by
    intro rec64
    unfold f2_passYearOf_64_b f2_passYearOf_273
    rw [(zL hL).2.2, (zL hL).2.1, (zL hL).1, e5, if_pos (nI_le (Nat.le_refl T) (by omega)), (zF hL.f).1.1, (zF hL.f).1.2.2.2.1, show f6_at SZ (F + 1) (nI p) Ic Jc = some (Im 172 p) from by simp (disch := omega) only [↓M1, ↓ofNat_nI, L0, L1, L2, L3, L4, L5, L6, L7, L8, L9, L10, L12, L31, L32, L40, L48, L50, L99, L100, L120, L180, L256, L500, n_lt0, n_ge0, n_let, n_lef, n_ltt, n_ltf, n_eqt, n_eqf, m_lt, m_le, m_eq, m_eq2, m_le2, m_lt2, m_nle, m_nlt, if_true, if_false, eq_self, Option.bind_some, mb0, mb1, mbb, mbn0, mbn1, not_true, not_false_eq_true, reduceIte, Bool.false_eq_true, nI_add, nI_clamp, pk_mul, in_t, in_f, in_m, zr, za, at_SZ, put_SZ, rd_at, wr_at, rd_m, wr_m, zF hL.f, eA], Option.bind_some, show f6_put SZ (F + 1) (nI p) (Im 172 p + 1) Ic Jc = some (mm_up Ic (F + 2) p (Im 172 p + nI 1), Jc) from by simp (disch := omega) only [↓M1, ↓ofNat_nI, L0, L1, L2, L3, L4, L5, L6, L7, L8, L9, L10, L12, L31, L32, L40, L48, L50, L99, L100, L120, L180, L256, L500, n_lt0, n_ge0, n_let, n_lef, n_ltt, n_ltf, n_eqt, n_eqf, m_lt, m_le, m_eq, m_eq2, m_le2, m_lt2, m_nle, m_nlt, if_true, if_false, eq_self, Option.bind_some, mb0, mb1, mbb, mbn0, mbn1, not_true, not_false_eq_true, reduceIte, Bool.false_eq_true, nI_add, nI_clamp, pk_mul, in_t, in_f, in_m, zr, za, at_SZ, put_SZ, rd_at, wr_at, rd_m, wr_m, zF hL.f], Option.bind_some]
    dsimp only
    rw [show f6_at SZ (F + 1) (nI p) (mm_up Ic (F + 2) p (Im 172 p + nI 1)) Jc = some (Im 172 p + nI 1) from by simp (disch := omega) only [↓M1, ↓ofNat_nI, L0, L1, L2, L3, L4, L5, L6, L7, L8, L9, L10, L12, L31, L32, L40, L48, L50, L99, L100, L120, L180, L256, L500, n_lt0, n_ge0, n_let, n_lef, n_ltt, n_ltf, n_eqt, n_eqf, m_lt, m_le, m_eq, m_eq2, m_le2, m_lt2, m_nle, m_nlt, if_true, if_false, eq_self, Option.bind_some, mb0, mb1, mbb, mbn0, mbn1, not_true, not_false_eq_true, reduceIte, Bool.false_eq_true, nI_add, nI_clamp, pk_mul, in_t, in_f, in_m, zr, za, at_SZ, put_SZ, rd_at, wr_at, rd_m, wr_m, up_s2, up_o2, zF hL.f], Option.bind_some]
    exact ite_cg (show (Im 172 p + nI 1 < mm_up Ic (F + 2) p (Im 172 p + nI 1) R 4) = (Im 172 p + nI 1 < nI dd) by rw [up_o2 (a := R) (by omega), d3])
  have mA : ∀ rec4 rec73 v1, f11_yearNow_73_b SZ n rec4 rec73 167 v1 (nI p) (nI T) Im Jm = if Im 172 p + nI 1 < nI dd then f11_yearNow_129 SZ n rec4 167 v1 (nI p) (mm_up Im 172 p (Im 172 p + nI 1)) Jm else ((f11_die SZ n 167 (nI p) (mm_up Im 172 p (Im 172 p + nI 1)) Jm).bind fun o6 => f11_yearNow_129 SZ n rec4 167 (v1 ||| (nI 1 <<< (nI p &&& nI 31))) (nI p) o6.1 o6.2) := by
    intro rec4 rec73 v1
    unfold f11_yearNow_73_b
    rw [e0, if_pos (nI_le (Nat.le_refl T) (by omega))]
    have hb : mm_inb (nI p) (mm_al SZ (mm_rf SZ 167 12)) = true := by simp (disch := omega) only [↓M1, ↓ofNat_nI, L0, L1, L2, L3, L4, L5, L6, L7, L8, L9, L10, L12, L31, L32, L40, L48, L50, L99, L100, L120, L180, L256, L500, n_lt0, n_ge0, n_let, n_lef, n_ltt, n_ltf, n_eqt, n_eqf, m_lt, m_le, m_eq, m_eq2, m_le2, m_lt2, m_nle, m_nlt, if_true, if_false, eq_self, Option.bind_some, mb0, mb1, mbb, mbn0, mbn1, not_true, not_false_eq_true, reduceIte, Bool.false_eq_true, nI_add, nI_clamp, pk_mul, in_t, in_f, in_m, zr, za, at_SZ, put_SZ, rd_at, wr_at, rd_m, wr_m]
    rw [if_pos hb, if_pos hb, if_pos hb, show mm_rf SZ 167 12 = 172 by simp (disch := omega) only [↓M1, ↓ofNat_nI, L0, L1, L2, L3, L4, L5, L6, L7, L8, L9, L10, L12, L31, L32, L40, L48, L50, L99, L100, L120, L180, L256, L500, n_lt0, n_ge0, n_let, n_lef, n_ltt, n_ltf, n_eqt, n_eqf, m_lt, m_le, m_eq, m_eq2, m_le2, m_lt2, m_nle, m_nlt, if_true, if_false, eq_self, Option.bind_some, mb0, mb1, mbb, mbn0, mbn1, not_true, not_false_eq_true, reduceIte, Bool.false_eq_true, nI_add, nI_clamp, pk_mul, in_t, in_f, in_m, zr, za, at_SZ, put_SZ, rd_at, wr_at, rd_m, wr_m], nI_clamp (by omega), up_s2, up_o2 (a := 167) (by omega), d4]
    rfl
  have f1 : fF F Ic (mm_up Ic (F + 2) p (Im 172 p + nI 1)) := fF.up (by omega)
  have f2 : fV Im (mm_up Im 172 p (Im 172 p + nI 1)) := fV.up (by omega)
  have b2 : (mm_up Im 172 p (Im 172 p + nI 1)) 167 = Im 167 := mm_up_o (by omega)
  have b3 : (mm_up Im 172 p (Im 172 p + nI 1)) 173 = Im 173 := mm_up_o (by omega)
  have b4 : (mm_up Ic (F + 2) p (Im 172 p + nI 1)) F = Ic F := mm_up_o (by omega)
  generalize hI1 : mm_up Ic (F + 2) p (Im 172 p + nI 1) = I1 at *
  generalize hB1 : mm_up Im 172 p (Im 172 p + nI 1) = B1 at *
  by_cases c : Im 172 p + nI 1 < nI dd
  · obtain ⟨hs, he⟩ := r1.best hT (p := p) (by omega)
    have cb : f1_bestOf SZ n F (nI p) I1 Jc = some (bestS (fun t => B1 174 (6 * p + t)) T) := by rw [cbest_eq (by omega) hL.f (by omega) hs, he]
    have mb : f11_bestOf SZ n 167 (nI p) B1 Jm = some (bestS (fun t => B1 174 (6 * p + t)) T) := mbest_eq (by omega) hT (by omega) (by rw [b2]; exact e0)
    have ho : orT T (bestS (fun t => B1 174 (6 * p + t)) T) := best_orT
    generalize bestS (fun t => B1 174 (6 * p + t)) T = b at *
    have cp : f6_put SZ (F + 7) (nI p) b I1 Jc = some (mm_up I1 (F + 8) p b, Jc) := by simp (disch := omega) only [↓M1, ↓ofNat_nI, L0, L1, L2, L3, L4, L5, L6, L7, L8, L9, L10, L12, L31, L32, L40, L48, L50, L99, L100, L120, L180, L256, L500, n_lt0, n_ge0, n_let, n_lef, n_ltt, n_ltf, n_eqt, n_eqf, m_lt, m_le, m_eq, m_eq2, m_le2, m_lt2, m_nle, m_nlt, if_true, if_false, eq_self, Option.bind_some, mb0, mb1, mbb, mbn0, mbn1, not_true, not_false_eq_true, reduceIte, Bool.false_eq_true, nI_add, nI_clamp, pk_mul, in_t, in_f, in_m, zr, za, at_SZ, put_SZ, rd_at, wr_at, rd_m, wr_m, zF hL.f]
    have r2 : rF T P N F (mm_up I1 (F + 8) p b) (vCur (mm_up B1 176 p b)) := (r1.prac hp ho (Or.inr l1) hP).e (vCur_up (j := 4) (by omega))
    have m166 : ∀ rec4 v1, f11_yearNow_166 SZ n rec4 167 v1 (nI p) 176 (nI p) B1 Jm = rec4 167 v1 (nI (p + 1)) (mm_up B1 176 p b) Jm := by
      intro rec4 v1
      unfold f11_yearNow_166 f11_yearNow_171 f11_yearNow_172
      rw [mb, Option.bind_some]
      simp (disch := omega) only [↓M1, ↓ofNat_nI, L0, L1, L2, L3, L4, L5, L6, L7, L8, L9, L10, L12, L31, L32, L40, L48, L50, L99, L100, L120, L180, L256, L500, n_lt0, n_ge0, n_let, n_lef, n_ltt, n_ltf, n_eqt, n_eqf, m_lt, m_le, m_eq, m_eq2, m_le2, m_lt2, m_nle, m_nlt, if_true, if_false, eq_self, Option.bind_some, mb0, mb1, mbb, mbn0, mbn1, not_true, not_false_eq_true, reduceIte, Bool.false_eq_true, nI_add, nI_clamp, pk_mul, in_t, in_f, in_m, zr, za, at_SZ, put_SZ, rd_at, wr_at, rd_m, wr_m]
    have new : (∀ rec64, f2_passYearOf_64_b SZ n rec64 L (nI p) v2 (nI T) Ic Jc = some (mm_up I1 (F + 8) p b, Jc)) → (∀ rec4 v1, f11_yearNow_129 SZ n rec4 167 v1 (nI p) B1 Jm = rec4 167 v1 (nI (p + 1)) (mm_up B1 176 p b) Jm) → ∃ (dead : Bool) (Ic' Im' : mm_I), (∀ rec64, f2_passYearOf_64_b SZ n rec64 L (nI p) v2 (nI T) Ic Jc = some (Ic', Jc)) ∧ (∀ rec4 rec73 v1, f11_yearNow_73_b SZ n rec4 rec73 167 v1 (nI p) (nI T) Im Jm = rec4 167 (if dead = true then v1 ||| (nI 1 <<< (nI p &&& nI 31)) else v1) (nI (p + 1)) Im' Jm) ∧ fF F Ic Ic' ∧ fV Im Im' ∧ Ic' F 12 = Ic F 12 ∧ Im' 167 = Im 167 ∧ rF T P N F Ic' (vCur Im') ∧ (∀ q, q ≠ p → Im' 173 q = Im 173 q) ∧ Im' 173 p = b01 (!dead) := by
      intro g1 g2
      refine ⟨false, mm_up I1 (F + 8) p b, mm_up B1 176 p b, g1, fun rec4 rec73 v1 => ?_, f1.trans (fF.up (by omega)), f2.trans (fV.up (by omega)), ?_, ?_, r2, fun q _ => ?_, ?_⟩
      · rw [mA, if_pos c, g2, if_neg (show ¬ false = true by decide)]
      · rw [up_o2 (by omega), b4]
      · rw [mm_up_o (by omega), b2]
      · rw [up_o2 (by omega), b3]
      · rw [up_o2 (by omega), b3]; exact hl
    have old : (∀ rec64, f2_passYearOf_64_b SZ n rec64 L (nI p) v2 (nI T) Ic Jc = some (I1, Jc)) → (∀ rec4 v1, f11_yearNow_129 SZ n rec4 167 v1 (nI p) B1 Jm = rec4 167 v1 (nI (p + 1)) B1 Jm) → ∃ (dead : Bool) (Ic' Im' : mm_I), (∀ rec64, f2_passYearOf_64_b SZ n rec64 L (nI p) v2 (nI T) Ic Jc = some (Ic', Jc)) ∧ (∀ rec4 rec73 v1, f11_yearNow_73_b SZ n rec4 rec73 167 v1 (nI p) (nI T) Im Jm = rec4 167 (if dead = true then v1 ||| (nI 1 <<< (nI p &&& nI 31)) else v1) (nI (p + 1)) Im' Jm) ∧ fF F Ic Ic' ∧ fV Im Im' ∧ Ic' F 12 = Ic F 12 ∧ Im' 167 = Im 167 ∧ rF T P N F Ic' (vCur Im') ∧ (∀ q, q ≠ p → Im' 173 q = Im 173 q) ∧ Im' 173 p = b01 (!dead) := by
      intro g1 g2
      refine ⟨false, I1, B1, g1, fun rec4 rec73 v1 => ?_, f1, f2, ?_, b2, r1, fun q _ => ?_, ?_⟩
      · rw [mA, if_pos c, g2, if_neg (show ¬ false = true by decide)]
      · rw [b4]
      · rw [b3]
      · rw [b3]; exact hl
    rcases (a5.pr hp).2 with e | ⟨q, hq, e⟩
    · refine new (fun rec64 => ?_) (fun rec4 v1 => ?_)
      · rw [cA, if_pos c, hv, e, show f1_knows SZ F (nI p) (-1) I1 Jc = some 0 from ckn_m hL.f, Option.bind_some, if_pos rfl, cb, Option.bind_some, cp]
        rfl
      · unfold f11_yearNow_129
        simp (disch := omega) only [↓M1, ↓ofNat_nI, L0, L1, L2, L3, L4, L5, L6, L7, L8, L9, L10, L12, L31, L32, L40, L48, L50, L99, L100, L120, L180, L256, L500, n_lt0, n_ge0, n_let, n_lef, n_ltt, n_ltf, n_eqt, n_eqf, m_lt, m_le, m_eq, m_eq2, m_le2, m_lt2, m_nle, m_nlt, if_true, if_false, eq_self, Option.bind_some, mb0, mb1, mbb, mbn0, mbn1, not_true, not_false_eq_true, reduceIte, Bool.false_eq_true, nI_add, nI_clamp, pk_mul, in_t, in_f, in_m, zr, za, at_SZ, put_SZ, rd_at, wr_at, rd_m, wr_m, v1', e]
        exact m166 rec4 v1
    · have ck := ckn r1 hL.f (p := p) (t := q) (J := Jc) (by omega) (by omega)
      have mk := mkn (Im := B1) (p := p) (t := q) (J := Jm) (by omega) (by omega)
      cases hk : kn B1 p q
      · rw [hk] at ck mk
        refine new (fun rec64 => ?_) (fun rec4 v1 => ?_)
        · rw [cA, if_pos c, hv, e, ck, Option.bind_some, if_pos (show b01 false = 0 by decide), cb, Option.bind_some, cp]
          rfl
        · unfold f11_yearNow_129
          simp (disch := omega) only [↓M1, ↓ofNat_nI, L0, L1, L2, L3, L4, L5, L6, L7, L8, L9, L10, L12, L31, L32, L40, L48, L50, L99, L100, L120, L180, L256, L500, n_lt0, n_ge0, n_let, n_lef, n_ltt, n_ltf, n_eqt, n_eqf, m_lt, m_le, m_eq, m_eq2, m_le2, m_lt2, m_nle, m_nlt, if_true, if_false, eq_self, Option.bind_some, mb0, mb1, mbb, mbn0, mbn1, not_true, not_false_eq_true, reduceIte, Bool.false_eq_true, nI_add, nI_clamp, pk_mul, in_t, in_f, in_m, zr, za, at_SZ, put_SZ, rd_at, wr_at, rd_m, wr_m, v1', e, mk, bF0]
          exact m166 rec4 v1
      · rw [hk] at ck mk
        refine old (fun rec64 => ?_) (fun rec4 v1 => ?_)
        · rw [cA, if_pos c, hv, e, ck, Option.bind_some, if_neg (show ¬ b01 true = 0 by decide)]
        · have ms : mm_up B1 176 p (nI q) = B1 := by
            rw [← e, ← v1']
            exact mm_up_self
          unfold f11_yearNow_129 f11_yearNow_171 f11_yearNow_172
          simp (disch := omega) only [↓M1, ↓ofNat_nI, L0, L1, L2, L3, L4, L5, L6, L7, L8, L9, L10, L12, L31, L32, L40, L48, L50, L99, L100, L120, L180, L256, L500, n_lt0, n_ge0, n_let, n_lef, n_ltt, n_ltf, n_eqt, n_eqf, m_lt, m_le, m_eq, m_eq2, m_le2, m_lt2, m_nle, m_nlt, if_true, if_false, eq_self, Option.bind_some, mb0, mb1, mbb, mbn0, mbn1, not_true, not_false_eq_true, reduceIte, Bool.false_eq_true, nI_add, nI_clamp, pk_mul, in_t, in_f, in_m, zr, za, at_SZ, put_SZ, rd_at, wr_at, rd_m, wr_m, v1', e, mk, bT0, ms]
  · have ce : f1_empty SZ n F (nI p) I1 Jc = some (mm_up (mm_up (mm_up (mm_up (eC F p 6 I1) (F + 8) p m1) (F + 10) p m1) (F + 12) p (nI 0)) (F + 14) p m1, Jc) := ce_loop hL.f (by omega) n 0 (by omega) (by omega)
    have md := die_eq (n := n) (Im := B1) (Jm := Jm) (p := p) (by omega) (by omega)
    have rd := r1.dead hP hT hp l1 (by omega)
    obtain ⟨-, g0⟩ := r1.eS hP hT hp l1 6 (by omega)
    have fe : ∀ k, k ≤ 6 → fF F I1 (eC F p k I1) ∧ fV B1 (eM p k B1) := by
      intro k
      induction k with
      | zero => intro _; exact ⟨fF.refl, fV.refl⟩
      | succ k ih =>
        intro hk
        obtain ⟨i1, i2⟩ := ih (by omega)
        exact ⟨i1.trans ((fF.up (by omega)).trans (fF.up (by omega))), i2.trans ((fV.up (by omega)).trans (fV.up (by omega)))⟩
    obtain ⟨fe1, fe2⟩ := fe 6 (by omega)
    have e8 : (mm_up (mm_up (mm_up (mm_up (eC F p 6 I1) (F + 8) p m1) (F + 10) p m1) (F + 12) p (nI 0)) (F + 14) p m1) F = Ic F := by
      rw [mm_up_o (by omega), mm_up_o (by omega), mm_up_o (by omega), mm_up_o (by omega), eC_o (by omega) (by omega), b4]
    have e9 : mm_up (mm_up (mm_up (mm_up (eM p 6 B1) 173 p (nI 0)) 177 p m1) 179 p m1) 176 p m1 167 = Im 167 := by
      rw [mm_up_o (by omega), mm_up_o (by omega), mm_up_o (by omega), mm_up_o (by omega), eM_o (by omega) (by omega), b2]
    have eq : ∀ q, q ≠ p → mm_up (mm_up (mm_up (mm_up (eM p 6 B1) 173 p (nI 0)) 177 p m1) 179 p m1) 176 p m1 173 q = Im 173 q := by
      intro q hq
      rw [up_o2 (by omega), up_o2 (by omega), up_o2 (by omega), up_o2 (by omega), eM_o (by omega) (by omega), b3]
    have ep : mm_up (mm_up (mm_up (mm_up (eM p 6 B1) 173 p (nI 0)) 177 p m1) 179 p m1) 176 p m1 173 p = nI 0 := by
      rw [up_o2 (by omega), up_o2 (by omega), up_o2 (by omega), up_s2]
    have e0' : bestS (fun t => mm_up (mm_up (mm_up (mm_up (eM p 6 B1) 173 p (nI 0)) 177 p m1) 179 p m1) 176 p m1 174 (6 * p + t)) T = m1 := by
      rcases bestS_cases (fun t => mm_up (mm_up (mm_up (mm_up (eM p 6 B1) 173 p (nI 0)) 177 p m1) 179 p m1) 176 p m1 174 (6 * p + t)) T with w | ⟨b, w1, -, w3⟩
      · exact w
      · exfalso
        have w3 : nI 0 < mm_up (mm_up (mm_up (mm_up (eM p 6 B1) 173 p (nI 0)) 177 p m1) 179 p m1) 176 p m1 174 (6 * p + b) := w3
        rw [up_o2 (by omega), up_o2 (by omega), up_o2 (by omega), up_o2 (by omega), g0 b (by omega)] at w3
        exact absurd w3 (by decide)
    have eb : f11_bestOf SZ n 167 (nI p) (mm_up (mm_up (mm_up (mm_up (eM p 6 B1) 173 p (nI 0)) 177 p m1) 179 p m1) 176 p m1) Jm = some m1 := by
      rw [mbest_eq (T := T) (by omega) hT (by omega) (by rw [e9]; exact e0), e0']
    have fm : fV Im (mm_up (mm_up (mm_up (mm_up (eM p 6 B1) 173 p (nI 0)) 177 p m1) 179 p m1) 176 p m1) := f2.trans (fe2.trans ((fV.up (by omega)).trans ((fV.up (by omega)).trans ((fV.up (by omega)).trans (fV.up (by omega))))))
    have e7 : mm_up (mm_up (mm_up (mm_up (eM p 6 B1) 173 p (nI 0)) 177 p m1) 179 p m1) 176 p m1 176 p = m1 := up_s2
    generalize mm_up (mm_up (mm_up (mm_up (eM p 6 B1) 173 p (nI 0)) 177 p m1) 179 p m1) 176 p m1 = B2 at *
    have ms : mm_up B2 176 p m1 = B2 := by
      have := mm_up_self (I := B2) (r := 176) (k := p)
      rw [e7] at this
      exact this
    refine ⟨true, _, B2, fun rec64 => ?_, fun rec4 rec73 v1 => ?_, f1.trans (fe1.trans ((fF.up (by omega)).trans ((fF.up (by omega)).trans ((fF.up (by omega)).trans ((fF.up (by omega)).trans (fF.up (r := F) (by omega))))))), fm, ?_, e9, rd, eq, ep⟩
    · rw [cA, if_neg c, ce, Option.bind_some]
      dsimp only
      rw [e8, b4]
      rfl
    · rw [mA, if_neg c, md, Option.bind_some, if_pos rfl]
      dsimp only
      unfold f11_yearNow_129 f11_yearNow_166 f11_yearNow_171 f11_yearNow_172
      simp (disch := omega) only [↓M1, ↓ofNat_nI, L0, L1, L2, L3, L4, L5, L6, L7, L8, L9, L10, L12, L31, L32, L40, L48, L50, L99, L100, L120, L180, L256, L500, n_lt0, n_ge0, n_let, n_lef, n_ltt, n_ltf, n_eqt, n_eqf, m_lt, m_le, m_eq, m_eq2, m_le2, m_lt2, m_nle, m_nlt, if_true, if_false, eq_self, Option.bind_some, mb0, mb1, mbb, mbn0, mbn1, not_true, not_false_eq_true, reduceIte, Bool.false_eq_true, nI_add, nI_clamp, pk_mul, in_t, in_f, in_m, zr, za, at_SZ, put_SZ, rd_at, wr_at, rd_m, wr_m, e7, eb, ms]
    · rw [up_o2 (by omega), e8]
theorem cskill_m {F : Nat} {p : Int32} (hF : isF F) : f1_skillOf SZ F p m1 Ic Jc = some (nI 0) := by
  unfold f1_skillOf
  rw [f10_cell_neg (by decide)]
  simp (disch := omega) only [↓M1, ↓ofNat_nI, L0, L1, L2, L3, L4, L5, L6, L7, L8, L9, L10, L12, L31, L32, L40, L48, L50, L99, L100, L120, L180, L256, L500, n_lt0, n_ge0, n_let, n_lef, n_ltt, n_ltf, n_eqt, n_eqf, m_lt, m_le, m_eq, m_eq2, m_le2, m_lt2, m_nle, m_nlt, if_true, if_false, eq_self, Option.bind_some, mb0, mb1, mbb, mbn0, mbn1, not_true, not_false_eq_true, reduceIte, Bool.false_eq_true, nI_add, nI_clamp, pk_mul, in_t, in_f, in_m, zr, za, at_SZ, put_SZ, rd_at, wr_at, rd_m, wr_m, zF hF]
theorem person_lock (hL : isL L R F) (h : rLf T P N R F Ic Im) {n p : Nat} (hN : N < 2 ^ 29) (hn : 9 ≤ n) (hp : p < P) (hl : Im 173 p = b01 true) : ∃ (dead : Bool) (Ic' Im' : mm_I), f2_passYearOf SZ n L (nI p) Ic Jc = some (Ic', Jc) ∧ (∀ rec4 v1, f11_yearNow_4_b SZ n rec4 167 v1 (nI p) Im Jm = rec4 167 (if dead = true then v1 ||| (nI 1 <<< (nI p &&& nI 31)) else v1) (nI (p + 1)) Im' Jm) ∧ fF F Ic Ic' ∧ fV Im Im' ∧ Ic' F 12 = Ic F 12 ∧ Im' 167 = Im 167 ∧ rF T P N F Ic' (vCur Im') ∧ (∀ q, q ≠ p → Im' 173 q = Im 173 q) ∧ Im' 173 p = b01 (!dead) := by
  have h' := h
  obtain ⟨a1, a2, a3, a4, a5⟩ := h
  have hT := a1.1
  have hP := a1.2.1
  have hr := hL.r
  have e2 := a1.2.2.2.2.2
  have eP : Ic (F + 8) p = Im 176 p := (a5.pr hp).1
  have eE : Ic (F + 16) p = Im 180 p := a5.ea hp
  have start : ∃ e, f2_passYearOf SZ n L (nI p) Ic Jc = f2_passYearOf_64 SZ n n L (nI p) (Im 176 p) (nI 0) (mm_up Ic (F + 16) p e) Jc ∧ ∀ rec4 v1, f11_yearNow_4_b SZ n rec4 167 v1 (nI p) Im Jm = f11_yearNow_73 SZ n rec4 n 167 v1 (nI p) (nI 0) (mm_up Im 180 p e) Jm := by
    unfold f2_passYearOf f11_yearNow_4_b f11_yearNow_68
    rw [(zL hL).2.2, (zL hL).1]
    rcases (a5.pr hp).2 with e | ⟨q, hq, e⟩
    · have hz : nI (0 * 0) / nI 100 = nI 0 := by decide
      refine ⟨Im 180 p + nI 0, ?_, fun rec4 v1 => ?_⟩
      · simp (disch := omega) only [↓M1, ↓ofNat_nI, L0, L1, L2, L3, L4, L5, L6, L7, L8, L9, L10, L12, L31, L32, L40, L48, L50, L99, L100, L120, L180, L256, L500, n_lt0, n_ge0, n_let, n_lef, n_ltt, n_ltf, n_eqt, n_eqf, m_lt, m_le, m_eq, m_eq2, m_le2, m_lt2, m_nle, m_nlt, if_true, if_false, eq_self, Option.bind_some, mb0, mb1, mbb, mbn0, mbn1, not_true, not_false_eq_true, reduceIte, Bool.false_eq_true, nI_add, nI_clamp, pk_mul, in_t, in_f, in_m, zr, za, at_SZ, put_SZ, rd_at, wr_at, rd_m, wr_m, up_s2, up_o2, zF hL.f, eP, e, eE, cskill_m hL.f, hz]
      · simp (disch := omega) only [↓M1, ↓ofNat_nI, L0, L1, L2, L3, L4, L5, L6, L7, L8, L9, L10, L12, L31, L32, L40, L48, L50, L99, L100, L120, L180, L256, L500, n_lt0, n_ge0, n_let, n_lef, n_ltt, n_ltf, n_eqt, n_eqf, m_lt, m_le, m_eq, m_eq2, m_le2, m_lt2, m_nle, m_nlt, if_true, if_false, eq_self, Option.bind_some, mb0, mb1, mbb, mbn0, mbn1, not_true, not_false_eq_true, reduceIte, Bool.false_eq_true, nI_add, nI_clamp, pk_mul, in_t, in_f, in_m, zr, za, at_SZ, put_SZ, rd_at, wr_at, rd_m, wr_m, up_s2, up_o2, e2, hl, bT0, e]
    · obtain ⟨x, hx, x1, x2⟩ := a5.s (p := p) (t := q) (by omega) (by omega)
      obtain ⟨w, hw, w1, w2⟩ := (a2 q hq).2.2.1
      refine ⟨Im 180 p + nI (w * x) / nI 100, ?_, fun rec4 v1 => ?_⟩
      · have hs : f1_skillOf SZ F (nI p) (nI q) Ic Jc = some (nI x) := by
          unfold f1_skillOf
          simp (disch := omega) only [↓M1, ↓ofNat_nI, L0, L1, L2, L3, L4, L5, L6, L7, L8, L9, L10, L12, L31, L32, L40, L48, L50, L99, L100, L120, L180, L256, L500, n_lt0, n_ge0, n_let, n_lef, n_ltt, n_ltf, n_eqt, n_eqf, m_lt, m_le, m_eq, m_eq2, m_le2, m_lt2, m_nle, m_nlt, if_true, if_false, eq_self, Option.bind_some, mb0, mb1, mbb, mbn0, mbn1, not_true, not_false_eq_true, reduceIte, Bool.false_eq_true, nI_add, nI_clamp, pk_mul, in_t, in_f, in_m, zr, za, at_SZ, put_SZ, rd_at, wr_at, rd_m, wr_m, f10_cell_eq, zF hL.f, x1]
        simp (disch := omega) only [↓M1, ↓ofNat_nI, L0, L1, L2, L3, L4, L5, L6, L7, L8, L9, L10, L12, L31, L32, L40, L48, L50, L99, L100, L120, L180, L256, L500, n_lt0, n_ge0, n_let, n_lef, n_ltt, n_ltf, n_eqt, n_eqf, m_lt, m_le, m_eq, m_eq2, m_le2, m_lt2, m_nle, m_nlt, if_true, if_false, eq_self, Option.bind_some, mb0, mb1, mbb, mbn0, mbn1, not_true, not_false_eq_true, reduceIte, Bool.false_eq_true, nI_add, nI_clamp, pk_mul, in_t, in_f, in_m, zr, za, at_SZ, put_SZ, rd_at, wr_at, rd_m, wr_m, up_s2, up_o2, zF hL.f, eP, e, eE, hs, w1]
      · simp (disch := omega) only [↓M1, ↓ofNat_nI, L0, L1, L2, L3, L4, L5, L6, L7, L8, L9, L10, L12, L31, L32, L40, L48, L50, L99, L100, L120, L180, L256, L500, n_lt0, n_ge0, n_let, n_lef, n_ltt, n_ltf, n_eqt, n_eqf, m_lt, m_le, m_eq, m_eq2, m_le2, m_lt2, m_nle, m_nlt, if_true, if_false, eq_self, Option.bind_some, mb0, mb1, mbb, mbn0, mbn1, not_true, not_false_eq_true, reduceIte, Bool.false_eq_true, nI_add, nI_clamp, pk_mul, in_t, in_f, in_m, zr, za, at_SZ, put_SZ, rd_at, wr_at, rd_m, wr_m, up_s2, up_o2, e2, hl, bT0, e, w2, x2]
  obtain ⟨e, s1, s2⟩ := start
  have r0 : rF T P N F (mm_up Ic (F + 16) p e) (vCur (mm_up Im 180 p e)) := (a5.ern (x := e) hp).e (vCur_up (j := 8) (by omega))
  have g1 : fF F Ic (mm_up Ic (F + 16) p e) := fF.up (by omega)
  have g2 : fV Im (mm_up Im 180 p e) := fV.up (by omega)
  obtain ⟨I2, B2, d', u1, u2, u3, u4⟩ := trades_loop (Jc := Jc) (Jm := Jm) hL hN hn hp n 0 _ _ (Nat.zero_le T) (by omega) (h'.go hL g1 g2 r0) (by rw [up_o2 (by omega)]; exact hl)
  obtain ⟨y1, y2, y3, y4, y5, y6⟩ := u3
  obtain ⟨dead, I3, B3, t1, t2, t3, t4, t5, t6, t7, t8, t9⟩ := tail_lock (Jc := Jc) (Jm := Jm) (v2 := Im 176 p) hL u4 hn hp (by rw [y5, up_o2 (by omega)]; exact hl) (by rw [y6, up_o2 (by omega)])
  refine ⟨dead, I3, B3, ?_, fun rec4 v1 => ?_, g1.trans (y1.trans t3), g2.trans (y2.trans t4), ?_, ?_, t7, fun q hq => ?_, t9⟩
  · rw [s1, u1]
    exact t1 _
  · rw [s2, u2]
    exact t2 rec4 _ v1
  · rw [t5, y3, up_o2 (by omega)]
  · rw [t6, y4, mm_up_o (by omega)]
  · rw [t8 q hq, y5, up_o2 (by omega)]
/-- who has died -/
def Dd (A B : mm_I) (q : Nat) : Bool := !decide (A 173 q = nI 0) && decide (B 173 q = nI 0)
theorem people_loop (hL : isL L R F) {n : Nat} (hN : N < 2 ^ 29) (hn : 9 ≤ n) (M0 : mm_I) : ∀ (d k : Nat) (Ic Im : mm_I), k ≤ P → P < k + d → rLf T P N R F Ic Im → (∀ q, k ≤ q → Im 173 q = M0 173 q) → ∃ Ic' Im', f2_passYear_2 SZ n d L (nI k) Ic Jc = some (mm_up (mm_up (mm_up Ic' F 11 (Ic' F 11 + 1)) F 9 0) F 10 0, Jc) ∧ f11_yearNow_4 SZ n d 167 (bsI (Dd M0 Im) k) (nI k) Im Jm = f11_yearNow_190 SZ n n 167 (bsI (Dd M0 Im') P) (nI 0) (mm_up Im' 167 23 (Im' 167 23 + 1)) Jm ∧ fF F Ic Ic' ∧ fV Im Im' ∧ Ic' F 12 = Ic F 12 ∧ Im' 167 = Im 167 ∧ rLf T P N R F Ic' Im' := by
  intro d
  induction d with
  | zero => intro k Ic Im h1 h2; omega
  | succ d ih =>
    intro k Ic Im h1 h2 h hm
    have hP := h.1.2.1
    have e6 := h.1.2.2.2.2.1
    have e2 := h.1.2.2.2.2.2
    have cS : f2_passYear_2 SZ n (d + 1) L (nI k) Ic Jc = f2_passYear_2_b SZ n (f2_passYear_2 SZ n d) L (nI k) Ic Jc := rfl
    have mS : ∀ v, f11_yearNow_4 SZ n (d + 1) 167 v (nI k) Im Jm = f11_yearNow_4_b SZ n (f11_yearNow_4 SZ n d) 167 v (nI k) Im Jm := fun v => rfl
    by_cases c : k = P
    · subst c
      refine ⟨Ic, Im, ?_, ?_, fF.refl, fV.refl, rfl, rfl, h⟩
      · rw [cS]
        unfold f2_passYear_2_b
        rw [(zL hL).1, (zL hL).2.2, e6, if_pos (nI_le (Nat.le_refl k) (by omega))]
      · rw [mS]
        unfold f11_yearNow_4_b
        rw [e2, if_pos (nI_le (Nat.le_refl k) (by omega))]
        rfl
    · have hkP : k < P := by omega
      obtain ⟨Lv, l1, l2, l3, l4, l5⟩ := h.2.2.2.2.l
      have lk := l2 k (by omega)
      cases hl : Lv k
      · rw [hl] at lk
        obtain ⟨I2, B2, q1, q2, q3⟩ := ih (k + 1) Ic Im (by omega) (by omega) h (fun q hq => hm q (by omega))
        have hD : Dd M0 Im k = false := by
          unfold Dd
          rw [← hm k (Nat.le_refl k), lk]
          decide
        refine ⟨I2, B2, ?_, ?_, q3⟩
        · rw [cS]
          unfold f2_passYear_2_b f2_passYear_29
          rw [(zL hL).1, (zL hL).2.2, e6, if_neg (nI_ge hkP (by omega)), l1 k (by omega), hl, Option.bind_some, if_pos (show b01 false = 0 by decide), nI_1]
          exact q1
        · rw [mS]
          unfold f11_yearNow_4_b f11_yearNow_172
          rw [e2, if_neg (nI_ge hkP (by omega)), if_pos (show mm_inb (nI k) (mm_al SZ (mm_rf SZ 167 13)) = true by simp (disch := omega) only [↓M1, ↓ofNat_nI, L0, L1, L2, L3, L4, L5, L6, L7, L8, L9, L10, L12, L31, L32, L40, L48, L50, L99, L100, L120, L180, L256, L500, n_lt0, n_ge0, n_let, n_lef, n_ltt, n_ltf, n_eqt, n_eqf, m_lt, m_le, m_eq, m_eq2, m_le2, m_lt2, m_nle, m_nlt, if_true, if_false, eq_self, Option.bind_some, mb0, mb1, mbb, mbn0, mbn1, not_true, not_false_eq_true, reduceIte, Bool.false_eq_true, nI_add, nI_clamp, pk_mul, in_t, in_f, in_m, zr, za, at_SZ, put_SZ, rd_at, wr_at, rd_m, wr_m]), show mm_rf SZ 167 13 = 173 by simp (disch := omega) only [↓M1, ↓ofNat_nI, L0, L1, L2, L3, L4, L5, L6, L7, L8, L9, L10, L12, L31, L32, L40, L48, L50, L99, L100, L120, L180, L256, L500, n_lt0, n_ge0, n_let, n_lef, n_ltt, n_ltf, n_eqt, n_eqf, m_lt, m_le, m_eq, m_eq2, m_le2, m_lt2, m_nle, m_nlt, if_true, if_false, eq_self, Option.bind_some, mb0, mb1, mbb, mbn0, mbn1, not_true, not_false_eq_true, reduceIte, Bool.false_eq_true, nI_add, nI_clamp, pk_mul, in_t, in_f, in_m, zr, za, at_SZ, put_SZ, rd_at, wr_at, rd_m, wr_m], nI_clamp (by omega), if_pos (show Im 173 k = 0 from lk), nI_1, bsI_f hD]
          exact q2
      · rw [hl] at lk
        obtain ⟨dead, I1, B1, p1, p2, p3, p4, p5, p6, p7, p8, p9⟩ := person_lock (Jc := Jc) (Jm := Jm) hL h hN hn hkP lk
        obtain ⟨I2, B2, q1, q2, q3, q4, q5, q6, q7⟩ := ih (k + 1) I1 B1 (by omega) (by omega) (h.go hL p3 p4 p7) (fun q hq => by rw [p8 q (by omega)]; exact hm q (by omega))
        have hD : Dd M0 B1 k = dead := by
          unfold Dd
          rw [← hm k (Nat.le_refl k), lk, p9]
          cases dead <;> decide
        have hE : bsI (Dd M0 Im) k = bsI (Dd M0 B1) k := bsI_congr fun q hq => by
          unfold Dd
          rw [p8 q (by omega)]
        refine ⟨I2, B2, ?_, ?_, p3.trans q3, p4.trans q4, q5.trans p5, q6.trans p6, q7⟩
        · rw [cS]
          unfold f2_passYear_2_b f2_passYear_29
          rw [(zL hL).1, (zL hL).2.2, e6, if_neg (nI_ge hkP (by omega)), l1 k (by omega), hl, Option.bind_some, if_neg (show ¬ b01 true = 0 by decide), p1, Option.bind_some, nI_1]
          exact q1
        · rw [mS, p2, hE, ← q2]
          cases dead
          · rw [if_neg (show ¬ false = true by decide), bsI_f hD]
          · rw [if_pos rfl, bsI_t hD]
def clr (k : Nat) (I Im : mm_I) : Prop := (∀ r, r ≠ 181 → r ≠ 182 → I r = Im r) ∧ (∀ q, q < k → I 181 q = nI 0 ∧ I 182 q = nI 0) ∧ ∀ q, k ≤ q → I 181 q = Im 181 q ∧ I 182 q = Im 182 q
theorem clr_loop {n : Nat} {v : Int32} (hP : P ≤ 8) (h2 : Im 167 2 = nI P) : ∀ (d k : Nat) (I : mm_I), k ≤ P → P < k + d → clr k I Im → ∃ I', f11_yearNow_190 SZ n d 167 v (nI k) I Jm = some (v, I', Jm) ∧ clr P I' Im := by
  intro d
  induction d with
  | zero => intro k I h1 h2; omega
  | succ d ih =>
    intro k I h1 h3 hc
    have e : I 167 2 = nI P := by rw [hc.1 167 (by omega) (by omega)]; exact h2
    have mS : f11_yearNow_190 SZ n (d + 1) 167 v (nI k) I Jm = f11_yearNow_190_b SZ n (f11_yearNow_190 SZ n d) 167 v (nI k) I Jm := rfl
    by_cases c : k = P
    · subst c
      refine ⟨I, ?_, hc⟩
      rw [mS]
      unfold f11_yearNow_190_b
      rw [e, if_pos (nI_le (Nat.le_refl k) (by omega))]
    · obtain ⟨c1, c2, c3⟩ := hc
      obtain ⟨I', g1, g2⟩ := ih (k + 1) (mm_up (mm_up I 181 k (nI 0)) 182 k (nI 0)) (by omega) (by omega) ⟨fun r h1 h2 => by rw [mm_up_o h2, mm_up_o h1]; exact c1 r h1 h2, fun q hq => by
        by_cases w : q = k
        · subst w
          exact ⟨by rw [up_o2 (by omega), up_s2], up_s2⟩
        · rw [up_o2 (by omega), up_o2 (by omega), up_o2 (by omega), up_o2 (by omega)]
          exact c2 q (by omega), fun q hq => by
        rw [up_o2 (by omega), up_o2 (by omega), up_o2 (by omega), up_o2 (by omega)]
        exact c3 q (by omega)⟩
      refine ⟨I', ?_, g2⟩
      rw [mS]
      unfold f11_yearNow_190_b
      rw [e]
      simp (disch := omega) only [↓M1, ↓ofNat_nI, L0, L1, L2, L3, L4, L5, L6, L7, L8, L9, L10, L12, L31, L32, L40, L48, L50, L99, L100, L120, L180, L256, L500, n_lt0, n_ge0, n_let, n_lef, n_ltt, n_ltf, n_eqt, n_eqf, m_lt, m_le, m_eq, m_eq2, m_le2, m_lt2, m_nle, m_nlt, if_true, if_false, eq_self, Option.bind_some, mb0, mb1, mbb, mbn0, mbn1, not_true, not_false_eq_true, reduceIte, Bool.false_eq_true, nI_add, nI_clamp, pk_mul, in_t, in_f, in_m, zr, za, at_SZ, put_SZ, rd_at, wr_at, rd_m, wr_m]
      exact g1
/-- a year -/
theorem year_lock (hL : isL L R F) (h : rLf T P N R F Ic Im) {n : Nat} (hN : N < 2 ^ 29) (hn : 9 ≤ n) : ∃ Ic' Im', f2_passYear SZ n L Ic Jc = some (Ic', Jc) ∧ f11_yearNow SZ n 167 Im Jm = some (bsI (Dd Im Im') P, Im', Jm) ∧ fF F Ic Ic' ∧ fV Im Im' ∧ Ic' F 12 = Ic F 12 ∧ Im' 167 24 = Im 167 24 ∧ rF T P (N + 1) F Ic' (vCur Im') := by
  have hP := h.1.2.1
  have hr := hL.r
  obtain ⟨I1, B1, q1, q2, q3, q4, q5, q6, q7⟩ := people_loop (Jc := Jc) (Jm := Jm) hL hN hn Im n 0 Ic Im (Nat.zero_le P) (by omega) h (fun _ _ => rfl)
  have r := q7.2.2.2.2
  obtain ⟨y, y1, y2, y3⟩ := r.ye
  obtain ⟨Wt, w1, w2, w3⟩ := r.wi
  obtain ⟨Nt, n1, n2, n3⟩ := r.ni
  have e2 := q7.1.2.2.2.2.2
  rw [y3] at q2
  obtain ⟨I', g1, g2, g3, g4⟩ := clr_loop (n := n) (v := bsI (Dd Im B1) P) (P := P) (Im := mm_up B1 167 23 (nI y + 1)) (Jm := Jm) hP (by rw [up_o2 (by omega)]; exact e2) n 0 (mm_up B1 167 23 (nI y + 1)) (Nat.zero_le P) (by omega) ⟨fun _ _ _ => rfl, fun q hq => absurd hq (Nat.not_lt_zero q), fun _ _ => ⟨rfl, rfl⟩⟩
  have hd : bsI (Dd Im B1) P = bsI (Dd Im I') P := bsI_congr fun q hq => by
    unfold Dd
    rw [g2 173 (by omega) (by omega), mm_up_o (by omega)]
  refine ⟨_, I', q1, ?_, q3.trans ((fF.up (by omega)).trans ((fF.up (by omega)).trans (fF.up (by omega)))), ?_, ?_, ?_, ?_⟩
  · rw [← hd]
    exact q2.trans g1
  · refine q4.trans ((fV.up7 (k := 23) (x := nI y + 1) (by omega)).trans ⟨fun r h1 h2 => g2 r (by omega) (by omega), fun k _ _ => by rw [g2 167 (by omega) (by omega)]⟩)
  · rw [up_o2 (by omega), up_o2 (by omega), up_o2 (by omega)]
    exact q5
  · rw [g2 167 (by omega) (by omega), up_o2 (by omega), q6]
  · rw [y2, nI_1] at *
    have s1 : rF T P (N + 1) F (mm_up I1 F 11 (nI (y + 1))) (vCur (mm_up B1 167 23 (nI (y + 1)))) := r.yr (fun a b => by rw [vCur_1, vCur_1, mm_up_o (by have := vc_ge a; omega)]) (show mm_up B1 167 23 (nI (y + 1)) 167 23 = nI (y + 1) from up_s2) (by omega) (by omega)
    have s2 : rF T P (N + 1) F (mm_up (mm_up I1 F 11 (nI (y + 1))) F 9 (bsI (fun _ => false) 8)) (fun a b => if a = 9 then I' 181 b else (vCur (mm_up B1 167 23 (nI (y + 1)))).1 a b, (vCur (mm_up B1 167 23 (nI (y + 1)))).2) := by
      refine s1.wt (fun a b ha => if_neg ha) rfl ⟨fun p hp => ?_, fun _ _ => rfl⟩
      show (if 9 = 9 then I' 181 p else (vCur (mm_up B1 167 23 (nI (y + 1)))).1 9 p) = b01 false
      rw [if_pos rfl]
      rcases Nat.lt_or_ge p P with c | c
      · exact (g3 p c).1
      · rw [(g4 p c).1, mm_up_o (by omega), w2 p hp, w3 p c]
    have s3 : rF T P (N + 1) F (mm_up (mm_up (mm_up I1 F 11 (nI (y + 1))) F 9 (bsI (fun _ => false) 8)) F 10 (bsI (fun _ => false) 8)) (fun a b => if a = 10 then I' 182 b else if a = 9 then I' 181 b else (vCur (mm_up B1 167 23 (nI (y + 1)))).1 a b, (vCur (mm_up B1 167 23 (nI (y + 1)))).2) := by
      refine s2.ng (fun a b ha => if_neg ha) rfl ⟨fun p hp => ?_, fun _ _ => rfl⟩
      show (if 10 = 10 then I' 182 p else if 10 = 9 then I' 181 p else (vCur (mm_up B1 167 23 (nI (y + 1)))).1 10 p) = b01 false
      rw [if_pos rfl]
      rcases Nat.lt_or_ge p P with c | c
      · exact (g3 p c).2
      · rw [(g4 p c).2, mm_up_o (by omega), n2 p hp, n3 p c]
    have hb : bsI (fun _ => false) 8 = 0 := by decide +kernel
    rw [hb] at s3
    refine s3.e ⟨fun a b ha => ?_, ?_⟩
    · by_cases c10 : a = 10
      · subst c10
        rfl
      · by_cases c9 : a = 9
        · subst c9
          rfl
        · show (vCur I').1 a b = (if a = 10 then I' 182 b else if a = 9 then I' 181 b else (vCur (mm_up B1 167 23 (nI (y + 1)))).1 a b)
          rw [if_neg c10, if_neg c9, vCur_1, vCur_1, g2 (vc a) (vc9 c9) (vc10 (by omega))]
    · show I' 167 23 = _
      rw [g2 167 (by omega) (by omega)]
      rfl
end YR2
