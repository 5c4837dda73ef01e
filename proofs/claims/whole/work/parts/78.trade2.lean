/-! ===== part 78: a town's trade, all of it (written by wip/whole/pre.py) ===== -/
section TRE
variable {tx : Nat → Nat} {L : Nat} {I I' Ic Im : mm_I} {Jc Jm : mm_J}
def kd (tx : Nat → Nat) (L s : Nat) : Nat := if wd tx L wPlain s = true then 0 else if wd tx L wBack s = true then 1 else if wd tx L wHalf s = true then 2 else if wd tx L wForb s = true then 3 else 4
theorem aPlain : ∀ k, k < wPlain.length → 97 ≤ wPlain.getD k 0 ∧ wPlain.getD k 0 ≤ 122 := abc (by decide)
theorem aBack : ∀ k, k < wBack.length → 97 ≤ wBack.getD k 0 ∧ wBack.getD k 0 ≤ 122 := abc (by decide)
theorem aHalf : ∀ k, k < wHalf.length → 97 ≤ wHalf.getD k 0 ∧ wHalf.getD k 0 ≤ 122 := abc (by decide)
theorem aForb : ∀ k, k < wForb.length → 97 ≤ wForb.getD k 0 ∧ wForb.getD k 0 ≤ 122 := abc (by decide)
theorem kd_wd {s : Nat} (hs : s ≤ L) (h : kd tx L s < 4) : ten tx L s = lr tx L s ∧ s < ten tx L s := by
  have g : ∀ l : List Nat, 0 < l.length → wd tx L l s = true → ten tx L s = lr tx L s ∧ s < ten tx L s := fun l hl hw => by
    obtain ⟨w1, w2, w3, w4⟩ := wd_tok hs hl hw
    exact ⟨by rw [w2, w3], by omega⟩
  unfold kd at h
  split at h
  · exact g wPlain (by decide) (by assumption)
  · split at h
    · exact g wBack (by decide) (by assumption)
    · split at h
      · exact g wHalf (by decide) (by assumption)
      · split at h
        · exact g wForb (by decide) (by assumption)
        · omega
theorem kind_c {n s : Nat} (hn : 501 ≤ n) (h : cT tx L Ic) (hs : s ≤ L) (ha : cA tx L s Ic) (h5 : Ic 1 5 = nI 0) : (kd tx L s < 4 ∧ f9_kindHere SZ n 146 Ic Jc = some (nI (kd tx L s), Ic, Jc)) ∨ (kd tx L s = 4 ∧ f9_kindHere SZ n 146 Ic Jc = some (3, mm_up (mm_up Ic 1 5 (nI 1)) 1 6 (nI s), Jc)) := by
  have e1 := sees_c (n := n) (Jc := Jc) hn h hs ha iC1 (by decide) (lt256 aPlain)
  have e2 := sees_c (n := n) (Jc := Jc) hn h hs ha iC2 (by decide) (lt256 aBack)
  have e3 := sees_c (n := n) (Jc := Jc) hn h hs ha iC3 (by decide) (lt256 aHalf)
  have e4 := sees_c (n := n) (Jc := Jc) hn h hs ha iC4 (by decide) (lt256 aForb)
  unfold f9_kindHere f9_kindHere_69 kd
  simp only [zr]
  rw [e1, Option.bind_some]
  cases wd tx L wPlain s
  · rw [if_pos (show b01 false = 0 by decide), e2, Option.bind_some, if_neg (show ¬ false = true by decide)]
    cases wd tx L wBack s
    · rw [if_pos (show b01 false = 0 by decide), e3, Option.bind_some, if_neg (show ¬ false = true by decide)]
      cases wd tx L wHalf s
      · rw [if_pos (show b01 false = 0 by decide), e4, Option.bind_some, if_neg (show ¬ false = true by decide)]
        cases wd tx L wForb s
        · refine Or.inr ⟨rfl, ?_⟩
          rw [if_pos (show b01 false = 0 by decide), ha.1, show f4_blame SZ 1 1 (nI s) Ic Jc = some (mm_up (mm_up Ic 1 5 (nI 1)) 1 6 (nI s), Jc) from blame_t (f := 1) h5]
          rfl
        · exact Or.inl ⟨by decide, rfl⟩
      · exact Or.inl ⟨by rw [if_pos rfl]; decide, rfl⟩
    · exact Or.inl ⟨by rw [if_pos rfl]; decide, rfl⟩
  · exact Or.inl ⟨by rw [if_pos rfl]; decide, rfl⟩
theorem kind_m {n s a T : Nat} (hn : 501 ≤ n) (hm : mT tx L Im) (hal : a ≤ L) (hsa : sk tx L a = s) (g9 : Im 167 29 = nI a) (m4 : Im 167 34 = nI T) : ∃ I1 J1, f11_takeTrade SZ n 167 Im Jm = f11_takeTrade_134 SZ n 167 (nI (4 * T)) (if kd tx L s < 4 then nI (kd tx L s) else m1) I1 J1 ∧ fT Im I1 ∧ I1 167 29 = nI s ∧ I1 167 31 = nI (lr tx L s) ∧ I1 167 28 = Im 167 28 := by
  have hs : s ≤ L := by rw [← hsa]; exact sk_le tx L a
  obtain ⟨I1, J1, k1, f1, e29, e31, eJ, e28⟩ := word_m (Jm := Jm) hn hm hal hsa g9
  have c1 : f11_code SZ 112 108 97 105 I1 J1 = some (lN (vlK wPlain 4)) := by unfold f11_code; decide +kernel
  have c2 : f11_code SZ 98 97 99 107 I1 J1 = some (lN (vlK wBack 4)) := by unfold f11_code; decide +kernel
  have c3 : f11_code SZ 104 97 108 102 I1 J1 = some (lN (vlK wHalf 4)) := by unfold f11_code; decide +kernel
  have c4 : f11_code SZ 102 111 114 98 I1 J1 = some (lN (vlK wForb 4)) := by unfold f11_code; decide +kernel
  have l1 : f11_longer SZ (lN (vlK wPlain 4)) 110 I1 J1 = some (lN (vlK wPlain 5)) := lng (c := 110) (by omega)
  have l4 : f11_longer SZ (lN (vlK wForb 4)) 105 I1 J1 = some (lN (vlK wForb 5)) := lng (c := 105) (by omega)
  have l5 : f11_longer SZ (lN (vlK wForb 5)) 100 I1 J1 = some (lN (vlK wForb 6)) := lng (c := 100) (by omega)
  have l6 : f11_longer SZ (lN (vlK wForb 6)) 100 I1 J1 = some (lN (vlK wForb 7)) := lng (c := 100) (by omega)
  have l7 : f11_longer SZ (lN (vlK wForb 7)) 101 I1 J1 = some (lN (vlK wForb 8)) := lng (c := 101) (by omega)
  have l8 : f11_longer SZ (lN (vlK wForb 8)) 110 I1 J1 = some (lN (vlK wForb 9)) := lng (c := 110) (by omega)
  refine ⟨I1, J1, ?_, f1, e29, e31, e28⟩
  have e34 : I1 167 34 = nI T := by rw [f1.2 34 (by omega) (by omega) (by omega) (by omega) (by omega)]; exact m4
  unfold f11_takeTrade kd
  rw [k1, Option.bind_some]
  dsimp only
  rw [e34, show (4 : Int32) * nI T = nI (4 * T) from pk_mul 4 T, c1, Option.bind_some, l1, Option.bind_some]
  refine (ite_cg (word_eq (l := wPlain) hs (by decide) aPlain eJ rfl)).trans ?_
  cases wd tx L wPlain s
  · rw [if_neg (show ¬ false = true by decide), if_neg (show ¬ false = true by decide), c2, Option.bind_some]
    refine (ite_cg (word_eq (l := wBack) hs (by decide) aBack eJ rfl)).trans ?_
    cases wd tx L wBack s
    · rw [if_neg (show ¬ false = true by decide), if_neg (show ¬ false = true by decide), c3, Option.bind_some]
      refine (ite_cg (word_eq (l := wHalf) hs (by decide) aHalf eJ rfl)).trans ?_
      cases wd tx L wHalf s
      · rw [if_neg (show ¬ false = true by decide), if_neg (show ¬ false = true by decide), c4, Option.bind_some, l4, Option.bind_some, l5, Option.bind_some, l6, Option.bind_some, l7, Option.bind_some, l8, Option.bind_some]
        refine (ite_cg (word_eq (l := wForb) hs (by decide) aForb eJ rfl)).trans ?_
        cases wd tx L wForb s
        · rfl
        · rfl
      · rfl
    · rfl
  · rfl
/-- the two numbers, needs, the end -/
def m2 (n T : Nat) (I : mm_I) (J : mm_J) : Option (Int32 × mm_I × mm_J) := (f11_into SZ n 167 185 (nI (4 * T + 1)) 1 9 I J).bind fun o4 => if o4.1 ≤ 0 then ((f11_into SZ n 167 185 (nI (4 * T + 2)) 0 99 o4.2.1 o4.2.2).bind fun o6 => f11_takeTrade_210 SZ n 167 (nI (4 * T)) o6.1 o6.2.1 o6.2.2) else (f11_takeTrade_210 SZ n 167 (nI (4 * T)) o4.1 o4.2.1 o4.2.2)
theorem m210x {n : Nat} {f : Nat} {v : Int32} {I : mm_I} {J : mm_J} (hf : 1 ≤ f ∧ f ≤ 4) : f11_takeTrade_210 SZ n 167 v (nI f) I J = some (nI f, I, J) := by
  unfold f11_takeTrade_210
  rw [if_neg (nI_nle (by omega) (by omega))]
theorem tr2_lock {n s a T : Nat} (hn : 501 ≤ n) (hc : cT tx L Ic) (hm : mT tx L Im) (ha : cA tx L s Ic) (h5 : Ic 1 5 = nI 0) (hal : a ≤ L) (hsa : sk tx L a = s) (g9 : Im 167 29 = nI a) (hT : T < 6) (c5 : Ic 15 5 = nI T) (m4 : Im 167 34 = nI T) (mn : Im 185 (4 * T + 3) = m1) : ∃ Ic' Im' J' r, tr2 n (nI T) Ic Jc = some (Ic', Jc) ∧ m2 n T Im Jm = some (r, Im', J') ∧ fD Ic Ic' ∧ fMt Im Im' ∧ OC tx L s Ic Im Ic' Im' r (Ic' 15 5 = nI (T + 1) ∧ Ic' 15 6 = Ic 15 6 ∧ Im' 167 34 = nI (T + 1) ∧ Im' 167 36 = Im 167 36 ∧ Im' 167 39 = Im 167 39 ∧ (∀ r, r ≠ 1 → r ≠ 15 → r ≠ 19 → r ≠ 21 → r ≠ 23 → Ic' r = Ic r) ∧ (∀ t, t ≠ T → Ic' 19 t = Ic 19 t ∧ Ic' 21 t = Ic 21 t ∧ Ic' 23 t = Ic 23 t) ∧ (∃ y, 1 ≤ y ∧ y ≤ 9 ∧ Ic' 19 T = nI y ∧ Im' 185 (4 * T + 1) = nI y) ∧ (∃ w, w ≤ 99 ∧ Ic' 21 T = nI w ∧ Im' 185 (4 * T + 2) = nI w) ∧ orT T (Ic' 23 T) ∧ Im' 185 (4 * T + 3) = Ic' 23 T ∧ (∀ q, q ≤ 4 * T → Im' 185 q = Im 185 q) ∧ ∀ r, r ≠ 167 → r ≠ 185 → Im' r = Im r) := by
  have hL := hc.1
  have hs : s ≤ L := by rw [← hsa]; exact sk_le tx L a
  have cA1 : ∀ {q : Nat} {x : Int32} {s' : Nat} {I : mm_I} {r : Nat}, r ≠ 1 → cA tx L s' I → cA tx L s' (mm_up I r q x) := fun hr h => h.o (mm_up_o (by omega))
  obtain ⟨r1, I1, n1, n2, n3⟩ := num_c (Jc := Jc) (lo := 1) (hi := 9) hn hc hs ha h5
  obtain ⟨r, I2, q1, q2, q3, q4⟩ := into_m (Jm := Jm) (r0 := 185) (i := 4 * T + 1) (lo := 1) (hi := 9) hn hm hal hsa g9 al185.1 (by omega) (by omega) (by omega)
  have p1 : f6_put SZ 18 (nI T) r1 I1 Jc = some (mm_up I1 19 T r1, Jc) := by
    rw [f6_put_eq (by rw [pT18.1, pT18.2]; omega), pT18.1, pT18.2, wr_at hT (by omega)]
  rcases n3 with ⟨v1, v2, v3, v4, v5⟩ | ⟨v1, v2, v3, v4, v5⟩
  · rcases q4 with ⟨u1, u2, u3, u4, u5⟩ | ⟨u1, -⟩
    · have hle := ok_le (lo := 1) (hi := 9) (by omega) v1
      have hc1 : cT tx L (mm_up I1 19 T r1) := (hc.f n2).d (fD.up (by omega))
      have ha1 := cA1 (q := T) (x := r1) (r := 19) (by omega) v5
      have h51 : mm_up I1 19 T r1 1 5 = nI 0 := by rw [mm_up_o (by omega)]; exact v3
      have hm1 := hm.t (q2.t (by omega))
      have hs1 := sk_le tx L (ten tx L s)
      obtain ⟨r3, I3, n1', n2', n3'⟩ := num_c (Jc := Jc) (lo := 0) (hi := 99) hn hc1 hs1 ha1 h51
      obtain ⟨r', I4, q1', q2', q3', q4'⟩ := into_m (Jm := Jm) (r0 := 185) (i := 4 * T + 2) (lo := 0) (hi := 99) hn hm1 (ten_le tx L s) rfl u3 al185.1 (by omega) (by omega) (by omega)
      have p2 : f6_put SZ 20 (nI T) r3 I3 Jc = some (mm_up I3 21 T r3, Jc) := by
        rw [f6_put_eq (by rw [pT20.1, pT20.2]; omega), pT20.1, pT20.2, wr_at hT (by omega)]
      have eC : tr2 n (nI T) Ic Jc = tr4 n (nI T) (mm_up I3 21 T r3) Jc := by
        unfold tr2 tr3
        rw [n1, Option.bind_some]
        dsimp only
        rw [p1, Option.bind_some]
        dsimp only
        rw [n1', Option.bind_some]
        dsimp only
        rw [p2, Option.bind_some]
      have eM : m2 n T Im Jm = f11_takeTrade_210 SZ n 167 (nI (4 * T)) r' I4 Jm := by
        unfold m2
        rw [q1, Option.bind_some]
        dsimp only
        rw [u2, if_pos (show nI 0 ≤ 0 by decide), q1', Option.bind_some]
      rcases n3' with ⟨v1', v2', v3', v4', v5'⟩ | ⟨v1', v2', v3', v4', v5'⟩
      · rcases q4' with ⟨u1', u2', u3', u4', u5'⟩ | ⟨u1', -⟩
        · have hle' := ok_le (lo := 0) (hi := 99) (by omega) v1'
          have hc3 : cT tx L (mm_up I3 21 T r3) := (hc1.f n2').d (fD.up (by omega))
          have hm3 := hm1.t (q2'.t (by omega))
          have k15 : ∀ k, mm_up I3 21 T r3 15 k = Ic 15 k := fun k => by
            rw [mm_up_o (by omega), n2'.1 15 (by omega), mm_up_o (by omega), n2.1 15 (by omega)]
          have k167 : ∀ k, k ≠ 28 → k ≠ 29 → k ≠ 31 → k ≠ 32 → k ≠ 33 → I4 167 k = Im 167 k := fun k h1 h2 h3 h4 h5 => by
            rw [q2'.2 k h1 h2 h3 h4 h5, q2.2 k h1 h2 h3 h4 h5]
          obtain ⟨Ic', Im', J', rr, t1, t2, t3, t4, t5⟩ := tr4_lock (Jc := Jc) (Jm := Jm) hn hc3 hm3 (cA1 (q := T) (x := r3) (r := 21) (by omega) v5') (by rw [mm_up_o (by omega)]; exact v3') (ten_le tx L _) rfl u3' hT (by rw [k15]; exact c5) (by rw [k167 34 (by omega) (by omega) (by omega) (by omega) (by omega)]; exact m4) (by rw [q3' _ (by omega), q3 _ (by omega)]; exact mn)
          refine ⟨Ic', Im', J', rr, eC.trans t1, by rw [eM, u2']; exact t2, (n2.d.trans (fD.up (by omega))).trans (n2'.d.trans ((fD.up (by omega)).trans t3)), ((q2.t (by omega)).trans (q2'.t (by omega))).trans t4, ?_⟩
          rcases t5 with ⟨a', z1, z2, z3, z4, z5, z6, z7, z8, y1, y2, y3, y4, y5, y6, y7, y8, y9, y10, y11⟩ | ⟨f, pl, z1, z2, z3⟩
          · refine Or.inl ⟨a', z1, ?_, z3, z4, z5, z6, ?_, ?_, y1, ?_, y3, ?_, ?_, ?_, ?_, ?_, ?_, y8, y9, ?_, ?_⟩
            · have g1 := sk_ge (tx := tx) (ten_le tx L (sk tx L (ten tx L s)))
              have g2 := (ok_dv v1').2.1
              have g3 := sk_ge (tx := tx) (ten_le tx L s)
              have g4 := (ok_dv v1).2.1
              omega
            · rw [z7, mm_up_o (by omega), v4', mm_up_o (by omega), v4]
            · rw [z8, u5', u5]
            · rw [y2, k15]
            · rw [y4, k167 36 (by omega) (by omega) (by omega) (by omega) (by omega)]
            · rw [y5, k167 39 (by omega) (by omega) (by omega) (by omega) (by omega)]
            · intro r g1 g2 g3 g4 g5
              rw [y6 r g1 g2 g5, mm_up_o g4, n2'.1 r g1, mm_up_o g3, n2.1 r g1]
            · intro t ht
              refine ⟨?_, ?_, ?_⟩
              · rw [y6 19 (by omega) (by omega) (by omega), mm_up_o (by omega), n2'.1 19 (by omega), up_o2 (by omega), n2.1 19 (by omega)]
              · rw [y6 21 (by omega) (by omega) (by omega), up_o2 (by omega), n2'.1 21 (by omega), mm_up_o (by omega), n2.1 21 (by omega)]
              · rw [y7 t ht, mm_up_o (by omega), n2'.1 23 (by omega), mm_up_o (by omega), n2.1 23 (by omega)]
            · refine ⟨_, hle.1, hle.2, ?_, ?_⟩
              · rw [y6 19 (by omega) (by omega) (by omega), mm_up_o (by omega), n2'.1 19 (by omega), up_s2, v2]
              · rw [y10 _ (by omega), q3' _ (by omega), u4]
            · refine ⟨_, hle'.2, ?_, ?_⟩
              · rw [y6 21 (by omega) (by omega) (by omega), up_s2, v2']
              · rw [y10 _ (by omega), u4']
            · intro q hq
              rw [y10 q (by omega), q3' q (by omega), q3 q (by omega)]
            · intro r g1 g2
              rw [y11 r g1 g2, q2'.1 r g1 g2, q2.1 r g1 g2]
          · exact Or.inr ⟨f, pl, z1, z2, z3⟩
        · exact absurd v1' u1'
      · rcases q4' with ⟨u1', -⟩ | ⟨u1', u2', u3'⟩
        · exact absurd u1' v1'
        · have hx : XF tx L (bad tx L (sk tx L (ten tx L s))) (sk tx L (ten tx L s)) (mm_up I3 21 T r3) := (x_bad (hc1.f n2') hs1 v3' v4' v5').up (by omega)
          obtain ⟨I5, t1, t2, t3⟩ := x_tr4 (t := nI T) (Jc := Jc) hn hx
          refine ⟨I5, I4, Jm, _, eC.trans t1, by rw [eM, u2']; exact m210x (bad_le _), (n2.d.trans (fD.up (by omega))).trans (n2'.d.trans ((fD.up (by omega)).trans t2)), (q2.t (by omega)).trans (q2'.t (by omega)), Or.inr ⟨_, _, t3, rfl, u3'⟩⟩
    · exact absurd v1 u1
  · rcases q4 with ⟨u1, -⟩ | ⟨u1, u2, u3⟩
    · exact absurd u1 v1
    · have hx : XF tx L (bad tx L s) s (mm_up I1 19 T r1) := (x_bad (hc.f n2) hs v3 v4 v5).up (by omega)
      obtain ⟨I5, t1, t2, t3⟩ := x_tr3 (t := nI T) (Jc := Jc) hn hx
      refine ⟨I5, I2, Jm, _, ?_, ?_, n2.d.trans ((fD.up (by omega)).trans t2), q2.t (by omega), Or.inr ⟨_, _, t3, rfl, u3⟩⟩
      · unfold tr2
        rw [n1, Option.bind_some]
        dsimp only
        rw [p1, Option.bind_some]
        exact t1
      · unfold m2
        rw [q1, Option.bind_some]
        dsimp only
        rw [u2, if_neg (nI_nle (by have := (bad_le (tx := tx) (L := L) s).1; omega) (by have := (bad_le (tx := tx) (L := L) s).2; omega))]
        exact m210x (bad_le s)
/-- one more trade in the draft -/
theorem dC.add {T kk : Nat} {Ic' Im' : mm_I} (h : dC T Ic Im) (hk : kk ≤ 3) (c1 : ∀ t, t ≠ T → Ic' 17 t = Ic 17 t ∧ Ic' 19 t = Ic 19 t ∧ Ic' 21 t = Ic 21 t ∧ Ic' 23 t = Ic 23 t) (m1 : ∀ q, q < 4 * T → Im' 185 q = Im 185 q) (e1 : Ic' 17 T = nI kk ∧ Im' 185 (4 * T) = nI kk) (e2 : ∃ y, 1 ≤ y ∧ y ≤ 9 ∧ Ic' 19 T = nI y ∧ Im' 185 (4 * T + 1) = nI y) (e3 : ∃ w, w ≤ 99 ∧ Ic' 21 T = nI w ∧ Im' 185 (4 * T + 2) = nI w) (e4 : orT T (Ic' 23 T)) (e5 : Im' 185 (4 * T + 3) = Ic' 23 T) : dC (T + 1) Ic' Im' := by
  intro t ht
  by_cases e : t = T
  · subst e
    exact ⟨⟨kk, hk, e1⟩, e2, e3, e5.symm, e4⟩
  · have g := h t (by omega)
    have c := c1 t e
    rw [c.1, c.2.1, c.2.2.1, c.2.2.2, m1 _ (by omega), m1 _ (by omega), m1 _ (by omega), m1 _ (by omega)]
    exact g
/-- a trade's clause without its end -/
theorem tt_lock {n s a T l : Nat} (hn : 501 ≤ n) (hc : cT tx L Ic) (hm : mT tx L Im) (ha : cA tx L s Ic) (h5 : Ic 1 5 = nI 0) (hal : a ≤ L) (hsa : sk tx L a = s) (g9 : Im 167 29 = nI a) (hT : T < 6) (hR : dR T 0 l Ic Jc Im) : ∃ Ic' Im' J' r, tr0 n (nI T) Ic Jc = some (Ic', Jc) ∧ f11_takeTrade SZ n 167 Im Jm = some (r, Im', J') ∧ fD Ic Ic' ∧ fMt Im Im' ∧ OC tx L s Ic Im Ic' Im' r (dR (T + 1) 0 l Ic' Jc Im') := by
  have hL := hc.1
  have hs : s ≤ L := by rw [← hsa]; exact sk_le tx L a
  obtain ⟨⟨t1, t2, t3, c5, m4, c6, m6, c3, m9⟩, rC, rS, rA, rB, rF', rL⟩ := hR
  obtain ⟨I1, J1, k1, f1, e29, e31, e28⟩ := kind_m (Jm := Jm) hn hm hal hsa g9 m4
  have cA1 : ∀ {q : Nat} {x : Int32} {s' : Nat} {I : mm_I} {r : Nat}, r ≠ 1 → cA tx L s' I → cA tx L s' (mm_up I r q x) := fun hr h => h.o (mm_up_o (by omega))
  rcases kind_c (n := n) (Jc := Jc) hn hc hs ha h5 with ⟨hk, e⟩ | ⟨hk, e⟩
  · rw [if_pos hk] at k1
    obtain ⟨te, tl⟩ := kd_wd hs hk
    have p0 : f6_put SZ 16 (nI T) (nI (kd tx L s)) Ic Jc = some (mm_up Ic 17 T (nI (kd tx L s)), Jc) := by
      rw [f6_put_eq (by rw [pT16.1, pT16.2]; omega), pT16.1, pT16.2, wr_at hT (by omega)]
    have hc1 : cT tx L (mm_up Ic 17 T (nI (kd tx L s))) := hc.d (fD.up (by omega))
    have ha1 := cA1 (q := T) (x := nI (kd tx L s)) (r := 17) (by omega) ha
    obtain ⟨I2, b1, b2, b3, b4, b5⟩ := adv_c (Jc := Jc) hn hc1 (ten_le tx L s) ha1.2.2
    have eC : tr0 n (nI T) Ic Jc = tr2 n (nI T) I2 Jc := by
      unfold tr0 tr1
      rw [e, Option.bind_some]
      dsimp only
      rw [p0, Option.bind_some]
      dsimp only
      rw [b1, Option.bind_some]
    have i0 : mm_inb (nI (4 * T)) (mm_al SZ (mm_rf SZ 167 35)) = true := by rw [al185.2, al185.1]; exact inb_nI (by omega) (by omega)
    have i3 : mm_inb (nI (4 * T + 3)) (mm_al SZ (mm_rf SZ 167 35)) = true := by rw [al185.2, al185.1]; exact inb_nI (by omega) (by omega)
    have eM : f11_takeTrade SZ n 167 Im Jm = m2 n T (mm_up (mm_up (mm_up I1 167 29 (nI (lr tx L s))) 185 (4 * T) (nI (kd tx L s))) 185 (4 * T + 3) m1) J1 := by
      rw [k1]
      unfold f11_takeTrade_134
      rw [show nI (4 * T) + 3 = nI (4 * T + 3) from nI_add _ 3, show nI (4 * T) + 1 = nI (4 * T + 1) from nI_add _ 1, show nI (4 * T) + 2 = nI (4 * T + 2) from nI_add _ 2, if_pos (nI_pos' (by omega)), if_pos i0, if_pos i3, al185.2, nI_clamp (by omega), nI_clamp (by omega), e31]
      rfl
    have fm : fMt Im (mm_up (mm_up (mm_up I1 167 29 (nI (lr tx L s))) 185 (4 * T) (nI (kd tx L s))) 185 (4 * T + 3) m1) := f1.t.trans ((fMt.up (by omega)).trans ((fMt.up (by omega)).trans (fMt.up (by omega))))
    have k167 : ∀ k, k ≠ 28 → k ≠ 29 → k ≠ 31 → k ≠ 32 → k ≠ 33 → (mm_up (mm_up (mm_up I1 167 29 (nI (lr tx L s))) 185 (4 * T) (nI (kd tx L s))) 185 (4 * T + 3) m1) 167 k = Im 167 k := fun k h1 h2 h3 h4 h5 => by
      rw [mm_up_o (by omega), mm_up_o (by omega), up_o2 (by omega), f1.2 k h1 h2 h3 h4 h5]
    obtain ⟨Ic', Im', J', rr, z0, z00, z1, z2, z3⟩ := tr2_lock (Jc := Jc) (Jm := J1) (a := ten tx L s) hn (hc1.f b2) (hm.t fm) b3 (by rw [b4, mm_up_o (by omega)]; exact h5) (ten_le tx L s) rfl (by rw [mm_up_o (by omega), mm_up_o (by omega), up_s2, te]) hT (by rw [b2.1 15 (by omega), mm_up_o (by omega)]; exact c5) (by rw [k167 34 (by omega) (by omega) (by omega) (by omega) (by omega)]; exact m4) up_s2
    refine ⟨Ic', Im', J', rr, eC.trans z0, eM.trans z00, (fD.up (by omega)).trans (b2.d.trans z1), fm.trans z2, ?_⟩
    rcases z3 with ⟨a', x1, x2, x3, x4, x5, x6, x7, x8, y1, y2, y3, y4, y5, y6, y7, y8, y9, y10, y11, y12, y13⟩ | ⟨f, pl, x1, x2, x3⟩
    · have row : ∀ r, r ≠ 1 → r ≠ 15 → r ≠ 17 → r ≠ 19 → r ≠ 21 → r ≠ 23 → Ic' r = Ic r := fun r g1 g2 g3 g4 g5 g6 => by
        rw [y6 r g1 g2 g4 g5 g6, b2.1 r g1, mm_up_o g3]
      have rom : ∀ r, r ≠ 167 → r ≠ 185 → Im' r = Im r := fun r g1 g2 => by
        rw [y13 r g1 g2, mm_up_o g2, mm_up_o g2, mm_up_o g1, f1.1 r g1]
      refine Or.inl ⟨a', x1, ?_, x3, x4, x5, x6, ?_, ?_, ⟨by omega, t2, t3, y1, y3, ?_, ?_, ?_, ?_⟩, ?_, ?_, fun p hp => absurd hp (Nat.not_lt_zero p), fun p hp => absurd hp (Nat.not_lt_zero p), ?_, ?_⟩
      · have g1 := sk_ge (tx := tx) (ten_le tx L s)
        omega
      · rw [x7, b5, mm_up_o (by omega)]
      · rw [x8, mm_up_o (by omega), mm_up_o (by omega), up_o2 (by omega)]; exact e28
      · rw [y2, b2.1 15 (by omega), mm_up_o (by omega)]; exact c6
      · rw [y4, k167 36 (by omega) (by omega) (by omega) (by omega) (by omega)]; exact m6
      · rw [row 146 (by omega) (by omega) (by omega) (by omega) (by omega) (by omega)]; exact c3
      · rw [y5, k167 39 (by omega) (by omega) (by omega) (by omega) (by omega)]; exact m9
      · refine rC.add (kk := kd tx L s) (by omega) (fun t ht => ⟨?_, ?_, ?_, ?_⟩) (fun q hq => ?_) ⟨?_, ?_⟩ y8 y9 y10 y11
        · rw [y6 17 (by omega) (by omega) (by omega) (by omega) (by omega), b2.1 17 (by omega), up_o2 (by omega)]
        · rw [(y7 t ht).1, b2.1 19 (by omega), mm_up_o (by omega)]
        · rw [(y7 t ht).2.1, b2.1 21 (by omega), mm_up_o (by omega)]
        · rw [(y7 t ht).2.2, b2.1 23 (by omega), mm_up_o (by omega)]
        · rw [y12 q (by omega), up_o2 (by omega), up_o2 (by omega), mm_up_o (by omega), f1.1 185 (by omega)]
        · rw [y6 17 (by omega) (by omega) (by omega) (by omega) (by omega), b2.1 17 (by omega), up_s2]
        · rw [y12 _ (Nat.le_refl _), up_o2 (by omega), up_s2]
      · refine ⟨fun k h1 h2 => ?_, fun p t hp => absurd hp (Nat.not_lt_zero p)⟩
        rw [row 67 (by omega) (by omega) (by omega) (by omega) (by omega) (by omega)]; exact rS.1 k h1 h2
      · exact rF'.c (fun k _ => by rw [row 63 (by omega) (by omega) (by omega) (by omega) (by omega) (by omega)]) (row 69 (by omega) (by omega) (by omega) (by omega) (by omega) (by omega)) (row 73 (by omega) (by omega) (by omega) (by omega) (by omega) (by omega)) (row 77 (by omega) (by omega) (by omega) (by omega) (by omega) (by omega)) (row 79 (by omega) (by omega) (by omega) (by omega) (by omega) (by omega))
      · exact rL.c (row 25 (by omega) (by omega) (by omega) (by omega) (by omega) (by omega)) rfl (rom 188 (by omega) (by omega))
    · exact Or.inr ⟨f, pl, x1, x2, x3⟩
  · rw [if_neg (by omega)] at k1
    have hx := x_blamed hc hs ha (f := 1) (by omega) s
    obtain ⟨I2, b1, b2, b3⟩ := put_any (Jc := Jc) (i := nI T) (x := 3) pT16.1 pT16.2 (by omega) (by omega) hx
    obtain ⟨I3, d1, d2, d3⟩ := x_tr1 (t := nI T) (Jc := Jc) hn b3
    refine ⟨I3, mm_up I1 167 28 (nI s), J1, nI 1, ?_, ?_, (((fR.up (by omega)).trans (fR.up (by omega))).d.trans b2).trans d2, f1.t.trans (fMt.up (by omega)), Or.inr ⟨1, s, d3, rfl, up_s2⟩⟩
    · unfold tr0
      rw [e, Option.bind_some]
      dsimp only
      rw [b1, Option.bind_some]
      exact d1
    · rw [k1]
      unfold f11_takeTrade_134 f11_fails
      rw [if_neg (show ¬ (0 : Int32) ≤ m1 by decide), e29]
      rfl
end TRE
