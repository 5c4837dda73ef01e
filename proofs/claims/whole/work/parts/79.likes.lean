/-! ===== part 79: a town's likes, both sides (written by wip/whole/pre.py) ===== -/
section LKS
variable {tx : Nat → Nat} {L : Nat} {I I' Ic Im : mm_I} {Jc Jm : mm_J}
def lk2 (n : Nat) (p : Int32) (I : mm_I) (J : mm_J) : Option (mm_I × mm_J) := (f4_number SZ n 1 0 ((I 15 5) - 1) I J).bind fun o3 => (f10_cell SZ p o3.1 o3.2.1 o3.2.2).bind fun o4 => (f4_isSound SZ 1 o3.2.1 o3.2.2).bind fun o5 => if o5 = 0 then (f9_tellLike_106 SZ n 146 p o3.1 ((1 : Int64) <<< ((if 0 < o4 then o4 else 0).toInt64 &&& 63)) o3.2.1 o3.2.2) else (if (lg_cmp ((o3.2.2 146 4) &&& ((1 : Int64) <<< ((if 0 < o4 then o4 else 0).toInt64 &&& 63))) 0) = 0 then (f9_tellLike_106 SZ n 146 p o3.1 ((1 : Int64) <<< ((if 0 < o4 then o4 else 0).toInt64 &&& 63)) o3.2.1 o3.2.2) else ((f4_blame SZ 1 4 (I 1 3) o3.2.1 o3.2.2).bind fun o8 => f9_tellLike_106 SZ n 146 p o3.1 ((1 : Int64) <<< ((if 0 < o4 then o4 else 0).toInt64 &&& 63)) o8.1 o8.2))
def lk1 (n : Nat) (I : mm_I) (J : mm_J) : Option (mm_I × mm_J) := (f4_number SZ n 1 0 ((I 15 6) - 1) I J).bind fun o2 => lk2 n o2.1 o2.2.1 o2.2.2
theorem lt15 {n : Nat} {c : Int32} {I : mm_I} {J : mm_J} : f9_tellLike_15 SZ n 146 146 c I J = (f9_openClause SZ n 146 c I J).bind fun o1 => lk1 n o1.1 o1.2 := by
  unfold f9_tellLike_15
  simp only [zr]
  rfl
theorem l106 {n : Nat} {v1 v3 : Int32} {v4 : Int64} {I : mm_I} {J : mm_J} : f9_tellLike_106 SZ n 146 v1 v3 v4 I J = (f10_cell SZ v1 v3 I (mm_upJ J 146 4 ((J 146 4) ||| v4))).bind fun o1 => (f4_number SZ n 1 0 99 I (mm_upJ J 146 4 ((J 146 4) ||| v4))).bind fun o2 => (f6_put SZ 24 o1 o2.1 o2.2.1 o2.2.2).bind fun o3 => some (mm_up o3.1 146 3 ((o3.1 146 3) + 1), o3.2) := by
  unfold f9_tellLike_106
  simp only [zr]
theorem pT24 : mm_rf SZ 24 0 = 25 ∧ mm_al SZ 25 = 48 := by decide +kernel
theorem al188 : mm_al SZ 188 = 48 ∧ mm_rf SZ 167 40 = 188 := by decide +kernel
theorem cell_any {p t : Int32} {I : mm_I} {J : mm_J} : ∃ c, f10_cell SZ p t I J = some c := by
  unfold f10_cell f10_cell_24 f10_cell_25 f10_cell_40
  repeat' split
  all_goals exact ⟨_, rfl⟩
theorem x_106 {n f pl : Nat} {v1 v3 : Int32} {v4 : Int64} (hn : 501 ≤ n) (h : XF tx L f pl I) : ∃ I' J', f9_tellLike_106 SZ n 146 v1 v3 v4 I Jc = some (I', J') ∧ fD I I' ∧ XF tx L f pl I' := by
  obtain ⟨c, hc⟩ := cell_any (p := v1) (t := v3) (I := I) (J := mm_upJ Jc 146 4 ((Jc 146 4) ||| v4))
  obtain ⟨I1, a1, a2, a3⟩ := put_any (Jc := mm_upJ Jc 146 4 ((Jc 146 4) ||| v4)) (i := c) (x := m1) pT24.1 pT24.2 (by omega) (by omega) h
  refine ⟨mm_up I1 146 3 ((I1 146 3) + 1), mm_upJ Jc 146 4 ((Jc 146 4) ||| v4), ?_, a2.trans (fD.up (r := 146) (by omega)), a3.up (by omega)⟩
  rw [l106, hc, Option.bind_some, x_num hn h, Option.bind_some]
  dsimp only
  rw [a1]
  rfl
theorem x_lk2 {n f pl : Nat} {p : Int32} (hn : 501 ≤ n) (h : XF tx L f pl I) : ∃ I' J', lk2 n p I Jc = some (I', J') ∧ fD I I' ∧ XF tx L f pl I' := by
  obtain ⟨c, hc⟩ := cell_any (p := p) (t := m1) (I := I) (J := Jc)
  obtain ⟨I1, J1, a1, a2, a3⟩ := x_106 (v1 := p) (v3 := m1) (v4 := (1 : Int64) <<< ((if 0 < c then c else 0).toInt64 &&& 63)) (Jc := Jc) hn h
  refine ⟨I1, J1, ?_, a2, a3⟩
  unfold lk2
  rw [x_num hn h, Option.bind_some]
  dsimp only
  rw [hc, Option.bind_some, snd_f h.ne, Option.bind_some, if_pos rfl]
  exact a1
theorem likes_lock {n s a T P l : Nat} (hn : 501 ≤ n) (hc : cT tx L Ic) (hm : mT tx L Im) (ha : cA tx L s Ic) (h5 : Ic 1 5 = nI 0) (hal : a ≤ L) (hsa : sk tx L a = s) (g9 : Im 167 29 = nI a) (hl : l < 40) (hR : dR T P l Ic Jc Im) : ∃ Ic' Jc' Im' r, lk1 n Ic Jc = some (Ic', Jc') ∧ f11_takeLikes SZ n 167 Im Jm = some (r, Im', Jm) ∧ fD Ic Ic' ∧ fMt Im Im' ∧ OC tx L s Ic Im Ic' Im' r (dR T P (l + 1) Ic' Jc' Im') := by
  have hL := hc.1
  have hs : s ≤ L := by rw [← hsa]; exact sk_le tx L a
  obtain ⟨⟨t1, t2, t3, c5, m4, c6, m6, c3, m9⟩, rC, rS, rA, rB, rF', rL⟩ := hR
  obtain ⟨r1, I1, n1, n2, n3⟩ := num_c (Jc := Jc) (lo := 0) (hi := nI P - 1) hn hc hs ha h5
  obtain ⟨r, I2, q1, q2, q3⟩ := num_m (Jm := Jm) (lo := 0) (hi := nI P - 1) hn hm hal hsa g9
  have eC : lk1 n Ic Jc = lk2 n r1 I1 Jc := by
    unfold lk1
    rw [c6, n1, Option.bind_some]
  rcases n3 with ⟨v1, v2, v3, v4, v5⟩ | ⟨v1, v2, v3, v4, v5⟩
  · rcases q3 with ⟨u1, u2, u3, u4, u5, u6⟩ | ⟨u1, -⟩
    · have hp := ok_lt (show P < 1000 by omega) v1
      have hc1 := hc.f n2
      have hm1 := hm.f q2
      have hs1 := sk_le tx L (ten tx L s)
      have c51 : I1 15 5 = nI T := by rw [n2.1 15 (by omega)]; exact c5
      have m41 : I2 167 34 = nI T := by rw [q2.2 34 (by omega) (by omega) (by omega) (by omega) (by omega)]; exact m4
      obtain ⟨r3, I3, n1', n2', n3'⟩ := num_c (Jc := Jc) (lo := 0) (hi := nI T - 1) hn hc1 hs1 v5 v3
      obtain ⟨r', I4, q1', q2', q3'⟩ := num_m (Jm := Jm) (lo := 0) (hi := nI T - 1) hn hm1 (ten_le tx L s) rfl u3
      rcases n3' with ⟨v1', v2', v3', v4', v5'⟩ | ⟨v1', v2', v3', v4', v5'⟩
      · rcases q3' with ⟨u1', u2', u3', u4', u5', u6'⟩ | ⟨u1', -⟩
        · have ht := ok_lt (show T < 1000 by omega) v1'
          -- the cell
          obtain ⟨p, hpe⟩ : ∃ p, p = dv tx s (ten tx L s - s) := ⟨_, rfl⟩
          obtain ⟨t, hte⟩ : ∃ t, t = dv tx (sk tx L (ten tx L s)) (ten tx L (sk tx L (ten tx L s)) - sk tx L (ten tx L s)) := ⟨_, rfl⟩
          rw [← hpe] at hp v2 u4
          rw [← hte] at ht v2' u4'
          have hk : 6 * p + t < 48 := by omega
          have hkP : 6 * p + t < 6 * P := by omega
          have mxk : (if (0 : Int32) < nI (6 * p + t) then nI (6 * p + t) else 0) = nI (6 * p + t) := by
            by_cases z : 6 * p + t = 0
            · rw [z]; decide
            · rw [if_pos (show (0 : Int32) < nI (6 * p + t) from nI_lt (a := 0) (by omega) (by omega))]
          have ecell : ∀ (I : mm_I) (J : mm_J), f10_cell SZ r1 r3 I J = some (nI (6 * p + t)) := fun I J => by rw [v2, v2']; exact f10_cell_eq (by omega) (by omega)
          have eC2 : lk2 n r1 I1 Jc = if hb (Jc 146 4) (6 * p + t) = false then (f9_tellLike_106 SZ n 146 r1 r3 ((1 : Int64) <<< (lN (6 * p + t) &&& 63)) I3 Jc) else ((f4_blame SZ 1 4 (nI (sk tx L (ten tx L s))) I3 Jc).bind fun o8 => f9_tellLike_106 SZ n 146 r1 r3 ((1 : Int64) <<< (lN (6 * p + t) &&& 63)) o8.1 o8.2) := by
            unfold lk2
            rw [c51, n1', Option.bind_some]
            dsimp only
            rw [ecell, Option.bind_some, snd_c v3', Option.bind_some, if_neg n10, mxk, nI_l (by omega), v5.1]
            exact ite_cg (hb_and hk)
          have k167 : ∀ k, k ≠ 28 → k ≠ 29 → k ≠ 31 → k ≠ 32 → k ≠ 33 → I4 167 k = Im 167 k := fun k h1 h2 h3 h4 h5 => by
            rw [q2'.2 k h1 h2 h3 h4 h5, q2.2 k h1 h2 h3 h4 h5]
          have i188 : I4 188 = Im 188 := by rw [q2'.1 188 (by omega), q2.1 188 (by omega)]
          have ib : mm_inb (nI (6 * p + t)) (mm_al SZ 188) = true := by rw [al188.1]; exact inb_nI hk (by omega)
          have eM : f11_takeLikes SZ n 167 Im Jm = if Im 188 (6 * p + t) < 0 then ((f11_into SZ n 167 188 (nI (6 * p + t)) 0 99 (mm_up I4 167 39 (nI (l + 1))) Jm).bind fun o7 => some (o7.1, o7.2.1, o7.2.2)) else (some (nI 4, mm_up I4 167 28 (nI (sk tx L (ten tx L s))), Jm)) := by
            unfold f11_takeLikes f11_fails
            rw [m6, q1, Option.bind_some]
            dsimp only
            rw [u2, if_pos (show nI 0 ≤ 0 by decide), m41, q1', Option.bind_some]
            dsimp only
            rw [u2', if_pos (show nI 0 ≤ 0 by decide)]
            have eix : 6 * I2 167 32 + I4 167 32 = nI (6 * p + t) := by rw [u4, u4', show (6 : Int32) * nI p = nI (6 * p) from pk_mul 6 p, nI_add]
            have e39 : I4 167 39 + 1 = nI (l + 1) := by rw [k167 39 (by omega) (by omega) (by omega) (by omega) (by omega), m9, nI_1]
            have ecl : (nI (6 * p + t)).toNatClampNeg = 6 * p + t := nI_clamp (by omega)
            simp only [eix, al188.2, ib, eq_self, if_true, ecl, i188, e39, u6', Option.bind_some]
            rfl
          rcases (rL (6 * p + t) hk).1 hkP with ⟨w1, w2, w3⟩ | ⟨x, w0, w1, w2, w3⟩
          · rw [if_pos w3] at eC2
            rw [w1, if_pos (show m1 < 0 by decide)] at eM
            have hc3 := hc1.f n2'
            have hs3 := sk_le tx L (ten tx L (sk tx L (ten tx L s)))
            have hm3 : mT tx L (mm_up I4 167 39 (nI (l + 1))) := (hm1.f q2').t (fMt.up (by omega))
            obtain ⟨r5, I5, g1, g2, g3⟩ := num_c (Jc := mm_upJ Jc 146 4 ((Jc 146 4) ||| ((1 : Int64) <<< (lN (6 * p + t) &&& 63)))) (lo := 0) (hi := 99) hn hc3 hs3 v5' v3'
            obtain ⟨r'', I6, j1, j2, j3, j4⟩ := into_m (Jm := Jm) (r0 := 188) (i := 6 * p + t) (lo := 0) (hi := 99) (a := ten tx L (sk tx L (ten tx L s))) hn hm3 (ten_le tx L _) rfl (by rw [up_o2 (by omega)]; exact u3') al188.1 hk (by omega) (by omega)
            have p1 : f6_put SZ 24 (nI (6 * p + t)) r5 I5 (mm_upJ Jc 146 4 ((Jc 146 4) ||| ((1 : Int64) <<< (lN (6 * p + t) &&& 63)))) = some (mm_up I5 25 (6 * p + t) r5, mm_upJ Jc 146 4 ((Jc 146 4) ||| ((1 : Int64) <<< (lN (6 * p + t) &&& 63)))) := by
              rw [f6_put_eq (by rw [pT24.1, pT24.2]; omega), pT24.1, pT24.2, wr_at hk (by omega)]
            have e3 : mm_up I5 25 (6 * p + t) r5 146 3 = nI l := by rw [mm_up_o (by omega), g2.1 146 (by omega), n2'.1 146 (by omega), n2.1 146 (by omega)]; exact c3
            rw [l106, ecell, Option.bind_some, g1, Option.bind_some] at eC2
            dsimp only at eC2
            rw [p1, Option.bind_some] at eC2
            dsimp only at eC2
            rw [e3, nI_1] at eC2
            rw [j1, Option.bind_some] at eM
            have fd : fD Ic (mm_up (mm_up I5 25 (6 * p + t) r5) 146 3 (nI (l + 1))) := n2.d.trans (n2'.d.trans (g2.d.trans ((fD.up (by omega)).trans (fD.up (by omega)))))
            have fm : fMt Im I6 := q2.t.trans (q2'.t.trans ((fMt.up (by omega)).trans (j2.t (by omega))))
            refine ⟨_, _, I6, r'', eC.trans eC2, eM, fd, fm, ?_⟩
            rcases g3 with ⟨y1, y2, y3, y4, y5⟩ | ⟨y1, y2, y3, y4, y5⟩
            · rcases j4 with ⟨z1, z2, z3, z4, z5⟩ | ⟨z1, -⟩
              · have hle := ok_le (lo := 0) (hi := 99) (by omega) y1
                have row : ∀ r, r ≠ 1 → r ≠ 25 → r ≠ 146 → mm_up (mm_up I5 25 (6 * p + t) r5) 146 3 (nI (l + 1)) r = Ic r := fun r h1 h2 h3 => by
                  rw [mm_up_o h3, mm_up_o h2, g2.1 r h1, n2'.1 r h1, n2.1 r h1]
                have rom : ∀ r, r ≠ 167 → r ≠ 188 → I6 r = Im r := fun r h1 h2 => by
                  rw [j2.1 r h1 h2, mm_up_o h1, q2'.1 r h1, q2.1 r h1]
                have k6 : ∀ k, k ≠ 28 → k ≠ 29 → k ≠ 31 → k ≠ 32 → k ≠ 33 → k ≠ 39 → I6 167 k = Im 167 k := fun k h1 h2 h3 h4 h5 h6 => by
                  rw [j2.2 k h1 h2 h3 h4 h5, up_o2 (by omega), k167 k h1 h2 h3 h4 h5]
                refine Or.inl ⟨ten tx L (sk tx L (ten tx L (sk tx L (ten tx L s)))), ten_le tx L _, ?_, z2, ?_, z3, ?_, ?_, ?_, ⟨t1, t2, by omega, ?_, ?_, ?_, ?_, up_s2, ?_⟩, ?_, ?_, ?_, ?_, ?_, ?_⟩
                · have o1 := sk_ge (tx := tx) (ten_le tx L (sk tx L (ten tx L (sk tx L (ten tx L s)))))
                  have o2 := (ok_dv y1).2.1
                  have o3 := sk_ge (tx := tx) (ten_le tx L (sk tx L (ten tx L s)))
                  have o4 := (ok_dv v1').2.1
                  have o5 := sk_ge (tx := tx) (ten_le tx L s)
                  have o6 := (ok_dv v1).2.1
                  omega
                · exact (y5.o (mm_up_o (by omega))).o (mm_up_o (by omega))
                · rw [mm_up_o (by omega), mm_up_o (by omega)]; exact y3
                · rw [mm_up_o (by omega), mm_up_o (by omega), y4, v4', v4]
                · rw [z5, up_o2 (by omega), u5', u5]
                · rw [row 15 (by omega) (by omega) (by omega)]; exact c5
                · rw [k6 34 (by omega) (by omega) (by omega) (by omega) (by omega) (by omega)]; exact m4
                · rw [row 15 (by omega) (by omega) (by omega)]; exact c6
                · rw [k6 36 (by omega) (by omega) (by omega) (by omega) (by omega) (by omega)]; exact m6
                · rw [j2.2 39 (by omega) (by omega) (by omega) (by omega) (by omega), up_s2]
                · exact rC.c (row 17 (by omega) (by omega) (by omega)) (row 19 (by omega) (by omega) (by omega)) (row 21 (by omega) (by omega) (by omega)) (row 23 (by omega) (by omega) (by omega)) (rom 185 (by omega) (by omega))
                · exact rS.c (row 67 (by omega) (by omega) (by omega)) (rom 187 (by omega) (by omega))
                · exact rA.c (row 65 (by omega) (by omega) (by omega)) (rom 186 (by omega) (by omega))
                · exact rB.c (row 67 (by omega) (by omega) (by omega)) (row 71 (by omega) (by omega) (by omega))
                · exact rF'.c (fun k _ => by rw [row 63 (by omega) (by omega) (by omega)]) (row 69 (by omega) (by omega) (by omega)) (row 73 (by omega) (by omega) (by omega)) (row 77 (by omega) (by omega) (by omega)) (row 79 (by omega) (by omega) (by omega))
                · intro k hk48
                  have eJ : mm_upJ Jc 146 4 ((Jc 146 4) ||| ((1 : Int64) <<< (lN (6 * p + t) &&& 63))) 146 4 = (Jc 146 4) ||| ((1 : Int64) <<< (lN (6 * p + t) &&& 63)) := by simp [mm_upJ]
                  rw [eJ, hb_or hk]
                  by_cases e : k = 6 * p + t
                  · subst e
                    refine ⟨fun _ => Or.inr ⟨_, hle.2, z4, ?_, ?_⟩, fun q => absurd q (by omega)⟩
                    · rw [mm_up_o (by omega), up_s2]; exact y2
                    · rw [decide_eq_true rfl, Bool.or_true]
                  · have g := rL k hk48
                    rw [j3 k e, mm_up_o (by omega), i188, mm_up_o (by omega), up_o2 (by omega), g2.1 25 (by omega), n2'.1 25 (by omega), n2.1 25 (by omega), decide_eq_false (Ne.symm e), Bool.or_false]
                    exact g
              · exact absurd y1 z1
            · rcases j4 with ⟨z1, -⟩ | ⟨z1, z2, z3⟩
              · exact absurd z1 y1
              · exact Or.inr ⟨_, _, ((x_bad (hc3.f g2) hs3 y3 y4 y5).up (by omega)).up (by omega), z2, z3⟩
          · rw [if_neg (by rw [w3]; decide), show f4_blame SZ 1 4 (nI (sk tx L (ten tx L s))) I3 Jc = some (mm_up (mm_up I3 1 5 (nI 4)) 1 6 (nI (sk tx L (ten tx L s))), Jc) from blame_t (f := 4) v3', Option.bind_some] at eC2
            rw [w1, if_neg (nI_pos (by omega))] at eM
            have hx := x_blamed (hc1.f n2') (sk_le tx L _) v5' (f := 4) (by omega) (sk tx L (ten tx L s))
            obtain ⟨I5, J5, g1, g2, g3⟩ := x_106 (v1 := r1) (v3 := r3) (v4 := (1 : Int64) <<< (lN (6 * p + t) &&& 63)) (Jc := Jc) hn hx
            refine ⟨I5, J5, _, nI 4, eC.trans (eC2.trans g1), eM, n2.d.trans (n2'.d.trans (((fR.up (by omega)).trans (fR.up (by omega))).d.trans g2)), q2.t.trans (q2'.t.trans (fMt.up (by omega))), Or.inr ⟨4, _, g3, rfl, up_s2⟩⟩
        · exact absurd v1' u1'
      · rcases q3' with ⟨u1', -⟩ | ⟨u1', u2', u3'⟩
        · exact absurd u1' v1'
        · have hx := x_bad (hc1.f n2') hs1 v3' v4' v5'
          obtain ⟨c, hcell⟩ := cell_any (p := r1) (t := r3) (I := I3) (J := Jc)
          obtain ⟨I5, J5, g1, g2, g3⟩ := x_106 (v1 := r1) (v3 := r3) (v4 := (1 : Int64) <<< ((if 0 < c then c else 0).toInt64 &&& 63)) (Jc := Jc) hn hx
          refine ⟨I5, J5, I4, r', ?_, ?_, n2.d.trans (n2'.d.trans g2), q2.t.trans q2'.t, Or.inr ⟨_, _, g3, u2', u3'⟩⟩
          · rw [eC]
            unfold lk2
            rw [c51, n1', Option.bind_some]
            dsimp only
            rw [hcell, Option.bind_some, snd_f hx.ne, Option.bind_some, if_pos rfl]
            exact g1
          · unfold f11_takeLikes
            rw [m6, q1, Option.bind_some]
            dsimp only
            rw [u2, if_pos (show nI 0 ≤ 0 by decide), m41, q1', Option.bind_some]
            dsimp only
            rw [u2', if_neg (nI_nle (by have := (bad_le (tx := tx) (L := L) (sk tx L (ten tx L s))).1; omega) (by have := (bad_le (tx := tx) (L := L) (sk tx L (ten tx L s))).2; omega))]
    · exact absurd v1 u1
  · rcases q3 with ⟨u1, -⟩ | ⟨u1, u2, u3⟩
    · exact absurd u1 v1
    · have hx := x_bad (hc.f n2) hs v3 v4 v5
      obtain ⟨I5, J5, g1, g2, g3⟩ := x_lk2 (p := r1) (Jc := Jc) hn hx
      refine ⟨I5, J5, I2, r, eC.trans g1, ?_, n2.d.trans g2, q2.t, Or.inr ⟨_, _, g3, u2, u3⟩⟩
      unfold f11_takeLikes
      rw [m6, q1, Option.bind_some]
      dsimp only
      rw [u2, if_neg (nI_nle (by have := (bad_le (tx := tx) (L := L) s).1; omega) (by have := (bad_le (tx := tx) (L := L) s).2; omega))]
end LKS
