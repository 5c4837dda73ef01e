/-! ===== part 81: a town's clauses, both sides (written by wip/whole/pre.py) ===== -/
section TWN
variable {tx : Nat → Nat} {L : Nat} {I I' Ic Im : mm_I} {Jc Jm : mm_J}
theorem x_lk1 {n f pl : Nat} (hn : 501 ≤ n) (h : XF tx L f pl I) : ∃ I' J', lk1 n I Jc = some (I', J') ∧ fD I I' ∧ XF tx L f pl I' := by
  obtain ⟨I1, J1, a1, a2, a3⟩ := x_lk2 (p := m1) (Jc := Jc) hn h
  refine ⟨I1, J1, ?_, a2, a3⟩
  unfold lk1
  rw [x_num hn h, Option.bind_some]
  exact a1
/-- the rows of the next person, cleared -/
theorem pclr_loop {n P : Nat} (hP : P < 8) : ∀ (d j : Nat) (I : mm_I), j ≤ 6 → 6 < j + d → (∀ r, r ≠ 187 → r ≠ 188 → I r = Im r) → (∀ q, (q < 6 * P ∨ 6 * P + 6 ≤ q) → I 187 q = Im 187 q ∧ I 188 q = Im 188 q) → (∀ q, q < j → I 187 (6 * P + q) = nI 0 ∧ I 188 (6 * P + q) = m1) → ∃ I', f11_takePerson_17 SZ n d 167 (nI P) (nI j) I Jm = ((f11_into SZ n 167 186 (nI P) 0 99 I' Jm).bind fun o2 => f11_takePerson_66 SZ n n 167 (nI P) o2.1 o2.2.1 o2.2.2) ∧ (∀ r, r ≠ 187 → r ≠ 188 → I' r = Im r) ∧ (∀ q, (q < 6 * P ∨ 6 * P + 6 ≤ q) → I' 187 q = Im 187 q ∧ I' 188 q = Im 188 q) ∧ ∀ q, q < 6 → I' 187 (6 * P + q) = nI 0 ∧ I' 188 (6 * P + q) = m1 := by
  intro d
  induction d with
  | zero => intro j I h1 h2; omega
  | succ d ih =>
    intro j I h1 h2 i1 i2 i3
    have mS : f11_takePerson_17 SZ n (d + 1) 167 (nI P) (nI j) I Jm = f11_takePerson_17_b SZ n (f11_takePerson_17 SZ n d) 167 (nI P) (nI j) I Jm := rfl
    rw [mS]
    unfold f11_takePerson_17_b
    by_cases c : j = 6
    · subst c
      rw [if_pos (show (6 : Int32) ≤ nI 6 by decide), al186.2]
      exact ⟨I, rfl, i1, i2, i3⟩
    · have ib1 : mm_inb (nI (6 * P + j)) (mm_al SZ 187) = true := by rw [al187.1]; exact inb_nI (by omega) (by omega)
      have ib2 : mm_inb (nI (6 * P + j)) (mm_al SZ 188) = true := by rw [al188.1]; exact inb_nI (by omega) (by omega)
      obtain ⟨I', g1, g2⟩ := ih (j + 1) (mm_up (mm_up I 187 (6 * P + j) (nI 0)) 188 (6 * P + j) m1) (by omega) (by omega) (fun r h1 h2 => by rw [mm_up_o h2, mm_up_o h1]; exact i1 r h1 h2) (fun q hq => by
        rw [mm_up_o (show (187 : Nat) ≠ 188 by omega), up_o2 (by omega), up_o2 (by omega), mm_up_o (show (188 : Nat) ≠ 187 by omega)]; exact i2 q hq) (fun q hq => by
        rw [mm_up_o (show (187 : Nat) ≠ 188 by omega)]
        by_cases e : q = j
        · subst e
          exact ⟨up_s2, up_s2⟩
        · rw [up_o2 (by omega), up_o2 (by omega), mm_up_o (show (188 : Nat) ≠ 187 by omega)]; exact i3 q (by omega))
      refine ⟨I', ?_, g2⟩
      rw [if_neg (show ¬ (6 : Int32) ≤ nI j from nI_ge (b := 6) (by omega) (by omega)), show (6 : Int32) * nI P = nI (6 * P) from pk_mul 6 P, nI_add, al187.2, al188.2, if_pos ib1, if_pos ib2, nI_clamp (by omega), nI_1]
      exact g1
/-- a person's clause without its end -/
theorem pp_lock {n s a T P l : Nat} (hn : 501 ≤ n) (hc : cT tx L Ic) (hm : mT tx L Im) (ha : cA tx L s Ic) (h5 : Ic 1 5 = nI 0) (hal : a ≤ L) (hsa : sk tx L a = s) (g9 : Im 167 29 = nI a) (hP : P < 8) (hR : dR T P l Ic Jc Im) : ∃ Ic' Im' r, tp1 n (nI P) Ic Jc = some (Ic', Jc) ∧ f11_takePerson SZ n 167 Im Jm = some (r, Im', Jm) ∧ fD Ic Ic' ∧ fMt Im Im' ∧ OC tx L s Ic Im Ic' Im' r (dR T (P + 1) l Ic' Jc Im') := by
  have hL := hc.1
  have hs : s ≤ L := by rw [← hsa]; exact sk_le tx L a
  obtain ⟨⟨t1, t2, t3, c5, m4, c6, m6, c3, m9⟩, rC, rS, rA, rB, rF', rL⟩ := hR
  obtain ⟨I1, k1, k2, k3, k4⟩ := pclr_loop (n := n) (Im := mm_up Im 167 36 (nI (P + 1))) (Jm := Jm) hP n 0 (mm_up Im 167 36 (nI (P + 1))) (by omega) (by omega) (fun _ _ _ => rfl) (fun _ _ => ⟨rfl, rfl⟩) (fun q hq => absurd hq (Nat.not_lt_zero q))
  have f1 : fMt Im I1 := ⟨fun r h1 h2 => by rw [k2 r (by omega) (by omega), mm_up_o h1], fun k h1 h2 h3 h4 h5 h6 h7 h8 => by rw [k2 167 (by omega) (by omega), up_o2 (by omega)]⟩
  have eM0 : f11_takePerson SZ n 167 Im Jm = (f11_into SZ n 167 186 (nI P) 0 99 I1 Jm).bind fun o2 => f11_takePerson_66 SZ n n 167 (nI P) o2.1 o2.2.1 o2.2.2 := by
    unfold f11_takePerson
    rw [m6, nI_1]
    exact k1
  obtain ⟨r1, I2, n1, n2, n3⟩ := num_c (Jc := Jc) (lo := 0) (hi := 99) hn hc hs ha h5
  obtain ⟨r, I3, q1, q2, q3, q4⟩ := into_m (Jm := Jm) (r0 := 186) (i := P) (lo := 0) (hi := 99) (Im := I1) hn (hm.t f1) hal hsa (by rw [k2 167 (by omega) (by omega), up_o2 (by omega)]; exact g9) al186.1 (by omega) (by omega) (by omega)
  have p1 : f6_put SZ 64 (nI P) r1 I2 Jc = some (mm_up I2 65 P r1, Jc) := by
    rw [f6_put_eq (by rw [pT64.1, pT64.2]; omega), pT64.1, pT64.2, wr_at hP (by omega)]
  have eC : tp1 n (nI P) Ic Jc = f9_tellPerson_52 SZ n n 146 (nI P) (nI 0) (mm_up I2 65 P r1) Jc := by
    unfold tp1
    rw [n1, Option.bind_some]
    dsimp only
    rw [p1, Option.bind_some]
    rfl
  have eM : f11_takePerson SZ n 167 Im Jm = f11_takePerson_66 SZ n n 167 (nI P) r I3 Jm := by
    rw [eM0, q1, Option.bind_some]
  have fd : fD Ic (mm_up I2 65 P r1) := n2.d.trans (fD.up (by omega))
  have fm : fMt Im I3 := f1.trans (q2.t (by omega))
  rcases n3 with ⟨v1, v2, v3, v4, v5⟩ | ⟨v1, v2, v3, v4, v5⟩
  · rcases q4 with ⟨u1, u2, u3, u4, u5⟩ | ⟨u1, -⟩
    · have hle := ok_le (lo := 0) (hi := 99) (by omega) v1
      have row : ∀ r, r ≠ 1 → r ≠ 65 → mm_up I2 65 P r1 r = Ic r := fun r h1 h2 => by rw [mm_up_o h2, n2.1 r h1]
      have k167 : ∀ k, k ≠ 28 → k ≠ 29 → k ≠ 31 → k ≠ 32 → k ≠ 33 → k ≠ 36 → I3 167 k = Im 167 k := fun k h1 h2 h3 h4 h5 h6 => by
        rw [q2.2 k h1 h2 h3 h4 h5, k2 167 (by omega) (by omega), up_o2 (by omega)]
      have r87 : I3 187 = I1 187 := q2.1 187 (by omega) (by omega)
      have r88 : I3 188 = I1 188 := q2.1 188 (by omega) (by omega)
      have hW : dW T P l (mm_up I2 65 P r1) Jc I3 := by
        refine ⟨⟨t1, hP, t3, by rw [row 15 (by omega) (by omega)]; exact c5, by rw [k167 34 (by omega) (by omega) (by omega) (by omega) (by omega) (by omega)]; exact m4, by rw [row 15 (by omega) (by omega)]; exact c6, by rw [q2.2 36 (by omega) (by omega) (by omega) (by omega) (by omega), k2 167 (by omega) (by omega), up_s2], by rw [row 146 (by omega) (by omega)]; exact c3, by rw [k167 39 (by omega) (by omega) (by omega) (by omega) (by omega) (by omega)]; exact m9⟩, ?_, ⟨?_, ?_⟩, ?_, ?_, ?_, ?_⟩
        · exact rC.c (row 17 (by omega) (by omega)) (row 19 (by omega) (by omega)) (row 21 (by omega) (by omega)) (row 23 (by omega) (by omega)) (by rw [q2.1 185 (by omega) (by omega), k2 185 (by omega) (by omega), mm_up_o (by omega)])
        · intro k h1 h2
          rw [row 67 (by omega) (by omega)]
          exact rS.1 k h1 (by omega)
        · intro p t hp ht
          rw [row 67 (by omega) (by omega), r87]
          by_cases e : p = P
          · subst e
            exact ⟨0, by omega, rS.1 _ (by omega) (by omega), (k4 t ht).1, fun _ => rfl⟩
          · rw [(k3 (6 * p + t) (by omega)).1, mm_up_o (by omega)]
            exact rS.2 p t (by omega) ht
        · intro p hp
          by_cases e : p = P
          · subst e
            exact ⟨_, hle.2, by rw [up_s2]; exact v2, u4⟩
          · rw [up_o2 (by omega), n2.1 65 (by omega), q3 p e, k2 186 (by omega) (by omega), mm_up_o (by omega)]
            exact rA p (by omega)
        · exact rB.c (row 67 (by omega) (by omega)) (row 71 (by omega) (by omega))
        · exact rF'.c (fun k _ => by rw [row 63 (by omega) (by omega)]) (row 69 (by omega) (by omega)) (row 73 (by omega) (by omega)) (row 77 (by omega) (by omega)) (row 79 (by omega) (by omega))
        · intro k hk
          have g := rL k hk
          rw [row 25 (by omega) (by omega), r88]
          refine ⟨fun h1 => ?_, fun h1 => g.2 (by omega)⟩
          by_cases e : k < 6 * P
          · rw [(k3 k (by omega)).2, mm_up_o (by omega)]
            exact g.1 e
          · obtain ⟨q, rfl⟩ : ∃ q, k = 6 * P + q := ⟨k - 6 * P, by omega⟩
            exact Or.inl ⟨(k4 q (by omega)).2, g.2 (by omega)⟩
      obtain ⟨Ic', Im', rr, w1, w2, w3, w4, w5⟩ := skill_loop (Jc := Jc) (Jm := Jm) hn n 0 (sk tx L (ten tx L s)) (ten tx L s) (mm_up I2 65 P r1) I3 (Nat.zero_le _) (sk_le tx L _) (by omega) (hc.d fd) (hm.t fm) (v5.o (mm_up_o (by omega))) (by rw [mm_up_o (by omega)]; exact v3) hW (ten_le tx L s) rfl u3
      refine ⟨Ic', Im', rr, eC.trans w1, by rw [eM, u2]; exact w2, fd.trans w3, fm.trans w4, ?_⟩
      rcases w5 with ⟨a', b1, b2, b3, b4, b5, b6, b7, b8, b9⟩ | ⟨f, pl, b1, b2, b3⟩
      · refine Or.inl ⟨a', b1, ?_, b3, b4, b5, b6, ?_, ?_, b9⟩
        · have o5 := sk_ge (tx := tx) (ten_le tx L s)
          have o6 := (ok_dv v1).2.1
          omega
        · rw [b7, mm_up_o (by omega), v4]
        · rw [b8, u5, k2 167 (by omega) (by omega), up_o2 (by omega)]
      · exact Or.inr ⟨f, pl, b1, b2, b3⟩
    · exact absurd v1 u1
  · rcases q4 with ⟨u1, -⟩ | ⟨u1, u2, u3⟩
    · exact absurd u1 v1
    · have hx : XF tx L (bad tx L s) s (mm_up I2 65 P r1) := (x_bad (hc.f n2) hs v3 v4 v5).up (by omega)
      obtain ⟨I5, w1, w2, w3⟩ := x_52 (Jc := Jc) (p := nI P) (i := nI 0) (d := n) hn (by omega) hx
      exact ⟨I5, I3, _, eC.trans w1, by rw [eM, u2]; exact m165 (by omega) (bad_le s), fd.trans w2, fm, Or.inr ⟨_, _, w3, rfl, u3⟩⟩
theorem dR.rt {T P l : Nat} {Ic' Im' : mm_I} (h : dR T P l Ic Jc Im) (f : fR Ic Ic') (g : fT Im Im') : dR T P l Ic' Jc Im' := by
  obtain ⟨h1, h2, h3, h4, h5, h6, h7⟩ := h
  have r : ∀ r, r ≠ 1 → Ic' r = Ic r := f.1
  have m : ∀ r, r ≠ 167 → Im' r = Im r := g.1
  exact ⟨h1.c (by rw [r 15 (by omega)]) (by rw [r 15 (by omega)]) (by rw [r 146 (by omega)]) (g.2 34 (by omega) (by omega) (by omega) (by omega) (by omega)) (g.2 36 (by omega) (by omega) (by omega) (by omega) (by omega)) (g.2 39 (by omega) (by omega) (by omega) (by omega) (by omega)), h2.c (r 17 (by omega)) (r 19 (by omega)) (r 21 (by omega)) (r 23 (by omega)) (m 185 (by omega)), h3.c (r 67 (by omega)) (m 187 (by omega)), h4.c (r 65 (by omega)) (m 186 (by omega)), h5.c (r 67 (by omega)) (r 71 (by omega)), h6.c (fun k _ => by rw [r 63 (by omega)]) (r 69 (by omega)) (r 73 (by omega)) (r 77 (by omega)) (r 79 (by omega)), h7.c (r 25 (by omega)) rfl (m 188 (by omega))⟩
/-- a clause's end -/
theorem close_lock {n s T P l : Nat} {r : Int32} {Ic2 Im2 : mm_I} (hn : 501 ≤ n) (hc : cT tx L Ic2) (hm : mT tx L Im2) (h : OC tx L s Ic Im Ic2 Im2 r (dR T P l Ic2 Jc Im2)) : ∃ Ic' Im' r', f4_closeClause SZ n 1 Ic2 Jc = some (Ic', Jc) ∧ f11_takeClause_207 SZ n 167 r Im2 Jm = some (r', Im', Jm) ∧ fR Ic2 Ic' ∧ fT Im2 Im' ∧ OC tx L (s + 1) Ic Im Ic' Im' r' (dR T P l Ic' Jc Im') := by
  rcases h with ⟨a, b1, b2, b3, b4, b5, b6, b7, b8, b9⟩ | ⟨f, pl, b1, b2, b3⟩
  · obtain ⟨Ic', k1, k2, k3⟩ := stop_c (Jc := Jc) hn hc (sk_le tx L a) b4 b6
    obtain ⟨r', Im', q1, q2, q3⟩ := stop_m (Jm := Jm) hn hm b1 rfl b5
    refine ⟨Ic', Im', r', k1, ?_, k2, q2, ?_⟩
    · unfold f11_takeClause_207 f11_takeClause_220
      rw [b3, if_pos (show nI 0 ≤ 0 by decide), q1]
      rfl
    · rcases k3 with ⟨x1, x2, x3, x4⟩ | ⟨x1, x2, x3⟩
      · rcases q3 with ⟨y1, y2, y3, y4⟩ | ⟨y1, -⟩
        · refine Or.inl ⟨ten tx L (sk tx L a), ten_le tx L _, ?_, y2, x4, y3, x2, by rw [x3, b7], by rw [y4, b8], b9.rt k2 q2⟩
          have o1 := sk_ge (tx := tx) (ten_le tx L (sk tx L a))
          have o2 := (ten_stop x1).2.2
          omega
        · exact absurd x1 y1
      · rcases q3 with ⟨y1, -⟩ | ⟨y1, y2, y3⟩
        · exact absurd y1 x1
        · exact Or.inr ⟨1, _, ⟨hc.f k2, ⟨_, sk_le tx L a, by
            have e : f4_closeClause SZ n 1 Ic2 Jc = some (mm_up (mm_up Ic2 1 5 (nI 1)) 1 6 (nI (sk tx L a)), Jc) := by
              unfold f4_closeClause f4_closeClause_17 f4_closeClause_28
              have htk := tok_le (tx := tx) (L := L) (sk tx L a)
              rw [b4.2.1, b4.1, if_neg (show ¬ nI (tok tx L (sk tx L a)) = 3 from fun q => x1 ((nI_eq (a := tok tx L (sk tx L a)) (b := 3) (by omega) (by omega)).mp q)), show f4_blame SZ 1 1 (nI (sk tx L a)) Ic2 Jc = some (mm_up (mm_up Ic2 1 5 (nI 1)) 1 6 (nI (sk tx L a)), Jc) from blame_t (f := 1) b6, Option.bind_some]
              dsimp only
              rw [snd_f (show ¬ mm_up (mm_up Ic2 1 5 (nI 1)) 1 6 (nI (sk tx L a)) 1 5 = nI 0 by rw [up_o2 (by omega), up_s2]; decide)]
              rfl
            have e2 : Ic' = mm_up (mm_up Ic2 1 5 (nI 1)) 1 6 (nI (sk tx L a)) := congrArg (fun x => x.1) (Option.some.inj (k1.symm.trans e))
            rw [e2]
            exact ⟨by rw [up_o2 (by omega), up_o2 (by omega)]; exact b4.1, by rw [up_o2 (by omega), up_o2 (by omega)]; exact b4.2.1, by rw [up_o2 (by omega), up_o2 (by omega)]; exact b4.2.2⟩⟩, by omega, x2, x3⟩, y2, y3⟩
  · have hf := b1.2.2.1
    refine ⟨Ic2, Im2, r, stop_x b1.ne, ?_, fR.refl, fT.refl, Or.inr ⟨f, pl, b1, b2, b3⟩⟩
    unfold f11_takeClause_207 f11_takeClause_220
    rw [b2, if_neg (nI_nle (by omega) (by omega))]
end TWN
