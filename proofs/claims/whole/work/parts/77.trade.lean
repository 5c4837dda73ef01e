/-! ===== part 77: a town's trade, both sides (written by wip/whole/pre.py) ===== -/
section TRD
variable {tx : Nat → Nat} {L : Nat} {I I' Ic Im : mm_I} {Jc Jm : mm_J}
def tr4b (n : Nat) (t : Int32) (I : mm_I) (J : mm_J) : Option (mm_I × mm_J) := (f4_number SZ n 1 0 ((I 15 5) - 1) I J).bind fun o13 => (f6_put SZ 22 t o13.1 o13.2.1 o13.2.2).bind fun o14 => f9_tellTrade_152 SZ n 146 o14.1 o14.2
def tr4 (n : Nat) (t : Int32) (I : mm_I) (J : mm_J) : Option (mm_I × mm_J) := (f6_put SZ 22 t (-1) I J).bind fun o9 => (f4_sees SZ n 1 (1000000 + 5) o9.1 o9.2).bind fun o10 => if o10 = 0 then (f9_tellTrade_152 SZ n 146 o9.1 o9.2) else ((f4_advance SZ n 1 o9.1 o9.2).bind fun o12 => tr4b n t o12.1 o12.2)
def tr3 (n : Nat) (t : Int32) (I : mm_I) (J : mm_J) : Option (mm_I × mm_J) := (f4_number SZ n 1 0 99 I J).bind fun o7 => (f6_put SZ 20 t o7.1 o7.2.1 o7.2.2).bind fun o8 => tr4 n t o8.1 o8.2
def tr2 (n : Nat) (t : Int32) (I : mm_I) (J : mm_J) : Option (mm_I × mm_J) := (f4_number SZ n 1 1 9 I J).bind fun o5 => (f6_put SZ 18 t o5.1 o5.2.1 o5.2.2).bind fun o6 => tr3 n t o6.1 o6.2
def tr1 (n : Nat) (t : Int32) (I : mm_I) (J : mm_J) : Option (mm_I × mm_J) := (f4_advance SZ n 1 I J).bind fun o4 => tr2 n t o4.1 o4.2
def tr0 (n : Nat) (t : Int32) (I : mm_I) (J : mm_J) : Option (mm_I × mm_J) := (f9_kindHere SZ n 146 I J).bind fun o2 => (f6_put SZ 16 t o2.1 o2.2.1 o2.2.2).bind fun o3 => tr1 n t o3.1 o3.2
theorem tt18 {n : Nat} {c : Int32} {I : mm_I} {J : mm_J} : f9_tellTrade_18 SZ n 146 146 c I J = (f9_openClause SZ n 146 c I J).bind fun o1 => tr0 n (o1.1 15 5) o1.1 o1.2 := by
  unfold f9_tellTrade_18
  simp only [zr]
  rfl
theorem t152 {n : Nat} {I : mm_I} {J : mm_J} : f9_tellTrade_152 SZ n 146 I J = some (mm_up I 15 5 ((I 15 5) + 1), J) := by
  unfold f9_tellTrade_152
  simp only [zr]
theorem pT16 : mm_rf SZ 16 0 = 17 ∧ mm_al SZ 17 = 6 := by decide +kernel
theorem pT18 : mm_rf SZ 18 0 = 19 ∧ mm_al SZ 19 = 6 := by decide +kernel
theorem pT20 : mm_rf SZ 20 0 = 21 ∧ mm_al SZ 21 = 6 := by decide +kernel
theorem pT22 : mm_rf SZ 22 0 = 23 ∧ mm_al SZ 23 = 6 := by decide +kernel
section FAULTY
variable {n f pl : Nat} {t : Int32}
theorem x_t152 (h : XF tx L f pl I) : ∃ I', f9_tellTrade_152 SZ n 146 I Jc = some (I', Jc) ∧ fD I I' ∧ XF tx L f pl I' := ⟨_, t152, fD.up (by omega), h.up (by omega)⟩
theorem x_tr4b (hn : 501 ≤ n) (h : XF tx L f pl I) : ∃ I', tr4b n t I Jc = some (I', Jc) ∧ fD I I' ∧ XF tx L f pl I' := by
  obtain ⟨I1, a1, a2, a3⟩ := put_any (Jc := Jc) (i := t) (x := m1) pT22.1 pT22.2 (by omega) (by omega) h
  obtain ⟨I2, b1, b2, b3⟩ := x_t152 (n := n) (Jc := Jc) a3
  refine ⟨I2, ?_, a2.trans b2, b3⟩
  unfold tr4b
  rw [x_num hn h, Option.bind_some]
  dsimp only
  rw [a1, Option.bind_some]
  exact b1
theorem x_tr4 (hn : 501 ≤ n) (h : XF tx L f pl I) : ∃ I', tr4 n t I Jc = some (I', Jc) ∧ fD I I' ∧ XF tx L f pl I' := by
  obtain ⟨I1, a1, a2, a3⟩ := put_any (Jc := Jc) (i := t) (x := -1) pT22.1 pT22.2 (by omega) (by omega) h
  obtain ⟨b, hb⟩ := x_sees (n := n) (Jc := Jc) hn a3 iC5 (by decide) (by decide)
  unfold tr4
  rw [a1, Option.bind_some]
  dsimp only
  rw [hb, Option.bind_some]
  cases b
  · obtain ⟨I2, b1, b2, b3⟩ := x_t152 (n := n) (Jc := Jc) a3
    rw [if_pos (show b01 false = 0 by decide)]
    exact ⟨I2, b1, a2.trans b2, b3⟩
  · obtain ⟨I2, b1, b2, b3⟩ := x_adv (Jc := Jc) hn a3
    obtain ⟨I3, c1, c2, c3⟩ := x_tr4b (t := t) (Jc := Jc) hn b3
    rw [if_neg (show ¬ b01 true = 0 by decide), b1, Option.bind_some]
    exact ⟨I3, c1, a2.trans (b2.d.trans c2), c3⟩
theorem x_tr3 (hn : 501 ≤ n) (h : XF tx L f pl I) : ∃ I', tr3 n t I Jc = some (I', Jc) ∧ fD I I' ∧ XF tx L f pl I' := by
  obtain ⟨I1, a1, a2, a3⟩ := put_any (Jc := Jc) (i := t) (x := m1) pT20.1 pT20.2 (by omega) (by omega) h
  obtain ⟨I2, b1, b2, b3⟩ := x_tr4 (t := t) (Jc := Jc) hn a3
  refine ⟨I2, ?_, a2.trans b2, b3⟩
  unfold tr3
  rw [x_num hn h, Option.bind_some]
  dsimp only
  rw [a1, Option.bind_some]
  exact b1
theorem x_tr2 (hn : 501 ≤ n) (h : XF tx L f pl I) : ∃ I', tr2 n t I Jc = some (I', Jc) ∧ fD I I' ∧ XF tx L f pl I' := by
  obtain ⟨I1, a1, a2, a3⟩ := put_any (Jc := Jc) (i := t) (x := m1) pT18.1 pT18.2 (by omega) (by omega) h
  obtain ⟨I2, b1, b2, b3⟩ := x_tr3 (t := t) (Jc := Jc) hn a3
  refine ⟨I2, ?_, a2.trans b2, b3⟩
  unfold tr2
  rw [x_num hn h, Option.bind_some]
  dsimp only
  rw [a1, Option.bind_some]
  exact b1
theorem x_tr1 (hn : 501 ≤ n) (h : XF tx L f pl I) : ∃ I', tr1 n t I Jc = some (I', Jc) ∧ fD I I' ∧ XF tx L f pl I' := by
  obtain ⟨I1, a1, a2, a3⟩ := x_adv (Jc := Jc) hn h
  obtain ⟨I2, b1, b2, b3⟩ := x_tr2 (t := t) (Jc := Jc) hn a3
  refine ⟨I2, ?_, a2.d.trans b2, b3⟩
  unfold tr1
  rw [a1, Option.bind_some]
  exact b1
theorem x_kind (hn : 501 ≤ n) (h : XF tx L f pl I) : ∃ r, f9_kindHere SZ n 146 I Jc = some (r, I, Jc) := by
  obtain ⟨b1, e1⟩ := x_sees (n := n) (Jc := Jc) hn h iC1 (by decide) (by decide)
  obtain ⟨b2, e2⟩ := x_sees (n := n) (Jc := Jc) hn h iC2 (by decide) (by decide)
  obtain ⟨b3, e3⟩ := x_sees (n := n) (Jc := Jc) hn h iC3 (by decide) (by decide)
  obtain ⟨b4, e4⟩ := x_sees (n := n) (Jc := Jc) hn h iC4 (by decide) (by decide)
  unfold f9_kindHere f9_kindHere_69
  simp only [zr]
  rw [e1, Option.bind_some]
  cases b1
  · rw [if_pos (show b01 false = 0 by decide), e2, Option.bind_some]
    cases b2
    · rw [if_pos (show b01 false = 0 by decide), e3, Option.bind_some]
      cases b3
      · rw [if_pos (show b01 false = 0 by decide), e4, Option.bind_some]
        cases b4
        · rw [if_pos (show b01 false = 0 by decide), x_blame (n := n) h, Option.bind_some]
          exact ⟨_, rfl⟩
        · rw [if_neg (show ¬ b01 true = 0 by decide)]
          exact ⟨_, rfl⟩
      · rw [if_neg (show ¬ b01 true = 0 by decide)]
        exact ⟨_, rfl⟩
    · rw [if_neg (show ¬ b01 true = 0 by decide)]
      exact ⟨_, rfl⟩
  · rw [if_neg (show ¬ b01 true = 0 by decide)]
    exact ⟨_, rfl⟩
theorem x_tr0 (hn : 501 ≤ n) (h : XF tx L f pl I) : ∃ I', tr0 n t I Jc = some (I', Jc) ∧ fD I I' ∧ XF tx L f pl I' := by
  obtain ⟨r, e⟩ := x_kind (Jc := Jc) hn h
  obtain ⟨I1, a1, a2, a3⟩ := put_any (Jc := Jc) (i := t) (x := r) pT16.1 pT16.2 (by omega) (by omega) h
  obtain ⟨I2, b1, b2, b3⟩ := x_tr1 (t := t) (Jc := Jc) hn a3
  refine ⟨I2, ?_, a2.trans b2, b3⟩
  unfold tr0
  rw [e, Option.bind_some]
  dsimp only
  rw [a1, Option.bind_some]
  exact b1
end FAULTY
/-- a clause's word passed -/
theorem open_ok {n s : Nat} {l : List Nat} (hn : 501 ≤ n) (h : cT tx L I) (hs : s ≤ L) (ha : cA tx L s I) (hl : 0 < l.length) (hw : wd tx L l s = true) : ∃ I', f9_openClause SZ n 146 1 I Jc = some (I', Jc) ∧ fR I I' ∧ cA tx L (sk tx L (s + l.length)) I' ∧ I' 1 5 = I 1 5 ∧ I' 1 6 = I 1 6 := by
  obtain ⟨w1, w2, w3, w4⟩ := wd_tok hs hl hw
  obtain ⟨I', k1, k2, k3, k4, k5⟩ := adv_c (Jc := Jc) hn h (ten_le tx L s) ha.2.2
  rw [w2] at k3
  refine ⟨I', ?_, k2, k3, k4, k5⟩
  unfold f9_openClause f9_openClause_19
  simp only [zr]
  rw [if_neg n10, k1]
  rfl
theorem open_x {n s : Nat} (hn : 501 ≤ n) (h : cT tx L I) (hs : s ≤ L) (ha : cA tx L s I) (h5 : I 1 5 = nI 0) : ∃ I', f9_openClause SZ n 146 0 I Jc = some (I', Jc) ∧ fR I I' ∧ XF tx L 3 s I' := by
  have hx := x_blamed h hs ha (f := 3) (by omega) s
  obtain ⟨I', k1, k2, k3⟩ := x_adv (Jc := Jc) hn hx
  refine ⟨I', ?_, ((fR.up (by omega)).trans (fR.up (by omega))).trans k2, k3⟩
  unfold f9_openClause f9_openClause_19
  simp only [zr]
  rw [if_pos trivial, ha.1, show f4_blame SZ 1 3 (nI s) I Jc = some (mm_up (mm_up I 1 5 (nI 3)) 1 6 (nI s), Jc) from blame_t (f := 3) h5, Option.bind_some]
  dsimp only
  rw [k1]
  rfl
/-- what a piece comes to -/
def OC (tx : Nat → Nat) (L s : Nat) (Ic Im Ic' Im' : mm_I) (r : Int32) (Q : Prop) : Prop := (∃ a, a ≤ L ∧ s ≤ sk tx L a ∧ r = nI 0 ∧ cA tx L (sk tx L a) Ic' ∧ Im' 167 29 = nI a ∧ Ic' 1 5 = nI 0 ∧ Ic' 1 6 = Ic 1 6 ∧ Im' 167 28 = Im 167 28 ∧ Q) ∨ ∃ f pl, XF tx L f pl Ic' ∧ r = nI f ∧ Im' 167 28 = nI pl
/-- a number into a row -/
def fI (r0 : Nat) (I I' : mm_I) : Prop := (∀ q, q ≠ 167 → q ≠ r0 → I' q = I q) ∧ ∀ k, k ≠ 28 → k ≠ 29 → k ≠ 31 → k ≠ 32 → k ≠ 33 → I' 167 k = I 167 k
theorem fI.t {r0 : Nat} (h : fI r0 I I') (hr : 185 ≤ r0 ∧ r0 ≤ 188) : fMt I I' := ⟨fun q h1 h2 => h.1 q h1 (by omega), fun k h1 h2 h3 h4 h5 _ _ _ => h.2 k h1 h2 h3 h4 h5⟩
theorem fI.trans {r0 : Nat} {I1 I2 : mm_I} (h : fI r0 I I1) (g : fI r0 I1 I2) : fI r0 I I2 := ⟨fun q h1 h2 => (g.1 q h1 h2).trans (h.1 q h1 h2), fun k h1 h2 h3 h4 h5 => (g.2 k h1 h2 h3 h4 h5).trans (h.2 k h1 h2 h3 h4 h5)⟩
theorem fI.refl {r0 : Nat} : fI r0 I I := ⟨fun _ _ _ => rfl, fun _ _ _ _ _ _ => rfl⟩
theorem fT.i {r0 : Nat} (h : fT I I') : fI r0 I I' := ⟨fun q h1 _ => h.1 q h1, h.2⟩
theorem fI.up {r0 k : Nat} {x : Int32} (hr : r0 ≠ 167) : fI r0 I (mm_up I r0 k x) := ⟨fun q _ h2 => mm_up_o h2, fun k _ _ _ _ _ => by rw [mm_up_o (by omega)]⟩
theorem into_m {n s a r0 i m : Nat} {lo hi : Int32} (hn : 501 ≤ n) (h : mT tx L Im) (ha : a ≤ L) (hsa : sk tx L a = s) (g9 : Im 167 29 = nI a) (hm : mm_al SZ r0 = m) (him : i < m) (hm2 : m < 1000) (hr : 185 ≤ r0 ∧ r0 ≤ 188) : ∃ r I', f11_into SZ n 167 r0 (nI i) lo hi Im Jm = some (r, I', Jm) ∧ fI r0 Im I' ∧ (∀ j, j ≠ i → I' r0 j = Im r0 j) ∧ ((okN tx L s lo hi ∧ r = nI 0 ∧ I' 167 29 = nI (ten tx L s) ∧ I' r0 i = nI (dv tx s (ten tx L s - s)) ∧ I' 167 28 = Im 167 28) ∨ (¬ okN tx L s lo hi ∧ r = nI (bad tx L s) ∧ I' 167 28 = nI s)) := by
  obtain ⟨r, I1, k1, k2, k3⟩ := num_m (Jm := Jm) (lo := lo) (hi := hi) hn h ha hsa g9
  have ib : mm_inb (nI i) (mm_al SZ r0) = true := by rw [hm]; exact inb_nI him (by omega)
  refine ⟨r, mm_up I1 r0 i (I1 167 32), ?_, k2.i.trans (fI.up (by omega)), fun j hj => by rw [up_o2 (by omega), k2.1 r0 (by omega)], ?_⟩
  · unfold f11_into
    rw [k1, Option.bind_some]
    dsimp only
    rw [if_pos ib, nI_clamp (by omega)]
  · rcases k3 with ⟨w1, w2, w3, w4, w5, w6⟩ | ⟨w1, w2, w3⟩
    · exact Or.inl ⟨w1, w2, by rw [mm_up_o (by omega)]; exact w3, by rw [up_s2]; exact w4, by rw [mm_up_o (by omega)]; exact w5⟩
    · exact Or.inr ⟨w1, w2, by rw [mm_up_o (by omega)]; exact w3⟩
theorem al185 : mm_al SZ 185 = 24 ∧ mm_rf SZ 167 35 = 185 := by decide +kernel
theorem aNeeds : ∀ k, k < wNeeds.length → 97 ≤ wNeeds.getD k 0 ∧ wNeeds.getD k 0 ≤ 122 := abc (by decide)
/-- needs, and the end -/
theorem tr4_lock {n s a T : Nat} (hn : 501 ≤ n) (hc : cT tx L Ic) (hm : mT tx L Im) (ha : cA tx L s Ic) (h5 : Ic 1 5 = nI 0) (hal : a ≤ L) (hsa : sk tx L a = s) (g9 : Im 167 29 = nI a) (hT : T < 6) (c5 : Ic 15 5 = nI T) (m4 : Im 167 34 = nI T) (mn : Im 185 (4 * T + 3) = m1) : ∃ Ic' Im' J' r, tr4 n (nI T) Ic Jc = some (Ic', Jc) ∧ f11_takeTrade_210 SZ n 167 (nI (4 * T)) (nI 0) Im Jm = some (r, Im', J') ∧ fD Ic Ic' ∧ fMt Im Im' ∧ OC tx L s Ic Im Ic' Im' r (Ic' 15 5 = nI (T + 1) ∧ Ic' 15 6 = Ic 15 6 ∧ Im' 167 34 = nI (T + 1) ∧ Im' 167 36 = Im 167 36 ∧ Im' 167 39 = Im 167 39 ∧ (∀ r, r ≠ 1 → r ≠ 15 → r ≠ 23 → Ic' r = Ic r) ∧ (∀ t, t ≠ T → Ic' 23 t = Ic 23 t) ∧ orT T (Ic' 23 T) ∧ Im' 185 (4 * T + 3) = Ic' 23 T ∧ (∀ q, q ≠ 4 * T + 3 → Im' 185 q = Im 185 q) ∧ ∀ r, r ≠ 167 → r ≠ 185 → Im' r = Im r) := by
  have hL := hc.1
  have hs : s ≤ L := by rw [← hsa]; exact sk_le tx L a
  have p1 : f6_put SZ 22 (nI T) (-1) Ic Jc = some (mm_up Ic 23 T m1, Jc) := by
    rw [f6_put_eq (by rw [pT22.1, pT22.2]; omega), pT22.1, pT22.2, wr_at hT (by omega)]
    rfl
  have cA1 : ∀ {q : Nat} {x : Int32} {s' : Nat} {I : mm_I} {r : Nat}, r ≠ 1 → cA tx L s' I → cA tx L s' (mm_up I r q x) := fun hr h => h.o (mm_up_o (by omega))
  have hc1 : cT tx L (mm_up Ic 23 T m1) := hc.d (fD.up (by omega))
  have ha1 : cA tx L s (mm_up Ic 23 T m1) := cA1 (by omega) ha
  have h51 : mm_up Ic 23 T m1 1 5 = nI 0 := by rw [mm_up_o (by omega)]; exact h5
  have e1 := sees_c (n := n) (Jc := Jc) hn hc1 hs ha1 iC5 (by decide) (lt256 aNeeds)
  obtain ⟨I1, J1, k1, f1, e29, e31, eJ, e28⟩ := word_m (Jm := Jm) hn hm hal hsa g9
  have d0 : f11_code SZ 110 101 101 100 I1 J1 = some (lN (vlK wNeeds 4)) := by unfold f11_code; decide +kernel
  have d1 : f11_longer SZ (lN (vlK wNeeds 4)) 115 I1 J1 = some (lN (vlK wNeeds 5)) := lng (c := 115) (by omega)
  have eC : tr4 n (nI T) Ic Jc = if b01 (wd tx L wNeeds s) = 0 then some (mm_up (mm_up Ic 23 T m1) 15 5 (nI (T + 1)), Jc) else ((f4_advance SZ n 1 (mm_up Ic 23 T m1) Jc).bind fun o12 => tr4b n (nI T) o12.1 o12.2) := by
    unfold tr4
    rw [p1, Option.bind_some]
    dsimp only
    rw [e1, Option.bind_some, t152, mm_up_o (show (15 : Nat) ≠ 23 by omega), c5, nI_1]
  have eM : f11_takeTrade_210 SZ n 167 (nI (4 * T)) (nI 0) Im Jm = if wd tx L wNeeds s = true then ((f11_into SZ n 167 185 (nI (4 * T + 3)) 0 (nI T - 1) (mm_up I1 167 29 (I1 167 31)) J1).bind fun o6 => f11_takeTrade_272 SZ n 167 o6.1 o6.2.1 o6.2.2) else (f11_takeTrade_272 SZ n 167 (nI 0) I1 J1) := by
    unfold f11_takeTrade_210
    rw [if_pos (show nI 0 ≤ 0 by decide), k1, Option.bind_some]
    dsimp only
    rw [d0, Option.bind_some, d1, Option.bind_some]
    rw [al185.2, up_o2 (show ¬ ((167 : Nat) = 167 ∧ (34 : Nat) = 29) by omega), f1.2 34 (by omega) (by omega) (by omega) (by omega) (by omega), m4, show nI (4 * T) + 3 = nI (4 * T + 3) from nI_add _ 3]
    exact ite_cg (word_eq (l := wNeeds) hs (by decide) aNeeds eJ rfl)
  cases hw : wd tx L wNeeds s
  · rw [hw, if_pos (show b01 false = 0 by decide)] at eC
    rw [hw, if_neg (by decide)] at eM
    refine ⟨_, mm_up I1 167 34 (nI (T + 1)), J1, nI 0, eC, ?_, (fD.up (by omega)).trans (fD.up (by omega)), f1.t.trans (fMt.up (by omega)), Or.inl ⟨s, hs, ?_, rfl, ?_, ?_, ?_, ?_, ?_, ?_, ?_, ?_, ?_, ?_, ?_, ?_, ?_, ?_, ?_, ?_⟩⟩
    · rw [eM]
      unfold f11_takeTrade_272
      rw [f1.2 34 (by omega) (by omega) (by omega) (by omega) (by omega), m4, nI_1]
    · rw [← hsa, sk_sk]; exact Nat.le_refl _
    · rw [show sk tx L s = s by rw [← hsa]; exact sk_sk tx L a]
      exact cA1 (by omega) ha1
    · rw [up_o2 (by omega)]; exact e29
    · rw [mm_up_o (by omega)]; exact h51
    · rw [mm_up_o (by omega), mm_up_o (by omega)]
    · rw [up_o2 (by omega)]; exact e28
    · exact up_s2
    · rw [up_o2 (by omega), mm_up_o (by omega)]
    · exact up_s2
    · rw [up_o2 (by omega), f1.2 36 (by omega) (by omega) (by omega) (by omega) (by omega)]
    · rw [up_o2 (by omega), f1.2 39 (by omega) (by omega) (by omega) (by omega) (by omega)]
    · intro r h1 h2 h3
      rw [mm_up_o h2, mm_up_o h3]
    · intro t ht
      rw [mm_up_o (by omega), up_o2 (by omega)]
    · rw [mm_up_o (by omega), up_s2]; exact Or.inl rfl
    · rw [mm_up_o (by omega), mm_up_o (by omega), up_s2, f1.1 185 (by omega)]; exact mn
    · intro q hq
      rw [mm_up_o (by omega), f1.1 185 (by omega)]
    · intro r h1 h2
      rw [mm_up_o h1, f1.1 r h1]
  · obtain ⟨w1, w2, w3, w4⟩ := wd_tok hs (show 0 < wNeeds.length by decide) hw
    rw [hw, if_neg (show ¬ b01 true = 0 by decide)] at eC
    rw [hw, if_pos rfl] at eM
    obtain ⟨I2, b1, b2, b3, b4, b5⟩ := adv_c (Jc := Jc) hn hc1 (ten_le tx L s) ha1.2.2
    rw [w2] at b3
    have hc2 := hc1.f b2
    have c52 : I2 15 5 = nI T := by rw [b2.1 15 (by omega), mm_up_o (by omega)]; exact c5
    have el : s + wNeeds.length ≤ L := by rw [← w2]; exact ten_le tx L s
    obtain ⟨r1, I3, n1, n2, n3⟩ := num_c (Jc := Jc) (lo := 0) (hi := nI T - 1) hn hc2 (sk_le tx L _) b3 (b4.trans h51)
    have p2 : f6_put SZ 22 (nI T) r1 I3 Jc = some (mm_up I3 23 T r1, Jc) := by
      rw [f6_put_eq (by rw [pT22.1, pT22.2]; omega), pT22.1, pT22.2, wr_at hT (by omega)]
    have c53 : mm_up I3 23 T r1 15 5 = nI T := by rw [mm_up_o (by omega), n2.1 15 (by omega)]; exact c52
    rw [b1, Option.bind_some] at eC
    dsimp only at eC
    unfold tr4b at eC
    rw [c52, n1, Option.bind_some] at eC
    dsimp only at eC
    rw [p2, Option.bind_some, t152] at eC
    dsimp only at eC
    rw [c53, nI_1] at eC
    obtain ⟨r, I4, q1, q2, q3, q4⟩ := into_m (Jm := J1) (r0 := 185) (i := 4 * T + 3) (lo := 0) (hi := nI T - 1) (a := lr tx L s) (Im := mm_up I1 167 29 (I1 167 31)) hn ((hm.f f1).f (fT.up (by omega))) (by rw [w3]; exact el) (by rw [w3]) (by rw [up_s2]; exact e31) al185.1 (by omega) (by omega) (by omega)
    rw [q1, Option.bind_some] at eM
    unfold f11_takeTrade_272 at eM
    dsimp only at eM
    have m44 : I4 167 34 = nI T := by rw [q2.2 34 (by omega) (by omega) (by omega) (by omega) (by omega), up_o2 (by omega), f1.2 34 (by omega) (by omega) (by omega) (by omega) (by omega)]; exact m4
    rw [m44, nI_1] at eM
    have fC : fD Ic (mm_up (mm_up I3 23 T r1) 15 5 (nI (T + 1))) := (fD.up (by omega)).trans (b2.d.trans (n2.d.trans ((fD.up (by omega)).trans (fD.up (by omega)))))
    have fM : fMt Im (mm_up I4 167 34 (nI (T + 1))) := f1.t.trans ((fMt.up (by omega)).trans ((q2.t (by omega)).trans (fMt.up (by omega))))
    refine ⟨_, _, J1, r, eC, eM, fC, fM, ?_⟩
    rcases n3 with ⟨v1, v2, v3, v4, v5⟩ | ⟨v1, v2, v3, v4, v5⟩
    · rcases q4 with ⟨u1, u2, u3, u4, u5⟩ | ⟨u1, -⟩
      · have hlt := ok_lt (show T < 1000 by omega) v1
        refine Or.inl ⟨ten tx L (sk tx L (s + wNeeds.length)), ten_le tx L _, ?_, u2, ?_, ?_, ?_, ?_, ?_, ?_, ?_, ?_, ?_, ?_, ?_, ?_, ?_, ?_, ?_, ?_⟩
        · have g1 := sk_ge (tx := tx) el
          have g2 := sk_ge (tx := tx) (ten_le tx L (sk tx L (s + wNeeds.length)))
          have g3 := (ok_dv v1).2.1
          omega
        · exact cA1 (by omega) (cA1 (by omega) v5)
        · rw [up_o2 (by omega), u3]
        · rw [mm_up_o (by omega), mm_up_o (by omega)]; exact v3
        · rw [mm_up_o (by omega), mm_up_o (by omega), v4, b5, mm_up_o (by omega)]
        · rw [up_o2 (by omega), u5, up_o2 (by omega)]; exact e28
        · exact up_s2
        · rw [up_o2 (by omega), mm_up_o (by omega), n2.1 15 (by omega), b2.1 15 (by omega), mm_up_o (by omega)]
        · exact up_s2
        · rw [up_o2 (by omega), q2.2 36 (by omega) (by omega) (by omega) (by omega) (by omega), up_o2 (by omega), f1.2 36 (by omega) (by omega) (by omega) (by omega) (by omega)]
        · rw [up_o2 (by omega), q2.2 39 (by omega) (by omega) (by omega) (by omega) (by omega), up_o2 (by omega), f1.2 39 (by omega) (by omega) (by omega) (by omega) (by omega)]
        · intro r h1 h2 h3
          rw [mm_up_o h2, mm_up_o h3, n2.1 r h1, b2.1 r h1, mm_up_o h3]
        · intro t ht
          rw [mm_up_o (by omega), up_o2 (by omega), n2.1 23 (by omega), b2.1 23 (by omega), up_o2 (by omega)]
        · rw [mm_up_o (by omega), up_s2, v2]
          exact Or.inr ⟨_, hlt, rfl⟩
        · rw [mm_up_o (by omega), u4, mm_up_o (by omega), up_s2, v2]
        · intro q hq
          rw [mm_up_o (by omega), q3 q hq, mm_up_o (by omega), f1.1 185 (by omega)]
        · intro r h1 h2
          rw [mm_up_o h1, q2.1 r h1 h2, mm_up_o h1, f1.1 r h1]
      · exact absurd v1 u1
    · rcases q4 with ⟨u1, -⟩ | ⟨u1, u2, u3⟩
      · exact absurd u1 v1
      · exact Or.inr ⟨_, _, ((x_bad (hc2.f n2) (sk_le tx L _) v3 v4 v5).up (by omega)).up (by omega), u2, by rw [up_o2 (by omega)]; exact u3⟩
end TRD
