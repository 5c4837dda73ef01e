/-! ===== part 48: change (written by wip/whole/pre.py) ===== -/
theorem mm_up_self {I : mm_I} {r k : Nat} : mm_up I r k (I r k) = I := by
  funext a
  unfold mm_up
  by_cases h : a = r
  · subst h
    rw [if_pos rfl]
    funext b
    unfold upd
    by_cases q : b = k
    · rw [if_pos q, q]
    · rw [if_neg q]
  · rw [if_neg h]
theorem bs8_ne : ∀ (a b c d e f g h : Bool), ¬ bs8 a b c d e f g h = -1000000003 := by decide +kernel
theorem bs8_ge : ∀ (a b c d e f g h : Bool), 0 ≤ bs8 a b c d e f g h := by decide +kernel
theorem bsI_ne {P : Nat → Bool} : ¬ bsI P 8 = -1000000003 := by rw [bsI_8]; exact bs8_ne _ _ _ _ _ _ _ _
theorem bsI_ge {P : Nat → Bool} : 0 ≤ bsI P 8 := by rw [bsI_8]; exact bs8_ge _ _ _ _ _ _ _ _
theorem vc9 {a : Nat} (h : a ≠ 9) : vc a ≠ 181 := by
  intro e
  rcases vc_inj (a := a) (b := 9) (by omega) e with q | ⟨-, q⟩
  · exact h q
  · omega
theorem vc10 {a : Nat} (h : ¬ 10 ≤ a) : vc a ≠ 182 := by
  intro e
  rcases vc_inj (a := a) (b := 10) (by omega) e with q | ⟨q, -⟩
  · omega
  · omega
section CH
variable {T P N L R F : Nat} {Ic Im : mm_I} {Jc Jm : mm_J}
/-- after the reference's loop over the witnesses -/
def wtd (P : Nat) (U : Nat → Bool) (I Im : mm_I) : Prop := (∀ r, r ≠ 181 → I r = Im r) ∧ (∀ q, q < 8 → I 181 q = b01 (U q)) ∧ ∀ q, P ≤ q → U q = false
theorem rF.wtd {U : Nat → Bool} {I : mm_I} (h : rF T P N F Ic (vCur Im)) (hw : wtd P U I Im) : rF T P N F (mm_up Ic F 9 (bsI U 8)) (vCur I) := by
  refine h.wt (fun a b ha => ?_) ?_ hw.2
  · rw [vCur_1, vCur_1, hw.1 _ (vc9 ha)]
  · show I 167 23 = Im 167 23
    rw [hw.1 167 (by omega)]
theorem mw_loop {n : Nat} {Wt W : Nat → Bool} (hP : P ≤ 8) (h2 : Im 167 2 = nI P) (hw : ∀ q, P ≤ q → W q = false) (hwt : ∀ q, P ≤ q → Wt q = false) {p t f l : Int32} (tl : mm_I → mm_I) (ht : ∀ (rec52 : Nat → Int32 → Int32 → Int32 → Int32 → Int32 → Int32 → mm_I → mm_J → Option (Int32 × mm_I × mm_J)) (I : mm_I), I 167 2 = nI P → f11_changeNow_52_b SZ n rec52 167 p t f l (bsI W 8) (nI P) I Jm = some (bsI W 8, tl I, Jm)) : ∀ (d k : Nat) (I : mm_I), k ≤ P → P < k + d → (∀ r, r ≠ 181 → I r = Im r) → (∀ q, q < k → I 181 q = b01 (Wt q || W q)) → (∀ q, k ≤ q → q < 8 → I 181 q = b01 (Wt q)) → ∃ I', f11_changeNow_52 SZ n d 167 p t f l (bsI W 8) (nI k) I Jm = some (bsI W 8, tl I', Jm) ∧ wtd P (fun q => Wt q || W q) I' Im := by
  intro d
  induction d with
  | zero => intro k I h1 h2; omega
  | succ d ih =>
    intro k I h1 h3 i1 i2 i3
    show ∃ I', f11_changeNow_52_b SZ n (f11_changeNow_52 SZ n d) 167 p t f l (bsI W 8) (nI k) I Jm = _ ∧ _
    have e2 : I 167 2 = nI P := by rw [i1 167 (by omega)]; exact h2
    by_cases hk : k = P
    · subst hk
      refine ⟨I, ht _ I e2, i1, fun q hq => ?_, fun q hq => by show (Wt q || W q) = false; rw [hwt q hq, hw q hq]; rfl⟩
      rcases Nat.lt_or_ge q k with c | c
      · exact i2 q c
      · rw [i3 q c hq]
        show b01 (Wt q) = b01 (Wt q || W q)
        rw [hw q c, Bool.or_false]
    · obtain ⟨I', g1, g2⟩ := ih (k + 1) (mm_up I 181 k (b01 (Wt k || W k))) (by omega) (by omega) (fun r hr => by rw [mm_up_o hr]; exact i1 r hr) (fun q hq => by
        by_cases e : q = k
        · subst e; exact up_s2
        · rw [up_o2 (by omega)]; exact i2 q (by omega)) (fun q h1 h2 => by rw [up_o2 (by omega)]; exact i3 q (by omega) h2)
      refine ⟨I', ?_, g2⟩
      rw [← g1]
      unfold f11_changeNow_52_b f11_changeNow_92 f11_changeNow_87 f11_changeNow_92
      rw [e2, if_neg (nI_ge (by omega) (by omega)), mhas_eq (P := W) (k := k) (by omega)]
      simp (disch := omega) only [↓M1, ↓ofNat_nI, L0, L1, L2, L3, L4, L5, L6, L7, L8, L9, L10, L12, L31, L32, L40, L48, L50, L99, L100, L120, L180, L256, L500, n_lt0, n_ge0, n_let, n_lef, n_ltt, n_ltf, n_eqt, n_eqf, m_lt, m_le, m_eq, m_eq2, m_le2, m_lt2, m_nle, m_nlt, if_true, if_false, eq_self, Option.bind_some, mb0, mb1, mbb, mbn0, mbn1, not_true, not_false_eq_true, reduceIte, Bool.false_eq_true, nI_add, nI_clamp, pk_mul, in_t, in_f, in_m, zr, za, at_SZ, put_SZ, rd_at, wr_at, rd_m, wr_m, i3 k (by omega) (by omega)]
      cases Wt k
      · rw [if_pos (show b01 false = nI 0 by decide)]
        cases W k
        · rw [if_pos (show b01 false = nI 0 by decide)]
          rfl
        · rw [if_neg (show ¬ b01 true = nI 0 by decide)]
          rfl
      · rw [if_neg (show ¬ b01 true = nI 0 by decide)]
        rfl
/-- learning begins, on both sides -/
theorem rF.beg {I : mm_I} (h : rF T P N F Ic (vCur I)) {p t : Nat} (hp : p < P) (ht : t < T) (hP : P ≤ 8) (hl : I 173 p = b01 true) : rF T P N F (mm_up (mm_up Ic (F + 10) p (nI t)) (F + 12) p (nI 0)) (vCur (mm_up (mm_up I 177 p (nI t)) 178 p (nI 0))) := by
  rw [mm_up_comm (show F + 10 ≠ F + 12 by omega), mm_up_comm (show 177 ≠ 178 by omega)]
  have g1 : rF T P N F (mm_up Ic (F + 12) p (nI 0)) (vCur (mm_up I 178 p (nI 0))) := (h.lnt (x := nI 0) hp).e (vCur_up (j := 6) (by omega))
  refine (g1.lrn (x := nI t) hp (Or.inr ⟨t, ht, rfl⟩) (Or.inr ?_) (fun _ => ?_) hP).e (vCur_up (j := 5) (by omega))
  · show mm_up I 178 p (nI 0) 173 p = b01 true
    rw [up_o2 (by omega)]; exact hl
  · show _ = mm_up I 178 p (nI 0) 178 p
    rw [up_s2, up_s2]
theorem start_eq (hL : isL L R F) {p t : Nat} (hp : p < 8) : f2_startLearning SZ L (nI p) (nI t) Ic Jc = some (mm_up (mm_up Ic (F + 10) p (nI t)) (F + 12) p (nI 0), Jc) := by
  unfold f2_startLearning
  rw [(zL hL).2.2]
  simp (disch := omega) only [↓M1, ↓ofNat_nI, L0, L1, L2, L3, L4, L5, L6, L7, L8, L9, L10, L12, L31, L32, L40, L48, L50, L99, L100, L120, L180, L256, L500, n_lt0, n_ge0, n_let, n_lef, n_ltt, n_ltf, n_eqt, n_eqf, m_lt, m_le, m_eq, m_eq2, m_le2, m_lt2, m_nle, m_nlt, if_true, if_false, eq_self, Option.bind_some, mb0, mb1, mbb, mbn0, mbn1, not_true, not_false_eq_true, reduceIte, Bool.false_eq_true, nI_add, nI_clamp, pk_mul, in_t, in_f, in_m, zr, za, at_SZ, put_SZ, rd_at, wr_at, rd_m, wr_m, zF hL.f]
theorem change_lock (hL : isL L R F) (h : rLf T P N R F Ic Im) {n p t : Nat} (hn : 9 ≤ n) (hp : p < P) (ht : t < T) {f l : Int32} (hf : orT T f) (hl : l = m1 ∨ ∃ q, q < P ∧ l = nI q) : ∃ r Ic' Im', f2_beginChange SZ n L (nI p) (nI t) f l Ic Jc = some (r, Ic', Jc) ∧ f11_changeNow SZ n 167 (nI p) (nI t) f l Im Jm = some (r, Im', Jm) ∧ fF F Ic Ic' ∧ fV Im Im' ∧ rF T P N F Ic' (vCur Im') ∧ Ic' F 12 = Ic F 12 ∧ Im' 167 24 = Im 167 24 := by
  have hL' := h
  obtain ⟨a1, a2, a3, a4, a5⟩ := h
  have hT := a1.1
  have hP := a1.2.1
  have hF := hL.f
  obtain ⟨m, mc, mm, ml⟩ := may_lock (Jc := Jc) (Jm := Jm) hL hL' hp ht
  have keepAll : ∃ r Ic' Im', some ((-1000000003 : Int32), Ic, Jc) = some (r, Ic', Jc) ∧ some ((-1000000003 : Int32), Im, Jm) = some (r, Im', Jm) ∧ fF F Ic Ic' ∧ fV Im Im' ∧ rF T P N F Ic' (vCur Im') ∧ Ic' F 12 = Ic F 12 ∧ Im' 167 24 = Im 167 24 := ⟨_, Ic, Im, rfl, rfl, fF.refl, fV.refl, a5, rfl, rfl⟩
  unfold f2_beginChange f11_changeNow f11_changeNow_21
  rw [mc, mm, Option.bind_some, Option.bind_some]
  cases m with
  | false =>
    rw [if_pos (show b01 false = 0 by decide), if_pos (show b01 false = 0 by decide)]
    exact keepAll
  | true =>
    rw [if_neg (show ¬ b01 true = 0 by decide), if_neg (show ¬ b01 true = 0 by decide)]
    obtain ⟨lv, ln⟩ := ml rfl
    obtain ⟨Wt, w1, w2, w3⟩ := a5.wi
    rcases orT_c hf hT with ⟨ef, ef'⟩ | ⟨f', hf', ef, ef', ef''⟩
    · subst ef
      rw [if_pos (show m1 = -1 from rfl), if_neg (show ¬ 0 ≤ m1 by decide)]
      rcases hl with rfl | ⟨q, hq, rfl⟩
      · rw [if_pos (show m1 = -1 from rfl)]
        obtain ⟨hd, hd1, hd2, g1, g2⟩ := a4.1
        have hr : f11_mayGive SZ n 167 (nI p) (nI t) m1 m1 Im Jm = some (b01 (decide (cnt (kn Im p) T < hd))) := by
          unfold f11_mayGive f11_mayGive_25 f11_mayGive_26
          have hc := cnt_le (kn Im p) T
          rw [if_neg (show ¬ 0 ≤ m1 by decide), if_neg (show ¬ 0 ≤ m1 by decide), km_eq (by omega) hT (by omega) a1.2.2.2.1, Option.bind_some, g2, ite_le (by omega) (by omega)]
          by_cases c : hd ≤ cnt (kn Im p) T
          · rw [if_pos c, decide_eq_false (by omega)]; rfl
          · rw [if_neg c, decide_eq_true (by omega)]; rfl
        rw [hr, room_c (by omega) hL a5 hT (by omega) hd2 g1, Option.bind_some, Option.bind_some]
        cases hb : decide (cnt (kn Im p) T < hd)
        · rw [if_pos (show b01 false = 0 by decide), if_pos (show b01 false = 0 by decide)]
          exact keepAll
        · rw [if_neg (show ¬ b01 true = 0 by decide), if_neg (show ¬ b01 true = 0 by decide), start_eq hL (by omega)]
          obtain ⟨I', k1, k2⟩ := mw_loop (n := n) (P := P) (Im := Im) (Jm := Jm) (Wt := Wt) (W := fun _ => false) hP a1.2.2.2.2.2 (fun _ _ => rfl) w3 (p := nI p) (t := nI t) (f := m1) (l := m1) (fun I => mm_up (mm_up I 177 p (nI t)) 178 p (nI 0)) (fun rec52 I e => by
            unfold f11_changeNow_52_b f11_changeNow_134
            rw [e]
            simp (disch := omega) only [↓M1, ↓ofNat_nI, L0, L1, L2, L3, L4, L5, L6, L7, L8, L9, L10, L12, L31, L32, L40, L48, L50, L99, L100, L120, L180, L256, L500, n_lt0, n_ge0, n_let, n_lef, n_ltt, n_ltf, n_eqt, n_eqf, m_lt, m_le, m_eq, m_eq2, m_le2, m_lt2, m_nle, m_nlt, if_true, if_false, eq_self, Option.bind_some, mb0, mb1, mbb, mbn0, mbn1, not_true, not_false_eq_true, reduceIte, Bool.false_eq_true, nI_add, nI_clamp, pk_mul, in_t, in_f, in_m, zr, za, at_SZ, put_SZ, rd_at, wr_at, rd_m, wr_m]) n 0 Im (by omega) (by omega) (fun _ _ => rfl) (fun q hq => absurd hq (Nat.not_lt_zero q)) (fun q _ hq => w2 q hq)
          have k1' : f11_changeNow_39 SZ n 167 (nI p) (nI t) m1 m1 0 Im Jm = some (0, mm_up (mm_up I' 177 p (nI t)) 178 p (nI 0), Jm) := k1
          rw [k1']
          have r1 : rF T P N F Ic (vCur I') := by
            have := a5.wtd k2
            have e : bsI (fun q => Wt q || false) 8 = Ic F 9 := by
              rw [w1]
              exact bsI_congr (fun k _ => Bool.or_false _)
            rw [e, mm_up_self] at this
            exact this
          refine ⟨0, _, _, rfl, rfl, (fF.up (by omega)).trans (fF.up (by omega)), ⟨fun r h1 h2 => ?_, fun k h1 h2 => ?_⟩, r1.beg hp ht hP (by rw [k2.1 173 (by omega)]; exact lv), ?_, ?_⟩
          · rw [mm_up_o (by omega), mm_up_o (by omega), k2.1 r (by omega)]
          · rw [up_o2 (by omega), up_o2 (by omega), k2.1 167 (by omega)]
          · show (mm_up (mm_up Ic (F + 10) p (nI t)) (F + 12) p (nI 0)) F 12 = _
            rw [up_o2 (by omega), up_o2 (by omega)]
          · rw [up_o2 (by omega), up_o2 (by omega), k2.1 167 (by omega)]
      · rw [if_neg (show ¬ nI q = -1 by
          have := m_eq (a := q) (by omega)
          exact fun e => by rw [show (nI q = m1) = (nI q = -1) from rfl] at this; rw [this] at e; exact e)]
        have hr : f11_mayGive SZ n 167 (nI p) (nI t) m1 (nI q) Im Jm = some 0 := by
          unfold f11_mayGive f11_mayGive_25 f11_mayGive_26
          rw [if_neg (show ¬ 0 ≤ m1 by decide), if_pos (show 0 ≤ nI q from nI_pos' (by omega))]
          rfl
        rw [hr, Option.bind_some, if_pos (show (0 : Int32) = 0 from rfl)]
        exact keepAll
    · subst ef
      rw [if_neg (show ¬ nI f' = -1 from ef'), if_pos ef'']
      have tail : ∀ (q : Nat) (b : Bool), q < P → ((l = m1 ∧ q = p) ∨ l = nI q) → (b = true → Im 173 q = b01 true) → ∃ r Ic' Im', f2_beginChange_65 SZ n L (nI p) (nI t) (nI f') l (b01 b) Ic Jc = some (r, Ic', Jc) ∧ (if b01 b = 0 then some ((-1000000003 : Int32), Im, Jm) else (f11_findWitnesses SZ n 167 (nI p) l Im Jm).bind fun o6 => f11_changeNow_39 SZ n 167 (nI p) (nI t) (nI f') l o6 Im Jm) = some (r, Im', Jm) ∧ fF F Ic Ic' ∧ fV Im Im' ∧ rF T P N F Ic' (vCur Im') ∧ Ic' F 12 = Ic F 12 ∧ Im' 167 24 = Im 167 24 := by
        intro q b hq hlq hlv
        unfold f2_beginChange_65
        cases b with
        | false =>
          rw [if_pos (show b01 false = 0 by decide), if_pos (show b01 false = 0 by decide)]
          unfold f2_beginChange_84
          rw [if_pos rfl]
          exact keepAll
        | true =>
          have lq := hlv rfl
          rw [if_neg (show ¬ b01 true = 0 by decide), if_neg (show ¬ b01 true = 0 by decide)]
          obtain ⟨wn, wn1, g1, g2⟩ := a4.2.1
          obtain ⟨Lv, l1, l2, l3, l4, -⟩ := a5.l
          have hw := wf_loop (Jc := Jc) (Jm := Jm) hL hL' hn wn1 g2 l1 l2 w1 w2 (p := nI p) (l := l) n 0 (by omega) (by omega) (Nat.zero_le _)
          have c0 : cnt (fre Lv Wt Im (nI p) l) 0 = 0 := rfl
          have eC : f2_witnessesFor SZ n L (nI p) l Ic Jc = f2_witnessesFor_14 SZ n n L (nI p) l (bsI (fre Lv Wt Im (nI p) l) 0) (nI (wn - cnt (fre Lv Wt Im (nI p) l) 0)) (nI 0) Ic Jc := by
            unfold f2_witnessesFor
            rw [(zL hL).2.1, g1]
            rfl
          have eM : f11_findWitnesses SZ n 167 (nI p) l Im Jm = f11_findWitnesses_5 SZ n n 167 (nI p) l (bsI (fre Lv Wt Im (nI p) l) 0) (nI 0) Im Jm := rfl
          rw [eC, eM]
          rcases hw with ⟨j, hj, h1, h2⟩ | ⟨h1, h2⟩
          · rw [h1, h2, Option.bind_some, Option.bind_some, bsI_wid (P := fre Lv Wt Im (nI p) l) (n := j) (m := 8) (by omega)]
            have hwf : ∀ q, P ≤ q → (fun k => decide (k < j) && fre Lv Wt Im (nI p) l k) q = false := by
              intro q hq
              show (decide (q < j) && fre Lv Wt Im (nI p) l q) = false
              rw [decide_eq_false (by omega)]
              rfl
            generalize (fun k => decide (k < j) && fre Lv Wt Im (nI p) l k) = W at *
            have eq12 : (if l = -1 then f2_beginChange_129 SZ n L (nI p) (nI t) (nI f') (bsI W 8) (F + 13) (nI p) (mm_up Ic F 9 (Ic F 9 ||| bsI W 8)) Jc else f2_beginChange_129 SZ n L (nI p) (nI t) (nI f') (bsI W 8) (F + 13) l (mm_up Ic F 9 (Ic F 9 ||| bsI W 8)) Jc) = some (bsI W 8, mm_up (mm_up (mm_up (mm_up Ic F 9 (bsI (fun k => Wt k || W k) 8)) (F + 14) q (nI f')) (F + 10) p (nI t)) (F + 12) p (nI 0), Jc) := by
              rw [w1, bsI_or]
              have hh : f2_beginChange_129 SZ n L (nI p) (nI t) (nI f') (bsI W 8) (F + 13) (nI q) (mm_up Ic F 9 (bsI (fun k => Wt k || W k) 8)) Jc = some (bsI W 8, mm_up (mm_up (mm_up (mm_up Ic F 9 (bsI (fun k => Wt k || W k) 8)) (F + 14) q (nI f')) (F + 10) p (nI t)) (F + 12) p (nI 0), Jc) := by
                unfold f2_beginChange_129
                simp (disch := omega) only [↓M1, ↓ofNat_nI, L0, L1, L2, L3, L4, L5, L6, L7, L8, L9, L10, L12, L31, L32, L40, L48, L50, L99, L100, L120, L180, L256, L500, n_lt0, n_ge0, n_let, n_lef, n_ltt, n_ltf, n_eqt, n_eqf, m_lt, m_le, m_eq, m_eq2, m_le2, m_lt2, m_nle, m_nlt, if_true, if_false, eq_self, Option.bind_some, mb0, mb1, mbb, mbn0, mbn1, not_true, not_false_eq_true, reduceIte, Bool.false_eq_true, nI_add, nI_clamp, pk_mul, in_t, in_f, in_m, zr, za, at_SZ, put_SZ, rd_at, wr_at, rd_m, wr_m, zF hF, start_eq hL]
              rcases hlq with ⟨rfl, rfl⟩ | rfl
              · rw [if_pos (show m1 = -1 from rfl)]
                exact hh
              · rw [if_neg (show ¬ nI q = -1 by
                  have := m_eq (a := q) (by omega)
                  exact fun e => by rw [show (nI q = m1) = (nI q = -1) from rfl] at this; rw [this] at e; exact e)]
                exact hh
            have cc : f2_beginChange_84 SZ n L (nI p) (nI t) (nI f') l (bsI W 8) Ic Jc = some (bsI W 8, mm_up (mm_up (mm_up (mm_up Ic F 9 (bsI (fun k => Wt k || W k) 8)) (F + 14) q (nI f')) (F + 10) p (nI t)) (F + 12) p (nI 0), Jc) := by
              unfold f2_beginChange_84
              rw [if_neg bsI_ne, (zL hL).2.2, (zF hF).1.2.2.2.2.2.2.1]
              exact eq12
            obtain ⟨I', k1, k2⟩ := mw_loop (n := n) (P := P) (Im := Im) (Jm := Jm) (Wt := Wt) (W := W) hP a1.2.2.2.2.2 hwf w3 (p := nI p) (t := nI t) (f := nI f') (l := l) (fun I => mm_up (mm_up (mm_up I 177 p (nI t)) 178 p (nI 0)) 179 q (nI f')) (fun rec52 I e => by
              unfold f11_changeNow_52_b f11_changeNow_134 f11_changeNow_132
              rw [e]
              rcases hlq with ⟨rfl, rfl⟩ | rfl
              · simp (disch := omega) only [↓M1, ↓ofNat_nI, L0, L1, L2, L3, L4, L5, L6, L7, L8, L9, L10, L12, L31, L32, L40, L48, L50, L99, L100, L120, L180, L256, L500, n_lt0, n_ge0, n_let, n_lef, n_ltt, n_ltf, n_eqt, n_eqf, m_lt, m_le, m_eq, m_eq2, m_le2, m_lt2, m_nle, m_nlt, if_true, if_false, eq_self, Option.bind_some, mb0, mb1, mbb, mbn0, mbn1, not_true, not_false_eq_true, reduceIte, Bool.false_eq_true, nI_add, nI_clamp, pk_mul, in_t, in_f, in_m, zr, za, at_SZ, put_SZ, rd_at, wr_at, rd_m, wr_m]
                rfl
              · simp (disch := omega) only [↓M1, ↓ofNat_nI, L0, L1, L2, L3, L4, L5, L6, L7, L8, L9, L10, L12, L31, L32, L40, L48, L50, L99, L100, L120, L180, L256, L500, n_lt0, n_ge0, n_let, n_lef, n_ltt, n_ltf, n_eqt, n_eqf, m_lt, m_le, m_eq, m_eq2, m_le2, m_lt2, m_nle, m_nlt, if_true, if_false, eq_self, Option.bind_some, mb0, mb1, mbb, mbn0, mbn1, not_true, not_false_eq_true, reduceIte, Bool.false_eq_true, nI_add, nI_clamp, pk_mul, in_t, in_f, in_m, zr, za, at_SZ, put_SZ, rd_at, wr_at, rd_m, wr_m]
                rfl) n 0 Im (by omega) (by omega) (fun _ _ => rfl) (fun q hq => absurd hq (Nat.not_lt_zero q)) (fun q _ hq => w2 q hq)
            have k1' : f11_changeNow_39 SZ n 167 (nI p) (nI t) (nI f') l (bsI W 8) Im Jm = some (bsI W 8, mm_up (mm_up (mm_up I' 177 p (nI t)) 178 p (nI 0)) 179 q (nI f'), Jm) := by
              unfold f11_changeNow_39
              rw [if_pos bsI_ge]
              exact k1
            rw [cc, k1']
            have r1 := a5.wtd k2
            have r2 : rF T P N F (mm_up (mm_up Ic F 9 (bsI (fun k => Wt k || W k) 8)) (F + 14) q (nI f')) (vCur (mm_up I' 179 q (nI f'))) := (r1.frg (x := nI f') hq (Or.inr ⟨f', hf', rfl⟩) (Or.inr (by
              show I' 173 q = b01 true
              rw [k2.1 173 (by omega)]; exact lq)) hP).e (vCur_up (j := 7) (by omega))
            have r3 := r2.beg hp ht hP (by rw [up_o2 (by omega), k2.1 173 (by omega)]; exact lv)
            refine ⟨bsI W 8, _, _, rfl, rfl, (((fF.up (by omega)).trans (fF.up (by omega))).trans (fF.up (by omega))).trans (fF.up (by omega)), ⟨fun r h1 h2 => ?_, fun k h1 h2 => ?_⟩, ?_, ?_, ?_⟩
            · rw [mm_up_o (by omega), mm_up_o (by omega), mm_up_o (by omega), k2.1 r (by omega)]
            · rw [up_o2 (by omega), up_o2 (by omega), up_o2 (by omega), k2.1 167 (by omega)]
            · have e : mm_up (mm_up (mm_up I' 177 p (nI t)) 178 p (nI 0)) 179 q (nI f') = mm_up (mm_up (mm_up I' 179 q (nI f')) 177 p (nI t)) 178 p (nI 0) := by
                rw [mm_up_comm (show 178 ≠ 179 by omega), mm_up_comm (show 177 ≠ 179 by omega)]
              rw [e]
              exact r3
            · rw [up_o2 (by omega), up_o2 (by omega), up_o2 (by omega), up_o2 (by omega)]
            · rw [up_o2 (by omega), up_o2 (by omega), up_o2 (by omega), k2.1 167 (by omega)]
          · rw [h1, h2, Option.bind_some, Option.bind_some]
            unfold f2_beginChange_84 f11_changeNow_39
            rw [if_pos rfl, if_neg (show ¬ (0 : Int32) ≤ -1 by decide)]
            exact keepAll
      rcases hl with rfl | ⟨q, hq, rfl⟩
      · obtain ⟨b, g1, g2⟩ := gu_lock (Jc := Jc) (Jm := Jm) (n := n) hL hL' hp ht hf'
        rw [if_pos (show m1 = -1 from rfl), g1, g2, Option.bind_some, Option.bind_some]
        exact tail p b hp (Or.inl ⟨rfl, rfl⟩) (fun _ => lv)
      · obtain ⟨b, g1, g2, g3⟩ := ln_lock (Jc := Jc) (Jm := Jm) (n := n) (p := p) (t := nI t) hL hL' hq hf'
        rw [if_neg (show ¬ nI q = -1 by
          have := m_eq (a := q) (by omega)
          exact fun e => by rw [show (nI q = m1) = (nI q = -1) from rfl] at this; rw [this] at e; exact e), g1, g2, Option.bind_some, Option.bind_some]
        exact tail q b hq (Or.inr rfl) g3
end CH
