/-! ===== part 47: room, giving up, lending, witnesses (written by wip/whole/pre.py) ===== -/
theorem ite_le {α : Type} {a b : Nat} {x y : α} (ha : a < 2 ^ 31) (hb : b < 2 ^ 31) : (if nI a ≤ nI b then x else y) = if a ≤ b then x else y := by
  by_cases q : a ≤ b
  · rw [if_pos q, if_pos (nI_le q hb)]
  · rw [if_neg q, if_neg (nI_ge (by omega) ha)]
theorem ite_lt {α : Type} {a b : Nat} {x y : α} (ha : a < 2 ^ 31) (hb : b < 2 ^ 31) : (if nI a < nI b then x else y) = if a < b then x else y := by
  by_cases q : a < b
  · rw [if_pos q, if_pos (nI_lt q hb)]
  · rw [if_neg q, if_neg (nI_nlt (by omega) ha)]
theorem ite_eq {α : Type} {a b : Nat} {x y : α} (ha : a < 2 ^ 31) (hb : b < 2 ^ 31) : (if nI a = nI b then x else y) = if a = b then x else y := by
  by_cases q : a = b
  · rw [if_pos q, if_pos (by rw [q])]
  · rw [if_neg q, if_neg (ne_nI q ha hb)]
section LF2
variable {T P N L R F : Nat} {Ic Im : mm_I} {Jc Jm : mm_J}
theorem km_loop {n p : Nat} (hT : T ≤ 6) (hp : p < 8) (h0 : Im 167 0 = nI T) : ∀ (d k : Nat), k ≤ T → T < k + d → f11_knownMany_4 SZ n d 167 (nI p) (nI (cnt (kn Im p) k)) (nI k) Im Jm = some (nI (cnt (kn Im p) T)) := by
  intro d
  induction d with
  | zero => intro k h1 h2; omega
  | succ d ih =>
    intro k h1 h2
    show f11_knownMany_4_b SZ n (f11_knownMany_4 SZ n d) _ _ _ _ Im Jm = _
    unfold f11_knownMany_4_b f11_knownMany_27
    rw [h0]
    by_cases h : k = T
    · subst h
      simp (disch := omega) only [↓M1, ↓ofNat_nI, L0, L1, L2, L3, L4, L5, L6, L7, L8, L9, L10, L12, L31, L32, L40, L48, L50, L99, L100, L120, L180, L256, L500, n_lt0, n_ge0, n_let, n_lef, n_ltt, n_ltf, n_eqt, n_eqf, m_lt, m_le, m_eq, m_eq2, m_le2, m_lt2, m_nle, m_nlt, if_true, if_false, eq_self, Option.bind_some, mb0, mb1, mbb, mbn0, mbn1, not_true, not_false_eq_true, reduceIte, Bool.false_eq_true, nI_add, nI_clamp, pk_mul, in_t, in_f, in_m, zr, za, at_SZ, put_SZ, rd_at, wr_at, rd_m, wr_m]
    · have i1 := ih (k + 1) (by omega) (by omega)
      have e : cnt (kn Im p) (k + 1) = cnt (kn Im p) k + (if kn Im p k = true then 1 else 0) := rfl
      simp (disch := omega) only [↓M1, ↓ofNat_nI, L0, L1, L2, L3, L4, L5, L6, L7, L8, L9, L10, L12, L31, L32, L40, L48, L50, L99, L100, L120, L180, L256, L500, n_lt0, n_ge0, n_let, n_lef, n_ltt, n_ltf, n_eqt, n_eqf, m_lt, m_le, m_eq, m_eq2, m_le2, m_lt2, m_nle, m_nlt, if_true, if_false, eq_self, Option.bind_some, mb0, mb1, mbb, mbn0, mbn1, not_true, not_false_eq_true, reduceIte, Bool.false_eq_true, nI_add, nI_clamp, pk_mul, in_t, in_f, in_m, zr, za, at_SZ, put_SZ, rd_at, wr_at, rd_m, wr_m, mkn (Im := Im) (p := p) (t := k) (by omega) (by omega)]
      cases hk : kn Im p k
      · rw [if_pos (show b01 false = nI 0 by decide)]
        rw [e, hk, if_neg (by decide)] at i1
        exact i1
      · rw [if_neg (show ¬ b01 true = nI 0 by decide)]
        rw [e, hk, if_pos rfl] at i1
        exact i1
theorem km_eq {n p : Nat} (hn : 7 ≤ n) (hT : T ≤ 6) (hp : p < 8) (h0 : Im 167 0 = nI T) : f11_knownMany SZ n 167 (nI p) Im Jm = some (nI (cnt (kn Im p) T)) := km_loop hT hp h0 n 0 (by omega) (by omega)
theorem room_c {n p h : Nat} (hn : 7 ≤ n) (hL : isL L R F) (a5 : rF T P N F Ic (vCur Im)) (hT : T ≤ 6) (hp : p < 8) (hh : h ≤ 6) (e : Ic R 0 = nI h) : f2_hasRoom SZ n L (nI p) Ic Jc = some (b01 (decide (cnt (kn Im p) T < h))) := by
  unfold f2_hasRoom f2_hasRoom_26
  have ek : bsI (fun t => decide (nI 0 < Ic (F + 4) (6 * p + t))) 6 = bsI (kn Im p) T := a5.kno hT hp
  have hc := cnt_le (kn Im p) T
  rw [(zL hL).2.1, (zL hL).2.2, kb_eq hn hL.f hp, Option.bind_some, ek, cnt_eq' (by omega), Option.bind_some, e, ite_le (by omega) (by omega)]
  by_cases q : h ≤ cnt (kn Im p) T
  · rw [if_pos q, decide_eq_false (by omega)]
    rfl
  · rw [if_neg q, decide_eq_true (by omega)]
    rfl
theorem gu_lock (hL : isL L R F) (h : rLf T P N R F Ic Im) {n p t f : Nat} (hp : p < P) (ht : t < T) (hf : f < T) : ∃ m : Bool, f2_mayGiveUp SZ L (nI p) (nI t) (nI f) Ic Jc = some (b01 m) ∧ f11_mayGive SZ n 167 (nI p) (nI t) (nI f) m1 Im Jm = some (b01 m) := by
  obtain ⟨a1, a2, a3, a4, a5⟩ := h
  have hT := a1.1
  have hP := a1.2.1
  obtain ⟨e9, o9⟩ := a5.fo hp
  obtain ⟨-, -, -, c3, o3⟩ := a2 t ht
  unfold f2_mayGiveUp f2_mayGiveUp_46 f2_mayGiveUp_47 f11_mayGive f11_mayGive_68 f11_mayGive_69
  rw [(zL hL).1, (zL hL).2.2, ckn a5 hL.f (p := p) (t := f) (by omega) (by omega)]
  simp (disch := omega) only [↓M1, ↓ofNat_nI, L0, L1, L2, L3, L4, L5, L6, L7, L8, L9, L10, L12, L31, L32, L40, L48, L50, L99, L100, L120, L180, L256, L500, n_lt0, n_ge0, n_let, n_lef, n_ltt, n_ltf, n_eqt, n_eqf, m_lt, m_le, m_eq, m_eq2, m_le2, m_lt2, m_nle, m_nlt, if_true, if_false, eq_self, Option.bind_some, mb0, mb1, mbb, mbn0, mbn1, not_true, not_false_eq_true, reduceIte, Bool.false_eq_true, nI_add, nI_clamp, pk_mul, in_t, in_f, in_m, zr, za, at_SZ, put_SZ, rd_at, wr_at, rd_m, wr_m, zF hL.f, e9, ← c3, mkn (Im := Im) (p := p) (t := f) (by omega) (by omega)]
  cases kn Im p f
  · exact ⟨false, rfl, rfl⟩
  · rw [if_neg (show ¬ b01 true = nI 0 by decide), if_neg (show ¬ b01 true = nI 0 by decide)]
    rcases orT_c o9 hT with ⟨q9, q9'⟩ | ⟨u9, -, q9, q9', q9''⟩
    · rw [if_pos q9, if_neg (show ¬ nI 0 ≤ Im 179 p from q9')]
      by_cases c : Ic 12 t = nI f
      · rw [if_pos c]
        exact ⟨false, rfl, rfl⟩
      · rw [if_neg c]
        exact ⟨true, rfl, rfl⟩
    · rw [if_neg q9', if_pos (show nI 0 ≤ Im 179 p from q9'')]
      exact ⟨false, rfl, rfl⟩
theorem ln_lock (hL : isL L R F) (h : rLf T P N R F Ic Im) {n p l f : Nat} {t : Int32} (hl : l < P) (hf : f < T) : ∃ m : Bool, f2_mayLend SZ L (nI l) (nI f) Ic Jc = some (b01 m) ∧ f11_mayGive SZ n 167 (nI p) t (nI f) (nI l) Im Jm = some (b01 m) ∧ (m = true → Im 173 l = b01 true) := by
  obtain ⟨a1, a2, a3, a4, a5⟩ := h
  have hT := a1.1
  have hP := a1.2.1
  obtain ⟨e9, o9⟩ := a5.fo hl
  obtain ⟨b, f1, f2⟩ := a4.2.2.2.2.2
  obtain ⟨Lv, l1, l2, l3, l4, -⟩ := a5.l
  unfold f2_mayLend f2_mayLend_41 f2_mayLend_42 f11_mayGive f11_mayGive_111 f11_mayGive_112
  rw [(zL hL).2.1, (zL hL).2.2, ckn a5 hL.f (p := l) (t := f) (by omega) (by omega), f1, f2]
  simp (disch := omega) only [↓M1, ↓ofNat_nI, L0, L1, L2, L3, L4, L5, L6, L7, L8, L9, L10, L12, L31, L32, L40, L48, L50, L99, L100, L120, L180, L256, L500, n_lt0, n_ge0, n_let, n_lef, n_ltt, n_ltf, n_eqt, n_eqf, m_lt, m_le, m_eq, m_eq2, m_le2, m_lt2, m_nle, m_nlt, if_true, if_false, eq_self, Option.bind_some, mb0, mb1, mbb, mbn0, mbn1, not_true, not_false_eq_true, reduceIte, Bool.false_eq_true, nI_add, nI_clamp, pk_mul, in_t, in_f, in_m, zr, za, at_SZ, put_SZ, rd_at, wr_at, rd_m, wr_m, zF hL.f, e9, l2 l (by omega), mkn (Im := Im) (p := l) (t := f) (by omega) (by omega)]
  cases b
  · exact ⟨false, rfl, rfl, fun q => absurd q (by decide)⟩
  · rw [if_neg (show ¬ b01 true = nI 0 by decide), if_neg (show ¬ b01 true = nI 0 by decide)]
    cases hk : kn Im l f
    · rw [if_pos (show b01 false = nI 0 by decide), if_pos (show b01 false = nI 0 by decide)]
      refine ⟨false, rfl, ?_, fun q => absurd q (by decide)⟩
      cases Lv l <;> rfl
    · have hlv : Lv l = true := by
        cases hlv : Lv l
        · have := (l4 l hl hlv).1 f (by omega)
          unfold kn at hk
          rw [this] at hk
          exact absurd hk (by decide)
        · rfl
      rw [hlv, if_neg (show ¬ b01 true = nI 0 by decide), if_neg (show ¬ b01 true = nI 0 by decide), if_neg (show ¬ b01 true = nI 0 by decide)]
      rcases orT_c o9 hT with ⟨q9, q9'⟩ | ⟨u9, -, q9, q9', q9''⟩
      · rw [if_pos q9, if_neg (show ¬ nI 0 ≤ Im 179 l from q9')]
        exact ⟨true, rfl, rfl, fun _ => rfl⟩
      · rw [if_neg q9', if_pos (show nI 0 ≤ Im 179 l from q9'')]
        exact ⟨false, rfl, rfl, fun q => absurd q (by decide)⟩
/-- may be a witness -/
def fre (Lv W : Nat → Bool) (Im : mm_I) (p l : Int32) (j : Nat) : Bool := Lv j && decide (Im 177 j = m1) && !W j && !decide (nI j = p) && !decide (nI j = l)
theorem wf_loop (hL : isL L R F) (h : rLf T P N R F Ic Im) {n w : Nat} (hn : 9 ≤ n) (hw : w ≤ 3) (e2 : Im 167 7 = nI w) {Lv W : Nat → Bool} (l1 : ∀ p, p < 8 → ∀ J, f1_lives SZ F (nI p) Ic J = some (b01 (Lv p))) (l2 : ∀ p, p < 8 → Im 173 p = b01 (Lv p)) (w1 : Ic F 9 = bsI W 8) (w2 : ∀ p, p < 8 → Im 181 p = b01 (W p)) {p l : Int32} : ∀ (d k : Nat), k ≤ P → P < k + d → cnt (fre Lv W Im p l) k ≤ w → (∃ j, j ≤ P ∧ f2_witnessesFor_14 SZ n d L p l (bsI (fre Lv W Im p l) k) (nI (w - cnt (fre Lv W Im p l) k)) (nI k) Ic Jc = some (bsI (fre Lv W Im p l) j) ∧ f11_findWitnesses_5 SZ n d 167 p l (bsI (fre Lv W Im p l) k) (nI k) Im Jm = some (bsI (fre Lv W Im p l) j)) ∨ (f2_witnessesFor_14 SZ n d L p l (bsI (fre Lv W Im p l) k) (nI (w - cnt (fre Lv W Im p l) k)) (nI k) Ic Jc = some (-1000000003) ∧ f11_findWitnesses_5 SZ n d 167 p l (bsI (fre Lv W Im p l) k) (nI k) Im Jm = some (-1)) := by
  obtain ⟨a1, a2, a3, a4, a5⟩ := h
  have hT := a1.1
  have hP := a1.2.1
  have hF := hL.f
  intro d
  induction d with
  | zero => intro k h1 h2; omega
  | succ d ih =>
    intro k h1 h2 hc
    have stop_c : ∀ (s : Int32) (r : Nat), r = 0 → f2_witnessesFor_114 SZ n s (nI r) Ic Jc = some s := by
      intro s r hr
      subst hr
      rfl
    have stop_c2 : ∀ (s : Int32) (r : Nat), 0 < r → r ≤ 3 → f2_witnessesFor_114 SZ n s (nI r) Ic Jc = some (-1000000003) := by
      intro s r h1 h2
      unfold f2_witnessesFor_114 f2_witnessesFor_125
      rw [if_neg (show ¬ nI r ≤ 0 from nI_ge (a := 0) (b := r) h1 (by omega))]
    have stop_m : ∀ k, k ≤ 8 → f11_findWitnesses_96 SZ n 167 (bsI (fre Lv W Im p l) k) Im Jm = if w ≤ cnt (fre Lv W Im p l) k then some (bsI (fre Lv W Im p l) k) else some (-1) := by
      intro k hk
      have hc := cnt_le (fre Lv W Im p l) k
      unfold f11_findWitnesses_96 f11_findWitnesses_112
      rw [mbits_eq' hk hn, Option.bind_some, e2, ite_le (by omega) (by omega)]
    show (∃ j, j ≤ P ∧ f2_witnessesFor_14_b SZ n (f2_witnessesFor_14 SZ n d) L p l _ _ _ Ic Jc = _ ∧ f11_findWitnesses_5_b SZ n (f11_findWitnesses_5 SZ n d) 167 p l _ _ Im Jm = _) ∨ (f2_witnessesFor_14_b SZ n (f2_witnessesFor_14 SZ n d) L p l _ _ _ Ic Jc = _ ∧ f11_findWitnesses_5_b SZ n (f11_findWitnesses_5 SZ n d) 167 p l _ _ Im Jm = _)
    have hck := cnt_le (fre Lv W Im p l) k
    by_cases hk : k = P
    · subst hk
      unfold f2_witnessesFor_14_b f11_findWitnesses_5_b
      rw [(zL hL).1, (zL hL).2.2, a1.2.2.2.2.1, a1.2.2.2.2.2]
      rw [if_pos (nI_le (Nat.le_refl _) (by omega)), if_pos (nI_le (Nat.le_refl _) (by omega)), stop_m k hP]
      by_cases q : w ≤ cnt (fre Lv W Im p l) k
      · rw [if_pos q, stop_c _ _ (by omega)]
        exact Or.inl ⟨k, by omega, rfl, rfl⟩
      · rw [if_neg q, stop_c2 _ _ (by omega) (by omega)]
        exact Or.inr ⟨rfl, rfl⟩
    · by_cases q : w ≤ cnt (fre Lv W Im p l) k
      · unfold f2_witnessesFor_14_b f11_findWitnesses_5_b
        rw [(zL hL).1, (zL hL).2.2, a1.2.2.2.2.1, a1.2.2.2.2.2]
        rw [if_neg (nI_ge (by omega) (by omega)), if_neg (nI_ge (by omega) (by omega)), mbits_eq' (by omega) hn, Option.bind_some, e2, ite_le (by omega) (by omega)]
        rw [if_pos (show nI (w - cnt (fre Lv W Im p l) k) ≤ 0 by rw [show w - cnt (fre Lv W Im p l) k = 0 by omega]; decide), if_pos q, stop_m k (by omega), if_pos q, stop_c _ _ (by omega)]
        exact Or.inl ⟨k, by omega, rfl, rfl⟩
      · have ec : cnt (fre Lv W Im p l) (k + 1) = cnt (fre Lv W Im p l) k + (if fre Lv W Im p l k = true then 1 else 0) := rfl
        have i1 := ih (k + 1) (by omega) (by omega) (by rw [ec]; split <;> omega)
        obtain ⟨e9, o9⟩ := a5.le (p := k) (by omega)
        have et : fre Lv W Im p l k = true → f2_witnessesFor_14 SZ n d L p l (bsI (fre Lv W Im p l) k ||| (nI 1 <<< (nI k &&& nI 31))) (nI (w - cnt (fre Lv W Im p l) k) + m1) (nI (k + 1)) Ic Jc = f2_witnessesFor_14 SZ n d L p l (bsI (fre Lv W Im p l) (k + 1)) (nI (w - cnt (fre Lv W Im p l) (k + 1))) (nI (k + 1)) Ic Jc := by
          intro hf
          rw [bsI_t hf, ec, hf, if_pos rfl]
          obtain ⟨z, hz⟩ : ∃ z, w - cnt (fre Lv W Im p l) k = z + 1 := ⟨w - cnt (fre Lv W Im p l) k - 1, by omega⟩
          have hz1 : nI (z + 1) + m1 = nI z := pk_m1 z
          rw [hz, hz1, show w - (cnt (fre Lv W Im p l) k + 1) = z by omega]
        have ef : fre Lv W Im p l k = false → f2_witnessesFor_14 SZ n d L p l (bsI (fre Lv W Im p l) k) (nI (w - cnt (fre Lv W Im p l) k)) (nI (k + 1)) Ic Jc = f2_witnessesFor_14 SZ n d L p l (bsI (fre Lv W Im p l) (k + 1)) (nI (w - cnt (fre Lv W Im p l) (k + 1))) (nI (k + 1)) Ic Jc := by
          intro hf
          rw [← bsI_f hf, ec, hf, if_neg (by decide)]
          rfl
        have mt : fre Lv W Im p l k = true → f11_findWitnesses_5 SZ n d 167 p l (bsI (fre Lv W Im p l) k ||| (nI 1 <<< (nI k &&& nI 31))) (nI (k + 1)) Im Jm = f11_findWitnesses_5 SZ n d 167 p l (bsI (fre Lv W Im p l) (k + 1)) (nI (k + 1)) Im Jm := by
          intro hf
          rw [bsI_t hf]
        have mf : fre Lv W Im p l k = false → f11_findWitnesses_5 SZ n d 167 p l (bsI (fre Lv W Im p l) k) (nI (k + 1)) Im Jm = f11_findWitnesses_5 SZ n d 167 p l (bsI (fre Lv W Im p l) (k + 1)) (nI (k + 1)) Im Jm := by
          intro hf
          rw [← bsI_f hf]
        have sc : f2_witnessesFor_14_b SZ n (f2_witnessesFor_14 SZ n d) L p l (bsI (fre Lv W Im p l) k) (nI (w - cnt (fre Lv W Im p l) k)) (nI k) Ic Jc = f2_witnessesFor_14 SZ n d L p l (bsI (fre Lv W Im p l) (k + 1)) (nI (w - cnt (fre Lv W Im p l) (k + 1))) (nI (k + 1)) Ic Jc := by
          unfold f2_witnessesFor_14_b f2_witnessesFor_78 f2_witnessesFor_79 f2_witnessesFor_108
          rw [(zL hL).1, (zL hL).2.2, a1.2.2.2.2.1, if_neg (nI_ge (by omega) (by omega)), if_neg (show ¬ nI (w - cnt (fre Lv W Im p l) k) ≤ 0 from nI_ge (a := 0) (b := w - cnt (fre Lv W Im p l) k) (by omega) (by omega)), l1 k (by omega)]
          simp (disch := omega) only [↓M1, ↓ofNat_nI, L0, L1, L2, L3, L4, L5, L6, L7, L8, L9, L10, L12, L31, L32, L40, L48, L50, L99, L100, L120, L180, L256, L500, n_lt0, n_ge0, n_let, n_lef, n_ltt, n_ltf, n_eqt, n_eqf, m_lt, m_le, m_eq, m_eq2, m_le2, m_lt2, m_nle, m_nlt, if_true, if_false, eq_self, Option.bind_some, mb0, mb1, mbb, mbn0, mbn1, not_true, not_false_eq_true, reduceIte, Bool.false_eq_true, nI_add, nI_clamp, pk_mul, in_t, in_f, in_m, zr, za, at_SZ, put_SZ, rd_at, wr_at, rd_m, wr_m, zF hF, e9, w1, has_eq (P := W) (k := k) (by omega)]
          cases hl : Lv k
          · rw [if_pos (show b01 false = nI 0 by decide)]
            exact ef (by unfold fre; simp [hl])
          · rw [if_neg (show ¬ b01 true = nI 0 by decide)]
            by_cases c9 : Im 177 k = m1
            · rw [if_pos c9]
              cases hw : W k
              · rw [if_pos (show b01 false = nI 0 by decide)]
                by_cases c1 : nI k = p
                · rw [if_pos c1]
                  exact ef (by unfold fre; simp [c1])
                · rw [if_neg c1]
                  by_cases c2 : nI k = l
                  · rw [if_pos c2]
                    exact ef (by unfold fre; simp [c2])
                  · rw [if_neg c2]
                    exact et (by unfold fre; simp [hl, hw, c9, c1, c2])
              · rw [if_neg (show ¬ b01 true = nI 0 by decide)]
                exact ef (by unfold fre; simp [hw])
            · rw [if_neg c9]
              exact ef (by unfold fre; simp [c9])
        have sm : f11_findWitnesses_5_b SZ n (f11_findWitnesses_5 SZ n d) 167 p l (bsI (fre Lv W Im p l) k) (nI k) Im Jm = f11_findWitnesses_5 SZ n d 167 p l (bsI (fre Lv W Im p l) (k + 1)) (nI (k + 1)) Im Jm := by
          unfold f11_findWitnesses_5_b f11_findWitnesses_71 f11_findWitnesses_72 f11_findWitnesses_88
          rw [a1.2.2.2.2.2, if_neg (nI_ge (by omega) (by omega)), mbits_eq' (by omega) hn, Option.bind_some, e2, ite_le (by omega) (by omega), if_neg q]
          simp (disch := omega) only [↓M1, ↓ofNat_nI, L0, L1, L2, L3, L4, L5, L6, L7, L8, L9, L10, L12, L31, L32, L40, L48, L50, L99, L100, L120, L180, L256, L500, n_lt0, n_ge0, n_let, n_lef, n_ltt, n_ltf, n_eqt, n_eqf, m_lt, m_le, m_eq, m_eq2, m_le2, m_lt2, m_nle, m_nlt, if_true, if_false, eq_self, Option.bind_some, mb0, mb1, mbb, mbn0, mbn1, not_true, not_false_eq_true, reduceIte, Bool.false_eq_true, nI_add, nI_clamp, pk_mul, in_t, in_f, in_m, zr, za, at_SZ, put_SZ, rd_at, wr_at, rd_m, wr_m, l2 k (by omega), w2 k (by omega), or_0]
          by_cases c1 : nI k = p
          · rw [if_pos c1]
            exact mf (by unfold fre; simp [c1])
          · rw [if_neg c1]
            by_cases c2 : nI k = l
            · rw [if_pos c2]
              exact mf (by unfold fre; simp [c2])
            · rw [if_neg c2]
              cases hl : Lv k
              · rw [if_pos (show b01 false = nI 0 by decide)]
                exact mf (by unfold fre; simp [hl])
              · rw [if_neg (show ¬ b01 true = nI 0 by decide)]
                rcases orT_c o9 hT with ⟨q9, q9'⟩ | ⟨u9, -, q9, q9', q9''⟩
                · rw [if_neg (show ¬ nI 0 ≤ Im 177 k from q9')]
                  cases hw : W k
                  · rw [if_pos (show b01 false = nI 0 by decide)]
                    exact mt (by unfold fre; simp [hl, hw, q9, c1, c2])
                  · rw [if_neg (show ¬ b01 true = nI 0 by decide)]
                    exact mf (by unfold fre; simp [hw])
                · rw [if_pos (show nI 0 ≤ Im 177 k from q9'')]
                  exact mf (by unfold fre; simp [q9'])
        rw [sc, sm]
        exact i1
end LF2
