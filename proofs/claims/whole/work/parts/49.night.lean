/-! ===== part 49: both steps from one lock; change; draws; night (written by wip/whole/pre.py) ===== -/
theorem two {k T P : Nat} {I : mm_I} {J : mm_J} {fc : Option (Int32 × mm_I × mm_J)} {fm : mm_I → mm_J → Option (Int32 × mm_I × mm_J)} (hA : rAll T P (100 * k) I I) (lock : ∀ Im, rAll T P (100 * k) I Im → ∃ r Ic' Im', fc = some (r, Ic', J) ∧ fm Im J = some (r, Im', J) ∧ fF 29 I Ic' ∧ fV Im Im' ∧ rF T P (100 * (k + 1)) 29 Ic' (vCur Im') ∧ rS Ic' Im') : ∃ o1 o2, fc = some o1 ∧ fm o1.2.1 o1.2.2 = some o2 ∧ o1.1 = o2.1 ∧ Inv (k + 1) o2.2.1 o2.2.2 := by
  obtain ⟨r, Ic', Im0, c1, -, f1, -, -, -⟩ := lock I hA
  obtain ⟨r2, Ic2, Im', c2, m2, f2, f3, hR, hS⟩ := lock Ic' (hA.m (f1.le (by omega)))
  have e : (r, Ic', J) = (r2, Ic2, J) := Option.some.inj (c1.symm.trans c2)
  have e1 : r = r2 := congrArg (fun x => x.1) e
  have e2 : Ic' = Ic2 := congrArg (fun x => x.2.1) e
  subst e1 e2
  exact ⟨(r, Ic', J), (r, Im', J), c1, m2, rfl, Inv_folk hA f2 f3 hR hS⟩
theorem rAll.lf {T P N : Nat} {Ic Im : mm_I} (h : rAll T P N Ic Im) : rLf T P N 26 29 Ic Im := ⟨h.1, h.2.1, h.2.2.1, h.2.2.2.1, h.2.2.2.2.1⟩
theorem isL1 : isL 147 26 29 := Or.inl ⟨rfl, rfl, rfl⟩
theorem n_m1 {q : Nat} (h : q < 2 ^ 31) : ¬ nI q = -1 := by
  intro e
  have := m_eq (a := q) h
  rw [show (nI q = m1) = (nI q = -1) from rfl] at this
  rw [this] at e
  exact e
theorem out_m1 {n : Nat} (hn : n < 2 ^ 31) : (m1 : Int32) < 0 ∨ nI n ≤ m1 := Or.inl (by decide)
theorem ch0 {n : Nat} {p t f l : Int32} {I : mm_I} {J : mm_J} : f10_change_30 SZ n 0 p t f l 0 I J = some (-1000000001, I, J) := by
  have h61 : ∀ s0, f10_change_61 SZ n 0 p t f l 0 s0 I J = some (-1000000001, I, J) := fun s0 => by
    unfold f10_change_61 f10_change_88 f10_change_90
    exact if_pos rfl
  unfold f10_change_30 f10_change_56 f10_change_60
  simp only [f0_hasPerson_eq, h61, Option.bind_some, ite_self]
theorem bF0 : (b01 false = nI 0) = True := eq_true (by decide)
theorem bT0 : (b01 true = nI 0) = False := eq_false (by decide)
theorem n10 : ¬ (1 : Int32) = 0 := by decide
theorem st_change : St_change Inv := by
  intro k hk p t f l I J h
  have h0 := h
  obtain ⟨T, P, hA⟩ := h
  refine ⟨1000, ?_⟩
  show ∃ o1 o2, f10_change SZ 1000 0 p t f l I J = some o1 ∧ (fun I J => f11_change SZ 1000 167 p t f l I J) o1.2.1 o1.2.2 = some o2 ∧ o1.1 = o2.1 ∧ Inv (k + 1) o2.2.1 o2.2.2
  have unk : f10_change SZ 1000 0 p t f l I J = some (-1000000001, I, J) → f11_change SZ 1000 167 p t f l I J = some (-1000000001, I, J) → ∃ o1 o2, f10_change SZ 1000 0 p t f l I J = some o1 ∧ (fun I J => f11_change SZ 1000 167 p t f l I J) o1.2.1 o1.2.2 = some o2 ∧ o1.1 = o2.1 ∧ Inv (k + 1) o2.2.1 o2.2.2 := fun h1 h2 => ⟨_, _, h1, h2, rfl, Inv_mono k I J h0⟩
  have a1 := hA.1
  have hT := a1.1
  have hP := a1.2.1
  rcases in_cases P (by omega) p with hp | ⟨p', hp', rfl⟩
  · refine unk ?_ ?_
    · unfold f10_change f10_change_29
      rw [cKp_outP a1 hp, Option.bind_some, if_pos (show (0 : Int32) = 0 from rfl)]
      exact ch0
    · unfold f11_change
      rw [mPe_out a1 hp]
      rfl
  rcases in_cases T (by omega) t with ht | ⟨t', ht', rfl⟩
  · refine unk ?_ ?_
    · unfold f10_change f10_change_29
      rw [cKp_outT a1 hp' ht, Option.bind_some, if_pos (show (0 : Int32) = 0 from rfl)]
      exact ch0
    · unfold f11_change
      rw [mPe_in a1 hp', Option.bind_some, if_neg n10, mTr_out a1 ht]
      rfl
  have cF : orT T f → f10_change SZ 1000 0 (nI p') (nI t') f l I J = f10_change_30 SZ 1000 0 (nI p') (nI t') f l 1 I J := by
    intro hf
    unfold f10_change f10_change_25
    rw [cKp_in a1 hp' ht', Option.bind_some, if_neg n10]
    rcases hf with rfl | ⟨q, hq, rfl⟩
    · rw [if_pos rfl]
    · rw [if_neg (n_m1 (by omega)), show mm_rf SZ 0 1 = 4 from rfl, cTr_in a1 hq, Option.bind_some, if_neg n10]
  have mF : orT T f → ∀ {Im : mm_I} {Jm : mm_J}, rT T P I Im → f11_change SZ 1000 167 (nI p') (nI t') f l Im Jm = f11_change_33 SZ 1000 167 (nI p') (nI t') f l Im Jm := by
    intro hf Im Jm b1
    unfold f11_change
    rw [mPe_in b1 hp', Option.bind_some, if_neg n10, mTr_in b1 ht', Option.bind_some, if_neg n10]
    rcases hf with rfl | ⟨q, hq, rfl⟩
    · rw [if_pos rfl]
    · rw [if_neg (n_m1 (by omega)), mTr_in b1 hq, Option.bind_some, if_neg n10]
  have good : orT T f → (l = m1 ∨ ∃ q, q < P ∧ l = nI q) → ¬ l = nI p' → ∃ o1 o2, f10_change SZ 1000 0 (nI p') (nI t') f l I J = some o1 ∧ (fun I J => f11_change SZ 1000 167 (nI p') (nI t') f l I J) o1.2.1 o1.2.2 = some o2 ∧ o1.1 = o2.1 ∧ Inv (k + 1) o2.2.1 o2.2.2 := by
    intro hf hl hne
    refine two (J := J) hA (fun Im hB => ?_)
    obtain ⟨r, Ic', Im', g1, g2, g3, g4, g5, g6, g7⟩ := change_lock (Jc := J) (Jm := J) isL1 hB.lf (n := 1000) (by omega) hp' ht' hf hl
    obtain ⟨s, s1, s2, s3⟩ := hB.2.2.2.2.2.1
    refine ⟨r, Ic', Im', ?_, ?_, g3, g4, g5.mono (by omega), s, s1, by rw [g6]; exact s2, by rw [g7]; exact s3⟩
    · rw [cF hf]
      unfold f10_change_30 f10_change_56 f10_change_61 f10_change_90
      have : ∀ o : Option (Int32 × mm_I × mm_J), o = some (r, Ic', J) → (if (1 : Int32) = 0 then f10_change_88 SZ 1000 I J else if (1 : Int32) = 0 then f10_change_88 SZ 1000 I J else o.bind fun o3 => some (o3.1, o3.2.1, o3.2.2)) = some (r, Ic', J) := by
        intro o e
        rw [if_neg n10, if_neg n10, e]
        rfl
      rcases hl with rfl | ⟨q, hq, rfl⟩
      · rw [if_pos (show m1 = -1 from rfl)]
        exact this _ g1
      · rw [if_neg (n_m1 (by omega)), show mm_rf SZ 0 1 = 4 from rfl, cPe_in a1 hq, Option.bind_some, if_neg n10, if_neg hne]
        exact this _ g1
    · show f11_change SZ 1000 167 (nI p') (nI t') f l Im J = _
      rw [mF hf hB.1]
      unfold f11_change_33 f11_change_58
      have : ∀ o : Option (Int32 × mm_I × mm_J), o = some (r, Im', J) → (o.bind fun o1 => some (o1.1, o1.2.1, o1.2.2)) = some (r, Im', J) := by
        intro o e
        rw [e]
        rfl
      rcases hl with rfl | ⟨q, hq, rfl⟩
      · rw [if_pos (show m1 = -1 from rfl)]
        exact this _ g2
      · rw [if_neg (n_m1 (by omega)), mPe_in hB.1 hq, Option.bind_some, if_neg n10, if_neg hne]
        exact this _ g2
  have lend : orT T f → ∃ o1 o2, f10_change SZ 1000 0 (nI p') (nI t') f l I J = some o1 ∧ (fun I J => f11_change SZ 1000 167 (nI p') (nI t') f l I J) o1.2.1 o1.2.2 = some o2 ∧ o1.1 = o2.1 ∧ Inv (k + 1) o2.2.1 o2.2.2 := by
    intro hf
    by_cases el : l = -1
    · exact good hf (Or.inl el) (by rw [el]; intro e; exact n_m1 (q := p') (by omega) e.symm)
    · rcases in_cases P (by omega) l with hl | ⟨l', hl', rfl⟩
      · refine unk ?_ ?_
        · rw [cF hf]
          unfold f10_change_30 f10_change_60 f10_change_61 f10_change_88 f10_change_90
          rw [if_neg el, show mm_rf SZ 0 1 = 4 from rfl, cPe_out a1 hl]
          rfl
        · rw [mF hf a1]
          unfold f11_change_33
          rw [if_neg el, mPe_out a1 hl]
          rfl
      · by_cases e : nI l' = nI p'
        · refine unk ?_ ?_
          · rw [cF hf]
            unfold f10_change_30 f10_change_60 f10_change_61 f10_change_88 f10_change_90
            rw [if_neg el, show mm_rf SZ 0 1 = 4 from rfl, cPe_in a1 hl', Option.bind_some, if_neg n10, if_pos e]
            rfl
          · rw [mF hf a1]
            unfold f11_change_33
            rw [if_neg el, mPe_in a1 hl', Option.bind_some, if_neg n10, if_pos e]
            rfl
        · exact good hf (Or.inr ⟨l', hl', rfl⟩) e
  by_cases ef : f = -1
  · exact lend (Or.inl ef)
  · rcases in_cases T (by omega) f with hf | ⟨f', hf', rfl⟩
    · refine unk ?_ ?_
      · unfold f10_change f10_change_29
        rw [cKp_in a1 hp' ht', Option.bind_some, if_neg n10, if_neg ef, show mm_rf SZ 0 1 = 4 from rfl, cTr_out a1 hf, Option.bind_some, if_pos (show (0 : Int32) = 0 from rfl)]
        exact ch0
      · unfold f11_change
        rw [mPe_in a1 hp', Option.bind_some, if_neg n10, mTr_in a1 ht', Option.bind_some, if_neg n10, if_neg ef, mTr_out a1 hf]
        rfl
    · exact lend (Or.inr ⟨f', hf', rfl⟩)
/-! draws -/
def dr (s : Nat) : Nat := (s * 1103515245 + 12345) % 2147483648
theorem dr_lt (s : Nat) : dr s < 2 ^ 31 := Nat.mod_lt _ (by decide)
theorem l_and (n : Nat) (h : n < 2 ^ 63) : lN n &&& 2147483647 = lN (n % 2147483648) := by
  apply Int64.toBitVec_inj.mp
  apply BitVec.eq_of_toNat_eq
  rw [Int64.toBitVec_and, BitVec.toNat_and, show (2147483647 : Int64).toBitVec.toNat = 2 ^ 31 - 1 from by decide, Nat.and_two_pow_sub_one_eq_mod]
  show (BitVec.ofNat 64 n).toNat % 2 ^ 31 = (BitVec.ofNat 64 (n % 2147483648)).toNat
  rw [BitVec.toNat_ofNat, BitVec.toNat_ofNat]
  omega
theorem dr_l {s : Nat} (hs : s < 2 ^ 31) : (nI s).toInt64 * 1103515245 + 12345 = lN (s * 1103515245 + 12345) := by
  rw [nI_l hs, show (1103515245 : Int64) = lN 1103515245 from rfl, show (12345 : Int64) = lN 12345 from rfl, lN_mul, lN_add]
theorem drC {s : Nat} (hs : s < 2 ^ 31) : ((((nI s).toInt64 * 1103515245) + 12345) &&& 2147483647).toInt32 = nI (dr s) := by
  rw [dr_l hs, l_and _ (by omega), lN_i]
  rfl
theorem drM {s : Nat} (hs : s < 2 ^ 31) : ((((nI s).toInt64 * 1103515245) + 12345) - (((nI s).toInt64 * 1103515245) + 12345) / 2147483648 * 2147483648).toInt32 = nI (dr s) := by
  rw [dr_l hs, show (2147483648 : Int64) = lN 2147483648 from rfl, pk_lRem (by omega) (by omega) (by omega), lN_i]
  rfl
theorem draw_c {F s m : Nat} (hm : 0 < m) (hm' : m < 2 ^ 31) (hs : s < 2 ^ 31) {Ic : mm_I} {Jc : mm_J} (e : Ic F 12 = nI s) : f1_draw SZ F (nI m) Ic Jc = some (nI (dr s / 65536 % m), mm_up Ic F 12 (nI (dr s)), Jc) := by
  unfold f1_draw f1_draw_39
  have h1 := dr_lt s
  rw [e, drC hs, if_neg (nI_nle hm hm'), if_neg (nI_ne0 hm hm'), up_s2, show (65536 : Int32) = nI 65536 from rfl, pk_div (by omega) (by omega) (by omega), pk_rem (by omega) (by omega) (by omega)]
theorem draw_m {s m : Nat} (hm : 0 < m) (hm' : m < 2 ^ 31) (hs : s < 2 ^ 31) {Im : mm_I} {Jm : mm_J} (e : Im 167 24 = nI s) : f11_draw SZ 167 (nI m) Im Jm = some (nI (dr s / 65536 % m), mm_up Im 167 24 (nI (dr s)), Jm) := by
  unfold f11_draw
  have h1 := dr_lt s
  rw [e, drM hs, if_neg (nI_ne0 hm hm'), up_s2, show (65536 : Int32) = nI 65536 from rfl, pk_div (by omega) (by omega) (by omega), pk_rem (by omega) (by omega) (by omega)]
theorem draws {s m : Nat} (hs : s < 2 ^ 31) (hm : 0 < m) (hm' : m < 2 ^ 31) : ∃ g v, g < 2 ^ 31 ∧ v < m ∧ (∀ (F : Nat) (Ic : mm_I) (Jc : mm_J), Ic F 12 = nI s → f1_draw SZ F (nI m) Ic Jc = some (nI v, mm_up Ic F 12 (nI g), Jc)) ∧ ∀ (Im : mm_I) (Jm : mm_J), Im 167 24 = nI s → f11_draw SZ 167 (nI m) Im Jm = some (nI v, mm_up Im 167 24 (nI g), Jm) :=
  ⟨dr s, dr s / 65536 % m, dr_lt s, Nat.mod_lt _ hm, fun _ _ _ e => draw_c hm hm' hs e, fun _ _ e => draw_m hm hm' hs e⟩
theorem liv2 {n P : Nat} {Lv : Nat → Bool} (hn : 9 ≤ n) (hP : P ≤ 8) {I : mm_I} {J : mm_J} (h2 : I 167 2 = nI P) (h3 : ∀ p, p < 8 → I 173 p = b01 (Lv p)) (h4 : ∀ p, P ≤ p → Lv p = false) : f11_livesSet SZ n 167 I J = some (bsI Lv 8) := by
  rw [liv_eq hn hP h2, bsI_wid hP]
  refine congrArg some (bsI_congr fun p hp => ?_)
  rw [h3 p hp, b01_n, Bool.not_not]
  by_cases e : p < P
  · simp [e]
  · rw [h4 p (by omega)]; simp [e]
theorem ct8_del : ∀ (a b c d e f g h : Bool) (k : Fin 8), p8 a b c d e f g h k.1 = true → ct8 (a && !(k.1 == 0)) (b && !(k.1 == 1)) (c && !(k.1 == 2)) (d && !(k.1 == 3)) (e && !(k.1 == 4)) (f && !(k.1 == 5)) (g && !(k.1 == 6)) (h && !(k.1 == 7)) + 1 = ct8 a b c d e f g h := by decide +kernel
theorem cnt_del {P : Nat → Bool} {k : Nat} (hk : k < 8) (h : P k = true) : cnt (fun j => P j && !(k == j)) 8 + 1 = cnt P 8 := by
  rw [cnt_8, cnt_8]
  exact ct8_del _ _ _ _ _ _ _ _ ⟨k, hk⟩ (by rw [bs_m P k hk]; exact h)
/-! night -/
theorem night_c {p t k c v g x z s : Nat} {I : mm_I} {J : mm_J} {Lv W : Nat → Bool} (hp : p < 8) (ht : t < 6) (hk : k = 6 * p + t) (cx : I 33 k = nI x) (ec : (if nI x + 5 < (100 : Int32) then nI x + 5 else 100) = nI z) (w1 : I 29 10 = bsI W 8) (l1 : I 29 8 = bsI Lv 8) (hcn : cnt (fun j => Lv j && !(p == j)) 8 = c) (hc : c < 8) (hv : v < 100) (s1 : I 29 12 = nI s) (dC : ∀ (Ic : mm_I) (Jc : mm_J), Ic 29 12 = nI s → f1_draw SZ 29 (nI 100) Ic Jc = some (nI v, mm_up Ic 29 12 (nI g), Jc)) : f2_workByNight SZ 147 (nI p) (nI t) I J = if 10 * c ≤ v then f2_workByNight_78 SZ 147 (nI p) (nI t) 0 (mm_up (mm_up (mm_up I 33 k (nI z)) 29 10 (bsI (fun j => W j || p == j) 8)) 29 12 (nI g)) J else f2_workByNight_78 SZ 147 (nI p) (nI t) 1 (mm_up (mm_up (mm_up I 33 k (nI z)) 29 10 (bsI (fun j => W j || p == j) 8)) 29 12 (nI g)) J := by
  subst hk
  have sO : f1_skillOf SZ 29 (nI p) (nI t) I J = some (nI x) := by
    unfold f1_skillOf
    simp only [zr]
    simp (disch := omega) only [↓M1, ↓ofNat_nI, L0, L1, L2, L3, L4, L5, L6, L7, L8, L9, L10, L12, L31, L32, L40, L48, L50, L99, L100, L120, L180, L256, L500, n_lt0, n_ge0, n_let, n_lef, n_ltt, n_ltf, n_eqt, n_eqf, m_lt, m_le, m_eq, m_eq2, m_le2, m_lt2, m_nle, m_nlt, if_true, if_false, eq_self, Option.bind_some, mb0, mb1, mbb, mbn0, mbn1, not_true, not_false_eq_true, reduceIte, Bool.false_eq_true, nI_add, nI_clamp, pk_mul, in_t, in_f, in_m, zr, za, at_SZ, put_SZ, rd_at, wr_at, rd_m, wr_m, up_s2, up_o2, f10_cell_eq, cx]
  have sS : f1_setSkill SZ 29 (nI p) (nI t) (nI z) I J = some (mm_up I 33 (6 * p + t) (nI z), J) := by
    unfold f1_setSkill
    simp only [zr]
    simp (disch := omega) only [↓M1, ↓ofNat_nI, L0, L1, L2, L3, L4, L5, L6, L7, L8, L9, L10, L12, L31, L32, L40, L48, L50, L99, L100, L120, L180, L256, L500, n_lt0, n_ge0, n_let, n_lef, n_ltt, n_ltf, n_eqt, n_eqf, m_lt, m_le, m_eq, m_eq2, m_le2, m_lt2, m_nle, m_nlt, if_true, if_false, eq_self, Option.bind_some, mb0, mb1, mbb, mbn0, mbn1, not_true, not_false_eq_true, reduceIte, Bool.false_eq_true, nI_add, nI_clamp, pk_mul, in_t, in_f, in_m, zr, za, at_SZ, put_SZ, rd_at, wr_at, rd_m, wr_m, up_s2, up_o2, f10_cell_eq]
  unfold f2_workByNight
  rw [show mm_rf SZ 147 2 = 29 from (zL isL1).2.2, sO, Option.bind_some, ec, sS, Option.bind_some]
  dsimp only
  simp (disch := omega) only [↓M1, ↓ofNat_nI, L0, L1, L2, L3, L4, L5, L6, L7, L8, L9, L10, L12, L31, L32, L40, L48, L50, L99, L100, L120, L180, L256, L500, n_lt0, n_ge0, n_let, n_lef, n_ltt, n_ltf, n_eqt, n_eqf, m_lt, m_le, m_eq, m_eq2, m_le2, m_lt2, m_nle, m_nlt, if_true, if_false, eq_self, Option.bind_some, mb0, mb1, mbb, mbn0, mbn1, not_true, not_false_eq_true, reduceIte, Bool.false_eq_true, nI_add, nI_clamp, pk_mul, in_t, in_f, in_m, zr, za, at_SZ, put_SZ, rd_at, wr_at, rd_m, wr_m, up_s2, up_o2, w1, l1]
  rw [bsI_one hp, bsI_del hp, cnt_eq, hcn, Option.bind_some, dC _ _ (by rw [up_o2 (by omega), up_o2 (by omega)]; exact s1), Option.bind_some]
  dsimp only
  simp (disch := omega) only [↓M1, ↓ofNat_nI, L0, L1, L2, L3, L4, L5, L6, L7, L8, L9, L10, L12, L31, L32, L40, L48, L50, L99, L100, L120, L180, L256, L500, n_lt0, n_ge0, n_let, n_lef, n_ltt, n_ltf, n_eqt, n_eqf, m_lt, m_le, m_eq, m_eq2, m_le2, m_lt2, m_nle, m_nlt, if_true, if_false, eq_self, Option.bind_some, mb0, mb1, mbb, mbn0, mbn1, not_true, not_false_eq_true, reduceIte, Bool.false_eq_true, nI_add, nI_clamp, pk_mul, in_t, in_f, in_m, zr, za, at_SZ, put_SZ, rd_at, wr_at, rd_m, wr_m, up_s2, up_o2]
  rw [ite_le (by omega) (by omega)]
theorem night_m {p t k c v g z s P : Nat} {Im : mm_I} {J : mm_J} {Lv : Nat → Bool} (hP : P ≤ 8) (hp : p < 8) (hk : k < 48) (h2 : Im 167 2 = nI P) (l2 : ∀ p, p < 8 → Im 173 p = b01 (Lv p)) (l3 : ∀ p, P ≤ p → Lv p = false) (hcd : cnt Lv 8 = c + 1) (hc : c < 8) (hv : v < 100) (s2 : Im 167 24 = nI s) (dM : ∀ (Im : mm_I) (Jm : mm_J), Im 167 24 = nI s → f11_draw SZ 167 (nI 100) Im Jm = some (nI v, mm_up Im 167 24 (nI g), Jm)) : f11_night_86 SZ 1000 167 (nI p) (nI t) 174 (nI k) (nI z) Im J = if 10 * c ≤ v then f11_night_120 SZ 1000 167 (nI p) (nI t) 0 (mm_up (mm_up (mm_up Im 174 k (nI z)) 182 p (nI 1)) 167 24 (nI g)) J else f11_night_120 SZ 1000 167 (nI p) (nI t) 1 (mm_up (mm_up (mm_up Im 174 k (nI z)) 182 p (nI 1)) 167 24 (nI g)) J := by
  have hb : ∀ (I : mm_I) (J : mm_J), f11_bits SZ 1000 (bsI Lv 8) I J = some (nI (c + 1)) := fun I J => by rw [mbits_eq (by omega), hcd]
  have hs : nI (c + 1) - nI 1 = nI c := pk_sub (b := 1) (by omega)
  have h4 : ∀ I : mm_I, I 167 2 = nI P → (∀ p, p < 8 → I 173 p = b01 (Lv p)) → f11_livesSet SZ 1000 167 I J = some (bsI Lv 8) := fun I g1 g2 => liv2 (by omega) hP g1 g2 l3
  unfold f11_night_86
  simp (disch := omega) only [↓M1, ↓ofNat_nI, L0, L1, L2, L3, L4, L5, L6, L7, L8, L9, L10, L12, L31, L32, L40, L48, L50, L99, L100, L120, L180, L256, L500, n_lt0, n_ge0, n_let, n_lef, n_ltt, n_ltf, n_eqt, n_eqf, m_lt, m_le, m_eq, m_eq2, m_le2, m_lt2, m_nle, m_nlt, if_true, if_false, eq_self, Option.bind_some, mb0, mb1, mbb, mbn0, mbn1, not_true, not_false_eq_true, reduceIte, Bool.false_eq_true, nI_add, nI_clamp, pk_mul, in_t, in_f, in_m, zr, za, at_SZ, put_SZ, rd_at, wr_at, rd_m, wr_m, up_s2, up_o2]
  rw [dM _ _ (by rw [up_o2 (by omega), up_o2 (by omega)]; exact s2), Option.bind_some]
  dsimp only
  rw [h4 _ (by rw [up_o2 (by omega), up_o2 (by omega), up_o2 (by omega)]; exact h2) (fun q hq => by rw [up_o2 (by omega), up_o2 (by omega), up_o2 (by omega)]; exact l2 q hq), Option.bind_some]
  simp (disch := omega) only [↓M1, ↓ofNat_nI, L0, L1, L2, L3, L4, L5, L6, L7, L8, L9, L10, L12, L31, L32, L40, L48, L50, L99, L100, L120, L180, L256, L500, n_lt0, n_ge0, n_let, n_lef, n_ltt, n_ltf, n_eqt, n_eqf, m_lt, m_le, m_eq, m_eq2, m_le2, m_lt2, m_nle, m_nlt, if_true, if_false, eq_self, Option.bind_some, mb0, mb1, mbb, mbn0, mbn1, not_true, not_false_eq_true, reduceIte, Bool.false_eq_true, nI_add, nI_clamp, pk_mul, in_t, in_f, in_m, zr, za, at_SZ, put_SZ, rd_at, wr_at, rd_m, wr_m, up_s2, up_o2, hb, hs]
  rw [ite_le (by omega) (by omega)]
theorem night_lock {T P k p t : Nat} {I Im : mm_I} {J : mm_J} (hB : rAll T P (100 * k) I Im) (hp : p < P) (ht : t < T) : ∃ r Ic' Im', f10_night SZ 0 (nI p) (nI t) I J = some (r, Ic', J) ∧ f11_night SZ 1000 167 (nI p) (nI t) Im J = some (r, Im', J) ∧ fF 29 I Ic' ∧ fV Im Im' ∧ rF T P (100 * (k + 1)) 29 Ic' (vCur Im') ∧ rS Ic' Im' := by
  have a1 := hB.1
  have a5 : rF T P (100 * (k + 1)) 29 I (vCur Im) := hB.2.2.2.2.1.mono (by omega)
  obtain ⟨s, hs, s1, s2⟩ := hB.2.2.2.2.2.1
  have hT := a1.1
  have hP := a1.2.1
  obtain ⟨c1, x, hx, cx⟩ := a5.1 (6 * p + t) (by omega)
  have c1 : I 33 (6 * p + t) = Im 174 (6 * p + t) := c1
  have cx : Im 174 (6 * p + t) = nI x := cx
  obtain ⟨Lv, l1, l2, l3, l4⟩ := a5.2.2.2.2.2.2.1
  have l2 : ∀ p, p < 8 → Im 173 p = b01 (Lv p) := l2
  obtain ⟨W, w1, w2, w3⟩ := a5.ni
  have w2p : Im 182 p = b01 (W p) := w2 p (by omega)
  have l2p : Im 173 p = b01 (Lv p) := l2 p (by omega)
  unfold f10_night f11_night f11_night_16 f11_night_47 f10_night_38 f10_night_58
  simp only [zr]
  rw [cKp_in a1 hp ht, Option.bind_some, if_neg n10, cKn (Or.inl rfl) (by omega) (by omega), Option.bind_some, mPe_in a1 hp, Option.bind_some, if_neg n10, mTr_in a1 ht, Option.bind_some, if_neg n10, show I (29 + 4) (6 * p + t) = nI x from c1.trans cx]
  have no : ∃ r Ic' Im', some ((-1000000003 : Int32), I, J) = some (r, Ic', J) ∧ some ((-1000000003 : Int32), Im, J) = some (r, Im', J) ∧ fF 29 I Ic' ∧ fV Im Im' ∧ rF T P (100 * (k + 1)) 29 Ic' (vCur Im') ∧ rS Ic' Im' := ⟨_, I, Im, rfl, rfl, fF.refl, fV.refl, a5, s, hs, s1, s2⟩
  by_cases hx0 : x = 0
  · subst hx0
    rw [show decide (nI 0 < nI 0) = false by decide, if_pos (show b01 false = 0 by decide)]
    simp (disch := omega) only [↓M1, ↓ofNat_nI, L0, L1, L2, L3, L4, L5, L6, L7, L8, L9, L10, L12, L31, L32, L40, L48, L50, L99, L100, L120, L180, L256, L500, n_lt0, n_ge0, n_let, n_lef, n_ltt, n_ltf, n_eqt, n_eqf, m_lt, m_le, m_eq, m_eq2, m_le2, m_lt2, m_nle, m_nlt, if_true, if_false, eq_self, Option.bind_some, mb0, mb1, mbb, mbn0, mbn1, not_true, not_false_eq_true, reduceIte, Bool.false_eq_true, nI_add, nI_clamp, pk_mul, in_t, in_f, in_m, zr, za, at_SZ, put_SZ, rd_at, wr_at, rd_m, wr_m, up_s2, up_o2]
    rw [l2p]
    cases hl : Lv p
    · rw [if_pos (show b01 false = nI 0 by decide)]
      exact no
    · rw [if_neg (show ¬ b01 true = nI 0 by decide), mKn (by omega) (by omega), cx, Option.bind_some, show decide (nI 0 < nI 0) = false by decide, if_pos (show b01 false = nI 0 by decide)]
      exact no
  · have hl : Lv p = true := by
      cases hl : Lv p
      · have := (l4 p hp hl).1 t (by omega)
        have this : Im 174 (6 * p + t) = nI 0 := this
        rw [cx] at this
        exact absurd ((nI_eq (by omega) (by omega)).mp this) hx0
      · rfl
    have hd : decide (nI 0 < nI x) = true := decide_eq_true (nI_lt (by omega) (by omega))
    rw [hd, if_neg (show ¬ b01 true = 0 by decide), w1, has_eq (P := W) (k := p) (by omega), Option.bind_some]
    simp (disch := omega) only [↓M1, ↓ofNat_nI, L0, L1, L2, L3, L4, L5, L6, L7, L8, L9, L10, L12, L31, L32, L40, L48, L50, L99, L100, L120, L180, L256, L500, n_lt0, n_ge0, n_let, n_lef, n_ltt, n_ltf, n_eqt, n_eqf, m_lt, m_le, m_eq, m_eq2, m_le2, m_lt2, m_nle, m_nlt, if_true, if_false, eq_self, Option.bind_some, mb0, mb1, mbb, mbn0, mbn1, not_true, not_false_eq_true, reduceIte, Bool.false_eq_true, nI_add, nI_clamp, pk_mul, in_t, in_f, in_m, zr, za, at_SZ, put_SZ, rd_at, wr_at, rd_m, wr_m, up_s2, up_o2, l2p, hl]
    rw [if_neg (show ¬ b01 true = nI 0 by decide), mKn (by omega) (by omega), cx, Option.bind_some, hd, if_neg (show ¬ b01 true = nI 0 by decide)]
    cases hW : W p
    · simp (disch := omega) only [↓M1, ↓ofNat_nI, L0, L1, L2, L3, L4, L5, L6, L7, L8, L9, L10, L12, L31, L32, L40, L48, L50, L99, L100, L120, L180, L256, L500, n_lt0, n_ge0, n_let, n_lef, n_ltt, n_ltf, n_eqt, n_eqf, m_lt, m_le, m_eq, m_eq2, m_le2, m_lt2, m_nle, m_nlt, if_true, if_false, eq_self, Option.bind_some, mb0, mb1, mbb, mbn0, mbn1, not_true, not_false_eq_true, reduceIte, Bool.false_eq_true, nI_add, nI_clamp, pk_mul, in_t, in_f, in_m, zr, za, at_SZ, put_SZ, rd_at, wr_at, rd_m, wr_m, up_s2, up_o2, w2p, hW, bF0, bT0]
      obtain ⟨z, z1, z2, z3⟩ : ∃ z, 0 < z ∧ z ≤ 100 ∧ ((x + 5 ≤ 100 ∧ z = x + 5) ∨ (100 ≤ x + 5 ∧ z = 100)) := by
        rcases Nat.lt_or_ge 100 (x + 5) with q | q
        · exact ⟨100, by omega, by omega, Or.inr ⟨by omega, rfl⟩⟩
        · exact ⟨x + 5, by omega, by omega, Or.inl ⟨by omega, rfl⟩⟩
      have em : (if nI (x + 5) ≤ nI 100 then f11_night_86 SZ 1000 167 (nI p) (nI t) 174 (nI (6 * p + t)) (nI (x + 5)) Im J else f11_night_86 SZ 1000 167 (nI p) (nI t) 174 (nI (6 * p + t)) (nI 100) Im J) = f11_night_86 SZ 1000 167 (nI p) (nI t) 174 (nI (6 * p + t)) (nI z) Im J := by
        rw [ite_le (by omega) (by omega)]
        rcases z3 with ⟨q, rfl⟩ | ⟨q, rfl⟩
        · rw [if_pos q]
        · split
          · rw [show x + 5 = 100 by omega]
          · rfl
      have ec : (if nI x + 5 < (100 : Int32) then nI x + 5 else 100) = nI z := by
        have e5 : nI x + 5 = nI (x + 5) := nI_add x 5
        have hlt : nI x + 5 < (100 : Int32) ↔ x + 5 < 100 := by
          rw [e5]
          exact nI_ltI (a := x + 5) (b := 100) (by omega) (by omega)
        split
        · next q =>
          have := hlt.mp q
          rw [e5]
          exact congrArg nI (by omega)
        · next q =>
          have : ¬ x + 5 < 100 := fun w => q (hlt.mpr w)
          exact congrArg nI (show 100 = z by omega)
      rw [em]
      have hcd := cnt_del (P := Lv) (k := p) (by omega) hl
      have hc8 := cnt_le Lv 8
      generalize hcn : cnt (fun j => Lv j && !(p == j)) 8 = c at hcd
      obtain ⟨g, v, hdl, hv, dC, dM⟩ := draws (m := 100) hs (by omega) (by omega)
      have cC := night_c (k := 6 * p + t) (Lv := Lv) (W := W) (I := I) (J := J) (z := z) (c := c) (v := v) (g := g) (by omega) (by omega) rfl (c1.trans cx) ec w1 l1 hcn (by omega) (by omega) s1 (dC 29)
      have cM := night_m (p := p) (t := t) (k := 6 * p + t) (Lv := Lv) (Im := Im) (J := J) (z := z) (c := c) (v := v) (g := g) hP (by omega) (by omega) a1.2.2.2.2.2 l2 l3 hcd.symm (by omega) (by omega) s2 dM
      rw [cC, cM]
      have r1 : rF T P (100 * (k + 1)) 29 (mm_up I 33 (6 * p + t) (nI z)) (vCur (mm_up Im 174 (6 * p + t) (nI z))) := (a5.sk hp ht z2 (by rw [show (vCur Im).1 3 p = Im 173 p from rfl, l2p, hl]) (fun e => absurd e (by omega)) hP hT).e (vCur_up (j := 0) (by omega))
      have r2 : rF T P (100 * (k + 1)) 29 (mm_up (mm_up I 33 (6 * p + t) (nI z)) 29 10 (bsI (fun j => W j || p == j) 8)) (vCur (mm_up (mm_up Im 174 (6 * p + t) (nI z)) 182 p (nI 1))) := by
        refine (r1.ng (v' := vS (vCur (mm_up Im 174 (6 * p + t) (nI z))) 10 p (nI 1)) (fun a b hab => vS_o (by omega)) rfl ⟨fun q hq => ?_, fun q hq => ?_⟩).e (vCur_up (j := 10) (by omega))
        · by_cases e : q = p
          · subst e
            rw [vS_s, beq_self_eq_true, Bool.or_true]
            rfl
          · rw [vS_o (by omega), show (p == q) = false from beq_eq_false_iff_ne.mpr (Ne.symm e), Bool.or_false]
            show mm_up Im 174 (6 * p + t) (nI z) 182 q = _
            rw [up_o2 (by omega)]
            exact w2 q hq
        · show (W q || p == q) = false
          rw [w3 q hq, show (p == q) = false from beq_eq_false_iff_ne.mpr (by omega)]
          rfl
      have r3 : rF T P (100 * (k + 1)) 29 (mm_up (mm_up (mm_up I 33 (6 * p + t) (nI z)) 29 10 (bsI (fun j => W j || p == j) 8)) 29 12 (nI g)) (vCur (mm_up (mm_up (mm_up Im 174 (6 * p + t) (nI z)) 182 p (nI 1)) 167 24 (nI g))) := by
        rw [vCur_c (Im := mm_up (mm_up Im 174 (6 * p + t) (nI z)) 182 p (nI 1)) (fun r h1 h2 => mm_up_o (by omega)) (up_o2 (by omega))]
        exact r2.seed
      have q1 : fF 29 I (mm_up (mm_up (mm_up I 33 (6 * p + t) (nI z)) 29 10 (bsI (fun j => W j || p == j) 8)) 29 12 (nI g)) := (fF.up (by omega)).trans ((fF.up (by omega)).trans (fF.up (by omega)))
      have q2 : fV Im (mm_up (mm_up (mm_up Im 174 (6 * p + t) (nI z)) 182 p (nI 1)) 167 24 (nI g)) := (fV.up (by omega)).trans ((fV.up (by omega)).trans (fV.up7 (by omega)))
      have eg : I 43 p = Im 179 p := (a5.fo hp).1
      have ms : mm_up (mm_up (mm_up (mm_up Im 174 (6 * p + t) (nI z)) 182 p (nI 1)) 167 24 (nI g)) 179 p (Im 179 p) = mm_up (mm_up (mm_up Im 174 (6 * p + t) (nI z)) 182 p (nI 1)) 167 24 (nI g) := by
        have := mm_up_self (I := mm_up (mm_up (mm_up Im 174 (6 * p + t) (nI z)) 182 p (nI 1)) 167 24 (nI g)) (r := 179) (k := p)
        rw [up_o2 (a := 179) (by omega), up_o2 (a := 179) (by omega), up_o2 (a := 179) (by omega)] at this
        exact this
      by_cases cc : 10 * c ≤ v
      · rw [if_pos cc, if_pos cc]
        refine ⟨nI 0, _, _, ?_, ?_, q1, q2, r3, g, hdl, up_s2, up_s2⟩
        · unfold f2_workByNight_78 f2_workByNight_112
          simp (disch := omega) only [↓M1, ↓ofNat_nI, L0, L1, L2, L3, L4, L5, L6, L7, L8, L9, L10, L12, L31, L32, L40, L48, L50, L99, L100, L120, L180, L256, L500, n_lt0, n_ge0, n_let, n_lef, n_ltt, n_ltf, n_eqt, n_eqf, m_lt, m_le, m_eq, m_eq2, m_le2, m_lt2, m_nle, m_nlt, if_true, if_false, eq_self, Option.bind_some, mb0, mb1, mbb, mbn0, mbn1, not_true, not_false_eq_true, reduceIte, Bool.false_eq_true, nI_add, nI_clamp, pk_mul, in_t, in_f, in_m, zr, za, at_SZ, put_SZ, rd_at, wr_at, rd_m, wr_m, up_s2, up_o2]
        · unfold f11_night_120 f11_night_145 f11_night_151 f11_night_162
          simp (disch := omega) only [↓M1, ↓ofNat_nI, L0, L1, L2, L3, L4, L5, L6, L7, L8, L9, L10, L12, L31, L32, L40, L48, L50, L99, L100, L120, L180, L256, L500, n_lt0, n_ge0, n_let, n_lef, n_ltt, n_ltf, n_eqt, n_eqf, m_lt, m_le, m_eq, m_eq2, m_le2, m_lt2, m_nle, m_nlt, if_true, if_false, eq_self, Option.bind_some, mb0, mb1, mbb, mbn0, mbn1, not_true, not_false_eq_true, reduceIte, Bool.false_eq_true, nI_add, nI_clamp, pk_mul, in_t, in_f, in_m, zr, za, at_SZ, put_SZ, rd_at, wr_at, rd_m, wr_m, up_s2, up_o2]
          rw [ms]
      · rw [if_neg cc, if_neg cc]
        by_cases cg : Im 179 p = m1
        · refine ⟨nI 1, mm_up (mm_up (mm_up (mm_up I 33 (6 * p + t) (nI z)) 29 10 (bsI (fun j => W j || p == j) 8)) 29 12 (nI g)) 43 p (nI t), mm_up (mm_up (mm_up (mm_up Im 174 (6 * p + t) (nI z)) 182 p (nI 1)) 167 24 (nI g)) 179 p (nI t), ?_, ?_, q1.trans (fF.up (by omega)), q2.trans (fV.up (by omega)), ?_, g, hdl, ?_, ?_⟩
          · unfold f2_workByNight_78 f2_workByNight_112
            simp only [zr]
            simp (disch := omega) only [↓M1, ↓ofNat_nI, L0, L1, L2, L3, L4, L5, L6, L7, L8, L9, L10, L12, L31, L32, L40, L48, L50, L99, L100, L120, L180, L256, L500, n_lt0, n_ge0, n_let, n_lef, n_ltt, n_ltf, n_eqt, n_eqf, m_lt, m_le, m_eq, m_eq2, m_le2, m_lt2, m_nle, m_nlt, if_true, if_false, eq_self, Option.bind_some, mb0, mb1, mbb, mbn0, mbn1, not_true, not_false_eq_true, reduceIte, Bool.false_eq_true, nI_add, nI_clamp, pk_mul, in_t, in_f, in_m, zr, za, at_SZ, put_SZ, rd_at, wr_at, rd_m, wr_m, up_s2, up_o2, eg, cg]
          · unfold f11_night_120 f11_night_145 f11_night_151 f11_night_162
            simp (disch := omega) only [↓M1, ↓ofNat_nI, L0, L1, L2, L3, L4, L5, L6, L7, L8, L9, L10, L12, L31, L32, L40, L48, L50, L99, L100, L120, L180, L256, L500, n_lt0, n_ge0, n_let, n_lef, n_ltt, n_ltf, n_eqt, n_eqf, m_lt, m_le, m_eq, m_eq2, m_le2, m_lt2, m_nle, m_nlt, if_true, if_false, eq_self, Option.bind_some, mb0, mb1, mbb, mbn0, mbn1, not_true, not_false_eq_true, reduceIte, Bool.false_eq_true, nI_add, nI_clamp, pk_mul, in_t, in_f, in_m, zr, za, at_SZ, put_SZ, rd_at, wr_at, rd_m, wr_m, up_s2, up_o2, cg]
          · refine (r3.frg (x := nI t) hp (Or.inr ⟨t, ht, rfl⟩) (Or.inr ?_) hP).e (vCur_up (j := 7) (by omega))
            show mm_up (mm_up (mm_up Im 174 (6 * p + t) (nI z)) 182 p (nI 1)) 167 24 (nI g) 173 p = b01 true
            rw [up_o2 (by omega), up_o2 (by omega), up_o2 (by omega), l2p, hl]
          · rw [up_o2 (by omega), up_s2]
          · rw [up_o2 (by omega), up_s2]
        · rcases (a5.fo hp).2 with e | ⟨q, hq, e⟩
          · exact absurd e cg
          · refine ⟨nI 1, _, _, ?_, ?_, q1, q2, r3, g, hdl, up_s2, up_s2⟩
            · unfold f2_workByNight_78 f2_workByNight_112
              simp only [zr]
              simp (disch := omega) only [↓M1, ↓ofNat_nI, L0, L1, L2, L3, L4, L5, L6, L7, L8, L9, L10, L12, L31, L32, L40, L48, L50, L99, L100, L120, L180, L256, L500, n_lt0, n_ge0, n_let, n_lef, n_ltt, n_ltf, n_eqt, n_eqf, m_lt, m_le, m_eq, m_eq2, m_le2, m_lt2, m_nle, m_nlt, if_true, if_false, eq_self, Option.bind_some, mb0, mb1, mbb, mbn0, mbn1, not_true, not_false_eq_true, reduceIte, Bool.false_eq_true, nI_add, nI_clamp, pk_mul, in_t, in_f, in_m, zr, za, at_SZ, put_SZ, rd_at, wr_at, rd_m, wr_m, up_s2, up_o2, eg, e]
            · rw [e] at ms
              unfold f11_night_120 f11_night_145 f11_night_151 f11_night_162
              simp (disch := omega) only [↓M1, ↓ofNat_nI, L0, L1, L2, L3, L4, L5, L6, L7, L8, L9, L10, L12, L31, L32, L40, L48, L50, L99, L100, L120, L180, L256, L500, n_lt0, n_ge0, n_let, n_lef, n_ltt, n_ltf, n_eqt, n_eqf, m_lt, m_le, m_eq, m_eq2, m_le2, m_lt2, m_nle, m_nlt, if_true, if_false, eq_self, Option.bind_some, mb0, mb1, mbb, mbn0, mbn1, not_true, not_false_eq_true, reduceIte, Bool.false_eq_true, nI_add, nI_clamp, pk_mul, in_t, in_f, in_m, zr, za, at_SZ, put_SZ, rd_at, wr_at, rd_m, wr_m, up_s2, up_o2, e]
              rw [ms]
    · simp (disch := omega) only [↓M1, ↓ofNat_nI, L0, L1, L2, L3, L4, L5, L6, L7, L8, L9, L10, L12, L31, L32, L40, L48, L50, L99, L100, L120, L180, L256, L500, n_lt0, n_ge0, n_let, n_lef, n_ltt, n_ltf, n_eqt, n_eqf, m_lt, m_le, m_eq, m_eq2, m_le2, m_lt2, m_nle, m_nlt, if_true, if_false, eq_self, Option.bind_some, mb0, mb1, mbb, mbn0, mbn1, not_true, not_false_eq_true, reduceIte, Bool.false_eq_true, nI_add, nI_clamp, pk_mul, in_t, in_f, in_m, zr, za, at_SZ, put_SZ, rd_at, wr_at, rd_m, wr_m, up_s2, up_o2, w2p, hW, bF0, bT0]
      exact no
theorem st_night : St_night Inv := by
  intro k hk p t I J h
  have h0 := h
  obtain ⟨T, P, hA⟩ := h
  refine ⟨1000, ?_⟩
  show ∃ o1 o2, f10_night SZ 0 p t I J = some o1 ∧ (fun I J => f11_night SZ 1000 167 p t I J) o1.2.1 o1.2.2 = some o2 ∧ o1.1 = o2.1 ∧ Inv (k + 1) o2.2.1 o2.2.2
  have unk : f10_night SZ 0 p t I J = some (-1000000001, I, J) → f11_night SZ 1000 167 p t I J = some (-1000000001, I, J) → ∃ o1 o2, f10_night SZ 0 p t I J = some o1 ∧ (fun I J => f11_night SZ 1000 167 p t I J) o1.2.1 o1.2.2 = some o2 ∧ o1.1 = o2.1 ∧ Inv (k + 1) o2.2.1 o2.2.2 := fun h1 h2 => ⟨_, _, h1, h2, rfl, Inv_mono k I J h0⟩
  have a1 := hA.1
  have hT := a1.1
  have hP := a1.2.1
  rcases in_cases P (by omega) p with hp | ⟨p', hp', rfl⟩
  · refine unk ?_ ?_
    · unfold f10_night
      rw [cKp_outP a1 hp]
      rfl
    · unfold f11_night
      rw [mPe_out a1 hp]
      rfl
  rcases in_cases T (by omega) t with ht | ⟨t', ht', rfl⟩
  · refine unk ?_ ?_
    · unfold f10_night
      rw [cKp_outT a1 hp' ht]
      rfl
    · unfold f11_night
      rw [mPe_in a1 hp', Option.bind_some, if_neg n10, mTr_out a1 ht]
      rfl
  exact two (J := J) (fm := fun I J => f11_night SZ 1000 167 (nI p') (nI t') I J) hA (fun Im hB => night_lock hB hp' ht')
