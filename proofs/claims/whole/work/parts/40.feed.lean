/-! ===== part 40: feed (written by wip/whole/pre.py) ===== -/
theorem byte_bv (x : BitVec 64) (s : Nat) (hs : s ≤ 56) : (x >>> s) &&& 255#64 = (x.sshiftRight s) &&& 255#64 := by
  apply BitVec.eq_of_getLsbD_eq
  intro i hi
  rw [BitVec.getLsbD_and, BitVec.getLsbD_and, BitVec.getLsbD_ushiftRight, BitVec.getLsbD_sshiftRight]
  by_cases h : i < 8
  · have h2 : s + i < 64 := by omega
    have h3 : ¬ 64 ≤ i := by omega
    simp [h2, h3]
  · have : (255#64).getLsbD i = false := by
      have hh : i = 8 ∨ i = 9 ∨ i = 10 ∨ i = 11 ∨ i = 12 ∨ i = 13 ∨ i = 14 ∨ i = 15 ∨ 16 ≤ i := by omega
      rw [BitVec.getLsbD_ofNat]
      have : Nat.testBit 255 i = false := Nat.testBit_lt_two_pow (Nat.lt_of_lt_of_le (by decide : 255 < 2 ^ 8) (Nat.pow_le_pow_right (by decide) (by omega)))
      rw [this]
      simp
    rw [this]
    simp
theorem byte_u (b : Int64) : ∀ j : Fin 8, ((b.toUInt64 >>> ((nI (8 * j.1)).toInt64.toUInt64 &&& Int64.toUInt64 63)).toInt64).toBitVec = b.toBitVec >>> (8 * j.1) := by
  intro j
  have h : (((nI (8 * j.1)).toInt64.toUInt64 &&& Int64.toUInt64 63).toBitVec % 64).toNat = 8 * j.1 := (by decide +kernel : ∀ j : Fin 8, (((nI (8 * j.1)).toInt64.toUInt64 &&& Int64.toUInt64 63).toBitVec % 64).toNat = 8 * j.1) j
  show b.toBitVec >>> (((nI (8 * j.1)).toInt64.toUInt64 &&& Int64.toUInt64 63).toBitVec % 64) = _
  rw [BitVec.ushiftRight_eq', h]
theorem byte_s (b : Int64) : ∀ j : Fin 8, (b >>> ((nI (8 * j.1)).toInt64 &&& 63)).toBitVec = b.toBitVec.sshiftRight (8 * j.1) := by
  intro j
  have h : (((nI (8 * j.1)).toInt64 &&& 63).toBitVec.smod 64).toNat = 8 * j.1 := (by decide +kernel : ∀ j : Fin 8, (((nI (8 * j.1)).toInt64 &&& 63).toBitVec.smod 64).toNat = 8 * j.1) j
  show b.toBitVec.sshiftRight' (((nI (8 * j.1)).toInt64 &&& 63).toBitVec.smod 64) = _
  rw [BitVec.sshiftRight', h]
theorem byte_lo (y : Int64) : ∃ c, c < 256 ∧ (y &&& 255).toInt32 = nI c := by
  have h : (y &&& 255) = lN (y.toBitVec.toNat % 256) := by
    apply Int64.toBitVec_inj.mp
    apply BitVec.eq_of_toNat_eq
    show (y.toBitVec &&& 255#64).toNat = ((y.toBitVec.toNat % 256) : Nat) % 2 ^ 64
    rw [BitVec.toNat_and]
    show y.toBitVec.toNat &&& (2 ^ 8 - 1) = _
    rw [Nat.and_two_pow_sub_one_eq_mod]
    rw [Nat.mod_eq_of_lt (a := y.toBitVec.toNat % 256) (by omega)]
  refine ⟨y.toBitVec.toNat % 256, Nat.mod_lt _ (by decide), ?_⟩
  rw [h, lN_i]
theorem byte_eq (b : Int64) {j : Nat} (hj : j < 8) : ∃ c, c < 256 ∧ (((b.toUInt64 >>> ((nI (8 * j)).toInt64.toUInt64 &&& Int64.toUInt64 63)).toInt64) &&& 255).toInt32 = nI c ∧ ((b >>> ((nI (8 * j)).toInt64 &&& 63)) &&& 255).toInt32 = nI c := by
  have e : ((b.toUInt64 >>> ((nI (8 * j)).toInt64.toUInt64 &&& Int64.toUInt64 63)).toInt64) &&& 255 = (b >>> ((nI (8 * j)).toInt64 &&& 63)) &&& 255 := by
    apply Int64.toBitVec_inj.mp
    show ((b.toUInt64 >>> ((nI (8 * j)).toInt64.toUInt64 &&& Int64.toUInt64 63)).toInt64).toBitVec &&& 255#64 = (b >>> ((nI (8 * j)).toInt64 &&& 63)).toBitVec &&& 255#64
    rw [byte_u b ⟨j, hj⟩, byte_s b ⟨j, hj⟩]
    exact byte_bv _ _ (by omega)
  obtain ⟨c, h1, h2⟩ := byte_lo (b >>> ((nI (8 * j)).toInt64 &&& 63))
  exact ⟨c, h1, by rw [e]; exact h2, h2⟩
theorem app_eq {L c : Nat} (hL : L < 500) {I : mm_I} {J : mm_J} (h : I 1 1 = nI L) : f4_append SZ 1 (nI c) I J = some (mm_up (mm_up I 3 L (nI c)) 1 1 (nI (L + 1)), J) := by
  unfold f4_append
  simp (disch := omega) only [↓M1, ↓ofNat_nI, L0, L1, L2, L3, L4, L5, L6, L7, L8, L9, L10, L12, L31, L32, L40, L48, L50, L99, L100, L120, L180, L256, L500, n_lt0, n_ge0, n_let, n_lef, n_ltt, n_ltf, n_eqt, n_eqf, m_lt, m_le, m_eq, m_eq2, m_le2, m_lt2, m_nle, m_nlt, if_true, if_false, eq_self, Option.bind_some, mb0, mb1, mbb, mbn0, mbn1, not_true, not_false_eq_true, reduceIte, Bool.false_eq_true, nI_add, nI_clamp, pk_mul, in_t, in_f, in_m, zr, za, at_SZ, put_SZ, rd_at, wr_at, rd_m, wr_m, up_s2, up_o2, h]
/-- the text of both, L long -/
def rXL (L : Nat) (Ic Im : mm_I) : Prop := Ic 1 1 = nI L ∧ Im 167 27 = nI L ∧ ∀ k, k < L → ∃ c, c < 256 ∧ Ic 3 k = nI c ∧ Im 184 k = nI c
theorem rXL.app {L c : Nat} {Ic Im : mm_I} (h : rXL L Ic Im) (hc : c < 256) : rXL (L + 1) (mm_up (mm_up Ic 3 L (nI c)) 1 1 (nI (L + 1))) (mm_up (mm_up Im 184 L (nI c)) 167 27 (nI (L + 1))) := by
  refine ⟨up_s2, up_s2, fun k hk => ?_⟩
  have u1 : (mm_up (mm_up Ic 3 L (nI c)) 1 1 (nI (L + 1))) 3 k = (mm_up Ic 3 L (nI c)) 3 k := up_o2 (by omega)
  have u2 : (mm_up (mm_up Im 184 L (nI c)) 167 27 (nI (L + 1))) 184 k = (mm_up Im 184 L (nI c)) 184 k := up_o2 (by omega)
  rw [u1, u2]
  by_cases e : k = L
  · subst e
    exact ⟨c, hc, up_s2, up_s2⟩
  · have u3 : (mm_up Ic 3 L (nI c)) 3 k = Ic 3 k := up_o2 (by omega)
    have u4 : (mm_up Im 184 L (nI c)) 184 k = Im 184 k := up_o2 (by omega)
    rw [u3, u4]
    exact h.2.2 k (by omega)
/-- what feed leaves alone -/
def fX (I I' : mm_I) : Prop := (∀ r, r ≠ 1 → r ≠ 3 → I' r = I r) ∧ ∀ k, k ≠ 1 → I' 1 k = I 1 k
def fY (I I' : mm_I) : Prop := (∀ r, r ≠ 167 → r ≠ 184 → I' r = I r) ∧ ∀ k, k ≠ 27 → I' 167 k = I 167 k
theorem feed_loop {n : Nat} {b : Int64} {J : mm_J} : ∀ (j d L : Nat) (Ic Im : mm_I), j ≤ 8 → j < d → L + j ≤ 500 → rXL L Ic Im → ∃ Ic' Im', f10_feed_36 SZ n d 0 b (nI j - 1) Ic J = some (nI (L + j), Ic', J) ∧ f11_feed_35 SZ n d 167 b (nI j - 1) Im J = some (nI (L + j), Im', J) ∧ rXL (L + j) Ic' Im' ∧ fX Ic Ic' ∧ fY Im Im' := by
  intro j
  induction j with
  | zero =>
    intro d L Ic Im h1 h2 h3 h
    obtain ⟨d', rfl⟩ : ∃ d', d = d' + 1 := ⟨d - 1, by omega⟩
    refine ⟨Ic, Im, ?_, ?_, h, ⟨fun _ _ _ => rfl, fun _ _ => rfl⟩, ⟨fun _ _ _ => rfl, fun _ _ => rfl⟩⟩
    · show f10_feed_36_b SZ n (f10_feed_36 SZ n d') _ _ _ Ic J = _
      unfold f10_feed_36_b
      simp only [zr]
      rw [if_pos (by decide), h.1]
      rfl
    · show f11_feed_35_b SZ n (f11_feed_35 SZ n d') _ _ _ Im J = _
      unfold f11_feed_35_b
      rw [if_pos (by decide), h.2.1]
      rfl
  | succ j ih =>
    intro d L Ic Im h1 h2 h3 h
    obtain ⟨d', rfl⟩ : ∃ d', d = d' + 1 := ⟨d - 1, by omega⟩
    obtain ⟨c, hc, c1, c2⟩ := byte_eq b (j := j) (by omega)
    obtain ⟨Ic', Im', g1, g2, g3, g4, g5⟩ := ih d' (L + 1) _ _ (by omega) (by omega) (by omega) (h.app hc)
    have ej : nI (j + 1) - 1 = nI j := nI_pred j
    have em : nI j + -1 = nI j - 1 := (Int32.sub_eq_add_neg _ _).symm
    refine ⟨Ic', Im', ?_, ?_, ?_, ?_, ?_⟩
    · show f10_feed_36_b SZ n (f10_feed_36 SZ n d') _ _ _ Ic J = _
      unfold f10_feed_36_b
      simp only [zr]
      rw [ej, if_neg (nI_pos (by omega)), show (8 : Int32) * nI j = nI (8 * j) from pk_mul 8 j, c1, app_eq (by omega) h.1, Option.bind_some, em, g1, show L + (j + 1) = L + 1 + j by omega]
    · show f11_feed_35_b SZ n (f11_feed_35 SZ n d') _ _ _ Im J = _
      unfold f11_feed_35_b
      simp only [zr, za]
      rw [ej, if_neg (nI_pos (by omega)), show (8 : Int32) * nI j = nI (8 * j) from pk_mul 8 j, c2, h.2.1, if_pos (inb_nI (by omega) (by omega)), nI_clamp (by omega), up_o2 (by omega), h.2.1, nI_one, em, g2, show L + (j + 1) = L + 1 + j by omega]
    · rw [show L + (j + 1) = L + 1 + j by omega]
      exact g3
    · exact ⟨fun r hr hs => by rw [g4.1 r hr hs, mm_up_o hr, mm_up_o hs], fun k hk => by rw [g4.2 k hk, up_o2 (by omega), up_o2 (by omega)]⟩
    · exact ⟨fun r hr hs => by rw [g5.1 r hr hs, mm_up_o hr, mm_up_o hs], fun k hk => by rw [g5.2 k hk, up_o2 (by omega), up_o2 (by omega)]⟩
theorem rAll.text {T P N : Nat} {Ic Ic' Im Im' : mm_I} (h : rAll T P N Ic Im) (fc : fX Ic Ic') (fm : fY Im Im') (hx : rX Ic' Im') : rAll T P N Ic' Im' := by
  obtain ⟨a1, a2, a3, a4, a5, a6, a7, a8, a9, a10, a11, a12, a13, a14, a15⟩ := h
  obtain ⟨e, e'⟩ := fc
  obtain ⟨f, f'⟩ := fm
  have g : ∀ r k, r ≠ 1 → r ≠ 3 → Ic' r k = Ic r k := fun r k h1 h2 => by rw [e r h1 h2]
  exact ⟨a1.c (g 4 5 (by omega) (by omega)) (g 4 6 (by omega) (by omega)) (f' 0 (by omega)) (f' 2 (by omega)), a2.c (e 6 (by omega) (by omega)) (e 8 (by omega) (by omega)) (e 10 (by omega) (by omega)) (e 12 (by omega) (by omega)) (f 168 (by omega) (by omega)), a3.c (e 14 (by omega) (by omega)) (f 171 (by omega) (by omega)), a4.c (fun k _ => g 26 k (by omega) (by omega)) (fun k h1 h2 => f' k (by omega)), a5.c (fun k _ => e _ (by omega) (by omega)) (vCur_c (fun r h1 h2 => f r (by omega) (by omega)) (f' 23 (by omega))), a6.c (g 29 12 (by omega) (by omega)) (f' 24 (by omega)), a7.c (fun k _ => e _ (by omega) (by omega)) (vTold_c (f 170 (by omega) (by omega)) (f 169 (by omega) (by omega))), a8.c (fun k _ => e _ (by omega) (by omega)) (f 199 (by omega) (by omega)) (f 200 (by omega) (by omega)), a9.c (fun k _ => e _ (by omega) (by omega)) (f 199 (by omega) (by omega)) (f 200 (by omega) (by omega)), a10.c (g 0 19 (by omega) (by omega)) (f 200 (by omega) (by omega)), a11.c (e 132 (by omega) (by omega)) (f 183 (by omega) (by omega)), a12.c (g 133 6 (by omega) (by omega)) (e 135 (by omega) (by omega)) (e 137 (by omega) (by omega)) (f' 48 (by omega)) (f 194 (by omega) (by omega)) (f 195 (by omega) (by omega)), a13.c (g 133 7 (by omega) (by omega)) (e 141 (by omega) (by omega)) (e 143 (by omega) (by omega)) (e 145 (by omega) (by omega)) (f' 51 (by omega)) (f 196 (by omega) (by omega)) (f 197 (by omega) (by omega)) (f 198 (by omega) (by omega)), hx, a15.c (e' 6 (by omega)) (f' 28 (by omega))⟩
theorem st_feed : St_feed Inv := by
  intro k hk a b I J h
  have h0 := h
  obtain ⟨T, P, hA⟩ := h
  obtain ⟨X, hX, x1, x2, x3⟩ := hA.2.2.2.2.2.2.2.2.2.2.2.2.2.1
  rcases bnd_cases 1 8 (by decide) (by decide) a with hb | ⟨w, hw0, hw, rfl, hb⟩
  · refine ⟨100, (-1000000002, I, J), (-1000000002, I, J), ?_, ?_, rfl, Inv_mono k I J h0⟩
    · unfold f10_feed
      rw [show f10_within SZ a 1 8 I J = _ from cWi (lo := 1) (hi := 8), hb]; rfl
    · show f11_feed SZ 100 167 a b I J = _
      unfold f11_feed
      rw [show f11_in SZ a.toInt64 1 8 I J = _ from mWi (lo := 1) (hi := 8) (by decide) (by decide), hb]; rfl
  · by_cases hf : X + w ≤ 500
    · obtain ⟨Ic', Im0, g1, -, g3, g4, -⟩ := feed_loop (n := 100) (b := b) (J := J) w 100 X I I hw (by omega) hf ⟨x1, x2, x3⟩
      have me : ∀ r, 167 ≤ r → Ic' r = I r := fun r hr => g4.1 r (by omega) (by omega)
      have x4 : rXL X I Ic' := ⟨x1, by rw [me 167 (by omega)]; exact x2, by rw [me 184 (by omega)]; exact x3⟩
      obtain ⟨Ic2, Im', k1, k2, k3, k4, k5⟩ := feed_loop (n := 100) (b := b) (J := J) w 100 X I Ic' hw (by omega) hf x4
      have e2 : Ic2 = Ic' := by
        rw [g1] at k1
        exact (congrArg (fun x => x.2.1) (Option.some.inj k1)).symm
      rw [e2] at k3 k4
      refine ⟨100, (nI (X + w), Ic', J), (nI (X + w), Im', J), ?_, ?_, rfl, T, P, (((hA.m me).text k4 k5 ⟨X + w, hf, k3⟩).k (fun r hr => k5.1 r (by omega) (by omega))).mono (by omega)⟩
      · unfold f10_feed
        simp only [zr]
        rw [show f10_within SZ (nI w) 1 8 I J = _ from cWi (lo := 1) (hi := 8), hb, Option.bind_some, if_neg (by decide), x1, nI_add, if_pos (show nI (X + w) ≤ (500 : Int32) from nI_le (b := 500) hf (by decide)), g1]
      · show f11_feed SZ 100 167 (nI w) b Ic' J = _
        unfold f11_feed
        rw [show f11_in SZ (nI w).toInt64 1 8 Ic' J = _ from mWi (lo := 1) (hi := 8) (by decide) (by decide), hb, Option.bind_some, if_neg (by decide), x4.2.1, nI_add, if_pos (show nI (X + w) ≤ (500 : Int32) from nI_le (b := 500) hf (by decide)), k2]
    · refine ⟨100, (-1000000004, I, J), (-1000000004, I, J), ?_, ?_, rfl, Inv_mono k I J h0⟩
      · unfold f10_feed
        simp only [zr]
        rw [show f10_within SZ (nI w) 1 8 I J = _ from cWi (lo := 1) (hi := 8), hb, Option.bind_some, if_neg (by decide), x1, nI_add, if_neg (show ¬ nI (X + w) ≤ (500 : Int32) from nI_ge (a := 500) (b := X + w) (by omega) (by omega))]
      · show f11_feed SZ 100 167 (nI w) b I J = _
        unfold f11_feed
        rw [show f11_in SZ (nI w).toInt64 1 8 I J = _ from mWi (lo := 1) (hi := 8) (by decide) (by decide), hb, Option.bind_some, if_neg (by decide), x2, nI_add, if_neg (show ¬ nI (X + w) ≤ (500 : Int32) from nI_ge (a := 500) (b := X + w) (by omega) (by omega))]
