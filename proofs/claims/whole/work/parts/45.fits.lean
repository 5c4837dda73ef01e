/-! ===== part 45: fits (written by wip/whole/pre.py) ===== -/
theorem nI_bs : ∀ k : Fin 256, nI k.1 = bsI (fun j => k.1.testBit j) 8 := by decide +kernel
def cb (k : Nat) : Nat := cnt (fun j => k.testBit j) 8
theorem cb_c {k : Nat} (hk : k < 256) {I : mm_I} {J : mm_J} : fJ6_bitCount SZ (nI k) I J = some (nI (cb k)) := by
  rw [nI_bs ⟨k, hk⟩, cnt_eq]
  rfl
theorem cb_m {n k : Nat} (hn : 9 ≤ n) (hk : k < 256) {I : mm_I} {J : mm_J} : f11_bits SZ n (nI k) I J = some (nI (cb k)) := by
  rw [nI_bs ⟨k, hk⟩, mbits_eq hn]
  rfl
theorem bs8_and : ∀ (a b c d e f g h : Bool) (j : Fin 8), p8 a b c d e f g h j.1 = true → bs8 a b c d e f g h &&& (nI 1 <<< (nI j.1 &&& nI 31)) = nI 1 <<< (nI j.1 &&& nI 31) := by decide +kernel
theorem bs8_andn : ∀ (a b c d e f g h : Bool) (j : Fin 8), p8 a b c d e f g h j.1 = false → (nI 1 <<< (nI j.1 &&& nI 31)) &&& (bs8 a b c d e f g h ^^^ m1) = nI 1 <<< (nI j.1 &&& nI 31) := by decide +kernel
theorem bit_ne : ∀ (j : Fin 8), ¬ (nI 1 <<< (nI j.1 &&& nI 31)) = nI 0 := by decide +kernel
theorem not_sub {X Y : Nat → Bool} {j : Nat} (hj : j < 8) (hx : X j = true) (hy : Y j = false) : ¬ (bsI X 8 &&& (bsI Y 8 ^^^ m1)) = nI 0 := by
  intro h
  have e1 := bs8_and (X 0) (X 1) (X 2) (X 3) (X 4) (X 5) (X 6) (X 7) ⟨j, hj⟩ (by rw [bs_m X j hj]; exact hx)
  have e2 := bs8_andn (Y 0) (Y 1) (Y 2) (Y 3) (Y 4) (Y 5) (Y 6) (Y 7) ⟨j, hj⟩ (by rw [bs_m Y j hj]; exact hy)
  rw [← bsI_8] at e1 e2
  refine bit_ne ⟨j, hj⟩ ?_
  rw [← e2, ← e1, Int32.and_assoc, Int32.and_comm _ (bsI Y 8 ^^^ m1), ← Int32.and_assoc, h]
  exact Int32.zero_and
/-- counted: those that fit, those that are possible, who is in all -/
def gS (ok fit : Nat → Bool) (live : Int32) : Nat → Nat × Nat × Int32
  | 0 => (0, 0, live)
  | k + 1 => if ok k = true then (if fit k = true then ((gS ok fit live k).1 + 1, (gS ok fit live k).2.1 + 1, (gS ok fit live k).2.2 &&& nI k) else ((gS ok fit live k).1, (gS ok fit live k).2.1 + 1, (gS ok fit live k).2.2)) else gS ok fit live k
theorem gS_le (ok fit : Nat → Bool) (live : Int32) : ∀ k : Nat, (gS ok fit live k).1 ≤ k ∧ (gS ok fit live k).2.1 ≤ k
  | 0 => ⟨Nat.le_refl 0, Nat.le_refl 0⟩
  | k + 1 => by
    have := gS_le ok fit live k
    unfold gS
    split
    · split <;> simp only [] <;> omega
    · omega
theorem gS_far {ok fit : Nat → Bool} {live : Int32} {m : Nat} : ∀ {k : Nat}, m ≤ k → (∀ j, m ≤ j → j < k → ok j = false) → gS ok fit live k = gS ok fit live m
  | 0, h, _ => by
    have : m = 0 := by omega
    rw [this]
  | k + 1, h, hz => by
    by_cases e : m = k + 1
    · rw [e]
    · show (if ok k = true then _ else _) = _
      rw [hz k (by omega) (by omega), if_neg (by decide)]
      exact gS_far (by omega) (fun j h1 h2 => hz j h1 (by omega))
/-- every one of the first M makers' sets meets k -/
def fitB (mk : Nat → Int32) (k : Nat) : Nat → Bool
  | 0 => true
  | i + 1 => fitB mk k i && !decide ((mk i &&& nI k) = nI 0)
theorem fitB_t {mk : Nat → Int32} {k : Nat} : ∀ {M : Nat}, fitB mk k M = true → ∀ i, i < M → ¬ (mk i &&& nI k) = nI 0
  | 0, _, i, hi => absurd hi (Nat.not_lt_zero i)
  | M + 1, h, i, hi => by
    have h : (fitB mk k M && !decide ((mk M &&& nI k) = nI 0)) = true := h
    rw [Bool.and_eq_true] at h
    by_cases e : i = M
    · subst e
      simpa using h.2
    · exact fitB_t h.1 i (by omega)
theorem fitB_f {mk : Nat → Int32} {k : Nat} : ∀ {M : Nat}, fitB mk k M = false → ∃ i, i < M ∧ (mk i &&& nI k) = nI 0
  | 0, h => Bool.noConfusion (show true = false from h)
  | M + 1, h => by
    have h : (fitB mk k M && !decide ((mk M &&& nI k) = nI 0)) = false := h
    rw [Bool.and_eq_false_iff] at h
    rcases h with h | h
    · obtain ⟨i, h1, h2⟩ := fitB_f h
      exact ⟨i, by omega, h2⟩
    · exact ⟨M, by omega, by simpa using h⟩
/-! the class -/
theorem cif_t {n M k : Nat} {mk : Nat → Int32} (hM : M ≤ 12) {I : mm_I} {J : mm_J} (h6 : I 133 6 = nI M) (hm : ∀ i, i < M → I 139 i = mk i) (hz : ∀ i, i < M → ¬ (mk i &&& nI k) = nI 0) : ∀ (d i : Nat), i ≤ M → M < i + d → f8_countIfFit_2 SZ n d 133 (nI k) (nI i) I J = some (mm_up (mm_up I 133 8 (I 133 8 + nI 1)) 133 10 (I 133 10 &&& nI k), J) := by
  intro d
  induction d with
  | zero => intro i h1 h2; omega
  | succ d ih =>
    intro i h1 h2
    show f8_countIfFit_2_b SZ n (f8_countIfFit_2 SZ n d) _ _ _ I J = _
    unfold f8_countIfFit_2_b
    rw [h6]
    by_cases h : i = M
    · subst h
      simp (disch := omega) only [↓M1, ↓ofNat_nI, L0, L1, L2, L3, L4, L5, L6, L7, L8, L9, L10, L12, L31, L32, L40, L48, L50, L99, L100, L120, L180, L256, L500, n_lt0, n_ge0, n_let, n_lef, n_ltt, n_ltf, n_eqt, n_eqf, m_lt, m_le, m_eq, m_eq2, m_le2, m_lt2, m_nle, m_nlt, if_true, if_false, eq_self, Option.bind_some, mb0, mb1, mbb, mbn0, mbn1, not_true, not_false_eq_true, reduceIte, Bool.false_eq_true, nI_add, nI_clamp, pk_mul, in_t, in_f, in_m, zr, za, at_SZ, put_SZ, rd_at, wr_at, rd_m, wr_m, up_s2, up_o2]
    · simp (disch := omega) only [↓M1, ↓ofNat_nI, L0, L1, L2, L3, L4, L5, L6, L7, L8, L9, L10, L12, L31, L32, L40, L48, L50, L99, L100, L120, L180, L256, L500, n_lt0, n_ge0, n_let, n_lef, n_ltt, n_ltf, n_eqt, n_eqf, m_lt, m_le, m_eq, m_eq2, m_le2, m_lt2, m_nle, m_nlt, if_true, if_false, eq_self, Option.bind_some, mb0, mb1, mbb, mbn0, mbn1, not_true, not_false_eq_true, reduceIte, Bool.false_eq_true, nI_add, nI_clamp, pk_mul, in_t, in_f, in_m, zr, za, at_SZ, put_SZ, rd_at, wr_at, rd_m, wr_m, hm i (by omega)]
      rw [if_neg (hz i (by omega))]
      exact ih (i + 1) (by omega) (by omega)
theorem cif_f {n M k i0 : Nat} {mk : Nat → Int32} (hM : M ≤ 12) {I : mm_I} {J : mm_J} (h6 : I 133 6 = nI M) (hm : ∀ i, i < M → I 139 i = mk i) (hi0 : i0 < M) (hz : (mk i0 &&& nI k) = nI 0) : ∀ (d i : Nat), i ≤ i0 → i0 < i + d → f8_countIfFit_2 SZ n d 133 (nI k) (nI i) I J = some (I, J) := by
  intro d
  induction d with
  | zero => intro i h1 h2; omega
  | succ d ih =>
    intro i h1 h2
    show f8_countIfFit_2_b SZ n (f8_countIfFit_2 SZ n d) _ _ _ I J = _
    unfold f8_countIfFit_2_b
    rw [h6]
    simp (disch := omega) only [↓M1, ↓ofNat_nI, L0, L1, L2, L3, L4, L5, L6, L7, L8, L9, L10, L12, L31, L32, L40, L48, L50, L99, L100, L120, L180, L256, L500, n_lt0, n_ge0, n_let, n_lef, n_ltt, n_ltf, n_eqt, n_eqf, m_lt, m_le, m_eq, m_eq2, m_le2, m_lt2, m_nle, m_nlt, if_true, if_false, eq_self, Option.bind_some, mb0, mb1, mbb, mbn0, mbn1, not_true, not_false_eq_true, reduceIte, Bool.false_eq_true, nI_add, nI_clamp, pk_mul, in_t, in_f, in_m, zr, za, at_SZ, put_SZ, rd_at, wr_at, rd_m, wr_m, hm i (by omega)]
    by_cases hc : (mk i &&& nI k) = nI 0
    · rw [if_pos hc]
    · rw [if_neg hc]
      have : i ≠ i0 := by rintro rfl; exact hc hz
      exact ih (i + 1) (by omega) (by omega)
def okB (live m : Int32) (k : Nat) : Bool := decide ((nI k &&& (live ^^^ m1)) = nI 0) && decide (nI (cb k) = m)
theorem cf_loop {n M : Nat} {mk : Nat → Int32} {live m : Int32} (hn : 13 ≤ n) (hM : M ≤ 12) {J : mm_J} : ∀ (d k : Nat) (I : mm_I), k ≤ 256 → 256 < k + d → I 29 8 = live → I 133 6 = nI M → (∀ i, i < M → I 139 i = mk i) → I 133 8 = nI (gS (okB live m) (fun k => fitB mk k M) live k).1 → I 133 9 = nI (gS (okB live m) (fun k => fitB mk k M) live k).2.1 → I 133 10 = (gS (okB live m) (fun k => fitB mk k M) live k).2.2 → ∃ I', f8_countFits_50 SZ n d 133 m 29 (nI k) I J = some (I', J) ∧ I' 133 8 = nI (gS (okB live m) (fun k => fitB mk k M) live 256).1 ∧ I' 133 9 = nI (gS (okB live m) (fun k => fitB mk k M) live 256).2.1 ∧ I' 133 10 = (gS (okB live m) (fun k => fitB mk k M) live 256).2.2 ∧ (∀ r, r ≠ 133 → I' r = I r) ∧ ∀ q, q ≤ 7 → I' 133 q = I 133 q := by
  intro d
  induction d with
  | zero => intro k I h1 h2; omega
  | succ d ih =>
    intro k I h1 h2 hl h6 hm g1 g2 g3
    show ∃ I', f8_countFits_50_b SZ n (f8_countFits_50 SZ n d) 133 m 29 (nI k) I J = some (I', J) ∧ _
    by_cases h : k = 256
    · subst h
      refine ⟨I, ?_, g1, g2, g3, fun _ _ => rfl, fun _ _ => rfl⟩
      unfold f8_countFits_50_b
      simp (disch := omega) only [↓M1, ↓ofNat_nI, L0, L1, L2, L3, L4, L5, L6, L7, L8, L9, L10, L12, L31, L32, L40, L48, L50, L99, L100, L120, L180, L256, L500, n_lt0, n_ge0, n_let, n_lef, n_ltt, n_ltf, n_eqt, n_eqf, m_lt, m_le, m_eq, m_eq2, m_le2, m_lt2, m_nle, m_nlt, if_true, if_false, eq_self, Option.bind_some, mb0, mb1, mbb, mbn0, mbn1, not_true, not_false_eq_true, reduceIte, Bool.false_eq_true, nI_add, nI_clamp, pk_mul, in_t, in_f, in_m, zr, za, at_SZ, put_SZ, rd_at, wr_at, rd_m, wr_m]
    · have hk : k < 256 := by omega
      have hb := gS_le (okB live m) (fun k => fitB mk k M) live k
      have gs : gS (okB live m) (fun k => fitB mk k M) live (k + 1) = (if okB live m k = true then (if fitB mk k M = true then ((gS (okB live m) (fun k => fitB mk k M) live k).1 + 1, (gS (okB live m) (fun k => fitB mk k M) live k).2.1 + 1, (gS (okB live m) (fun k => fitB mk k M) live k).2.2 &&& nI k) else ((gS (okB live m) (fun k => fitB mk k M) live k).1, (gS (okB live m) (fun k => fitB mk k M) live k).2.1 + 1, (gS (okB live m) (fun k => fitB mk k M) live k).2.2)) else gS (okB live m) (fun k => fitB mk k M) live k) := rfl
      unfold f8_countFits_50_b f8_countFits_91
      simp (disch := omega) only [↓M1, ↓ofNat_nI, L0, L1, L2, L3, L4, L5, L6, L7, L8, L9, L10, L12, L31, L32, L40, L48, L50, L99, L100, L120, L180, L256, L500, n_lt0, n_ge0, n_let, n_lef, n_ltt, n_ltf, n_eqt, n_eqf, m_lt, m_le, m_eq, m_eq2, m_le2, m_lt2, m_nle, m_nlt, if_true, if_false, eq_self, Option.bind_some, mb0, mb1, mbb, mbn0, mbn1, not_true, not_false_eq_true, reduceIte, Bool.false_eq_true, nI_add, nI_clamp, pk_mul, in_t, in_f, in_m, zr, za, at_SZ, put_SZ, rd_at, wr_at, rd_m, wr_m, hl]
      by_cases c1 : (nI k &&& (live ^^^ m1)) = nI 0
      · rw [if_pos c1, cb_c hk, Option.bind_some]
        by_cases c2 : nI (cb k) = m
        · have ok : okB live m k = true := by unfold okB; simp [c1, c2]
          rw [if_pos c2]
          rw [if_pos ok] at gs
          cases hf : fitB mk k M
          · rw [hf, if_neg (by decide)] at gs
            obtain ⟨i0, j1, j2⟩ := fitB_f hf
            unfold f8_countIfFit
            rw [show f8_countIfFit_2 SZ n n 133 (nI k) 0 (mm_up I 133 9 (I 133 9 + nI 1)) J = some (mm_up I 133 9 (I 133 9 + nI 1), J) from cif_f (M := M) (mk := mk) hM (by rw [up_o2 (by omega)]; exact h6) (fun i hi => by rw [up_o2 (by omega)]; exact hm i hi) j1 j2 n 0 (by omega) (by omega), Option.bind_some]
            obtain ⟨I', q1, q2, q3, q4, q5, q6⟩ := ih (k + 1) (mm_up I 133 9 (I 133 9 + nI 1)) (by omega) (by omega) (by rw [up_o2 (by omega)]; exact hl) (by rw [up_o2 (by omega)]; exact h6) (fun i hi => by rw [up_o2 (by omega)]; exact hm i hi) (by rw [up_o2 (by omega), gs]; exact g1) (by rw [up_s2, gs, g2, nI_add]) (by rw [up_o2 (by omega), gs]; exact g3)
            exact ⟨I', q1, q2, q3, q4, fun r hr => by rw [q5 r hr, mm_up_o hr], fun q hq => by rw [q6 q hq, up_o2 (by omega)]⟩
          · rw [hf, if_pos rfl] at gs
            have j := fitB_t hf
            unfold f8_countIfFit
            rw [show f8_countIfFit_2 SZ n n 133 (nI k) 0 (mm_up I 133 9 (I 133 9 + nI 1)) J = some (mm_up (mm_up (mm_up I 133 9 (I 133 9 + nI 1)) 133 8 ((mm_up I 133 9 (I 133 9 + nI 1)) 133 8 + nI 1)) 133 10 ((mm_up I 133 9 (I 133 9 + nI 1)) 133 10 &&& nI k), J) from cif_t (M := M) (mk := mk) hM (by rw [up_o2 (by omega)]; exact h6) (fun i hi => by rw [up_o2 (by omega)]; exact hm i hi) j n 0 (by omega) (by omega), Option.bind_some]
            obtain ⟨I', q1, q2, q3, q4, q5, q6⟩ := ih (k + 1) (mm_up (mm_up (mm_up I 133 9 (I 133 9 + nI 1)) 133 8 ((mm_up I 133 9 (I 133 9 + nI 1)) 133 8 + nI 1)) 133 10 ((mm_up I 133 9 (I 133 9 + nI 1)) 133 10 &&& nI k)) (by omega) (by omega) (by simp (disch := omega) only [up_o2]; exact hl) (by simp (disch := omega) only [up_o2]; exact h6) (fun i hi => by simp (disch := omega) only [up_o2]; exact hm i hi) (by simp (disch := omega) only [up_o2, up_s2]; rw [gs, g1, nI_add]) (by simp (disch := omega) only [up_o2, up_s2]; rw [gs, g2, nI_add]) (by simp (disch := omega) only [up_o2, up_s2]; rw [gs, g3])
            exact ⟨I', q1, q2, q3, q4, fun r hr => by rw [q5 r hr, mm_up_o hr, mm_up_o hr, mm_up_o hr], fun q hq => by rw [q6 q hq, up_o2 (by omega), up_o2 (by omega), up_o2 (by omega)]⟩
        · rw [if_neg c2]
          have ok : okB live m k = false := by unfold okB; simp [c2]
          rw [ok, if_neg (by decide)] at gs
          exact ih (k + 1) I (by omega) (by omega) hl h6 hm (by rw [gs]; exact g1) (by rw [gs]; exact g2) (by rw [gs]; exact g3)
      · rw [if_neg c1]
        have ok : okB live m k = false := by unfold okB; simp [c1]
        rw [ok, if_neg (by decide)] at gs
        exact ih (k + 1) I (by omega) (by omega) hl h6 hm (by rw [gs]; exact g1) (by rw [gs]; exact g2) (by rw [gs]; exact g3)
theorem cm_loop {n M : Nat} {mk : Nat → Int32} {m : Int32} (hn : 9 ≤ n) (hM : M ≤ 12) {J : mm_J} {Ic : mm_I} (G : mm_I → Prop) (hmk : ∀ i, i < M → ∀ I, (∀ r, r ≠ 139 → I r = Ic r) → f8_makersOf SZ n 133 (nI i) 29 I J = some (mk i)) (h6 : Ic 133 6 = nI M) (hG : ∀ I, (∀ r, r ≠ 139 → I r = Ic r) → (∀ i, i < M → I 139 i = mk i) → ∃ I', f8_countFits_50 SZ n n 133 m 29 (nI 0) (mm_up (mm_up (mm_up I 133 8 (nI 0)) 133 9 (nI 0)) 133 10 (I 29 8)) J = some (I', J) ∧ G I') : ∀ (d i : Nat) (I : mm_I), i ≤ M → M < i + d → (∀ r, r ≠ 139 → I r = Ic r) → (∀ j, j < i → I 139 j = mk j) → ∃ I', f8_countFits_2 SZ n d 133 m 29 (nI i) I J = some (I', J) ∧ G I' := by
  intro d
  induction d with
  | zero => intro i I h1 h2; omega
  | succ d ih =>
    intro i I h1 h2 hr hj
    have e6 : I 133 6 = nI M := by rw [hr 133 (by omega)]; exact h6
    by_cases h : i = M
    · subst h
      obtain ⟨I', g1, g2⟩ := hG I hr hj
      refine ⟨I', ?_, g2⟩
      show f8_countFits_2_b SZ n (f8_countFits_2 SZ n d) 133 m 29 (nI i) I J = some (I', J)
      unfold f8_countFits_2_b
      simp (disch := omega) only [↓M1, ↓ofNat_nI, L0, L1, L2, L3, L4, L5, L6, L7, L8, L9, L10, L12, L31, L32, L40, L48, L50, L99, L100, L120, L180, L256, L500, n_lt0, n_ge0, n_let, n_lef, n_ltt, n_ltf, n_eqt, n_eqf, m_lt, m_le, m_eq, m_eq2, m_le2, m_lt2, m_nle, m_nlt, if_true, if_false, eq_self, Option.bind_some, mb0, mb1, mbb, mbn0, mbn1, not_true, not_false_eq_true, reduceIte, Bool.false_eq_true, nI_add, nI_clamp, pk_mul, in_t, in_f, in_m, zr, za, at_SZ, put_SZ, rd_at, wr_at, rd_m, wr_m, up_s2, up_o2, e6]
      exact g1
    · obtain ⟨I', g1, g2⟩ := ih (i + 1) (mm_up I 139 i (mk i)) (by omega) (by omega) (fun r h3 => by rw [mm_up_o h3]; exact hr r h3) (fun j h3 => by
        by_cases e : j = i
        · subst e; exact up_s2
        · rw [up_o2 (by omega)]; exact hj j (by omega))
      refine ⟨I', ?_, g2⟩
      show f8_countFits_2_b SZ n (f8_countFits_2 SZ n d) 133 m 29 (nI i) I J = some (I', J)
      unfold f8_countFits_2_b
      rw [hmk i (by omega) I hr]
      simp (disch := omega) only [↓M1, ↓ofNat_nI, L0, L1, L2, L3, L4, L5, L6, L7, L8, L9, L10, L12, L31, L32, L40, L48, L50, L99, L100, L120, L180, L256, L500, n_lt0, n_ge0, n_let, n_lef, n_ltt, n_ltf, n_eqt, n_eqf, m_lt, m_le, m_eq, m_eq2, m_le2, m_lt2, m_nle, m_nlt, if_true, if_false, eq_self, Option.bind_some, mb0, mb1, mbb, mbn0, mbn1, not_true, not_false_eq_true, reduceIte, Bool.false_eq_true, nI_add, nI_clamp, pk_mul, in_t, in_f, in_m, zr, za, at_SZ, put_SZ, rd_at, wr_at, rd_m, wr_m, e6]
      exact g1
/-! the reference -/
section FM
variable {n M : Nat} {mk : Nat → Int32} {live m w : Int32} {I : mm_I} {J : mm_J} {rec44 : Nat → Int32 → Int32 → Int32 → Int32 → Int32 → Int32 → Int32 → mm_I → mm_J → Option Int32}
theorem fm_0 (hM : M ≤ 12) (h48 : I 167 48 = nI M) {a b c : Int32} {k : Nat} : ∀ (d i : Nat), i ≤ M → M < i + d → f11_fits_82 SZ n rec44 d 167 m w live a b c (nI k) (nI 0) (nI i) I J = rec44 167 m w live a b c (nI (k + 1)) I J := by
  intro d
  induction d with
  | zero => intro i h1 h2; omega
  | succ d ih =>
    intro i h1 h2
    show f11_fits_82_b SZ n rec44 (f11_fits_82 SZ n rec44 d) _ _ _ _ _ _ _ _ _ _ I J = _
    unfold f11_fits_82_b f11_fits_124 f11_fits_125 f11_fits_145 f11_fits_161 f11_fits_164
    rw [h48]
    by_cases h : i = M
    · subst h
      simp (disch := omega) only [↓M1, ↓ofNat_nI, L0, L1, L2, L3, L4, L5, L6, L7, L8, L9, L10, L12, L31, L32, L40, L48, L50, L99, L100, L120, L180, L256, L500, n_lt0, n_ge0, n_let, n_lef, n_ltt, n_ltf, n_eqt, n_eqf, m_lt, m_le, m_eq, m_eq2, m_le2, m_lt2, m_nle, m_nlt, if_true, if_false, eq_self, Option.bind_some, mb0, mb1, mbb, mbn0, mbn1, not_true, not_false_eq_true, reduceIte, Bool.false_eq_true, nI_add, nI_clamp, pk_mul, in_t, in_f, in_m, zr, za, at_SZ, put_SZ, rd_at, wr_at, rd_m, wr_m]
      rw [show a + nI 0 = a from Int32.add_zero a, show c &&& m1 = c from Int32.and_neg_one]
    · simp (disch := omega) only [↓M1, ↓ofNat_nI, L0, L1, L2, L3, L4, L5, L6, L7, L8, L9, L10, L12, L31, L32, L40, L48, L50, L99, L100, L120, L180, L256, L500, n_lt0, n_ge0, n_let, n_lef, n_ltt, n_ltf, n_eqt, n_eqf, m_lt, m_le, m_eq, m_eq2, m_le2, m_lt2, m_nle, m_nlt, if_true, if_false, eq_self, Option.bind_some, mb0, mb1, mbb, mbn0, mbn1, not_true, not_false_eq_true, reduceIte, Bool.false_eq_true, nI_add, nI_clamp, pk_mul, in_t, in_f, in_m, zr, za, at_SZ, put_SZ, rd_at, wr_at, rd_m, wr_m]
      exact ih (i + 1) (by omega) (by omega)
theorem fm_t (hM : M ≤ 12) (h48 : I 167 48 = nI M) (hk : ∀ i, i < M → f11_knowers SZ n 167 (I 194 i) (I 195 i) I J = some (mk i)) {a b c : Int32} {k : Nat} (hz : ∀ i, i < M → ¬ (mk i &&& nI k) = nI 0) : ∀ (d i : Nat), i ≤ M → M < i + d → f11_fits_82 SZ n rec44 d 167 m w live a b c (nI k) (nI 1) (nI i) I J = rec44 167 m w live (a + nI 1) b (c &&& nI k) (nI (k + 1)) I J := by
  intro d
  induction d with
  | zero => intro i h1 h2; omega
  | succ d ih =>
    intro i h1 h2
    show f11_fits_82_b SZ n rec44 (f11_fits_82 SZ n rec44 d) _ _ _ _ _ _ _ _ _ _ I J = _
    unfold f11_fits_82_b f11_fits_124 f11_fits_125 f11_fits_145 f11_fits_161 f11_fits_164
    rw [h48]
    by_cases h : i = M
    · subst h
      simp (disch := omega) only [↓M1, ↓ofNat_nI, L0, L1, L2, L3, L4, L5, L6, L7, L8, L9, L10, L12, L31, L32, L40, L48, L50, L99, L100, L120, L180, L256, L500, n_lt0, n_ge0, n_let, n_lef, n_ltt, n_ltf, n_eqt, n_eqf, m_lt, m_le, m_eq, m_eq2, m_le2, m_lt2, m_nle, m_nlt, if_true, if_false, eq_self, Option.bind_some, mb0, mb1, mbb, mbn0, mbn1, not_true, not_false_eq_true, reduceIte, Bool.false_eq_true, nI_add, nI_clamp, pk_mul, in_t, in_f, in_m, zr, za, at_SZ, put_SZ, rd_at, wr_at, rd_m, wr_m]
    · simp (disch := omega) only [↓M1, ↓ofNat_nI, L0, L1, L2, L3, L4, L5, L6, L7, L8, L9, L10, L12, L31, L32, L40, L48, L50, L99, L100, L120, L180, L256, L500, n_lt0, n_ge0, n_let, n_lef, n_ltt, n_ltf, n_eqt, n_eqf, m_lt, m_le, m_eq, m_eq2, m_le2, m_lt2, m_nle, m_nlt, if_true, if_false, eq_self, Option.bind_some, mb0, mb1, mbb, mbn0, mbn1, not_true, not_false_eq_true, reduceIte, Bool.false_eq_true, nI_add, nI_clamp, pk_mul, in_t, in_f, in_m, zr, za, at_SZ, put_SZ, rd_at, wr_at, rd_m, wr_m, hk i (by omega)]
      rw [Int32.and_comm, if_neg (hz i (by omega))]
      exact ih (i + 1) (by omega) (by omega)
theorem fm_f (hM : M ≤ 12) (h48 : I 167 48 = nI M) (hk : ∀ i, i < M → f11_knowers SZ n 167 (I 194 i) (I 195 i) I J = some (mk i)) {a b c : Int32} {k i0 : Nat} (hi0 : i0 < M) (hz : (mk i0 &&& nI k) = nI 0) : ∀ (d i : Nat), i ≤ i0 → M < i + d → f11_fits_82 SZ n rec44 d 167 m w live a b c (nI k) (nI 1) (nI i) I J = rec44 167 m w live a b c (nI (k + 1)) I J := by
  intro d
  induction d with
  | zero => intro i h1 h2; omega
  | succ d ih =>
    intro i h1 h2
    show f11_fits_82_b SZ n rec44 (f11_fits_82 SZ n rec44 d) _ _ _ _ _ _ _ _ _ _ I J = _
    unfold f11_fits_82_b f11_fits_124 f11_fits_125
    rw [h48]
    simp (disch := omega) only [↓M1, ↓ofNat_nI, L0, L1, L2, L3, L4, L5, L6, L7, L8, L9, L10, L12, L31, L32, L40, L48, L50, L99, L100, L120, L180, L256, L500, n_lt0, n_ge0, n_let, n_lef, n_ltt, n_ltf, n_eqt, n_eqf, m_lt, m_le, m_eq, m_eq2, m_le2, m_lt2, m_nle, m_nlt, if_true, if_false, eq_self, Option.bind_some, mb0, mb1, mbb, mbn0, mbn1, not_true, not_false_eq_true, reduceIte, Bool.false_eq_true, nI_add, nI_clamp, pk_mul, in_t, in_f, in_m, zr, za, at_SZ, put_SZ, rd_at, wr_at, rd_m, wr_m, hk i (by omega)]
    rw [Int32.and_comm]
    by_cases hc : (mk i &&& nI k) = nI 0
    · rw [if_pos hc]
      exact fm_0 hM h48 d (i + 1) (by omega) (by omega)
    · rw [if_neg hc]
      have : i ≠ i0 := by rintro rfl; exact hc hz
      exact ih (i + 1) (by omega) (by omega)
theorem pw_P : ∀ P : Fin 9, (nI 1 <<< (nI P.1 &&& nI 31)) = nI (2 ^ P.1) := by decide +kernel
/-- what the reference answers at the end -/
def fin (w : Int32) (g : Nat × Nat × Int32) : Int32 := if w = 0 then nI g.1 else if w = 1 then (if g.1 = 0 then -1 else g.2.2) else if g.2.1 = 0 then 0 else (1000000 * nI g.1) / nI g.2.1
theorem fm_loop {P : Nat} (hP : P ≤ 8) (h2 : I 167 2 = nI P) (hn : 13 ≤ n) (hM : M ≤ 12) (h48 : I 167 48 = nI M) (hk : ∀ i, i < M → f11_knowers SZ n 167 (I 194 i) (I 195 i) I J = some (mk i)) : ∀ (d k : Nat), k ≤ 2 ^ P → 2 ^ P < k + d → f11_fits_44 SZ n d 167 m w live (nI (gS (okB live m) (fun k => fitB mk k M) live k).1) (nI (gS (okB live m) (fun k => fitB mk k M) live k).2.1) (gS (okB live m) (fun k => fitB mk k M) live k).2.2 (nI k) I J = some (fin w (gS (okB live m) (fun k => fitB mk k M) live (2 ^ P))) := by
  have hp : 2 ^ P ≤ 2 ^ 8 := Nat.pow_le_pow_right (by decide) hP
  intro d
  induction d with
  | zero => intro k h1 h2; omega
  | succ d ih =>
    intro k h1 h3
    have hb := gS_le (okB live m) (fun k => fitB mk k M) live k
    show f11_fits_44_b SZ n (f11_fits_44 SZ n d) _ _ _ _ _ _ _ _ I J = _
    unfold f11_fits_44_b f11_fits_216 f11_fits_164
    rw [h2, show ((1 : Int32) <<< (nI P &&& 31)) = nI (2 ^ P) from pw_P ⟨P, by omega⟩]
    by_cases h : k = 2 ^ P
    · subst h
      rw [if_pos (nI_le (Nat.le_refl _) (by omega))]
      unfold fin
      generalize gS (okB live m) (fun k => fitB mk k M) live (2 ^ P) = g at *
      by_cases w0 : w = 0
      · rw [if_pos w0, if_pos w0]
      · rw [if_neg w0, if_neg w0]
        by_cases w1 : w = 1
        · rw [if_pos w1, if_pos w1]
          by_cases z : g.1 = 0
          · rw [if_pos (show nI g.1 = 0 by rw [z]; rfl), if_pos z]
          · rw [if_neg (show ¬ nI g.1 = 0 from ne_nI (b := 0) z (by omega) (by omega)), if_neg z]
        · rw [if_neg w1, if_neg w1]
          by_cases z : g.2.1 = 0
          · rw [if_pos (show nI g.2.1 = 0 by rw [z]; rfl), if_pos z]
          · rw [if_neg (show ¬ nI g.2.1 = 0 from ne_nI (b := 0) z (by omega) (by omega)), if_neg (show ¬ nI g.2.1 = 0 from ne_nI (b := 0) z (by omega) (by omega)), if_neg z]
    · have hk256 : k < 256 := by omega
      have gs : gS (okB live m) (fun k => fitB mk k M) live (k + 1) = (if okB live m k = true then (if fitB mk k M = true then ((gS (okB live m) (fun k => fitB mk k M) live k).1 + 1, (gS (okB live m) (fun k => fitB mk k M) live k).2.1 + 1, (gS (okB live m) (fun k => fitB mk k M) live k).2.2 &&& nI k) else ((gS (okB live m) (fun k => fitB mk k M) live k).1, (gS (okB live m) (fun k => fitB mk k M) live k).2.1 + 1, (gS (okB live m) (fun k => fitB mk k M) live k).2.2)) else gS (okB live m) (fun k => fitB mk k M) live k) := rfl
      have i1 := ih (k + 1) (by omega) (by omega)
      simp (disch := omega) only [↓M1, ↓ofNat_nI, L0, L1, L2, L3, L4, L5, L6, L7, L8, L9, L10, L12, L31, L32, L40, L48, L50, L99, L100, L120, L180, L256, L500, n_lt0, n_ge0, n_let, n_lef, n_ltt, n_ltf, n_eqt, n_eqf, m_lt, m_le, m_eq, m_eq2, m_le2, m_lt2, m_nle, m_nlt, if_true, if_false, eq_self, Option.bind_some, mb0, mb1, mbb, mbn0, mbn1, not_true, not_false_eq_true, reduceIte, Bool.false_eq_true, nI_add, nI_clamp, pk_mul, in_t, in_f, in_m, zr, za, at_SZ, put_SZ, rd_at, wr_at, rd_m, wr_m, cb_m (n := n) (by omega) hk256]
      by_cases c2 : nI (cb k) = m
      · rw [if_pos c2]
        by_cases c1 : (nI k &&& (live ^^^ m1)) = nI 0
        · rw [if_pos c1]
          have ok : okB live m k = true := by unfold okB; simp [c1, c2]
          rw [if_pos ok] at gs
          cases hf : fitB mk k M
          · rw [hf, if_neg (by decide)] at gs
            obtain ⟨i0, j1, j2⟩ := fitB_f hf
            rw [fm_f hM h48 hk j1 j2 n 0 (by omega) (by omega)]
            rw [gs] at i1
            exact i1
          · rw [hf, if_pos rfl] at gs
            rw [fm_t hM h48 hk (fitB_t hf) n 0 (by omega) (by omega)]
            rw [gs] at i1
            rw [nI_add]
            exact i1
        · rw [if_neg c1]
          have ok : okB live m k = false := by unfold okB; simp [c1]
          rw [ok, if_neg (by decide)] at gs
          rw [gs] at i1
          exact i1
      · rw [if_neg c2]
        have ok : okB live m k = false := by unfold okB; simp [c2]
        rw [ok, if_neg (by decide)] at gs
        rw [gs] at i1
        exact i1
end FM
theorem cfin {w : Nat} {g : Nat × Nat × Int32} {I : mm_I} {J : mm_J} (hw : w ≤ 2) (b1 : g.1 ≤ 256) (b2 : g.2.1 ≤ 256) (e1 : I 133 8 = nI g.1) (e2 : I 133 9 = nI g.2.1) (e3 : I 133 10 = g.2.2) : (if nI w = 0 then (some (I 133 8, I, J)) else (if nI w = 1 then (if I 133 8 ≤ 0 then (f10_fits_72 SZ 1000 (-1) I J) else (f10_fits_72 SZ 1000 (I 133 10) I J)) else (if I 133 9 ≤ 0 then (f10_fits_106 SZ 1000 0 I J) else (if I 133 9 = 0 then none else (f10_fits_106 SZ 1000 ((1000000 * I 133 8) / I 133 9) I J))))) = some (fin (nI w) g, I, J) := by
  unfold f10_fits_72 f10_fits_106 fin
  rw [e1, e2, e3]
  by_cases w0 : nI w = 0
  · rw [if_pos w0, if_pos w0]
  · rw [if_neg w0, if_neg w0]
    by_cases w1 : nI w = 1
    · rw [if_pos w1, if_pos w1]
      by_cases z : g.1 = 0
      · rw [if_pos (show nI g.1 ≤ 0 by rw [z]; decide), if_pos z]
      · rw [if_neg (show ¬ nI g.1 ≤ 0 from nI_ge (a := 0) (b := g.1) (by omega) (by omega)), if_neg z]
    · rw [if_neg w1, if_neg w1]
      by_cases z : g.2.1 = 0
      · rw [if_pos (show nI g.2.1 ≤ 0 by rw [z]; decide), if_pos z]
      · rw [if_neg (show ¬ nI g.2.1 ≤ 0 from nI_ge (a := 0) (b := g.2.1) (by omega) (by omega)), if_neg (show ¬ nI g.2.1 = 0 from ne_nI (b := 0) z (by omega) (by omega)), if_neg z]
theorem st_fits : St_fits Inv := by
  intro k hk a b I J h
  have h0 := h
  obtain ⟨T, P, hA⟩ := h
  have hA' := hA
  obtain ⟨a1, a2, a3, a4, a5, a6, a7, a8, a9, a10, a11, a12, a13, a14, a15⟩ := hA
  have hT := a1.1
  have hP := a1.2.1
  rcases bnd_cases 0 8 (by decide) (by decide) a with ha | ⟨m, -, hm, rfl, ha⟩
  · refine ⟨1000, (-1000000002, I, J), -1000000002, ?_, ?_, rfl, Inv_mono k I J h0⟩
    · unfold f10_fits
      rw [show f10_within SZ a 0 8 I J = _ from cWi (lo := 0) (hi := 8), ha]; rfl
    · show f11_fits SZ 1000 167 a b I J = _
      unfold f11_fits
      rw [show f11_in SZ a.toInt64 0 8 I J = _ from mWi (lo := 0) (hi := 8) (by decide) (by decide), ha]; rfl
  · rcases bnd_cases 0 2 (by decide) (by decide) b with hb | ⟨w, -, hw, rfl, hb'⟩
    · refine ⟨1000, (-1000000002, I, J), -1000000002, ?_, ?_, rfl, Inv_mono k I J h0⟩
      · unfold f10_fits
        rw [show f10_within SZ (nI m) 0 8 I J = _ from cWi (lo := 0) (hi := 8), ha, Option.bind_some, if_neg (by decide), show f10_within SZ b 0 2 I J = _ from cWi (lo := 0) (hi := 2), hb]; rfl
      · show f11_fits SZ 1000 167 (nI m) b I J = _
        unfold f11_fits
        rw [show f11_in SZ (nI m).toInt64 0 8 I J = _ from mWi (lo := 0) (hi := 8) (by decide) (by decide), ha, Option.bind_some, if_neg (by decide), show f11_in SZ b.toInt64 0 2 I J = _ from mWi (lo := 0) (hi := 2) (by decide) (by decide), hb]; rfl
    · obtain ⟨M, hM, m1', m2', m3'⟩ := a12
      let mk : Nat → Int32 := fun i => bsI (fun p => decide (I 137 i ≤ I 33 (6 * p + (I 135 i).toNatClampNeg))) 8
      have hmk : ∀ i, i < M → ∀ I', (∀ r, r ≠ 139 → I' r = I r) → f8_makersOf SZ 1000 133 (nI i) 29 I' J = some (mk i) := by
        intro i hi I' hr
        obtain ⟨t, q, ht, hq1, hq2, c1, d1, c2, d2⟩ := m3' i hi
        unfold f8_makersOf
        simp (disch := omega) only [↓M1, ↓ofNat_nI, L0, L1, L2, L3, L4, L5, L6, L7, L8, L9, L10, L12, L31, L32, L40, L48, L50, L99, L100, L120, L180, L256, L500, n_lt0, n_ge0, n_let, n_lef, n_ltt, n_ltf, n_eqt, n_eqf, m_lt, m_le, m_eq, m_eq2, m_le2, m_lt2, m_nle, m_nlt, if_true, if_false, eq_self, Option.bind_some, mb0, mb1, mbb, mbn0, mbn1, not_true, not_false_eq_true, reduceIte, Bool.false_eq_true, nI_add, nI_clamp, pk_mul, in_t, in_f, in_m, zr, za, at_SZ, put_SZ, rd_at, wr_at, rd_m, wr_m, hr 135 (by omega), hr 137 (by omega), c1, c2, with_eq (n := 1000) (by omega) (Or.inl rfl : isF 29), hr 33 (by omega)]
        show _ = some (bsI (fun p => decide (I 137 i ≤ I 33 (6 * p + (I 135 i).toNatClampNeg))) 8)
        rw [c1, c2, nI_clamp (by omega)]
      have hkn : ∀ Im : mm_I, (∀ r, 167 ≤ r → Im r = I r) → ∀ i, i < M → f11_knowers SZ 1000 167 (Im 194 i) (Im 195 i) Im J = some (mk i) := by
        intro Im hr i hi
        obtain ⟨t, q, ht, hq1, hq2, c1, d1, c2, d2⟩ := m3' i hi
        rw [hr 194 (by omega), hr 195 (by omega), d1, d2, knw_eq (P := P) (by omega) (by omega) hP (by rw [hr 167 (by omega)]; exact a1.2.2.2.2.2), hr 173 (by omega), hr 174 (by omega)]
        have e := a5.wit hP (t := t) (by omega) (x := nI q) (nI_lt (a := 0) (by omega) (by omega))
        show _ = some (bsI (fun p => decide (I 137 i ≤ I 33 (6 * p + (I 135 i).toNatClampNeg))) 8)
        rw [c1, c2, nI_clamp (by omega)]
        exact congrArg some e.symm
      obtain ⟨I', g0, g1, g2, g3, g4, g5⟩ := cm_loop (n := 1000) (M := M) (mk := mk) (m := nI m) (by omega) hM (J := J) (Ic := I) (fun I' => I' 133 8 = nI (gS (okB (I 29 8) (nI m)) (fun k => fitB mk k M) (I 29 8) 256).1 ∧ I' 133 9 = nI (gS (okB (I 29 8) (nI m)) (fun k => fitB mk k M) (I 29 8) 256).2.1 ∧ I' 133 10 = (gS (okB (I 29 8) (nI m)) (fun k => fitB mk k M) (I 29 8) 256).2.2 ∧ (∀ r, r ≠ 133 → r ≠ 139 → I' r = I r) ∧ ∀ q, q ≤ 7 → I' 133 q = I 133 q) hmk m1' (fun I' hr hj => by
          obtain ⟨I2, q1, q2, q3, q4, q5, q6⟩ := cf_loop (n := 1000) (M := M) (mk := mk) (live := I 29 8) (m := nI m) (by omega) hM (J := J) 1000 0 (mm_up (mm_up (mm_up I' 133 8 (nI 0)) 133 9 (nI 0)) 133 10 (I' 29 8)) (by omega) (by omega) (by rw [mm_up_o (by omega), mm_up_o (by omega), mm_up_o (by omega), hr 29 (by omega)]) (by rw [up_o2 (by omega), up_o2 (by omega), up_o2 (by omega), hr 133 (by omega)]; exact m1') (fun i hi => by rw [mm_up_o (by omega), mm_up_o (by omega), mm_up_o (by omega)]; exact hj i hi) (by rw [up_o2 (by omega), up_o2 (by omega), up_s2]; rfl) (by rw [up_o2 (by omega), up_s2]; rfl) (by rw [up_s2, hr 29 (by omega)]; rfl)
          exact ⟨I2, q1, q2, q3, q4, fun r h1 h2 => by rw [q5 r h1, mm_up_o h1, mm_up_o h1, mm_up_o h1, hr r h2], fun q hq => by rw [q6 q hq, up_o2 (by omega), up_o2 (by omega), up_o2 (by omega), hr 133 (by omega)]⟩) 1000 0 I (by omega) (by omega) (fun _ _ => rfl) (fun j hj => absurd hj (Nat.not_lt_zero j))
      have me : ∀ r, 167 ≤ r → I' r = I r := fun r hr => g4 r (by omega) (by omega)
      have g : ∀ r k, r ≠ 133 → r ≠ 139 → I' r k = I r k := fun r k h1 h2 => by rw [g4 r h1 h2]
      have far : gS (okB (I 29 8) (nI m)) (fun k => fitB mk k M) (I 29 8) 256 = gS (okB (I 29 8) (nI m)) (fun k => fitB mk k M) (I 29 8) (2 ^ P) := by
        have hp : 2 ^ P ≤ 2 ^ 8 := Nat.pow_le_pow_right (by decide) hP
        refine gS_far hp (fun j h1 h2 => ?_)
        obtain ⟨i, i1, i2⟩ := Nat.exists_ge_and_testBit_of_ge_two_pow h1
        have i8 : i < 8 := by
          rcases Nat.lt_or_ge i 8 with q | q
          · exact q
          · have := Nat.testBit_lt_two_pow (x := j) (i := i) (Nat.lt_of_lt_of_le h2 (Nat.pow_le_pow_right (n := 2) (by decide) q))
            rw [this] at i2
            exact absurd i2 (by decide)
        obtain ⟨Lv, l1, l2, l3, l4⟩ := a5.2.2.2.2.2.2.1
        have := not_sub (X := fun i => j.testBit i) (Y := Lv) i8 i2 (l3 i i1)
        unfold okB
        rw [l1, nI_bs ⟨j, h2⟩]
        simp only [decide_eq_false this, Bool.false_and]
      have hb := gS_le (okB (I 29 8) (nI m)) (fun k => fitB mk k M) (I 29 8) 256
      refine ⟨1000, (fin (nI w) (gS (okB (I 29 8) (nI m)) (fun k => fitB mk k M) (I 29 8) 256), I', J), fin (nI w) (gS (okB (I 29 8) (nI m)) (fun k => fitB mk k M) (I 29 8) 256), ?_, ?_, rfl, T, P, (rAll.mono (N := 100 * k) (by omega) ⟨a1.c (g 4 5 (by omega) (by omega)) (g 4 6 (by omega) (by omega)) (g 167 0 (by omega) (by omega)) (g 167 2 (by omega) (by omega)), a2.c (g4 6 (by omega) (by omega)) (g4 8 (by omega) (by omega)) (g4 10 (by omega) (by omega)) (g4 12 (by omega) (by omega)) (me 168 (by omega)), a3.c (g4 14 (by omega) (by omega)) (me 171 (by omega)), a4.c (fun k _ => g 26 k (by omega) (by omega)) (fun k _ _ => g 167 k (by omega) (by omega)), a5.c (fun k _ => g4 _ (by omega) (by omega)) (vCur_c (fun r h1 h2 => me r (by omega)) (g 167 23 (by omega) (by omega))), a6.c (g 29 12 (by omega) (by omega)) (g 167 24 (by omega) (by omega)), a7.c (fun k _ => g4 _ (by omega) (by omega)) (vTold_c (me 170 (by omega)) (me 169 (by omega))), a8.c (fun k _ => g4 _ (by omega) (by omega)) (me 199 (by omega)) (me 200 (by omega)), a9.c (fun k _ => g4 _ (by omega) (by omega)) (me 199 (by omega)) (me 200 (by omega)), a10.c (g 0 19 (by omega) (by omega)) (me 200 (by omega)), a11.c (g4 132 (by omega) (by omega)) (me 183 (by omega)), rM.c ⟨M, hM, m1', m2', m3'⟩ (g5 6 (by omega)) (g4 135 (by omega) (by omega)) (g4 137 (by omega) (by omega)) (g 167 48 (by omega) (by omega)) (me 194 (by omega)) (me 195 (by omega)), a13.c (g5 7 (by omega)) (g4 141 (by omega) (by omega)) (g4 143 (by omega) (by omega)) (g4 145 (by omega) (by omega)) (g 167 51 (by omega) (by omega)) (me 196 (by omega)) (me 197 (by omega)) (me 198 (by omega)), a14.c (g 1 1 (by omega) (by omega)) (g4 3 (by omega) (by omega)) (g 167 27 (by omega) (by omega)) (me 184 (by omega)), a15.c (g 1 6 (by omega) (by omega)) (g 167 28 (by omega) (by omega))⟩)⟩
      · unfold f10_fits
        simp only [zr]
        rw [show f10_within SZ (nI m) 0 8 I J = _ from cWi (lo := 0) (hi := 8), ha, Option.bind_some, if_neg (by decide), show f10_within SZ (nI w) 0 2 I J = _ from cWi (lo := 0) (hi := 2), hb', Option.bind_some, if_neg (by decide)]
        unfold f8_countFits
        rw [show f8_countFits_2 SZ 1000 1000 133 (nI m) 29 0 I J = some (I', J) from g0, Option.bind_some]
        exact cfin hw hb.1 hb.2 g1 g2 g3
      · show f11_fits SZ 1000 167 (nI m) (nI w) I' J = _
        unfold f11_fits
        have e2 : I' 167 2 = nI P := by rw [me 167 (by omega)]; exact a1.2.2.2.2.2
        rw [show f11_in SZ (nI m).toInt64 0 8 I' J = _ from mWi (lo := 0) (hi := 8) (by decide) (by decide), ha, Option.bind_some, if_neg (by decide), show f11_in SZ (nI w).toInt64 0 2 I' J = _ from mWi (lo := 0) (hi := 2) (by decide) (by decide), hb', Option.bind_some, if_neg (by decide), liv_eq (P := P) (by omega) hP e2, Option.bind_some, me 173 (by omega)]
        have el := a5.liv hP
        have el : I 29 8 = bsI (fun p => !decide (I 173 p = nI 0)) P := el
        rw [← el, far]
        exact fm_loop (mk := mk) (live := I 29 8) (m := nI m) (w := nI w) hP e2 (n := 1000) (by omega) hM (by rw [me 167 (by omega)]; exact m2') (hkn I' me) 1000 0 (Nat.zero_le _) (by
          have hp : 2 ^ P ≤ 2 ^ 8 := Nat.pow_le_pow_right (by decide) hP
          omega)
