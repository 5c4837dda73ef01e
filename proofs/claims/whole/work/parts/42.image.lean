/-! ===== part 42: save and load whole; keep, goBack (written by wip/whole/pre.py) ===== -/
/-- the nine of a person stand in the image at a -/
def s9 (a q : Nat) (I Im : mm_I) : Prop := I 199 (a + 96 + q) = Im 172 q ∧ I 199 (a + 104 + q) = Im 173 q ∧ I 199 (a + 112 + q) = Im 176 q ∧ I 199 (a + 120 + q) = Im 177 q ∧ I 199 (a + 128 + q) = Im 178 q ∧ I 199 (a + 136 + q) = Im 179 q ∧ I 199 (a + 144 + q) = Im 180 q ∧ I 199 (a + 152 + q) = Im 181 q ∧ I 199 (a + 160 + q) = Im 182 q
/-- three of them are bits -/
def bt3 (P : Nat) (Im : mm_I) : Prop := ∀ q, q < P → (∃ b, Im 173 q = b01 b) ∧ (∃ b, Im 181 q = b01 b) ∧ ∃ b, Im 182 q = b01 b
theorem svp_s9 {a p : Nat} {I Im : mm_I} (hp : p < 8) (h : ∀ r, r ≠ 199 → I r = Im r) : s9 a p (svp I a p) Im := by
  unfold s9 svp
  simp (disch := omega) only [up_s2, up_o2]
  rw [h 172 (by omega), h 173 (by omega), h 176 (by omega), h 177 (by omega), h 178 (by omega), h 179 (by omega), h 180 (by omega), h 181 (by omega), h 182 (by omega)]
  exact ⟨rfl, rfl, rfl, rfl, rfl, rfl, rfl, rfl, rfl⟩
theorem svp_k {a p q : Nat} {I Im : mm_I} (hp : p < 8) (hq : q < p) (h : s9 a q I Im) : s9 a q (svp I a p) Im := by
  unfold s9 svp at *
  simp (disch := omega) only [up_o2]
  exact h
theorem svp_o {a p c : Nat} {I : mm_I} (hp : p < 8) (h : c < a + 96 ∨ a + 168 ≤ c) : svp I a p 199 c = I 199 c := by
  unfold svp
  simp (disch := omega) only [up_o2]
theorem svp_r {a p r : Nat} {I : mm_I} (h : r ≠ 199) : svp I a p r = I r := by
  unfold svp
  simp (disch := omega) only [mm_up_o]
theorem sv2 {n a : Nat} (ha : a ≤ 360) {J : mm_J} {Im : mm_I} (hb : bt3 8 Im) : ∀ (d p : Nat) (I : mm_I), p ≤ 8 → 8 < p + d → (∀ r, r ≠ 199 → I r = Im r) → (∀ c, c < 48 → I 199 (a + c) = Im 174 c ∧ I 199 (a + 48 + c) = Im 175 c) → (∀ q, q < p → s9 a q I Im) → (∀ c, (c < a ∨ a + 170 ≤ c) → I 199 c = Im 199 c) → ∃ I', f11_save_53 SZ n d 167 (nI a) (nI p) I J = some (I', J) ∧ (∀ r, r ≠ 199 → I' r = Im r) ∧ (∀ c, c < 48 → I' 199 (a + c) = Im 174 c ∧ I' 199 (a + 48 + c) = Im 175 c) ∧ (∀ q, q < 8 → s9 a q I' Im) ∧ (∀ c, (c < a ∨ a + 170 ≤ c) → I' 199 c = Im 199 c) ∧ I' 199 (a + 168) = Im 167 23 ∧ I' 199 (a + 169) = Im 167 24 := by
  intro d
  induction d with
  | zero => intro p I h1 h2; omega
  | succ d ih =>
    intro p I h1 h2 i1 i2 i3 i4
    show ∃ I', f11_save_53_b SZ n (f11_save_53 SZ n d) 167 (nI a) (nI p) I J = some (I', J) ∧ _
    by_cases h : p = 8
    · subst h
      refine ⟨mm_up (mm_up I 199 (a + 168) (I 167 23)) 199 (a + 169) (I 167 24), ?_, ?_, ?_, ?_, ?_, ?_, ?_⟩
      · unfold f11_save_53_b
        rw [if_pos (by decide), y55, show nI a + 168 = nI (a + 168) from nI_add a 168, show nI a + 169 = nI (a + 169) from nI_add a 169, if_pos (i5 (by omega)), if_pos (i5 (by omega)), cl (a + 168) (by omega), cl (a + 169) (by omega), up_o2 (by omega)]
      · intro r hr
        rw [mm_up_o hr, mm_up_o hr]; exact i1 r hr
      · intro c hc
        simp (disch := omega) only [up_o2]
        exact i2 c hc
      · intro q hq
        have := i3 q hq
        unfold s9 at *
        simp (disch := omega) only [up_o2]
        exact this
      · intro c hc
        simp (disch := omega) only [up_o2]
        exact i4 c hc
      · rw [up_o2 (by omega), up_s2, i1 167 (by omega)]
      · rw [up_s2, i1 167 (by omega)]
    · obtain ⟨b3, b9, b10⟩ := hb p (by omega)
      rw [sv2_step ha (by omega) (by rw [i1 173 (by omega)]; exact b3) (by rw [i1 181 (by omega)]; exact b9) (by rw [i1 182 (by omega)]; exact b10)]
      exact ih (p + 1) (svp I a p) (by omega) (by omega) (fun r hr => by rw [svp_r hr]; exact i1 r hr) (fun c hc => by
        rw [svp_o (by omega) (by omega), svp_o (by omega) (by omega)]
        exact i2 c hc) (fun q hq => by
        by_cases e : q = p
        · subst e
          exact svp_s9 (by omega) i1
        · exact svp_k (by omega) (by omega) (i3 q (by omega))) (fun c hc => by
        rw [svp_o (by omega) (by omega)]
        exact i4 c hc)
theorem save_all {n i : Nat} (hn : 49 ≤ n) (hi : i ≤ 2) {Im : mm_I} {J : mm_J} (hb : bt3 8 Im) : ∃ I', f11_save SZ n 167 (nI i) Im J = some (I', J) ∧ (∀ r, r ≠ 199 → I' r = Im r) ∧ (∀ c, c < 48 → I' 199 (180 * i + c) = Im 174 c ∧ I' 199 (180 * i + 48 + c) = Im 175 c) ∧ (∀ q, q < 8 → s9 (180 * i) q I' Im) ∧ (∀ c, (c < 180 * i ∨ 180 * i + 170 ≤ c) → I' 199 c = Im 199 c) ∧ I' 199 (180 * i + 168) = Im 167 23 ∧ I' 199 (180 * i + 169) = Im 167 24 := by
  unfold f11_save
  rw [show (180 : Int32) * nI i = nI (180 * i) from pk_mul 180 i]
  exact sv1 (a := 180 * i) (by omega) (Im := Im) _ (fun I h1 h2 h3 => sv2 (by omega) hb n 0 I (by omega) (by omega) h1 h2 (fun q hq => absurd hq (Nat.not_lt_zero q)) (fun c hc => h3 c (by omega))) n 0 Im (by omega) (by omega) (fun r hr => rfl) (fun c hc => absurd hc (Nat.not_lt_zero c)) (fun c hc => rfl)
theorem save_v {P i : Nat} {I' Im : mm_I} (h2 : ∀ c, c < 48 → I' 199 (180 * i + c) = Im 174 c ∧ I' 199 (180 * i + 48 + c) = Im 175 c) (h3 : ∀ q, q < 8 → s9 (180 * i) q I' Im) (h5 : I' 199 (180 * i + 168) = Im 167 23) (hP : P ≤ 8) : vR P (vImg I' i) (vCur Im) := by
  refine ⟨fun j k hj hk hkP => ?_, h5⟩
  have hj' : j = 0 ∨ j = 1 ∨ j = 2 ∨ j = 3 ∨ j = 4 ∨ j = 5 ∨ j = 6 ∨ j = 7 ∨ j = 8 ∨ j = 9 ∨ j = 10 := by omega
  have e : ∀ o, 180 * i + k + o = 180 * i + o + k := fun o => by omega
  rcases hj' with rfl | rfl | rfl | rfl | rfl | rfl | rfl | rfl | rfl | rfl | rfl
  · exact (h2 k (by omega)).1
  · show I' 199 (180 * i + k + 48) = Im 175 k
    rw [e]; exact (h2 k (by omega)).2
  · show I' 199 (180 * i + k + 96) = Im 172 k
    rw [e]; exact (h3 k (by omega)).1
  · show I' 199 (180 * i + k + 104) = Im 173 k
    rw [e]; exact (h3 k (by omega)).2.1
  · show I' 199 (180 * i + k + 112) = Im 176 k
    rw [e]; exact (h3 k (by omega)).2.2.1
  · show I' 199 (180 * i + k + 120) = Im 177 k
    rw [e]; exact (h3 k (by omega)).2.2.2.1
  · show I' 199 (180 * i + k + 128) = Im 178 k
    rw [e]; exact (h3 k (by omega)).2.2.2.2.1
  · show I' 199 (180 * i + k + 136) = Im 179 k
    rw [e]; exact (h3 k (by omega)).2.2.2.2.2.1
  · show I' 199 (180 * i + k + 144) = Im 180 k
    rw [e]; exact (h3 k (by omega)).2.2.2.2.2.2.1
  · show I' 199 (180 * i + k + 152) = Im 181 k
    rw [e]; exact (h3 k (by omega)).2.2.2.2.2.2.2.1
  · show I' 199 (180 * i + k + 160) = Im 182 k
    rw [e]; exact (h3 k (by omega)).2.2.2.2.2.2.2.2
theorem rF.bt {T P N F : Nat} {Ic Im : mm_I} (h : rF T P N F Ic (vCur Im)) : bt3 8 Im := by
  obtain ⟨h1, h2, h3, h4, h5, h6, ⟨Lv, l1, l2, l3, l4⟩, h8, h9, h10, h11, h12, ⟨Wt, w1, w2⟩, ⟨Nt, n1, n2⟩, y, y1, y2, y3⟩ := h
  exact fun q hq => ⟨⟨_, l2 q hq⟩, ⟨_, w2.1 q hq⟩, ⟨_, n2.1 q hq⟩⟩
/-! load -/
def ld9 (a q : Nat) (I Im : mm_I) : Prop := I 172 q = Im 199 (a + 96 + q) ∧ I 173 q = Im 199 (a + 104 + q) ∧ I 176 q = Im 199 (a + 112 + q) ∧ I 177 q = Im 199 (a + 120 + q) ∧ I 178 q = Im 199 (a + 128 + q) ∧ I 179 q = Im 199 (a + 136 + q) ∧ I 180 q = Im 199 (a + 144 + q) ∧ I 181 q = Im 199 (a + 152 + q) ∧ I 182 q = Im 199 (a + 160 + q)
def bti (a : Nat) (Im : mm_I) : Prop := ∀ q, q < 8 → (∃ b, Im 199 (a + 104 + q) = b01 b) ∧ (∃ b, Im 199 (a + 152 + q) = b01 b) ∧ ∃ b, Im 199 (a + 160 + q) = b01 b
theorem ld1 {n a : Nat} (ha : a ≤ 360) {J : mm_J} {Im : mm_I} (G : mm_I → Prop) (hG : ∀ I, (∀ r, r ≠ 174 → r ≠ 175 → I r = Im r) → (∀ c, c < 48 → I 174 c = Im 199 (a + c) ∧ I 175 c = Im 199 (a + 48 + c)) → ∃ I', f11_load_53 SZ n n 167 (nI a) (nI 0) I J = some (I', J) ∧ G I') : ∀ (d k : Nat) (I : mm_I), k ≤ 48 → 48 < k + d → (∀ r, r ≠ 174 → r ≠ 175 → I r = Im r) → (∀ c, c < k → I 174 c = Im 199 (a + c) ∧ I 175 c = Im 199 (a + 48 + c)) → ∃ I', f11_load_8 SZ n d 167 (nI a) (nI k) I J = some (I', J) ∧ G I' := by
  intro d
  induction d with
  | zero => intro k I h1 h2; omega
  | succ d ih =>
    intro k I h1 h2 i1 i2
    by_cases h : k = 48
    · subst h
      obtain ⟨I', g1, g2⟩ := hG I i1 i2
      refine ⟨I', ?_, g2⟩
      show f11_load_8_b SZ n (f11_load_8 SZ n d) _ _ _ I J = _
      unfold f11_load_8_b
      simp (disch := omega) only [↓M1, ↓ofNat_nI, L0, L1, L2, L3, L4, L5, L6, L7, L8, L9, L10, L12, L31, L32, L40, L48, L50, L99, L100, L120, L180, L256, L500, n_lt0, n_ge0, n_let, n_lef, n_ltt, n_ltf, n_eqt, n_eqf, m_lt, m_le, m_eq, m_eq2, m_le2, m_lt2, m_nle, m_nlt, if_true, if_false, eq_self, Option.bind_some, mb0, mb1, mbb, mbn0, mbn1, not_true, not_false_eq_true, reduceIte, Bool.false_eq_true, nI_add, nI_clamp, pk_mul, in_t, in_f, in_m, zr, za, at_SZ, put_SZ, rd_at, wr_at, rd_m, wr_m]
      exact g1
    · obtain ⟨I', g1, g2⟩ := ih (k + 1) (mm_up (mm_up I 174 k (I 199 (a + k))) 175 k (I 199 (a + 48 + k))) (by omega) (by omega) (fun r hr hs => by rw [mm_up_o hs, mm_up_o hr]; exact i1 r hr hs) (fun c hc => by
        by_cases e : c = k
        · subst e
          refine ⟨?_, ?_⟩
          · rw [up_o2 (by omega), up_s2, i1 199 (by omega) (by omega)]
          · rw [up_s2, i1 199 (by omega) (by omega)]
        · simp (disch := omega) only [up_o2]
          exact i2 c (by omega))
      refine ⟨I', ?_, g2⟩
      show f11_load_8_b SZ n (f11_load_8 SZ n d) _ _ _ I J = _
      unfold f11_load_8_b
      simp (disch := omega) only [↓M1, ↓ofNat_nI, L0, L1, L2, L3, L4, L5, L6, L7, L8, L9, L10, L12, L31, L32, L40, L48, L50, L99, L100, L120, L180, L256, L500, n_lt0, n_ge0, n_let, n_lef, n_ltt, n_ltf, n_eqt, n_eqf, m_lt, m_le, m_eq, m_eq2, m_le2, m_lt2, m_nle, m_nlt, if_true, if_false, eq_self, Option.bind_some, mb0, mb1, mbb, mbn0, mbn1, not_true, not_false_eq_true, reduceIte, Bool.false_eq_true, nI_add, nI_clamp, pk_mul, in_t, in_f, in_m, zr, za, at_SZ, put_SZ, rd_at, wr_at, rd_m, wr_m, up_s2, up_o2]
      exact g1
theorem ldp_s {a p : Nat} {I Im : mm_I} (hp : p < 8) (h : I 199 = Im 199) : ld9 a p (ldp I a p) Im := by
  unfold ld9 ldp
  simp (disch := omega) only [up_s2, up_o2]
  rw [h]
  exact ⟨rfl, rfl, rfl, rfl, rfl, rfl, rfl, rfl, rfl⟩
theorem ldp_k {a p q : Nat} {I Im : mm_I} (hq : q < p) (h : ld9 a q I Im) : ld9 a q (ldp I a p) Im := by
  unfold ld9 ldp at *
  simp (disch := omega) only [up_o2]
  exact h
theorem ldp_r {a p r : Nat} {I : mm_I} (h : (r < 172 ∨ 182 < r) ∨ r = 174 ∨ r = 175) : ldp I a p r = I r := by
  unfold ldp
  simp (disch := omega) only [mm_up_o]
theorem ld2 {n a : Nat} (ha : a ≤ 360) {J : mm_J} {Im : mm_I} (hb : bti a Im) : ∀ (d p : Nat) (I : mm_I), p ≤ 8 → 8 < p + d → (∀ r, (r < 172 ∨ 182 < r) → I r = Im r) → (∀ c, c < 48 → I 174 c = Im 199 (a + c) ∧ I 175 c = Im 199 (a + 48 + c)) → (∀ q, q < p → ld9 a q I Im) → ∃ I', f11_load_53 SZ n d 167 (nI a) (nI p) I J = some (I', J) ∧ fV Im I' ∧ (∀ c, c < 48 → I' 174 c = Im 199 (a + c) ∧ I' 175 c = Im 199 (a + 48 + c)) ∧ (∀ q, q < 8 → ld9 a q I' Im) ∧ I' 167 23 = Im 199 (a + 168) ∧ I' 167 24 = Im 199 (a + 169) := by
  intro d
  induction d with
  | zero => intro p I h1 h2; omega
  | succ d ih =>
    intro p I h1 h2 i1 i2 i3
    show ∃ I', f11_load_53_b SZ n (f11_load_53 SZ n d) 167 (nI a) (nI p) I J = some (I', J) ∧ _
    by_cases h : p = 8
    · subst h
      refine ⟨mm_up (mm_up I 167 23 (I 199 (a + 168))) 167 24 (I 199 (a + 169)), ?_, ⟨?_, ?_⟩, ?_, ?_, ?_, ?_⟩
      · unfold f11_load_53_b
        rw [if_pos (by decide), y55, show nI a + 168 = nI (a + 168) from nI_add a 168, show nI a + 169 = nI (a + 169) from nI_add a 169, if_pos (i5 (by omega)), if_pos (i5 (by omega)), cl (a + 168) (by omega), cl (a + 169) (by omega), up_o2 (by omega)]
      · intro r hr hs
        rw [mm_up_o hr, mm_up_o hr]; exact i1 r hs
      · intro q h1 h2
        rw [up_o2 (by omega), up_o2 (by omega), i1 167 (by omega)]
      · intro c hc
        simp (disch := omega) only [up_o2]
        exact i2 c hc
      · intro q hq
        have := i3 q hq
        unfold ld9 at *
        simp (disch := omega) only [up_o2]
        exact this
      · rw [up_o2 (by omega), up_s2, i1 199 (by omega)]
      · rw [up_s2, i1 199 (by omega)]
    · obtain ⟨b3, b9, b10⟩ := hb p (by omega)
      rw [ld2_step ha (by omega) (by rw [i1 199 (by omega)]; exact b3) (by rw [i1 199 (by omega)]; exact b9) (by rw [i1 199 (by omega)]; exact b10)]
      exact ih (p + 1) (ldp I a p) (by omega) (by omega) (fun r hr => by rw [ldp_r (Or.inl hr)]; exact i1 r hr) (fun c hc => by
        rw [ldp_r (by omega), ldp_r (by omega)]
        exact i2 c hc) (fun q hq => by
        by_cases e : q = p
        · subst e
          exact ldp_s (by omega) (i1 199 (by omega))
        · exact ldp_k (by omega) (i3 q (by omega)))
theorem load_all {n i : Nat} (hn : 49 ≤ n) (hi : i ≤ 2) {Im : mm_I} {J : mm_J} (hb : bti (180 * i) Im) : ∃ I', f11_load SZ n 167 (nI i) Im J = some (I', J) ∧ fV Im I' ∧ (∀ c, c < 48 → I' 174 c = Im 199 (180 * i + c) ∧ I' 175 c = Im 199 (180 * i + 48 + c)) ∧ (∀ q, q < 8 → ld9 (180 * i) q I' Im) ∧ I' 167 23 = Im 199 (180 * i + 168) ∧ I' 167 24 = Im 199 (180 * i + 169) := by
  unfold f11_load
  rw [show (180 : Int32) * nI i = nI (180 * i) from pk_mul 180 i]
  exact ld1 (a := 180 * i) (by omega) (Im := Im) _ (fun I h1 h2 => ld2 (by omega) hb n 0 I (by omega) (by omega) (fun r hr => h1 r (by omega) (by omega)) h2 (fun q hq => absurd hq (Nat.not_lt_zero q))) n 0 Im (by omega) (by omega) (fun r _ _ => rfl) (fun c hc => absurd hc (Nat.not_lt_zero c))
theorem load_v {P i : Nat} {I' Im : mm_I} (h2 : ∀ c, c < 48 → I' 174 c = Im 199 (180 * i + c) ∧ I' 175 c = Im 199 (180 * i + 48 + c)) (h3 : ∀ q, q < 8 → ld9 (180 * i) q I' Im) (h5 : I' 167 23 = Im 199 (180 * i + 168)) (hP : P ≤ 8) : vR P (vCur I') (vImg Im i) := by
  refine ⟨fun j k hj hk hkP => ?_, h5⟩
  have hj' : j = 0 ∨ j = 1 ∨ j = 2 ∨ j = 3 ∨ j = 4 ∨ j = 5 ∨ j = 6 ∨ j = 7 ∨ j = 8 ∨ j = 9 ∨ j = 10 := by omega
  have e : ∀ o, 180 * i + k + o = 180 * i + o + k := fun o => by omega
  rcases hj' with rfl | rfl | rfl | rfl | rfl | rfl | rfl | rfl | rfl | rfl | rfl
  · exact (h2 k (by omega)).1
  · show I' 175 k = Im 199 (180 * i + k + 48)
    rw [e]; exact (h2 k (by omega)).2
  · show I' 172 k = Im 199 (180 * i + k + 96)
    rw [e]; exact (h3 k (by omega)).1
  · show I' 173 k = Im 199 (180 * i + k + 104)
    rw [e]; exact (h3 k (by omega)).2.1
  · show I' 176 k = Im 199 (180 * i + k + 112)
    rw [e]; exact (h3 k (by omega)).2.2.1
  · show I' 177 k = Im 199 (180 * i + k + 120)
    rw [e]; exact (h3 k (by omega)).2.2.2.1
  · show I' 178 k = Im 199 (180 * i + k + 128)
    rw [e]; exact (h3 k (by omega)).2.2.2.2.1
  · show I' 179 k = Im 199 (180 * i + k + 136)
    rw [e]; exact (h3 k (by omega)).2.2.2.2.2.1
  · show I' 180 k = Im 199 (180 * i + k + 144)
    rw [e]; exact (h3 k (by omega)).2.2.2.2.2.2.1
  · show I' 181 k = Im 199 (180 * i + k + 152)
    rw [e]; exact (h3 k (by omega)).2.2.2.2.2.2.2.1
  · show I' 182 k = Im 199 (180 * i + k + 160)
    rw [e]; exact (h3 k (by omega)).2.2.2.2.2.2.2.2
theorem rF.bti {T P N F i : Nat} {Ic Im : mm_I} (h : rF T P N F Ic (vImg Im i)) : bti (180 * i) Im := by
  obtain ⟨h1, h2, h3, h4, h5, h6, ⟨Lv, l1, l2, l3, l4⟩, h8, h9, h10, h11, h12, ⟨Wt, w1, w2⟩, ⟨Nt, n1, n2⟩, y, y1, y2, y3⟩ := h
  have e : ∀ o k, 180 * i + k + o = 180 * i + o + k := fun o k => by omega
  refine fun q hq => ⟨⟨Lv q, ?_⟩, ⟨Wt q, ?_⟩, ⟨Nt q, ?_⟩⟩
  · rw [← e]; exact l2 q hq
  · rw [← e]; exact w2.1 q hq
  · rw [← e]; exact n2.1 q hq
theorem rI.o {T P N i F : Nat} {Ic Ic' Im Im' : mm_I} (h : rI T P N i F Ic Im) (hP : P ≤ 8) (hc : ∀ k, k ≤ 16 → Ic' (F + k) = Ic (F + k)) (m1 : ∀ c, 180 * i ≤ c → c < 180 * i + 170 → Im' 199 c = Im 199 c) (m2 : Im' 200 i = Im 200 i) : rI T P N i F Ic' Im' := by
  obtain ⟨b, h1, h2⟩ := h
  refine ⟨b, by rw [m2]; exact h1, fun hb => ?_⟩
  obtain ⟨g1, s, hs, g2, g3⟩ := h2 hb
  have e := hc 0 (by omega)
  rw [Nat.add_zero] at e
  refine ⟨(g1.c hc rfl).r hP ⟨fun j k hj hk _ => ?_, m1 _ (by omega) (by omega)⟩, s, hs, by rw [e]; exact g2, by rw [m1 _ (by omega) (by omega)]; exact g3⟩
  have hj' : j = 0 ∨ j = 1 ∨ j = 2 ∨ j = 3 ∨ j = 4 ∨ j = 5 ∨ j = 6 ∨ j = 7 ∨ j = 8 ∨ j = 9 ∨ j = 10 := by omega
  rcases hj' with rfl | rfl | rfl | rfl | rfl | rfl | rfl | rfl | rfl | rfl | rfl <;> exact m1 _ (by simp only []; omega) (by simp only []; omega)
/-- what keep leaves alone -/
def fK (F : Nat) (I I' : mm_I) : Prop := (∀ r, r ≠ 0 → (r < F ∨ F + 16 < r) → I' r = I r) ∧ ∀ k, k ≠ 19 → I' 0 k = I 0 k
theorem rAll.keep {T P N i F G : Nat} {Ic Ic' Im Im' : mm_I} (h : rAll T P N Ic Im) (hF : (i = 0 ∧ F = 97 ∧ G = 114) ∨ (i = 1 ∧ F = 114 ∧ G = 97)) (fc : fK F Ic Ic') (m1 : ∀ r, r ≠ 199 → r ≠ 200 → Im' r = Im r) (m2 : ∀ c, (c < 180 * i ∨ 180 * i + 170 ≤ c) → Im' 199 c = Im 199 c) (hI : rI T P N i F Ic' Im') (m3 : Im' 200 (1 - i) = Im 200 (1 - i)) (hK : rK Ic' Im') : rAll T P N Ic' Im' := by
  obtain ⟨a1, a2, a3, a4, a5, a6, a7, a8, a9, a10, a11, a12, a13, a14, a15⟩ := h
  have hP := a1.2.1
  obtain ⟨e', f'⟩ := fc
  have e : ∀ r, r ≠ 0 → (r < 97 ∨ 130 < r) → Ic' r = Ic r := fun r h1 h2 => e' r h1 (by omega)
  have g : ∀ r k, r ≠ 0 → (r < 97 ∨ 130 < r) → Ic' r k = Ic r k := fun r k h1 h2 => by rw [e r h1 h2]
  have q : ∀ r k, r ≠ 199 → r ≠ 200 → Im' r k = Im r k := fun r k h1 h2 => by rw [m1 r h1 h2]
  refine ⟨a1.c (g 4 5 (by omega) (by omega)) (g 4 6 (by omega) (by omega)) (q 167 0 (by omega) (by omega)) (q 167 2 (by omega) (by omega)), a2.c (e 6 (by omega) (by omega)) (e 8 (by omega) (by omega)) (e 10 (by omega) (by omega)) (e 12 (by omega) (by omega)) (m1 168 (by omega) (by omega)), a3.c (e 14 (by omega) (by omega)) (m1 171 (by omega) (by omega)), a4.c (fun k _ => g 26 k (by omega) (by omega)) (fun k h1 h2 => q 167 k (by omega) (by omega)), a5.c (fun k _ => e _ (by omega) (by omega)) (vCur_c (fun r h1 h2 => m1 r (by omega) (by omega)) (q 167 23 (by omega) (by omega))), a6.c (g 29 12 (by omega) (by omega)) (q 167 24 (by omega) (by omega)), a7.c (fun k _ => e _ (by omega) (by omega)) (vTold_c (m1 170 (by omega) (by omega)) (m1 169 (by omega) (by omega))), ?_, ?_, hK, a11.c (e 132 (by omega) (by omega)) (m1 183 (by omega) (by omega)), a12.c (g 133 6 (by omega) (by omega)) (e 135 (by omega) (by omega)) (e 137 (by omega) (by omega)) (q 167 48 (by omega) (by omega)) (m1 194 (by omega) (by omega)) (m1 195 (by omega) (by omega)), a13.c (g 133 7 (by omega) (by omega)) (e 141 (by omega) (by omega)) (e 143 (by omega) (by omega)) (e 145 (by omega) (by omega)) (q 167 51 (by omega) (by omega)) (m1 196 (by omega) (by omega)) (m1 197 (by omega) (by omega)) (m1 198 (by omega) (by omega)), a14.c (g 1 1 (by omega) (by omega)) (e 3 (by omega) (by omega)) (q 167 27 (by omega) (by omega)) (m1 184 (by omega) (by omega)), a15.c (g 1 6 (by omega) (by omega)) (q 167 28 (by omega) (by omega))⟩
  · rcases hF with ⟨rfl, rfl, rfl⟩ | ⟨rfl, rfl, rfl⟩
    · exact hI
    · exact a8.o hP (fun k _ => e' _ (by omega) (by omega)) (fun c _ _ => m2 c (by omega)) m3
  · rcases hF with ⟨rfl, rfl, rfl⟩ | ⟨rfl, rfl, rfl⟩
    · exact a9.o hP (fun k _ => e' _ (by omega) (by omega)) (fun c _ _ => m2 c (by omega)) m3
    · exact hI
theorem st_keep : St_keep Inv := by
  intro k hk a I J h
  have h0 := h
  obtain ⟨T, P, hA⟩ := h
  have hP := hA.1.2.1
  rcases bnd_cases 0 1 (by decide) (by decide) a with hb | ⟨i, -, hi, rfl, hb⟩
  · refine ⟨1000, (-1000000001, I, J), (-1000000001, I, J), ?_, ?_, rfl, Inv_mono k I J h0⟩
    · unfold f10_keep
      rw [show f10_within SZ a 0 1 I J = _ from cWi (lo := 0) (hi := 1), hb]; rfl
    · show f11_keep SZ 1000 167 a I J = _
      unfold f11_keep
      rw [show f11_in SZ a.toInt64 0 1 I J = _ from mWi (lo := 0) (hi := 1) (by decide) (by decide), hb]; rfl
  · have go : ∀ (F G : Nat), ((i = 0 ∧ F = 97 ∧ G = 114) ∨ (i = 1 ∧ F = 114 ∧ G = 97)) → ∃ (n : Nat) (o1 o2 : Int32 × mm_I × mm_J), f10_keep SZ n 0 (nI i) I J = some o1 ∧ f11_keep SZ n 167 (nI i) o1.2.1 o1.2.2 = some o2 ∧ o1.1 = o2.1 ∧ Inv (k + 1) o2.2.1 o2.2.2 := by
      intro F G hF
      have iF : isF F := by
        rcases hF with ⟨-, rfl, -⟩ | ⟨-, rfl, -⟩
        · exact Or.inr (Or.inr (Or.inr (Or.inr (Or.inl rfl))))
        · exact Or.inr (Or.inr (Or.inr (Or.inr (Or.inr rfl))))
      have hFn : 97 ≤ F ∧ F ≤ 114 := by omega
      have hz : nI 0 = 0 := rfl
      have him : f10_image SZ 0 (nI i) I J = some F := by
        unfold f10_image f10_image_15
        rcases hF with ⟨rfl, rfl, -⟩ | ⟨rfl, rfl, -⟩ <;> simp only [zr] <;> rfl
      obtain ⟨I', c0, cf, c2, c4, c6, c8, c10, c12, c14, c16, cc⟩ := copyF (n := 1000) (by omega) iF (Or.inl rfl : isF 29) (by omega) I J
      have e19 : I' 0 19 = I 0 19 := by rw [cf 0 (by omega)]
      have fk : fK F I (mm_up I' 0 19 (I 0 19 ||| ((1 : Int32) <<< (nI i &&& 31)))) := ⟨fun r h1 h2 => by rw [mm_up_o h1]; exact cf r h2, fun q hq => by rw [up_o2 (by omega), cf 0 (by omega)]⟩
      have me : ∀ r, 167 ≤ r → (mm_up I' 0 19 (I 0 19 ||| ((1 : Int32) <<< (nI i &&& 31)))) r = I r := fun r hr => fk.1 r (by omega) (by omega)
      have hB := hA.m me
      obtain ⟨b1, b2, b3, b4, b5, b6, b7, b8, b9, b10, b11⟩ := hB
      obtain ⟨I2, s0, s1, s2, s3, s4, s5, s6⟩ := save_all (n := 1000) (i := i) (by omega) (by omega) (J := J) b5.bt
      have hB := hA.m me
      refine ⟨1000, (1, mm_up I' 0 19 (I 0 19 ||| ((1 : Int32) <<< (nI i &&& 31))), J), (1, mm_up I2 200 i 1, J), ?_, ?_, rfl, T, P, ((hB.keep (Ic' := mm_up I' 0 19 (I 0 19 ||| ((1 : Int32) <<< (nI i &&& 31)))) (Im' := mm_up I2 200 i 1) hF fk (fun r h1 h2 => by rw [mm_up_o h2]; exact s1 r h1) (fun c hc => by rw [up_o2 (by omega)]; exact s4 c hc) ?_ (by rw [up_o2 (by omega), s1 200 (by omega)]) ?_).k ?_).mono (by omega)⟩
      · unfold f10_keep
        rw [show f10_within SZ (nI i) 0 1 I J = _ from cWi (lo := 0) (hi := 1), hb, Option.bind_some, if_neg (by decide), him, Option.bind_some]
        simp only [zr]
        rw [c0, Option.bind_some]
        show some (_, mm_up I' 0 19 (I' 0 19 ||| ((1 : Int32) <<< (nI i &&& 31))), J) = _
        rw [e19]
      · show f11_keep SZ 1000 167 (nI i) (mm_up I' 0 19 (I 0 19 ||| ((1 : Int32) <<< (nI i &&& 31)))) J = _
        unfold f11_keep
        rw [show f11_in SZ (nI i).toInt64 0 1 _ J = _ from mWi (lo := 0) (hi := 1) (by decide) (by decide), hb, Option.bind_some, if_neg (by decide), s0, Option.bind_some]
        simp (disch := omega) only [↓M1, ↓ofNat_nI, L0, L1, L2, L3, L4, L5, L6, L7, L8, L9, L10, L12, L31, L32, L40, L48, L50, L99, L100, L120, L180, L256, L500, n_lt0, n_ge0, n_let, n_lef, n_ltt, n_ltf, n_eqt, n_eqf, m_lt, m_le, m_eq, m_eq2, m_le2, m_lt2, m_nle, m_nlt, if_true, if_false, eq_self, Option.bind_some, mb0, mb1, mbb, mbn0, mbn1, not_true, not_false_eq_true, reduceIte, Bool.false_eq_true, nI_add, nI_clamp, pk_mul, in_t, in_f, in_m, zr, za, at_SZ, put_SZ, rd_at, wr_at, rd_m, wr_m]
      · refine ⟨true, up_s2, fun _ => ?_⟩
        obtain ⟨s, hs, t1, t2⟩ := b6
        refine ⟨?_, s, hs, ?_, ?_⟩
        · have r1 : rF T P (100 * k) F I' (vCur (mm_up I' 0 19 (I 0 19 ||| ((1 : Int32) <<< (nI i &&& 31))))) := b5.pt hP c2 c4 c6 c8 c10 c12 c14 c16 cc
          have r2 := r1.r hP (save_v s2 s3 s5 hP)
          refine (r2.c (Ic' := mm_up I' 0 19 (I 0 19 ||| ((1 : Int32) <<< (nI i &&& 31)))) (fun q _ => mm_up_o (by omega)) ?_)
          unfold vImg
          rw [mm_up_o (by omega)]
        · rw [up_o2 (by omega), cc 12 (by omega) (by omega)]; exact t1
        · rw [up_o2 (by omega), s6]; exact t2
      · obtain ⟨x, y, k1, k2, k3⟩ := b10
        rcases hF with ⟨rfl, -, -⟩ | ⟨rfl, -, -⟩
        · refine ⟨true, y, up_s2, by rw [up_o2 (by omega), s1 200 (by omega)]; exact k2, ?_⟩
          rw [up_s2, k3]
          cases x <;> cases y <;> decide
        · refine ⟨x, true, by rw [up_o2 (by omega), s1 200 (by omega)]; exact k1, up_s2, ?_⟩
          rw [up_s2, k3]
          cases x <;> cases y <;> decide
      · intro r hr
        show mm_up I2 200 i 1 r = mm_up I' 0 19 (I 0 19 ||| ((1 : Int32) <<< (nI i &&& 31))) r
        rw [mm_up_o (by omega), s1 r (by omega)]
    rcases (by omega : i = 0 ∨ i = 1) with rfl | rfl
    · exact go 97 114 (Or.inl ⟨rfl, rfl, rfl⟩)
    · exact go 114 97 (Or.inr ⟨rfl, rfl, rfl⟩)
theorem st_goBack : St_goBack Inv := by
  intro k hk a I J h
  have h0 := h
  obtain ⟨T, P, hA⟩ := h
  have hP := hA.1.2.1
  rcases bnd_cases 0 1 (by decide) (by decide) a with hb | ⟨i, -, hi, rfl, hb⟩
  · refine ⟨1000, (-1000000001, I, J), (-1000000001, I, J), ?_, ?_, rfl, Inv_mono k I J h0⟩
    · unfold f10_goBack
      rw [show f10_within SZ a 0 1 I J = _ from cWi (lo := 0) (hi := 1), hb]; rfl
    · show f11_goBack SZ 1000 167 a I J = _
      unfold f11_goBack
      rw [show f11_in SZ a.toInt64 0 1 I J = _ from mWi (lo := 0) (hi := 1) (by decide) (by decide), hb]; rfl
  · have go : ∀ (F : Nat), ((i = 0 ∧ F = 97) ∨ (i = 1 ∧ F = 114)) → rI T P (100 * k) i F I I → ∃ (n : Nat) (o1 o2 : Int32 × mm_I × mm_J), f10_goBack SZ n 0 (nI i) I J = some o1 ∧ f11_goBack SZ n 167 (nI i) o1.2.1 o1.2.2 = some o2 ∧ o1.1 = o2.1 ∧ Inv (k + 1) o2.2.1 o2.2.2 := by
      intro F hF hI
      have iF : isF F := by
        rcases hF with ⟨-, rfl⟩ | ⟨-, rfl⟩
        · exact Or.inr (Or.inr (Or.inr (Or.inr (Or.inl rfl))))
        · exact Or.inr (Or.inr (Or.inr (Or.inr (Or.inr rfl))))
      have hFn : 97 ≤ F ∧ F ≤ 114 := by omega
      have him : f10_image SZ 0 (nI i) I J = some F := by
        unfold f10_image f10_image_15
        rcases hF with ⟨rfl, rfl⟩ | ⟨rfl, rfl⟩ <;> simp only [zr] <;> rfl
      obtain ⟨b, h1, h2⟩ := hI
      have hhas : f10_has SZ (I 0 19) (nI i) I J = some (b01 b) := by
        obtain ⟨x, y, k1, k2, k3⟩ := hA.2.2.2.2.2.2.2.2.2.1
        rw [k3]
        rcases hF with ⟨rfl, -⟩ | ⟨rfl, -⟩
        · have : b = x := by
            rw [k1] at h1
            cases b <;> cases x <;> first | rfl | exact absurd h1 (by decide)
          subst this
          cases b <;> cases y <;> rfl
        · have : b = y := by
            rw [k2] at h1
            cases b <;> cases y <;> first | rfl | exact absurd h1 (by decide)
          subst this
          cases b <;> cases x <;> rfl
      cases b with
      | false =>
        refine ⟨1000, (-1000000003, I, J), (-1000000003, I, J), ?_, ?_, rfl, Inv_mono k I J h0⟩
        · unfold f10_goBack
          rw [show f10_within SZ (nI i) 0 1 I J = _ from cWi (lo := 0) (hi := 1), hb, Option.bind_some, if_neg (by decide)]
          simp only [zr]
          rw [hhas, Option.bind_some, if_pos (by decide)]
        · show f11_goBack SZ 1000 167 (nI i) I J = _
          unfold f11_goBack
          rw [show f11_in SZ (nI i).toInt64 0 1 _ J = _ from mWi (lo := 0) (hi := 1) (by decide) (by decide), hb, Option.bind_some, if_neg (by decide)]
          simp (disch := omega) only [↓M1, ↓ofNat_nI, L0, L1, L2, L3, L4, L5, L6, L7, L8, L9, L10, L12, L31, L32, L40, L48, L50, L99, L100, L120, L180, L256, L500, n_lt0, n_ge0, n_let, n_lef, n_ltt, n_ltf, n_eqt, n_eqf, m_lt, m_le, m_eq, m_eq2, m_le2, m_lt2, m_nle, m_nlt, if_true, if_false, eq_self, Option.bind_some, mb0, mb1, mbb, mbn0, mbn1, not_true, not_false_eq_true, reduceIte, Bool.false_eq_true, nI_add, nI_clamp, pk_mul, in_t, in_f, in_m, zr, za, at_SZ, put_SZ, rd_at, wr_at, rd_m, wr_m, h1]
          rw [if_pos (by decide)]
      | true =>
        obtain ⟨g1, s, hs, g2, g3⟩ := h2 rfl
        obtain ⟨I', c0, cf, c2, c4, c6, c8, c10, c12, c14, c16, cc⟩ := copyF (n := 1000) (by omega) (Or.inl rfl : isF 29) iF (by omega) I J
        have me : ∀ r, 167 ≤ r → I' r = I r := fun r hr => cf r (by omega)
        have ev : vImg I' i = vImg I i := by
          unfold vImg
          rw [me 199 (by omega)]
        have g1' : rF T P (100 * k) F I (vImg I' i) := by rw [ev]; exact g1
        obtain ⟨I2, s0, sf, s2, s3, s5, s6⟩ := load_all (n := 1000) (i := i) (by omega) (by omega) (J := J) g1'.bti
        have r1 : rF T P (100 * k) 29 I' (vImg I' i) := g1'.pt hP c2 c4 c6 c8 c10 c12 c14 c16 cc
        refine ⟨1000, (1, I', J), (1, I2, J), ?_, ?_, rfl, Inv_folk hA cf sf ((r1.r hP (load_v s2 s3 s5 hP)).mono (by omega)) ⟨s, hs, ?_, ?_⟩⟩
        · unfold f10_goBack
          rw [show f10_within SZ (nI i) 0 1 I J = _ from cWi (lo := 0) (hi := 1), hb, Option.bind_some, if_neg (by decide)]
          simp only [zr]
          rw [hhas, Option.bind_some, if_neg (by decide), him, Option.bind_some, c0, Option.bind_some]
        · show f11_goBack SZ 1000 167 (nI i) I' J = _
          unfold f11_goBack
          rw [show f11_in SZ (nI i).toInt64 0 1 _ J = _ from mWi (lo := 0) (hi := 1) (by decide) (by decide), hb, Option.bind_some, if_neg (by decide)]
          simp (disch := omega) only [↓M1, ↓ofNat_nI, L0, L1, L2, L3, L4, L5, L6, L7, L8, L9, L10, L12, L31, L32, L40, L48, L50, L99, L100, L120, L180, L256, L500, n_lt0, n_ge0, n_let, n_lef, n_ltt, n_ltf, n_eqt, n_eqf, m_lt, m_le, m_eq, m_eq2, m_le2, m_lt2, m_nle, m_nlt, if_true, if_false, eq_self, Option.bind_some, mb0, mb1, mbb, mbn0, mbn1, not_true, not_false_eq_true, reduceIte, Bool.false_eq_true, nI_add, nI_clamp, pk_mul, in_t, in_f, in_m, zr, za, at_SZ, put_SZ, rd_at, wr_at, rd_m, wr_m, me 200 (by omega), h1]
          rw [if_neg (by decide), s0, Option.bind_some]
        · rw [cc 12 (by omega) (by omega)]; exact g2
        · show I2 167 24 = nI s
          rw [s6, me 199 (by omega)]; exact g3
    rcases (by omega : i = 0 ∨ i = 1) with rfl | rfl
    · exact go 97 (Or.inl ⟨rfl, rfl⟩) hA.2.2.2.2.2.2.2.1
    · exact go 114 (Or.inr ⟨rfl, rfl⟩) hA.2.2.2.2.2.2.2.2.1
