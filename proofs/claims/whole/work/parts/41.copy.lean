/-! ===== part 41: copies of people: copyFrom, save, load (written by wip/whole/pre.py) ===== -/
theorem cpX {n r q a b m : Nat} {I : mm_I} {J : mm_J} (e1 : mm_rf SZ r 0 = a) (e2 : mm_rf SZ q 0 = b) (e3 : mm_al SZ a = m) (e4 : mm_al SZ b = m) (hm : m < n) (hne : b ≠ a) : f6_copyFrom SZ n r q I J = some (cpA I a b m, J) := by
  subst e1 e2 e3
  exact f6_copyFrom_eq (al_SZ _) e4 hne hm
theorem isF_far {F G : Nat} (hF : isF F) (hG : isF G) (h : F ≠ G) : F + 17 ≤ G ∨ G + 17 ≤ F := by
  rcases hF with rfl | rfl | rfl | rfl | rfl | rfl <;> rcases hG with rfl | rfl | rfl | rfl | rfl | rfl <;> first
    | exact absurd rfl h
    | omega
section CPF
variable {n F G : Nat} {I : mm_I} {J : mm_J}
theorem cpF0 (hn : 49 ≤ n) (hF : isF F) (hG : isF G) (hd : F + 17 ≤ G ∨ G + 17 ≤ F) : f6_copyFrom SZ n (F + 1) (G + 1) I J = some (cpA I (F + 2) (G + 2) 8, J) := cpX (zF hF).2.1.1 (zF hG).2.1.1 (zF hF).2.2.1 (zF hG).2.2.1 (by omega) (by omega)
theorem cpF1 (hn : 49 ≤ n) (hF : isF F) (hG : isF G) (hd : F + 17 ≤ G ∨ G + 17 ≤ F) : f6_copyFrom SZ n (F + 3) (G + 3) I J = some (cpA I (F + 4) (G + 4) 48, J) := cpX (zF hF).2.1.2.1 (zF hG).2.1.2.1 (zF hF).2.2.2.1 (zF hG).2.2.2.1 (by omega) (by omega)
theorem cpF2 (hn : 49 ≤ n) (hF : isF F) (hG : isF G) (hd : F + 17 ≤ G ∨ G + 17 ≤ F) : f6_copyFrom SZ n (F + 5) (G + 5) I J = some (cpA I (F + 6) (G + 6) 48, J) := cpX (zF hF).2.1.2.2.1 (zF hG).2.1.2.2.1 (zF hF).2.2.2.2.1 (zF hG).2.2.2.2.1 (by omega) (by omega)
theorem cpF3 (hn : 49 ≤ n) (hF : isF F) (hG : isF G) (hd : F + 17 ≤ G ∨ G + 17 ≤ F) : f6_copyFrom SZ n (F + 7) (G + 7) I J = some (cpA I (F + 8) (G + 8) 8, J) := cpX (zF hF).2.1.2.2.2.1 (zF hG).2.1.2.2.2.1 (zF hF).2.2.2.2.2.1 (zF hG).2.2.2.2.2.1 (by omega) (by omega)
theorem cpF4 (hn : 49 ≤ n) (hF : isF F) (hG : isF G) (hd : F + 17 ≤ G ∨ G + 17 ≤ F) : f6_copyFrom SZ n (F + 9) (G + 9) I J = some (cpA I (F + 10) (G + 10) 8, J) := cpX (zF hF).2.1.2.2.2.2.1 (zF hG).2.1.2.2.2.2.1 (zF hF).2.2.2.2.2.2.1 (zF hG).2.2.2.2.2.2.1 (by omega) (by omega)
theorem cpF5 (hn : 49 ≤ n) (hF : isF F) (hG : isF G) (hd : F + 17 ≤ G ∨ G + 17 ≤ F) : f6_copyFrom SZ n (F + 11) (G + 11) I J = some (cpA I (F + 12) (G + 12) 8, J) := cpX (zF hF).2.1.2.2.2.2.2.1 (zF hG).2.1.2.2.2.2.2.1 (zF hF).2.2.2.2.2.2.2.1 (zF hG).2.2.2.2.2.2.2.1 (by omega) (by omega)
theorem cpF6 (hn : 49 ≤ n) (hF : isF F) (hG : isF G) (hd : F + 17 ≤ G ∨ G + 17 ≤ F) : f6_copyFrom SZ n (F + 13) (G + 13) I J = some (cpA I (F + 14) (G + 14) 8, J) := cpX (zF hF).2.1.2.2.2.2.2.2.1 (zF hG).2.1.2.2.2.2.2.2.1 (zF hF).2.2.2.2.2.2.2.2.1 (zF hG).2.2.2.2.2.2.2.2.1 (by omega) (by omega)
theorem cpF7 (hn : 49 ≤ n) (hF : isF F) (hG : isF G) (hd : F + 17 ≤ G ∨ G + 17 ≤ F) : f6_copyFrom SZ n (F + 15) (G + 15) I J = some (cpA I (F + 16) (G + 16) 8, J) := cpX (zF hF).2.1.2.2.2.2.2.2.2 (zF hG).2.1.2.2.2.2.2.2.2 (zF hF).2.2.2.2.2.2.2.2.2 (zF hG).2.2.2.2.2.2.2.2.2 (by omega) (by omega)
end CPF
theorem copyF {n F G : Nat} (hn : 49 ≤ n) (hF : isF F) (hG : isF G) (h : F ≠ G) (I : mm_I) (J : mm_J) : ∃ I', f1_copyFrom SZ n F G I J = some (I', J) ∧ fF F I I' ∧ (∀ k, k < 8 → I' (F + 2) k = I (G + 2) k) ∧ (∀ k, k < 48 → I' (F + 4) k = I (G + 4) k) ∧ (∀ k, k < 48 → I' (F + 6) k = I (G + 6) k) ∧ (∀ k, k < 8 → I' (F + 8) k = I (G + 8) k) ∧ (∀ k, k < 8 → I' (F + 10) k = I (G + 10) k) ∧ (∀ k, k < 8 → I' (F + 12) k = I (G + 12) k) ∧ (∀ k, k < 8 → I' (F + 14) k = I (G + 14) k) ∧ (∀ k, k < 8 → I' (F + 16) k = I (G + 16) k) ∧ ∀ k, 8 ≤ k → k ≤ 12 → I' F k = I G k := by
  have hd := isF_far hF hG h
  unfold f1_copyFrom
  rw [(zF hF).1.1, (zF hG).1.1, (zF hF).1.2.1, (zF hG).1.2.1, (zF hF).1.2.2.1, (zF hG).1.2.2.1, (zF hF).1.2.2.2.1, (zF hG).1.2.2.2.1, (zF hF).1.2.2.2.2.1, (zF hG).1.2.2.2.2.1, (zF hF).1.2.2.2.2.2.1, (zF hG).1.2.2.2.2.2.1, (zF hF).1.2.2.2.2.2.2.1, (zF hG).1.2.2.2.2.2.2.1, (zF hF).1.2.2.2.2.2.2.2, (zF hG).1.2.2.2.2.2.2.2]
  rw [cpF0 hn hF hG hd, Option.bind_some, cpF1 hn hF hG hd, Option.bind_some, cpF2 hn hF hG hd, Option.bind_some, cpF3 hn hF hG hd, Option.bind_some, cpF4 hn hF hG hd, Option.bind_some, cpF5 hn hF hG hd, Option.bind_some, cpF6 hn hF hG hd, Option.bind_some, cpF7 hn hF hG hd, Option.bind_some]
  refine ⟨_, rfl, ?_, ?_, ?_, ?_, ?_, ?_, ?_, ?_, ?_, ?_⟩
  · intro r hr
    simp (disch := omega) only [mm_up_o, cpA_o]
  · intro k hk
    simp (disch := omega) only [up_o2, cpA_o, cpA_in]
  · intro k hk
    simp (disch := omega) only [up_o2, cpA_o, cpA_in]
  · intro k hk
    simp (disch := omega) only [up_o2, cpA_o, cpA_in]
  · intro k hk
    simp (disch := omega) only [up_o2, cpA_o, cpA_in]
  · intro k hk
    simp (disch := omega) only [up_o2, cpA_o, cpA_in]
  · intro k hk
    simp (disch := omega) only [up_o2, cpA_o, cpA_in]
  · intro k hk
    simp (disch := omega) only [up_o2, cpA_o, cpA_in]
  · intro k hk
    simp (disch := omega) only [up_o2, cpA_o, cpA_in]
  · intro k h1 h2
    have hk : k = 8 ∨ k = 9 ∨ k = 10 ∨ k = 11 ∨ k = 12 := by omega
    rcases hk with rfl | rfl | rfl | rfl | rfl <;> simp (disch := omega) only [up_s2, up_o2, cpA_o]
theorem rF.pt {T P N F G : Nat} {I I' : mm_I} {v : vw} (h : rF T P N G I v) (hP : P ≤ 8) (c2 : ∀ k, k < 8 → I' (F + 2) k = I (G + 2) k) (c4 : ∀ k, k < 48 → I' (F + 4) k = I (G + 4) k) (c6 : ∀ k, k < 48 → I' (F + 6) k = I (G + 6) k) (c8 : ∀ k, k < 8 → I' (F + 8) k = I (G + 8) k) (c10 : ∀ k, k < 8 → I' (F + 10) k = I (G + 10) k) (c12 : ∀ k, k < 8 → I' (F + 12) k = I (G + 12) k) (c14 : ∀ k, k < 8 → I' (F + 14) k = I (G + 14) k) (c16 : ∀ k, k < 8 → I' (F + 16) k = I (G + 16) k) (c : ∀ k, 8 ≤ k → k ≤ 12 → I' F k = I G k) : rF T P N F I' v := by
  obtain ⟨h1, h2, h3, h4, h5, h6, ⟨Lv, l1, l2⟩, h8, h9, h10, h11, h12, ⟨Wt, w1, w2⟩, ⟨Nt, n1, n2⟩, y, y1, y2, y3⟩ := h
  refine ⟨fun k hk => by rw [c4 k hk]; exact h1 k hk, h2, fun k hk q => by rw [c6 k hk]; exact h3 k hk q, h4, fun k hk => by rw [c6 k hk]; exact h5 k hk, fun p hp => by rw [c2 p (by omega)]; exact h6 p hp, ⟨Lv, by rw [c 8 (by omega) (by omega)]; exact l1, l2⟩, fun p hp => by rw [c8 p (by omega)]; exact h8 p hp, fun p hp => by rw [c10 p (by omega)]; exact h9 p hp, fun p hp q => by rw [c12 p (by omega)]; exact h10 p hp q, fun p hp => by rw [c14 p (by omega)]; exact h11 p hp, fun p hp => by rw [c16 p (by omega)]; exact h12 p hp, ⟨Wt, by rw [c 9 (by omega) (by omega)]; exact w1, w2⟩, ⟨Nt, by rw [c 10 (by omega) (by omega)]; exact n1, n2⟩, y, y1, by rw [c 11 (by omega) (by omega)]; exact y2, y3⟩
/-- the same people, as far as they are there -/
def vR (P : Nat) (v w : vw) : Prop := (∀ j k, j ≤ 10 → (k < 8 ∨ (j ≤ 1 ∧ k < 48)) → (k < P ∨ j ≤ 1 ∨ j = 3 ∨ j = 9 ∨ j = 10) → v.1 j k = w.1 j k) ∧ v.2 = w.2
theorem rF.r {T P N F : Nat} {Ic : mm_I} {v w : vw} (h : rF T P N F Ic v) (hP : P ≤ 8) (e : vR P w v) : rF T P N F Ic w := by
  obtain ⟨h1, h2, h3, h4, h5, h6, ⟨Lv, l1, l2, l3, l4⟩, h8, h9, h10, h11, h12, ⟨Wt, w1, w2⟩, ⟨Nt, n1, n2⟩, y, y1, y2, y3⟩ := h
  obtain ⟨e1, e2⟩ := e
  refine ⟨fun k hk => ?_, fun p t hp ht => ?_, fun k hk => ?_, fun k hk => ?_, h5, fun p hp => ?_, ⟨Lv, l1, fun p hp => ?_, l3, fun p hp => ?_⟩, fun p hp => ?_, fun p hp => ?_, fun p hp => ?_, fun p hp => ?_, fun p hp => ?_, ⟨Wt, w1, fun p hp => ?_, w2.2⟩, ⟨Nt, n1, fun p hp => ?_, n2.2⟩, y, y1, y2, by rw [e2]; exact y3⟩
  · rw [e1 0 k (by omega) (by omega) (by omega)]; exact h1 k hk
  · rw [e1 0 _ (by omega) (by omega) (by omega)]; exact h2 p t hp ht
  · rw [e1 0 k (by omega) (by omega) (by omega), e1 1 k (by omega) (by omega) (by omega)]; exact h3 k hk
  · rw [e1 1 k (by omega) (by omega) (by omega)]; exact h4 k hk
  · rw [e1 2 p (by omega) (by omega) (by omega)]; exact h6 p hp
  · rw [e1 3 p (by omega) (by omega) (by omega)]; exact l2 p hp
  · intro hd
    rw [e1 4 p (by omega) (by omega) (by omega), e1 5 p (by omega) (by omega) (by omega), e1 7 p (by omega) (by omega) (by omega)]
    obtain ⟨g1, g2⟩ := l4 p hp hd
    refine ⟨fun t ht => ?_, g2⟩
    rw [e1 0 _ (by omega) (by omega) (by omega)]; exact g1 t ht
  · rw [e1 4 p (by omega) (by omega) (by omega)]; exact h8 p hp
  · rw [e1 5 p (by omega) (by omega) (by omega)]; exact h9 p hp
  · rw [e1 5 p (by omega) (by omega) (by omega), e1 6 p (by omega) (by omega) (by omega)]; exact h10 p hp
  · rw [e1 7 p (by omega) (by omega) (by omega)]; exact h11 p hp
  · rw [e1 8 p (by omega) (by omega) (by omega)]; exact h12 p hp
  · rw [e1 9 p (by omega) (by omega) (by omega)]; exact w2.1 p hp
  · rw [e1 10 p (by omega) (by omega) (by omega)]; exact n2.1 p hp
/-! save -/
theorem sv1 {n a : Nat} (ha : a ≤ 360) {J : mm_J} {Im : mm_I} (G : mm_I → Prop) (hG : ∀ I, (∀ r, r ≠ 199 → I r = Im r) → (∀ c, c < 48 → I 199 (a + c) = Im 174 c ∧ I 199 (a + 48 + c) = Im 175 c) → (∀ c, (c < a ∨ a + 96 ≤ c) → I 199 c = Im 199 c) → ∃ I', f11_save_53 SZ n n 167 (nI a) (nI 0) I J = some (I', J) ∧ G I') : ∀ (d k : Nat) (I : mm_I), k ≤ 48 → 48 < k + d → (∀ r, r ≠ 199 → I r = Im r) → (∀ c, c < k → I 199 (a + c) = Im 174 c ∧ I 199 (a + 48 + c) = Im 175 c) → (∀ c, (c < a ∨ a + 96 ≤ c) → I 199 c = Im 199 c) → ∃ I', f11_save_8 SZ n d 167 (nI a) (nI k) I J = some (I', J) ∧ G I' := by
  intro d
  induction d with
  | zero => intro k I h1 h2; omega
  | succ d ih =>
    intro k I h1 h2 i1 i2 i3
    by_cases h : k = 48
    · subst h
      obtain ⟨I', g1, g2⟩ := hG I i1 i2 i3
      refine ⟨I', ?_, g2⟩
      show f11_save_8_b SZ n (f11_save_8 SZ n d) _ _ _ I J = _
      unfold f11_save_8_b
      simp (disch := omega) only [↓M1, ↓ofNat_nI, L0, L1, L2, L3, L4, L5, L6, L7, L8, L9, L10, L12, L31, L32, L40, L48, L50, L99, L100, L120, L180, L256, L500, n_lt0, n_ge0, n_let, n_lef, n_ltt, n_ltf, n_eqt, n_eqf, m_lt, m_le, m_eq, m_eq2, m_le2, m_lt2, m_nle, m_nlt, if_true, if_false, eq_self, Option.bind_some, mb0, mb1, mbb, mbn0, mbn1, not_true, not_false_eq_true, reduceIte, Bool.false_eq_true, nI_add, nI_clamp, pk_mul, in_t, in_f, in_m, zr, za, at_SZ, put_SZ, rd_at, wr_at, rd_m, wr_m]
      exact g1
    · obtain ⟨I', g1, g2⟩ := ih (k + 1) (mm_up (mm_up I 199 (a + k) (I 174 k)) 199 (a + 48 + k) (I 175 k)) (by omega) (by omega) (fun r hr => by rw [mm_up_o hr, mm_up_o hr]; exact i1 r hr) (fun c hc => by
        by_cases e : c = k
        · subst e
          refine ⟨?_, ?_⟩
          · rw [up_o2 (by omega), up_s2, i1 174 (by omega)]
          · rw [up_s2, i1 175 (by omega)]
        · simp (disch := omega) only [up_o2]
          exact i2 c (by omega)) (fun c hc => by
        simp (disch := omega) only [up_o2]
        exact i3 c hc)
      refine ⟨I', ?_, g2⟩
      show f11_save_8_b SZ n (f11_save_8 SZ n d) _ _ _ I J = _
      unfold f11_save_8_b
      simp (disch := omega) only [↓M1, ↓ofNat_nI, L0, L1, L2, L3, L4, L5, L6, L7, L8, L9, L10, L12, L31, L32, L40, L48, L50, L99, L100, L120, L180, L256, L500, n_lt0, n_ge0, n_let, n_lef, n_ltt, n_ltf, n_eqt, n_eqf, m_lt, m_le, m_eq, m_eq2, m_le2, m_lt2, m_nle, m_nlt, if_true, if_false, eq_self, Option.bind_some, mb0, mb1, mbb, mbn0, mbn1, not_true, not_false_eq_true, reduceIte, Bool.false_eq_true, nI_add, nI_clamp, pk_mul, in_t, in_f, in_m, zr, za, at_SZ, put_SZ, rd_at, wr_at, rd_m, wr_m, up_s2, up_o2]
      exact g1
/-- a person saved -/
def svp (I : mm_I) (a p : Nat) : mm_I := mm_up (mm_up (mm_up (mm_up (mm_up (mm_up (mm_up (mm_up (mm_up I 199 (a + 96 + p) (I 172 p)) 199 (a + 104 + p) (I 173 p)) 199 (a + 112 + p) (I 176 p)) 199 (a + 120 + p) (I 177 p)) 199 (a + 128 + p) (I 178 p)) 199 (a + 136 + p) (I 179 p)) 199 (a + 144 + p) (I 180 p)) 199 (a + 152 + p) (I 181 p)) 199 (a + 160 + p) (I 182 p)
theorem b01_if2 {α : Type} {b : Bool} {x y : α} : (if b01 b = nI 0 then x else y) = if b = true then y else x := by cases b <;> rfl
def sq (S : mm_Sh) (f : Nat) (off : Int32) (v0 : Nat) (v2 v3 : Int32) (k : mm_I → mm_J → Option (mm_I × mm_J)) (I : mm_I) (J : mm_J) : Option (mm_I × mm_J) :=
  if mm_inb v3 (mm_al S (mm_rf S v0 f)) = true then (if mm_inb ((v2 + off) + v3) (mm_al S (mm_rf S v0 55)) = true then k (mm_up I (mm_rf S v0 55) ((v2 + off) + v3).toNatClampNeg (I (mm_rf S v0 f) v3.toNatClampNeg)) J else none) else none
theorem save_100_c {S : mm_Sh} {n : Nat} {rec53 : Nat → Int32 → Int32 → mm_I → mm_J → Option (mm_I × mm_J)} {v0 : Nat} {v2 v3 : Int32} {s0 : Nat} {s1 s2 : Int32} {I : mm_I} {J : mm_J} : f11_save_100 S n rec53 v0 v2 v3 s0 s1 s2 I J = if mm_inb s1 (mm_al S s0) = true then sq S 16 112 v0 v2 v3 (sq S 17 120 v0 v2 v3 (sq S 18 128 v0 v2 v3 (sq S 19 136 v0 v2 v3 (sq S 20 144 v0 v2 v3 (fun I J => if mm_inb v3 (mm_al S (mm_rf S v0 21)) = true then (if I (mm_rf S v0 21) v3.toNatClampNeg = 0 then f11_save_214 S n rec53 v0 v2 v3 (mm_rf S v0 55) ((v2 + 152) + v3) 0 I J else f11_save_214 S n rec53 v0 v2 v3 (mm_rf S v0 55) ((v2 + 152) + v3) 1 I J) else none))))) (mm_up I s0 s1.toNatClampNeg s2) J else none := rfl
theorem sq_eq {f c a p o : Nat} {off : Int32} {k : mm_I → mm_J → Option (mm_I × mm_J)} {I : mm_I} {J : mm_J} (e1 : mm_rf SZ 167 f = c) (e2 : mm_al SZ c = 8) (eo : off = nI o) (ha : a ≤ 360) (hp : p < 8) (ho : o ≤ 160) : sq SZ f off 167 (nI a) (nI p) k I J = k (mm_up I 199 (a + o + p) (I c p)) J := by
  subst eo
  unfold sq
  rw [e1, e2]
  simp (disch := omega) only [↓M1, ↓ofNat_nI, L0, L1, L2, L3, L4, L5, L6, L7, L8, L9, L10, L12, L31, L32, L40, L48, L50, L99, L100, L120, L180, L256, L500, n_lt0, n_ge0, n_let, n_lef, n_ltt, n_ltf, n_eqt, n_eqf, m_lt, m_le, m_eq, m_eq2, m_le2, m_lt2, m_nle, m_nlt, if_true, if_false, eq_self, Option.bind_some, mb0, mb1, mbb, mbn0, mbn1, not_true, not_false_eq_true, reduceIte, Bool.false_eq_true, nI_add, nI_clamp, pk_mul, in_t, in_f, in_m, zr, za, at_SZ, put_SZ, rd_at, wr_at, rd_m, wr_m]
theorem y16 : mm_rf SZ 167 16 = 176 := by decide +kernel
theorem y17 : mm_rf SZ 167 17 = 177 := by decide +kernel
theorem y18 : mm_rf SZ 167 18 = 178 := by decide +kernel
theorem y19 : mm_rf SZ 167 19 = 179 := by decide +kernel
theorem y20 : mm_rf SZ 167 20 = 180 := by decide +kernel
theorem y21 : mm_rf SZ 167 21 = 181 := by decide +kernel
theorem y22 : mm_rf SZ 167 22 = 182 := by decide +kernel
theorem y12 : mm_rf SZ 167 12 = 172 := by decide +kernel
theorem y13 : mm_rf SZ 167 13 = 173 := by decide +kernel
theorem y55 : mm_rf SZ 167 55 = 199 := by decide +kernel
theorem w176 : mm_al SZ 176 = 8 := by decide +kernel
theorem w177 : mm_al SZ 177 = 8 := by decide +kernel
theorem w178 : mm_al SZ 178 = 8 := by decide +kernel
theorem w179 : mm_al SZ 179 = 8 := by decide +kernel
theorem w180 : mm_al SZ 180 = 8 := by decide +kernel
theorem w181 : mm_al SZ 181 = 8 := by decide +kernel
theorem w182 : mm_al SZ 182 = 8 := by decide +kernel
theorem w172 : mm_al SZ 172 = 8 := by decide +kernel
theorem w173 : mm_al SZ 173 = 8 := by decide +kernel
theorem w199 : mm_al SZ 199 = 540 := by decide +kernel
theorem cl (k : Nat) (h : k < 2 ^ 31) : (nI k).toNatClampNeg = k := nI_clamp h
theorem i8 {p : Nat} {c : Nat} (e : mm_al SZ c = 8) (hp : p < 8) : mm_inb (nI p) (mm_al SZ c) = true := by
  rw [e]; exact inb_nI hp (by omega)
theorem i5 {k : Nat} (hk : k < 540) : mm_inb (nI k) (mm_al SZ 199) = true := by
  rw [w199]; exact inb_nI hk (by omega)
theorem a3 (a o p : Nat) {off : Int32} (eo : off = nI o) : (nI a + off) + nI p = nI (a + o + p) := by
  subst eo
  rw [nI_add, nI_add]
section SV
variable {n a p : Nat} {rec53 : Nat → Int32 → Int32 → mm_I → mm_J → Option (mm_I × mm_J)} {I : mm_I} {J : mm_J}
theorem sv100 (ha : a ≤ 360) (hp : p < 8) {x : Int32} {b : Bool} (e : I 181 p = b01 b) : f11_save_100 SZ n rec53 167 (nI a) (nI p) 199 (nI (a + 104 + p)) x I J = f11_save_214 SZ n rec53 167 (nI a) (nI p) 199 (nI (a + 152 + p)) (b01 b) (mm_up (mm_up (mm_up (mm_up (mm_up (mm_up I 199 (a + 104 + p) x) 199 (a + 112 + p) (I 176 p)) 199 (a + 120 + p) (I 177 p)) 199 (a + 128 + p) (I 178 p)) 199 (a + 136 + p) (I 179 p)) 199 (a + 144 + p) (I 180 p)) J := by
  rw [save_100_c, if_pos (i5 (by omega)), cl (a + 104 + p) (by omega), sq_eq y16 w176 (off := 112) (o := 112) rfl ha hp (by omega), sq_eq y17 w177 (off := 120) (o := 120) rfl ha hp (by omega), sq_eq y18 w178 (off := 128) (o := 128) rfl ha hp (by omega), sq_eq y19 w179 (off := 136) (o := 136) rfl ha hp (by omega), sq_eq y20 w180 (off := 144) (o := 144) rfl ha hp (by omega)]
  rw [y21, y55, if_pos (i8 w181 hp), cl p (by omega), a3 a 152 p (off := 152) rfl]
  rw [up_o2 (by omega), up_o2 (by omega), up_o2 (by omega), up_o2 (by omega), up_o2 (by omega), up_o2 (by omega), e]
  cases b <;> rfl
theorem sv214 (ha : a ≤ 360) (hp : p < 8) {x : Int32} {b : Bool} (e : I 182 p = b01 b) : f11_save_214 SZ n rec53 167 (nI a) (nI p) 199 (nI (a + 152 + p)) x I J = f11_save_240 SZ n rec53 167 (nI a) (nI p) 199 (nI (a + 160 + p)) (b01 b) (mm_up I 199 (a + 152 + p) x) J := by
  unfold f11_save_214
  rw [if_pos (i5 (by omega)), y22, y55, if_pos (i8 w182 hp), cl p (by omega), cl (a + 152 + p) (by omega), a3 a 160 p (off := 160) rfl, up_o2 (by omega), e]
  cases b <;> rfl
theorem sv240 (ha : a ≤ 360) (hp : p < 8) {x : Int32} : f11_save_240 SZ n rec53 167 (nI a) (nI p) 199 (nI (a + 160 + p)) x I J = rec53 167 (nI a) (nI (p + 1)) (mm_up I 199 (a + 160 + p) x) J := by
  unfold f11_save_240
  rw [if_pos (i5 (by omega)), nI_clamp (by omega), nI_one]
theorem sv2_step (ha : a ≤ 360) (hp : p < 8) (b3 : ∃ b, I 173 p = b01 b) (b9 : ∃ b, I 181 p = b01 b) (b10 : ∃ b, I 182 p = b01 b) : f11_save_53_b SZ n rec53 167 (nI a) (nI p) I J = rec53 167 (nI a) (nI (p + 1)) (svp I a p) J := by
  obtain ⟨b3, e3⟩ := b3
  obtain ⟨b9, e9⟩ := b9
  obtain ⟨b10, e10⟩ := b10
  unfold f11_save_53_b
  rw [if_neg (show ¬ (8 : Int32) ≤ nI p from nI_ge (b := 8) hp (by decide)), y12, y13, y55, if_pos (i8 w172 hp), a3 a 96 p (off := 96) rfl, if_pos (i5 (by omega)), if_pos (i8 w173 hp), cl p (by omega), cl (a + 96 + p) (by omega), a3 a 104 p (off := 104) rfl, up_o2 (by omega), e3]
  have key : ∀ b : Bool, f11_save_100 SZ n rec53 167 (nI a) (nI p) 199 (nI (a + 104 + p)) (b01 b) (mm_up I 199 (a + 96 + p) (I 172 p)) J = rec53 167 (nI a) (nI (p + 1)) (mm_up (mm_up (mm_up (mm_up (mm_up (mm_up (mm_up (mm_up (mm_up I 199 (a + 96 + p) (I 172 p)) 199 (a + 104 + p) (b01 b)) 199 (a + 112 + p) (I 176 p)) 199 (a + 120 + p) (I 177 p)) 199 (a + 128 + p) (I 178 p)) 199 (a + 136 + p) (I 179 p)) 199 (a + 144 + p) (I 180 p)) 199 (a + 152 + p) (I 181 p)) 199 (a + 160 + p) (I 182 p)) J := by
    intro b
    rw [sv100 ha hp (b := b9) (by rw [up_o2 (by omega)]; exact e9), sv214 ha hp (b := b10) (by
      rw [up_o2 (by omega), up_o2 (by omega), up_o2 (by omega), up_o2 (by omega), up_o2 (by omega), up_o2 (by omega), up_o2 (by omega)]; exact e10), sv240 ha hp, e9, e10]
    rfl
  unfold svp
  rw [e3]
  cases b3
  · exact key false
  · exact key true
/-! load -/
def lq (S : mm_Sh) (f : Nat) (off : Int32) (v0 : Nat) (v2 v3 : Int32) (k : mm_I → mm_J → Option (mm_I × mm_J)) (I : mm_I) (J : mm_J) : Option (mm_I × mm_J) :=
  if mm_inb ((v2 + off) + v3) (mm_al S (mm_rf S v0 55)) = true then (if mm_inb v3 (mm_al S (mm_rf S v0 f)) = true then k (mm_up I (mm_rf S v0 f) v3.toNatClampNeg (I (mm_rf S v0 55) ((v2 + off) + v3).toNatClampNeg)) J else none) else none
theorem load_101_c {S : mm_Sh} {v0 : Nat} {v2 v3 : Int32} {s0 : Nat} {s1 s2 : Int32} : f11_load_101 S n rec53 v0 v2 v3 s0 s1 s2 I J = if mm_inb s1 (mm_al S s0) = true then (if mm_bit s2 = true then lq S 16 112 v0 v2 v3 (lq S 17 120 v0 v2 v3 (lq S 18 128 v0 v2 v3 (lq S 19 136 v0 v2 v3 (lq S 20 144 v0 v2 v3 (fun I J => if mm_inb ((v2 + 152) + v3) (mm_al S (mm_rf S v0 55)) = true then (if I (mm_rf S v0 55) ((v2 + 152) + v3).toNatClampNeg = 1 then f11_load_216 S n rec53 v0 v2 v3 (mm_rf S v0 21) v3 1 I J else f11_load_216 S n rec53 v0 v2 v3 (mm_rf S v0 21) v3 0 I J) else none))))) (mm_up I s0 s1.toNatClampNeg s2) J else none) else none := rfl
theorem lq_eq {f c o : Nat} {off : Int32} {k : mm_I → mm_J → Option (mm_I × mm_J)} (e1 : mm_rf SZ 167 f = c) (e2 : mm_al SZ c = 8) (eo : off = nI o) (ha : a ≤ 360) (hp : p < 8) (ho : o ≤ 160) : lq SZ f off 167 (nI a) (nI p) k I J = k (mm_up I c p (I 199 (a + o + p))) J := by
  subst eo
  unfold lq
  rw [e1, e2]
  simp (disch := omega) only [↓M1, ↓ofNat_nI, L0, L1, L2, L3, L4, L5, L6, L7, L8, L9, L10, L12, L31, L32, L40, L48, L50, L99, L100, L120, L180, L256, L500, n_lt0, n_ge0, n_let, n_lef, n_ltt, n_ltf, n_eqt, n_eqf, m_lt, m_le, m_eq, m_eq2, m_le2, m_lt2, m_nle, m_nlt, if_true, if_false, eq_self, Option.bind_some, mb0, mb1, mbb, mbn0, mbn1, not_true, not_false_eq_true, reduceIte, Bool.false_eq_true, nI_add, nI_clamp, pk_mul, in_t, in_f, in_m, zr, za, at_SZ, put_SZ, rd_at, wr_at, rd_m, wr_m]
/-- a person loaded -/
def ldp (I : mm_I) (a p : Nat) : mm_I := mm_up (mm_up (mm_up (mm_up (mm_up (mm_up (mm_up (mm_up (mm_up I 172 p (I 199 (a + 96 + p))) 173 p (I 199 (a + 104 + p))) 176 p (I 199 (a + 112 + p))) 177 p (I 199 (a + 120 + p))) 178 p (I 199 (a + 128 + p))) 179 p (I 199 (a + 136 + p))) 180 p (I 199 (a + 144 + p))) 181 p (I 199 (a + 152 + p))) 182 p (I 199 (a + 160 + p))
theorem ld101 (ha : a ≤ 360) (hp : p < 8) {x : Int32} (hx : mm_bit x = true) {b : Bool} (e : I 199 (a + 152 + p) = b01 b) : f11_load_101 SZ n rec53 167 (nI a) (nI p) 173 (nI p) x I J = f11_load_216 SZ n rec53 167 (nI a) (nI p) 181 (nI p) (b01 b) (mm_up (mm_up (mm_up (mm_up (mm_up (mm_up I 173 p x) 176 p (I 199 (a + 112 + p))) 177 p (I 199 (a + 120 + p))) 178 p (I 199 (a + 128 + p))) 179 p (I 199 (a + 136 + p))) 180 p (I 199 (a + 144 + p))) J := by
  rw [load_101_c, if_pos (i8 w173 hp), if_pos hx, cl p (by omega), lq_eq y16 w176 (off := 112) (o := 112) rfl ha hp (by omega), lq_eq y17 w177 (off := 120) (o := 120) rfl ha hp (by omega), lq_eq y18 w178 (off := 128) (o := 128) rfl ha hp (by omega), lq_eq y19 w179 (off := 136) (o := 136) rfl ha hp (by omega), lq_eq y20 w180 (off := 144) (o := 144) rfl ha hp (by omega)]
  rw [y21, y55, a3 a 152 p (off := 152) rfl, if_pos (i5 (by omega)), cl (a + 152 + p) (by omega)]
  rw [up_o2 (by omega), up_o2 (by omega), up_o2 (by omega), up_o2 (by omega), up_o2 (by omega), up_o2 (by omega), e]
  cases b <;> rfl
theorem ld216 (ha : a ≤ 360) (hp : p < 8) {x : Int32} (hx : mm_bit x = true) {b : Bool} (e : I 199 (a + 160 + p) = b01 b) : f11_load_216 SZ n rec53 167 (nI a) (nI p) 181 (nI p) x I J = f11_load_243 SZ n rec53 167 (nI a) (nI p) 182 (nI p) (b01 b) (mm_up I 181 p x) J := by
  unfold f11_load_216
  rw [if_pos (i8 w181 hp), if_pos hx, y22, y55, a3 a 160 p (off := 160) rfl, if_pos (i5 (by omega)), cl p (by omega), cl (a + 160 + p) (by omega), up_o2 (by omega), e]
  cases b <;> rfl
theorem ld243 (hp : p < 8) {x : Int32} (hx : mm_bit x = true) : f11_load_243 SZ n rec53 167 (nI a) (nI p) 182 (nI p) x I J = rec53 167 (nI a) (nI (p + 1)) (mm_up I 182 p x) J := by
  unfold f11_load_243
  rw [if_pos (i8 w182 hp), if_pos hx, nI_clamp (by omega), nI_one]
theorem ld2_step (ha : a ≤ 360) (hp : p < 8) (b3 : ∃ b, I 199 (a + 104 + p) = b01 b) (b9 : ∃ b, I 199 (a + 152 + p) = b01 b) (b10 : ∃ b, I 199 (a + 160 + p) = b01 b) : f11_load_53_b SZ n rec53 167 (nI a) (nI p) I J = rec53 167 (nI a) (nI (p + 1)) (ldp I a p) J := by
  obtain ⟨b3, e3⟩ := b3
  obtain ⟨b9, e9⟩ := b9
  obtain ⟨b10, e10⟩ := b10
  unfold f11_load_53_b
  rw [if_neg (show ¬ (8 : Int32) ≤ nI p from nI_ge (b := 8) hp (by decide)), y12, y13, y55, a3 a 96 p (off := 96) rfl, if_pos (i5 (by omega)), if_pos (i8 w172 hp), a3 a 104 p (off := 104) rfl, if_pos (i5 (by omega)), cl p (by omega), cl (a + 96 + p) (by omega), cl (a + 104 + p) (by omega), up_o2 (by omega), e3]
  have key : ∀ b : Bool, f11_load_101 SZ n rec53 167 (nI a) (nI p) 173 (nI p) (b01 b) (mm_up I 172 p (I 199 (a + 96 + p))) J = rec53 167 (nI a) (nI (p + 1)) (mm_up (mm_up (mm_up (mm_up (mm_up (mm_up (mm_up (mm_up (mm_up I 172 p (I 199 (a + 96 + p))) 173 p (b01 b)) 176 p (I 199 (a + 112 + p))) 177 p (I 199 (a + 120 + p))) 178 p (I 199 (a + 128 + p))) 179 p (I 199 (a + 136 + p))) 180 p (I 199 (a + 144 + p))) 181 p (I 199 (a + 152 + p))) 182 p (I 199 (a + 160 + p))) J := by
    intro b
    rw [ld101 ha hp mbb (b := b9) (by rw [up_o2 (by omega)]; exact e9), ld216 ha hp mbb (b := b10) (by
      rw [up_o2 (by omega), up_o2 (by omega), up_o2 (by omega), up_o2 (by omega), up_o2 (by omega), up_o2 (by omega), up_o2 (by omega)]; exact e10), ld243 hp mbb, e9, e10]
    rfl
  unfold ldp
  rw [e3]
  cases b3
  · exact key false
  · exact key true
end SV
