/-! ===== part 69: texts read: places, tokens, numbers, words (written by wip/whole/pre.py) ===== -/
/-- the end of a run; d = L - k at the place k -/
def rn (p : Nat → Bool) (L : Nat) : Nat → Nat
  | 0 => L
  | d + 1 => if p (L - (d + 1)) = true then rn p L d else L - (d + 1)
theorem rn_le (p : Nat → Bool) (L : Nat) : ∀ d, rn p L d ≤ L
  | 0 => Nat.le_refl L
  | d + 1 => by
    unfold rn
    split
    · exact rn_le p L d
    · omega
theorem rn_ge (p : Nat → Bool) (L : Nat) : ∀ d, L - d ≤ rn p L d
  | 0 => Nat.le_refl _
  | d + 1 => by
    unfold rn
    split
    · have := rn_ge p L d
      omega
    · exact Nat.le_refl _
theorem rn_in (p : Nat → Bool) (L : Nat) : ∀ d, d ≤ L → ∀ k, L - d ≤ k → k < rn p L d → p k = true
  | 0, _, k, h1, h2 => by
    have : rn p L 0 = L := rfl
    omega
  | d + 1, hd, k, h1, h2 => by
    unfold rn at h2
    by_cases c : p (L - (d + 1)) = true
    · rw [if_pos c] at h2
      by_cases e : k = L - (d + 1)
      · rw [e]; exact c
      · exact rn_in p L d (by omega) k (by omega) h2
    · rw [if_neg c] at h2
      omega
theorem rn_at (p : Nat → Bool) (L : Nat) : ∀ d, rn p L d < L → p (rn p L d) = false
  | 0, h => absurd h (Nat.lt_irrefl L)
  | d + 1, h => by
    by_cases c : p (L - (d + 1)) = true
    · have e : rn p L (d + 1) = rn p L d := if_pos c
      rw [e] at h ⊢
      exact rn_at p L d h
    · have e : rn p L (d + 1) = L - (d + 1) := if_neg c
      rw [e]
      exact eq_false_of_ne_true c
/-- from a place on -/
def rnk (p : Nat → Bool) (L k : Nat) : Nat := rn p L (L - k)
theorem rnk_L {p : Nat → Bool} {L : Nat} : rnk p L L = L := by
  unfold rnk
  rw [Nat.sub_self]
  rfl
theorem rnk_t {p : Nat → Bool} {L k : Nat} (hk : k < L) (h : p k = true) : rnk p L k = rnk p L (k + 1) := by
  unfold rnk
  obtain ⟨d, hd⟩ : ∃ d, L - k = d + 1 := ⟨L - k - 1, by omega⟩
  rw [hd, show L - (k + 1) = d by omega]
  show (if p (L - (d + 1)) = true then rn p L d else L - (d + 1)) = _
  rw [show L - (d + 1) = k by omega, if_pos h]
theorem rnk_f {p : Nat → Bool} {L k : Nat} (hk : k < L) (h : p k = false) : rnk p L k = k := by
  unfold rnk
  obtain ⟨d, hd⟩ : ∃ d, L - k = d + 1 := ⟨L - k - 1, by omega⟩
  rw [hd]
  show (if p (L - (d + 1)) = true then rn p L d else L - (d + 1)) = _
  rw [show L - (d + 1) = k by omega, h, if_neg (by decide)]
theorem rnk_le {p : Nat → Bool} {L k : Nat} : rnk p L k ≤ L := rn_le p L _
theorem rnk_ge {p : Nat → Bool} {L k : Nat} (hk : k ≤ L) : k ≤ rnk p L k := by
  have := rn_ge p L (L - k)
  unfold rnk
  omega
theorem rnk_in {p : Nat → Bool} {L k i : Nat} (hk : k ≤ L) (h1 : k ≤ i) (h2 : i < rnk p L k) : p i = true := rn_in p L (L - k) (by omega) i (by omega) h2
theorem rnk_at {p : Nat → Bool} {L k : Nat} (h : rnk p L k < L) : p (rnk p L k) = false := rn_at p L _ h
/-- the kinds of bytes -/
def tkn (c : Nat) : Nat := if 97 ≤ c ∧ c ≤ 122 then 1 else if 48 ≤ c ∧ c ≤ 57 then 2 else if c = 59 then 3 else 4
section TXT
variable (tx : Nat → Nat) (L : Nat)
def spc (k : Nat) : Bool := decide (tx k = 32)
def sk (a : Nat) : Nat := rnk (spc tx) L a
def tok (s : Nat) : Nat := if s < L then tkn (tx s) else 0
def run (c : Nat) (k : Nat) : Bool := decide (tkn (tx k) = c)
/-- the end of the token that stands at s -/
def ten (s : Nat) : Nat := if s < L then (if tok tx L s = 1 ∨ tok tx L s = 2 then rnk (run tx (tok tx L s)) L (s + 1) else s + 1) else L
theorem sk_le (a : Nat) : sk tx L a ≤ L := rnk_le
theorem sk_sk (a : Nat) : sk tx L (sk tx L a) = sk tx L a := by
  rcases Nat.lt_or_ge (sk tx L a) L with h | h
  · exact rnk_f h (rnk_at (p := spc tx) h)
  · have : sk tx L a = L := Nat.le_antisymm rnk_le h
    rw [this]
    exact rnk_L
theorem ten_le (s : Nat) : ten tx L s ≤ L := by
  unfold ten
  split
  · split
    · exact rnk_le
    · omega
  · exact Nat.le_refl L
theorem tkn_4 (c : Nat) : tkn c = 1 ∨ tkn c = 2 ∨ tkn c = 3 ∨ tkn c = 4 := by
  unfold tkn
  split
  · exact Or.inl rfl
  · split
    · exact Or.inr (Or.inl rfl)
    · split
      · exact Or.inr (Or.inr (Or.inl rfl))
      · exact Or.inr (Or.inr (Or.inr rfl))
/-- the class's text -/
def cT (I : mm_I) : Prop := L ≤ 500 ∧ I 1 1 = nI L ∧ ∀ k, k < L → tx k < 256 ∧ I 3 k = nI (tx k)
/-- the class's reader stands before the token at s -/
def cA (s : Nat) (I : mm_I) : Prop := I 1 3 = nI s ∧ I 1 2 = nI (tok tx L s) ∧ I 1 4 = nI (ten tx L s)
/-- what a reader changes -/
def fR (I I' : mm_I) : Prop := (∀ r, r ≠ 1 → I' r = I r) ∧ ∀ k, (k < 2 ∨ 6 < k) → I' 1 k = I 1 k
theorem fR.refl {I : mm_I} : fR I I := ⟨fun _ _ => rfl, fun _ _ => rfl⟩
theorem fR.trans {I I1 I2 : mm_I} (h : fR I I1) (g : fR I1 I2) : fR I I2 := ⟨fun r hr => (g.1 r hr).trans (h.1 r hr), fun k hk => (g.2 k hk).trans (h.2 k hk)⟩
theorem fR.up {I : mm_I} {k : Nat} {x : Int32} (h : 2 ≤ k ∧ k ≤ 6) : fR I (mm_up I 1 k x) := ⟨fun r hr => mm_up_o hr, fun q hq => up_o2 (by omega)⟩
variable {tx L}
theorem cT.c {I I' : mm_I} (h : cT tx L I) (e1 : I' 1 1 = I 1 1) (e3 : I' 3 = I 3) : cT tx L I' := ⟨h.1, e1.trans h.2.1, fun k hk => ⟨(h.2.2 k hk).1, by rw [e3]; exact (h.2.2 k hk).2⟩⟩
theorem cT.f {I I' : mm_I} (h : cT tx L I) (f : fR I I') : cT tx L I' := h.c (f.2 1 (by omega)) (f.1 3 (by omega))
theorem tokOf {c : Nat} (hc : c < 256) {I : mm_I} {J : mm_J} : f4_tokenOf SZ (nI c) I J = some (nI (tkn c)) := by
  unfold f4_tokenOf f4_tokenOf_14 f4_tokenOf_28 f4_tokenOf_39 tkn
  by_cases h1 : c < 97
  · rw [if_pos (show nI c < 97 from nI_lt (b := 97) h1 (by omega)), if_neg (show ¬ (97 ≤ c ∧ c ≤ 122) by omega)]
    by_cases h2 : c < 48
    · rw [if_pos (show nI c < 48 from nI_lt (b := 48) h2 (by omega)), if_neg (show ¬ (48 ≤ c ∧ c ≤ 57) by omega), if_neg (show ¬ nI c = 59 from fun w => by have := (nI_eq (a := c) (b := 59) (by omega) (by omega)).mp w; omega), if_neg (show ¬ c = 59 by omega)]
      rfl
    · rw [if_neg (show ¬ nI c < 48 from nI_nlt (b := 48) (by omega) (by omega))]
      by_cases h3 : 57 < c
      · rw [if_pos (show (57 : Int32) < nI c from nI_lt (a := 57) h3 (by omega)), if_neg (show ¬ (48 ≤ c ∧ c ≤ 57) by omega)]
        by_cases h4 : c = 59
        · rw [if_pos (show nI c = 59 by rw [h4]; rfl), if_pos h4]; rfl
        · rw [if_neg (show ¬ nI c = 59 from fun w => h4 ((nI_eq (a := c) (b := 59) (by omega) (by omega)).mp w)), if_neg h4]; rfl
      · rw [if_neg (show ¬ (57 : Int32) < nI c from nI_nlt (a := 57) (by omega) (by omega)), if_pos (show 48 ≤ c ∧ c ≤ 57 by omega)]
        rfl
  · rw [if_neg (show ¬ nI c < 97 from nI_nlt (b := 97) (by omega) (by omega))]
    by_cases h2 : 122 < c
    · rw [if_pos (show (122 : Int32) < nI c from nI_lt (a := 122) h2 (by omega)), if_neg (show ¬ (97 ≤ c ∧ c ≤ 122) by omega), if_neg (show ¬ nI c < 48 from nI_nlt (b := 48) (by omega) (by omega)), if_pos (show (57 : Int32) < nI c from nI_lt (a := 57) (by omega) (by omega)), if_neg (show ¬ (48 ≤ c ∧ c ≤ 57) by omega), if_neg (show ¬ nI c = 59 from fun w => by have := (nI_eq (a := c) (b := 59) (by omega) (by omega)).mp w; omega), if_neg (show ¬ c = 59 by omega)]
      rfl
    · rw [if_neg (show ¬ (122 : Int32) < nI c from nI_nlt (a := 122) (by omega) (by omega)), if_pos (show 97 ≤ c ∧ c ≤ 122 by omega)]
      rfl
variable {I : mm_I} {Jc Jm : mm_J}
theorem at1 {k : Nat} (h : cT tx L I) (hk : k < L) : f6_at SZ (mm_rf SZ 1 0) (nI k) I Jc = some (nI (tx k)) := by
  have := h.1
  simp (disch := omega) only [↓M1, ↓ofNat_nI, L0, L1, L2, L3, L4, L5, L6, L7, L8, L9, L10, L12, L31, L32, L40, L48, L50, L99, L100, L120, L180, L256, L500, n_lt0, n_ge0, n_let, n_lef, n_ltt, n_ltf, n_eqt, n_eqf, m_lt, m_le, m_eq, m_eq2, m_le2, m_lt2, m_nle, m_nlt, if_true, if_false, eq_self, Option.bind_some, mb0, mb1, mbb, mbn0, mbn1, not_true, not_false_eq_true, reduceIte, Bool.false_eq_true, nI_add, nI_clamp, pk_mul, in_t, in_f, in_m, zr, za, at_SZ, put_SZ, rd_at, wr_at, rd_m, wr_m, (h.2.2 k hk).2]
/-- past the token -/
theorem adv_end {n t : Nat} (ht : t ≤ 4) (h : cT tx L I) (ht' : I 1 2 = nI t) : ∀ (d k : Nat), k ≤ L → L < k + d → f4_advance_75 SZ n d 1 (nI k) I Jc = some (mm_up I 1 4 (nI (if t = 1 ∨ t = 2 then rnk (run tx t) L k else k)), Jc) := by
  intro d
  have hL := h.1
  induction d with
  | zero => intro k h1 h2; omega
  | succ d ih =>
    intro k h1 h2
    have cS : f4_advance_75 SZ n (d + 1) 1 (nI k) I Jc = f4_advance_75_b SZ n (f4_advance_75 SZ n d) 1 (nI k) I Jc := rfl
    rw [cS]
    unfold f4_advance_75_b f4_advance_99 f4_advance_123
    rw [h.2.1]
    by_cases c : k = L
    · subst c
      rw [if_pos (nI_le (Nat.le_refl k) (by omega)), rnk_L, ite_self]
    · have hk : k < L := by omega
      have h8 := (h.2.2 k hk).1
      have hf := tkn_4 (tx k)
      rw [if_neg (nI_ge hk (by omega)), at1 h hk, Option.bind_some, tokOf h8, Option.bind_some, ht', nI_1]
      have go : (t = 1 ∨ t = 2) → (if nI (tkn (tx k)) = nI t then f4_advance_75 SZ n d 1 (nI (k + 1)) I Jc else some (mm_up I 1 4 (nI k), Jc)) = some (mm_up I 1 4 (nI (if t = 1 ∨ t = 2 then rnk (run tx t) L k else k)), Jc) := fun w => by
        rw [if_pos w]
        by_cases e : tkn (tx k) = t
        · rw [if_pos (show nI (tkn (tx k)) = nI t by rw [e]), ih (k + 1) (by omega) (by omega), if_pos w, rnk_t hk (show run tx t k = true from decide_eq_true e)]
        · rw [if_neg (show ¬ nI (tkn (tx k)) = nI t from fun q => e ((nI_eq (by omega) (by omega)).mp q)), rnk_f hk (show run tx t k = false from decide_eq_false e)]
      by_cases c1 : t = 1
      · rw [if_pos (show nI t = 1 by rw [c1]; rfl)]
        exact go (Or.inl c1)
      · rw [if_neg (show ¬ nI t = 1 from fun q => c1 ((nI_eq (a := t) (b := 1) (by omega) (by omega)).mp q))]
        by_cases c2 : t = 2
        · rw [if_pos (show nI t = 2 by rw [c2]; rfl)]
          exact go (Or.inr c2)
        · rw [if_neg (show ¬ nI t = 2 from fun q => c2 ((nI_eq (a := t) (b := 2) (by omega) (by omega)).mp q)), if_neg (show ¬ (t = 1 ∨ t = 2) by omega)]
theorem adv_tok {n k : Nat} (hn : 501 ≤ n) (h : cT tx L I) (hk : k ≤ L) : f4_advance_32 SZ n 1 (nI k) I Jc = some (mm_up (mm_up (mm_up I 1 3 (nI k)) 1 2 (nI (tok tx L k))) 1 4 (nI (ten tx L k)), Jc) := by
  have hL := h.1
  unfold f4_advance_32 f4_advance_61 tok ten
  have h3 : cT tx L (mm_up I 1 3 (nI k)) := h.f (fR.up (by omega))
  rw [h3.2.1]
  by_cases c : k = L
  · subst c
    have h2 : cT tx k (mm_up (mm_up I 1 3 (nI k)) 1 2 0) := h3.f (fR.up (by omega))
    rw [if_pos (nI_le (Nat.le_refl k) (by omega)), h2.2.1, if_pos (nI_le (Nat.le_refl k) (by omega)), adv_end (t := 0) (by omega) h2 up_s2 n k (Nat.le_refl k) (by omega), if_neg (show ¬ ((0 : Nat) = 1 ∨ (0 : Nat) = 2) by omega), if_neg (Nat.lt_irrefl k), if_neg (Nat.lt_irrefl k)]
    rfl
  · have hk' : k < L := by omega
    have h8 := (h.2.2 k hk').1
    have h2 : cT tx L (mm_up (mm_up I 1 3 (nI k)) 1 2 (nI (tkn (tx k)))) := h3.f (fR.up (by omega))
    have h4 := tkn_4 (tx k)
    rw [if_neg (nI_ge hk' (by omega)), at1 h3 hk', Option.bind_some, tokOf h8, Option.bind_some, h2.2.1, if_neg (nI_ge hk' (by omega)), nI_1, adv_end (t := tkn (tx k)) (by omega) h2 up_s2 n (k + 1) (by omega) (by omega), if_pos hk', if_pos hk']
    unfold tok
    rw [if_pos hk']
theorem adv_loop {n : Nat} (hn : 501 ≤ n) (h : cT tx L I) : ∀ (d k : Nat), k ≤ L → L < k + d → f4_advance_5 SZ n d 1 (nI k) I Jc = some (mm_up (mm_up (mm_up I 1 3 (nI (sk tx L k))) 1 2 (nI (tok tx L (sk tx L k)))) 1 4 (nI (ten tx L (sk tx L k))), Jc) := by
  intro d
  have hL := h.1
  induction d with
  | zero => intro k h1 h2; omega
  | succ d ih =>
    intro k h1 h2
    have cS : f4_advance_5 SZ n (d + 1) 1 (nI k) I Jc = f4_advance_5_b SZ n (f4_advance_5 SZ n d) 1 (nI k) I Jc := rfl
    rw [cS]
    unfold f4_advance_5_b
    rw [h.2.1]
    by_cases c : k = L
    · subst c
      rw [if_pos (nI_le (Nat.le_refl k) (by omega)), adv_tok hn h (Nat.le_refl k), show sk tx k k = k from rnk_L]
    · have hk : k < L := by omega
      have h8 := (h.2.2 k hk).1
      rw [if_neg (nI_ge hk (by omega)), at1 h hk, Option.bind_some]
      by_cases e : tx k = 32
      · rw [if_pos (show nI (tx k) = 32 by rw [e]; rfl), nI_1, ih (k + 1) (by omega) (by omega), show sk tx L k = sk tx L (k + 1) from rnk_t hk (show spc tx k = true from decide_eq_true e)]
      · rw [if_neg (show ¬ nI (tx k) = 32 from fun q => e ((nI_eq (a := tx k) (b := 32) (by omega) (by omega)).mp q)), adv_tok hn h (by omega), show sk tx L k = k from rnk_f hk (show spc tx k = false from decide_eq_false e)]
theorem adv_c {n a : Nat} (hn : 501 ≤ n) (h : cT tx L I) (ha : a ≤ L) (h4 : I 1 4 = nI a) : ∃ I', f4_advance SZ n 1 I Jc = some (I', Jc) ∧ fR I I' ∧ cA tx L (sk tx L a) I' ∧ I' 1 5 = I 1 5 ∧ I' 1 6 = I 1 6 := by
  have hL := h.1
  refine ⟨mm_up (mm_up (mm_up I 1 3 (nI (sk tx L a))) 1 2 (nI (tok tx L (sk tx L a)))) 1 4 (nI (ten tx L (sk tx L a))), ?_, (fR.up (by omega)).trans ((fR.up (by omega)).trans (fR.up (by omega))), ⟨?_, ?_, up_s2⟩, ?_, ?_⟩
  · unfold f4_advance
    rw [h4]
    exact adv_loop hn h n a ha (by omega)
  · rw [up_o2 (by omega), up_o2 (by omega), up_s2]
  · rw [up_o2 (by omega), up_s2]
  · rw [up_o2 (by omega), up_o2 (by omega), up_o2 (by omega)]
  · rw [up_o2 (by omega), up_o2 (by omega), up_o2 (by omega)]
/-- the reference's text, and where it is -/
def mT (tx : Nat → Nat) (L : Nat) (I : mm_I) : Prop := L ≤ 500 ∧ I 167 27 = nI L ∧ ∀ k, k < L → tx k < 256 ∧ I 184 k = nI (tx k)
def fT (I I' : mm_I) : Prop := (∀ r, r ≠ 167 → I' r = I r) ∧ ∀ k, k ≠ 28 → k ≠ 29 → k ≠ 31 → k ≠ 32 → k ≠ 33 → I' 167 k = I 167 k
theorem fT.refl {I : mm_I} : fT I I := ⟨fun _ _ => rfl, fun _ _ _ _ _ _ => rfl⟩
theorem fT.trans {I I1 I2 : mm_I} (h : fT I I1) (g : fT I1 I2) : fT I I2 := ⟨fun r hr => (g.1 r hr).trans (h.1 r hr), fun k h1 h2 h3 h4 h5 => (g.2 k h1 h2 h3 h4 h5).trans (h.2 k h1 h2 h3 h4 h5)⟩
theorem fT.up {I : mm_I} {k : Nat} {x : Int32} (h : k = 28 ∨ k = 29 ∨ k = 31 ∨ k = 32 ∨ k = 33) : fT I (mm_up I 167 k x) := ⟨fun r hr => mm_up_o hr, fun q _ _ _ _ _ => up_o2 (by omega)⟩
theorem mT.c {I I' : mm_I} (h : mT tx L I) (e1 : I' 167 27 = I 167 27) (e2 : I' 184 = I 184) : mT tx L I' := ⟨h.1, e1.trans h.2.1, fun k hk => ⟨(h.2.2 k hk).1, by rw [e2]; exact (h.2.2 k hk).2⟩⟩
theorem mT.f {I I' : mm_I} (h : mT tx L I) (f : fT I I') : mT tx L I' := h.c (f.2 27 (by omega) (by omega) (by omega) (by omega) (by omega)) (f.1 184 (by omega))
/-- here -/
theorem here_loop {n : Nat} : ∀ (d a : Nat) (I : mm_I), a ≤ L → L < a + d → mT tx L I → I 167 29 = nI a → ∃ I', f11_here_0 SZ n d 167 I Jm = some (if sk tx L a < L then nI (tx (sk tx L a)) else m1, I', Jm) ∧ fT I I' ∧ I' 167 29 = nI (sk tx L a) ∧ ∀ k, k ≠ 29 → I' 167 k = I 167 k := by
  intro d
  induction d with
  | zero => intro a I h1 h2; omega
  | succ d ih =>
    intro a I h1 h2 h ha
    have hL := h.1
    have mS : f11_here_0 SZ n (d + 1) 167 I Jm = f11_here_0_b SZ n (f11_here_0 SZ n d) 167 I Jm := rfl
    rw [mS]
    unfold f11_here_0_b f11_here_38 f11_here_62
    rw [h.2.1, ha]
    by_cases c : a = L
    · subst c
      have e : sk tx a a = a := rnk_L
      rw [if_pos (nI_le (Nat.le_refl a) (by omega)), if_pos (nI_le (Nat.le_refl a) (by omega)), e, if_neg (Nat.lt_irrefl a)]
      exact ⟨I, rfl, fT.refl, ha, fun _ _ => rfl⟩
    · have hk : a < L := by omega
      obtain ⟨h8, ht⟩ := h.2.2 a hk
      have ib : mm_inb (nI a) (mm_al SZ (mm_rf SZ 167 26)) = true := by simp (disch := omega) only [↓M1, ↓ofNat_nI, L0, L1, L2, L3, L4, L5, L6, L7, L8, L9, L10, L12, L31, L32, L40, L48, L50, L99, L100, L120, L180, L256, L500, n_lt0, n_ge0, n_let, n_lef, n_ltt, n_ltf, n_eqt, n_eqf, m_lt, m_le, m_eq, m_eq2, m_le2, m_lt2, m_nle, m_nlt, if_true, if_false, eq_self, Option.bind_some, mb0, mb1, mbb, mbn0, mbn1, not_true, not_false_eq_true, reduceIte, Bool.false_eq_true, nI_add, nI_clamp, pk_mul, in_t, in_f, in_m, zr, za, at_SZ, put_SZ, rd_at, wr_at, rd_m, wr_m]
      rw [if_neg (nI_ge hk (by omega)), if_pos ib, if_neg (nI_ge hk (by omega)), if_pos ib, show mm_rf SZ 167 26 = 184 by simp (disch := omega) only [↓M1, ↓ofNat_nI, L0, L1, L2, L3, L4, L5, L6, L7, L8, L9, L10, L12, L31, L32, L40, L48, L50, L99, L100, L120, L180, L256, L500, n_lt0, n_ge0, n_let, n_lef, n_ltt, n_ltf, n_eqt, n_eqf, m_lt, m_le, m_eq, m_eq2, m_le2, m_lt2, m_nle, m_nlt, if_true, if_false, eq_self, Option.bind_some, mb0, mb1, mbb, mbn0, mbn1, not_true, not_false_eq_true, reduceIte, Bool.false_eq_true, nI_add, nI_clamp, pk_mul, in_t, in_f, in_m, zr, za, at_SZ, put_SZ, rd_at, wr_at, rd_m, wr_m], nI_clamp (by omega), ht]
      by_cases e : tx a = 32
      · obtain ⟨I', g1, g2, g3, g4⟩ := ih (a + 1) (mm_up I 167 29 (nI (a + 1))) (by omega) (by omega) (h.f (fT.up (by omega))) up_s2
        rw [if_pos (show nI (tx a) = 32 by rw [e]; rfl), nI_1, show sk tx L a = sk tx L (a + 1) from rnk_t hk (show spc tx a = true from decide_eq_true e)]
        exact ⟨I', g1, (fT.up (by omega)).trans g2, g3, fun k hk => by rw [g4 k hk, up_o2 (by omega)]⟩
      · have es : sk tx L a = a := rnk_f hk (show spc tx a = false from decide_eq_false e)
        rw [if_neg (show ¬ nI (tx a) = 32 from fun q => e ((nI_eq (a := tx a) (b := 32) (by omega) (by omega)).mp q)), es, if_pos hk]
        exact ⟨I, rfl, fT.refl, ha, fun _ _ => rfl⟩
theorem here_m {n a : Nat} (hn : 501 ≤ n) (h : mT tx L I) (ha : a ≤ L) (e : I 167 29 = nI a) : ∃ I', f11_here SZ n 167 I Jm = some (if sk tx L a < L then nI (tx (sk tx L a)) else m1, I', Jm) ∧ fT I I' ∧ I' 167 29 = nI (sk tx L a) ∧ ∀ k, k ≠ 29 → I' 167 k = I 167 k := by
  have hL := h.1
  exact here_loop n a I ha (by omega) h e
end TXT
