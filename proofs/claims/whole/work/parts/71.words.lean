/-! ===== part 71: words read, both sides (written by wip/whole/pre.py) ===== -/
theorem cmp_0 (x y : Int64) : lg_cmp x y = 0 ↔ x = y := by
  constructor
  · intro h
    have h1 := (lg_cmp_ge x y).mp (by rw [h]; decide)
    have h2 := (lg_cmp_le x y).mp (by rw [h]; decide)
    exact Int64.le_antisymm h2 h1
  · intro h
    have h1 := (lg_cmp_ge x y).mpr (by rw [h]; exact Int64.le_refl y)
    have h2 := (lg_cmp_le x y).mpr (by rw [h]; exact Int64.le_refl y)
    exact Int32.le_antisymm h2 h1
section WRD
variable {tx : Nat → Nat} {L : Nat} {I : mm_I} {Jc Jm : mm_J}
/-- the end of the letters from s on -/
def lr (tx : Nat → Nat) (L s : Nat) : Nat := rnk (run tx 1) L s
def eqK (tx : Nat → Nat) (l : List Nat) (s : Nat) : Nat → Bool
  | 0 => true
  | k + 1 => eqK tx l s k && decide (tx (s + k) = l.getD k 0)
/-- the word at s is l -/
def wd (tx : Nat → Nat) (L : Nat) (l : List Nat) (s : Nat) : Bool := decide (lr tx L s = s + l.length) && eqK tx l s l.length
theorem eqK_iff {l : List Nat} {s : Nat} : ∀ {k : Nat}, eqK tx l s k = true ↔ ∀ i, i < k → tx (s + i) = l.getD i 0
  | 0 => ⟨fun _ i hi => absurd hi (Nat.not_lt_zero i), fun _ => rfl⟩
  | k + 1 => by
    show (eqK tx l s k && decide (tx (s + k) = l.getD k 0)) = true ↔ _
    rw [Bool.and_eq_true, eqK_iff, decide_eq_true_iff]
    constructor
    · intro ⟨h1, h2⟩ i hi
      by_cases e : i = k
      · rw [e]; exact h2
      · exact h1 i (by omega)
    · intro h
      exact ⟨fun i hi => h i (by omega), h k (by omega)⟩
theorem wd_tok {l : List Nat} {s : Nat} (hs : s ≤ L) (hl : 0 < l.length) (h : wd tx L l s = true) : tok tx L s = 1 ∧ ten tx L s = s + l.length ∧ lr tx L s = s + l.length ∧ s < L := by
  unfold wd at h
  rw [Bool.and_eq_true, decide_eq_true_iff] at h
  have hlr : lr tx L s = s + l.length := h.1
  have hsL : s < L := by
    have := rnk_le (p := run tx 1) (L := L) (k := s)
    unfold lr at hlr
    omega
  have hr : run tx 1 s = true := by
    refine Classical.byContradiction fun q => ?_
    have := rnk_f hsL (eq_false_of_ne_true q)
    unfold lr at hlr
    omega
  have ht : tok tx L s = 1 := by
    unfold tok
    rw [if_pos hsL]
    exact of_decide_eq_true hr
  exact ⟨ht, by rw [(ten_run hsL ht (Or.inl rfl)).1]; exact hlr, hlr, hsL⟩
/-- what a constant says -/
def isC (r : Nat) (l : List Nat) : Prop := fJ0_length r = some (nI l.length) ∧ ∀ k, k < l.length → fJ0_charAt r (nI k) = some (nI (l.getD k 0))
theorem sees_loop {n r s : Nat} {l : List Nat} (h : cT tx L I) (a3 : I 1 3 = nI s) (hr : isC r l) (hb : s + l.length ≤ L) (h256 : ∀ k, k < l.length → l.getD k 0 < 256) : ∀ (d k : Nat), k ≤ l.length → l.length < k + d → eqK tx l s k = true → f4_sees_28 SZ n d 1 r (nI k) I Jc = some (b01 (eqK tx l s l.length)) := by
  intro d
  have hL := h.1
  induction d with
  | zero => intro k h1 h2; omega
  | succ d ih =>
    intro k h1 h2 hk
    have cS : f4_sees_28 SZ n (d + 1) 1 r (nI k) I Jc = f4_sees_28_b SZ n (f4_sees_28 SZ n d) 1 r (nI k) I Jc := rfl
    rw [cS]
    unfold f4_sees_28_b
    rw [hr.1, Option.bind_some]
    by_cases c : k = l.length
    · rw [if_pos (nI_le (by omega) (by omega)), ← c, hk]
      rfl
    · have hkl : k < l.length := by omega
      obtain ⟨h8, -⟩ := h.2.2 (s + k) (by omega)
      have h2' := h256 k hkl
      have es : eqK tx l s (k + 1) = (eqK tx l s k && decide (tx (s + k) = l.getD k 0)) := rfl
      rw [if_neg (nI_ge hkl (by omega)), a3, nI_add, at1 h (by omega), Option.bind_some, hr.2 k hkl, Option.bind_some, nI_1]
      by_cases e : tx (s + k) = l.getD k 0
      · rw [if_pos (by rw [e])]
        exact ih (k + 1) (by omega) (by omega) (by rw [es, hk, decide_eq_true e]; rfl)
      · rw [if_neg (fun q => e ((nI_eq (by omega) (by omega)).mp q))]
        have : eqK tx l s l.length = false := eq_false_of_ne_true fun q => e (eqK_iff.mp q k hkl)
        rw [this]
        rfl
theorem sees_c {n r s : Nat} {l : List Nat} (hn : 501 ≤ n) (h : cT tx L I) (hs : s ≤ L) (ha : cA tx L s I) (hr : isC r l) (hl : 0 < l.length ∧ l.length ≤ 9) (h256 : ∀ k, k < l.length → l.getD k 0 < 256) : f4_sees SZ n 1 r I Jc = some (b01 (wd tx L l s)) := by
  have hL := h.1
  obtain ⟨a3, a2, a4⟩ := ha
  have hte := ten_le tx L s
  have htk : tok tx L s ≤ 4 := by
    unfold tok
    split
    · have := tkn_4 (tx s)
      omega
    · omega
  unfold f4_sees f4_sees_24
  rw [a2]
  by_cases c1 : tok tx L s = 1
  · have hsL : s < L := by
      unfold tok at c1
      split at c1
      · assumption
      · omega
    obtain ⟨t0, t1, -, -⟩ := ten_run hsL c1 (Or.inl rfl)
    have elr : lr tx L s = ten tx L s := t0.symm
    rw [if_pos (show nI (tok tx L s) = 1 by rw [c1]; rfl), hr.1, Option.bind_some, a4, a3, pk_sub (by omega)]
    by_cases c2 : ten tx L s = s + l.length
    · rw [if_pos (show nI (ten tx L s - s) = nI l.length by rw [c2]; exact congrArg nI (by omega)), show f4_sees_28 SZ n n 1 r 0 I Jc = _ from sees_loop h a3 hr (by omega) h256 n 0 (Nat.zero_le _) (by omega) rfl]
      unfold wd
      rw [elr, decide_eq_true c2, Bool.true_and]
    · rw [if_neg (fun q => c2 (by have := (nI_eq (by omega) (by omega)).mp q; omega))]
      unfold wd
      rw [elr, decide_eq_false c2, Bool.false_and]
      rfl
  · rw [if_neg (show ¬ nI (tok tx L s) = 1 from fun q => c1 ((nI_eq (a := tok tx L s) (b := 1) (by omega) (by omega)).mp q))]
    have : wd tx L l s = false := eq_false_of_ne_true fun q => c1 (wd_tok hs hl.1 q).1
    rw [this]
    rfl
/-! the reference's words are numbers -/
def cd (tx : Nat → Nat) (s : Nat) : Nat → Nat
  | 0 => 0
  | i + 1 => if cd tx s i ≤ 100000000000000 then 27 * cd tx s i + tx (s + i) - 96 else 200000000000000
theorem cd_le {s : Nat} : ∀ {i : Nat}, (∀ k, k < i → 97 ≤ tx (s + k) ∧ tx (s + k) ≤ 122) → cd tx s i ≤ 2700000000000026
  | 0, _ => Nat.zero_le _
  | i + 1, h => by
    have h2 := h i (by omega)
    unfold cd
    split <;> omega
def vlK (l : List Nat) : Nat → Nat
  | 0 => 0
  | k + 1 => 27 * vlK l k + l.getD k 0 - 96
theorem vlK_lt {l : List Nat} : ∀ {k : Nat}, (∀ i, i < k → 97 ≤ l.getD i 0 ∧ l.getD i 0 ≤ 122) → vlK l k < 27 ^ k
  | 0, _ => by show 0 < 27 ^ 0; decide
  | k + 1, h => by
    have h1 := vlK_lt (l := l) (k := k) (fun i hi => h i (by omega))
    have h2 := h k (by omega)
    show 27 * vlK l k + l.getD k 0 - 96 < 27 ^ (k + 1)
    rw [Nat.pow_succ]
    omega
theorem cd_eq {s : Nat} {l : List Nat} : ∀ {k r : Nat}, k ≤ 9 → (∀ i, i < k → 97 ≤ l.getD i 0 ∧ l.getD i 0 ≤ 122) → (∀ i, i < r → 97 ≤ tx (s + i) ∧ tx (s + i) ≤ 122) → (cd tx s r = vlK l k ↔ r = k ∧ ∀ i, i < k → tx (s + i) = l.getD i 0)
  | 0, 0, _, _, _ => ⟨fun _ => ⟨rfl, fun i hi => absurd hi (Nat.not_lt_zero i)⟩, fun _ => rfl⟩
  | 0, r + 1, _, _, hr => by
    have h2 := hr r (by omega)
    constructor
    · intro h
      exfalso
      have h : cd tx s (r + 1) = 0 := h
      unfold cd at h
      split at h <;> omega
    · intro h
      exact absurd h.1 (Nat.succ_ne_zero r)
  | k + 1, 0, _, hl, _ => by
    have h2 := hl k (by omega)
    constructor
    · intro h
      exfalso
      have h : 0 = 27 * vlK l k + l.getD k 0 - 96 := h
      omega
    · intro h
      exact absurd h.1.symm (Nat.succ_ne_zero k)
  | k + 1, r + 1, hk, hl, hr => by
    have h1 := hl k (by omega)
    have h2 := hr r (by omega)
    have hv := vlK_lt (l := l) (k := k) (fun i hi => hl i (by omega))
    have hp : 27 ^ k ≤ 27 ^ 8 := Nat.pow_le_pow_right (by decide) (by omega)
    have hp8 : (27 : Nat) ^ 8 = 282429536481 := by decide
    have ih := cd_eq (s := s) (l := l) (k := k) (r := r) (by omega) (fun i hi => hl i (by omega)) (fun i hi => hr i (by omega))
    have e1 : cd tx s (r + 1) = if cd tx s r ≤ 100000000000000 then 27 * cd tx s r + tx (s + r) - 96 else 200000000000000 := rfl
    have e2 : vlK l (k + 1) = 27 * vlK l k + l.getD k 0 - 96 := rfl
    rw [e1, e2]
    constructor
    · intro h
      have hc : cd tx s r = vlK l k ∧ tx (s + r) = l.getD k 0 := by
        split at h <;> omega
      obtain ⟨g1, g2⟩ := ih.mp hc.1
      refine ⟨by omega, fun i hi => ?_⟩
      by_cases e : i = k
      · rw [e, ← g1]
        rw [hc.2, g1]
      · exact g2 i (by omega)
    · intro ⟨g1, g2⟩
      have e : r = k := by omega
      have h3 := ih.mpr ⟨e, fun i hi => g2 i (by omega)⟩
      have h4 := g2 k (by omega)
      rw [← e] at h4
      rw [e] at h3 h4 ⊢
      rw [h3, h4, if_pos (by omega)]
/-- the reference's word loop -/
theorem word_loop {s e : Nat} {n : Nat} (he : e ≤ L) (hd : ∀ k, s ≤ k → k < e → 97 ≤ tx k ∧ tx k ≤ 122) (hx : e < L → ¬ tkn (tx e) = 1) : ∀ (d i : Nat) (I : mm_I) (J : mm_J), s + i ≤ e → e < s + i + d → mT tx L I → I 167 31 = nI (s + i) → J 167 30 = lN (cd tx s i) → ∃ I' J', f11_readWord_18 SZ n d 167 I J = some (I', J') ∧ fT I I' ∧ I' 167 31 = nI e ∧ J' 167 30 = lN (cd tx s (e - s)) ∧ ∀ k, k ≠ 31 → I' 167 k = I 167 k := by
  intro d
  induction d with
  | zero => intro i I J h1 h2; omega
  | succ d ih =>
    intro i I J h1 h2 h g1 gJ
    have hL := h.1
    have mS : f11_readWord_18 SZ n (d + 1) 167 I J = f11_readWord_18_b SZ n (f11_readWord_18 SZ n d) 167 I J := rfl
    have inl : ∀ c, c < 256 → f11_in SZ (nI c).toInt64 97 122 I J = some (b01 (decide (tkn c = 1))) := fun c hc => by
      rw [show f11_in SZ (nI c).toInt64 97 122 I J = _ from mWi (lo := 97) (hi := 122) (by decide) (by decide)]
      refine congrArg (fun b => some (b01 b)) ?_
      rw [decide_eq_decide.mpr (nI_leI (by omega) (by omega)), decide_eq_decide.mpr (nI_leI (by omega) (by omega)), ← Bool.decide_and]
      exact decide_eq_decide.mpr tkn_1.symm
    rw [mS]
    unfold f11_readWord_18_b f11_readWord_92 f11_readWord_108
    rw [h.2.1, g1]
    by_cases c : s + i = e
    · have fin : ∃ I' J', some (I, J) = some (I', J') ∧ fT I I' ∧ I' 167 31 = nI e ∧ J' 167 30 = lN (cd tx s (e - s)) ∧ ∀ k, k ≠ 31 → I' 167 k = I 167 k := ⟨I, J, rfl, fT.refl, by rw [g1, c], by rw [gJ, show e - s = i by omega], fun _ _ => rfl⟩
      rcases Nat.lt_or_ge e L with q | q
      · obtain ⟨h8, ht⟩ := h.2.2 e q
        have ib : mm_inb (nI e) (mm_al SZ (mm_rf SZ 167 26)) = true := by simp (disch := omega) only [↓M1, ↓ofNat_nI, L0, L1, L2, L3, L4, L5, L6, L7, L8, L9, L10, L12, L31, L32, L40, L48, L50, L99, L100, L120, L180, L256, L500, n_lt0, n_ge0, n_let, n_lef, n_ltt, n_ltf, n_eqt, n_eqf, m_lt, m_le, m_eq, m_eq2, m_le2, m_lt2, m_nle, m_nlt, if_true, if_false, eq_self, Option.bind_some, mb0, mb1, mbb, mbn0, mbn1, not_true, not_false_eq_true, reduceIte, Bool.false_eq_true, nI_add, nI_clamp, pk_mul, in_t, in_f, in_m, zr, za, at_SZ, put_SZ, rd_at, wr_at, rd_m, wr_m]
        rw [c, if_neg (nI_ge q (by omega)), if_pos ib, show mm_rf SZ 167 26 = 184 by simp (disch := omega) only [↓M1, ↓ofNat_nI, L0, L1, L2, L3, L4, L5, L6, L7, L8, L9, L10, L12, L31, L32, L40, L48, L50, L99, L100, L120, L180, L256, L500, n_lt0, n_ge0, n_let, n_lef, n_ltt, n_ltf, n_eqt, n_eqf, m_lt, m_le, m_eq, m_eq2, m_le2, m_lt2, m_nle, m_nlt, if_true, if_false, eq_self, Option.bind_some, mb0, mb1, mbb, mbn0, mbn1, not_true, not_false_eq_true, reduceIte, Bool.false_eq_true, nI_add, nI_clamp, pk_mul, in_t, in_f, in_m, zr, za, at_SZ, put_SZ, rd_at, wr_at, rd_m, wr_m], nI_clamp (by omega), ht, inl _ h8, decide_eq_false (hx q), Option.bind_some, if_pos (show b01 false = 0 by decide)]
        exact fin
      · rw [c, if_pos (nI_le q (by omega))]
        exact fin
    · have hk : s + i < L := by omega
      obtain ⟨h8, ht⟩ := h.2.2 (s + i) hk
      have hi' := hd (s + i) (by omega) (by omega)
      have hcd := cd_le (tx := tx) (s := s) (i := i) (fun k hk => hd (s + k) (by omega) (by omega))
      have ib : mm_inb (nI (s + i)) (mm_al SZ (mm_rf SZ 167 26)) = true := by simp (disch := omega) only [↓M1, ↓ofNat_nI, L0, L1, L2, L3, L4, L5, L6, L7, L8, L9, L10, L12, L31, L32, L40, L48, L50, L99, L100, L120, L180, L256, L500, n_lt0, n_ge0, n_let, n_lef, n_ltt, n_ltf, n_eqt, n_eqf, m_lt, m_le, m_eq, m_eq2, m_le2, m_lt2, m_nle, m_nlt, if_true, if_false, eq_self, Option.bind_some, mb0, mb1, mbb, mbn0, mbn1, not_true, not_false_eq_true, reduceIte, Bool.false_eq_true, nI_add, nI_clamp, pk_mul, in_t, in_f, in_m, zr, za, at_SZ, put_SZ, rd_at, wr_at, rd_m, wr_m]
      have go : ∃ I' J', f11_readWord_18 SZ n d 167 (mm_up I 167 31 (nI (s + i + 1))) (mm_upJ J 167 30 (lN (cd tx s (i + 1)))) = some (I', J') ∧ fT I I' ∧ I' 167 31 = nI e ∧ J' 167 30 = lN (cd tx s (e - s)) ∧ ∀ k, k ≠ 31 → I' 167 k = I 167 k := by
        have f0 : fT I (mm_up I 167 31 (nI (s + i + 1))) := fT.up (by omega)
        obtain ⟨I', J', k1, k2, k3, k4, k5⟩ := ih (i + 1) (mm_up I 167 31 (nI (s + i + 1))) (mm_upJ J 167 30 (lN (cd tx s (i + 1)))) (by omega) (by omega) (h.f f0) up_s2 (by simp [mm_upJ])
        exact ⟨I', J', k1, f0.trans k2, k3, k4, fun k hk => by rw [k5 k hk, up_o2 (by omega)]⟩
      have ecd : cd tx s (i + 1) = if cd tx s i ≤ 100000000000000 then 27 * cd tx s i + tx (s + i) - 96 else 200000000000000 := rfl
      rw [if_neg (nI_ge hk (by omega)), if_pos ib, if_pos ib, show mm_rf SZ 167 26 = 184 by simp (disch := omega) only [↓M1, ↓ofNat_nI, L0, L1, L2, L3, L4, L5, L6, L7, L8, L9, L10, L12, L31, L32, L40, L48, L50, L99, L100, L120, L180, L256, L500, n_lt0, n_ge0, n_let, n_lef, n_ltt, n_ltf, n_eqt, n_eqf, m_lt, m_le, m_eq, m_eq2, m_le2, m_lt2, m_nle, m_nlt, if_true, if_false, eq_self, Option.bind_some, mb0, mb1, mbb, mbn0, mbn1, not_true, not_false_eq_true, reduceIte, Bool.false_eq_true, nI_add, nI_clamp, pk_mul, in_t, in_f, in_m, zr, za, at_SZ, put_SZ, rd_at, wr_at, rd_m, wr_m], nI_clamp (by omega), ht, inl _ h8, decide_eq_true (tkn_1.mpr hi'), Option.bind_some, if_neg (show ¬ b01 true = 0 by decide), gJ, nI_1]
      by_cases c1 : cd tx s i ≤ 100000000000000
      · rw [if_pos c1] at ecd
        rw [if_pos ((lg_cmp_le _ _).mpr (show lN (cd tx s i) ≤ 100000000000000 from (pk_lLE (b := 100000000000000) (by omega) (by omega)).mpr c1)), show (27 : Int64) * lN (cd tx s i) = lN (27 * cd tx s i) from lN_mul 27 _, nI_l (by omega), lN_add, show lN (27 * cd tx s i + tx (s + i)) - 96 = lN (27 * cd tx s i + tx (s + i) - 96) from lN_sub (b := 96) (by omega), ← ecd]
        exact go
      · rw [if_neg c1] at ecd
        rw [if_neg (show ¬ lg_cmp (lN (cd tx s i)) 100000000000000 ≤ 0 from fun q => c1 ((pk_lLE (b := 100000000000000) (by omega) (by omega)).mp ((lg_cmp_le _ _).mp q))), show (200000000000000 : Int64) = lN (cd tx s (i + 1)) from by rw [ecd]; rfl]
        exact go
theorem word_m {n s a : Nat} (hn : 501 ≤ n) (h : mT tx L I) (ha : a ≤ L) (hsa : sk tx L a = s) (g9 : I 167 29 = nI a) : ∃ I' J', f11_readWord SZ n 167 I Jm = some (I', J') ∧ fT I I' ∧ I' 167 29 = nI s ∧ I' 167 31 = nI (lr tx L s) ∧ J' 167 30 = lN (cd tx s (lr tx L s - s)) ∧ I' 167 28 = I 167 28 := by
  have hL := h.1
  have hs : s ≤ L := by rw [← hsa]; exact sk_le tx L a
  obtain ⟨I1, k1, k2, k3, k4⟩ := here_m (Jm := Jm) hn h ha g9
  rw [hsa] at k3
  have hge : s ≤ lr tx L s := rnk_ge hs
  have hle : lr tx L s ≤ L := rnk_le
  have f0 : fT I1 (mm_up I1 167 31 (nI s)) := fT.up (by omega)
  obtain ⟨I', J', u1, u2, u3, u4, u5⟩ := word_loop (tx := tx) (L := L) (s := s) (n := n) hle (fun k h1 h2 => tkn_1.mp (of_decide_eq_true (rnk_in (p := run tx 1) hs h1 h2))) (fun q => of_decide_eq_false (rnk_at (p := run tx 1) (k := s) q)) n 0 (mm_up I1 167 31 (nI s)) (mm_upJ Jm 167 30 0) (by omega) (by omega) ((h.f k2).f f0) up_s2 (by simp [mm_upJ]; rfl)
  refine ⟨I', J', ?_, k2.trans (f0.trans u2), ?_, u3, u4, ?_⟩
  · unfold f11_readWord
    rw [k1, Option.bind_some]
    dsimp only
    rw [k3]
    exact u1
  · rw [u5 29 (by omega), up_o2 (by omega)]; exact k3
  · rw [u5 28 (by omega), up_o2 (by omega), k4 28 (by omega)]
/-- a word and its number -/
theorem word_eq {s : Nat} {l : List Nat} {J : mm_J} (hs : s ≤ L) (hl : l.length ≤ 9) (h97 : ∀ i, i < l.length → 97 ≤ l.getD i 0 ∧ l.getD i 0 ≤ 122) (hJ : J 167 30 = lN (cd tx s (lr tx L s - s))) {x : Int64} (hx : x = lN (vlK l l.length)) : (lg_cmp (J 167 30) x = 0) = (wd tx L l s = true) := by
  have hge : s ≤ lr tx L s := rnk_ge hs
  have hr : ∀ i, i < lr tx L s - s → 97 ≤ tx (s + i) ∧ tx (s + i) ≤ 122 := fun i hi => tkn_1.mp (of_decide_eq_true (rnk_in (p := run tx 1) hs (show s ≤ s + i by omega) (show s + i < lr tx L s by omega)))
  have hv := vlK_lt (l := l) (k := l.length) h97
  have hp : 27 ^ l.length ≤ 27 ^ 9 := Nat.pow_le_pow_right (by decide) hl
  have hp9 : (27 : Nat) ^ 9 = 7625597484987 := by decide
  have hc := cd_le (tx := tx) hr
  refine propext ?_
  rw [cmp_0, hJ, hx, pk_lEQ (by omega) (by omega), cd_eq hl h97 hr]
  unfold wd
  rw [Bool.and_eq_true, decide_eq_true_iff, eqK_iff]
  constructor
  · intro ⟨h1, h2⟩
    exact ⟨by omega, h2⟩
  · intro ⟨h1, h2⟩
    exact ⟨by omega, h2⟩
end WRD
/-! the words -/
def wHolds : List Nat := [104, 111, 108, 100, 115]
def wWitn : List Nat := [119, 105, 116, 110, 101, 115, 115, 101, 115]
def wFades : List Nat := [102, 97, 100, 101, 115]
def wRusts : List Nat := [114, 117, 115, 116, 115]
def wDies : List Nat := [100, 105, 101, 115]
def wLent : List Nat := [108, 101, 110, 116]
def wTrade : List Nat := [116, 114, 97, 100, 101]
def wPlain : List Nat := [112, 108, 97, 105, 110]
def wBack : List Nat := [98, 97, 99, 107]
def wHalf : List Nat := [104, 97, 108, 102]
def wForb : List Nat := [102, 111, 114, 98, 105, 100, 100, 101, 110]
def wNeeds : List Nat := [110, 101, 101, 100, 115]
def wPers : List Nat := [112, 101, 114, 115, 111, 110]
def wLikes : List Nat := [108, 105, 107, 101, 115]
theorem fin_all {p : Nat → Prop} {n : Nat} (h : ∀ k : Fin n, p k.1) : ∀ k, k < n → p k := fun k hk => h ⟨k, hk⟩
theorem iC0 : isC (1000000 + 0) wTrade := ⟨by decide +kernel, fin_all (by decide +kernel)⟩
theorem iC1 : isC (1000000 + 1) wPlain := ⟨by decide +kernel, fin_all (by decide +kernel)⟩
theorem iC2 : isC (1000000 + 2) wBack := ⟨by decide +kernel, fin_all (by decide +kernel)⟩
theorem iC3 : isC (1000000 + 3) wHalf := ⟨by decide +kernel, fin_all (by decide +kernel)⟩
theorem iC4 : isC (1000000 + 4) wForb := ⟨by decide +kernel, fin_all (by decide +kernel)⟩
theorem iC5 : isC (1000000 + 5) wNeeds := ⟨by decide +kernel, fin_all (by decide +kernel)⟩
theorem iC6 : isC (1000000 + 6) wPers := ⟨by decide +kernel, fin_all (by decide +kernel)⟩
theorem iC7 : isC (1000000 + 7) wLikes := ⟨by decide +kernel, fin_all (by decide +kernel)⟩
theorem iC8 : isC (1000000 + 8) wHolds := ⟨by decide +kernel, fin_all (by decide +kernel)⟩
theorem iC9 : isC (1000000 + 9) wWitn := ⟨by decide +kernel, fin_all (by decide +kernel)⟩
theorem iC10 : isC (1000000 + 10) wFades := ⟨by decide +kernel, fin_all (by decide +kernel)⟩
theorem iC11 : isC (1000000 + 11) wRusts := ⟨by decide +kernel, fin_all (by decide +kernel)⟩
theorem iC12 : isC (1000000 + 12) wDies := ⟨by decide +kernel, fin_all (by decide +kernel)⟩
theorem iC13 : isC (1000000 + 13) wLent := ⟨by decide +kernel, fin_all (by decide +kernel)⟩
