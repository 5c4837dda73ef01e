/-! ===== part 70: numbers read, both sides (written by wip/whole/pre.py) ===== -/
section NUM
variable {tx : Nat → Nat} {L : Nat} {I : mm_I} {Jc Jm : mm_J}
def dv (tx : Nat → Nat) (s : Nat) : Nat → Nat
  | 0 => 0
  | i + 1 => dv tx s i * 10 + tx (s + i) - 48
def dgt (c : Nat) : Bool := decide (tkn c = 2)
theorem tkn_2 {c : Nat} : tkn c = 2 ↔ 48 ≤ c ∧ c ≤ 57 := by
  unfold tkn
  constructor
  · intro h
    split at h
    · omega
    · split at h
      · assumption
      · split at h <;> omega
  · intro h
    rw [if_neg (by omega), if_pos h]
theorem tkn_1 {c : Nat} : tkn c = 1 ↔ 97 ≤ c ∧ c ≤ 122 := by
  unfold tkn
  constructor
  · intro h
    split at h
    · assumption
    · split at h
      · omega
      · split at h <;> omega
  · intro h
    rw [if_pos h]
theorem tkn_3 {c : Nat} : tkn c = 3 ↔ c = 59 := by
  unfold tkn
  constructor
  · intro h
    split at h
    · omega
    · split at h
      · omega
      · split at h
        · assumption
        · omega
  · intro h
    rw [if_neg (by omega), if_neg (by omega), if_pos h]
theorem dv_le {s : Nat} : ∀ {i : Nat}, (∀ k, k < i → 48 ≤ tx (s + k) ∧ tx (s + k) ≤ 57) → dv tx s i < 10 ^ i
  | 0, _ => by show 0 < 10 ^ 0; decide
  | i + 1, h => by
    have h1 := dv_le (i := i) (fun k hk => h k (by omega))
    have h2 := h i (by omega)
    show dv tx s i * 10 + tx (s + i) - 48 < 10 ^ (i + 1)
    rw [Nat.pow_succ]
    omega
/-- what a number token's end is -/
theorem ten_run {s c : Nat} (hs : s < L) (ht : tok tx L s = c) (hc : c = 1 ∨ c = 2) : ten tx L s = rnk (run tx c) L s ∧ s < ten tx L s ∧ (∀ k, s ≤ k → k < ten tx L s → tkn (tx k) = c) ∧ (ten tx L s < L → ¬ tkn (tx (ten tx L s)) = c) := by
  have hr : run tx c s = true := by
    unfold tok at ht
    rw [if_pos hs] at ht
    exact decide_eq_true ht
  have e : ten tx L s = rnk (run tx c) L s := by
    unfold ten
    rw [if_pos hs, ht, if_pos hc, rnk_t hs hr]
  refine ⟨e, ?_, fun k h1 h2 => ?_, fun h => ?_⟩
  · rw [e, rnk_t hs hr]
    have := rnk_ge (p := run tx c) (L := L) (k := s + 1) (by omega)
    omega
  · rw [e] at h2
    exact of_decide_eq_true (rnk_in (p := run tx c) (by omega) h1 h2)
  · rw [e] at h ⊢
    exact of_decide_eq_false (rnk_at h)
/-- a number that may stand there -/
def okN (tx : Nat → Nat) (L s : Nat) (lo hi : Int32) : Prop := tok tx L s = 2 ∧ ten tx L s - s ≤ 3 ∧ lo ≤ nI (dv tx s (ten tx L s - s)) ∧ nI (dv tx s (ten tx L s - s)) ≤ hi
def bad (tx : Nat → Nat) (L s : Nat) : Nat := if tok tx L s = 2 then 2 else 1
theorem fig_loop {n s e : Nat} (h : cT tx L I) (h4 : I 1 4 = nI e) (he : e ≤ L) (hs : s ≤ e) (h3 : e - s ≤ 3) (hd : ∀ k, s ≤ k → k < e → 48 ≤ tx k ∧ tx k ≤ 57) : ∀ (d i : Nat), s + i ≤ e → e < s + i + d → f4_figures_7 SZ n d 1 (nI (dv tx s i)) (nI (s + i)) I Jc = some (nI (dv tx s (e - s))) := by
  intro d
  have hL := h.1
  induction d with
  | zero => intro i h1 h2; omega
  | succ d ih =>
    intro i h1 h2
    have cS : f4_figures_7 SZ n (d + 1) 1 (nI (dv tx s i)) (nI (s + i)) I Jc = f4_figures_7_b SZ n (f4_figures_7 SZ n d) 1 (nI (dv tx s i)) (nI (s + i)) I Jc := rfl
    rw [cS]
    unfold f4_figures_7_b
    rw [h4]
    by_cases c : s + i = e
    · rw [c, if_pos (nI_le (Nat.le_refl e) (by omega)), show e - s = i by omega]
    · have hi := hd (s + i) (by omega) (by omega)
      have hv := dv_le (tx := tx) (s := s) (i := i) (fun k hk => hd (s + k) (by omega) (by omega))
      have h10 : 10 ^ i ≤ 10 ^ 3 := Nat.pow_le_pow_right (by decide) (by omega)
      rw [if_neg (nI_ge (by omega) (by omega)), at1 h (by omega), Option.bind_some, nI_1, show nI (dv tx s i) * 10 = nI (dv tx s i * 10) from pk_mul _ _, nI_add, show nI (dv tx s i * 10 + tx (s + i)) - 48 = nI (dv tx s i * 10 + tx (s + i) - 48) from pk_sub (b := 48) (by omega)]
      exact ih (i + 1) (by omega) (by omega)
theorem fig_total {n e : Nat} (h : cT tx L I) (h4 : I 1 4 = nI e) (he : e ≤ L) : ∀ (d k : Nat) (v : Int32), k ≤ e → e < k + d → ∃ r, f4_figures_7 SZ n d 1 v (nI k) I Jc = some r := by
  intro d
  have hL := h.1
  induction d with
  | zero => intro k v h1 h2; omega
  | succ d ih =>
    intro k v h1 h2
    have cS : f4_figures_7 SZ n (d + 1) 1 v (nI k) I Jc = f4_figures_7_b SZ n (f4_figures_7 SZ n d) 1 v (nI k) I Jc := rfl
    rw [cS]
    unfold f4_figures_7_b
    rw [h4]
    by_cases c : k = e
    · rw [c, if_pos (nI_le (Nat.le_refl e) (by omega))]
      exact ⟨_, rfl⟩
    · rw [if_neg (nI_ge (by omega) (by omega)), at1 h (by omega), Option.bind_some, nI_1]
      exact ih (k + 1) _ (by omega) (by omega)
theorem snd_c (h : I 1 5 = nI 0) : f4_isSound SZ 1 I Jc = some 1 := by
  unfold f4_isSound f4_isSound_12
  rw [h, if_pos (show nI 0 = 0 from rfl)]
  rfl
theorem snd_f (h : ¬ I 1 5 = nI 0) : f4_isSound SZ 1 I Jc = some 0 := by
  unfold f4_isSound f4_isSound_12
  rw [if_neg (show ¬ I 1 5 = 0 from h)]
  rfl
theorem blame_t {f : Nat} {x : Int32} (h : I 1 5 = nI 0) : f4_blame SZ 1 (nI f) x I Jc = some (mm_up (mm_up I 1 5 (nI f)) 1 6 x, Jc) := by
  unfold f4_blame f4_blame_17
  rw [h, if_pos (show nI 0 = 0 from rfl)]
theorem blame_f {f x : Int32} (h : ¬ I 1 5 = nI 0) : f4_blame SZ 1 f x I Jc = some (I, Jc) := by
  unfold f4_blame f4_blame_17
  rw [if_neg (show ¬ I 1 5 = 0 from h)]
/-- the class reads a number -/
theorem num_c {n s : Nat} {lo hi : Int32} (hn : 501 ≤ n) (h : cT tx L I) (hs : s ≤ L) (ha : cA tx L s I) (h5 : I 1 5 = nI 0) : ∃ r I', f4_number SZ n 1 lo hi I Jc = some (r, I', Jc) ∧ fR I I' ∧ ((okN tx L s lo hi ∧ r = nI (dv tx s (ten tx L s - s)) ∧ I' 1 5 = nI 0 ∧ I' 1 6 = I 1 6 ∧ cA tx L (sk tx L (ten tx L s)) I') ∨ (¬ okN tx L s lo hi ∧ r = m1 ∧ I' 1 5 = nI (bad tx L s) ∧ I' 1 6 = nI s ∧ cA tx L s I')) := by
  have hL := h.1
  obtain ⟨a3, a2, a4⟩ := ha
  have hte := ten_le tx L s
  have bl : ∀ f : Nat, f = 1 ∨ f = 2 → f = bad tx L s → ¬ okN tx L s lo hi → ∃ r I', ((f4_blame SZ 1 (nI f) (nI s) I Jc).bind fun o6 => f4_number_54 SZ n 1 o6.1 o6.2) = some (r, I', Jc) ∧ fR I I' ∧ ((okN tx L s lo hi ∧ r = nI (dv tx s (ten tx L s - s)) ∧ I' 1 5 = nI 0 ∧ I' 1 6 = I 1 6 ∧ cA tx L (sk tx L (ten tx L s)) I') ∨ (¬ okN tx L s lo hi ∧ r = m1 ∧ I' 1 5 = nI (bad tx L s) ∧ I' 1 6 = nI s ∧ cA tx L s I')) := by
    intro f hf e hno
    have e5 : mm_up (mm_up I 1 5 (nI f)) 1 6 (nI s) 1 5 = nI f := by rw [up_o2 (by omega), up_s2]
    have ne : ¬ mm_up (mm_up I 1 5 (nI f)) 1 6 (nI s) 1 5 = nI 0 := by
      rw [e5]
      intro w
      have := (nI_eq (by omega) (by omega)).mp w
      omega
    refine ⟨m1, mm_up (mm_up I 1 5 (nI f)) 1 6 (nI s), ?_, (fR.up (by omega)).trans (fR.up (by omega)), Or.inr ⟨hno, rfl, by rw [e5, e], up_s2, ⟨by rw [up_o2 (by omega), up_o2 (by omega)]; exact a3, by rw [up_o2 (by omega), up_o2 (by omega)]; exact a2, by rw [up_o2 (by omega), up_o2 (by omega)]; exact a4⟩⟩⟩
    rw [blame_t h5, Option.bind_some]
    unfold f4_number_54
    rw [snd_f ne]
    rfl
  have htk : tok tx L s ≤ 4 := by
    unfold tok
    split
    · have := tkn_4 (tx s)
      omega
    · omega
  unfold f4_number f4_number_45
  rw [a2, a3]
  by_cases c2 : tok tx L s = 2
  · have hsL : s < L := by
      unfold tok at c2
      split at c2
      · assumption
      · omega
    obtain ⟨-, t1, t2, -⟩ := ten_run hsL c2 (Or.inr rfl)
    have hdg : ∀ k, s ≤ k → k < ten tx L s → 48 ≤ tx k ∧ tx k ≤ 57 := fun k h1 h2 => tkn_2.mp (t2 k h1 h2)
    have hb : bad tx L s = 2 := if_pos c2
    rw [if_pos (show nI (tok tx L s) = 2 by rw [c2]; rfl)]
    rw [a4, pk_sub (by omega)]
    by_cases c3 : 3 < ten tx L s - s
    · rw [if_pos (show (3 : Int32) < nI (ten tx L s - s) from nI_lt (a := 3) c3 (by omega))]
      exact bl 2 (Or.inr rfl) hb.symm (fun w => absurd w.2.1 (by omega))
    · have hf : f4_figures SZ n 1 I Jc = some (nI (dv tx s (ten tx L s - s))) := by
        unfold f4_figures
        rw [a3]
        exact fig_loop h a4 hte (by omega) (by omega) hdg n 0 (by omega) (by omega)
      rw [if_neg (show ¬ (3 : Int32) < nI (ten tx L s - s) from nI_nlt (a := 3) (by omega) (by omega)), hf, Option.bind_some, f10_within_eq, Option.bind_some]
      by_cases c4 : lo ≤ nI (dv tx s (ten tx L s - s)) ∧ nI (dv tx s (ten tx L s - s)) ≤ hi
      · obtain ⟨I', k1, k2, k3, k4, k5⟩ := adv_c (Jc := Jc) hn h hte a4
        refine ⟨_, I', ?_, k2, Or.inl ⟨⟨c2, by omega, c4.1, c4.2⟩, rfl, by rw [k4]; exact h5, k5, k3⟩⟩
        rw [decide_eq_true c4.1, decide_eq_true c4.2, if_neg (show ¬ b01 (true && true) = 0 by decide)]
        unfold f4_number_54
        rw [snd_c h5, Option.bind_some, if_neg n10, hf, Option.bind_some, k1, Option.bind_some]
      · have : (decide (lo ≤ nI (dv tx s (ten tx L s - s))) && decide (nI (dv tx s (ten tx L s - s)) ≤ hi)) = false := by
          rw [Bool.and_eq_false_iff, decide_eq_false_iff_not, decide_eq_false_iff_not]
          exact Classical.not_and_iff_not_or_not.mp c4
        rw [this, if_pos (show b01 false = 0 by decide)]
        exact bl 2 (Or.inr rfl) hb.symm (fun w => c4 ⟨w.2.2.1, w.2.2.2⟩)
  · rw [if_neg (show ¬ nI (tok tx L s) = 2 from fun w => c2 ((nI_eq (a := tok tx L s) (b := 2) (by omega) (by omega)).mp w))]
    exact bl 1 (Or.inl rfl) (if_neg c2).symm (fun w => c2 w.1)
/-- .. and when a fault stands already -/
theorem num_x {n s : Nat} {lo hi : Int32} (hn : 501 ≤ n) (h : cT tx L I) (hs : s ≤ L) (ha : cA tx L s I) (h5 : ¬ I 1 5 = nI 0) : f4_number SZ n 1 lo hi I Jc = some (m1, I, Jc) := by
  have hL := h.1
  obtain ⟨a3, a2, a4⟩ := ha
  have hte := ten_le tx L s
  have e54 : f4_number_54 SZ n 1 I Jc = some (m1, I, Jc) := by
    unfold f4_number_54
    rw [snd_f h5]
    rfl
  unfold f4_number f4_number_45
  rw [blame_f h5, blame_f h5, Option.bind_some]
  dsimp only
  rw [e54]
  split
  · split
    · rfl
    · obtain ⟨r, hr⟩ : ∃ r, f4_figures SZ n 1 I Jc = some r := by
        unfold f4_figures
        rw [a3]
        rcases Nat.lt_or_ge (ten tx L s) s with q | q
        · obtain ⟨n', rfl⟩ : ∃ n', n = n' + 1 := ⟨n - 1, by omega⟩
          refine ⟨0, ?_⟩
          show f4_figures_7_b SZ (n' + 1) _ 1 0 (nI s) I Jc = _
          unfold f4_figures_7_b
          rw [a4, if_pos (nI_le (by omega) (by omega))]
        · exact fig_total h a4 hte n s 0 q (by omega)
      rw [hr, Option.bind_some, f10_within_eq, Option.bind_some, ite_self]
  · rfl
/-- the reference reads a number -/
def nv (tx : Nat → Nat) (s : Nat) : Nat → Nat
  | 0 => 0
  | i + 1 => if nv tx s i ≤ 10000 then 10 * nv tx s i + tx (s + i) - 48 else nv tx s i
theorem nv_le {s : Nat} : ∀ {i : Nat}, (∀ k, k < i → 48 ≤ tx (s + k) ∧ tx (s + k) ≤ 57) → nv tx s i ≤ 100009
  | 0, _ => Nat.zero_le _
  | i + 1, h => by
    have h1 := nv_le (i := i) (fun k hk => h k (by omega))
    have h2 := h i (by omega)
    unfold nv
    split <;> omega
theorem nv_dv {s : Nat} : ∀ {i : Nat}, i ≤ 3 → (∀ k, k < i → 48 ≤ tx (s + k) ∧ tx (s + k) ≤ 57) → nv tx s i = dv tx s i
  | 0, _, _ => rfl
  | i + 1, hi, h => by
    have h1 := nv_dv (i := i) (by omega) (fun k hk => h k (by omega))
    have hv := dv_le (tx := tx) (s := s) (i := i) (fun k hk => h k (by omega))
    have h10 : 10 ^ i ≤ 10 ^ 2 := Nat.pow_le_pow_right (by decide) (by omega)
    unfold nv
    rw [h1, if_pos (by omega)]
    show _ = dv tx s i * 10 + tx (s + i) - 48
    rw [Nat.mul_comm 10]
theorem in_dig {c : Nat} (hc : c < 256) : f11_in SZ (nI c).toInt64 48 57 I Jm = some (b01 (dgt c)) := by
  rw [show f11_in SZ (nI c).toInt64 48 57 I Jm = _ from mWi (lo := 48) (hi := 57) (by decide) (by decide)]
  refine congrArg (fun b => some (b01 b)) ?_
  unfold dgt
  rw [decide_eq_decide.mpr (nI_leI (by omega) (by omega)), decide_eq_decide.mpr (nI_leI (by omega) (by omega)), ← Bool.decide_and]
  exact decide_eq_decide.mpr tkn_2.symm
theorem num_end {s e i : Nat} {lo hi : Int32} {n : Nat} (he : e ≤ 500) (hs : s < e) (h9 : I 167 29 = nI e) (h2 : I 167 32 = nI (nv tx s (e - s))) (h3 : I 167 33 = nI s) (hd : ∀ k, s ≤ k → k < e → 48 ≤ tx k ∧ tx k ≤ 57) : ∃ r I', f11_takeNumber_129 SZ n 167 lo hi I Jm = some (r, I', Jm) ∧ fT I I' ∧ I' 167 29 = nI e ∧ I' 167 33 = nI s ∧ (((e - s ≤ 3 ∧ lo ≤ nI (dv tx s (e - s)) ∧ nI (dv tx s (e - s)) ≤ hi) ∧ r = nI 0 ∧ I' 167 32 = nI (dv tx s (e - s)) ∧ I' 167 28 = I 167 28) ∨ (¬ (e - s ≤ 3 ∧ lo ≤ nI (dv tx s (e - s)) ∧ nI (dv tx s (e - s)) ≤ hi) ∧ r = nI 2 ∧ I' 167 28 = nI s)) := by
  have f2 : ¬ (e - s ≤ 3 ∧ lo ≤ nI (dv tx s (e - s)) ∧ nI (dv tx s (e - s)) ≤ hi) → ∃ r I', f11_takeNumber_157 SZ n 167 I Jm = some (r, I', Jm) ∧ fT I I' ∧ I' 167 29 = nI e ∧ I' 167 33 = nI s ∧ (((e - s ≤ 3 ∧ lo ≤ nI (dv tx s (e - s)) ∧ nI (dv tx s (e - s)) ≤ hi) ∧ r = nI 0 ∧ I' 167 32 = nI (dv tx s (e - s)) ∧ I' 167 28 = I 167 28) ∨ (¬ (e - s ≤ 3 ∧ lo ≤ nI (dv tx s (e - s)) ∧ nI (dv tx s (e - s)) ≤ hi) ∧ r = nI 2 ∧ I' 167 28 = nI s)) := by
    intro hno
    refine ⟨nI 2, mm_up I 167 28 (I 167 33), ?_, fT.up (by omega), by rw [up_o2 (by omega)]; exact h9, by rw [up_o2 (by omega)]; exact h3, Or.inr ⟨hno, rfl, by rw [up_s2]; exact h3⟩⟩
    unfold f11_takeNumber_157 f11_takeNumber_170 f11_fails
    rfl
  unfold f11_takeNumber_129 f11_takeNumber_170
  rw [h9, h3, pk_sub (by omega)]
  by_cases c3 : 3 < e - s
  · rw [if_pos (show (3 : Int32) < nI (e - s) from nI_lt (a := 3) c3 (by omega))]
    exact f2 (fun w => absurd w.1 (by omega))
  · have env : nv tx s (e - s) = dv tx s (e - s) := nv_dv (by omega) (fun k hk => hd (s + k) (by omega) (by omega))
    rw [env] at h2
    rw [if_neg (show ¬ (3 : Int32) < nI (e - s) from nI_nlt (a := 3) (by omega) (by omega)), h2, f11_in_32 rfl rfl, Option.bind_some]
    by_cases c4 : lo ≤ nI (dv tx s (e - s)) ∧ nI (dv tx s (e - s)) ≤ hi
    · rw [decide_eq_true c4.1, decide_eq_true c4.2, if_neg (show ¬ b01 (true && true) = 0 by decide)]
      exact ⟨nI 0, I, rfl, fT.refl, h9, h3, Or.inl ⟨⟨by omega, c4⟩, rfl, h2, rfl⟩⟩
    · have : (decide (lo ≤ nI (dv tx s (e - s))) && decide (nI (dv tx s (e - s)) ≤ hi)) = false := by
        rw [Bool.and_eq_false_iff, decide_eq_false_iff_not, decide_eq_false_iff_not]
        exact Classical.not_and_iff_not_or_not.mp c4
      rw [this, if_pos (show b01 false = 0 by decide)]
      exact f2 (fun w => c4 w.2)
theorem num_loop {s e : Nat} {lo hi : Int32} {n : Nat} (heL : e ≤ L) (hs : s < e) (hd : ∀ k, s ≤ k → k < e → 48 ≤ tx k ∧ tx k ≤ 57) (hx : e < L → ¬ tkn (tx e) = 2) : ∀ (d i : Nat) (I : mm_I), s + i ≤ e → e < s + i + d → mT tx L I → I 167 29 = nI (s + i) → I 167 32 = nI (nv tx s i) → I 167 33 = nI s → ∃ r I', f11_takeNumber_42 SZ n d 167 lo hi I Jm = some (r, I', Jm) ∧ fT I I' ∧ I' 167 29 = nI e ∧ I' 167 33 = nI s ∧ (((e - s ≤ 3 ∧ lo ≤ nI (dv tx s (e - s)) ∧ nI (dv tx s (e - s)) ≤ hi) ∧ r = nI 0 ∧ I' 167 32 = nI (dv tx s (e - s)) ∧ I' 167 28 = I 167 28) ∨ (¬ (e - s ≤ 3 ∧ lo ≤ nI (dv tx s (e - s)) ∧ nI (dv tx s (e - s)) ≤ hi) ∧ r = nI 2 ∧ I' 167 28 = nI s)) := by
  intro d
  induction d with
  | zero => intro i I h1 h2; omega
  | succ d ih =>
    intro i I h1 h2 h g9 g2 g3
    have hL := h.1
    have mS : f11_takeNumber_42 SZ n (d + 1) 167 lo hi I Jm = f11_takeNumber_42_b SZ n (f11_takeNumber_42 SZ n d) 167 lo hi I Jm := rfl
    rw [mS]
    unfold f11_takeNumber_42_b f11_takeNumber_113
    rw [h.2.1, g9]
    by_cases c : s + i = e
    · have fin := num_end (i := 0) (Jm := Jm) (lo := lo) (hi := hi) (n := n) (show e ≤ 500 by omega) hs (by rw [g9, c]) (by rw [g2, show e - s = i by omega]) g3 hd
      rcases Nat.lt_or_ge e L with q | q
      · obtain ⟨h8, ht⟩ := h.2.2 e q
        have ib : mm_inb (nI e) (mm_al SZ (mm_rf SZ 167 26)) = true := by simp (disch := omega) only [↓M1, ↓ofNat_nI, L0, L1, L2, L3, L4, L5, L6, L7, L8, L9, L10, L12, L31, L32, L40, L48, L50, L99, L100, L120, L180, L256, L500, n_lt0, n_ge0, n_let, n_lef, n_ltt, n_ltf, n_eqt, n_eqf, m_lt, m_le, m_eq, m_eq2, m_le2, m_lt2, m_nle, m_nlt, if_true, if_false, eq_self, Option.bind_some, mb0, mb1, mbb, mbn0, mbn1, not_true, not_false_eq_true, reduceIte, Bool.false_eq_true, nI_add, nI_clamp, pk_mul, in_t, in_f, in_m, zr, za, at_SZ, put_SZ, rd_at, wr_at, rd_m, wr_m]
        rw [c, if_neg (nI_ge q (by omega)), if_pos ib, show mm_rf SZ 167 26 = 184 by simp (disch := omega) only [↓M1, ↓ofNat_nI, L0, L1, L2, L3, L4, L5, L6, L7, L8, L9, L10, L12, L31, L32, L40, L48, L50, L99, L100, L120, L180, L256, L500, n_lt0, n_ge0, n_let, n_lef, n_ltt, n_ltf, n_eqt, n_eqf, m_lt, m_le, m_eq, m_eq2, m_le2, m_lt2, m_nle, m_nlt, if_true, if_false, eq_self, Option.bind_some, mb0, mb1, mbb, mbn0, mbn1, not_true, not_false_eq_true, reduceIte, Bool.false_eq_true, nI_add, nI_clamp, pk_mul, in_t, in_f, in_m, zr, za, at_SZ, put_SZ, rd_at, wr_at, rd_m, wr_m], nI_clamp (by omega), ht, in_dig h8, show dgt (tx e) = false from decide_eq_false (hx q), Option.bind_some, if_pos (show b01 false = 0 by decide)]
        exact fin
      · rw [c, if_pos (nI_le q (by omega))]
        exact fin
    · have hk : s + i < L := by omega
      obtain ⟨h8, ht⟩ := h.2.2 (s + i) hk
      have hi' := hd (s + i) (by omega) (by omega)
      have hnv := nv_le (tx := tx) (s := s) (i := i) (fun k hk => hd (s + k) (by omega) (by omega))
      have ib : mm_inb (nI (s + i)) (mm_al SZ (mm_rf SZ 167 26)) = true := by simp (disch := omega) only [↓M1, ↓ofNat_nI, L0, L1, L2, L3, L4, L5, L6, L7, L8, L9, L10, L12, L31, L32, L40, L48, L50, L99, L100, L120, L180, L256, L500, n_lt0, n_ge0, n_let, n_lef, n_ltt, n_ltf, n_eqt, n_eqf, m_lt, m_le, m_eq, m_eq2, m_le2, m_lt2, m_nle, m_nlt, if_true, if_false, eq_self, Option.bind_some, mb0, mb1, mbb, mbn0, mbn1, not_true, not_false_eq_true, reduceIte, Bool.false_eq_true, nI_add, nI_clamp, pk_mul, in_t, in_f, in_m, zr, za, at_SZ, put_SZ, rd_at, wr_at, rd_m, wr_m]
      have go : ∃ r I', f11_takeNumber_42 SZ n d 167 lo hi (mm_up (mm_up I 167 32 (nI (nv tx s (i + 1)))) 167 29 (nI (s + i + 1))) Jm = some (r, I', Jm) ∧ fT I I' ∧ I' 167 29 = nI e ∧ I' 167 33 = nI s ∧ (((e - s ≤ 3 ∧ lo ≤ nI (dv tx s (e - s)) ∧ nI (dv tx s (e - s)) ≤ hi) ∧ r = nI 0 ∧ I' 167 32 = nI (dv tx s (e - s)) ∧ I' 167 28 = I 167 28) ∨ (¬ (e - s ≤ 3 ∧ lo ≤ nI (dv tx s (e - s)) ∧ nI (dv tx s (e - s)) ≤ hi) ∧ r = nI 2 ∧ I' 167 28 = nI s)) := by
        have f0 : fT I (mm_up (mm_up I 167 32 (nI (nv tx s (i + 1)))) 167 29 (nI (s + i + 1))) := (fT.up (by omega)).trans (fT.up (by omega))
        obtain ⟨r, I', k1, k2, k3, k4, k5⟩ := ih (i + 1) (mm_up (mm_up I 167 32 (nI (nv tx s (i + 1)))) 167 29 (nI (s + i + 1))) (by omega) (by omega) (h.f f0) up_s2 (by rw [up_o2 (by omega), up_s2]) (by rw [up_o2 (by omega), up_o2 (by omega)]; exact g3)
        refine ⟨r, I', k1, f0.trans k2, k3, k4, ?_⟩
        rw [up_o2 (a := 167) (by omega), up_o2 (a := 167) (by omega)] at k5
        exact k5
      have env : nv tx s (i + 1) = if nv tx s i ≤ 10000 then 10 * nv tx s i + tx (s + i) - 48 else nv tx s i := rfl
      rw [if_neg (nI_ge hk (by omega)), if_pos ib, if_pos ib, show mm_rf SZ 167 26 = 184 by simp (disch := omega) only [↓M1, ↓ofNat_nI, L0, L1, L2, L3, L4, L5, L6, L7, L8, L9, L10, L12, L31, L32, L40, L48, L50, L99, L100, L120, L180, L256, L500, n_lt0, n_ge0, n_let, n_lef, n_ltt, n_ltf, n_eqt, n_eqf, m_lt, m_le, m_eq, m_eq2, m_le2, m_lt2, m_nle, m_nlt, if_true, if_false, eq_self, Option.bind_some, mb0, mb1, mbb, mbn0, mbn1, not_true, not_false_eq_true, reduceIte, Bool.false_eq_true, nI_add, nI_clamp, pk_mul, in_t, in_f, in_m, zr, za, at_SZ, put_SZ, rd_at, wr_at, rd_m, wr_m], nI_clamp (by omega), ht, in_dig h8, show dgt (tx (s + i)) = true from decide_eq_true (tkn_2.mpr hi'), Option.bind_some, if_neg (show ¬ b01 true = 0 by decide), g2, up_o2 (a := 167) (by omega), up_o2 (a := 167) (by omega), g9, nI_1]
      by_cases c1 : nv tx s i ≤ 10000
      · rw [if_pos c1] at env
        rw [if_pos (show nI (nv tx s i) ≤ 10000 from nI_le (b := 10000) c1 (by omega)), show (10 : Int32) * nI (nv tx s i) = nI (10 * nv tx s i) from pk_mul 10 _, nI_add, show nI (10 * nv tx s i + tx (s + i)) - 48 = nI (10 * nv tx s i + tx (s + i) - 48) from pk_sub (b := 48) (by omega), ← env]
        exact go
      · rw [if_neg c1] at env
        rw [if_neg (show ¬ nI (nv tx s i) ≤ 10000 from nI_ge (a := 10000) (by omega) (by omega)), ← env]
        exact go
theorem num_m {n s a : Nat} {lo hi : Int32} (hn : 501 ≤ n) (h : mT tx L I) (ha : a ≤ L) (hsa : sk tx L a = s) (g9 : I 167 29 = nI a) : ∃ r I', f11_takeNumber SZ n 167 lo hi I Jm = some (r, I', Jm) ∧ fT I I' ∧ ((okN tx L s lo hi ∧ r = nI 0 ∧ I' 167 29 = nI (ten tx L s) ∧ I' 167 32 = nI (dv tx s (ten tx L s - s)) ∧ I' 167 28 = I 167 28 ∧ I' 167 33 = nI s) ∨ (¬ okN tx L s lo hi ∧ r = nI (bad tx L s) ∧ I' 167 28 = nI s)) := by
  have hL := h.1
  obtain ⟨I1, k1, k2, k3, k4⟩ := here_m (Jm := Jm) hn h ha g9
  rw [hsa] at k1 k3
  have h1 := h.f k2
  unfold f11_takeNumber
  rw [k1, Option.bind_some]
  have no : ∀ o : Option Int32, o = some (b01 false) → ¬ tok tx L s = 2 → ∃ r I', (o.bind fun o2 => if o2 = 0 then ((f11_fails SZ 167 1 (I1 167 29) I1 Jm).bind fun o4 => some (o4.1, o4.2.1, o4.2.2)) else (f11_takeNumber_42 SZ n n 167 lo hi (mm_up (mm_up I1 167 33 (I1 167 29)) 167 32 0) Jm)) = some (r, I', Jm) ∧ fT I I' ∧ ((okN tx L s lo hi ∧ r = nI 0 ∧ I' 167 29 = nI (ten tx L s) ∧ I' 167 32 = nI (dv tx s (ten tx L s - s)) ∧ I' 167 28 = I 167 28 ∧ I' 167 33 = nI s) ∨ (¬ okN tx L s lo hi ∧ r = nI (bad tx L s) ∧ I' 167 28 = nI s)) := by
    intro o ho ht
    refine ⟨nI 1, mm_up I1 167 28 (I1 167 29), ?_, k2.trans (fT.up (by omega)), Or.inr ⟨fun w => ht w.1, by unfold bad; rw [if_neg ht], by rw [up_s2]; exact k3⟩⟩
    rw [ho, Option.bind_some, if_pos (show b01 false = 0 by decide)]
    rfl
  by_cases hsL : s < L
  · obtain ⟨h8, -⟩ := h.2.2 s hsL
    have etok : tok tx L s = tkn (tx s) := if_pos hsL
    rw [if_pos hsL]
    dsimp only
    by_cases c2 : tkn (tx s) = 2
    · obtain ⟨-, t1, t2, t3⟩ := ten_run hsL (etok.trans c2) (Or.inr rfl)
      have hte := ten_le tx L s
      have f0 : fT I1 (mm_up (mm_up I1 167 33 (nI s)) 167 32 (nI 0)) := (fT.up (by omega)).trans (fT.up (by omega))
      obtain ⟨r, I', u1, u2, u3, u4, u5⟩ := num_loop (Jm := Jm) (lo := lo) (hi := hi) (n := n) hte t1 (fun k h1 h2 => tkn_2.mp (t2 k h1 h2)) t3 n 0 (mm_up (mm_up I1 167 33 (nI s)) 167 32 (nI 0)) (by omega) (by omega) (h1.f f0) (by rw [up_o2 (by omega), up_o2 (by omega)]; exact k3) up_s2 (by rw [up_o2 (by omega), up_s2])
      refine ⟨r, I', ?_, k2.trans (f0.trans u2), ?_⟩
      · rw [in_dig h8, show dgt (tx s) = true from decide_eq_true c2, Option.bind_some, if_neg (show ¬ b01 true = 0 by decide), k3]
        exact u1
      · rw [up_o2 (a := 167) (by omega), up_o2 (a := 167) (by omega), k4 28 (by omega)] at u5
        rcases u5 with ⟨w1, w2, w3, w4⟩ | ⟨w1, w2, w3⟩
        · exact Or.inl ⟨⟨etok.trans c2, w1.1, w1.2.1, w1.2.2⟩, w2, u3, w3, w4, u4⟩
        · exact Or.inr ⟨fun q => w1 ⟨q.2.1, q.2.2.1, q.2.2.2⟩, by unfold bad; rw [etok, if_pos c2]; exact w2, w3⟩
    · exact no _ (by rw [in_dig h8, show dgt (tx s) = false from decide_eq_false c2]) (by rw [etok]; exact c2)
  · rw [if_neg hsL]
    dsimp only
    refine no _ ?_ ?_
    · rw [show f11_in SZ m1.toInt64 48 57 I1 Jm = _ from mWi (lo := 48) (hi := 57) (by decide) (by decide)]
      decide
    · unfold tok
      rw [if_neg hsL]
      decide
end NUM
