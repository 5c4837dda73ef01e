/-! ===== part 83: a town's beginning and end (written by wip/whole/pre.py) ===== -/
section ENDS
variable {tx : Nat → Nat} {L : Nat} {I I' Ic Im : mm_I} {Jc Jm : mm_J}
theorem eC_v {F p : Nat} : ∀ k, (∀ t, t < k → eC F p k I (F + 4) (6 * p + t) = nI 0 ∧ eC F p k I (F + 6) (6 * p + t) = m1) ∧ ∀ q, (q < 6 * p ∨ 6 * p + k ≤ q) → eC F p k I (F + 4) q = I (F + 4) q ∧ eC F p k I (F + 6) q = I (F + 6) q
  | 0 => ⟨fun t ht => absurd ht (Nat.not_lt_zero t), fun _ _ => ⟨rfl, rfl⟩⟩
  | k + 1 => by
    have ih := eC_v (F := F) (p := p) k
    have e : eC F p (k + 1) I = mm_up (mm_up (eC F p k I) (F + 4) (6 * p + k) (nI 0)) (F + 6) (6 * p + k) m1 := rfl
    rw [e]
    refine ⟨fun t ht => ?_, fun q hq => ?_⟩
    · by_cases w : t = k
      · subst w
        exact ⟨by rw [mm_up_o (by omega), up_s2], up_s2⟩
      · exact ⟨by rw [mm_up_o (by omega), up_o2 (by omega)]; exact (ih.1 t (by omega)).1, by rw [up_o2 (by omega), mm_up_o (by omega)]; exact (ih.1 t (by omega)).2⟩
    · exact ⟨by rw [mm_up_o (by omega), up_o2 (by omega)]; exact (ih.2 q (by omega)).1, by rw [up_o2 (by omega), mm_up_o (by omega)]; exact (ih.2 q (by omega)).2⟩
theorem pT78 : mm_rf SZ 78 0 = 79 ∧ mm_al SZ 79 = 8 := by decide +kernel
theorem fcl_b {n : Nat} {rec : Nat → Int32 → mm_I → mm_J → Option (mm_I × mm_J)} {p : Int32} {I : mm_I} {J : mm_J} : f1_clear_27_b SZ n rec 63 p I J = if 8 ≤ p then (some (I, J)) else ((f1_empty SZ n 63 p I J).bind fun o2 => (f6_put SZ 64 p 0 o2.1 o2.2).bind fun o3 => (f6_put SZ 78 p 0 o3.1 o3.2).bind fun o4 => rec 63 (p + 1) o4.1 o4.2) := by
  unfold f1_clear_27_b
  simp only [zr]
theorem fcl_loop {n : Nat} (hn : 9 ≤ n) : ∀ (d p : Nat) (I : mm_I), p ≤ 8 → 8 < p + d → (∀ r, (r < 64 ∨ 79 < r) → I r = Ic r) → (∀ q, q < p → I 73 q = m1 ∧ I 77 q = m1 ∧ I 79 q = nI 0) → (∀ k, k < 6 * p → I 67 k = nI 0 ∧ I 69 k = m1) → ∃ I', f1_clear_27 SZ n d 63 (nI p) I Jc = some (I', Jc) ∧ (∀ r, (r < 64 ∨ 79 < r) → I' r = Ic r) ∧ (∀ q, q < 8 → I' 73 q = m1 ∧ I' 77 q = m1 ∧ I' 79 q = nI 0) ∧ ∀ k, k < 48 → I' 67 k = nI 0 ∧ I' 69 k = m1 := by
  intro d
  induction d with
  | zero => intro p I h1 h2; omega
  | succ d ih =>
    intro p I h1 h2 i1 i2 i3
    have cS : f1_clear_27 SZ n (d + 1) 63 (nI p) I Jc = f1_clear_27_b SZ n (f1_clear_27 SZ n d) 63 (nI p) I Jc := rfl
    rw [cS, fcl_b]
    by_cases c : p = 8
    · subst c
      rw [if_pos (show (8 : Int32) ≤ nI 8 by decide)]
      exact ⟨I, rfl, i1, i2, fun k hk => i3 k (by omega)⟩
    · have hp : p < 8 := by omega
      have e1 : f1_empty SZ n 63 (nI p) I Jc = some (mm_up (mm_up (mm_up (mm_up (eC 63 p 6 I) 71 p m1) 73 p m1) 75 p (nI 0)) 77 p m1, Jc) := ce_loop (F := 63) (Ic := I) (Jc := Jc) isF63 hp n 0 (by omega) (by omega)
      have p1 : ∀ (I : mm_I), f6_put SZ 64 (nI p) 0 I Jc = some (mm_up I 65 p (nI 0), Jc) := fun I => by
        rw [f6_put_eq (by rw [pT64.1, pT64.2]; omega), pT64.1, pT64.2, wr_at hp (by omega)]
        rfl
      have p2 : ∀ (I : mm_I), f6_put SZ 78 (nI p) 0 I Jc = some (mm_up I 79 p (nI 0), Jc) := fun I => by
        rw [f6_put_eq (by rw [pT78.1, pT78.2]; omega), pT78.1, pT78.2, wr_at hp (by omega)]
        rfl
      have ev := eC_v (F := 63) (p := p) (I := I) 6
      obtain ⟨I', g1, g2⟩ := ih (p + 1) (mm_up (mm_up (mm_up (mm_up (mm_up (mm_up (eC 63 p 6 I) 71 p m1) 73 p m1) 75 p (nI 0)) 77 p m1) 65 p (nI 0)) 79 p (nI 0)) (by omega) (by omega) (fun r hr => by
          simp (disch := omega) only [mm_up_o]
          rw [eC_o (by omega) (by omega)]
          exact i1 r hr) (fun q hq => by
          by_cases e : q = p
          · subst e
            simp (disch := omega) only [up_s2, up_o2]
            exact ⟨trivial, trivial, trivial⟩
          · simp (disch := omega) only [up_o2]
            rw [eC_o (by omega) (by omega), eC_o (by omega) (by omega), eC_o (by omega) (by omega)]
            exact i2 q (by omega)) (fun k hk => by
          simp (disch := omega) only [mm_up_o]
          by_cases e : k < 6 * p
          · have := ev.2 k (Or.inl e)
            rw [show (67 : Nat) = 63 + 4 from rfl, show (69 : Nat) = 63 + 6 from rfl, this.1, this.2]
            exact i3 k e
          · obtain ⟨t, rfl⟩ : ∃ t, k = 6 * p + t := ⟨k - 6 * p, by omega⟩
            exact ev.1 t (by omega))
      refine ⟨I', ?_, g2⟩
      rw [if_neg (show ¬ (8 : Int32) ≤ nI p from nI_ge (b := 8) hp (by omega)), e1, Option.bind_some, p1, Option.bind_some, p2, Option.bind_some, nI_1]
      exact g1
/-- an empty draft -/
theorem told_0 {n : Nat} (hn : 501 ≤ n) : ∃ Ic' Jc', f9_tellAll SZ n 146 Ic Jc = f9_tellAll_26 SZ n n 146 0 Ic' Jc' ∧ fD Ic Ic' ∧ Ic' 1 = Ic 1 ∧ ∀ Im : mm_I, Im 167 34 = nI 0 → Im 167 36 = nI 0 → Im 167 39 = nI 0 → dR 0 0 0 Ic' Jc' Im := by
  have f24 : f6_fill SZ n 24 0 Ic Jc = some (fillTo Ic 25 48 (fun _ => 0), Jc) := by
    have := f6_fill_eq (S := SZ) (n := n) (r := 24) (v := 0) (I := Ic) (J := Jc) (by rw [pT24.1, pT24.2]; omega) (by rw [pT24.1, pT24.2]; omega)
    rw [pT24.1, pT24.2] at this
    exact this
  obtain ⟨I', g1, g2, g3, g4⟩ := fcl_loop (Ic := mm_up (mm_up (mm_up (mm_up (mm_up (mm_up (mm_up (fillTo Ic 25 48 (fun _ => 0)) 15 5 0) 15 6 0) 63 8 0) 63 9 0) 63 10 0) 63 11 0) 63 12 0) (Jc := Jc) (n := n) (by omega) n 0 (mm_up (mm_up (mm_up (mm_up (mm_up (mm_up (mm_up (fillTo Ic 25 48 (fun _ => 0)) 15 5 0) 15 6 0) 63 8 0) 63 9 0) 63 10 0) 63 11 0) 63 12 0) (by omega) (by omega) (fun _ _ => rfl) (fun q hq => absurd hq (Nat.not_lt_zero q)) (fun q hq => absurd hq (by omega))
  refine ⟨mm_up I' 146 3 0, mm_upJ Jc 146 4 0, ?_, ?_, ?_, fun Im e4 e6 e9 => ?_⟩
  · unfold f9_tellAll f0_clear f1_clear
    simp only [zr]
    rw [f24, Option.bind_some, Option.bind_some]
    dsimp only
    rw [show f1_clear_27 SZ n n 63 0 _ Jc = _ from g1, Option.bind_some]
  · refine ⟨fun r h1 h2 h3 h4 => ?_, fun k _ => ?_⟩
    · rw [mm_up_o h4, g2 r (by omega)]
      simp (disch := omega) only [mm_up_o]
      exact fillTo_o (by omega)
    · rw [mm_up_o (by omega), g2 1 (by omega)]
      simp (disch := omega) only [mm_up_o]
      rw [fillTo_o (by omega)]
  · rw [mm_up_o (by omega), g2 1 (by omega)]
    simp (disch := omega) only [mm_up_o]
    exact fillTo_o (by omega)
  · refine ⟨⟨by omega, by omega, by omega, ?_, e4, ?_, e6, ?_, e9⟩, fun t ht => absurd ht (Nat.not_lt_zero t), ⟨fun k hk _ => ?_, fun p t hp => absurd hp (Nat.not_lt_zero p)⟩, fun p hp => absurd hp (Nat.not_lt_zero p), fun p hp => absurd hp (Nat.not_lt_zero p), ⟨?_, ?_, ?_, ?_, fun k hk => ?_, fun p hp => ?_⟩, fun k hk => ⟨fun h => absurd h (by omega), fun _ => ⟨?_, ?_⟩⟩⟩
    · rw [mm_up_o (by omega), g2 15 (by omega)]
      simp (disch := omega) only [up_s2, up_o2]
      rfl
    · rw [mm_up_o (by omega), g2 15 (by omega)]
      simp (disch := omega) only [up_s2, up_o2]
      rfl
    · rw [up_s2]; rfl
    · rw [mm_up_o (by omega)]; exact (g4 k hk).1
    · rw [mm_up_o (by omega), g2 63 (by omega)]
      simp (disch := omega) only [up_s2, up_o2]
      decide +kernel
    · rw [mm_up_o (by omega), g2 63 (by omega)]
      simp (disch := omega) only [up_s2, up_o2]
      rfl
    · rw [mm_up_o (by omega), g2 63 (by omega)]
      simp (disch := omega) only [up_s2, up_o2]
      rfl
    · rw [mm_up_o (by omega), g2 63 (by omega)]
      simp (disch := omega) only [up_s2, up_o2]
      rfl
    · rw [mm_up_o (by omega)]; exact (g4 k hk).2
    · rw [mm_up_o (by omega), mm_up_o (by omega), mm_up_o (by omega)]; exact g3 p hp
    · rw [mm_up_o (by omega), g2 25 (by omega)]
      simp (disch := omega) only [mm_up_o]
      rw [fillTo_in hk]
      rfl
    · have : mm_upJ Jc 146 4 0 146 4 = 0 := by simp [mm_upJ]
      rw [this]
      exact hb_0
/-! the reference's copies -/
theorem al168 : mm_al SZ 168 = 24 ∧ mm_rf SZ 167 1 = 168 := by decide +kernel
theorem al169 : mm_al SZ 169 = 8 ∧ mm_rf SZ 167 3 = 169 := by decide +kernel
theorem al170 : mm_al SZ 170 = 48 ∧ mm_rf SZ 167 4 = 170 := by decide +kernel
theorem al171 : mm_al SZ 171 = 48 ∧ mm_rf SZ 167 5 = 171 := by decide +kernel
theorem al183 : mm_al SZ 183 = 6 ∧ mm_rf SZ 167 25 = 183 := by decide +kernel
theorem al200 : mm_al SZ 200 = 2 ∧ mm_rf SZ 167 56 = 200 := by decide +kernel
theorem t78_loop {n : Nat} : ∀ (d k : Nat) (I : mm_I), k ≤ 24 → 24 < k + d → (∀ r, r ≠ 168 → I r = Im r) → (∀ q, q < k → I 168 q = Im 185 q) → ∃ I', f11_town_78 SZ n d 167 (nI k) I Jm = f11_town_104 SZ n n 167 0 I' Jm ∧ (∀ r, r ≠ 168 → I' r = Im r) ∧ ∀ q, q < 24 → I' 168 q = Im 185 q := by
  intro d
  induction d with
  | zero => intro k I h1 h2; omega
  | succ d ih =>
    intro k I h1 h2 i1 i2
    have mS : f11_town_78 SZ n (d + 1) 167 (nI k) I Jm = f11_town_78_b SZ n (f11_town_78 SZ n d) 167 (nI k) I Jm := rfl
    rw [mS]
    unfold f11_town_78_b
    by_cases c : k = 24
    · subst c
      rw [if_pos (show (24 : Int32) ≤ nI 24 by decide)]
      exact ⟨I, rfl, i1, i2⟩
    · have ib1 : mm_inb (nI k) (mm_al SZ 185) = true := by rw [al185.1]; exact inb_nI (by omega) (by omega)
      have ib2 : mm_inb (nI k) (mm_al SZ 168) = true := by rw [al168.1]; exact inb_nI (by omega) (by omega)
      obtain ⟨I', g1, g2⟩ := ih (k + 1) (mm_up I 168 k (Im 185 k)) (by omega) (by omega) (fun r hr => by rw [mm_up_o hr]; exact i1 r hr) (fun q hq => by
        by_cases e : q = k
        · subst e; exact up_s2
        · rw [up_o2 (by omega)]; exact i2 q (by omega))
      refine ⟨I', ?_, g2⟩
      rw [if_neg (show ¬ (24 : Int32) ≤ nI k from nI_ge (b := 24) (by omega) (by omega)), al185.2, al168.2, if_pos ib1, if_pos ib2, nI_clamp (by omega), nI_1, i1 185 (by omega)]
      exact g1
theorem div6 : ∀ k : Fin 48, nI k.1 / 6 = nI (k.1 / 6) := by decide +kernel
/-- a like as it is told -/
def lkv (P : Nat) (Im : mm_I) (q : Nat) : Int32 := if P ≤ q / 6 then nI 0 else if Im 188 q ≤ 0 then nI 0 else Im 188 q
theorem t104_loop {n P : Nat} (hP : P ≤ 8) (h2P : Im 167 2 = nI P) : ∀ (d k : Nat) (I : mm_I), k ≤ 48 → 48 < k + d → (∀ r, (r < 169 ∨ 171 < r) → I r = Im r) → (∀ q, q < k → I 169 (q / 6) = Im 186 (q / 6) ∧ I 170 q = Im 187 q ∧ I 171 q = lkv P Im q) → ∃ I', f11_town_104 SZ n d 167 (nI k) I Jm = f11_town_184 SZ n n 167 0 I' Jm ∧ (∀ r, (r < 169 ∨ 171 < r) → I' r = Im r) ∧ ∀ q, q < 48 → I' 169 (q / 6) = Im 186 (q / 6) ∧ I' 170 q = Im 187 q ∧ I' 171 q = lkv P Im q := by
  intro d
  induction d with
  | zero => intro k I h1 h2; omega
  | succ d ih =>
    intro k I h1 h2 i1 i2
    have mS : f11_town_104 SZ n (d + 1) 167 (nI k) I Jm = f11_town_104_b SZ n (f11_town_104 SZ n d) 167 (nI k) I Jm := rfl
    rw [mS]
    unfold f11_town_104_b f11_town_174 f11_town_175
    by_cases c : k = 48
    · subst c
      rw [if_pos (show (48 : Int32) ≤ nI 48 by decide)]
      exact ⟨I, rfl, i1, i2⟩
    · have hk : k < 48 := by omega
      have hd : nI k / 6 = nI (k / 6) := div6 ⟨k, hk⟩
      have d1 : mm_inb (nI (k / 6)) (mm_al SZ 186) = true := by rw [al186.1]; exact inb_nI (by omega) (by omega)
      have d2 : mm_inb (nI (k / 6)) (mm_al SZ 169) = true := by rw [al169.1]; exact inb_nI (by omega) (by omega)
      have d3 : mm_inb (nI k) (mm_al SZ 187) = true := by rw [al187.1]; exact inb_nI (by omega) (by omega)
      have d4 : mm_inb (nI k) (mm_al SZ 170) = true := by rw [al170.1]; exact inb_nI (by omega) (by omega)
      have d5 : mm_inb (nI k) (mm_al SZ 188) = true := by rw [al188.1]; exact inb_nI (by omega) (by omega)
      have d6 : mm_inb (nI k) (mm_al SZ 171) = true := by rw [al171.1]; exact inb_nI (by omega) (by omega)
      have c1 : (nI (k / 6)).toNatClampNeg = k / 6 := nI_clamp (by omega)
      have c2 : (nI k).toNatClampNeg = k := nI_clamp (by omega)
      obtain ⟨I', g1, g2⟩ := ih (k + 1) (mm_up (mm_up (mm_up I 169 (k / 6) (Im 186 (k / 6))) 170 k (Im 187 k)) 171 k (lkv P Im k)) (by omega) (by omega) (fun r hr => by
        rw [mm_up_o (by omega), mm_up_o (by omega), mm_up_o (by omega)]; exact i1 r hr) (fun q hq => by
        by_cases e : q = k
        · subst e
          simp (disch := omega) only [up_s2, up_o2]
          exact ⟨trivial, trivial, trivial⟩
        · have g := i2 q (by omega)
          refine ⟨?_, ?_, ?_⟩
          · rw [mm_up_o (by omega), mm_up_o (by omega)]
            by_cases e2 : q / 6 = k / 6
            · rw [e2, up_s2]
            · rw [up_o2 (by omega)]; exact g.1
          · rw [mm_up_o (by omega), up_o2 (by omega), mm_up_o (by omega)]; exact g.2.1
          · rw [up_o2 (by omega), mm_up_o (by omega), mm_up_o (by omega)]; exact g.2.2)
      refine ⟨I', ?_, g2⟩
      have r6 : I 186 = Im 186 := i1 186 (by omega)
      have r7 : I 187 = Im 187 := i1 187 (by omega)
      have r8 : I 188 = Im 188 := i1 188 (by omega)
      have r2 : I 167 2 = nI P := by rw [i1 167 (by omega)]; exact h2P
      have u167 : (mm_up (mm_up I 169 (k / 6) (Im 186 (k / 6))) 170 k (Im 187 k)) 167 2 = nI P := by rw [mm_up_o (by omega), mm_up_o (by omega)]; exact r2
      have u188 : (mm_up (mm_up I 169 (k / 6) (Im 186 (k / 6))) 170 k (Im 187 k)) 188 = Im 188 := by rw [mm_up_o (by omega), mm_up_o (by omega)]; exact r8
      have u187 : (mm_up I 169 (k / 6) (Im 186 (k / 6))) 187 = Im 187 := by rw [mm_up_o (by omega)]; exact r7
      rw [if_neg (show ¬ (48 : Int32) ≤ nI k from nI_ge (b := 48) (by omega) (by omega))]
      simp only [hd, al186.2, al169.2, al187.2, al170.2, al188.2, al171.2, d1, d2, d3, d4, d5, d6, eq_self, if_true, c1, c2, r6, u187, u167, u188, nI_1]
      unfold lkv at g1
      by_cases q1 : P ≤ k / 6
      · rw [if_pos q1] at g1
        rw [if_pos (nI_le q1 (by omega))]
        exact g1
      · rw [if_neg q1] at g1
        rw [if_neg (show ¬ nI P ≤ nI (k / 6) from nI_ge (by omega) (by omega))]
        by_cases q2 : Im 188 k ≤ 0
        · rw [if_pos q2] at g1
          rw [if_pos q2]
          exact g1
        · rw [if_neg q2] at g1
          rw [if_neg q2]
          exact g1
theorem t184_loop {n T P : Nat} (hn : 9 ≤ n) (hP : P ≤ 8) (hT : T ≤ 6) (h0 : Im 167 0 = nI T) (h2P : Im 167 2 = nI P) : ∀ (d k : Nat) (I : mm_I), k ≤ 6 → 6 < k + d → (∀ r, r ≠ 183 → I r = Im r) → (∀ q, q < k → I 183 q = nI 0) → ∃ I5 I', f11_town_184 SZ n d 167 (nI k) I Jm = some (nI P, I', Jm) ∧ (∀ r, r ≠ 183 → r ≠ 167 → r ≠ 200 → I5 r = Im r) ∧ (∀ q, q < 6 → I5 183 q = nI 0) ∧ I5 167 48 = nI 0 ∧ I5 167 51 = nI 0 ∧ (∀ q, q ≠ 48 → q ≠ 51 → q ≠ 23 → I5 167 q = Im 167 q) ∧ I5 200 0 = nI 0 ∧ I5 200 1 = nI 0 ∧ bg P T 8 0 8 I' I5 := by
  intro d
  induction d with
  | zero => intro k I h1 h2; omega
  | succ d ih =>
    intro k I h1 h2 i1 i2
    have mS : f11_town_184 SZ n (d + 1) 167 (nI k) I Jm = f11_town_184_b SZ n (f11_town_184 SZ n d) 167 (nI k) I Jm := rfl
    rw [mS]
    unfold f11_town_184_b
    by_cases c : k = 6
    · subst c
      have b0 : mm_inb 0 (mm_al SZ (mm_rf SZ 167 56)) = true := by rw [al200.2, al200.1]; decide
      have b1 : mm_inb 1 (mm_al SZ (mm_rf SZ 167 56)) = true := by rw [al200.2, al200.1]; decide
      have z0 : (0 : Int32).toNatClampNeg = 0 := by decide
      have z1 : (1 : Int32).toNatClampNeg = 1 := by decide
      have z : ∀ q, q ≠ 48 → q ≠ 51 → q ≠ 23 → (mm_up (mm_up (mm_up (mm_up (mm_up I 167 48 0) 167 51 0) 200 0 0) 200 1 0) 167 23 0) 167 q = Im 167 q := fun q g1 g2 g3 => by
        rw [up_o2 (by omega), mm_up_o (by omega), mm_up_o (by omega), up_o2 (by omega), up_o2 (by omega), i1 167 (by omega)]
      obtain ⟨I', e1, e2⟩ := mbegin_eq (n := n) (P := P) (T := T) (J := Jm) (Im := mm_up (mm_up (mm_up (mm_up (mm_up I 167 48 0) 167 51 0) 200 0 0) 200 1 0) 167 23 0) hP hT (by rw [z 0 (by omega) (by omega) (by omega)]; exact h0) (by rw [z 2 (by omega) (by omega) (by omega)]; exact h2P) hn
      refine ⟨_, I', ?_, fun r g1 g2 g3 => ?_, fun q hq => ?_, ?_, ?_, z, ?_, ?_, e2⟩
      · rw [if_pos (show (6 : Int32) ≤ nI 6 by decide), if_pos b0, if_pos b1, al200.2, z0, z1, e1, Option.bind_some]
        dsimp only
        rw [e2.1.2.1 2 (by omega), z 2 (by omega) (by omega) (by omega), h2P]
      · rw [mm_up_o g2, mm_up_o g3, mm_up_o g3, mm_up_o g2, mm_up_o g2]; exact i1 r g1
      · rw [mm_up_o (by omega), mm_up_o (by omega), mm_up_o (by omega), mm_up_o (by omega), mm_up_o (by omega)]; exact i2 q hq
      · simp (disch := omega) only [up_s2, up_o2]; rfl
      · simp (disch := omega) only [up_s2, up_o2]; rfl
      · simp (disch := omega) only [up_s2, up_o2]; rfl
      · simp (disch := omega) only [up_s2, up_o2]; rfl
    · have ib : mm_inb (nI k) (mm_al SZ 183) = true := by rw [al183.1]; exact inb_nI (by omega) (by omega)
      obtain ⟨I5, I', g1, g2⟩ := ih (k + 1) (mm_up I 183 k (nI 0)) (by omega) (by omega) (fun r hr => by rw [mm_up_o hr]; exact i1 r hr) (fun q hq => by
        by_cases e : q = k
        · subst e; exact up_s2
        · rw [up_o2 (by omega)]; exact i2 q (by omega))
      refine ⟨I5, I', ?_, g2⟩
      rw [if_neg (show ¬ (6 : Int32) ≤ nI k from nI_ge (b := 6) (by omega) (by omega)), al183.2, if_pos ib, nI_clamp (by omega), nI_1]
      exact g1
end ENDS
