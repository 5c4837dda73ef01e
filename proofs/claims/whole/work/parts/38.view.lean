/-! ===== part 38: the people's view, changed place by place (written by wip/whole/pre.py) ===== -/
def vS (v : vw) (j k : Nat) (x : Int32) : vw := (fun a b => if a = j ∧ b = k then x else v.1 a b, v.2)
theorem vS_s {v : vw} {j k : Nat} {x : Int32} : (vS v j k x).1 j k = x := by unfold vS; simp
theorem vS_o {v : vw} {j k a b : Nat} {x : Int32} (h : ¬ (a = j ∧ b = k)) : (vS v j k x).1 a b = v.1 a b := by
  unfold vS
  exact if_neg h
theorem vS_y {v : vw} {j k : Nat} {x : Int32} : (vS v j k x).2 = v.2 := rfl
/-- the cell of the view's array j -/
def vc : Nat → Nat
  | 0 => 174 | 1 => 175 | 2 => 172 | 3 => 173 | 4 => 176 | 5 => 177 | 6 => 178 | 7 => 179 | 8 => 180 | 9 => 181 | _ => 182
theorem vCur_1 {Im : mm_I} {j k : Nat} : (vCur Im).1 j k = Im (vc j) k := by
  unfold vCur vc
  rfl
theorem vc_inj {a b : Nat} (hb : b ≤ 10) (h : vc a = vc b) : a = b ∨ (10 ≤ a ∧ b = 10) := by
  have hb' : b = 0 ∨ b = 1 ∨ b = 2 ∨ b = 3 ∨ b = 4 ∨ b = 5 ∨ b = 6 ∨ b = 7 ∨ b = 8 ∨ b = 9 ∨ b = 10 := by omega
  unfold vc at h
  rcases hb' with rfl | rfl | rfl | rfl | rfl | rfl | rfl | rfl | rfl | rfl | rfl <;> revert h <;> split <;> intro h <;> first
    | exact Or.inl rfl
    | (exact absurd h (by decide))
    | skip
  · refine Or.inr ⟨?_, rfl⟩
    have hh : ∀ a : Nat, a ≤ 9 → a = 0 ∨ a = 1 ∨ a = 2 ∨ a = 3 ∨ a = 4 ∨ a = 5 ∨ a = 6 ∨ a = 7 ∨ a = 8 ∨ a = 9 := fun a h => by omega
    rename_i q0 q1 q2 q3 q4 q5 q6 q7 q8 q9
    rcases Nat.lt_or_ge 9 a with q | q
    · omega
    · rcases hh a q with rfl | rfl | rfl | rfl | rfl | rfl | rfl | rfl | rfl | rfl <;> simp_all
theorem vc_ge (j : Nat) : 172 ≤ vc j ∧ vc j ≤ 182 := by
  unfold vc
  split <;> omega
/-- the same people, but for the tenth array's copies -/
def vE (v w : vw) : Prop := (∀ a b, a ≤ 10 → v.1 a b = w.1 a b) ∧ v.2 = w.2
theorem vCur_up {Im : mm_I} {j k : Nat} {x : Int32} (hj : j ≤ 10) : vE (vCur (mm_up Im (vc j) k x)) (vS (vCur Im) j k x) := by
  refine ⟨fun a b ha => ?_, ?_⟩
  · rw [vCur_1]
    by_cases h : a = j ∧ b = k
    · obtain ⟨rfl, rfl⟩ := h
      rw [up_s2, vS_s]
    · rw [vS_o h, vCur_1, up_o2]
      rintro ⟨h1, h2⟩
      rcases vc_inj hj h1 with q | ⟨q1, q2⟩
      · exact h ⟨q, h2⟩
      · exact h ⟨by omega, h2⟩
  · show mm_up Im (vc j) k x 167 23 = Im 167 23
    have := vc_ge j
    exact up_o2 (by omega)
theorem rF.e {T P N F : Nat} {Ic : mm_I} {v w : vw} (h : rF T P N F Ic v) (e : vE w v) : rF T P N F Ic w := by
  obtain ⟨e1, e2⟩ := e
  unfold rF at h ⊢
  simp (disch := omega) only [e1, e2]
  exact h
/-! updates that both do -/
section UPD
variable {T P N F : Nat} {Ic : mm_I} {v : vw}
theorem rF.prac (h : rF T P N F Ic v) {p : Nat} {x : Int32} (hp : p < P) (hx : orT T x) (hl : x = -1 ∨ v.1 3 p = b01 true) (hP : P ≤ 8) : rF T P N F (mm_up Ic (F + 8) p x) (vS v 4 p x) := by
  obtain ⟨h1, h2, h3, h4, h5, h6, ⟨Lv, l1, l2, l3, l4⟩, h8, h9, h10, h11, h12, ⟨Wt, w1, w2⟩, ⟨Nt, n1, n2⟩, y, y1, y2, y3⟩ := h
  refine ⟨?_, ?_, ?_, ?_, ?_, ?_, ⟨Lv, ?_, ?_, l3, ?_⟩, ?_, ?_, ?_, ?_, ?_, ⟨Wt, ?_, ?_⟩, ⟨Nt, ?_, ?_⟩, y, y1, ?_, y3⟩ <;> try first | assumption | (simp (disch := omega) only [up_o2, vS_o]; assumption)
  · intro q hq hd
    obtain ⟨g1, g2, g3, g4⟩ := l4 q hq hd
    simp (disch := omega) only [vS_o]
    refine ⟨g1, ?_, g3, g4⟩
    by_cases e : q = p
    · subst e
      rw [vS_s]
      rcases hl with hl | hl
      · exact hl
      · rw [l2 q (by omega), hd] at hl
        exact absurd hl (by decide)
    · rw [vS_o (by omega)]; exact g2
  · intro q hq
    by_cases e : q = p
    · subst e
      rw [vS_s, up_s2]
      exact ⟨rfl, hx⟩
    · rw [vS_o (by omega), up_o2 (by omega)]
      exact h8 q hq
theorem rF.lnt (h : rF T P N F Ic v) {p : Nat} {x : Int32} (hp : p < P) : rF T P N F (mm_up Ic (F + 12) p x) (vS v 6 p x) := by
  obtain ⟨h1, h2, h3, h4, h5, h6, ⟨Lv, l1, l2, l3, l4⟩, h8, h9, h10, h11, h12, ⟨Wt, w1, w2⟩, ⟨Nt, n1, n2⟩, y, y1, y2, y3⟩ := h
  refine ⟨?_, ?_, ?_, ?_, ?_, ?_, ⟨Lv, ?_, ?_, l3, ?_⟩, ?_, ?_, ?_, ?_, ?_, ⟨Wt, ?_, ?_⟩, ⟨Nt, ?_, ?_⟩, y, y1, ?_, y3⟩ <;> try first | assumption | (simp (disch := omega) only [up_o2, vS_o]; assumption)
  · intro q hq hd
    by_cases e : q = p
    · subst e
      rw [vS_s, up_s2]
    · rw [vS_o (a := 6) (by omega), up_o2 (by omega)]
      rw [vS_o (by omega)] at hd
      exact h10 q hq hd
theorem rF.lrn (h : rF T P N F Ic v) {p : Nat} {x : Int32} (hp : p < P) (hx : orT T x) (hl : x = -1 ∨ v.1 3 p = b01 true) (hg : x ≠ -1 → Ic (F + 12) p = v.1 6 p) (hP : P ≤ 8) : rF T P N F (mm_up Ic (F + 10) p x) (vS v 5 p x) := by
  obtain ⟨h1, h2, h3, h4, h5, h6, ⟨Lv, l1, l2, l3, l4⟩, h8, h9, h10, h11, h12, ⟨Wt, w1, w2⟩, ⟨Nt, n1, n2⟩, y, y1, y2, y3⟩ := h
  refine ⟨?_, ?_, ?_, ?_, ?_, ?_, ⟨Lv, ?_, ?_, l3, ?_⟩, ?_, ?_, ?_, ?_, ?_, ⟨Wt, ?_, ?_⟩, ⟨Nt, ?_, ?_⟩, y, y1, ?_, y3⟩ <;> try first | assumption | (simp (disch := omega) only [up_o2, vS_o]; assumption)
  · intro q hq hd
    obtain ⟨g1, g2, g3, g4⟩ := l4 q hq hd
    simp (disch := omega) only [vS_o]
    refine ⟨g1, g2, ?_, g4⟩
    by_cases e : q = p
    · subst e
      rw [vS_s]
      rcases hl with hl | hl
      · exact hl
      · rw [l2 q (by omega), hd] at hl
        exact absurd hl (by decide)
    · rw [vS_o (by omega)]; exact g3
  · intro q hq
    by_cases e : q = p
    · subst e
      rw [vS_s, up_s2]
      exact ⟨rfl, hx⟩
    · rw [vS_o (by omega), up_o2 (by omega)]
      exact h9 q hq
  · intro q hq hd
    rw [vS_o (by omega), up_o2 (by omega)]
    by_cases e : q = p
    · subst e
      rw [vS_s] at hd
      exact hg hd
    · rw [vS_o (by omega)] at hd
      exact h10 q hq hd
theorem rF.frg (h : rF T P N F Ic v) {p : Nat} {x : Int32} (hp : p < P) (hx : orT T x) (hl : x = -1 ∨ v.1 3 p = b01 true) (hP : P ≤ 8) : rF T P N F (mm_up Ic (F + 14) p x) (vS v 7 p x) := by
  obtain ⟨h1, h2, h3, h4, h5, h6, ⟨Lv, l1, l2, l3, l4⟩, h8, h9, h10, h11, h12, ⟨Wt, w1, w2⟩, ⟨Nt, n1, n2⟩, y, y1, y2, y3⟩ := h
  refine ⟨?_, ?_, ?_, ?_, ?_, ?_, ⟨Lv, ?_, ?_, l3, ?_⟩, ?_, ?_, ?_, ?_, ?_, ⟨Wt, ?_, ?_⟩, ⟨Nt, ?_, ?_⟩, y, y1, ?_, y3⟩ <;> try first | assumption | (simp (disch := omega) only [up_o2, vS_o]; assumption)
  · intro q hq hd
    obtain ⟨g1, g2, g3, g4⟩ := l4 q hq hd
    simp (disch := omega) only [vS_o]
    refine ⟨g1, g2, g3, ?_⟩
    by_cases e : q = p
    · subst e
      rw [vS_s]
      rcases hl with hl | hl
      · exact hl
      · rw [l2 q (by omega), hd] at hl
        exact absurd hl (by decide)
    · rw [vS_o (by omega)]; exact g4
  · intro q hq
    by_cases e : q = p
    · subst e
      rw [vS_s, up_s2]
      exact ⟨rfl, hx⟩
    · rw [vS_o (by omega), up_o2 (by omega)]
      exact h11 q hq
theorem rF.ern (h : rF T P N F Ic v) {p : Nat} {x : Int32} (hp : p < P) : rF T P N F (mm_up Ic (F + 16) p x) (vS v 8 p x) := by
  obtain ⟨h1, h2, h3, h4, h5, h6, ⟨Lv, l1, l2, l3, l4⟩, h8, h9, h10, h11, h12, ⟨Wt, w1, w2⟩, ⟨Nt, n1, n2⟩, y, y1, y2, y3⟩ := h
  refine ⟨?_, ?_, ?_, ?_, ?_, ?_, ⟨Lv, ?_, ?_, l3, ?_⟩, ?_, ?_, ?_, ?_, ?_, ⟨Wt, ?_, ?_⟩, ⟨Nt, ?_, ?_⟩, y, y1, ?_, y3⟩ <;> try first | assumption | (simp (disch := omega) only [up_o2, vS_o]; assumption)
  · intro q hq
    by_cases e : q = p
    · subst e
      rw [vS_s, up_s2]
    · rw [vS_o (by omega), up_o2 (by omega)]
      exact h12 q hq
theorem rF.age (h : rF T P N F Ic v) {p : Nat} {x : Int32} (hp : p < P) : rF T P N F (mm_up Ic (F + 2) p x) (vS v 2 p x) := by
  obtain ⟨h1, h2, h3, h4, h5, h6, ⟨Lv, l1, l2, l3, l4⟩, h8, h9, h10, h11, h12, ⟨Wt, w1, w2⟩, ⟨Nt, n1, n2⟩, y, y1, y2, y3⟩ := h
  refine ⟨?_, ?_, ?_, ?_, ?_, ?_, ⟨Lv, ?_, ?_, l3, ?_⟩, ?_, ?_, ?_, ?_, ?_, ⟨Wt, ?_, ?_⟩, ⟨Nt, ?_, ?_⟩, y, y1, ?_, y3⟩ <;> try first | assumption | (simp (disch := omega) only [up_o2, vS_o]; assumption)
  · intro q hq
    by_cases e : q = p
    · subst e
      rw [vS_s, up_s2]
    · rw [vS_o (by omega), up_o2 (by omega)]
      exact h6 q hq
theorem c6 {p t q u : Nat} (ht : t < 6) (hu : u < 6) (h : 6 * q + u = 6 * p + t) : q = p ∧ u = t := by omega
theorem rF.sk (h : rF T P N F Ic v) {p t s : Nat} (hp : p < P) (ht : t < T) (hs : s ≤ 100) (hl : v.1 3 p = b01 true) (hg : s = 0 → Ic (F + 6) (6 * p + t) = v.1 1 (6 * p + t)) (hP : P ≤ 8) (hT : T ≤ 6) : rF T P N F (mm_up Ic (F + 4) (6 * p + t) (nI s)) (vS v 0 (6 * p + t) (nI s)) := by
  obtain ⟨h1, h2, h3, h4, h5, h6, ⟨Lv, l1, l2, l3, l4⟩, h8, h9, h10, h11, h12, ⟨Wt, w1, w2⟩, ⟨Nt, n1, n2⟩, y, y1, y2, y3⟩ := h
  refine ⟨?_, ?_, ?_, ?_, ?_, ?_, ⟨Lv, ?_, ?_, l3, ?_⟩, ?_, ?_, ?_, ?_, ?_, ⟨Wt, ?_, ?_⟩, ⟨Nt, ?_, ?_⟩, y, y1, ?_, y3⟩ <;> try first | assumption | (simp (disch := omega) only [up_o2, vS_o]; assumption)
  · intro k hk
    by_cases e : k = 6 * p + t
    · subst e
      rw [vS_s, up_s2]
      exact ⟨rfl, s, hs, rfl⟩
    · rw [vS_o (by omega), up_o2 (by omega)]
      exact h1 k hk
  · intro q u hq hu hc
    rw [vS_o (by omega)]
    exact h2 q u hq hu hc
  · intro k hk h0
    rw [vS_o (by omega), up_o2 (by omega)]
    by_cases e : k = 6 * p + t
    · subst e
      rw [vS_s] at h0
      exact hg (by
        have := (nI_eq (a := s) (b := 0) (by omega) (by omega)).mp h0
        omega)
    · rw [vS_o (by omega)] at h0
      exact h3 k hk h0
  · intro q hq hd
    obtain ⟨g1, g2, g3, g4⟩ := l4 q hq hd
    refine ⟨fun u hu => ?_, by rw [vS_o (by omega)]; exact g2, by rw [vS_o (by omega)]; exact g3, by rw [vS_o (by omega)]; exact g4⟩
    have hne : q ≠ p := by
      rintro rfl
      rw [l2 q (by omega), hd] at hl
      exact absurd hl (by decide)
    rw [vS_o (by omega)]
    exact g1 u hu
theorem rF.gone (h : rF T P N F Ic v) {k : Nat} {x : Int32} (hk : k < 48) (hx : x = -1 ∨ ∃ y, y ≤ N ∧ x = nI y) : rF T P N F (mm_up Ic (F + 6) k x) (vS v 1 k x) := by
  obtain ⟨h1, h2, h3, h4, h5, h6, ⟨Lv, l1, l2, l3, l4⟩, h8, h9, h10, h11, h12, ⟨Wt, w1, w2⟩, ⟨Nt, n1, n2⟩, y, y1, y2, y3⟩ := h
  refine ⟨?_, ?_, ?_, ?_, ?_, ?_, ⟨Lv, ?_, ?_, l3, ?_⟩, ?_, ?_, ?_, ?_, ?_, ⟨Wt, ?_, ?_⟩, ⟨Nt, ?_, ?_⟩, y, y1, ?_, y3⟩ <;> try first | assumption | (simp (disch := omega) only [up_o2, vS_o]; assumption)
  · intro j hj h0
    by_cases e : j = k
    · subst e
      rw [vS_s, up_s2]
    · rw [vS_o (by omega)] at h0
      rw [vS_o (by omega), up_o2 (by omega)]
      exact h3 j hj h0
  · intro j hj
    by_cases e : j = k
    · subst e
      rw [vS_s]; exact hx
    · rw [vS_o (by omega)]
      exact h4 j hj
  · intro j hj
    by_cases e : j = k
    · subst e
      rw [up_s2]; exact hx
    · rw [up_o2 (by omega)]
      exact h5 j hj
theorem rF.goneM (h : rF T P N F Ic v) {k : Nat} {x : Int32} (hk : k < 48) (hx : x = -1 ∨ ∃ y, y ≤ N ∧ x = nI y) (hs : v.1 0 k ≠ 0) : rF T P N F Ic (vS v 1 k x) := by
  obtain ⟨h1, h2, h3, h4, h5, h6, ⟨Lv, l1, l2, l3, l4⟩, h8, h9, h10, h11, h12, ⟨Wt, w1, w2⟩, ⟨Nt, n1, n2⟩, y, y1, y2, y3⟩ := h
  refine ⟨?_, ?_, ?_, ?_, ?_, ?_, ⟨Lv, ?_, ?_, l3, ?_⟩, ?_, ?_, ?_, ?_, ?_, ⟨Wt, ?_, ?_⟩, ⟨Nt, ?_, ?_⟩, y, y1, ?_, y3⟩ <;> try first | assumption | (simp (disch := omega) only [up_o2, vS_o]; assumption)
  · intro j hj h0
    by_cases e : j = k
    · subst e
      rw [vS_o (by omega)] at h0
      exact absurd h0 hs
    · rw [vS_o (by omega)] at h0
      rw [vS_o (by omega)]
      exact h3 j hj h0
  · intro j hj
    by_cases e : j = k
    · subst e
      rw [vS_s]; exact hx
    · rw [vS_o (by omega)]
      exact h4 j hj
end UPD
theorem mm_up_comm {I : mm_I} {r k a b : Nat} {x y : Int32} (h : r ≠ a) : mm_up (mm_up I r k x) a b y = mm_up (mm_up I a b y) r k x := by
  funext q
  unfold mm_up
  by_cases h1 : q = a
  · subst h1
    rw [if_pos rfl, if_neg (fun e => h e.symm), if_neg (fun e => h e.symm), if_pos rfl]
  · by_cases h2 : q = r
    · subst h2
      rw [if_neg h1, if_pos rfl, if_pos rfl, if_neg h]
    · rw [if_neg h1, if_neg h2, if_neg h2, if_neg h1]
