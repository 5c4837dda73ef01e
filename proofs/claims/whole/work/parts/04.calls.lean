/-! ===== part 04: starts and calls over the small machine ===== -/
theorem mm_args_look {ad : Nat → Nat} : ∀ (av : List Value) (n : Nat) (i : Nat) (v : Value), mm_look (lv_args n av) i = some v → (i, mm_v ad v) ∈ lv_args n (av.map (mm_v ad)) := by
  intro av
  induction av with
  | nil => intro n i v h; cases h
  | cons x t ih =>
    intro n i v h
    have e1 : lv_args n (x :: t) = (n, x) :: lv_args (if x.category = 2 then n + 2 else n + 1) t := rfl
    have e2 : lv_args n ((x :: t).map (mm_v ad)) = (n, mm_v ad x) :: lv_args (if (mm_v ad x).category = 2 then n + 2 else n + 1) (t.map (mm_v ad)) := rfl
    rw [e1] at h
    rw [e2, mm_v_cat]
    by_cases hi : n = i
    · subst hi
      rw [mm_look_hit] at h
      cases h
      exact List.mem_cons_self
    · rw [mm_look_miss hi] at h
      exact List.mem_cons_of_mem _ (ih _ i v h)
theorem mm_lgsl_len (ad : Nat → Nat) (av : List Value) : (lg_sl (av.map (mm_v ad))).length = (lg_sl av).length := by
  induction av with
  | nil => rfl
  | cons x t ih =>
    have e : ∀ (y : Value) (u : List Value), (lg_sl (y :: u)).length = (if y.category = 2 then 2 else 1) + (lg_sl u).length := by
      intro y u
      by_cases h : y.category = 2
      · simp [lg_sl, h]; omega
      · simp [lg_sl, h]; omega
    show (lg_sl (mm_v ad x :: t.map (mm_v ad))).length = _
    rw [e, e, ih, mm_v_cat]
theorem mm_enter {l : Launch} {M : mm_M} {S : mm_Sh} {av : List Value} {I : mm_I} {J : mm_J} {Q : mm_QQ} (hown : mm_own M = (mm_y M).cls) (hpl : plainName (mm_y M).cls = true) (hn : Nat.ble (lg_sl av).length (mm_nL M) = true) (k : mm_W l M (mm_rm (mm_rk M)) 0 0 S (mm_end S Q) 0 (lv_args 0 av) [] I J) : mm_C l M S av I J Q := by
  intro D cA ad
  refine Met.ofW (cc := mm_cc M) (maxL := mm_nL M) (ret := mm_ret M) hpl rfl ?_
  intro p e s m args below meth c s₁ B hml hv
  obtain ⟨rfl, hP, hK, hinj, hN, hT⟩ := hv
  have hts := atoms_spec (ws := mm_ws M) B.pre
  have hfc : s.vm.findClass (mm_own M) = some m.cls := by rw [hown]; exact findClass_of_methodNamed B.named
  have hl := lv_entry (av.map (mm_v ad)) (n := mm_nL M) (by rw [mm_lgsl_len]; exact Nat.le_of_ble_eq_true hn)
  rw [lg_entry_eq]
  exact k p e s m _ below meth c D cA ad s.heap [] _ ⟨B.exec, B.bytes, hml, hfc, fun w hw => hts w (List.mem_cons_of_mem _ hw), hN, hK, hinj, hT, B.returns, B.notSynchronized⟩ hP va_S.rf ⟨_, hl, fun i v hi => mm_args_look av 0 i v hi⟩
theorem mm_good {M : mm_M} (h : Cond.code (mm_y M) (mm_cc M) (mm_nL M) (mm_ret M) ∈ mm_GW) : GoodIn mm_GW (mm_ws M) := by
  intro w hw
  have h1 : w ∈ mm_GW := by
    rcases List.mem_cons.mp hw with rfl | h1
    · exact h
    · exact h1
  exact ⟨h1, good_of_word (List.mem_filter.mp h1).2⟩
theorem mm_T.to {ad : Nat → Nat} {A : Nat → Prop} {s U : State} {H : Heap} {locs : List Loc} (hW : s.WarmedH U.vm) (h : mm_T ad A s s.heap) (hS : va_S A s.heap H locs) : mm_T ad A U H := by
  obtain ⟨h1, h2, h3, h4⟩ := h
  exact ⟨(h1.moved hW.alike).kept hS.2.1, fun q hq => (h2 q hq).warm hW, (h3.moved hW.alike).kept hS.2.1, h4.imp (fun h4 => (h4.moved hW.alike).kept hS.2.1) (fun h4 => (h4.moved hW.alike).kept hS.2.1)⟩
theorem mm_nest {s U : State} (hW : s.WarmedH U.vm) (h : ∀ w ∈ mm_NW, va_Nw w s) : ∀ w ∈ mm_NW, va_Nw w U := by
  intro w hw
  have h1 := h w hw
  have h2 : mm_isN w = true := (List.mem_filter.mp hw).2
  cases w <;> first | exact h1.warmF hW | exact h1.warmM hW | cases h2
theorem mm_blind {D : va_G} {cA : Nat → ClassId} {ad : Nat → Nat} {S : mm_Sh} {I : mm_I} {J : mm_J} {av : List Value} : FrameBlind (va_Pc av (mm_B D cA ad S I J)) := by
  intro a U g mk h
  obtain ⟨h0, hP, hK, hinj, hN, h1, h2, h3, h4⟩ := h
  have al : U.vm.Alike (U.calling g mk a).vm := Vm.Alike.refl U.vm
  refine ⟨h0, hP, hK.moved al, hinj, fun w hw => ?_, h1.moved al, fun q hq => (h2 q hq).same rfl, h3.moved al, h4.imp (fun h4 => h4.moved al) (fun h4 => h4.moved al)⟩
  have hn := hN w hw
  have h2 : mm_isN w = true := (List.mem_filter.mp hw).2
  cases w <;> first | exact hn.same rfl rfl | cases h2
section MMC
variable {l : Launch} {M : mm_M} {R : Room} {cs ss : Nat} {S : mm_Sh} {E : mm_E} {pc : Nat} {lv : List (Nat × Value)} {stk : List Value} {I : mm_I} {J : mm_J}
theorem mm_runk {p : Program} {e : Env} {s : State} {m : MethodId} {args : Array Value} {below : List Frame} {meth : Method} {c : Code} {D : va_G} {cA : Nat → ClassId} {ad : Nat → Nat} {H : Heap} {locs : List Loc} {ls : Array Slot} {st0 : List Value} {Qz : mm_QQ} {a : Array Value}
    (hr : va_Run p l e R s m args below meth c H locs cs ss 0 0 (F0 m pc ls st0) (stk.map (mm_v ad)) (mm_Qc D cA ad S Qz a) (mm_A ad S)) (X : mm_X M S D cA ad p s m args meth c) (hS : va_S (mm_A ad S) s.heap H locs) (hl : mm_has ls (mm_nL M) ad lv)
    (kk : ∀ r I' J', Qz r I' J' → mm_W l M R cs ss S E (pc + 3) lv (r.toList ++ stk) I' J') : W p l e R s m args below meth c H locs cs ss (E below args s D cA ad) (F0 m pc ls st0) := by
  intro T hT X0
  obtain ⟨v, st₀, t, T', L, h0, X', hL, e1, e2, ⟨⟨r, I', J', ho, hq, hp⟩, hz, hk⟩, st⟩ := hr T hT X0
  cases ho
  rw [h0] at hz hk
  have hS' : va_S (mm_A ad S) s.heap T'.heap (locs ++ L) := ⟨Nat.le_trans hS.1 (by rw [e1]; exact hz), fun q h1 h2 => by rw [e1, hk q (Nat.lt_of_lt_of_le h1 hS.1) h2]; exact hS.2.1 q h1 h2, fun q hq => by
    rcases List.mem_append.mp hq with h | h
    · exact hS.2.2 q h
    · exact hL q h⟩
  obtain ⟨t2, a1, b1⟩ := kk r I' J' hq p e s m args below meth c D cA ad T'.heap (locs ++ L) ls X (by rw [e1]; exact hp) hS' hl T' rfl X'
  refine ⟨t2, st t2 ?_, b1⟩
  have es : (r.toList ++ stk).map (mm_v ad) = (r.map (mm_v ad)).toList ++ stk.map (mm_v ad) := by cases r <;> simp
  rw [es] at a1
  exact a1
/-- own's entry idx links method z (its n arguments), which may be called on an object -/
def mm_LV (own : String) (idx : Nat) (z : mm_M) (n : Nat) : Prop :=
  (Cond.methodLink own idx (mm_y z) ∈ mm_GW ∨ ∃ host, Cond.methodLinkNest own idx (mm_y z) host ∈ mm_NW) ∧ Cond.instanceMethod (mm_y z) ∈ mm_GW ∧ Cond.selects (mm_own z) (mm_y z) (mm_y z) ∈ mm_GW ∧ Cond.initialized (mm_y z).cls ∈ mm_GW ∧ Cond.code (mm_y z) (mm_cc z) (mm_nL z) (mm_ret z) ∈ mm_GW ∧ ((mm_y z).cls ≠ "java/lang/invoke/MethodHandle" ∧ (mm_y z).cls ≠ "java/lang/invoke/VarHandle") ∧ (parseMethodDescriptor (mm_y z).desc).map (fun d => d.parameters.length) = some n
def mm_LS (own : String) (idx : Nat) (z : mm_M) (n : Nat) : Prop :=
  (Cond.methodLink own idx (mm_y z) ∈ mm_GW ∨ ∃ host, Cond.methodLinkNest own idx (mm_y z) host ∈ mm_NW) ∧ Cond.static (mm_y z) ∈ mm_GW ∧ Cond.initialized (mm_y z).cls ∈ mm_GW ∧ Cond.code (mm_y z) (mm_cc z) (mm_nL z) (mm_ret z) ∈ mm_GW ∧ ((mm_y z).cls ≠ "java/lang/invoke/MethodHandle" ∧ (mm_y z).cls ≠ "java/lang/invoke/VarHandle") ∧ (parseMethodDescriptor (mm_y z).desc).map (fun d => d.parameters.length) = some n
def mm_roomy (R : Room) (cs ss : Nat) (z : mm_M) : Prop := mm_rk z + 1 ≤ R.frames ∧ 8 + (mm_nL z + 11) + 40 * mm_rk z ≤ R.locals ∧ cs + 0 ≤ R.cells ∧ ss + 0 ≤ R.slots
theorem mm_sum (ad : Nat → Nat) (l : List Value) : ((l.map (mm_v ad)).map fun v => v.category) = l.map fun v => v.category := by
  simp [Function.comp_def, mm_v_cat]
theorem mm_callV {z : mm_M} {idx n b ci : Nat} {As : List Value} {st0 : List Value} {Qz : mm_QQ} {T : u_T} {N : Nat} {fs : List (Nat ⊕ Nat)} (hz : mm_C l z S (.ref b :: As) I J Qz) (hL : mm_LV (mm_own M) idx z n) (hn : As.length = n) (hd : decode (mm_cc M) pc = .ok (.invokevirtual idx, 3)) (hR : mm_roomy R cs ss z) (hcl : vwCl[ci]? = some (mm_own z, T, N)) (hb : S[b]? = some (.inr (ci, fs))) (hst : st0 = As.reverse ++ .ref b :: stk) (hsm : Nat.ble (stk.map fun v => v.category).sum 8 = true)
    (kk : ∀ r I' J', Qz r I' J' → mm_W l M R cs ss S E (pc + 3) lv (r.toList ++ stk) I' J') : mm_W l M R cs ss S E pc lv st0 I J := by
  intro p e s m args below meth c D cA ad H locs ls X hP hS hl
  have hX := X
  obtain ⟨hx, hb2, hml, hown, hts, hnest, hK, hinj, hT, hret, hlocks⟩ := X
  obtain ⟨hlink, hinst, hsel, hini, hcode, hne, hlen⟩ := hL
  obtain ⟨hf1, hf2, hf3, hf4⟩ := hR
  have hst2 : st0.map (mm_v ad) = (As.map (mm_v ad)).reverse ++ .ref (ad b) :: stk.map (mm_v ad) := by
    rw [hst]; simp [mm_v]
  have hlen2 : ∀ sig, parseMethodDescriptor (mm_y z).desc = some sig → n = sig.parameters.length := by
    intro sig h
    rw [h] at hlen
    exact (Option.some.inj hlen).symm
  have hp : PreV s H (mm_own z) (ad b) (va_Pc ((Value.ref b :: As).map (mm_v ad)) (mm_B D cA ad S I J)) (As.map (mm_v ad)) := by
    refine ⟨mm_blind, va_recv hK hP hcl (mm_w_at hb), fun U hU hW => ⟨rfl, by rw [hU]; exact hP, hK.moved hW.alike, hinj, mm_nest hW hnest, by rw [hU]; exact hT.to hW hS⟩⟩
  have hsum : 2 * (F0 m pc ls (st0.map (mm_v ad))).monitorRoom + ((stk.map (mm_v ad)).map fun v => v.category).sum ≤ 8 := by
    rw [mm_sum]
    exact lv_room (Nat.le_of_ble_eq_true hsm)
  refine mm_runk (M := M) (Qz := Qz) (a := (Value.ref (ad b) :: As.map (mm_v ad)).toArray) ?_ hX hS hl kk
  rcases hlink with hlink | ⟨host, hlink⟩
  · exact va_runV (As := As.map (mm_v ad)) (rest := stk.map (mm_v ad)) ⟨hx, hb2, hml, hown, hts⟩ (hz D cA ad) ⟨⟨rfl, rfl, hf1, hf2, pay_in hts (mm_good hcode), List.mem_cons_self, hts _ hcode, hts _ hini, hne, hlen2, hts _ hlink⟩, hts _ hinst, hts _ hsel⟩ hp rfl (by simpa using hn) hl.choose_spec.1.1 hst2 hsum hd ⟨hf3, hf4⟩
  · exact va_runVN (host := host) (As := As.map (mm_v ad)) (rest := stk.map (mm_v ad)) ⟨hx, hb2, hml, hown, hts⟩ (hz D cA ad) ⟨⟨⟨rfl, rfl, hf1, hf2, pay_in hts (mm_good hcode), List.mem_cons_self⟩, hts _ hcode, hts _ hini, hne, hlen2, va_Nw.use rfl (hnest _ hlink)⟩, hts _ hinst, hts _ hsel⟩ hp rfl (by simpa using hn) hl.choose_spec.1.1 hst2 hsum hd ⟨hf3, hf4⟩
theorem mm_callS {z : mm_M} {idx n : Nat} {As : List Value} {st0 : List Value} {Qz : mm_QQ} (hz : mm_C l z S As I J Qz) (hL : mm_LS (mm_own M) idx z n) (hn : As.length = n) (hd : decode (mm_cc M) pc = .ok (.invokestatic idx, 3)) (hR : mm_roomy R cs ss z) (hst : st0 = As.reverse ++ stk) (hsm : Nat.ble (stk.map fun v => v.category).sum 8 = true)
    (kk : ∀ r I' J', Qz r I' J' → mm_W l M R cs ss S E (pc + 3) lv (r.toList ++ stk) I' J') : mm_W l M R cs ss S E pc lv st0 I J := by
  intro p e s m args below meth c D cA ad H locs ls X hP hS hl
  have hX := X
  obtain ⟨hx, hb2, hml, hown, hts, hnest, hK, hinj, hT, hret, hlocks⟩ := X
  obtain ⟨hlink, hstat, hini, hcode, hne, hlen⟩ := hL
  obtain ⟨hf1, hf2, hf3, hf4⟩ := hR
  have hst2 : st0.map (mm_v ad) = (As.map (mm_v ad)).reverse ++ stk.map (mm_v ad) := by
    rw [hst]; simp
  have hlen2 : ∀ sig, parseMethodDescriptor (mm_y z).desc = some sig → n = sig.parameters.length := by
    intro sig h
    rw [h] at hlen
    exact (Option.some.inj hlen).symm
  have hp : PreS s H (va_Pc (As.map (mm_v ad)) (mm_B D cA ad S I J)) (As.map (mm_v ad)) :=
    ⟨mm_blind, fun U hU hW => ⟨rfl, by rw [hU]; exact hP, hK.moved hW.alike, hinj, mm_nest hW hnest, by rw [hU]; exact hT.to hW hS⟩⟩
  have hsum : 2 * (F0 m pc ls (st0.map (mm_v ad))).monitorRoom + ((stk.map (mm_v ad)).map fun v => v.category).sum ≤ 8 := by
    rw [mm_sum]
    exact lv_room (Nat.le_of_ble_eq_true hsm)
  refine mm_runk (M := M) (Qz := Qz) (a := (As.map (mm_v ad)).toArray) ?_ hX hS hl kk
  rcases hlink with hlink | ⟨host, hlink⟩
  · exact va_runS (As := As.map (mm_v ad)) (rest := stk.map (mm_v ad)) ⟨hx, hb2, hml, hown, hts⟩ (hz D cA ad) ⟨⟨rfl, rfl, hf1, hf2, pay_in hts (mm_good hcode), List.mem_cons_self, hts _ hcode, hts _ hini, hne, hlen2, hts _ hlink⟩, hts _ hstat⟩ hp rfl (by simpa using hn) hl.choose_spec.1.1 hst2 hsum hd ⟨hf3, hf4⟩
  · exact va_runSN (host := host) (As := As.map (mm_v ad)) (rest := stk.map (mm_v ad)) ⟨hx, hb2, hml, hown, hts⟩ (hz D cA ad) ⟨⟨⟨rfl, rfl, hf1, hf2, pay_in hts (mm_good hcode), List.mem_cons_self⟩, hts _ hcode, hts _ hini, hne, hlen2, va_Nw.use rfl (hnest _ hlink)⟩, hts _ hstat, trivial⟩ hp rfl (by simpa using hn) hl.choose_spec.1.1 hst2 hsum hd ⟨hf3, hf4⟩
end MMC
