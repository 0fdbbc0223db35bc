/-! ends told by a property -/
def rE (v : AV) (P : AH → Prop) : AR → AH → Prop := fun r h' => r = .inl (some v) ∧ P h'
def rF (P : AH → Prop) : AR → AH → Prop := fun r h' => r = .inl none ∧ P h'
theorem aw_invV_e {γ : GG} {M : MD} {d kc ks pc : Nat} {ls : List (Nat × AV)} {st : List AV} {h : AH} {Q : AR → AH → Prop} {M' : MD} {d' kc' ks' n idx : Nat} {a : Nat} {as st0 : List AV} {v : AV} {P : AH → Prop} (hd : decode M.2.1 pc = .ok (.invokevirtual idx, 3)) (hm : mV M' n) (hlk : Cond.methodLink M.1.cls idx M'.1 ∈ lw_tbl) (ht0 : M.2.2.2.2 = []) (hC : Call γ M' d' kc' ks' (vr (some a) :: as) h (rE v P)) (ho : isO h a M'.1.cls) (has : st0 = as.reverse ++ vr (some a) :: st) (hn : as.length = n) (hd' : d' + 1 ≤ d) (h1' : kc' ≤ kc) (h2' : ks' ≤ ks) (hst : st.length ≤ 4) (kk : ∀ h1 : AH, P h1 → AW γ M d (kc - kc') (ks - ks') (pc + 3) ls (v :: st) h1 Q) : AW γ M d kc ks pc ls st0 h Q := by
  rw [has]
  exact aw_invV hd hm hlk ht0 hC ho rfl hn hd' h1' h2' hst (fun v9 h' hq => by obtain ⟨e, hp⟩ := hq; cases e; exact kk _ hp) (fun X h' hq => by obtain ⟨e, -⟩ := hq; cases e)
theorem aw_invV_f {γ : GG} {M : MD} {d kc ks pc : Nat} {ls : List (Nat × AV)} {st : List AV} {h : AH} {Q : AR → AH → Prop} {M' : MD} {d' kc' ks' n idx : Nat} {a : Nat} {as st0 : List AV} {P : AH → Prop} (hd : decode M.2.1 pc = .ok (.invokevirtual idx, 3)) (hm : mV M' n) (hlk : Cond.methodLink M.1.cls idx M'.1 ∈ lw_tbl) (ht0 : M.2.2.2.2 = []) (hC : Call γ M' d' kc' ks' (vr (some a) :: as) h (rF P)) (ho : isO h a M'.1.cls) (has : st0 = as.reverse ++ vr (some a) :: st) (hn : as.length = n) (hd' : d' + 1 ≤ d) (h1' : kc' ≤ kc) (h2' : ks' ≤ ks) (hst : st.length ≤ 4) (kk : ∀ h1 : AH, P h1 → AW γ M d (kc - kc') (ks - ks') (pc + 3) ls (st) h1 Q) : AW γ M d kc ks pc ls st0 h Q := by
  rw [has]
  exact aw_invV hd hm hlk ht0 hC ho rfl hn hd' h1' h2' hst (fun v9 h' hq => by obtain ⟨e, hp⟩ := hq; cases e; exact kk _ hp) (fun X h' hq => by obtain ⟨e, -⟩ := hq; cases e)
theorem aw_invS_e {γ : GG} {M : MD} {d kc ks pc : Nat} {ls : List (Nat × AV)} {st : List AV} {h : AH} {Q : AR → AH → Prop} {M' : MD} {d' kc' ks' n idx : Nat} {as st0 : List AV} {v : AV} {P : AH → Prop} (hd : decode M.2.1 pc = .ok (.invokestatic idx, 3)) (hm : mS M' n) (hlk : Cond.methodLink M.1.cls idx M'.1 ∈ lw_tbl) (ht0 : M.2.2.2.2 = []) (hC : Call γ M' d' kc' ks' (as) h (rE v P)) (has : st0 = as.reverse ++ st) (hn : as.length = n) (hd' : d' + 1 ≤ d) (h1' : kc' ≤ kc) (h2' : ks' ≤ ks) (hst : st.length ≤ 4) (kk : ∀ h1 : AH, P h1 → AW γ M d (kc - kc') (ks - ks') (pc + 3) ls (v :: st) h1 Q) : AW γ M d kc ks pc ls st0 h Q := by
  rw [has]
  exact aw_invS hd hm hlk ht0 hC rfl hn hd' h1' h2' hst (fun v9 h' hq => by obtain ⟨e, hp⟩ := hq; cases e; exact kk _ hp) (fun X h' hq => by obtain ⟨e, -⟩ := hq; cases e)
theorem aw_invS_f {γ : GG} {M : MD} {d kc ks pc : Nat} {ls : List (Nat × AV)} {st : List AV} {h : AH} {Q : AR → AH → Prop} {M' : MD} {d' kc' ks' n idx : Nat} {as st0 : List AV} {P : AH → Prop} (hd : decode M.2.1 pc = .ok (.invokestatic idx, 3)) (hm : mS M' n) (hlk : Cond.methodLink M.1.cls idx M'.1 ∈ lw_tbl) (ht0 : M.2.2.2.2 = []) (hC : Call γ M' d' kc' ks' (as) h (rF P)) (has : st0 = as.reverse ++ st) (hn : as.length = n) (hd' : d' + 1 ≤ d) (h1' : kc' ≤ kc) (h2' : ks' ≤ ks) (hst : st.length ≤ 4) (kk : ∀ h1 : AH, P h1 → AW γ M d (kc - kc') (ks - ks') (pc + 3) ls (st) h1 Q) : AW γ M d kc ks pc ls st0 h Q := by
  rw [has]
  exact aw_invS hd hm hlk ht0 hC rfl hn hd' h1' h2' hst (fun v9 h' hq => by obtain ⟨e, hp⟩ := hq; cases e; exact kk _ hp) (fun X h' hq => by obtain ⟨e, -⟩ := hq; cases e)
theorem aw_invI_e {γ : GG} {M : MD} {d kc ks pc : Nat} {ls : List (Nat × AV)} {st : List AV} {h : AH} {Q : AR → AH → Prop} {M' : MD} {d' kc' ks' n idx : Nat} {a : Nat} {as st0 : List AV} {v : AV} {P : AH → Prop} (hd : decode M.2.1 pc = .ok (.invokespecial idx, 3)) (hm : mI M' n) (hlk : Cond.methodLink M.1.cls idx M'.1 ∈ lw_tbl) (ht0 : M.2.2.2.2 = []) (hC : Call γ M' d' kc' ks' (vr (some a) :: as) h (rE v P)) (has : st0 = as.reverse ++ vr (some a) :: st) (hn : as.length = n) (hd' : d' + 1 ≤ d) (h1' : kc' ≤ kc) (h2' : ks' ≤ ks) (hst : st.length ≤ 4) (kk : ∀ h1 : AH, P h1 → AW γ M d (kc - kc') (ks - ks') (pc + 3) ls (v :: st) h1 Q) : AW γ M d kc ks pc ls st0 h Q := by
  rw [has]
  exact aw_invI hd hm hlk ht0 hC rfl hn hd' h1' h2' hst (fun v9 h' hq => by obtain ⟨e, hp⟩ := hq; cases e; exact kk _ hp) (fun X h' hq => by obtain ⟨e, -⟩ := hq; cases e)
theorem aw_invI_f {γ : GG} {M : MD} {d kc ks pc : Nat} {ls : List (Nat × AV)} {st : List AV} {h : AH} {Q : AR → AH → Prop} {M' : MD} {d' kc' ks' n idx : Nat} {a : Nat} {as st0 : List AV} {P : AH → Prop} (hd : decode M.2.1 pc = .ok (.invokespecial idx, 3)) (hm : mI M' n) (hlk : Cond.methodLink M.1.cls idx M'.1 ∈ lw_tbl) (ht0 : M.2.2.2.2 = []) (hC : Call γ M' d' kc' ks' (vr (some a) :: as) h (rF P)) (has : st0 = as.reverse ++ vr (some a) :: st) (hn : as.length = n) (hd' : d' + 1 ≤ d) (h1' : kc' ≤ kc) (h2' : ks' ≤ ks) (hst : st.length ≤ 4) (kk : ∀ h1 : AH, P h1 → AW γ M d (kc - kc') (ks - ks') (pc + 3) ls (st) h1 Q) : AW γ M d kc ks pc ls st0 h Q := by
  rw [has]
  exact aw_invI hd hm hlk ht0 hC rfl hn hd' h1' h2' hst (fun v9 h' hq => by obtain ⟨e, hp⟩ := hq; cases e; exact kk _ hp) (fun X h' hq => by obtain ⟨e, -⟩ := hq; cases e)
/-- a rule within a step: unchanged, or changed so -/
def rR (h : AH) (a : Nat) (s : TS) : Option (List TP) → AR → AH → Prop
  | none => rV (vi 0) h
  | some ps => rE (vi 1) (fun h' => isS h' a (s.1, ps) ∧ okS (s.1, ps) ∧ eqO h h' a (a + 2))
theorem eqO_hGap (h : AH) (a : Nat) (f v e s : Int) : eqO h (hGap h a f v e s) a (a + 2) := by
  refine ⟨rfl, fun c hc => ⟨rfl, fun k => ⟨?_, rfl, rfl⟩⟩⟩
  rw [gi_hGap, if_neg (fun z => by have := z.1; omega)]
theorem slots_gap {h : AH} {a : Nat} {ps ps' : List TP} {F G E : Nat} (h3 : ∀ k : Nat, k < 27 → gi h (a + 1) k = slotv ps k) (hE : E ≤ 27) (hc : ∀ m, m < 27 → cAt ps' m = if F ≤ m ∧ m < E then (if m + G < E then cAt ps (m + G) else none) else cAt ps m) (k : Nat) (hk : k < 27) : gi (hGap h a (F : Int) (G : Int) (E : Int) (E : Int)) (a + 1) k = slotv ps' k := by
  rw [gi_hGap, slotv_so, hc k hk]
  by_cases q1 : F ≤ k ∧ k < E
  · rw [if_pos ⟨rfl, by omega, by omega⟩, if_pos q1]
    by_cases q2 : k + G < E
    · rw [if_pos (by omega), if_pos q2, show (k : Int) + (G : Int) = ((k + G : Nat) : Int) by omega, h3 (k + G) (by omega), slotv_so]
    · rw [if_neg (by omega), if_neg q2]
      rfl
  · rw [if_neg (by omega), if_neg q1, h3 k hk, slotv_so]
theorem cAt_get {ps : List TP} {k : Nat} {c : TC} (h : cAt ps k = some c) : ∃ p a, ps[k / 9]? = some p ∧ p[k % 9 / 3]? = some a ∧ a[k % 3]? = some c := by
  unfold cAt at h
  obtain ⟨p, hp, h⟩ := Option.bind_eq_some_iff.mp h
  obtain ⟨a, ha, h⟩ := Option.bind_eq_some_iff.mp h
  exact ⟨p, a, hp, ha, h⟩
theorem cAt_of' {ps : List TP} {i j k : Nat} {p : TP} {a : TA} (hp : ps[i]? = some p) (ha : p[j]? = some a) (hj : j < 3) (hk : k < 3) : cAt ps (9 * i + 3 * j + k) = a[k]? := by
  unfold cAt
  rw [show (9 * i + 3 * j + k) / 9 = i by omega, show (9 * i + 3 * j + k) % 9 / 3 = j by omega, show (9 * i + 3 * j + k) % 3 = k by omega, hp]
  show (p[j]?).bind _ = _
  rw [ha]
  rfl
def P6 (ps : List TP) (k : Nat) : Prop := cAt ps k = some sureC ∧ cAt ps (k - k % 3 + 1) ≠ none
theorem r6A_none {ps : List TP} {i j : Nat} {p : TP} {a : TA} (hp : ps[i]? = some p) (ha : p[j]? = some a) (hj : j < 3) (hl : a.length ≤ 3) (hn : ∀ c, c < 3 → ¬ P6 ps (9 * i + 3 * j + c)) : r6A a = none := by
  unfold r6A
  rw [if_neg]
  rintro ⟨h1, h2⟩
  obtain ⟨c, hc⟩ := List.getElem?_of_mem h2
  have lc := (List.getElem?_eq_some_iff.mp hc).1
  refine hn c (by omega) ⟨by rw [cAt_of' hp ha hj (by omega)]; exact hc, ?_⟩
  rw [show 9 * i + 3 * j + c - (9 * i + 3 * j + c) % 3 + 1 = 9 * i + 3 * j + 1 by omega, cAt_of' hp ha hj (by omega), List.getElem?_eq_getElem h1]
  exact Option.some_ne_none _
theorem okA_er {a : TA} (h : okA a) {c : Nat} (hc : c < a.length) (h1 : 1 < a.length) : okA (a.eraseIdx c) := by
  have := List.length_eraseIdx_of_lt hc
  have h2 := h.2.1
  exact ⟨by omega, by omega, fun x hx => h.2.2 x (List.mem_of_mem_eraseIdx hx)⟩
theorem r6_miss {ps : List TP} (ho : ∀ p ∈ ps, okP p) (hl : ps.length ≤ 3) (hn : ∀ k, k < 27 → ¬ P6 ps k) : r6S ps = none := by
  refine fm_none fun p hp => fm_none fun a ha => ?_
  obtain ⟨i, hi⟩ := List.getElem?_of_mem hp
  obtain ⟨j, hj⟩ := List.getElem?_of_mem ha
  have l1 := (List.getElem?_eq_some_iff.mp hi).1
  have l2 := (List.getElem?_eq_some_iff.mp hj).1
  have o1 := (ho p hp).2.1
  exact r6A_none hi hj (by omega) ((ho p hp).2.2 a ha).2.1 (fun c hc => hn _ (by omega))
theorem r6_hit {ps : List TP} (ho : ∀ p ∈ ps, okP p) (hl : ps.length ≤ 3) {k : Nat} (hk : P6 ps k) (hn : ∀ j, j < k → ¬ P6 ps j) : ∃ ps', r6S ps = some ps' ∧ ps'.length = ps.length ∧ (∀ p ∈ ps', okP p) ∧ ∀ m, m < 27 → cAt ps' m = if k ≤ m ∧ m < k - k % 3 + 3 then (if m + 1 < k - k % 3 + 3 then cAt ps (m + 1) else none) else cAt ps m := by
  obtain ⟨hk1, hk2⟩ := hk
  obtain ⟨p, a, hp, ha, hc⟩ := cAt_get hk1
  have mp := List.mem_of_getElem? hp
  have ma := List.mem_of_getElem? ha
  have op := ho p mp
  have oa := op.2.2 a ma
  have lp := (List.getElem?_eq_some_iff.mp hp).1
  have la := (List.getElem?_eq_some_iff.mp ha).1
  have lc := (List.getElem?_eq_some_iff.mp hc).1
  have l1 := op.2.1
  have l2 := oa.2.1
  have e1 : k - k % 3 + 1 = 9 * (k / 9) + 3 * (k % 9 / 3) + 1 := by omega
  rw [e1, cAt_of' hp ha (by omega) (by omega)] at hk2
  have h1 : 1 < a.length := by
    rcases Nat.lt_or_ge 1 a.length with q | q
    · exact q
    · exact absurd (List.getElem?_eq_none q) hk2
  have hfst : ∀ j, j < k % 3 → a[j]? ≠ some sureC := fun j hj z => by
    refine hn (9 * (k / 9) + 3 * (k % 9 / 3) + j) (by omega) ⟨by rw [cAt_of' hp ha (by omega) (by omega)]; exact z, ?_⟩
    rw [show 9 * (k / 9) + 3 * (k % 9 / 3) + j - (9 * (k / 9) + 3 * (k % 9 / 3) + j) % 3 + 1 = 9 * (k / 9) + 3 * (k % 9 / 3) + 1 by omega, cAt_of' hp ha (by omega) (by omega)]
    exact hk2
  have eer := er_at hc hfst
  have ea : r6A a = some (a.eraseIdx (k % 3)) := by
    unfold r6A
    rw [if_pos ⟨h1, List.mem_of_getElem? hc⟩, eer]
  have ep : r6P p = some (p.set (k % 9 / 3) (a.eraseIdx (k % 3))) := fm_at ha ea (fun j z hj hz => r6A_none hp hz (by omega) (op.2.2 z (List.mem_of_getElem? hz)).2.1 (fun c hc => hn _ (by omega)))
  have es : r6S ps = some (ps.set (k / 9) (p.set (k % 9 / 3) (a.eraseIdx (k % 3)))) := fm_at hp ep (fun i z hi hz => fm_none fun b hb => by
    obtain ⟨j, hj⟩ := List.getElem?_of_mem hb
    have lz := (ho z (List.mem_of_getElem? hz)).2.1
    have l2 := (List.getElem?_eq_some_iff.mp hj).1
    exact r6A_none hz hj (by omega) ((ho z (List.mem_of_getElem? hz)).2.2 b hb).2.1 (fun c hc => hn _ (by omega)))
  refine ⟨_, es, List.length_set, fun q hq => ?_, fun m hm => ?_⟩
  · rcases List.mem_or_eq_of_mem_set hq with hq | rfl
    · exact ho q hq
    · refine ⟨by rw [List.length_set]; exact op.1, by rw [List.length_set]; exact op.2.1, fun b hb => ?_⟩
      rcases List.mem_or_eq_of_mem_set hb with hb | rfl
      · exact op.2.2 b hb
      · exact okA_er oa lc h1
  · by_cases q1 : m / 9 = k / 9
    · have g1 : (ps.set (k / 9) (p.set (k % 9 / 3) (a.eraseIdx (k % 3))))[k / 9]? = some (p.set (k % 9 / 3) (a.eraseIdx (k % 3))) := List.getElem?_set_self lp
      by_cases q2 : m % 9 / 3 = k % 9 / 3
      · have g2 : (p.set (k % 9 / 3) (a.eraseIdx (k % 3)))[k % 9 / 3]? = some (a.eraseIdx (k % 3)) := List.getElem?_set_self la
        have em : m = 9 * (k / 9) + 3 * (k % 9 / 3) + m % 3 := by omega
        have hl2 : cAt (ps.set (k / 9) (p.set (k % 9 / 3) (a.eraseIdx (k % 3)))) m = (a.eraseIdx (k % 3))[m % 3]? := by
          rw [em, cAt_of' g1 g2 (by omega) (by omega)]
          congr 1
          omega
        have hm1 : cAt ps m = a[m % 3]? := by
          rw [em, cAt_of' hp ha (by omega) (by omega)]
          congr 1
          omega
        rw [hl2, hm1, List.getElem?_eraseIdx]
        by_cases q3 : m % 3 < k % 3
        · rw [if_pos q3, if_neg (by omega)]
        · rw [if_neg q3, if_pos (by omega)]
          by_cases q4 : m % 3 = 2
          · rw [if_neg (by omega), List.getElem?_eq_none (by omega)]
          · rw [if_pos (by omega), show m + 1 = 9 * (k / 9) + 3 * (k % 9 / 3) + (m % 3 + 1) by omega, cAt_of' hp ha (by omega) (by omega)]
      · rw [if_neg (by omega)]
        unfold cAt
        rw [q1, g1, hp]
        show ((p.set (k % 9 / 3) (a.eraseIdx (k % 3)))[m % 9 / 3]?).bind _ = (p[m % 9 / 3]?).bind _
        rw [List.getElem?_set_ne (fun z => q2 z.symm)]
    · rw [if_neg (by omega)]
      unfold cAt
      rw [List.getElem?_set_ne (fun z => q1 z.symm)]
theorem l_r6 {γ : GG} {h : AH} {a : Nat} {s : TS} (hS : isS h a s) (hs : okS s) : ∀ (m k : Nat), k + m = 27 → (∀ j, j < k → ¬ P6 s.2 j) → AW γ mX8_dropIdleCondition 1 0 0 2 [(0, vr (some a)), (1, vi (k : Int))] [] h (rR h a s (r6S s.2)) := by
  have hS0 := hS
  obtain ⟨⟨hk, hr, hk1⟩, h0, h1, h2, h3⟩ := hS
  intro m
  induction m with
  | zero =>
    intro k hkm hj
    rw [r6_miss hs.2.2 hs.2.1 (fun j hj2 => hj j (by omega))]
    refine aw_iload_n dX8_dropIdleCondition_2 rfl ?_
    refine aw_bipush dX8_dropIdleCondition_3 rfl ?_
    refine aw_ic_ge (tgt := 54) dX8_dropIdleCondition_5 rfl (by omega) (by omega) (fun c5 => ?_) (fun c5 => ?_)
    · refine aw_iconst dX8_dropIdleCondition_54 ?_
      exact aw_zreturn dX8_dropIdleCondition_55 rfl (by omega) (Or.inl rfl) ⟨rfl, rfl⟩
    · exact absurd c5 (by omega)
  | succ m ih =>
    intro k hkm hj
    have hb := slotv_bd hs.2.2 k
    have hb1 := slotv_bd hs.2.2 (k - k % 3 + 1)
    have g9 : gi h (a + 1) ((k : Int) - (k : Int) % 3 + 1) = slotv s.2 (k - k % 3 + 1) := by
      have := h3 (k - k % 3 + 1) (by omega)
      rwa [show ((k - k % 3 + 1 : Nat) : Int) = (k : Int) - (k : Int) % 3 + 1 by omega] at this
    have hmn : ¬ P6 s.2 k → ∀ j, j < k + 1 → ¬ P6 s.2 j := fun hp j hj2 => by
      by_cases q : j = k
      · rw [q]; exact hp
      · exact hj j (by omega)
    have e1 : slotv s.2 k = 8276 ↔ cAt s.2 k = some sureC := by
      rw [slotv_so]
      constructor
      · intro z
        cases hc : cAt s.2 k with
        | none => rw [hc] at z; exact absurd z (by decide)
        | some c =>
          rw [hc] at z
          have := pk_inj (cAt_ok hs.2.2 hc).1 (e := sureC) (by simp [okC, okT, sureC]) (by rw [pk_sure]; exact z)
          rw [this]
      · intro z; rw [z]; exact pk_sure
    have e2 := slot_nz hs.2.2 (k - k % 3 + 1)
    by_cases p1 : slotv s.2 k = 8276
    · by_cases p2 : slotv s.2 (k - k % 3 + 1) = 0
      · have ih' := ih (k + 1) (by omega) (hmn (fun z => z.2 (e2.mp p2)))
        refine aw_iload_n dX8_dropIdleCondition_2 rfl ?_
        refine aw_bipush dX8_dropIdleCondition_3 rfl ?_
        refine aw_ic_ge (tgt := 54) dX8_dropIdleCondition_5 rfl (by omega) (by omega) (fun c5 => ?_) (fun c5 => ?_)
        · exact absurd c5 (by omega)
        · refine aw_iload_n dX8_dropIdleCondition_8 rfl ?_
          refine aw_iload_n dX8_dropIdleCondition_9 rfl ?_
          refine aw_iconst dX8_dropIdleCondition_10 ?_
          refine aw_irem dX8_dropIdleCondition_11 (by omega) (by omega) ?_
          refine aw_isub dX8_dropIdleCondition_12 ?_
          refine aw_istore_n (ls1 := [(2, _), (0, _), (1, _)]) dX8_dropIdleCondition_13 (by decide) rfl ?_
          refine aw_aload_n dX8_dropIdleCondition_14 rfl ?_
          refine aw_getr' (j := 3) dX8_dropIdleCondition_15 fX8_21 rfl (by assumption) rfl (by assumption) ?_
          refine aw_iload_n dX8_dropIdleCondition_18 rfl ?_
          refine aw_iald' dX8_dropIdleCondition_19 (by assumption) (by omega) (by first | decide | omega) (h3 k (by omega)) ?_
          refine aw_sipush dX8_dropIdleCondition_20 rfl ?_
          refine aw_ic_ne (tgt := 48) dX8_dropIdleCondition_23 rfl (by omega) (by omega) (fun c23 => ?_) (fun c23 => ?_)
          · exact absurd c23 (by omega)
          · refine aw_aload_n dX8_dropIdleCondition_26 rfl ?_
            refine aw_getr' (j := 3) dX8_dropIdleCondition_27 fX8_21 rfl (by assumption) rfl (by assumption) ?_
            refine aw_iload_n dX8_dropIdleCondition_30 rfl ?_
            refine aw_iconst dX8_dropIdleCondition_31 ?_
            refine aw_iadd dX8_dropIdleCondition_32 ?_
            refine aw_iald' dX8_dropIdleCondition_33 (by assumption) (by omega) (by first | decide | omega) g9 ?_
            refine aw_if_eq (tgt := 48) dX8_dropIdleCondition_34 rfl (by omega) (fun c34 => ?_) (fun c34 => ?_)
            · refine aw_iinc (k9 := 2) (ls1 := [(1, _), (2, _), (0, _)]) dX8_dropIdleCondition_48 rfl (by decide) rfl ?_
              refine aw_goto (tgt := 2) dX8_dropIdleCondition_51 rfl ?_
              refine aw_sub [2, 0] rfl ?_
              exact ih'
            · exact absurd c34 (by omega)
      · obtain ⟨ps', r1, r2, r3, r4⟩ := r6_hit hs.2.2 hs.2.1 ⟨e1.mp p1, fun z => p2 (e2.mpr z)⟩ hj
        rw [r1]
        refine aw_iload_n dX8_dropIdleCondition_2 rfl ?_
        refine aw_bipush dX8_dropIdleCondition_3 rfl ?_
        refine aw_ic_ge (tgt := 54) dX8_dropIdleCondition_5 rfl (by omega) (by omega) (fun c5 => ?_) (fun c5 => ?_)
        · exact absurd c5 (by omega)
        · refine aw_iload_n dX8_dropIdleCondition_8 rfl ?_
          refine aw_iload_n dX8_dropIdleCondition_9 rfl ?_
          refine aw_iconst dX8_dropIdleCondition_10 ?_
          refine aw_irem dX8_dropIdleCondition_11 (by omega) (by omega) ?_
          refine aw_isub dX8_dropIdleCondition_12 ?_
          refine aw_istore_n (ls1 := [(2, _), (0, _), (1, _)]) dX8_dropIdleCondition_13 (by decide) rfl ?_
          refine aw_aload_n dX8_dropIdleCondition_14 rfl ?_
          refine aw_getr' (j := 3) dX8_dropIdleCondition_15 fX8_21 rfl (by assumption) rfl (by assumption) ?_
          refine aw_iload_n dX8_dropIdleCondition_18 rfl ?_
          refine aw_iald' dX8_dropIdleCondition_19 (by assumption) (by omega) (by first | decide | omega) (h3 k (by omega)) ?_
          refine aw_sipush dX8_dropIdleCondition_20 rfl ?_
          refine aw_ic_ne (tgt := 48) dX8_dropIdleCondition_23 rfl (by omega) (by omega) (fun c23 => ?_) (fun c23 => ?_)
          · exact absurd c23 (by omega)
          · refine aw_aload_n dX8_dropIdleCondition_26 rfl ?_
            refine aw_getr' (j := 3) dX8_dropIdleCondition_27 fX8_21 rfl (by assumption) rfl (by assumption) ?_
            refine aw_iload_n dX8_dropIdleCondition_30 rfl ?_
            refine aw_iconst dX8_dropIdleCondition_31 ?_
            refine aw_iadd dX8_dropIdleCondition_32 ?_
            refine aw_iald' dX8_dropIdleCondition_33 (by assumption) (by omega) (by first | decide | omega) g9 ?_
            refine aw_if_eq (tgt := 48) dX8_dropIdleCondition_34 rfl (by omega) (fun c34 => ?_) (fun c34 => ?_)
            · exact absurd c34 (by omega)
            · refine aw_aload_n dX8_dropIdleCondition_37 rfl ?_
              refine aw_iload_n dX8_dropIdleCondition_38 rfl ?_
              refine aw_iconst dX8_dropIdleCondition_39 ?_
              refine aw_iload_n dX8_dropIdleCondition_40 rfl ?_
              refine aw_iconst dX8_dropIdleCondition_41 ?_
              refine aw_iadd dX8_dropIdleCondition_42 ?_
              refine aw_invV_n dX8_dropIdleCondition_43 vX8_closeGap kX8_46 rfl (c_gap hS0.1 (by omega) (by omega) (by omega)) ⟨_, (by assumption), _, _, rfl⟩ rfl rfl (by decide) (by decide) (by decide) (Nat.le_of_ble_eq_true rfl) ?_
              refine aw_iconst dX8_dropIdleCondition_46 ?_
              exact aw_zreturn dX8_dropIdleCondition_47 rfl (by omega) (Or.inl rfl) ⟨rfl, by
          rw [show (k : Int) - (k : Int) % 3 + 3 = ((k - k % 3 + 3 : Nat) : Int) by omega]
          refine ⟨⟨hS0.1, ?_, ?_, ?_, slots_gap h3 (by omega) r4⟩, ⟨hs.1, by show ps'.length ≤ 3; rw [r2]; exact hs.2.1, r3⟩, eqO_hGap h a _ _ _ _⟩
          · rw [gi_hGap, if_neg (by omega)]; exact h0
          · rw [gi_hGap, if_neg (by omega)]; exact h1
          · rw [gi_hGap, if_neg (by omega), h2]; show _ = ((ps'.length : Nat) : Int); rw [r2]⟩
    · have ih' := ih (k + 1) (by omega) (hmn (fun z => p1 (e1.mpr z.1)))
      refine aw_iload_n dX8_dropIdleCondition_2 rfl ?_
      refine aw_bipush dX8_dropIdleCondition_3 rfl ?_
      refine aw_ic_ge (tgt := 54) dX8_dropIdleCondition_5 rfl (by omega) (by omega) (fun c5 => ?_) (fun c5 => ?_)
      · exact absurd c5 (by omega)
      · refine aw_iload_n dX8_dropIdleCondition_8 rfl ?_
        refine aw_iload_n dX8_dropIdleCondition_9 rfl ?_
        refine aw_iconst dX8_dropIdleCondition_10 ?_
        refine aw_irem dX8_dropIdleCondition_11 (by omega) (by omega) ?_
        refine aw_isub dX8_dropIdleCondition_12 ?_
        refine aw_istore_n (ls1 := [(2, _), (0, _), (1, _)]) dX8_dropIdleCondition_13 (by decide) rfl ?_
        refine aw_aload_n dX8_dropIdleCondition_14 rfl ?_
        refine aw_getr' (j := 3) dX8_dropIdleCondition_15 fX8_21 rfl (by assumption) rfl (by assumption) ?_
        refine aw_iload_n dX8_dropIdleCondition_18 rfl ?_
        refine aw_iald' dX8_dropIdleCondition_19 (by assumption) (by omega) (by first | decide | omega) (h3 k (by omega)) ?_
        refine aw_sipush dX8_dropIdleCondition_20 rfl ?_
        refine aw_ic_ne (tgt := 48) dX8_dropIdleCondition_23 rfl (by omega) (by omega) (fun c23 => ?_) (fun c23 => ?_)
        · refine aw_iinc (k9 := 2) (ls1 := [(1, _), (2, _), (0, _)]) dX8_dropIdleCondition_48 rfl (by decide) rfl ?_
          refine aw_goto (tgt := 2) dX8_dropIdleCondition_51 rfl ?_
          refine aw_sub [2, 0] rfl ?_
          exact ih'
        · exact absurd c23 (by omega)
theorem c_r6 {γ : GG} {h : AH} {a : Nat} {s : TS} (hS : isS h a s) (hs : okS s) : Call γ mX8_dropIdleCondition 1 0 0 [vr (some a)] h (rR h a s (r6S s.2)) := by
  refine Call.of (ls := [(0, vr (some a))]) vX8_dropIdleCondition.1 (Nat.le_of_ble_eq_true rfl) rfl ?_
  refine aw_iconst dX8_dropIdleCondition_0 ?_
  refine aw_istore_n (ls1 := [(1, _), (0, _)]) dX8_dropIdleCondition_1 (by decide) rfl ?_
  refine aw_sub [1, 0] rfl ?_
  exact l_r6 hS hs 27 0 (by omega) (fun j hj => by omega)
