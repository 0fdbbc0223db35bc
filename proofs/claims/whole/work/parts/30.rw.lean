/-! ===== Rewriter: rules 1 to 3 ===== -/
/-- two neighbours become one -/
def fp {α : Type} (f : α → α → Option α) : List α → Option (List α)
  | s :: t :: r => match f s t with
    | some x => some (x :: r)
    | none => (fp f (t :: r)).map (s :: ·)
  | _ => none
theorem fp_none {α : Type} {f : α → α → Option α} : ∀ {l : List α}, (∀ (j : Nat) (x y : α), l[j]? = some x → l[j + 1]? = some y → f x y = none) → fp f l = none := by
  intro l
  induction l with
  | nil => intro _; rfl
  | cons x r ih =>
    intro h
    cases r with
    | nil => rfl
    | cons y r =>
      simp only [fp, h 0 x y rfl rfl]
      rw [ih (fun j p q hp hq => h (j + 1) p q (by simpa using hp) (by simpa using hq))]
      rfl
theorem fp_at1 {α : Type} {f : α → α → Option α} : ∀ {l : List α} {i : Nat} {s t x : α}, l[i]? = some s → l[i + 1]? = some t → f s t = some x → (∀ (j : Nat) (p q : α), j < i → l[j]? = some p → l[j + 1]? = some q → f p q = none) → fp f l = some ((l.set i x).eraseIdx (i + 1)) := by
  intro l
  induction l with
  | nil => intro i s t x h; simp at h
  | cons b r ih =>
    intro i s t x h h2 hf hn
    cases r with
    | nil => simp at h2
    | cons d r =>
      cases i with
      | zero =>
        simp only [List.getElem?_cons_zero, Option.some.injEq] at h
        simp only [Nat.zero_add, List.getElem?_cons_succ, List.getElem?_cons_zero, Option.some.injEq] at h2
        subst h
        subst h2
        simp only [fp, hf]
        rfl
      | succ i =>
        simp only [fp, hn 0 b d (by omega) rfl rfl]
        rw [ih (by simpa using h) (by simpa using h2) hf (fun j p q hj hp hq => hn (j + 1) p q (by omega) (by simpa using hp) (by simpa using hq))]
        rfl
theorem set_erase {α : Type} {x : α} : ∀ {l : List α} {i : Nat}, i + 1 < l.length → (l.set i x).eraseIdx (i + 1) = (l.set (i + 1) x).eraseIdx i := by
  intro l
  induction l with
  | nil => intro i h; simp at h
  | cons b r ih =>
    intro i h
    cases i with
    | zero =>
      cases r with
      | nil => simp at h
      | cons d r => rfl
    | succ i =>
      simp only [List.length_cons] at h
      show b :: ((r.set i x).eraseIdx (i + 1)) = b :: ((r.set (i + 1) x).eraseIdx i)
      rw [ih (by omega)]
def rP (h : AH) (a : Nat) (t : TT) : Option (List TS) → AR → AH → Prop
  | none => rV (vi 0) h
  | some l => rE (vi 1) (fun h' => (∃ π, isP h' a π (t.1, l)) ∧ okW (t.1, l) ∧ eqO h h' a (a + 18))
def f1 (s : TS) : Bool := decide (s.1 = (1, 8) ∧ s.2.length = 0)
def r1 (l : List TS) : Option (List TS) := if 1 < l.length then fr f1 l else none
def f2 (s t : TS) : Option TS := if (s.1 = (3, 8) ∧ s.2.length = 0) ∧ t.1.1 = 0 ∧ isPosS t = false then some ((2, t.1.2), t.2) else none
def f3 (s t : TS) : Option TS := if (s.1 = (3, 8) ∧ s.2.length = 0) ∧ (t.1.1 = 2 ∨ t.1.1 = 3) ∧ isPosS t = false then some t else none
theorem isP_hop {h : AH} {a : Nat} {π : Nat → Nat} {t : TT} (hP : isP h a π t) (hw : okW t) {i : Nat} (hi : i < t.2.length) (hl : 1 < t.2.length) : (∃ π', isP (hRm h a i (t.2.length - 1) (a + 2 + 2 * π i)) a π' (t.1, t.2.eraseIdx i)) ∧ okW (t.1, t.2.eraseIdx i) ∧ eqO h (hRm h a i (t.2.length - 1) (a + 2 + 2 * π i)) a (a + 18) := by
  obtain ⟨p1, p2⟩ := isP_rm hP hi
  have hle := List.length_eraseIdx_of_lt hi
  have h8 := hw.2.1
  exact ⟨⟨_, p1⟩, ⟨by show 1 ≤ (t.2.eraseIdx i).length; omega, by show (t.2.eraseIdx i).length ≤ 8; omega, fun s hs => hw.2.2 s (List.mem_of_mem_eraseIdx hs)⟩, p2.mono (by omega) (by omega)⟩
theorem l_r1 {γ : GG} {h : AH} {o : Nat} {a : Nat} {π : Nat → Nat} {t : TT} (hP : isP h a π t) (hw : okW t) (hl : 1 < t.2.length) : ∀ (m k : Nat), k + m = t.2.length → (∀ j s, j < k → t.2[j]? = some s → f1 s = false) → AW γ mX6_dropIdleStep 2 0 0 2 [(0, vr (some o)), (1, vr (some a)), (2, vi (k : Int))] [] h (rP h a t (fr f1 t.2)) := by
  have hP0 := hP
  obtain ⟨⟨hk, hr, hk1, hπ, hrf, hst⟩, h0, h1, hl8, hss⟩ := hP
  intro m
  induction m with
  | zero =>
    intro k hkm hj
    rw [fr_none (fun s hs => by
      obtain ⟨j, hj2⟩ := List.getElem?_of_mem hs
      exact hj j s (by have := (List.getElem?_eq_some_iff.mp hj2).1; omega) hj2)]
    refine aw_iload_n dX6_dropIdleStep_2 rfl ?_
    refine aw_aload_n dX6_dropIdleStep_3 rfl ?_
    refine aw_geti' (j := 1) dX6_dropIdleStep_4 fX6_62 rfl (by assumption) rfl h1 ?_
    refine aw_ic_ge (tgt := 44) dX6_dropIdleStep_7 rfl (by omega) (by omega) (fun c7 => ?_) (fun c7 => ?_)
    · refine aw_iconst dX6_dropIdleStep_44 ?_
      exact aw_zreturn dX6_dropIdleStep_45 rfl (by omega) (Or.inl rfl) ⟨rfl, rfl⟩
    · exact absurd c7 (by omega)
  | succ m ih =>
    intro k hkm hj
    obtain ⟨s, hs⟩ : ∃ s, t.2[k]? = some s := ⟨_, List.getElem?_eq_getElem (by omega)⟩
    have hS := hss k s hs
    have s1 := hS.1.1
    have os := hw.2.2 s (List.mem_of_getElem? hs)
    have K := c_isPlainAny (γ := γ) (x := 1) hS os (by omega)
    by_cases q : s.1 = (1, 8) ∧ s.2.length = 0
    · rw [if_pos q] at K
      rw [fr_at hs (decide_eq_true q) hj]
      have K2 := c_prm (γ := γ) hP0 (i := k) (by omega)
      refine aw_iload_n dX6_dropIdleStep_2 rfl ?_
      refine aw_aload_n dX6_dropIdleStep_3 rfl ?_
      refine aw_geti' (j := 1) dX6_dropIdleStep_4 fX6_62 rfl (by assumption) rfl h1 ?_
      refine aw_ic_ge (tgt := 44) dX6_dropIdleStep_7 rfl (by omega) (by omega) (fun c7 => ?_) (fun c7 => ?_)
      · exact absurd c7 (by omega)
      · refine aw_aload_n dX6_dropIdleStep_10 rfl ?_
        refine aw_geti' (j := 1) dX6_dropIdleStep_11 fX6_62 rfl (by assumption) rfl h1 ?_
        refine aw_iconst dX6_dropIdleStep_14 ?_
        refine aw_ic_le (tgt := 44) dX6_dropIdleStep_15 rfl (by omega) (by omega) (fun c15 => ?_) (fun c15 => ?_)
        · exact absurd c15 (by omega)
        · refine aw_aload_n dX6_dropIdleStep_18 rfl ?_
          refine aw_getr' (j := 2) dX6_dropIdleStep_19 fX6_65 rfl (by assumption) rfl (by assumption) ?_
          refine aw_iload_n dX6_dropIdleStep_22 rfl ?_
          refine aw_aald7' dX6_dropIdleStep_23 (by assumption) (by omega) (by first | decide | omega) (hrf k (by omega)) ?_
          refine aw_iconst dX6_dropIdleStep_24 ?_
          refine aw_invV_r dX6_dropIdleStep_25 vX8_isPlainAny kX6_81 rfl (K) ⟨_, (by assumption), _, _, rfl⟩ rfl rfl (by decide) (by decide) (by decide) (Nat.le_of_ble_eq_true rfl) ?_
          refine aw_if_eq (tgt := 38) dX6_dropIdleStep_28 rfl (by omega) (fun c28 => ?_) (fun c28 => ?_)
          · exact absurd c28 (by omega)
          · refine aw_aload_n dX6_dropIdleStep_31 rfl ?_
            refine aw_iload_n dX6_dropIdleStep_32 rfl ?_
            refine aw_invV_n dX6_dropIdleStep_33 vX4_removeStep kX6_84 rfl (K2) ⟨_, (by assumption), _, _, rfl⟩ rfl rfl (by decide) (by decide) (by decide) (Nat.le_of_ble_eq_true rfl) ?_
            refine aw_iconst dX6_dropIdleStep_36 ?_
            exact aw_zreturn dX6_dropIdleStep_37 rfl (by omega) (Or.inl rfl) ⟨rfl, isP_hop hP0 hw (by omega) hl⟩
    · rw [if_neg q] at K
      have ih' := ih (k + 1) (by omega) (fun j x hj2 hx => by
        by_cases q9 : j = k
        · subst q9
          rw [hs] at hx
          rw [← Option.some.inj hx]
          exact decide_eq_false q
        · exact hj j x (by omega) hx)
      refine aw_iload_n dX6_dropIdleStep_2 rfl ?_
      refine aw_aload_n dX6_dropIdleStep_3 rfl ?_
      refine aw_geti' (j := 1) dX6_dropIdleStep_4 fX6_62 rfl (by assumption) rfl h1 ?_
      refine aw_ic_ge (tgt := 44) dX6_dropIdleStep_7 rfl (by omega) (by omega) (fun c7 => ?_) (fun c7 => ?_)
      · exact absurd c7 (by omega)
      · refine aw_aload_n dX6_dropIdleStep_10 rfl ?_
        refine aw_geti' (j := 1) dX6_dropIdleStep_11 fX6_62 rfl (by assumption) rfl h1 ?_
        refine aw_iconst dX6_dropIdleStep_14 ?_
        refine aw_ic_le (tgt := 44) dX6_dropIdleStep_15 rfl (by omega) (by omega) (fun c15 => ?_) (fun c15 => ?_)
        · exact absurd c15 (by omega)
        · refine aw_aload_n dX6_dropIdleStep_18 rfl ?_
          refine aw_getr' (j := 2) dX6_dropIdleStep_19 fX6_65 rfl (by assumption) rfl (by assumption) ?_
          refine aw_iload_n dX6_dropIdleStep_22 rfl ?_
          refine aw_aald7' dX6_dropIdleStep_23 (by assumption) (by omega) (by first | decide | omega) (hrf k (by omega)) ?_
          refine aw_iconst dX6_dropIdleStep_24 ?_
          refine aw_invV_r dX6_dropIdleStep_25 vX8_isPlainAny kX6_81 rfl (K) ⟨_, (by assumption), _, _, rfl⟩ rfl rfl (by decide) (by decide) (by decide) (Nat.le_of_ble_eq_true rfl) ?_
          refine aw_if_eq (tgt := 38) dX6_dropIdleStep_28 rfl (by omega) (fun c28 => ?_) (fun c28 => ?_)
          · refine aw_iinc (k9 := 2) (ls1 := [(2, _), (0, _), (1, _)]) dX6_dropIdleStep_38 rfl (by decide) rfl ?_
            refine aw_goto (tgt := 2) dX6_dropIdleStep_41 rfl ?_
            refine aw_sub [1, 2, 0] rfl ?_
            exact ih'
          · exact absurd c28 (by omega)
theorem c_r1 {γ : GG} {h : AH} {o : Nat} {a : Nat} {π : Nat → Nat} {t : TT} (hP : isP h a π t) (hw : okW t) : Call γ mX6_dropIdleStep 2 0 0 [vr (some o), vr (some a)] h (rP h a t (r1 t.2)) := by
  unfold r1
  by_cases hl : 1 < t.2.length
  · rw [if_pos hl]
    have K := l_r1 (γ := γ) (o := o) hP hw hl t.2.length 0 (by omega) (fun j s hj => absurd hj (by omega))
    refine Call.of (ls := [(0, vr (some o)), (1, vr (some a))]) vX6_dropIdleStep.1 (Nat.le_of_ble_eq_true rfl) rfl ?_
    refine aw_iconst dX6_dropIdleStep_0 ?_
    refine aw_istore_n (ls1 := [(2, _), (0, _), (1, _)]) dX6_dropIdleStep_1 (by decide) rfl ?_
    refine aw_sub [1, 2, 0] rfl ?_
    exact K
  · rw [if_neg hl]
    have hw1 := hw.1
    obtain ⟨⟨hk, hr, hk1, hπ, hrf, hst⟩, h0, h1, hl8, hss⟩ := hP
    refine Call.of (ls := [(0, vr (some o)), (1, vr (some a))]) vX6_dropIdleStep.1 (Nat.le_of_ble_eq_true rfl) rfl ?_
    refine aw_iconst dX6_dropIdleStep_0 ?_
    refine aw_istore_n (ls1 := [(2, _), (0, _), (1, _)]) dX6_dropIdleStep_1 (by decide) rfl ?_
    refine aw_iload_n dX6_dropIdleStep_2 rfl ?_
    refine aw_aload_n dX6_dropIdleStep_3 rfl ?_
    refine aw_geti' (j := 1) dX6_dropIdleStep_4 fX6_62 rfl (by assumption) rfl h1 ?_
    refine aw_ic_ge (tgt := 44) dX6_dropIdleStep_7 rfl (by omega) (by omega) (fun c7 => ?_) (fun c7 => ?_)
    · exact absurd c7 (by omega)
    · refine aw_aload_n dX6_dropIdleStep_10 rfl ?_
      refine aw_geti' (j := 1) dX6_dropIdleStep_11 fX6_62 rfl (by assumption) rfl h1 ?_
      refine aw_iconst dX6_dropIdleStep_14 ?_
      refine aw_ic_le (tgt := 44) dX6_dropIdleStep_15 rfl (by omega) (by omega) (fun c15 => ?_) (fun c15 => ?_)
      · refine aw_iconst dX6_dropIdleStep_44 ?_
        exact aw_zreturn dX6_dropIdleStep_45 rfl (by omega) (Or.inl rfl) ⟨rfl, rfl⟩
      · exact absurd c15 (by omega)
theorem isS_axis {h : AH} {a : Nat} {s : TS} {v : Int} (hS : isS h a s) : isS (si h a 0 v) a ((v, s.1.2), s.2) := by
  obtain ⟨hsh, h0, h1, h2, h3⟩ := hS
  refine ⟨hsh, gi_at rfl rfl, ?_, ?_, fun k hk => ?_⟩
  · rw [gi_ne (Or.inr (by omega))]; exact h1
  · rw [gi_ne (Or.inr (by omega))]; exact h2
  · rw [gi_ne (Or.inl (by omega))]; exact h3 k hk
theorem isP_hop2 {h h1 : AH} {a : Nat} {π : Nat → Nat} {t : TT} {l : List TS} (hP : isP h1 a π (t.1, l)) (hw : okW (t.1, l)) (he : eqO h h1 a (a + 18)) {i : Nat} (hi : i < l.length) (hl : 1 < l.length) : (∃ π', isP (hRm h1 a i (l.length - 1) (a + 2 + 2 * π i)) a π' (t.1, l.eraseIdx i)) ∧ okW (t.1, l.eraseIdx i) ∧ eqO h (hRm h1 a i (l.length - 1) (a + 2 + 2 * π i)) a (a + 18) := by
  obtain ⟨p1, p2, p3⟩ := isP_hop hP hw hi hl
  exact ⟨p1, p2, he.tr p3⟩
theorem okW_set {t : TT} (hw : okW t) {i : Nat} {x : TS} (hx : okS x) : okW (t.1, t.2.set i x) := by
  refine ⟨by show 1 ≤ (t.2.set i x).length; rw [List.length_set]; exact hw.1, by show (t.2.set i x).length ≤ 8; rw [List.length_set]; exact hw.2.1, fun s hs => ?_⟩
  rcases List.mem_or_eq_of_mem_set hs with hs | rfl
  · exact hw.2.2 s hs
  · exact hx
theorem bsub {k : Nat} (hk : 1 ≤ k) : (k : Int) - 1 = ((k - 1 : Nat) : Int) := by omega
theorem l_r2 {γ : GG} {h : AH} {o : Nat} {a : Nat} {π : Nat → Nat} {t : TT} (hP : isP h a π t) (hw : okW t) : ∀ (m k : Nat), 1 ≤ k → k + m = t.2.length → (∀ j s x, j + 1 < k → t.2[j]? = some s → t.2[j + 1]? = some x → f2 s x = none) → AW γ mX6_joinDescentToChild 2 0 0 2 [(0, vr (some o)), (1, vr (some a)), (2, vi (k : Int))] [] h (rP h a t (fp f2 t.2)) := by
  have hP0 := hP
  obtain ⟨⟨hk, hr, hk1, hπ, hrf, hst⟩, h0, h1, hl8, hss⟩ := hP
  intro m
  induction m with
  | zero =>
    intro k hk1' hkm hj
    rw [fp_none (fun j s x hs hx => hj j s x (by have := (List.getElem?_eq_some_iff.mp hx).1; omega) hs hx)]
    refine aw_iload_n dX6_joinDescentToChild_2 rfl ?_
    refine aw_aload_n dX6_joinDescentToChild_3 rfl ?_
    refine aw_geti' (j := 1) dX6_joinDescentToChild_4 fX6_62 rfl (by assumption) rfl h1 ?_
    refine aw_ic_ge (tgt := 66) dX6_joinDescentToChild_7 rfl (by omega) (by omega) (fun c7 => ?_) (fun c7 => ?_)
    · refine aw_iconst dX6_joinDescentToChild_66 ?_
      exact aw_zreturn dX6_joinDescentToChild_67 rfl (by omega) (Or.inl rfl) ⟨rfl, rfl⟩
    · exact absurd c7 (by omega)
  | succ m ih =>
    intro k hk1' hkm hj
    obtain ⟨s, hs⟩ : ∃ s, t.2[k - 1]? = some s := ⟨_, List.getElem?_eq_getElem (by omega)⟩
    obtain ⟨x, hx⟩ : ∃ x, t.2[k]? = some x := ⟨_, List.getElem?_eq_getElem (by omega)⟩
    have hx' : t.2[k - 1 + 1]? = some x := by rw [show k - 1 + 1 = k by omega]; exact hx
    have hS := hss (k - 1) s hs
    have hX := hss k x hx
    have s1 := hS.1.1
    have s2 := hX.1.1
    have os := hw.2.2 s (List.mem_of_getElem? hs)
    have ox := hw.2.2 x (List.mem_of_getElem? hx)
    have bs := os.1
    have bx := ox.1
    unfold okT at bs bx
    have ek := bsub hk1'
    have pk1 := pm_lt hπ (i := k) (by omega)
    have pk0 := pm_lt hπ (i := k - 1) (by omega)
    have pne : π k ≠ π (k - 1) := fun z => by have := hπ.2 _ _ (by omega) (by omega) z; omega
    have gS : gr h (a + 1) ((k : Int) - 1) = some (a + 2 + 2 * π (k - 1)) := by rw [ek]; exact hrf (k - 1) (by omega)
    have gX := hrf k (by omega)
    have K := c_isPlainAny (γ := γ) (x := 3) hS os (by omega)
    have K2 := c_sisPos (γ := γ) hX ox
    by_cases q1 : s.1 = (3, 8) ∧ s.2.length = 0
    · rw [if_pos q1] at K
      by_cases q2 : x.1.1 = 0
      · cases q3 : isPosS x with
        | false =>
          rw [q3, if_neg (by decide)] at K2
          have ef : f2 s x = some ((2, x.1.2), x.2) := by unfold f2; rw [if_pos ⟨q1, q2, q3⟩]
          have hlt : k - 1 + 1 < t.2.length := by omega
          have e9 := fp_at1 hs hx' ef (fun j p q hj2 hp hq => hj j p q (by omega) hp hq)
          rw [set_erase hlt, show k - 1 + 1 = k by omega] at e9
          rw [e9]
          have hI := hP0.set (i := k) (by omega) (isS_axis (v := 2) hX) (eqO.si (by omega) (by omega))
          have hW2 : okW (t.1, t.2.set k ((2, x.1.2), x.2)) := okW_set hw ⟨⟨by show (0 : Int) ≤ 2; omega, by show (2 : Int) ≤ 9; omega, bx.2.2.1, bx.2.2.2⟩, ox.2⟩
          have K3 := c_prm (γ := γ) hI (i := k - 1) (by show k - 1 < (t.2.set k _).length; rw [List.length_set]; omega)
          rw [← ek] at K3
          refine aw_iload_n dX6_joinDescentToChild_2 rfl ?_
          refine aw_aload_n dX6_joinDescentToChild_3 rfl ?_
          refine aw_geti' (j := 1) dX6_joinDescentToChild_4 fX6_62 rfl (by assumption) rfl h1 ?_
          refine aw_ic_ge (tgt := 66) dX6_joinDescentToChild_7 rfl (by omega) (by omega) (fun c7 => ?_) (fun c7 => ?_)
          · exact absurd c7 (by omega)
          · refine aw_aload_n dX6_joinDescentToChild_10 rfl ?_
            refine aw_getr' (j := 2) dX6_joinDescentToChild_11 fX6_65 rfl (by assumption) rfl (by assumption) ?_
            refine aw_iload_n dX6_joinDescentToChild_14 rfl ?_
            refine aw_aald7' dX6_joinDescentToChild_15 (by assumption) (by omega) (by first | decide | omega) gX ?_
            refine aw_astore_n (ls1 := [(3, _), (0, _), (1, _), (2, _)]) dX6_joinDescentToChild_16 (by decide) rfl ?_
            refine aw_aload_n dX6_joinDescentToChild_17 rfl ?_
            refine aw_getr' (j := 2) dX6_joinDescentToChild_18 fX6_65 rfl (by assumption) rfl (by assumption) ?_
            refine aw_iload_n dX6_joinDescentToChild_21 rfl ?_
            refine aw_iconst dX6_joinDescentToChild_22 ?_
            refine aw_isub dX6_joinDescentToChild_23 ?_
            refine aw_aald7' dX6_joinDescentToChild_24 (by assumption) (by omega) (by first | decide | omega) gS ?_
            refine aw_iconst dX6_joinDescentToChild_25 ?_
            refine aw_invV_r dX6_joinDescentToChild_26 vX8_isPlainAny kX6_81 rfl (K) ⟨_, (by assumption), _, _, rfl⟩ rfl rfl (by decide) (by decide) (by decide) (Nat.le_of_ble_eq_true rfl) ?_
            refine aw_if_eq (tgt := 60) dX6_joinDescentToChild_29 rfl (by omega) (fun c29 => ?_) (fun c29 => ?_)
            · exact absurd c29 (by omega)
            · refine aw_aload_n dX6_joinDescentToChild_32 rfl ?_
              refine aw_geti' (j := 0) dX6_joinDescentToChild_33 fX6_87 rfl (by assumption) rfl hX.2.1 ?_
              refine aw_if_ne (tgt := 60) dX6_joinDescentToChild_36 rfl (by omega) (fun c36 => ?_) (fun c36 => ?_)
              · exact absurd c36 (by omega)
              · refine aw_aload_n dX6_joinDescentToChild_39 rfl ?_
                refine aw_invV_r dX6_joinDescentToChild_40 vX8_isPositional kX6_90 rfl (K2) ⟨_, (by assumption), _, _, rfl⟩ rfl rfl (by decide) (by decide) (by decide) (Nat.le_of_ble_eq_true rfl) ?_
                refine aw_if_ne (tgt := 60) dX6_joinDescentToChild_43 rfl (by omega) (fun c43 => ?_) (fun c43 => ?_)
                · exact absurd c43 (by omega)
                · refine aw_aload_n dX6_joinDescentToChild_46 rfl ?_
                  refine aw_iconst dX6_joinDescentToChild_47 ?_
                  refine aw_puti' (j := 0) rfl dX6_joinDescentToChild_48 fX6_87 (by assumption) rfl ?_
                  refine aw_aload_n dX6_joinDescentToChild_51 rfl ?_
                  refine aw_iload_n dX6_joinDescentToChild_52 rfl ?_
                  refine aw_iconst dX6_joinDescentToChild_53 ?_
                  refine aw_isub dX6_joinDescentToChild_54 ?_
                  refine aw_invV_n dX6_joinDescentToChild_55 vX4_removeStep kX6_84 rfl (K3) ⟨_, (by assumption), _, _, rfl⟩ rfl rfl (by decide) (by decide) (by decide) (Nat.le_of_ble_eq_true rfl) ?_
                  refine aw_iconst dX6_joinDescentToChild_58 ?_
                  exact aw_zreturn dX6_joinDescentToChild_59 rfl (by omega) (Or.inl rfl) ⟨rfl, isP_hop2 (t := t) hI hW2 (eqO.si (by omega) (by omega)) (by rw [List.length_set]; omega) (by rw [List.length_set]; omega)⟩
        | true =>
          rw [q3, if_pos rfl] at K2
          have ih' := ih (k + 1) (by omega) (by omega) (fun j p y hj2 hp hy => by
          by_cases q9 : j + 1 = k
          · rw [show j = k - 1 by omega, hs] at hp
            rw [q9, hx] at hy
            rw [← Option.some.inj hp, ← Option.some.inj hy]
            exact by unfold f2; rw [if_neg (fun z => by rw [q3] at z; exact absurd z.2.2 (by decide))]
          · exact hj j p y (by omega) hp hy)
          refine aw_iload_n dX6_joinDescentToChild_2 rfl ?_
          refine aw_aload_n dX6_joinDescentToChild_3 rfl ?_
          refine aw_geti' (j := 1) dX6_joinDescentToChild_4 fX6_62 rfl (by assumption) rfl h1 ?_
          refine aw_ic_ge (tgt := 66) dX6_joinDescentToChild_7 rfl (by omega) (by omega) (fun c7 => ?_) (fun c7 => ?_)
          · exact absurd c7 (by omega)
          · refine aw_aload_n dX6_joinDescentToChild_10 rfl ?_
            refine aw_getr' (j := 2) dX6_joinDescentToChild_11 fX6_65 rfl (by assumption) rfl (by assumption) ?_
            refine aw_iload_n dX6_joinDescentToChild_14 rfl ?_
            refine aw_aald7' dX6_joinDescentToChild_15 (by assumption) (by omega) (by first | decide | omega) gX ?_
            refine aw_astore_n (ls1 := [(3, _), (0, _), (1, _), (2, _)]) dX6_joinDescentToChild_16 (by decide) rfl ?_
            refine aw_aload_n dX6_joinDescentToChild_17 rfl ?_
            refine aw_getr' (j := 2) dX6_joinDescentToChild_18 fX6_65 rfl (by assumption) rfl (by assumption) ?_
            refine aw_iload_n dX6_joinDescentToChild_21 rfl ?_
            refine aw_iconst dX6_joinDescentToChild_22 ?_
            refine aw_isub dX6_joinDescentToChild_23 ?_
            refine aw_aald7' dX6_joinDescentToChild_24 (by assumption) (by omega) (by first | decide | omega) gS ?_
            refine aw_iconst dX6_joinDescentToChild_25 ?_
            refine aw_invV_r dX6_joinDescentToChild_26 vX8_isPlainAny kX6_81 rfl (K) ⟨_, (by assumption), _, _, rfl⟩ rfl rfl (by decide) (by decide) (by decide) (Nat.le_of_ble_eq_true rfl) ?_
            refine aw_if_eq (tgt := 60) dX6_joinDescentToChild_29 rfl (by omega) (fun c29 => ?_) (fun c29 => ?_)
            · exact absurd c29 (by omega)
            · refine aw_aload_n dX6_joinDescentToChild_32 rfl ?_
              refine aw_geti' (j := 0) dX6_joinDescentToChild_33 fX6_87 rfl (by assumption) rfl hX.2.1 ?_
              refine aw_if_ne (tgt := 60) dX6_joinDescentToChild_36 rfl (by omega) (fun c36 => ?_) (fun c36 => ?_)
              · exact absurd c36 (by omega)
              · refine aw_aload_n dX6_joinDescentToChild_39 rfl ?_
                refine aw_invV_r dX6_joinDescentToChild_40 vX8_isPositional kX6_90 rfl (K2) ⟨_, (by assumption), _, _, rfl⟩ rfl rfl (by decide) (by decide) (by decide) (Nat.le_of_ble_eq_true rfl) ?_
                refine aw_if_ne (tgt := 60) dX6_joinDescentToChild_43 rfl (by omega) (fun c43 => ?_) (fun c43 => ?_)
                · refine aw_iinc (k9 := 3) (ls1 := [(2, _), (3, _), (0, _), (1, _)]) dX6_joinDescentToChild_60 rfl (by decide) rfl ?_
                  refine aw_goto (tgt := 2) dX6_joinDescentToChild_63 rfl ?_
                  refine aw_sub [2, 3, 0] rfl ?_
                  exact ih'
                · exact absurd c43 (by omega)
      · have ih' := ih (k + 1) (by omega) (by omega) (fun j p y hj2 hp hy => by
          by_cases q9 : j + 1 = k
          · rw [show j = k - 1 by omega, hs] at hp
            rw [q9, hx] at hy
            rw [← Option.some.inj hp, ← Option.some.inj hy]
            exact by unfold f2; rw [if_neg (fun z => q2 z.2.1)]
          · exact hj j p y (by omega) hp hy)
        refine aw_iload_n dX6_joinDescentToChild_2 rfl ?_
        refine aw_aload_n dX6_joinDescentToChild_3 rfl ?_
        refine aw_geti' (j := 1) dX6_joinDescentToChild_4 fX6_62 rfl (by assumption) rfl h1 ?_
        refine aw_ic_ge (tgt := 66) dX6_joinDescentToChild_7 rfl (by omega) (by omega) (fun c7 => ?_) (fun c7 => ?_)
        · exact absurd c7 (by omega)
        · refine aw_aload_n dX6_joinDescentToChild_10 rfl ?_
          refine aw_getr' (j := 2) dX6_joinDescentToChild_11 fX6_65 rfl (by assumption) rfl (by assumption) ?_
          refine aw_iload_n dX6_joinDescentToChild_14 rfl ?_
          refine aw_aald7' dX6_joinDescentToChild_15 (by assumption) (by omega) (by first | decide | omega) gX ?_
          refine aw_astore_n (ls1 := [(3, _), (0, _), (1, _), (2, _)]) dX6_joinDescentToChild_16 (by decide) rfl ?_
          refine aw_aload_n dX6_joinDescentToChild_17 rfl ?_
          refine aw_getr' (j := 2) dX6_joinDescentToChild_18 fX6_65 rfl (by assumption) rfl (by assumption) ?_
          refine aw_iload_n dX6_joinDescentToChild_21 rfl ?_
          refine aw_iconst dX6_joinDescentToChild_22 ?_
          refine aw_isub dX6_joinDescentToChild_23 ?_
          refine aw_aald7' dX6_joinDescentToChild_24 (by assumption) (by omega) (by first | decide | omega) gS ?_
          refine aw_iconst dX6_joinDescentToChild_25 ?_
          refine aw_invV_r dX6_joinDescentToChild_26 vX8_isPlainAny kX6_81 rfl (K) ⟨_, (by assumption), _, _, rfl⟩ rfl rfl (by decide) (by decide) (by decide) (Nat.le_of_ble_eq_true rfl) ?_
          refine aw_if_eq (tgt := 60) dX6_joinDescentToChild_29 rfl (by omega) (fun c29 => ?_) (fun c29 => ?_)
          · exact absurd c29 (by omega)
          · refine aw_aload_n dX6_joinDescentToChild_32 rfl ?_
            refine aw_geti' (j := 0) dX6_joinDescentToChild_33 fX6_87 rfl (by assumption) rfl hX.2.1 ?_
            refine aw_if_ne (tgt := 60) dX6_joinDescentToChild_36 rfl (by omega) (fun c36 => ?_) (fun c36 => ?_)
            · refine aw_iinc (k9 := 3) (ls1 := [(2, _), (3, _), (0, _), (1, _)]) dX6_joinDescentToChild_60 rfl (by decide) rfl ?_
              refine aw_goto (tgt := 2) dX6_joinDescentToChild_63 rfl ?_
              refine aw_sub [2, 3, 0] rfl ?_
              exact ih'
            · exact absurd c36 (by omega)
    · rw [if_neg q1] at K
      have ih' := ih (k + 1) (by omega) (by omega) (fun j p y hj2 hp hy => by
          by_cases q9 : j + 1 = k
          · rw [show j = k - 1 by omega, hs] at hp
            rw [q9, hx] at hy
            rw [← Option.some.inj hp, ← Option.some.inj hy]
            exact by unfold f2; rw [if_neg (fun z => q1 z.1)]
          · exact hj j p y (by omega) hp hy)
      refine aw_iload_n dX6_joinDescentToChild_2 rfl ?_
      refine aw_aload_n dX6_joinDescentToChild_3 rfl ?_
      refine aw_geti' (j := 1) dX6_joinDescentToChild_4 fX6_62 rfl (by assumption) rfl h1 ?_
      refine aw_ic_ge (tgt := 66) dX6_joinDescentToChild_7 rfl (by omega) (by omega) (fun c7 => ?_) (fun c7 => ?_)
      · exact absurd c7 (by omega)
      · refine aw_aload_n dX6_joinDescentToChild_10 rfl ?_
        refine aw_getr' (j := 2) dX6_joinDescentToChild_11 fX6_65 rfl (by assumption) rfl (by assumption) ?_
        refine aw_iload_n dX6_joinDescentToChild_14 rfl ?_
        refine aw_aald7' dX6_joinDescentToChild_15 (by assumption) (by omega) (by first | decide | omega) gX ?_
        refine aw_astore_n (ls1 := [(3, _), (0, _), (1, _), (2, _)]) dX6_joinDescentToChild_16 (by decide) rfl ?_
        refine aw_aload_n dX6_joinDescentToChild_17 rfl ?_
        refine aw_getr' (j := 2) dX6_joinDescentToChild_18 fX6_65 rfl (by assumption) rfl (by assumption) ?_
        refine aw_iload_n dX6_joinDescentToChild_21 rfl ?_
        refine aw_iconst dX6_joinDescentToChild_22 ?_
        refine aw_isub dX6_joinDescentToChild_23 ?_
        refine aw_aald7' dX6_joinDescentToChild_24 (by assumption) (by omega) (by first | decide | omega) gS ?_
        refine aw_iconst dX6_joinDescentToChild_25 ?_
        refine aw_invV_r dX6_joinDescentToChild_26 vX8_isPlainAny kX6_81 rfl (K) ⟨_, (by assumption), _, _, rfl⟩ rfl rfl (by decide) (by decide) (by decide) (Nat.le_of_ble_eq_true rfl) ?_
        refine aw_if_eq (tgt := 60) dX6_joinDescentToChild_29 rfl (by omega) (fun c29 => ?_) (fun c29 => ?_)
        · refine aw_iinc (k9 := 3) (ls1 := [(2, _), (3, _), (0, _), (1, _)]) dX6_joinDescentToChild_60 rfl (by decide) rfl ?_
          refine aw_goto (tgt := 2) dX6_joinDescentToChild_63 rfl ?_
          refine aw_sub [2, 3, 0] rfl ?_
          exact ih'
        · exact absurd c29 (by omega)
theorem c_r2 {γ : GG} {h : AH} {o : Nat} {a : Nat} {π : Nat → Nat} {t : TT} (hP : isP h a π t) (hw : okW t) : Call γ mX6_joinDescentToChild 2 0 0 [vr (some o), vr (some a)] h (rP h a t (fp f2 t.2)) := by
  have K := l_r2 (γ := γ) (o := o) hP hw (t.2.length - 1) 1 (by omega) (by have := hw.1; omega) (fun j s x hj => absurd hj (by omega))
  refine Call.of (ls := [(0, vr (some o)), (1, vr (some a))]) vX6_joinDescentToChild.1 (Nat.le_of_ble_eq_true rfl) rfl ?_
  refine aw_iconst dX6_joinDescentToChild_0 ?_
  refine aw_istore_n (ls1 := [(2, _), (0, _), (1, _)]) dX6_joinDescentToChild_1 (by decide) rfl ?_
  refine aw_sub [1, 2, 0] rfl ?_
  exact K
