/-! ===== Path: copy, like ===== -/
def cP (h H : AH) (a : Nat) (π : Nat → Nat) (t : TT) (k : Nat) : Prop := shP H a π ∧ gi H a 0 = bI t.1 ∧ gi H a 1 = t.2.length ∧ eqO h H a (a + 18) ∧ ∀ i s, i < k → t.2[i]? = some s → isS H (a + 2 + 2 * π i) s
theorem cP_step {h H : AH} {a b k : Nat} {π πb : Nat → Nat} {t : TT} {s : TS} (hC : cP h H a π t k) (hB : isP H b πb t) (hab : a + 18 ≤ b ∨ b + 18 ≤ a) (hs : t.2[k]? = some s) : cP h (hCopyS H (a + 2 + 2 * π k) (b + 2 + 2 * πb k)) a π t (k + 1) := by
  obtain ⟨c1, c2, c3, c4, c5⟩ := hC
  have lk := (List.getElem?_eq_some_iff.mp hs).1
  have l8 := hB.2.2.2.1
  have p1 := pm_lt c1.2.2.2.1 (i := k) (by omega)
  have p2 := pm_lt hB.1.2.2.2.1 (i := k) (by omega)
  have E := eqO_hCopyS H (a + 2 + 2 * π k) (b + 2 + 2 * πb k)
  have S := isS_hCopyS (c1.2.2.2.2.2 _ p1) (hB.2.2.2.2 k s hs) (by omega)
  have e0 := E.2 a (by omega)
  refine ⟨c1.set p1 S.1 E, ((e0.2 0).1).trans c2, ((e0.2 1).1).trans c3, c4.tr (E.mono (by omega) (by omega)), fun i x hi hx => ?_⟩
  by_cases q : i = k
  · subst q
    rw [hs] at hx
    rw [← Option.some.inj hx]
    exact S
  · have q2 : π i ≠ π k := fun z => q (c1.2.2.2.1.2 _ _ (by omega) (by omega) z)
    exact (c5 i x (by omega) hx).eq (E.2 _ (by omega)) (E.2 _ (by omega))
theorem l_pcopy {γ : GG} {h : AH} {a b : Nat} {π πb : Nat → Nat} {t : TT} (hB : isP h b πb t) (hab : a + 18 ≤ b ∨ b + 18 ≤ a) : ∀ (m k : Nat) (H : AH), k + m = t.2.length → cP h H a π t k → AW γ mX4_copyFrom 2 0 0 18 [(0, vr (some a)), (1, vr (some b)), (2, vi (k : Int))] [] H (rF (fun h' => isP h' a π t ∧ eqO h h' a (a + 18))) := by
  intro m
  induction m with
  | zero =>
    intro k H hkm hC
    have hC0 := hC
    have hl8 := hB.2.2.2.1
    obtain ⟨⟨hk, hr, hk1, hπ, hrf, hst⟩, h0, h1, hE, hss⟩ := hC
    refine aw_iload_n dX4_copyFrom_18 rfl ?_
    refine aw_aload_n dX4_copyFrom_19 rfl ?_
    refine aw_geti' (j := 1) dX4_copyFrom_20 fX4_15 rfl (by assumption) rfl h1 ?_
    refine aw_ic_ge (tgt := 47) dX4_copyFrom_23 rfl (by omega) (by omega) (fun c23 => ?_) (fun c23 => ?_)
    · exact aw_return dX4_copyFrom_47 rfl (Or.inl rfl) ⟨rfl, ⟨hC0.1, h0, h1, hl8, fun i s hi => hss i s (by have := (List.getElem?_eq_some_iff.mp hi).1; omega) hi⟩, hE⟩
    · exact absurd c23 (by omega)
  | succ m ih =>
    intro k H hkm hC
    have hl8 := hB.2.2.2.1
    obtain ⟨s, hs⟩ : ∃ s, t.2[k]? = some s := ⟨_, List.getElem?_eq_getElem (by omega)⟩
    have hB2 : isP H b πb t := hB.eq (fun c c1 c2 => hC.2.2.2.1.2 c (by omega))
    have ih' := ih (k + 1) _ (by omega) (cP_step hC hB2 hab hs)
    obtain ⟨⟨hk, hr, hk1, hπ, hrf, hst⟩, h0, h1, hE, hss⟩ := hC
    obtain ⟨⟨hkb, hrb, hk1b, hπb, hrfb, hstb⟩, h0b, h1b, -, hssb⟩ := hB2
    have p1 := pm_lt hπ (i := k) (by omega)
    have p2 := pm_lt hπb (i := k) (by omega)
    have K := c_scopy (γ := γ) (hst _ p1) (hstb _ p2) (by omega)
    have s1 := (hst _ p1).1
    refine aw_iload_n dX4_copyFrom_18 rfl ?_
    refine aw_aload_n dX4_copyFrom_19 rfl ?_
    refine aw_geti' (j := 1) dX4_copyFrom_20 fX4_15 rfl (by assumption) rfl h1 ?_
    refine aw_ic_ge (tgt := 47) dX4_copyFrom_23 rfl (by omega) (by omega) (fun c23 => ?_) (fun c23 => ?_)
    · exact absurd c23 (by omega)
    · refine aw_aload_n dX4_copyFrom_26 rfl ?_
      refine aw_getr' (j := 2) dX4_copyFrom_27 fX4_21 rfl (by assumption) rfl (by assumption) ?_
      refine aw_iload_n dX4_copyFrom_30 rfl ?_
      refine aw_aald7' dX4_copyFrom_31 (by assumption) (by omega) (by first | decide | omega) (hrf k (by omega)) ?_
      refine aw_aload_n dX4_copyFrom_32 rfl ?_
      refine aw_getr' (j := 2) dX4_copyFrom_33 fX4_21 rfl (by assumption) rfl (by assumption) ?_
      refine aw_iload_n dX4_copyFrom_36 rfl ?_
      refine aw_aald7' dX4_copyFrom_37 (by assumption) (by omega) (by first | decide | omega) (hrfb k (by omega)) ?_
      refine aw_invV_n dX4_copyFrom_38 vX8_copyFrom kX4_26 rfl (K) ⟨_, (by assumption), _, _, rfl⟩ rfl rfl (by decide) (by decide) (by decide) (Nat.le_of_ble_eq_true rfl) ?_
      refine aw_iinc (k9 := 2) (ls1 := [(2, _), (0, _), (1, _)]) dX4_copyFrom_41 rfl (by decide) rfl ?_
      refine aw_goto (tgt := 18) dX4_copyFrom_44 rfl ?_
      refine aw_sub [1, 2, 0] rfl ?_
      exact ih'
theorem c_pcopy {γ : GG} {h : AH} {a b : Nat} {π πb : Nat → Nat} {t : TT} (hA : shP h a π) (hB : isP h b πb t) (hab : a + 18 ≤ b ∨ b + 18 ≤ a) : Call γ mX4_copyFrom 2 0 0 [vr (some a), vr (some b)] h (rF (fun h' => isP h' a π t ∧ eqO h h' a (a + 18))) := by
  have hne : ∀ c, c ≠ a → eqA h (si (si h a 0 (bI t.1)) a 1 t.2.length) c := fun c hc => (eqA.si (fun z => hc z)).tr (eqA.si (fun z => hc z))
  have K := l_pcopy (γ := γ) (π := π) hB hab t.2.length 0 (si (si h a 0 (bI t.1)) a 1 t.2.length) (by omega) ⟨⟨hA.1, hA.2.1, hA.2.2.1, hA.2.2.2.1, hA.2.2.2.2.1, fun i hi => (hA.2.2.2.2.2 i hi).eq (hne _ (by omega)) (hne _ (by omega))⟩, by rw [gi_ne (Or.inr (by omega)), gi_at rfl rfl], by rw [gi_at rfl rfl], ⟨rfl, fun c hc => hne c (by omega)⟩, fun i s hi => absurd hi (by omega)⟩
  obtain ⟨hk, hr, hk1, hπ, hrf, hst⟩ := hA
  obtain ⟨⟨hkb, hrb, hk1b, hπb, hrfb, hstb⟩, h0b, h1b, -, hssb⟩ := hB
  have h1c : gi (si h a 0 (bI t.1)) b 1 = t.2.length := by rw [gi_ne (Or.inr (by omega))]; exact h1b
  refine Call.of (ls := [(0, vr (some a)), (1, vr (some b))]) vX4_copyFrom.1 (Nat.le_of_ble_eq_true rfl) rfl ?_
  refine aw_aload_n dX4_copyFrom_0 rfl ?_
  refine aw_aload_n dX4_copyFrom_1 rfl ?_
  refine aw_geti' (j := 0) dX4_copyFrom_2 fX4_9 rfl (by assumption) rfl h0b ?_
  refine aw_putz' (j := 0) rfl (bI_01 t.1) dX4_copyFrom_5 fX4_9 (by assumption) rfl ?_
  refine aw_aload_n dX4_copyFrom_8 rfl ?_
  refine aw_aload_n dX4_copyFrom_9 rfl ?_
  refine aw_geti' (j := 1) dX4_copyFrom_10 fX4_15 rfl (by exact hkb) rfl h1c ?_
  refine aw_puti' (j := 1) rfl dX4_copyFrom_13 fX4_15 (by exact hk) rfl ?_
  refine aw_iconst dX4_copyFrom_16 ?_
  refine aw_istore_n (ls1 := [(2, _), (0, _), (1, _)]) dX4_copyFrom_17 (by decide) rfl ?_
  refine aw_sub [1, 2, 0] rfl ?_
  exact K
def t_dLS : List TS → List TS → Bool
  | [], [] => true
  | a :: r, b :: s => t_dS a b && t_dLS r s
  | _, _ => false
theorem t_dLS_iff : ∀ (p q : List TS), t_dLS p q = true ↔ p = q := by
  intro p
  induction p with
  | nil => intro q; cases q <;> simp [t_dLS]
  | cons a r ih =>
    intro q
    cases q with
    | nil => simp [t_dLS]
    | cons b s => simp [t_dLS, t_dS_iff, ih]
def t_dT (s t : TT) : Bool := decide (s.1 = t.1) && t_dLS s.2 t.2
theorem t_dT_iff (s t : TT) : t_dT s t = true ↔ s = t := by
  obtain ⟨x, p⟩ := s
  obtain ⟨y, q⟩ := t
  simp [t_dT, t_dLS_iff]
theorem l_ext {α : Type} {p q : List α} (hl : p.length = q.length) (h : ∀ (i : Nat) (x y : α), p[i]? = some x → q[i]? = some y → x = y) : p = q := by
  apply List.ext_getElem?
  intro i
  by_cases hi : i < p.length
  · have e1 := List.getElem?_eq_getElem hi
    have e2 := List.getElem?_eq_getElem (l := q) (i := i) (by omega)
    rw [e1, e2, h i _ _ e1 e2]
  · rw [List.getElem?_eq_none (by omega), List.getElem?_eq_none (by omega)]
theorem l_plike {γ : GG} {h : AH} {a b : Nat} {π πb : Nat → Nat} {s t : TT} (hP : isP h a π s) (hB : isP h b πb t) (os : ∀ x ∈ s.2, okS x) (ot : ∀ x ∈ t.2, okS x) (e1 : s.1 = t.1) (e2 : s.2.length = t.2.length) : ∀ (m k : Nat), k + m = s.2.length → (∀ i x y, i < k → s.2[i]? = some x → t.2[i]? = some y → x = y) → AW γ mX4_isLike 1 0 0 26 [(0, vr (some a)), (1, vr (some b)), (2, vi (k : Int))] [] h (rV (vi (if t_dT s t = true then 1 else 0)) h) := by
  obtain ⟨⟨hk, hr, hk1, hπ, hrf, hst⟩, h0, h1, hl8, hss⟩ := hP
  obtain ⟨⟨hkb, hrb, hk1b, hπb, hrfb, hstb⟩, h0b, h1b, hl8b, hssb⟩ := hB
  intro m
  induction m with
  | zero =>
    intro k hkm hj
    have e : s = t := Prod.ext e1 (l_ext e2 (fun i x y hx hy => hj i x y (by have := (List.getElem?_eq_some_iff.mp hx).1; omega) hx hy))
    rw [if_pos ((t_dT_iff s t).mpr e)]
    refine aw_iload_n dX4_isLike_26 rfl ?_
    refine aw_aload_n dX4_isLike_27 rfl ?_
    refine aw_geti' (j := 1) dX4_isLike_28 fX4_15 rfl (by assumption) rfl h1 ?_
    refine aw_ic_ge (tgt := 60) dX4_isLike_31 rfl (by omega) (by omega) (fun c31 => ?_) (fun c31 => ?_)
    · refine aw_iconst dX4_isLike_60 ?_
      exact aw_zreturn dX4_isLike_61 rfl (by omega) (Or.inl rfl) ⟨rfl, rfl⟩
    · exact absurd c31 (by omega)
  | succ m ih =>
    intro k hkm hj
    obtain ⟨x, hx⟩ : ∃ x, s.2[k]? = some x := ⟨_, List.getElem?_eq_getElem (by omega)⟩
    obtain ⟨y, hy⟩ : ∃ y, t.2[k]? = some y := ⟨_, List.getElem?_eq_getElem (by omega)⟩
    have K := c_slike (γ := γ) (hss k x hx) (os x (List.mem_of_getElem? hx)) (hssb k y hy) (ot y (List.mem_of_getElem? hy))
    have s1 := (hss k x hx).1.1
    by_cases q : t_dS x y = true
    · rw [if_pos q] at K
      have ih' := ih (k + 1) (by omega) (fun i x' y' hi hx' hy' => by
        by_cases q9 : i = k
        · subst q9
          rw [hx] at hx'
          rw [hy] at hy'
          rw [← Option.some.inj hx', ← Option.some.inj hy']
          exact (t_dS_iff x y).mp q
        · exact hj i x' y' (by omega) hx' hy')
      refine aw_iload_n dX4_isLike_26 rfl ?_
      refine aw_aload_n dX4_isLike_27 rfl ?_
      refine aw_geti' (j := 1) dX4_isLike_28 fX4_15 rfl (by assumption) rfl h1 ?_
      refine aw_ic_ge (tgt := 60) dX4_isLike_31 rfl (by omega) (by omega) (fun c31 => ?_) (fun c31 => ?_)
      · exact absurd c31 (by omega)
      · refine aw_aload_n dX4_isLike_34 rfl ?_
        refine aw_getr' (j := 2) dX4_isLike_35 fX4_21 rfl (by assumption) rfl (by assumption) ?_
        refine aw_iload_n dX4_isLike_38 rfl ?_
        refine aw_aald7' dX4_isLike_39 (by assumption) (by omega) (by first | decide | omega) (hrf k (by omega)) ?_
        refine aw_aload_n dX4_isLike_40 rfl ?_
        refine aw_getr' (j := 2) dX4_isLike_41 fX4_21 rfl (by assumption) rfl (by assumption) ?_
        refine aw_iload_n dX4_isLike_44 rfl ?_
        refine aw_aald7' dX4_isLike_45 (by assumption) (by omega) (by first | decide | omega) (hrfb k (by omega)) ?_
        refine aw_invV_r dX4_isLike_46 vX8_isLike kX4_40 rfl (K) ⟨_, (by assumption), _, _, rfl⟩ rfl rfl (by decide) (by decide) (by decide) (Nat.le_of_ble_eq_true rfl) ?_
        refine aw_if_ne (tgt := 54) dX4_isLike_49 rfl (by omega) (fun c49 => ?_) (fun c49 => ?_)
        · refine aw_iinc (k9 := 2) (ls1 := [(2, _), (0, _), (1, _)]) dX4_isLike_54 rfl (by decide) rfl ?_
          refine aw_goto (tgt := 26) dX4_isLike_57 rfl ?_
          refine aw_sub [1, 2, 0] rfl ?_
          exact ih'
        · exact absurd c49 (by omega)
    · rw [if_neg q] at K
      rw [if_neg (fun z => by
        have z2 := (t_dT_iff s t).mp z
        rw [z2, hy] at hx
        exact q ((t_dS_iff x y).mpr (Option.some.inj hx).symm))]
      refine aw_iload_n dX4_isLike_26 rfl ?_
      refine aw_aload_n dX4_isLike_27 rfl ?_
      refine aw_geti' (j := 1) dX4_isLike_28 fX4_15 rfl (by assumption) rfl h1 ?_
      refine aw_ic_ge (tgt := 60) dX4_isLike_31 rfl (by omega) (by omega) (fun c31 => ?_) (fun c31 => ?_)
      · exact absurd c31 (by omega)
      · refine aw_aload_n dX4_isLike_34 rfl ?_
        refine aw_getr' (j := 2) dX4_isLike_35 fX4_21 rfl (by assumption) rfl (by assumption) ?_
        refine aw_iload_n dX4_isLike_38 rfl ?_
        refine aw_aald7' dX4_isLike_39 (by assumption) (by omega) (by first | decide | omega) (hrf k (by omega)) ?_
        refine aw_aload_n dX4_isLike_40 rfl ?_
        refine aw_getr' (j := 2) dX4_isLike_41 fX4_21 rfl (by assumption) rfl (by assumption) ?_
        refine aw_iload_n dX4_isLike_44 rfl ?_
        refine aw_aald7' dX4_isLike_45 (by assumption) (by omega) (by first | decide | omega) (hrfb k (by omega)) ?_
        refine aw_invV_r dX4_isLike_46 vX8_isLike kX4_40 rfl (K) ⟨_, (by assumption), _, _, rfl⟩ rfl rfl (by decide) (by decide) (by decide) (Nat.le_of_ble_eq_true rfl) ?_
        refine aw_if_ne (tgt := 54) dX4_isLike_49 rfl (by omega) (fun c49 => ?_) (fun c49 => ?_)
        · exact absurd c49 (by omega)
        · refine aw_iconst dX4_isLike_52 ?_
          exact aw_zreturn dX4_isLike_53 rfl (by omega) (Or.inl rfl) ⟨rfl, rfl⟩
theorem c_plike {γ : GG} {h : AH} {a b : Nat} {π πb : Nat → Nat} {s t : TT} (hP : isP h a π s) (hB : isP h b πb t) (os : ∀ x ∈ s.2, okS x) (ot : ∀ x ∈ t.2, okS x) : Call γ mX4_isLike 1 0 0 [vr (some a), vr (some b)] h (rV (vi (if t_dT s t = true then 1 else 0)) h) := by
  have hP0 := hP
  have hB0 := hB
  obtain ⟨⟨hk, hr, hk1, hπ, hrf, hst⟩, h0, h1, hl8, hss⟩ := hP
  obtain ⟨⟨hkb, hrb, hk1b, hπb, hrfb, hstb⟩, h0b, h1b, hl8b, hssb⟩ := hB
  have b1 := bI_01 s.1
  have b2 := bI_01 t.1
  by_cases hq : bI s.1 = bI t.1 ∧ s.2.length = t.2.length
  · have K := l_plike (γ := γ) hP0 hB0 os ot (bI_inj hq.1) hq.2 s.2.length 0 (by omega) (fun i x y hi => absurd hi (by omega))
    refine Call.of (ls := [(0, vr (some a)), (1, vr (some b))]) vX4_isLike.1 (Nat.le_of_ble_eq_true rfl) rfl ?_
    refine aw_aload_n dX4_isLike_0 rfl ?_
    refine aw_geti' (j := 0) dX4_isLike_1 fX4_9 rfl (by assumption) rfl h0 ?_
    refine aw_aload_n dX4_isLike_4 rfl ?_
    refine aw_geti' (j := 0) dX4_isLike_5 fX4_9 rfl (by assumption) rfl h0b ?_
    refine aw_ic_ne (tgt := 22) dX4_isLike_8 rfl (by omega) (by omega) (fun c8 => ?_) (fun c8 => ?_)
    · exact absurd c8 (by omega)
    · refine aw_aload_n dX4_isLike_11 rfl ?_
      refine aw_geti' (j := 1) dX4_isLike_12 fX4_15 rfl (by assumption) rfl h1 ?_
      refine aw_aload_n dX4_isLike_15 rfl ?_
      refine aw_geti' (j := 1) dX4_isLike_16 fX4_15 rfl (by assumption) rfl h1b ?_
      refine aw_ic_eq (tgt := 24) dX4_isLike_19 rfl (by omega) (by omega) (fun c19 => ?_) (fun c19 => ?_)
      · refine aw_iconst dX4_isLike_24 ?_
        refine aw_istore_n (ls1 := [(2, _), (0, _), (1, _)]) dX4_isLike_25 (by decide) rfl ?_
        refine aw_sub [1, 2, 0] rfl ?_
        exact K
      · exact absurd c19 (by omega)
  · rw [if_neg (fun z => hq (by rw [(t_dT_iff s t).mp z]; exact ⟨rfl, rfl⟩))]
    refine Call.of (ls := [(0, vr (some a)), (1, vr (some b))]) vX4_isLike.1 (Nat.le_of_ble_eq_true rfl) rfl ?_
    refine aw_aload_n dX4_isLike_0 rfl ?_
    refine aw_geti' (j := 0) dX4_isLike_1 fX4_9 rfl (by assumption) rfl h0 ?_
    refine aw_aload_n dX4_isLike_4 rfl ?_
    refine aw_geti' (j := 0) dX4_isLike_5 fX4_9 rfl (by assumption) rfl h0b ?_
    refine aw_ic_ne (tgt := 22) dX4_isLike_8 rfl (by omega) (by omega) (fun c8 => ?_) (fun c8 => ?_)
    · refine aw_iconst dX4_isLike_22 ?_
      exact aw_zreturn dX4_isLike_23 rfl (by omega) (Or.inl rfl) ⟨rfl, rfl⟩
    · refine aw_aload_n dX4_isLike_11 rfl ?_
      refine aw_geti' (j := 1) dX4_isLike_12 fX4_15 rfl (by assumption) rfl h1 ?_
      refine aw_aload_n dX4_isLike_15 rfl ?_
      refine aw_geti' (j := 1) dX4_isLike_16 fX4_15 rfl (by assumption) rfl h1b ?_
      refine aw_ic_eq (tgt := 24) dX4_isLike_19 rfl (by omega) (by omega) (fun c19 => ?_) (fun c19 => ?_)
      · exact absurd c19 (by omega)
      · refine aw_iconst dX4_isLike_22 ?_
        exact aw_zreturn dX4_isLike_23 rfl (by omega) (Or.inl rfl) ⟨rfl, rfl⟩
