/-! ===== Path ===== -/
def pm (n : Nat) (π : Nat → Nat) : Prop := (∀ i, i < n → π i < n) ∧ ∀ i j, i < n → j < n → π i = π j → i = j
def shP (h : AH) (a : Nat) (π : Nat → Nat) : Prop := kd h a = some (.inl 3) ∧ gr h a 2 = some (a + 1) ∧ kd h (a + 1) = some (.inr (7, 8)) ∧ pm 8 π ∧ (∀ i : Nat, i < 8 → gr h (a + 1) i = some (a + 2 + 2 * π i)) ∧ ∀ i, i < 8 → shS h (a + 2 + 2 * i)
def bI (b : Bool) : Int := if b = true then 1 else 0
theorem bI_01 (b : Bool) : bI b = 0 ∨ bI b = 1 := by cases b <;> simp [bI]
theorem bI_inj {b c : Bool} (h : bI b = bI c) : b = c := by cases b <;> cases c <;> first | rfl | (exact absurd h (by decide))
def isP (h : AH) (a : Nat) (π : Nat → Nat) (t : TT) : Prop := shP h a π ∧ gi h a 0 = bI t.1 ∧ gi h a 1 = t.2.length ∧ t.2.length ≤ 8 ∧ ∀ i s, t.2[i]? = some s → isS h (a + 2 + 2 * π i) s
theorem shP.eq {h h' : AH} {a : Nat} {π : Nat → Nat} (hs : shP h a π) (e : ∀ b, a ≤ b → b < a + 18 → eqA h h' b) : shP h' a π :=
  ⟨((e a (by omega) (by omega)).1).trans hs.1, (((e a (by omega) (by omega)).2 2).2.2).trans hs.2.1, ((e (a + 1) (by omega) (by omega)).1).trans hs.2.2.1, hs.2.2.2.1, fun i hi => (((e (a + 1) (by omega) (by omega)).2 i).2.2).trans (hs.2.2.2.2.1 i hi), fun i hi => (hs.2.2.2.2.2 i hi).eq (e _ (by omega) (by omega)) (e _ (by omega) (by omega))⟩
theorem pm_lt {π : Nat → Nat} (h : pm 8 π) {i : Nat} (hi : i < 8) : π i < 8 := h.1 i hi
theorem isP.eq {h h' : AH} {a : Nat} {π : Nat → Nat} {t : TT} (hs : isP h a π t) (e : ∀ b, a ≤ b → b < a + 18 → eqA h h' b) : isP h' a π t := by
  refine ⟨hs.1.eq e, (((e a (by omega) (by omega)).2 0).1).trans hs.2.1, (((e a (by omega) (by omega)).2 1).1).trans hs.2.2.1, hs.2.2.2.1, fun i s hi => ?_⟩
  have l := (List.getElem?_eq_some_iff.mp hi).1
  have := pm_lt hs.1.2.2.2.1 (i := i) (by have := hs.2.2.2.1; omega)
  exact (hs.2.2.2.2 i s hi).eq (e _ (by omega) (by omega)) (e _ (by omega) (by omega))
/-- a step's cells alone are changed -/
theorem shP.set {h h' : AH} {a m : Nat} {π : Nat → Nat} (hs : shP h a π) (hm : m < 8) (hS : shS h' (a + 2 + 2 * m)) (e : eqO h h' (a + 2 + 2 * m) (a + 2 + 2 * m + 2)) : shP h' a π := by
  have e0 := e.2 a (by omega)
  have e1 := e.2 (a + 1) (by omega)
  refine ⟨e0.1.trans hs.1, ((e0.2 2).2.2).trans hs.2.1, e1.1.trans hs.2.2.1, hs.2.2.2.1, fun i hi => ((e1.2 i).2.2).trans (hs.2.2.2.2.1 i hi), fun i hi => ?_⟩
  by_cases q : i = m
  · rw [q]; exact hS
  · exact (hs.2.2.2.2.2 i hi).eq (e.2 _ (by omega)) (e.2 _ (by omega))
theorem isP.set {h h' : AH} {a i : Nat} {π : Nat → Nat} {t : TT} {s : TS} (hs : isP h a π t) (hi : i < t.2.length) (hS : isS h' (a + 2 + 2 * π i) s) (e : eqO h h' (a + 2 + 2 * π i) (a + 2 + 2 * π i + 2)) : isP h' a π (t.1, t.2.set i s) := by
  have hp := hs.1.2.2.2.1
  have hl := hs.2.2.2.1
  have hpi := pm_lt hp (i := i) (by omega)
  have e0 := e.2 a (by omega)
  refine ⟨hs.1.set hpi hS.1 e, ((e0.2 0).1).trans hs.2.1, ?_, by show (t.2.set i s).length ≤ 8; rw [List.length_set]; exact hl, fun j x hj => ?_⟩
  · show _ = (((t.2.set i s).length : Nat) : Int)
    rw [List.length_set]
    exact ((e0.2 1).1).trans hs.2.2.1
  · change (t.2.set i s)[j]? = some x at hj
    have lj := (List.getElem?_eq_some_iff.mp hj).1
    rw [List.length_set] at lj
    by_cases q : j = i
    · subst q
      rw [List.getElem?_set_self hi] at hj
      rw [← Option.some.inj hj]
      exact hS
    · rw [List.getElem?_set_ne (fun z => q z.symm)] at hj
      have q2 : π j ≠ π i := fun z => q (hp.2 j i (by omega) (by omega) z)
      exact (hs.2.2.2.2 j x hj).eq (e.2 _ (by omega)) (e.2 _ (by omega))
theorem isP.add {h h' : AH} {a : Nat} {π : Nat → Nat} {t : TT} {s : TS} (hs : isP h a π t) (hl : t.2.length < 8) (hS : isS h' (a + 2 + 2 * π t.2.length) s) (e : eqO h h' (a + 2 + 2 * π t.2.length) (a + 2 + 2 * π t.2.length + 2)) : isP (si h' a 1 (t.2.length + 1)) a π (t.1, t.2 ++ [s]) := by
  have hp := hs.1.2.2.2.1
  have hpi := pm_lt hp hl
  have e0 := e.2 a (by omega)
  have h1 := hs.1.set hpi hS.1 e
  have hne : ∀ b, b ≠ a → eqA h' (si h' a 1 (t.2.length + 1)) b := fun b hb => eqA.si (fun z => hb z)
  refine ⟨⟨h1.1, h1.2.1, h1.2.2.1, h1.2.2.2.1, h1.2.2.2.2.1, fun i hi => (h1.2.2.2.2.2 i hi).eq (hne _ (by omega)) (hne _ (by omega))⟩, ?_, ?_, by show (t.2 ++ [s]).length ≤ 8; simp; omega, fun j x hj => ?_⟩
  · rw [gi_ne (Or.inr (by omega))]; exact ((e0.2 0).1).trans hs.2.1
  · rw [gi_at rfl rfl]; show _ = (((t.2 ++ [s]).length : Nat) : Int); simp
  · change (t.2 ++ [s])[j]? = some x at hj
    have lj := (List.getElem?_eq_some_iff.mp hj).1
    simp only [List.length_append, List.length_singleton] at lj
    by_cases q : j = t.2.length
    · subst q
      rw [List.getElem?_append_right (by omega)] at hj
      simp only [Nat.sub_self, List.getElem?_cons_zero, Option.some.injEq] at hj
      rw [← hj]
      exact hS.eq (hne _ (by omega)) (hne _ (by omega))
    · rw [List.getElem?_append_left (by omega)] at hj
      have q2 : π j ≠ π t.2.length := fun z => q (hp.2 j _ (by omega) (by omega) z)
      exact ((hs.2.2.2.2 j x hj).eq (e.2 _ (by omega)) (e.2 _ (by omega))).eq (hne _ (by omega)) (hne _ (by omega))
theorem c_pbegin {γ : GG} {h : AH} {a : Nat} {π : Nat → Nat} (hP : shP h a π) : Call γ mX4_begin 0 0 0 [vr (some a)] h (rN (si (si h a 0 0) a 1 0)) := by
  obtain ⟨hk, hr, hk1, hπ, hrf, hst⟩ := hP
  refine Call.of (ls := [(0, vr (some a))]) vX4_begin.1 (Nat.le_of_ble_eq_true rfl) rfl ?_
  refine aw_aload_n dX4_begin_0 rfl ?_
  refine aw_iconst dX4_begin_1 ?_
  refine aw_putz' (j := 0) rfl (by omega) dX4_begin_2 fX4_9 (by assumption) rfl ?_
  refine aw_aload_n dX4_begin_5 rfl ?_
  refine aw_iconst dX4_begin_6 ?_
  refine aw_puti' (j := 1) rfl dX4_begin_7 fX4_15 (by assumption) rfl ?_
  exact aw_return dX4_begin_10 rfl (Or.inl rfl) ⟨rfl, rfl⟩
theorem isP_begin {h : AH} {a : Nat} {π : Nat → Nat} (hP : shP h a π) : isP (si (si h a 0 0) a 1 0) a π (false, []) := by
  have hne : ∀ b, b ≠ a → eqA h (si (si h a 0 0) a 1 0) b := fun b hb => (eqA.si (fun z => hb z)).tr (eqA.si (fun z => hb z))
  refine ⟨⟨hP.1, hP.2.1, hP.2.2.1, hP.2.2.2.1, hP.2.2.2.2.1, fun i hi => (hP.2.2.2.2.2 i hi).eq (hne _ (by omega)) (hne _ (by omega))⟩, ?_, ?_, Nat.zero_le _, fun i s hi => by simp at hi⟩
  · rw [gi_ne (Or.inr (by omega)), gi_at rfl rfl]; rfl
  · rw [gi_at rfl rfl]; rfl
theorem c_pfull {γ : GG} {h : AH} {a : Nat} {π : Nat → Nat} {t : TT} (hP : isP h a π t) : Call γ mX4_isFull 0 0 0 [vr (some a)] h (rV (vi (if t.2.length = 8 then 1 else 0)) h) := by
  obtain ⟨⟨hk, hr, hk1, hπ, hrf, hst⟩, h0, h1, hl8, hss⟩ := hP
  refine Call.of (ls := [(0, vr (some a))]) vX4_isFull.1 (Nat.le_of_ble_eq_true rfl) rfl ?_
  refine aw_aload_n dX4_isFull_0 rfl ?_
  refine aw_geti' (j := 1) dX4_isFull_1 fX4_15 rfl (by assumption) rfl h1 ?_
  refine aw_bipush dX4_isFull_4 rfl ?_
  refine aw_ic_lt (tgt := 13) dX4_isFull_6 rfl (by omega) (by omega) (fun c6 => ?_) (fun c6 => ?_)
  · refine aw_iconst dX4_isFull_13 ?_
    exact aw_zreturn dX4_isFull_14 rfl (by omega) (Or.inl rfl) ⟨by congr 3; first | (rw [if_pos (by omega)]; done) | (rw [if_neg (by omega)]), rfl⟩
  · refine aw_iconst dX4_isFull_9 ?_
    refine aw_goto (tgt := 14) dX4_isFull_10 rfl ?_
    exact aw_zreturn dX4_isFull_14 rfl (by omega) (Or.inl rfl) ⟨by congr 3; first | (rw [if_pos (by omega)]; done) | (rw [if_neg (by omega)]), rfl⟩
theorem c_paddStep {γ : GG} {h : AH} {a : Nat} {π : Nat → Nat} {t : TT} {x te : Int} (hP : isP h a π t) (hl : t.2.length < 8) : Call γ mX4_addStep 2 0 0 [vr (some a), vi x, vi te] h (rV (vr (some (a + 2 + 2 * π t.2.length))) (si (hBegin h (a + 2 + 2 * π t.2.length) x te) a 1 (t.2.length + 1))) := by
  obtain ⟨⟨hk, hr, hk1, hπ, hrf, hst⟩, h0, h1, hl8, hss⟩ := hP
  have hs := hst (π t.2.length) (pm_lt hπ hl)
  have hs1 := hs.1
  have e1 : min (t.2.length : Int) 7 = t.2.length := by omega
  have e2 : min ((t.2.length : Int) + 1) 8 = t.2.length + 1 := by omega
  have g2 : gi (hBegin h (a + 2 + 2 * π t.2.length) x te) a 1 = t.2.length := (((eqO_hBegin h _ x te).2 a (by omega)).2 1).1.trans h1
  refine Call.of (ls := [(0, vr (some a)), (1, vi x), (2, vi te)]) vX4_addStep.1 (Nat.le_of_ble_eq_true rfl) rfl ?_
  refine aw_aload_n dX4_addStep_0 rfl ?_
  refine aw_getr' (j := 2) dX4_addStep_1 fX4_21 rfl (by assumption) rfl (by first | assumption | exact hrf _ hl) ?_
  refine aw_aload_n dX4_addStep_4 rfl ?_
  refine aw_geti' (j := 1) dX4_addStep_5 fX4_15 rfl (by assumption) rfl h1 ?_
  refine aw_bipush dX4_addStep_8 rfl ?_
  refine aw_min dX4_addStep_10 uX4_30 (by omega) (by omega) (by decide) (Nat.le_of_ble_eq_true rfl) ?_
  rw [e1]
  refine aw_aald7' dX4_addStep_13 (by assumption) (by omega) (by first | decide | omega) (hrf _ hl) ?_
  refine aw_astore_n (ls1 := [(3, _), (0, _), (1, _), (2, _)]) dX4_addStep_14 (by decide) rfl ?_
  refine aw_aload_n dX4_addStep_15 rfl ?_
  refine aw_iload_n dX4_addStep_16 rfl ?_
  refine aw_iload_n dX4_addStep_17 rfl ?_
  refine aw_invV_n dX4_addStep_18 vX8_begin kX4_36 rfl (c_sbegin hs) ⟨_, (by assumption), _, _, rfl⟩ rfl rfl (by decide) (by decide) (by decide) (Nat.le_of_ble_eq_true rfl) ?_
  refine aw_aload_n dX4_addStep_21 rfl ?_
  refine aw_aload_n dX4_addStep_22 rfl ?_
  refine aw_geti' (j := 1) dX4_addStep_23 fX4_15 rfl (by exact hk) rfl g2 ?_
  refine aw_iconst dX4_addStep_26 ?_
  refine aw_iadd dX4_addStep_27 ?_
  refine aw_bipush dX4_addStep_28 rfl ?_
  refine aw_min dX4_addStep_30 uX4_30 (by omega) (by omega) (by decide) (Nat.le_of_ble_eq_true rfl) ?_
  rw [e2]
  refine aw_puti' (j := 1) rfl dX4_addStep_33 fX4_15 (by exact hk) rfl ?_
  refine aw_aload_n dX4_addStep_36 rfl ?_
  exact aw_areturn dX4_addStep_37 rfl (by first | exact Or.inl ⟨_, rfl⟩ | exact Or.inr ⟨_, rfl⟩) (Or.inl rfl) ⟨rfl, rfl⟩
/-- references moved down by one -/
def hRot (h : AH) (c : Nat) (f s : Int) : AH := (h.1, h.2.1, h.2.2.1, (fun b k => if b = c ∧ f ≤ k ∧ k < s then gr h c (k + 1) else h.2.2.2.1 b k), h.2.2.2.2)
theorem gr_hRot (h : AH) (c : Nat) (f s : Int) (b : Nat) (k : Int) : gr (hRot h c f s) b k = if b = c ∧ f ≤ k ∧ k < s then gr h c (k + 1) else gr h b k := rfl
theorem hRot_0 (h : AH) (c : Nat) (f : Int) : hRot h c f f = h := by
  unfold hRot
  have : (fun (b : Nat) (k : Int) => if b = c ∧ f ≤ k ∧ k < f then gr h c (k + 1) else h.2.2.2.1 b k) = h.2.2.2.1 := by
    funext b k
    rw [if_neg (by omega)]
  rw [this]
theorem hRot_s {h : AH} {c : Nat} {f s : Int} {z : Option Nat} (hfs : f ≤ s) (hz : z = gr h c (s + 1)) : sr (hRot h c f s) c s z = hRot h c f (s + 1) := by
  subst hz
  unfold hRot sr
  have : (fun (b : Nat) (k : Int) => if b = c ∧ k = s then gr h c (s + 1) else if b = c ∧ f ≤ k ∧ k < s then gr h c (k + 1) else h.2.2.2.1 b k) = fun b k => if b = c ∧ f ≤ k ∧ k < s + 1 then gr h c (k + 1) else h.2.2.2.1 b k := by
    funext b k
    by_cases q1 : b = c ∧ k = s
    · obtain ⟨q1, q2⟩ := q1
      subst q1; subst q2
      rw [if_pos ⟨rfl, rfl⟩]
      exact (if_pos (show b = b ∧ f ≤ k ∧ k < k + 1 from ⟨rfl, hfs, by omega⟩)).symm
    · rw [if_neg q1]
      by_cases q2 : b = c ∧ f ≤ k ∧ k < s
      · rw [if_pos q2]
        exact (if_pos (show b = c ∧ f ≤ k ∧ k < s + 1 by omega)).symm
      · rw [if_neg q2, if_neg (by omega)]
  show (_, _, _, _, _) = (_, _, _, _, _)
  rw [← this]
def rot (π : Nat → Nat) (i l : Nat) : Nat → Nat := fun j => if i ≤ j ∧ j < l then π (j + 1) else if j = l then π i else π j
theorem pm_rot {n : Nat} {π : Nat → Nat} (h : pm n π) {i l : Nat} (hi : i ≤ l) (hl : l < n) : pm n (rot π i l) := by
  refine ⟨fun j hj => ?_, fun j k hj hk e => ?_⟩
  · unfold rot
    split
    · exact h.1 _ (by omega)
    · split
      · exact h.1 _ (by omega)
      · exact h.1 _ (by omega)
  · have inj := h.2
    by_cases a1 : i ≤ j ∧ j < l
    · have e1 : rot π i l j = π (j + 1) := by unfold rot; rw [if_pos a1]
      by_cases b1 : i ≤ k ∧ k < l
      · have e2 : rot π i l k = π (k + 1) := by unfold rot; rw [if_pos b1]
        have := inj _ _ (by omega) (by omega) (e1.symm.trans (e.trans e2)); omega
      · by_cases b2 : k = l
        · have e2 : rot π i l k = π i := by unfold rot; rw [if_neg b1, if_pos b2]
          have := inj _ _ (by omega) (by omega) (e1.symm.trans (e.trans e2)); omega
        · have e2 : rot π i l k = π k := by unfold rot; rw [if_neg b1, if_neg b2]
          have := inj _ _ (by omega) (by omega) (e1.symm.trans (e.trans e2)); omega
    · by_cases a2 : j = l
      · have e1 : rot π i l j = π i := by unfold rot; rw [if_neg a1, if_pos a2]
        by_cases b1 : i ≤ k ∧ k < l
        · have e2 : rot π i l k = π (k + 1) := by unfold rot; rw [if_pos b1]
          have := inj _ _ (by omega) (by omega) (e1.symm.trans (e.trans e2)); omega
        · by_cases b2 : k = l
          · omega
          · have e2 : rot π i l k = π k := by unfold rot; rw [if_neg b1, if_neg b2]
            have := inj _ _ (by omega) (by omega) (e1.symm.trans (e.trans e2)); omega
      · have e1 : rot π i l j = π j := by unfold rot; rw [if_neg a1, if_neg a2]
        by_cases b1 : i ≤ k ∧ k < l
        · have e2 : rot π i l k = π (k + 1) := by unfold rot; rw [if_pos b1]
          have := inj _ _ (by omega) (by omega) (e1.symm.trans (e.trans e2)); omega
        · by_cases b2 : k = l
          · have e2 : rot π i l k = π i := by unfold rot; rw [if_neg b1, if_pos b2]
            have := inj _ _ (by omega) (by omega) (e1.symm.trans (e.trans e2)); omega
          · have e2 : rot π i l k = π k := by unfold rot; rw [if_neg b1, if_neg b2]
            exact inj _ _ (by omega) (by omega) (e1.symm.trans (e.trans e2))
def hRm (h : AH) (a i l v : Nat) : AH := si (sr (hRot h (a + 1) (i : Int) (l : Int)) (a + 1) (l : Int) (some v)) a 1 (l : Int)
theorem l_prm {γ : GG} {h : AH} {a i : Nat} {π : Nat → Nat} {t : TT} (hP : isP h a π t) (hi : i < t.2.length) : ∀ (m k : Nat), i ≤ k → k + m + 1 = t.2.length → AW γ mX4_removeStep 0 0 0 31 [(0, vr (some a)), (1, vi (i : Int)), (2, vr (some (a + 2 + 2 * π i))), (3, vi (k : Int))] [] (hRot h (a + 1) (i : Int) (k : Int)) (rN (hRm h a i (t.2.length - 1) (a + 2 + 2 * π i))) := by
  obtain ⟨⟨hk, hr, hk1, hπ, hrf, hst⟩, h0, h1, hl8, hss⟩ := hP
  intro m
  induction m with
  | zero =>
    intro k hik hkm
    have ek : (t.2.length : Int) - 1 = (k : Int) := by omega
    rw [show t.2.length - 1 = k by omega]
    have hs := (hst (π i) (pm_lt hπ (by omega))).1
    have hr9 : gr (hRot h (a + 1) (i : Int) (k : Int)) a 2 = some (a + 1) := by rw [gr_hRot, if_neg (by omega)]; exact hr
    refine aw_iload_n dX4_removeStep_31 rfl ?_
    refine aw_iconst dX4_removeStep_32 ?_
    refine aw_iadd dX4_removeStep_33 ?_
    refine aw_aload_n dX4_removeStep_34 rfl ?_
    refine aw_geti' (j := 1) dX4_removeStep_35 fX4_15 rfl (by first | assumption | exact hk | exact hk1) rfl h1 ?_
    refine aw_ic_ge (tgt := 61) dX4_removeStep_38 rfl (by omega) (by omega) (fun c38 => ?_) (fun c38 => ?_)
    · refine aw_aload_n dX4_removeStep_61 rfl ?_
      refine aw_getr' (j := 2) dX4_removeStep_62 fX4_21 rfl (by first | assumption | exact hk | exact hk1) rfl (by first | assumption | exact hr) ?_
      refine aw_aload_n dX4_removeStep_65 rfl ?_
      refine aw_geti' (j := 1) dX4_removeStep_66 fX4_15 rfl (by first | assumption | exact hk | exact hk1) rfl h1 ?_
      refine aw_iconst dX4_removeStep_69 ?_
      refine aw_isub dX4_removeStep_70 ?_
      rw [ek]
      refine aw_aload_n dX4_removeStep_71 rfl ?_
      refine aw_aast7 dX4_removeStep_72 (by first | assumption | exact hk | exact hk1) (by omega) (by first | decide | omega) (by exact hs) ?_
      refine aw_aload_n dX4_removeStep_73 rfl ?_
      refine aw_dup dX4_removeStep_74 rfl ?_
      refine aw_geti' (j := 1) dX4_removeStep_75 fX4_15 rfl (by first | assumption | exact hk | exact hk1) rfl h1 ?_
      refine aw_iconst dX4_removeStep_78 ?_
      refine aw_isub dX4_removeStep_79 ?_
      rw [ek]
      refine aw_puti' (j := 1) rfl dX4_removeStep_80 fX4_15 (by first | assumption | exact hk | exact hk1) rfl ?_
      exact aw_return dX4_removeStep_83 rfl (Or.inl rfl) ⟨rfl, rfl⟩
    · exact absurd c38 (by omega)
  | succ m ih =>
    intro k hik hkm
    have ih' := ih (k + 1) (by omega) (by omega)
    have hs := (hst (π (k + 1)) (pm_lt hπ (by omega))).1
    have hr9 : gr (hRot h (a + 1) (i : Int) (k : Int)) a 2 = some (a + 1) := by rw [gr_hRot, if_neg (by omega)]; exact hr
    have g1 : gr (hRot h (a + 1) (i : Int) (k : Int)) (a + 1) ((k : Int) + 1) = some (a + 2 + 2 * π (k + 1)) := by
      rw [gr_hRot, if_neg (by omega)]
      exact hrf (k + 1) (by omega)
    have e9 : sr (hRot h (a + 1) (i : Int) (k : Int)) (a + 1) (k : Int) (some (a + 2 + 2 * π (k + 1))) = hRot h (a + 1) (i : Int) ((k + 1 : Nat) : Int) := hRot_s (by omega) (hrf (k + 1) (by omega)).symm
    refine aw_iload_n dX4_removeStep_31 rfl ?_
    refine aw_iconst dX4_removeStep_32 ?_
    refine aw_iadd dX4_removeStep_33 ?_
    refine aw_aload_n dX4_removeStep_34 rfl ?_
    refine aw_geti' (j := 1) dX4_removeStep_35 fX4_15 rfl (by first | assumption | exact hk | exact hk1) rfl h1 ?_
    refine aw_ic_ge (tgt := 61) dX4_removeStep_38 rfl (by omega) (by omega) (fun c38 => ?_) (fun c38 => ?_)
    · exact absurd c38 (by omega)
    · refine aw_aload_n dX4_removeStep_41 rfl ?_
      refine aw_getr' (j := 2) dX4_removeStep_42 fX4_21 rfl (by first | assumption | exact hk | exact hk1) rfl (by first | assumption | exact g1 | exact hr) ?_
      refine aw_iload_n dX4_removeStep_45 rfl ?_
      refine aw_aload_n dX4_removeStep_46 rfl ?_
      refine aw_getr' (j := 2) dX4_removeStep_47 fX4_21 rfl (by first | assumption | exact hk | exact hk1) rfl (by first | assumption | exact g1 | exact hr) ?_
      refine aw_iload_n dX4_removeStep_50 rfl ?_
      refine aw_iconst dX4_removeStep_51 ?_
      refine aw_iadd dX4_removeStep_52 ?_
      refine aw_aald7' dX4_removeStep_53 (by first | assumption | exact hk | exact hk1) (by omega) (by first | decide | omega) g1 ?_
      refine aw_aast7 dX4_removeStep_54 (by first | assumption | exact hk | exact hk1) (by omega) (by first | decide | omega) (by exact hs) ?_
      refine aw_iinc (k9 := 3) (ls1 := [(3, _), (0, _), (1, _), (2, _)]) dX4_removeStep_55 rfl (by decide) rfl ?_
      refine aw_goto (tgt := 31) dX4_removeStep_58 rfl ?_
      refine aw_sub [1, 2, 3, 0] rfl ?_
      refine aw_eqh e9 ?_
      exact ih'
theorem c_prm {γ : GG} {h : AH} {a i : Nat} {π : Nat → Nat} {t : TT} (hP : isP h a π t) (hi : i < t.2.length) : Call γ mX4_removeStep 0 0 0 [vr (some a), vi (i : Int)] h (rN (hRm h a i (t.2.length - 1) (a + 2 + 2 * π i))) := by
  have K := l_prm (γ := γ) hP hi (t.2.length - 1 - i) i (by omega) (by omega)
  rw [hRot_0] at K
  obtain ⟨⟨hk, hr, hk1, hπ, hrf, hst⟩, h0, h1, hl8, hss⟩ := hP
  refine Call.of (ls := [(0, vr (some a)), (1, vi (i : Int))]) vX4_removeStep.1 (Nat.le_of_ble_eq_true rfl) rfl ?_
  refine aw_iload_n dX4_removeStep_0 rfl ?_
  refine aw_if_lt (tgt := 21) dX4_removeStep_1 rfl (by omega) (fun c1 => ?_) (fun c1 => ?_)
  · exact absurd c1 (by omega)
  · refine aw_iload_n dX4_removeStep_4 rfl ?_
    refine aw_aload_n dX4_removeStep_5 rfl ?_
    refine aw_geti' (j := 1) dX4_removeStep_6 fX4_15 rfl (by assumption) rfl h1 ?_
    refine aw_ic_ge (tgt := 21) dX4_removeStep_9 rfl (by omega) (by omega) (fun c9 => ?_) (fun c9 => ?_)
    · exact absurd c9 (by omega)
    · refine aw_aload_n dX4_removeStep_12 rfl ?_
      refine aw_geti' (j := 1) dX4_removeStep_13 fX4_15 rfl (by assumption) rfl h1 ?_
      refine aw_bipush dX4_removeStep_16 rfl ?_
      refine aw_ic_le (tgt := 22) dX4_removeStep_18 rfl (by omega) (by omega) (fun c18 => ?_) (fun c18 => ?_)
      · refine aw_aload_n dX4_removeStep_22 rfl ?_
        refine aw_getr' (j := 2) dX4_removeStep_23 fX4_21 rfl (by assumption) rfl (by first | assumption | exact hrf i (by omega)) ?_
        refine aw_iload_n dX4_removeStep_26 rfl ?_
        refine aw_aald7' dX4_removeStep_27 (by assumption) (by omega) (by first | decide | omega) (hrf i (by omega)) ?_
        refine aw_astore_n (ls1 := [(2, _), (0, _), (1, _)]) dX4_removeStep_28 (by decide) rfl ?_
        refine aw_iload_n dX4_removeStep_29 rfl ?_
        refine aw_istore_n (ls1 := [(3, _), (2, _), (0, _), (1, _)]) dX4_removeStep_30 (by decide) rfl ?_
        refine aw_sub [2, 3, 1, 0] rfl ?_
        exact K
      · exact absurd c18 (by omega)
theorem isP_rm {h : AH} {a i : Nat} {π : Nat → Nat} {t : TT} (hP : isP h a π t) (hi : i < t.2.length) : isP (hRm h a i (t.2.length - 1) (a + 2 + 2 * π i)) a (rot π i (t.2.length - 1)) (t.1, t.2.eraseIdx i) ∧ eqO h (hRm h a i (t.2.length - 1) (a + 2 + 2 * π i)) a (a + 2) := by
  obtain ⟨⟨hk, hr, hk1, hπ, hrf, hst⟩, h0, h1, hl8, hss⟩ := hP
  obtain ⟨l, hl⟩ : ∃ l, t.2.length = l + 1 := ⟨t.2.length - 1, by omega⟩
  have hle := List.length_eraseIdx_of_lt hi
  rw [hl, Nat.add_sub_cancel]
  have hne : ∀ b, b ≠ a → b ≠ a + 1 → eqA h (hRm h a i l (a + 2 + 2 * π i)) b := fun b hb hb1 => by
    refine ⟨rfl, fun k => ⟨?_, rfl, ?_⟩⟩
    · unfold hRm; rw [gi_ne (Or.inl hb)]; rfl
    · show gr (sr (hRot h (a + 1) (i : Int) (l : Int)) (a + 1) (l : Int) _) b k = _
      rw [gr_ne (Or.inl hb1), gr_hRot, if_neg (fun z => hb1 z.1)]
  have g1 : ∀ j : Nat, j < 8 → gr (hRm h a i l (a + 2 + 2 * π i)) (a + 1) j = some (a + 2 + 2 * rot π i l j) := fun j hj => by
    show gr (sr (hRot h (a + 1) (i : Int) (l : Int)) (a + 1) (l : Int) _) (a + 1) j = _
    unfold rot
    by_cases q : j = l
    · rw [gr_at rfl (by omega), if_neg (by omega), if_pos q]
    · rw [gr_ne (Or.inr (by omega)), gr_hRot]
      by_cases q2 : i ≤ j ∧ j < l
      · rw [if_pos ⟨rfl, by omega, by omega⟩, if_pos q2]
        exact hrf (j + 1) (by omega)
      · rw [if_neg (by omega), if_neg q2, if_neg q]
        exact hrf j hj
  refine ⟨⟨⟨hk, ?_, hk1, pm_rot hπ (by omega) (by omega), g1, fun j hj => (hst j hj).eq (hne _ (by omega) (by omega)) (hne _ (by omega) (by omega))⟩, ?_, ?_, by show (t.2.eraseIdx i).length ≤ 8; omega, fun j s hj => ?_⟩, rfl, fun b hb => hne b (by omega) (by omega)⟩
  · show gr (sr (hRot h (a + 1) (i : Int) (l : Int)) (a + 1) (l : Int) _) a 2 = _
    rw [gr_ne (Or.inl (by omega)), gr_hRot, if_neg (by omega)]; exact hr
  · unfold hRm; rw [gi_ne (Or.inr (by omega))]; exact h0
  · unfold hRm; rw [gi_at rfl rfl]; show (l : Int) = (((t.2.eraseIdx i).length : Nat) : Int); omega
  · change (t.2.eraseIdx i)[j]? = some s at hj
    have lj := (List.getElem?_eq_some_iff.mp hj).1
    rw [List.getElem?_eraseIdx] at hj
    by_cases q : j < i
    · rw [if_pos q] at hj
      have e : rot π i l j = π j := by unfold rot; rw [if_neg (by omega), if_neg (by omega)]
      rw [e]
      exact (hss j s hj).eq (hne _ (by omega) (by omega)) (hne _ (by omega) (by omega))
    · rw [if_neg q] at hj
      have e : rot π i l j = π (j + 1) := by unfold rot; rw [if_pos (by omega)]
      rw [e]
      exact (hss _ s hj).eq (hne _ (by omega) (by omega)) (hne _ (by omega) (by omega))
