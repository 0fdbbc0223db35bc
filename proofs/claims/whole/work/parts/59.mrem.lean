/-! ===== the model: steps and predicates taken away, put in place ===== -/
theorem er_get {α : Type} {l : List α} {i j : Nat} {x : α} (h : (l.eraseIdx i)[j]? = some x) : (j < i ∧ l[j]? = some x) ∨ (i ≤ j ∧ l[j + 1]? = some x) := by
  rw [List.getElem?_eraseIdx] at h
  by_cases q : j < i
  · rw [if_pos q] at h; exact Or.inl ⟨q, h⟩
  · rw [if_neg q] at h; exact Or.inr ⟨by omega, h⟩
theorem set_get {α : Type} {l : List α} {i j : Nat} {x y : α} (h : (l.set i x)[j]? = some y) : (j = i ∧ y = x) ∨ (j ≠ i ∧ l[j]? = some y) := by
  by_cases q : j = i
  · subst q
    have := lt_of_get h
    rw [List.length_set] at this
    rw [List.getElem?_set_self this] at h
    cases h
    exact Or.inl ⟨rfl, rfl⟩
  · rw [List.getElem?_set_ne (Ne.symm q)] at h
    exact Or.inr ⟨q, h⟩
theorem mem_er {α : Type} {P : α → Prop} {l : List α} {i : Nat} (h : ∀ x ∈ l, P x) : ∀ x ∈ l.eraseIdx i, P x := fun x hx => h x (List.mem_of_mem_eraseIdx hx)
theorem mem_set9 {α : Type} {P : α → Prop} {l : List α} {i : Nat} {y : α} (h : ∀ x ∈ l, P x) (hy : P y) : ∀ x ∈ l.set i y, P x := fun x hx => by
  rcases List.mem_or_eq_of_mem_set hx with q | q
  · exact h x q
  · rw [q]; exact hy
theorem er_set {α : Type} {l : List α} {i : Nat} {x : α} : (l.eraseIdx (i + 1)).set i x = (l.set i x).eraseIdx (i + 1) := by
  apply List.ext_getElem?
  intro j
  rw [List.getElem?_set, List.length_eraseIdx, List.getElem?_eraseIdx, List.getElem?_eraseIdx, List.getElem?_set]
  by_cases q : i = j
  · subst q
    rw [if_pos rfl, if_pos (show i < i + 1 by omega), if_pos rfl]
    by_cases q2 : i + 1 < l.length
    · rw [if_pos q2, if_pos (by omega), if_pos (by omega)]
    · rw [if_neg q2]
  · rw [if_neg q]
    by_cases q2 : j < i + 1
    · rw [if_pos q2, if_pos q2, if_neg q]
    · rw [if_neg q2, if_neg q2, List.getElem?_set_ne (by omega)]
theorem er_set2 {α : Type} {l : List α} {i : Nat} {x : α} (hi : i + 1 < l.length) : (l.eraseIdx i).set i x = (l.set i x).eraseIdx (i + 1) := by
  have el : (l.eraseIdx i).length = l.length - 1 := List.length_eraseIdx_of_lt (by omega)
  apply List.ext_getElem?
  intro j
  rw [List.getElem?_set, el, List.getElem?_eraseIdx, List.getElem?_eraseIdx, List.getElem?_set]
  by_cases q : i = j
  · subst q
    rw [if_pos rfl, if_pos (show i < l.length - 1 by omega), if_pos (show i < i + 1 by omega), if_pos rfl, if_pos (show i < l.length by omega)]
  · rw [if_neg q, if_neg q]
    by_cases q2 : j < i
    · rw [if_pos q2, if_pos (by omega)]
    · rw [if_neg q2, if_neg (by omega), List.getElem?_set_ne (by omega)]
theorem er_same {α : Type} {l : List α} {i : Nat} {x : α} (hx : l[i + 1]? = some x) : l.eraseIdx i = (l.set i x).eraseIdx (i + 1) := by
  have hi := lt_of_get hx
  rw [← er_set2 hi]
  have : (l.eraseIdx i)[i]? = some x := by rw [List.getElem?_eraseIdx, if_neg (by omega)]; exact hx
  exact (set_same this).symm
/-- a step taken away -/
def hRS (h : AH) (a : Nat) (b : Int) (i n : Nat) : AH := si (cpI h (a + 7) (b + 2 + 204 * ((i : Int) + 1)) (a + 7) (b + 2 + 204 * (i : Int)) ((204 * (n - i - 1) : Nat) : Int)) (a + 7) (b + 1) ((n : Int) - 1)
theorem PT_hRS {h : AH} {a : Nat} {b : Int} {t : TT} {i : Nat} (hT : PT h a b t) (hi : i < t.2.length) : PT (hRS h a b i t.2.length) a b (t.1, t.2.eraseIdx i) ∧ eqG (SQ a (b + 1) (b + 1634)) h (hRS h a b i t.2.length) := by
  obtain ⟨⟨g0, g1, g2⟩, l8, ok⟩ := hT
  have el : (t.2.eraseIdx i).length = t.2.length - 1 := List.length_eraseIdx_of_lt hi
  unfold hRS
  refine ⟨⟨⟨(gi_ne (Or.inr (by omega))).trans ((gi_mvo (by omega)).trans g0), (gi_at rfl rfl).trans (by dsimp only; rw [el]; omega), fun j s hs => ?_⟩, by dsimp only; omega, mem_er ok⟩, (eqG_mv (by omega) (by omega)).tr (eqG.si ⟨rfl, by omega, by omega⟩)⟩
  have lj := lt_of_get hs
  dsimp only at lj
  rcases er_get hs with ⟨q1, q2⟩ | ⟨q1, q2⟩
  · exact (g2 j s q2).eq (ok s (List.mem_of_getElem? q2)) (fun x x1 x2 => (gi_ne (Or.inr (by omega))).trans (gi_mvo (by omega)))
  · refine (g2 (j + 1) s q2).eq (ok s (List.mem_of_getElem? q2)) (fun x x1 x2 => (gi_ne (Or.inr (by omega))).trans ((gi_mvi (by omega) (by omega)).trans ?_))
    congr 1
    omega
theorem PT_set {h h' : AH} {a : Nat} {b : Int} {t : TT} {i : Nat} {x : TS} (hT : PT h a b t) (hi : i < t.2.length) (ho : okS x) (hg : gS (gi h' (a + 7)) (b + 2 + 204 * (i : Int)) x) (e : eqG (SQ a (b + 2 + 204 * (i : Int)) (b + 2 + 204 * (i : Int) + 204)) h h') : PT h' a b (t.1, t.2.set i x) := by
  obtain ⟨⟨g0, g1, g2⟩, l8, ok⟩ := hT
  refine ⟨⟨(e.2.2.2.2 _ _ (by unfold SQ; omega)).trans g0, (e.2.2.2.2 _ _ (by unfold SQ; omega)).trans (g1.trans (by simp)), fun j s hs => ?_⟩, by dsimp only; rw [List.length_set]; exact l8, mem_set9 ok ho⟩
  rcases set_get hs with ⟨q1, q2⟩ | ⟨q1, q2⟩
  · subst q1 q2; exact hg
  · have := lt_of_get q2
    exact (g2 j s q2).eq (ok s (List.mem_of_getElem? q2)) (fun z z1 z2 => e.2.2.2.2 _ _ (by unfold SQ; omega))
theorem PT_st {h : AH} {a : Nat} {b : Int} {t : TT} {i : Nat} {s : TS} (hT : PT h a b t) (hs : t.2[i]? = some s) : gS (gi h (a + 7)) (b + 2 + 204 * (i : Int)) s ∧ okS s ∧ i < 8 := ⟨hT.1.2.2 i s hs, hT.2.2 s (List.mem_of_getElem? hs), by have := lt_of_get hs; have := hT.2.1; omega⟩
/-- a predicate taken away -/
def hRP (h : AH) (a : Nat) (b : Int) (i n : Nat) : AH := si (cpI h (a + 7) (b + 3 + 67 * ((i : Int) + 1)) (a + 7) (b + 3 + 67 * (i : Int)) ((67 * (n - i - 1) : Nat) : Int)) (a + 7) (b + 2) ((n : Int) - 1)
theorem gS_hRP {h : AH} {a : Nat} {b : Int} {s : TS} {i : Nat} (hg : gS (gi h (a + 7)) b s) (ho : okS s) (hi : i < s.2.length) : gS (gi (hRP h a b i s.2.length) (a + 7)) b (s.1, s.2.eraseIdx i) ∧ okS (s.1, s.2.eraseIdx i) ∧ eqG (SQ a b (b + 204)) h (hRP h a b i s.2.length) := by
  obtain ⟨g0, g1, g2, g3⟩ := hg
  obtain ⟨o1, o2, o3⟩ := ho
  have el : (s.2.eraseIdx i).length = s.2.length - 1 := List.length_eraseIdx_of_lt hi
  unfold hRP
  refine ⟨⟨(gi_ne (Or.inr (by omega))).trans ((gi_mvo (by omega)).trans g0), (gi_ne (Or.inr (by omega))).trans ((gi_mvo (by omega)).trans g1), (gi_at rfl rfl).trans (by dsimp only; rw [el]; omega), fun j p hp => ?_⟩, ⟨o1, by dsimp only; omega, mem_er o3⟩, (eqG_mv (by omega) (by omega)).tr (eqG.si ⟨rfl, by omega, by omega⟩)⟩
  have lj := lt_of_get hp
  dsimp only at lj
  rcases er_get hp with ⟨q1, q2⟩ | ⟨q1, q2⟩
  · exact (g3 j p q2).eq (o3 p (List.mem_of_getElem? q2)) (fun x x1 x2 => (gi_ne (Or.inr (by omega))).trans (gi_mvo (by omega)))
  · refine (g3 (j + 1) p q2).eq (o3 p (List.mem_of_getElem? q2)) (fun x x1 x2 => (gi_ne (Or.inr (by omega))).trans ((gi_mvi (by omega) (by omega)).trans ?_))
    congr 1
    omega
theorem m_removeStep {γ : GG} {h : AH} {a : Nat} {b : Int} {t : TT} {i : Nat} (hM : shM h a) (hb : 1 ≤ b ∧ b + 1634 ≤ 6537) (hT : PT h a b t) (hi : i < t.2.length) : Call γ mX12_removeStep 1 0 0 [vr (some a), vi b, vi (i : Int)] h (rN (hRS h a b i t.2.length)) := by
  obtain ⟨hka, rq, kq⟩ := hM.q
  have g1 := hT.1.2.1
  have l8 := hT.2.1
  have K1 := m_stepAt (γ := γ) (h := h) (p := b) (k := (i : Int) + 1)
  have K2 := m_stepAt (γ := γ) (h := h) (p := b) (k := (i : Int))
  have KM := m_move (γ := γ) (F := b + 2 + 204 * ((i : Int) + 1)) (T := b + 2 + 204 * (i : Int)) (n := 204 * (t.2.length - i - 1)) hM (by omega) (by omega)
  have en : 204 * ((t.2.length : Int) - (i : Int) - 1) = ((204 * (t.2.length - i - 1) : Nat) : Int) := by omega
  refine Call.of (ls := [(0, vr (some a)), (1, vi b), (2, vi (i : Int))]) vX12_removeStep.1 (Nat.le_of_ble_eq_true rfl) rfl ?_
  refine aw_aload_n dX12_removeStep_0 rfl ?_
  refine aw_iload_n dX12_removeStep_1 rfl ?_
  refine aw_iload_n dX12_removeStep_2 rfl ?_
  refine aw_iconst dX12_removeStep_3 ?_
  refine aw_iadd dX12_removeStep_4 ?_
  refine aw_invS_r dX12_removeStep_5 sX12_stepAt kX12_165 rfl (K1) rfl rfl (by decide) (by decide) (by decide) (Nat.le_of_ble_eq_true rfl) ?_
  refine aw_iload_n dX12_removeStep_8 rfl ?_
  refine aw_iload_n dX12_removeStep_9 rfl ?_
  refine aw_invS_r dX12_removeStep_10 sX12_stepAt kX12_165 rfl (K2) rfl rfl (by decide) (by decide) (by decide) (Nat.le_of_ble_eq_true rfl) ?_
  refine aw_sipush dX12_removeStep_13 rfl ?_
  refine aw_aload_n dX12_removeStep_16 rfl ?_
  refine aw_getr' (j := 12) dX12_removeStep_17 fX12_28 rfl (by assumption) rfl (by assumption) ?_
  refine aw_iload_n dX12_removeStep_20 rfl ?_
  refine aw_iconst dX12_removeStep_21 ?_
  refine aw_iadd dX12_removeStep_22 ?_
  refine aw_iald' dX12_removeStep_23 (by assumption) (by omega) (by first | decide | omega) g1 ?_
  refine aw_iload_n dX12_removeStep_24 rfl ?_
  refine aw_isub dX12_removeStep_25 ?_
  refine aw_iconst dX12_removeStep_26 ?_
  refine aw_isub dX12_removeStep_27 ?_
  refine aw_imul dX12_removeStep_28 ?_
  rw [en]
  refine aw_invV_n dX12_removeStep_29 vX12_move kX12_278 rfl (KM) ⟨_, (by assumption), _, _, rfl⟩ rfl rfl (by decide) (by decide) (by decide) (Nat.le_of_ble_eq_true rfl) ?_
  refine aw_aload_n dX12_removeStep_32 rfl ?_
  refine aw_getr' (j := 12) dX12_removeStep_33 fX12_28 rfl (by assumption) rfl (by assumption) ?_
  refine aw_iload_n dX12_removeStep_36 rfl ?_
  refine aw_iconst dX12_removeStep_37 ?_
  refine aw_iadd dX12_removeStep_38 ?_
  refine aw_dup2 dX12_removeStep_39 rfl rfl ?_
  refine aw_iald' dX12_removeStep_40 (by assumption) (by omega) (by first | decide | omega) ((gi_mvo (by omega)).trans g1) ?_
  refine aw_iconst dX12_removeStep_41 ?_
  refine aw_isub dX12_removeStep_42 ?_
  refine aw_iast dX12_removeStep_43 (by assumption) (by omega) (by first | decide | omega) ?_
  exact aw_return dX12_removeStep_44 rfl (Or.inl rfl) ⟨rfl, rfl⟩
theorem m_removePredicate {γ : GG} {h : AH} {a : Nat} {b : Int} {s : TS} {i : Nat} (hM : shM h a) (hb : 1 ≤ b ∧ b + 204 ≤ 6537) (ho : okS s) (hg : gS (gi h (a + 7)) b s) (hi : i < s.2.length) : Call γ mX12_removePredicate 1 0 0 [vr (some a), vi b, vi (i : Int)] h (rN (hRP h a b i s.2.length)) := by
  obtain ⟨hka, rq, kq⟩ := hM.q
  have g1 := hg.2.2.1
  have l8 := ho.2.1
  have K1 := m_predicateAt (γ := γ) (h := h) (p := b) (k := (i : Int) + 1)
  have K2 := m_predicateAt (γ := γ) (h := h) (p := b) (k := (i : Int))
  have KM := m_move (γ := γ) (F := b + 3 + 67 * ((i : Int) + 1)) (T := b + 3 + 67 * (i : Int)) (n := 67 * (s.2.length - i - 1)) hM (by omega) (by omega)
  have en : 67 * ((s.2.length : Int) - (i : Int) - 1) = ((67 * (s.2.length - i - 1) : Nat) : Int) := by omega
  refine Call.of (ls := [(0, vr (some a)), (1, vi b), (2, vi (i : Int))]) vX12_removePredicate.1 (Nat.le_of_ble_eq_true rfl) rfl ?_
  refine aw_aload_n dX12_removePredicate_0 rfl ?_
  refine aw_iload_n dX12_removePredicate_1 rfl ?_
  refine aw_iload_n dX12_removePredicate_2 rfl ?_
  refine aw_iconst dX12_removePredicate_3 ?_
  refine aw_iadd dX12_removePredicate_4 ?_
  refine aw_invS_r dX12_removePredicate_5 sX12_predicateAt kX12_168 rfl (K1) rfl rfl (by decide) (by decide) (by decide) (Nat.le_of_ble_eq_true rfl) ?_
  refine aw_iload_n dX12_removePredicate_8 rfl ?_
  refine aw_iload_n dX12_removePredicate_9 rfl ?_
  refine aw_invS_r dX12_removePredicate_10 sX12_predicateAt kX12_168 rfl (K2) rfl rfl (by decide) (by decide) (by decide) (Nat.le_of_ble_eq_true rfl) ?_
  refine aw_bipush dX12_removePredicate_13 rfl ?_
  refine aw_aload_n dX12_removePredicate_15 rfl ?_
  refine aw_getr' (j := 12) dX12_removePredicate_16 fX12_28 rfl (by assumption) rfl (by assumption) ?_
  refine aw_iload_n dX12_removePredicate_19 rfl ?_
  refine aw_iconst dX12_removePredicate_20 ?_
  refine aw_iadd dX12_removePredicate_21 ?_
  refine aw_iald' dX12_removePredicate_22 (by assumption) (by omega) (by first | decide | omega) g1 ?_
  refine aw_iload_n dX12_removePredicate_23 rfl ?_
  refine aw_isub dX12_removePredicate_24 ?_
  refine aw_iconst dX12_removePredicate_25 ?_
  refine aw_isub dX12_removePredicate_26 ?_
  refine aw_imul dX12_removePredicate_27 ?_
  rw [en]
  refine aw_invV_n dX12_removePredicate_28 vX12_move kX12_278 rfl (KM) ⟨_, (by assumption), _, _, rfl⟩ rfl rfl (by decide) (by decide) (by decide) (Nat.le_of_ble_eq_true rfl) ?_
  refine aw_aload_n dX12_removePredicate_31 rfl ?_
  refine aw_getr' (j := 12) dX12_removePredicate_32 fX12_28 rfl (by assumption) rfl (by assumption) ?_
  refine aw_iload_n dX12_removePredicate_35 rfl ?_
  refine aw_iconst dX12_removePredicate_36 ?_
  refine aw_iadd dX12_removePredicate_37 ?_
  refine aw_dup2 dX12_removePredicate_38 rfl rfl ?_
  refine aw_iald' dX12_removePredicate_39 (by assumption) (by omega) (by first | decide | omega) ((gi_mvo (by omega)).trans g1) ?_
  refine aw_iconst dX12_removePredicate_40 ?_
  refine aw_isub dX12_removePredicate_41 ?_
  refine aw_iast dX12_removePredicate_42 (by assumption) (by omega) (by first | decide | omega) ?_
  exact aw_return dX12_removePredicate_43 rfl (Or.inl rfl) ⟨rfl, rfl⟩
theorem m_removes {γ : GG} {h : AH} {a : Nat} {b : Int} {t : TT} {i : Nat} (hM : shM h a) (hb : 1 ≤ b ∧ b + 1634 ≤ 6537) (hT : PT h a b t) (hi : i < t.2.length) : Call γ mX12_removes 2 0 0 [vr (some a), vi b, vi (i : Int)] h (rE (vi 1) (fun h' => PT h' a b (t.1, t.2.eraseIdx i) ∧ eqG (SQ a (b + 1) (b + 1634)) h h')) := by
  obtain ⟨hka, rq, kq⟩ := hM.q
  have K := m_removeStep (γ := γ) hM hb hT hi
  refine Call.of (ls := [(0, vr (some a)), (1, vi b), (2, vi (i : Int))]) vX12_removes.1 (Nat.le_of_ble_eq_true rfl) rfl ?_
  refine aw_aload_n dX12_removes_0 rfl ?_
  refine aw_iload_n dX12_removes_1 rfl ?_
  refine aw_iload_n dX12_removes_2 rfl ?_
  refine aw_invV_n dX12_removes_3 vX12_removeStep kX12_297 rfl (K) ⟨_, (by assumption), _, _, rfl⟩ rfl rfl (by decide) (by decide) (by decide) (Nat.le_of_ble_eq_true rfl) ?_
  refine aw_iconst dX12_removes_6 ?_
  exact aw_zreturn dX12_removes_7 rfl (by omega) (Or.inl rfl) ⟨rfl, PT_hRS hT hi⟩
theorem m_joins {γ : GG} {h : AH} {a : Nat} {b : Int} {t : TT} {i : Nat} (hM : shM h a) (hb : 1 ≤ b ∧ b + 1634 ≤ 6537) (hT : PT h a b t) {s : TS} (hs : t.2[i + 1]? = some s) : Call γ mX12_joins 2 0 0 [vr (some a), vi b, vi (i : Int)] h (rE (vi 1) (fun h' => PT h' a b (t.1, (t.2.set i ((2, s.1.2), s.2)).eraseIdx (i + 1)) ∧ eqG (SQ a (b + 1) (b + 1634)) h h')) := by
  obtain ⟨hka, rq, kq⟩ := hM.q
  have hi := lt_of_get hs
  have l8 := hT.2.1
  have K := m_removeStep (γ := γ) (i := i) hM hb hT (by omega)
  obtain ⟨P1, E1⟩ := PT_hRS (i := i) hT (by omega)
  have hs' : (t.2.eraseIdx i)[i]? = some s := by rw [List.getElem?_eraseIdx, if_neg (by omega)]; exact hs
  obtain ⟨g1, o1, -⟩ := PT_st P1 hs'
  have E2 : eqG (SQ a (b + 2 + 204 * (i : Int)) (b + 2 + 204 * (i : Int) + 204)) (hRS h a b i t.2.length) (si (hRS h a b i t.2.length) (a + 7) (b + 2 + 204 * (i : Int)) 2) := eqG.si ⟨rfl, by omega, by omega⟩
  have g2 : gS (gi (si (hRS h a b i t.2.length) (a + 7) (b + 2 + 204 * (i : Int)) 2) (a + 7)) (b + 2 + 204 * (i : Int)) ((2, s.1.2), s.2) := ⟨gi_at rfl rfl, (gi_ne (Or.inr (by omega))).trans g1.2.1, (gi_ne (Or.inr (by omega))).trans g1.2.2.1, fun j p hp => by
    have := lt_of_get hp
    have := o1.2.1
    exact (g1.2.2.2 j p hp).eq (o1.2.2 p (List.mem_of_getElem? hp)) (fun z z1 z2 => gi_ne (Or.inr (by omega)))⟩
  have P2 := PT_set (x := ((2, s.1.2), s.2)) P1 (by dsimp only; rw [List.length_eraseIdx_of_lt (by omega)]; omega) ⟨⟨show (0 : Int) ≤ 2 by decide, show (2 : Int) ≤ 9 by decide, o1.1.2.2⟩, o1.2⟩ g2 E2
  rw [er_set2 hi] at P2
  have KA := m_stepAt (γ := γ) (h := hRS h a b i t.2.length) (p := b) (k := (i : Int))
  refine Call.of (ls := [(0, vr (some a)), (1, vi b), (2, vi (i : Int))]) vX12_joins.1 (Nat.le_of_ble_eq_true rfl) rfl ?_
  refine aw_aload_n dX12_joins_0 rfl ?_
  refine aw_iload_n dX12_joins_1 rfl ?_
  refine aw_iload_n dX12_joins_2 rfl ?_
  refine aw_invV_n dX12_joins_3 vX12_removeStep kX12_297 rfl (K) ⟨_, (by assumption), _, _, rfl⟩ rfl rfl (by decide) (by decide) (by decide) (Nat.le_of_ble_eq_true rfl) ?_
  refine aw_aload_n dX12_joins_6 rfl ?_
  refine aw_getr' (j := 12) dX12_joins_7 fX12_28 rfl (by assumption) rfl (by assumption) ?_
  refine aw_iload_n dX12_joins_10 rfl ?_
  refine aw_iload_n dX12_joins_11 rfl ?_
  refine aw_invS_r dX12_joins_12 sX12_stepAt kX12_165 rfl (KA) rfl rfl (by decide) (by decide) (by decide) (Nat.le_of_ble_eq_true rfl) ?_
  refine aw_iconst dX12_joins_15 ?_
  refine aw_iast dX12_joins_16 (by assumption) (by omega) (by first | decide | omega) ?_
  refine aw_iconst dX12_joins_17 ?_
  exact aw_zreturn dX12_joins_18 rfl (by omega) (Or.inl rfl) ⟨rfl, P2, E1.tr (E2.mono (SQ.mono (by omega) (by omega)))⟩
theorem m_asks {γ : GG} {h : AH} {a : Nat} {b : Int} {t : TT} {i : Nat} (hM : shM h a) (hb : 1 ≤ b ∧ b + 1634 ≤ 6537) (hT : PT h a b t) {s : TS} (hs : t.2[i]? = some s) (hi : i + 1 < t.2.length) : Call γ mX12_asks 2 0 0 [vr (some a), vi b, vi (i : Int)] h (rE (vi 1) (fun h' => PT h' a b (t.1, (t.2.set i ((1, 8), [[[c4 s.1.2]]])).eraseIdx (i + 1)) ∧ eqG (SQ a (b + 1) (b + 1634)) h h')) := by
  obtain ⟨hka, rq, kq⟩ := hM.q
  have l8 := hT.2.1
  obtain ⟨gs, os, -⟩ := PT_st hT hs
  have g1 := gs.2.1
  have K := m_removeStep (γ := γ) (i := i + 1) hM hb hT (by omega)
  obtain ⟨P1, E1⟩ := PT_hRS (i := i + 1) hT (by omega)
  rw [show ((i + 1 : Nat) : Int) = (i : Int) + 1 by omega] at K
  obtain ⟨H, eH⟩ : ∃ H, H = hRS h a b (i + 1) t.2.length := ⟨_, rfl⟩
  rw [← eH] at K P1 E1
  obtain ⟨sb, esb⟩ : ∃ sb, sb = b + 2 + 204 * (i : Int) := ⟨_, rfl⟩
  have KA := m_stepAt (γ := γ) (h := h) (p := b) (k := (i : Int))
  rw [← esb] at KA g1
  have hkH : kd H a = some (.inl 11) := (E1.1 a).trans hka
  have rqH : gr H a 12 = some (a + 7) := (E1.2.1 a 12).trans rq
  have kqH : kd H (a + 7) = some (.inr (1, 6537)) := (E1.1 (a + 7)).trans kq
  have fin : ∀ H', H' = si (si (si (si (si (si (si (si (si (si H (a + 7) sb 1) (a + 7) (sb + 1) 8) (a + 7) (sb + 2) 1) (a + 7) (sb + 3 + 67 * 0) 1) (a + 7) (sb + 3 + 67 * 0 + 1 + 22 * 0) 1) (a + 7) (sb + 3 + 67 * 0 + 1 + 22 * 0 + 1 + 7 * 0) 0) (a + 7) (sb + 3 + 67 * 0 + 1 + 22 * 0 + 1 + 7 * 0 + 1) 3) (a + 7) (sb + 3 + 67 * 0 + 1 + 22 * 0 + 1 + 7 * 0 + 2) 0) (a + 7) (sb + 3 + 67 * 0 + 1 + 22 * 0 + 1 + 7 * 0 + 3) 1) (a + 7) (sb + 3 + 67 * 0 + 1 + 22 * 0 + 1 + 7 * 0 + 4) s.1.2 → PT H' a b (t.1, (t.2.set i ((1, 8), [[[c4 s.1.2]]])).eraseIdx (i + 1)) ∧ eqG (SQ a (b + 1) (b + 1634)) h H' := by
    intro H' e
    have E2 : eqG (SQ a sb (sb + 204)) H H' := by
      rw [e]
      repeat (first | refine eqG.tr ?_ (eqG.si ⟨rfl, by omega, by omega⟩) | exact eqG.rf)
    have gg : gS (gi H' (a + 7)) sb ((1, 8), [[[c4 s.1.2]]]) := by
      rw [e]
      refine ⟨by (repeat rw [gi_ne (Or.inr (by omega))]) <;> first | exact gi_at rfl rfl | exact gi_at rfl (by omega), by (repeat rw [gi_ne (Or.inr (by omega))]) <;> first | exact gi_at rfl rfl | exact gi_at rfl (by omega), by (repeat rw [gi_ne (Or.inr (by omega))]) <;> first | exact gi_at rfl rfl | exact gi_at rfl (by omega), fun j p hp => ?_⟩
      have := lt_of_get hp
      have j0 : j = 0 := by simp at this; omega
      subst j0
      simp only [List.getElem?_cons_zero, Option.some.injEq] at hp
      subst hp
      refine ⟨by (repeat rw [gi_ne (Or.inr (by omega))]) <;> first | exact gi_at rfl rfl | exact gi_at rfl (by omega), fun j2 al hal => ?_⟩
      have := lt_of_get hal
      have j0 : j2 = 0 := by simp at this; omega
      subst j0
      simp only [List.getElem?_cons_zero, Option.some.injEq] at hal
      subst hal
      refine ⟨by (repeat rw [gi_ne (Or.inr (by omega))]) <;> first | exact gi_at rfl rfl | exact gi_at rfl (by omega), fun j3 c hc => ?_⟩
      have := lt_of_get hc
      have j0 : j3 = 0 := by simp at this; omega
      subst j0
      simp only [List.getElem?_cons_zero, Option.some.injEq] at hc
      subst hc
      refine ⟨by (repeat rw [gi_ne (Or.inr (by omega))]) <;> first | exact gi_at rfl rfl | exact gi_at rfl (by omega), by (repeat rw [gi_ne (Or.inr (by omega))]) <;> first | exact gi_at rfl rfl | exact gi_at rfl (by omega), by (repeat rw [gi_ne (Or.inr (by omega))]) <;> first | exact gi_at rfl rfl | exact gi_at rfl (by omega), by (repeat rw [gi_ne (Or.inr (by omega))]) <;> first | exact gi_at rfl rfl | exact gi_at rfl (by omega), fun j4 y hy => ?_⟩
      have := lt_of_get hy
      have j0 : j4 = 0 := by simp [c4] at this; omega
      subst j0
      have hy2 : y = (0, s.1.2) := by simp [c4] at hy; exact hy.symm
      subst hy2
      rw [gi_at rfl (by omega)]
      simp
    rw [esb] at gg E2
    have P2 := PT_set P1 (by dsimp only; rw [List.length_eraseIdx_of_lt (by omega)]; omega) (okS_ask ⟨os.1.2.2.1, os.1.2.2.2⟩) gg E2
    rw [er_set] at P2
    exact ⟨P2, E1.tr (E2.mono (SQ.mono (by omega) (by omega)))⟩
  have KP := m_predicateAt (γ := γ) (h := si (si (si H (a + 7) sb 1) (a + 7) (sb + 1) 8) (a + 7) (sb + 2) 1) (p := sb) (k := 0)
  have KL := m_alternativeAt (γ := γ) (h := si (si (si (si H (a + 7) sb 1) (a + 7) (sb + 1) 8) (a + 7) (sb + 2) 1) (a + 7) (sb + 3 + 67 * 0) 1) (p := sb + 3 + 67 * 0) (k := 0)
  have KC := m_conditionAt (γ := γ) (h := si (si (si (si (si H (a + 7) sb 1) (a + 7) (sb + 1) 8) (a + 7) (sb + 2) 1) (a + 7) (sb + 3 + 67 * 0) 1) (a + 7) (sb + 3 + 67 * 0 + 1 + 22 * 0) 1) (p := sb + 3 + 67 * 0 + 1 + 22 * 0) (k := 0)
  refine Call.of (ls := [(0, vr (some a)), (1, vi b), (2, vi (i : Int))]) vX12_asks.1 (Nat.le_of_ble_eq_true rfl) rfl ?_
  refine aw_iload_n dX12_asks_0 rfl ?_
  refine aw_iload_n dX12_asks_1 rfl ?_
  refine aw_invS_r dX12_asks_2 sX12_stepAt kX12_165 rfl (KA) rfl rfl (by decide) (by decide) (by decide) (Nat.le_of_ble_eq_true rfl) ?_
  refine aw_istore_n (ls1 := [(3, _), (0, _), (1, _), (2, _)]) dX12_asks_5 (by decide) rfl ?_
  refine aw_aload_n dX12_asks_6 rfl ?_
  refine aw_getr' (j := 12) dX12_asks_7 fX12_28 rfl (by assumption) rfl (by assumption) ?_
  refine aw_iload_n dX12_asks_10 rfl ?_
  refine aw_iconst dX12_asks_11 ?_
  refine aw_iadd dX12_asks_12 ?_
  refine aw_iald' dX12_asks_13 (by assumption) (by omega) (by first | decide | omega) g1 ?_
  refine aw_istore (ls1 := [(4, _), (3, _), (0, _), (1, _), (2, _)]) dX12_asks_14 (by decide) rfl ?_
  refine aw_aload_n dX12_asks_16 rfl ?_
  refine aw_iload_n dX12_asks_17 rfl ?_
  refine aw_iload_n dX12_asks_18 rfl ?_
  refine aw_iconst dX12_asks_19 ?_
  refine aw_iadd dX12_asks_20 ?_
  refine aw_invV_n dX12_asks_21 vX12_removeStep kX12_297 rfl (K) ⟨_, (by assumption), _, _, rfl⟩ rfl rfl (by decide) (by decide) (by decide) (Nat.le_of_ble_eq_true rfl) ?_
  refine aw_aload_n dX12_asks_24 rfl ?_
  refine aw_getr' (j := 12) dX12_asks_25 fX12_28 rfl (by assumption) rfl (by assumption) ?_
  refine aw_iload_n dX12_asks_28 rfl ?_
  refine aw_iconst dX12_asks_29 ?_
  refine aw_iast dX12_asks_30 (by assumption) (by omega) (by first | decide | omega) ?_
  refine aw_aload_n dX12_asks_31 rfl ?_
  refine aw_getr' (j := 12) dX12_asks_32 fX12_28 rfl (by assumption) rfl (by assumption) ?_
  refine aw_iload_n dX12_asks_35 rfl ?_
  refine aw_iconst dX12_asks_36 ?_
  refine aw_iadd dX12_asks_37 ?_
  refine aw_bipush dX12_asks_38 rfl ?_
  refine aw_iast dX12_asks_40 (by assumption) (by omega) (by first | decide | omega) ?_
  refine aw_aload_n dX12_asks_41 rfl ?_
  refine aw_getr' (j := 12) dX12_asks_42 fX12_28 rfl (by assumption) rfl (by assumption) ?_
  refine aw_iload_n dX12_asks_45 rfl ?_
  refine aw_iconst dX12_asks_46 ?_
  refine aw_iadd dX12_asks_47 ?_
  refine aw_iconst dX12_asks_48 ?_
  refine aw_iast dX12_asks_49 (by assumption) (by omega) (by first | decide | omega) ?_
  refine aw_iload_n dX12_asks_50 rfl ?_
  refine aw_iconst dX12_asks_51 ?_
  refine aw_invS_r dX12_asks_52 sX12_predicateAt kX12_168 rfl (KP) rfl rfl (by decide) (by decide) (by decide) (Nat.le_of_ble_eq_true rfl) ?_
  refine aw_istore (ls1 := [(5, _), (4, _), (3, _), (0, _), (1, _), (2, _)]) dX12_asks_55 (by decide) rfl ?_
  refine aw_aload_n dX12_asks_57 rfl ?_
  refine aw_getr' (j := 12) dX12_asks_58 fX12_28 rfl (by assumption) rfl (by assumption) ?_
  refine aw_iload dX12_asks_61 rfl ?_
  refine aw_iconst dX12_asks_63 ?_
  refine aw_iast dX12_asks_64 (by assumption) (by omega) (by first | decide | omega) ?_
  refine aw_iload dX12_asks_65 rfl ?_
  refine aw_iconst dX12_asks_67 ?_
  refine aw_invS_r dX12_asks_68 sX12_alternativeAt kX12_159 rfl (KL) rfl rfl (by decide) (by decide) (by decide) (Nat.le_of_ble_eq_true rfl) ?_
  refine aw_istore (ls1 := [(6, _), (5, _), (4, _), (3, _), (0, _), (1, _), (2, _)]) dX12_asks_71 (by decide) rfl ?_
  refine aw_aload_n dX12_asks_73 rfl ?_
  refine aw_getr' (j := 12) dX12_asks_74 fX12_28 rfl (by assumption) rfl (by assumption) ?_
  refine aw_iload dX12_asks_77 rfl ?_
  refine aw_iconst dX12_asks_79 ?_
  refine aw_iast dX12_asks_80 (by assumption) (by omega) (by first | decide | omega) ?_
  refine aw_iload dX12_asks_81 rfl ?_
  refine aw_iconst dX12_asks_83 ?_
  refine aw_invS_r dX12_asks_84 sX12_conditionAt kX12_153 rfl (KC) rfl rfl (by decide) (by decide) (by decide) (Nat.le_of_ble_eq_true rfl) ?_
  refine aw_istore (ls1 := [(7, _), (6, _), (5, _), (4, _), (3, _), (0, _), (1, _), (2, _)]) dX12_asks_87 (by decide) rfl ?_
  refine aw_aload_n dX12_asks_89 rfl ?_
  refine aw_getr' (j := 12) dX12_asks_90 fX12_28 rfl (by assumption) rfl (by assumption) ?_
  refine aw_iload dX12_asks_93 rfl ?_
  refine aw_iconst dX12_asks_95 ?_
  refine aw_iast dX12_asks_96 (by assumption) (by omega) (by first | decide | omega) ?_
  refine aw_aload_n dX12_asks_97 rfl ?_
  refine aw_getr' (j := 12) dX12_asks_98 fX12_28 rfl (by assumption) rfl (by assumption) ?_
  refine aw_iload dX12_asks_101 rfl ?_
  refine aw_iconst dX12_asks_103 ?_
  refine aw_iadd dX12_asks_104 ?_
  refine aw_iconst dX12_asks_105 ?_
  refine aw_iast dX12_asks_106 (by assumption) (by omega) (by first | decide | omega) ?_
  refine aw_aload_n dX12_asks_107 rfl ?_
  refine aw_getr' (j := 12) dX12_asks_108 fX12_28 rfl (by assumption) rfl (by assumption) ?_
  refine aw_iload dX12_asks_111 rfl ?_
  refine aw_iconst dX12_asks_113 ?_
  refine aw_iadd dX12_asks_114 ?_
  refine aw_iconst dX12_asks_115 ?_
  refine aw_iast dX12_asks_116 (by assumption) (by omega) (by first | decide | omega) ?_
  refine aw_aload_n dX12_asks_117 rfl ?_
  refine aw_getr' (j := 12) dX12_asks_118 fX12_28 rfl (by assumption) rfl (by assumption) ?_
  refine aw_iload dX12_asks_121 rfl ?_
  refine aw_iconst dX12_asks_123 ?_
  refine aw_iadd dX12_asks_124 ?_
  refine aw_iconst dX12_asks_125 ?_
  refine aw_iast dX12_asks_126 (by assumption) (by omega) (by first | decide | omega) ?_
  refine aw_aload_n dX12_asks_127 rfl ?_
  refine aw_getr' (j := 12) dX12_asks_128 fX12_28 rfl (by assumption) rfl (by assumption) ?_
  refine aw_iload dX12_asks_131 rfl ?_
  refine aw_iconst dX12_asks_133 ?_
  refine aw_iadd dX12_asks_134 ?_
  refine aw_iload dX12_asks_135 rfl ?_
  refine aw_iast dX12_asks_137 (by assumption) (by omega) (by first | decide | omega) ?_
  refine aw_iconst dX12_asks_138 ?_
  exact aw_zreturn dX12_asks_139 rfl (by omega) (Or.inl rfl) ⟨rfl, fin _ rfl⟩
theorem m_gathers {γ : GG} {h : AH} {a : Nat} {b : Int} {t : TT} {i : Nat} (hM : shM h a) (hb : 1 ≤ b ∧ b + 1634 ≤ 6537) (hT : PT h a b t) {s u : TS} (hs : t.2[i]? = some s) (hu : t.2[i + 1]? = some u) (hl : s.2.length + u.2.length ≤ 3) : Call γ mX12_gathers 2 0 0 [vr (some a), vi b, vi (i : Int)] h (rE (vi 1) (fun h' => PT h' a b (t.1, (t.2.set i (s.1, s.2 ++ u.2)).eraseIdx (i + 1)) ∧ eqG (SQ a (b + 1) (b + 1634)) h h')) := by
  obtain ⟨hka, rq, kq⟩ := hM.q
  have l8 := hT.2.1
  have hi := lt_of_get hu
  obtain ⟨gs, os, -⟩ := PT_st hT hs
  obtain ⟨gu, ou, -⟩ := PT_st hT hu
  rw [show ((i + 1 : Nat) : Int) = (i : Int) + 1 by omega] at gu
  obtain ⟨sb, esb⟩ : ∃ sb, sb = b + 2 + 204 * (i : Int) := ⟨_, rfl⟩
  obtain ⟨ub, eub⟩ : ∃ ub, ub = b + 2 + 204 * ((i : Int) + 1) := ⟨_, rfl⟩
  have K1 := m_stepAt (γ := γ) (h := h) (p := b) (k := (i : Int))
  have K2 := m_stepAt (γ := γ) (h := h) (p := b) (k := (i : Int) + 1)
  have gs' := gs
  have gu' := gu
  rw [← esb] at K1 gs'
  rw [← eub] at K2 gu'
  have s2 := gs'.2.2.1
  have u2 := gu'.2.2.1
  have K3 := m_predicateAt (γ := γ) (h := h) (p := ub) (k := 0)
  have K4 := m_predicateAt (γ := γ) (h := h) (p := sb) (k := (s.2.length : Int))
  have KM := m_move (γ := γ) (F := ub + 3 + 67 * 0) (T := sb + 3 + 67 * (s.2.length : Int)) (n := 67 * u.2.length) hM (by omega) (by omega)
  have en : 67 * (u.2.length : Int) = ((67 * u.2.length : Nat) : Int) := by omega
  obtain ⟨H, eH⟩ : ∃ H, H = si (cpI h (a + 7) (ub + 3 + 67 * 0) (a + 7) (sb + 3 + 67 * (s.2.length : Int)) ((67 * u.2.length : Nat) : Int)) (a + 7) (sb + 2) ((s.2.length : Int) + (u.2.length : Int)) := ⟨_, rfl⟩
  have E1 : eqG (SQ a sb (sb + 204)) h H := by rw [eH]; exact (eqG_mv (by omega) (by omega)).tr (eqG.si ⟨rfl, by omega, by omega⟩)
  have ox : okS (s.1, s.2 ++ u.2) := okS_join os ou hl
  have gx : gS (gi H (a + 7)) sb (s.1, s.2 ++ u.2) := by
    rw [eH]
    refine ⟨(gi_ne (Or.inr (by omega))).trans ((gi_mvo (by omega)).trans gs'.1), (gi_ne (Or.inr (by omega))).trans ((gi_mvo (by omega)).trans gs'.2.1), (gi_at rfl rfl).trans (by simp), fun j p hp => ?_⟩
    by_cases q : j < s.2.length
    · rw [List.getElem?_append_left q] at hp
      exact (gs'.2.2.2 j p hp).eq (os.2.2 p (List.mem_of_getElem? hp)) (fun z z1 z2 => (gi_ne (Or.inr (by omega))).trans (gi_mvo (by omega)))
    · rw [List.getElem?_append_right (by omega)] at hp
      have := lt_of_get hp
      refine (gu'.2.2.2 _ p hp).eq (ou.2.2 p (List.mem_of_getElem? hp)) (fun z z1 z2 => (gi_ne (Or.inr (by omega))).trans ((gi_mvi (by omega) (by omega)).trans ?_))
      congr 1
      omega
  rw [esb] at gx E1
  have P1 := PT_set hT (by omega) ox gx E1
  have hM1 : shM H a := E1.sh hM
  have hi2 : i + 1 < (t.1, t.2.set i (s.1, s.2 ++ u.2)).2.length := by dsimp only; rw [List.length_set]; exact hi
  have KR := m_removeStep (γ := γ) (i := i + 1) hM1 hb P1 hi2
  rw [show ((i + 1 : Nat) : Int) = (i : Int) + 1 by omega, eH] at KR
  obtain ⟨P2, E2⟩ := PT_hRS P1 hi2
  rw [eH] at P2 E2 E1
  refine Call.of (ls := [(0, vr (some a)), (1, vi b), (2, vi (i : Int))]) vX12_gathers.1 (Nat.le_of_ble_eq_true rfl) rfl ?_
  refine aw_iload_n dX12_gathers_0 rfl ?_
  refine aw_iload_n dX12_gathers_1 rfl ?_
  refine aw_invS_r dX12_gathers_2 sX12_stepAt kX12_165 rfl (K1) rfl rfl (by decide) (by decide) (by decide) (Nat.le_of_ble_eq_true rfl) ?_
  refine aw_istore_n (ls1 := [(3, _), (0, _), (1, _), (2, _)]) dX12_gathers_5 (by decide) rfl ?_
  refine aw_iload_n dX12_gathers_6 rfl ?_
  refine aw_iload_n dX12_gathers_7 rfl ?_
  refine aw_iconst dX12_gathers_8 ?_
  refine aw_iadd dX12_gathers_9 ?_
  refine aw_invS_r dX12_gathers_10 sX12_stepAt kX12_165 rfl (K2) rfl rfl (by decide) (by decide) (by decide) (Nat.le_of_ble_eq_true rfl) ?_
  refine aw_istore (ls1 := [(4, _), (3, _), (0, _), (1, _), (2, _)]) dX12_gathers_13 (by decide) rfl ?_
  refine aw_aload_n dX12_gathers_15 rfl ?_
  refine aw_iload dX12_gathers_16 rfl ?_
  refine aw_iconst dX12_gathers_18 ?_
  refine aw_invS_r dX12_gathers_19 sX12_predicateAt kX12_168 rfl (K3) rfl rfl (by decide) (by decide) (by decide) (Nat.le_of_ble_eq_true rfl) ?_
  refine aw_iload_n dX12_gathers_22 rfl ?_
  refine aw_aload_n dX12_gathers_23 rfl ?_
  refine aw_getr' (j := 12) dX12_gathers_24 fX12_28 rfl (by assumption) rfl (by assumption) ?_
  refine aw_iload_n dX12_gathers_27 rfl ?_
  refine aw_iconst dX12_gathers_28 ?_
  refine aw_iadd dX12_gathers_29 ?_
  refine aw_iald' dX12_gathers_30 (by assumption) (by omega) (by first | decide | omega) s2 ?_
  refine aw_invS_r dX12_gathers_31 sX12_predicateAt kX12_168 rfl (K4) rfl rfl (by decide) (by decide) (by decide) (Nat.le_of_ble_eq_true rfl) ?_
  refine aw_bipush dX12_gathers_34 rfl ?_
  refine aw_aload_n dX12_gathers_36 rfl ?_
  refine aw_getr' (j := 12) dX12_gathers_37 fX12_28 rfl (by assumption) rfl (by assumption) ?_
  refine aw_iload dX12_gathers_40 rfl ?_
  refine aw_iconst dX12_gathers_42 ?_
  refine aw_iadd dX12_gathers_43 ?_
  refine aw_iald' dX12_gathers_44 (by assumption) (by omega) (by first | decide | omega) u2 ?_
  refine aw_imul dX12_gathers_45 ?_
  rw [en]
  refine aw_invV_n dX12_gathers_46 vX12_move kX12_278 rfl (KM) ⟨_, (by assumption), _, _, rfl⟩ rfl rfl (by decide) (by decide) (by decide) (Nat.le_of_ble_eq_true rfl) ?_
  refine aw_aload_n dX12_gathers_49 rfl ?_
  refine aw_getr' (j := 12) dX12_gathers_50 fX12_28 rfl (by assumption) rfl (by assumption) ?_
  refine aw_iload_n dX12_gathers_53 rfl ?_
  refine aw_iconst dX12_gathers_54 ?_
  refine aw_iadd dX12_gathers_55 ?_
  refine aw_dup2 dX12_gathers_56 rfl rfl ?_
  refine aw_iald' dX12_gathers_57 (by assumption) (by omega) (by first | decide | omega) ((gi_mvo (by omega)).trans s2) ?_
  refine aw_aload_n dX12_gathers_58 rfl ?_
  refine aw_getr' (j := 12) dX12_gathers_59 fX12_28 rfl (by assumption) rfl (by assumption) ?_
  refine aw_iload dX12_gathers_62 rfl ?_
  refine aw_iconst dX12_gathers_64 ?_
  refine aw_iadd dX12_gathers_65 ?_
  refine aw_iald' dX12_gathers_66 (by assumption) (by omega) (by first | decide | omega) ((gi_mvo (by omega)).trans u2) ?_
  refine aw_iadd dX12_gathers_67 ?_
  refine aw_iast dX12_gathers_68 (by assumption) (by omega) (by first | decide | omega) ?_
  refine aw_aload_n dX12_gathers_69 rfl ?_
  refine aw_iload_n dX12_gathers_70 rfl ?_
  refine aw_iload_n dX12_gathers_71 rfl ?_
  refine aw_iconst dX12_gathers_72 ?_
  refine aw_iadd dX12_gathers_73 ?_
  refine aw_invV_n dX12_gathers_74 vX12_removeStep kX12_297 rfl (KR) ⟨_, (by assumption), _, _, rfl⟩ rfl rfl (by decide) (by decide) (by decide) (Nat.le_of_ble_eq_true rfl) ?_
  refine aw_iconst dX12_gathers_77 ?_
  exact aw_zreturn dX12_gathers_78 rfl (by omega) (Or.inl rfl) ⟨rfl, P2, (E1.mono (SQ.mono (by omega) (by omega))).tr E2⟩
