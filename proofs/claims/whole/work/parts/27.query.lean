/-! ===== Query ===== -/
def shQ (h : AH) (a : Nat) (π : Nat → Nat) (ρ : Nat → Nat → Nat) : Prop := kd h a = some (.inl 4) ∧ gr h a 1 = some (a + 1) ∧ kd h (a + 1) = some (.inr (4, 4)) ∧ pm 4 π ∧ (∀ i : Nat, i < 4 → gr h (a + 1) i = some (a + 2 + 18 * π i)) ∧ ∀ i, i < 4 → shP h (a + 2 + 18 * i) (ρ i)
def isQ (h : AH) (a : Nat) (π : Nat → Nat) (ρ : Nat → Nat → Nat) (q : TQ) : Prop := shQ h a π ρ ∧ gi h a 0 = q.length ∧ q.length ≤ 4 ∧ ∀ i t, q[i]? = some t → isP h (a + 2 + 18 * π i) (ρ (π i)) t
theorem shQ.eq {h h' : AH} {a : Nat} {π : Nat → Nat} {ρ : Nat → Nat → Nat} (hs : shQ h a π ρ) (e : ∀ b, a ≤ b → b < a + 74 → eqA h h' b) : shQ h' a π ρ :=
  ⟨((e a (by omega) (by omega)).1).trans hs.1, (((e a (by omega) (by omega)).2 1).2.2).trans hs.2.1, ((e (a + 1) (by omega) (by omega)).1).trans hs.2.2.1, hs.2.2.2.1, fun i hi => (((e (a + 1) (by omega) (by omega)).2 i).2.2).trans (hs.2.2.2.2.1 i hi), fun i hi => (hs.2.2.2.2.2 i hi).eq (fun b b1 b2 => e b (by omega) (by omega))⟩
theorem isQ.eq {h h' : AH} {a : Nat} {π : Nat → Nat} {ρ : Nat → Nat → Nat} {q : TQ} (hs : isQ h a π ρ q) (e : ∀ b, a ≤ b → b < a + 74 → eqA h h' b) : isQ h' a π ρ q := by
  refine ⟨hs.1.eq e, (((e a (by omega) (by omega)).2 0).1).trans hs.2.1, hs.2.2.1, fun i t hi => ?_⟩
  have l := (List.getElem?_eq_some_iff.mp hi).1
  have := hs.1.2.2.2.1.1 i (by have := hs.2.2.1; omega)
  exact (hs.2.2.2 i t hi).eq (fun b b1 b2 => e b (by omega) (by omega))
def uqs (ρ : Nat → Nat → Nat) (m : Nat) (r : Nat → Nat) : Nat → Nat → Nat := fun k => if k = m then r else ρ k
theorem uqs_at {ρ : Nat → Nat → Nat} {m : Nat} {r : Nat → Nat} : uqs ρ m r m = r := by unfold uqs; rw [if_pos rfl]
theorem uqs_ne {ρ : Nat → Nat → Nat} {m k : Nat} {r : Nat → Nat} (h : k ≠ m) : uqs ρ m r k = ρ k := by unfold uqs; rw [if_neg h]
theorem uqs_id (ρ : Nat → Nat → Nat) (m : Nat) : uqs ρ m (ρ m) = ρ := by funext k; unfold uqs; split <;> simp_all
theorem shQ.set {h h' : AH} {a m : Nat} {π r : Nat → Nat} {ρ : Nat → Nat → Nat} (hs : shQ h a π ρ) (hm : m < 4) (hS : shP h' (a + 2 + 18 * m) r) (e : eqO h h' (a + 2 + 18 * m) (a + 2 + 18 * m + 18)) : shQ h' a π (uqs ρ m r) := by
  have e0 := e.2 a (by omega)
  have e1 := e.2 (a + 1) (by omega)
  refine ⟨e0.1.trans hs.1, ((e0.2 1).2.2).trans hs.2.1, e1.1.trans hs.2.2.1, hs.2.2.2.1, fun i hi => ((e1.2 i).2.2).trans (hs.2.2.2.2.1 i hi), fun i hi => ?_⟩
  by_cases q : i = m
  · rw [q, uqs_at]; exact hS
  · rw [uqs_ne q]; exact (hs.2.2.2.2.2 i hi).eq (fun b b1 b2 => e.2 b (by omega))
theorem isQ.set {h h' : AH} {a i : Nat} {π r : Nat → Nat} {ρ : Nat → Nat → Nat} {q : TQ} {t : TT} (hs : isQ h a π ρ q) (hi : i < q.length) (hS : isP h' (a + 2 + 18 * π i) r t) (e : eqO h h' (a + 2 + 18 * π i) (a + 2 + 18 * π i + 18)) : isQ h' a π (uqs ρ (π i) r) (q.set i t) := by
  have hp := hs.1.2.2.2.1
  have hl := hs.2.2.1
  have hpi := hp.1 i (by omega)
  have e0 := e.2 a (by omega)
  refine ⟨hs.1.set hpi hS.1 e, ?_, by rw [List.length_set]; exact hl, fun j x hj => ?_⟩
  · rw [List.length_set]
    exact ((e0.2 0).1).trans hs.2.1
  · have lj := (List.getElem?_eq_some_iff.mp hj).1
    rw [List.length_set] at lj
    by_cases q9 : j = i
    · subst q9
      rw [List.getElem?_set_self hi] at hj
      rw [← Option.some.inj hj, uqs_at]
      exact hS
    · rw [List.getElem?_set_ne (fun z => q9 z.symm)] at hj
      have q2 : π j ≠ π i := fun z => q9 (hp.2 j i (by omega) (by omega) z)
      rw [uqs_ne q2]
      exact (hs.2.2.2 j x hj).eq (fun b b1 b2 => e.2 b (by omega))
/-- one more path, in a cell that was free -/
theorem isQ.add {h h' : AH} {a : Nat} {π r : Nat → Nat} {ρ : Nat → Nat → Nat} {q : TQ} {t : TT} (hs : isQ h a π ρ q) (hl : q.length < 4) (hS : isP h' (a + 2 + 18 * π q.length) r t) (e : eqO h h' (a + 2 + 18 * π q.length) (a + 2 + 18 * π q.length + 18)) : isQ (si h' a 0 (q.length + 1)) a π (uqs ρ (π q.length) r) (q ++ [t]) := by
  have hp := hs.1.2.2.2.1
  have hpi := hp.1 _ hl
  have h1 := hs.1.set hpi hS.1 e
  have hne : ∀ b, b ≠ a → eqA h' (si h' a 0 (q.length + 1)) b := fun b hb => eqA.si (fun z => hb z)
  refine ⟨⟨h1.1, h1.2.1, h1.2.2.1, h1.2.2.2.1, h1.2.2.2.2.1, fun i hi => (h1.2.2.2.2.2 i hi).eq (fun b b1 b2 => hne b (by omega))⟩, ?_, by simp; omega, fun j x hj => ?_⟩
  · rw [gi_at rfl rfl]; simp
  · have lj := (List.getElem?_eq_some_iff.mp hj).1
    simp only [List.length_append, List.length_singleton] at lj
    by_cases q9 : j = q.length
    · subst q9
      rw [List.getElem?_append_right (by omega)] at hj
      simp only [Nat.sub_self, List.getElem?_cons_zero, Option.some.injEq] at hj
      rw [← hj, uqs_at]
      exact hS.eq (fun b b1 b2 => hne b (by omega))
    · rw [List.getElem?_append_left (by omega)] at hj
      have q2 : π j ≠ π q.length := fun z => q9 (hp.2 j _ (by omega) (by omega) z)
      rw [uqs_ne q2]
      exact ((hs.2.2.2 j x hj).eq (fun b b1 b2 => e.2 b (by omega))).eq (fun b b1 b2 => hne b (by omega))
theorem c_qfull {γ : GG} {h : AH} {a : Nat} {π : Nat → Nat} {ρ : Nat → Nat → Nat} {q : TQ} (hQ : isQ h a π ρ q) : Call γ mX5_isFull 0 0 0 [vr (some a)] h (rV (vi (if q.length = 4 then 1 else 0)) h) := by
  obtain ⟨⟨hk, hr, hk1, hπ, hrf, hst⟩, h0, hl4, hss⟩ := hQ
  refine Call.of (ls := [(0, vr (some a))]) vX5_isFull.1 (Nat.le_of_ble_eq_true rfl) rfl ?_
  refine aw_aload_n dX5_isFull_0 rfl ?_
  refine aw_geti' (j := 0) dX5_isFull_1 fX5_9 rfl (by assumption) rfl h0 ?_
  refine aw_iconst dX5_isFull_4 ?_
  refine aw_ic_lt (tgt := 12) dX5_isFull_5 rfl (by omega) (by omega) (fun c5 => ?_) (fun c5 => ?_)
  · refine aw_iconst dX5_isFull_12 ?_
    exact aw_zreturn dX5_isFull_13 rfl (by omega) (Or.inl rfl) ⟨by congr 3; first | (rw [if_pos (by omega)]; done) | (rw [if_neg (by omega)]), rfl⟩
  · refine aw_iconst dX5_isFull_8 ?_
    refine aw_goto (tgt := 13) dX5_isFull_9 rfl ?_
    exact aw_zreturn dX5_isFull_13 rfl (by omega) (Or.inl rfl) ⟨by congr 3; first | (rw [if_pos (by omega)]; done) | (rw [if_neg (by omega)]), rfl⟩
theorem c_qadd {γ : GG} {h : AH} {a : Nat} {π : Nat → Nat} {ρ : Nat → Nat → Nat} {q : TQ} (hQ : isQ h a π ρ q) (hl : q.length < 4) : Call γ mX5_addPath 1 0 0 [vr (some a)] h (rV (vr (some (a + 2 + 18 * π q.length))) (si (si (si h (a + 2 + 18 * π q.length) 0 0) (a + 2 + 18 * π q.length) 1 0) a 0 (q.length + 1))) := by
  obtain ⟨⟨hk, hr, hk1, hπ, hrf, hst⟩, h0, hl4, hss⟩ := hQ
  have hs := hst (π q.length) (hπ.1 _ hl)
  have hs1 := hs.1
  have e1 : min (q.length : Int) 3 = q.length := by omega
  have e2 : min ((q.length : Int) + 1) 4 = q.length + 1 := by omega
  have g2 : gi (si (si h (a + 2 + 18 * π q.length) 0 0) (a + 2 + 18 * π q.length) 1 0) a 0 = q.length := by rw [gi_ne (Or.inl (by omega)), gi_ne (Or.inl (by omega))]; exact h0
  refine Call.of (ls := [(0, vr (some a))]) vX5_addPath.1 (Nat.le_of_ble_eq_true rfl) rfl ?_
  refine aw_aload_n dX5_addPath_0 rfl ?_
  refine aw_getr' (j := 1) dX5_addPath_1 fX5_17 rfl (by assumption) rfl (by first | assumption | exact hrf _ hl) ?_
  refine aw_aload_n dX5_addPath_4 rfl ?_
  refine aw_geti' (j := 0) dX5_addPath_5 fX5_9 rfl (by assumption) rfl h0 ?_
  refine aw_iconst dX5_addPath_8 ?_
  refine aw_min dX5_addPath_9 uX5_30 (by omega) (by omega) (by decide) (Nat.le_of_ble_eq_true rfl) ?_
  rw [e1]
  refine aw_aald4' dX5_addPath_12 (by assumption) (by omega) (by first | decide | omega) (hrf _ hl) ?_
  refine aw_astore_n (ls1 := [(1, _), (0, _)]) dX5_addPath_13 (by decide) rfl ?_
  refine aw_aload_n dX5_addPath_14 rfl ?_
  refine aw_invV_n dX5_addPath_15 vX4_begin kX5_36 rfl (c_pbegin hs) ⟨_, (by assumption), _, _, rfl⟩ rfl rfl (by decide) (by decide) (by decide) (Nat.le_of_ble_eq_true rfl) ?_
  refine aw_aload_n dX5_addPath_18 rfl ?_
  refine aw_aload_n dX5_addPath_19 rfl ?_
  refine aw_geti' (j := 0) dX5_addPath_20 fX5_9 rfl (by exact hk) rfl g2 ?_
  refine aw_iconst dX5_addPath_23 ?_
  refine aw_iadd dX5_addPath_24 ?_
  refine aw_iconst dX5_addPath_25 ?_
  refine aw_min dX5_addPath_26 uX5_30 (by omega) (by omega) (by decide) (Nat.le_of_ble_eq_true rfl) ?_
  rw [e2]
  refine aw_puti' (j := 0) rfl dX5_addPath_29 fX5_9 (by exact hk) rfl ?_
  refine aw_aload_n dX5_addPath_32 rfl ?_
  exact aw_areturn dX5_addPath_33 rfl (by first | exact Or.inl ⟨_, rfl⟩ | exact Or.inr ⟨_, rfl⟩) (Or.inl rfl) ⟨rfl, rfl⟩
def hRmQ (h : AH) (a i l v : Nat) : AH := si (sr (hRot h (a + 1) (i : Int) (l : Int)) (a + 1) (l : Int) (some v)) a 0 (l : Int)
theorem l_qrm {γ : GG} {h : AH} {a i : Nat} {π : Nat → Nat} {ρ : Nat → Nat → Nat} {q : TQ} (hQ : isQ h a π ρ q) (hi : i < q.length) : ∀ (m k : Nat), i ≤ k → k + m + 1 = q.length → AW γ mX5_removePath 0 0 0 30 [(0, vr (some a)), (1, vi (i : Int)), (2, vr (some (a + 2 + 18 * π i))), (3, vi (k : Int))] [] (hRot h (a + 1) (i : Int) (k : Int)) (rN (hRmQ h a i (q.length - 1) (a + 2 + 18 * π i))) := by
  obtain ⟨⟨hk, hr, hk1, hπ, hrf, hst⟩, h0, hl4, hss⟩ := hQ
  intro m
  induction m with
  | zero =>
    intro k hik hkm
    have ek : (q.length : Int) - 1 = (k : Int) := by omega
    rw [show q.length - 1 = k by omega]
    have hs := (hst (π i) (hπ.1 _ (by omega))).1
    have hr9 : gr (hRot h (a + 1) (i : Int) (k : Int)) a 1 = some (a + 1) := by rw [gr_hRot, if_neg (by omega)]; exact hr
    refine aw_iload_n dX5_removePath_30 rfl ?_
    refine aw_iconst dX5_removePath_31 ?_
    refine aw_iadd dX5_removePath_32 ?_
    refine aw_aload_n dX5_removePath_33 rfl ?_
    refine aw_geti' (j := 0) dX5_removePath_34 fX5_9 rfl (by first | assumption | exact hk | exact hk1) rfl h0 ?_
    refine aw_ic_ge (tgt := 60) dX5_removePath_37 rfl (by omega) (by omega) (fun c37 => ?_) (fun c37 => ?_)
    · refine aw_aload_n dX5_removePath_60 rfl ?_
      refine aw_getr' (j := 1) dX5_removePath_61 fX5_17 rfl (by first | assumption | exact hk | exact hk1) rfl (by first | assumption | exact hr) ?_
      refine aw_aload_n dX5_removePath_64 rfl ?_
      refine aw_geti' (j := 0) dX5_removePath_65 fX5_9 rfl (by first | assumption | exact hk | exact hk1) rfl h0 ?_
      refine aw_iconst dX5_removePath_68 ?_
      refine aw_isub dX5_removePath_69 ?_
      rw [ek]
      refine aw_aload_n dX5_removePath_70 rfl ?_
      refine aw_aast4 dX5_removePath_71 (by first | assumption | exact hk | exact hk1) (by omega) (by first | decide | omega) (by exact hs) ?_
      refine aw_aload_n dX5_removePath_72 rfl ?_
      refine aw_dup dX5_removePath_73 rfl ?_
      refine aw_geti' (j := 0) dX5_removePath_74 fX5_9 rfl (by first | assumption | exact hk | exact hk1) rfl h0 ?_
      refine aw_iconst dX5_removePath_77 ?_
      refine aw_isub dX5_removePath_78 ?_
      rw [ek]
      refine aw_puti' (j := 0) rfl dX5_removePath_79 fX5_9 (by first | assumption | exact hk | exact hk1) rfl ?_
      exact aw_return dX5_removePath_82 rfl (Or.inl rfl) ⟨rfl, rfl⟩
    · exact absurd c37 (by omega)
  | succ m ih =>
    intro k hik hkm
    have ih' := ih (k + 1) (by omega) (by omega)
    have hs := (hst (π (k + 1)) (hπ.1 _ (by omega))).1
    have hr9 : gr (hRot h (a + 1) (i : Int) (k : Int)) a 1 = some (a + 1) := by rw [gr_hRot, if_neg (by omega)]; exact hr
    have g1 : gr (hRot h (a + 1) (i : Int) (k : Int)) (a + 1) ((k : Int) + 1) = some (a + 2 + 18 * π (k + 1)) := by
      rw [gr_hRot, if_neg (by omega)]
      exact hrf (k + 1) (by omega)
    have e9 : sr (hRot h (a + 1) (i : Int) (k : Int)) (a + 1) (k : Int) (some (a + 2 + 18 * π (k + 1))) = hRot h (a + 1) (i : Int) ((k + 1 : Nat) : Int) := hRot_s (by omega) (hrf (k + 1) (by omega)).symm
    refine aw_iload_n dX5_removePath_30 rfl ?_
    refine aw_iconst dX5_removePath_31 ?_
    refine aw_iadd dX5_removePath_32 ?_
    refine aw_aload_n dX5_removePath_33 rfl ?_
    refine aw_geti' (j := 0) dX5_removePath_34 fX5_9 rfl (by first | assumption | exact hk | exact hk1) rfl h0 ?_
    refine aw_ic_ge (tgt := 60) dX5_removePath_37 rfl (by omega) (by omega) (fun c37 => ?_) (fun c37 => ?_)
    · exact absurd c37 (by omega)
    · refine aw_aload_n dX5_removePath_40 rfl ?_
      refine aw_getr' (j := 1) dX5_removePath_41 fX5_17 rfl (by first | assumption | exact hk | exact hk1) rfl (by first | assumption | exact g1 | exact hr) ?_
      refine aw_iload_n dX5_removePath_44 rfl ?_
      refine aw_aload_n dX5_removePath_45 rfl ?_
      refine aw_getr' (j := 1) dX5_removePath_46 fX5_17 rfl (by first | assumption | exact hk | exact hk1) rfl (by first | assumption | exact g1 | exact hr) ?_
      refine aw_iload_n dX5_removePath_49 rfl ?_
      refine aw_iconst dX5_removePath_50 ?_
      refine aw_iadd dX5_removePath_51 ?_
      refine aw_aald4' dX5_removePath_52 (by first | assumption | exact hk | exact hk1) (by omega) (by first | decide | omega) g1 ?_
      refine aw_aast4 dX5_removePath_53 (by first | assumption | exact hk | exact hk1) (by omega) (by first | decide | omega) (by exact hs) ?_
      refine aw_iinc (k9 := 3) (ls1 := [(3, _), (0, _), (1, _), (2, _)]) dX5_removePath_54 rfl (by decide) rfl ?_
      refine aw_goto (tgt := 30) dX5_removePath_57 rfl ?_
      refine aw_sub [1, 2, 3, 0] rfl ?_
      refine aw_eqh e9 ?_
      exact ih'
theorem c_qrm {γ : GG} {h : AH} {a i : Nat} {π : Nat → Nat} {ρ : Nat → Nat → Nat} {q : TQ} (hQ : isQ h a π ρ q) (hi : i < q.length) : Call γ mX5_removePath 0 0 0 [vr (some a), vi (i : Int)] h (rN (hRmQ h a i (q.length - 1) (a + 2 + 18 * π i))) := by
  have K := l_qrm (γ := γ) hQ hi (q.length - 1 - i) i (by omega) (by omega)
  rw [hRot_0] at K
  obtain ⟨⟨hk, hr, hk1, hπ, hrf, hst⟩, h0, hl4, hss⟩ := hQ
  refine Call.of (ls := [(0, vr (some a)), (1, vi (i : Int))]) vX5_removePath.1 (Nat.le_of_ble_eq_true rfl) rfl ?_
  refine aw_iload_n dX5_removePath_0 rfl ?_
  refine aw_if_lt (tgt := 20) dX5_removePath_1 rfl (by omega) (fun c1 => ?_) (fun c1 => ?_)
  · exact absurd c1 (by omega)
  · refine aw_iload_n dX5_removePath_4 rfl ?_
    refine aw_aload_n dX5_removePath_5 rfl ?_
    refine aw_geti' (j := 0) dX5_removePath_6 fX5_9 rfl (by assumption) rfl h0 ?_
    refine aw_ic_ge (tgt := 20) dX5_removePath_9 rfl (by omega) (by omega) (fun c9 => ?_) (fun c9 => ?_)
    · exact absurd c9 (by omega)
    · refine aw_aload_n dX5_removePath_12 rfl ?_
      refine aw_geti' (j := 0) dX5_removePath_13 fX5_9 rfl (by assumption) rfl h0 ?_
      refine aw_iconst dX5_removePath_16 ?_
      refine aw_ic_le (tgt := 21) dX5_removePath_17 rfl (by omega) (by omega) (fun c17 => ?_) (fun c17 => ?_)
      · refine aw_aload_n dX5_removePath_21 rfl ?_
        refine aw_getr' (j := 1) dX5_removePath_22 fX5_17 rfl (by assumption) rfl (by first | assumption | exact hrf i (by omega)) ?_
        refine aw_iload_n dX5_removePath_25 rfl ?_
        refine aw_aald4' dX5_removePath_26 (by assumption) (by omega) (by first | decide | omega) (hrf i (by omega)) ?_
        refine aw_astore_n (ls1 := [(2, _), (0, _), (1, _)]) dX5_removePath_27 (by decide) rfl ?_
        refine aw_iload_n dX5_removePath_28 rfl ?_
        refine aw_istore_n (ls1 := [(3, _), (2, _), (0, _), (1, _)]) dX5_removePath_29 (by decide) rfl ?_
        refine aw_sub [2, 3, 1, 0] rfl ?_
        exact K
      · exact absurd c17 (by omega)
theorem isQ_rm {h : AH} {a i : Nat} {π : Nat → Nat} {ρ : Nat → Nat → Nat} {q : TQ} (hQ : isQ h a π ρ q) (hi : i < q.length) : isQ (hRmQ h a i (q.length - 1) (a + 2 + 18 * π i)) a (rot π i (q.length - 1)) ρ (q.eraseIdx i) ∧ eqO h (hRmQ h a i (q.length - 1) (a + 2 + 18 * π i)) a (a + 2) := by
  obtain ⟨⟨hk, hr, hk1, hπ, hrf, hst⟩, h0, hl4, hss⟩ := hQ
  obtain ⟨l, hl⟩ : ∃ l, q.length = l + 1 := ⟨q.length - 1, by omega⟩
  have hle := List.length_eraseIdx_of_lt hi
  rw [hl, Nat.add_sub_cancel]
  have hne : ∀ b, b ≠ a → b ≠ a + 1 → eqA h (hRmQ h a i l (a + 2 + 18 * π i)) b := fun b hb hb1 => by
    refine ⟨rfl, fun k => ⟨?_, rfl, ?_⟩⟩
    · unfold hRmQ; rw [gi_ne (Or.inl hb)]; rfl
    · show gr (sr (hRot h (a + 1) (i : Int) (l : Int)) (a + 1) (l : Int) _) b k = _
      rw [gr_ne (Or.inl hb1), gr_hRot, if_neg (fun z => hb1 z.1)]
  have g1 : ∀ j : Nat, j < 4 → gr (hRmQ h a i l (a + 2 + 18 * π i)) (a + 1) j = some (a + 2 + 18 * rot π i l j) := fun j hj => by
    show gr (sr (hRot h (a + 1) (i : Int) (l : Int)) (a + 1) (l : Int) _) (a + 1) j = _
    unfold rot
    by_cases q9 : j = l
    · rw [gr_at rfl (by omega), if_neg (by omega), if_pos q9]
    · rw [gr_ne (Or.inr (by omega)), gr_hRot]
      by_cases q2 : i ≤ j ∧ j < l
      · rw [if_pos ⟨rfl, by omega, by omega⟩, if_pos q2]
        exact hrf (j + 1) (by omega)
      · rw [if_neg (by omega), if_neg q2, if_neg q9]
        exact hrf j hj
  refine ⟨⟨⟨hk, ?_, hk1, pm_rot hπ (by omega) (by omega), g1, fun j hj => (hst j hj).eq (fun b b1 b2 => hne b (by omega) (by omega))⟩, ?_, by omega, fun j s hj => ?_⟩, rfl, fun b hb => hne b (by omega) (by omega)⟩
  · show gr (sr (hRot h (a + 1) (i : Int) (l : Int)) (a + 1) (l : Int) _) a 1 = _
    rw [gr_ne (Or.inl (by omega)), gr_hRot, if_neg (by omega)]; exact hr
  · unfold hRmQ; rw [gi_at rfl rfl]; omega
  · have lj := (List.getElem?_eq_some_iff.mp hj).1
    rw [List.getElem?_eraseIdx] at hj
    by_cases q9 : j < i
    · rw [if_pos q9] at hj
      have e : rot π i l j = π j := by unfold rot; rw [if_neg (by omega), if_neg (by omega)]
      rw [e]
      exact (hss j s hj).eq (fun b b1 b2 => hne b (by omega) (by omega))
    · rw [if_neg q9] at hj
      have e : rot π i l j = π (j + 1) := by unfold rot; rw [if_pos (by omega)]
      rw [e]
      exact (hss _ s hj).eq (fun b b1 b2 => hne b (by omega) (by omega))
