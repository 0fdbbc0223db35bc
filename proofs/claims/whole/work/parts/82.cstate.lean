/-! ===== State ===== -/
def shSt (h : AH) (s : Nat) : Prop := kd h s = some (.inl 6) ∧ gr h s 0 = some (s + 1) ∧ gr h s 1 = some (s + 11) ∧ kd h (s + 11) = some (.inr (5, 4)) ∧ shTr h (s + 1) ∧ ∀ p : Nat, p < 4 → gr h (s + 11) p = some (s + 12 + 74 * p) ∧ ∃ π ρ, shQ h (s + 12 + 74 * p) π ρ
def isSt (h : AH) (s : Nat) (S : St) : Prop := shSt h s ∧ isTr h (s + 1) S.1 ∧ ∀ p : Nat, p < 4 → ∃ π ρ, isQ h (s + 12 + 74 * p) π ρ (S.2 p)
theorem shSt.eq {h h' : AH} {s : Nat} (hs : shSt h s) (e : ∀ b, s ≤ b → b < s + 308 → eqA h h' b) : shSt h' s := by
  obtain ⟨h1, h2, h3, h4, h5, h6⟩ := hs
  refine ⟨(e s (by omega) (by omega)).1.trans h1, ((e s (by omega) (by omega)).2 0).2.2.trans h2, ((e s (by omega) (by omega)).2 1).2.2.trans h3, (e (s + 11) (by omega) (by omega)).1.trans h4, h5.eq (fun b b1 b2 => e b (by omega) (by omega)), fun p hp => ?_⟩
  obtain ⟨a1, π, ρ, a2⟩ := h6 p hp
  exact ⟨((e (s + 11) (by omega) (by omega)).2 p).2.2.trans a1, π, ρ, a2.eq (fun b b1 b2 => e b (by omega) (by omega))⟩
theorem isSt.eq {h h' : AH} {s : Nat} {S : St} (hs : isSt h s S) (e : ∀ b, s ≤ b → b < s + 308 → eqA h h' b) : isSt h' s S := by
  obtain ⟨h1, h2, h3⟩ := hs
  refine ⟨h1.eq e, h2.eq (fun b b1 b2 => e b (by omega) (by omega)), fun p hp => ?_⟩
  obtain ⟨π, ρ, a2⟩ := h3 p hp
  exact ⟨π, ρ, a2.eq (fun b b1 b2 => e b (by omega) (by omega))⟩
theorem shSt.q {h h' : AH} {s p : Nat} {π : Nat → Nat} {ρ : Nat → Nat → Nat} (hs : shSt h s) (hp : p < 4) (hq : shQ h' (s + 12 + 74 * p) π ρ) (e : eqO h h' (s + 12 + 74 * p) (s + 12 + 74 * p + 74)) : shSt h' s := by
  obtain ⟨h1, h2, h3, h4, h5, h6⟩ := hs
  refine ⟨(e.2 s (by omega)).1.trans h1, ((e.2 s (by omega)).2 0).2.2.trans h2, ((e.2 s (by omega)).2 1).2.2.trans h3, (e.2 (s + 11) (by omega)).1.trans h4, h5.eq (fun b b1 b2 => e.2 b (by omega)), fun j hj => ?_⟩
  obtain ⟨a1, π2, ρ2, a2⟩ := h6 j hj
  refine ⟨((e.2 (s + 11) (by omega)).2 j).2.2.trans a1, ?_⟩
  by_cases q : j = p
  · subst q; exact ⟨π, ρ, hq⟩
  · exact ⟨π2, ρ2, a2.eq (fun b b1 b2 => e.2 b (by omega))⟩
theorem isSt.q {h h' : AH} {s p : Nat} {π : Nat → Nat} {ρ : Nat → Nat → Nat} {S : St} {q : TQ} (hs : isSt h s S) (hp : p < 4) (hq : isQ h' (s + 12 + 74 * p) π ρ q) (e : eqO h h' (s + 12 + 74 * p) (s + 12 + 74 * p + 74)) : isSt h' s (S.1, fun j => if j = p then q else S.2 j) := by
  obtain ⟨h1, h2, h3⟩ := hs
  refine ⟨h1.q hp hq.1 e, h2.eq (fun b b1 b2 => e.2 b (by omega)), fun j hj => ?_⟩
  obtain ⟨π2, ρ2, a2⟩ := h3 j hj
  by_cases y : j = p
  · subst y
    refine ⟨π, ρ, ?_⟩
    show isQ h' _ π ρ (if j = j then q else S.2 j)
    rw [if_pos rfl]
    exact hq
  · refine ⟨π2, ρ2, ?_⟩
    show isQ h' _ π2 ρ2 (if j = p then q else S.2 j)
    rw [if_neg y]
    exact a2.eq (fun b b1 b2 => e.2 b (by omega))
theorem isSt.t {h h' : AH} {s : Nat} {S : St} {T : Tr} (hs : isSt h s S) (hT : isTr h' (s + 1) T) (e : eqO h h' (s + 1) (s + 11)) : isSt h' s (T, S.2) := by
  obtain ⟨⟨h1, h2, h3, h4, h5, h6⟩, h7, h8⟩ := hs
  refine ⟨⟨(e.2 s (by omega)).1.trans h1, ((e.2 s (by omega)).2 0).2.2.trans h2, ((e.2 s (by omega)).2 1).2.2.trans h3, (e.2 (s + 11) (by omega)).1.trans h4, hT.1, fun j hj => ?_⟩, hT, fun j hj => ?_⟩
  · obtain ⟨a1, π2, ρ2, a2⟩ := h6 j hj
    exact ⟨((e.2 (s + 11) (by omega)).2 j).2.2.trans a1, π2, ρ2, a2.eq (fun b b1 b2 => e.2 b (by omega))⟩
  · obtain ⟨π2, ρ2, a2⟩ := h8 j hj
    exact ⟨π2, ρ2, a2.eq (fun b b1 b2 => e.2 b (by omega))⟩
theorem l_stc {γ : GG} {s b : Nat} {S : St} {h : AH} (hab : s + 308 ≤ b ∨ b + 308 ≤ s) : ∀ (m p : Nat) (H : AH), p + m = 4 → eqO h H s (s + 308) → shSt H s → isTr H (s + 1) S.1 → isSt H b S → (∀ j : Nat, j < p → ∃ π ρ, isQ H (s + 12 + 74 * j) π ρ (S.2 j)) → AW γ mX7_copyFrom 5 0 0 13 [(2, vi (p : Int)), (0, vr (some s)), (1, vr (some b))] [] H (rF (fun h' => isSt h' s S ∧ eqO h h' s (s + 308))) := by
  intro m
  induction m with
  | zero =>
    intro p H hp hE hS hT hB hj
    obtain rfl : p = 4 := by omega
    refine aw_iload_n dX7_copyFrom_13 rfl ?_
    refine aw_iconst dX7_copyFrom_14 ?_
    refine aw_ic_ge (tgt := 39) dX7_copyFrom_15 rfl (by omega) (by omega) (fun c15 => ?_) (fun c15 => ?_)
    · exact aw_return dX7_copyFrom_39 rfl (Or.inl rfl) ⟨rfl, ⟨hS, hT, hj⟩, hE⟩
    · exact absurd c15 (by omega)
  | succ m ih =>
    intro p H hp hE hS hT hB hj
    have hS' := hS
    have hB' := hB
    obtain ⟨h1, h2, h3, h4, h5, h6⟩ := hS'
    obtain ⟨a1, π, ρ, a2⟩ := h6 p (by omega)
    obtain ⟨⟨b1, b2, b3, b4, b5, b6⟩, b7, b8⟩ := hB'
    obtain ⟨g1, -⟩ := b6 p (by omega)
    obtain ⟨πb, ρb, g2⟩ := b8 p (by omega)
    have CQ := c_qcopy (γ := γ) a2 g2 (by omega)
    obtain ⟨hka, -⟩ := a2
    refine aw_iload_n dX7_copyFrom_13 rfl ?_
    refine aw_iconst dX7_copyFrom_14 ?_
    refine aw_ic_ge (tgt := 39) dX7_copyFrom_15 rfl (by omega) (by omega) (fun c15 => ?_) (fun c15 => ?_)
    · exact absurd c15 (by omega)
    · refine aw_aload_n dX7_copyFrom_18 rfl ?_
      refine aw_getr' (j := 1) dX7_copyFrom_19 fX7_20 rfl (by assumption) rfl (by assumption) ?_
      refine aw_iload_n dX7_copyFrom_22 rfl ?_
      refine aw_aald5' dX7_copyFrom_23 (by assumption) (by omega) (by first | decide | omega) a1 ?_
      refine aw_aload_n dX7_copyFrom_24 rfl ?_
      refine aw_getr' (j := 1) dX7_copyFrom_25 fX7_20 rfl (by assumption) rfl (by assumption) ?_
      refine aw_iload_n dX7_copyFrom_28 rfl ?_
      refine aw_aald5' dX7_copyFrom_29 (by assumption) (by omega) (by first | decide | omega) g1 ?_
      refine aw_invV_f dX7_copyFrom_30 vX5_copyFrom kX7_29 rfl (CQ) ⟨_, (by assumption), _, _, rfl⟩ rfl rfl (by decide) (by decide) (by decide) (Nat.le_of_ble_eq_true rfl) (fun H1 hP9 => ?_)
      obtain ⟨Q1, E1⟩ := hP9
      refine aw_iinc (k9 := 0) (ls1 := [(2, _), (0, _), (1, _)]) dX7_copyFrom_33 rfl (by decide) rfl ?_
      refine aw_goto (tgt := 13) dX7_copyFrom_36 rfl ?_
      refine aw_sub [0, 1, 2] rfl ?_
      refine ih (p + 1) H1 (by omega) (hE.tr (E1.mono (by omega) (by omega))) (hS.q (by omega) Q1.1 E1) (hT.eq (fun c c1 c2 => E1.2 c (by omega))) (hB.eq (fun c c1 c2 => E1.2 c (by omega))) (fun j hj2 => ?_)
      by_cases q : j = p
      · subst q; exact ⟨π, ρ, Q1⟩
      · obtain ⟨π2, ρ2, y⟩ := hj j (by omega)
        exact ⟨π2, ρ2, y.eq (fun c c1 c2 => E1.2 c (by omega))⟩
theorem c_stcopy {γ : GG} {s b : Nat} {S : St} {h : AH} (hS : shSt h s) (hB : isSt h b S) (hn : tn S.1 ≤ 40) (hab : s + 308 ≤ b ∨ b + 308 ≤ s) : Call γ mX7_copyFrom 5 0 0 [vr (some s), vr (some b)] h (rF (fun h' => isSt h' s S ∧ eqO h h' s (s + 308))) := by
  have hS' := hS
  have hB' := hB
  obtain ⟨h1, h2, h3, h4, h5, h6⟩ := hS'
  obtain ⟨⟨b1, b2, b3, b4, b5, b6⟩, b7, b8⟩ := hB'
  have CT := c_tcopy (γ := γ) h5 b5 (by omega)
  obtain ⟨T1, E1⟩ := isTr_copy h5 b7 hn (by omega)
  obtain ⟨ht, -⟩ := h5
  have hS2 : shSt (hCT h (s + 1) (b + 1)) s := by
    refine ⟨(E1.2 s (by omega)).1.trans h1, ((E1.2 s (by omega)).2 0).2.2.trans h2, ((E1.2 s (by omega)).2 1).2.2.trans h3, (E1.2 (s + 11) (by omega)).1.trans h4, T1.1, fun j hj => ?_⟩
    obtain ⟨a1, π2, ρ2, a2⟩ := h6 j hj
    exact ⟨((E1.2 (s + 11) (by omega)).2 j).2.2.trans a1, π2, ρ2, a2.eq (fun c c1 c2 => E1.2 c (by omega))⟩
  have L := l_stc (γ := γ) (h := h) hab 4 0 (hCT h (s + 1) (b + 1)) (by omega) (E1.mono (by omega) (by omega)) hS2 T1 (hB.eq (fun c c1 c2 => E1.2 c (by omega))) (fun j hj => absurd hj (by omega))
  refine Call.of (ls := [(0, vr (some s)), (1, vr (some b))]) vX7_copyFrom.1 (Nat.le_of_ble_eq_true rfl) rfl ?_
  refine aw_aload_n dX7_copyFrom_0 rfl ?_
  refine aw_getr' (j := 0) dX7_copyFrom_1 fX7_12 rfl (by assumption) rfl (by assumption) ?_
  refine aw_aload_n dX7_copyFrom_4 rfl ?_
  refine aw_getr' (j := 0) dX7_copyFrom_5 fX7_12 rfl (by assumption) rfl (by assumption) ?_
  refine aw_invV_n dX7_copyFrom_8 vX10_copyFrom kX7_25 rfl (CT) ⟨_, (by assumption), _, _, rfl⟩ rfl rfl (by decide) (by decide) (by decide) (Nat.le_of_ble_eq_true rfl) ?_
  refine aw_iconst dX7_copyFrom_11 ?_
  refine aw_istore_n (ls1 := [(2, _), (0, _), (1, _)]) dX7_copyFrom_12 (by decide) rfl ?_
  refine aw_sub [0, 1, 2] rfl ?_
  exact L
