/-! ===== Evaluator: prepare ===== -/
def EV (e : Nat) : Nat → Prop := fun b => b = e + 1 ∨ b = e + 2
def gfD (H : AH) (e : Nat) (T : Tr) (q : TQ) (k j : Nat) : Prop := ∀ (p s : Nat) (t : TT) (st : TS), q[p]? = some t → t.2[s]? = some st → (p < k ∨ (p = k ∧ s < j)) → ∀ y : Nat, y < tn T → gl H (e + 1) ((((p * 8 + s) * 40 : Nat) : Int) + (y : Int)) = S9 (gvN T st y st.2.length)
theorem i_pr13 {γ : GG} {e t b : Nat} {π : Nat → Nat} {ρ : Nat → Nat → Nat} {T : Tr} {q : TQ} {h : AH} {k : Nat} {u : TT} {Q : AR → AH → Prop} (hE : shE h e) (hT : isTr h t T) (ho : okTr T) (hQ : isQ h b π ρ q) (hq : okQ q) (hd1 : e + 3 ≤ t ∨ t + 10 ≤ e) (hd2 : e + 3 ≤ b ∨ b + 74 ≤ e) (hu : q[k]? = some u) (kk : ∀ H, eqT (EV e) h H → gfD H e T q (k + 1) 0 → AW γ mX1_prepare 5 0 0 56 [(3, vi (k : Int)), (0, vr (some e)), (1, vr (some t)), (2, vr (some b))] [] H Q) : ∀ (m j : Nat) (H : AH), j + m = u.2.length → eqT (EV e) h H → gfD H e T q k j → AW γ mX1_prepare 5 0 0 13 [(4, vi (j : Int)), (3, vi (k : Int)), (0, vr (some e)), (1, vr (some t)), (2, vr (some b))] [] H Q := by
  have lk := (List.getElem?_eq_some_iff.mp hu).1
  have hl4 := hq.1
  have ou := hq.2 u (List.mem_of_getElem? hu)
  have hT0 : ∀ H, eqT (EV e) h H → isTr H t T := fun H hE9 => hT.eq (fun b b1 b2 => hE9.eqA (by unfold EV; omega))
  have hQ0 : ∀ H, eqT (EV e) h H → isQ H b π ρ q := fun H hE9 => hQ.eq (fun b b1 b2 => hE9.eqA (by unfold EV; omega))
  intro m
  induction m with
  | zero =>
    intro j H hj hE9 hI
    obtain ⟨⟨hk, hr, hk1, hπ, hrf, hst⟩, h0, -, hss⟩ := hQ0 H hE9
    have hP := hss k u hu
    have s1 := hP.1.1
    have l8 := hP.2.2.2.1
    have K := kk H hE9 (fun p s t st h1 h2 h3 => hI p s t st h1 h2 (by
      by_cases z : p < k
      · exact Or.inl z
      · have : p = k := by omega
        subst this
        rw [hu] at h1
        cases h1
        have := (List.getElem?_eq_some_iff.mp h2).1
        exact Or.inr ⟨rfl, by omega⟩))
    refine aw_iload dX1_prepare_13 rfl ?_
    refine aw_aload_n dX1_prepare_15 rfl ?_
    refine aw_getr' (j := 1) dX1_prepare_16 fX1_24 rfl (by assumption) rfl (by assumption) ?_
    refine aw_iload_n dX1_prepare_19 rfl ?_
    refine aw_aald4' dX1_prepare_20 (by assumption) (by omega) (by first | decide | omega) (hrf k (by omega)) ?_
    refine aw_geti' (j := 1) dX1_prepare_21 fX1_28 rfl (by assumption) rfl hP.2.2.1 ?_
    refine aw_ic_ge (tgt := 56) dX1_prepare_24 rfl (by omega) (by omega) (fun c24 => ?_) (fun c24 => ?_)
    · refine aw_sub [1, 2, 3, 4] rfl ?_
      exact K
    · exact absurd c24 (by omega)
  | succ m ih =>
    intro j H hj hE9 hI
    obtain ⟨⟨hk, hr, hk1, hπ, hrf, hst⟩, h0, -, hss⟩ := hQ0 H hE9
    have hP := hss k u hu
    have s1 := hP.1.1
    have l8 := hP.2.2.2.1
    obtain ⟨s, hs⟩ : ∃ s, u.2[j]? = some s := ⟨_, List.getElem?_eq_getElem (by omega)⟩
    have hS := hP.2.2.2.2 j s hs
    have os := ou.2.2 s (List.mem_of_getElem? hs)
    have p4 := hπ.1 k (by omega)
    have p8 := pm_lt hP.1.2.2.2.1 (i := j) (by omega)
    have CR := c_rowOf (γ := γ) (h := H) (p := k) (s := j) (by omega) (by omega)
    have hE1 := hE9.shE hE
    have CS := c_prepareStep (γ := γ) (r := (k * 8 + j) * 40) hE1 (hT0 H hE9) ho hS os hd1 (by omega) (by omega)
    have k0 := hE1.1
    refine aw_iload dX1_prepare_13 rfl ?_
    refine aw_aload_n dX1_prepare_15 rfl ?_
    refine aw_getr' (j := 1) dX1_prepare_16 fX1_24 rfl (by assumption) rfl (by assumption) ?_
    refine aw_iload_n dX1_prepare_19 rfl ?_
    refine aw_aald4' dX1_prepare_20 (by assumption) (by omega) (by first | decide | omega) (hrf k (by omega)) ?_
    refine aw_geti' (j := 1) dX1_prepare_21 fX1_28 rfl (by assumption) rfl hP.2.2.1 ?_
    refine aw_ic_ge (tgt := 56) dX1_prepare_24 rfl (by omega) (by omega) (fun c24 => ?_) (fun c24 => ?_)
    · exact absurd c24 (by omega)
    · refine aw_aload_n dX1_prepare_27 rfl ?_
      refine aw_aload_n dX1_prepare_28 rfl ?_
      refine aw_aload_n dX1_prepare_29 rfl ?_
      refine aw_getr' (j := 1) dX1_prepare_30 fX1_24 rfl (by assumption) rfl (by assumption) ?_
      refine aw_iload_n dX1_prepare_33 rfl ?_
      refine aw_aald4' dX1_prepare_34 (by assumption) (by omega) (by first | decide | omega) (hrf k (by omega)) ?_
      refine aw_getr' (j := 2) dX1_prepare_35 fX1_31 rfl (by assumption) rfl (by exact hP.1.2.1) ?_
      refine aw_iload dX1_prepare_38 rfl ?_
      refine aw_aald7' dX1_prepare_40 (by exact hP.1.2.2.1) (by omega) (by first | decide | omega) (hP.1.2.2.2.2.1 j (by omega)) ?_
      refine aw_iload_n dX1_prepare_41 rfl ?_
      refine aw_iload dX1_prepare_42 rfl ?_
      refine aw_invS_r dX1_prepare_44 sX1_rowOf kX1_35 rfl (CR) rfl rfl (by decide) (by decide) (by decide) (Nat.le_of_ble_eq_true rfl) ?_
      refine aw_invV_f dX1_prepare_47 vX1_prepareStep kX1_39 rfl (CS) ⟨_, (by assumption), _, _, rfl⟩ rfl rfl (by decide) (by decide) (by decide) (Nat.le_of_ble_eq_true rfl) (fun H1 hP9 => ?_)
      obtain ⟨E1, G1, X1⟩ := hP9
      refine aw_iinc (k9 := 0) (ls1 := [(4, _), (3, _), (0, _), (1, _), (2, _)]) dX1_prepare_50 rfl (by decide) rfl ?_
      refine aw_goto (tgt := 13) dX1_prepare_53 rfl ?_
      refine aw_sub [0, 1, 2, 3, 4] rfl ?_
      refine ih (j + 1) H1 (by omega) (hE9.tr E1) (fun p s2 t2 st h1 h2 h3 y hy => ?_)
      have ls := (List.getElem?_eq_some_iff.mp h2).1
      have lt8 := (hq.2 t2 (List.mem_of_getElem? h1)).2.1
      have n40 : tn T ≤ 40 := ho.2.1
      by_cases z : p = k ∧ s2 = j
      · obtain ⟨z1, z2⟩ := z
        subst z1
        subst z2
        rw [hu] at h1
        cases h1
        rw [hs] at h2
        cases h2
        exact G1 y hy
      · refine (X1 _ ?_).trans (hI p s2 t2 st h1 h2 (by omega) y hy)
        by_cases z2 : p = k
        · omega
        · omega
theorem c_prepare {γ : GG} {e t b : Nat} {π : Nat → Nat} {ρ : Nat → Nat → Nat} {T : Tr} {q : TQ} {h : AH} (hE : shE h e) (hT : isTr h t T) (ho : okTr T) (hQ : isQ h b π ρ q) (hq : okQ q) (hd1 : e + 3 ≤ t ∨ t + 10 ≤ e) (hd2 : e + 3 ≤ b ∨ b + 74 ≤ e) : Call γ mX1_prepare 5 0 0 [vr (some e), vr (some t), vr (some b)] h (rF (fun h' => eqT (EV e) h h' ∧ gfD h' e T q q.length 0)) := by
  have hl4 := hq.1
  have hQ0 : ∀ H, eqT (EV e) h H → isQ H b π ρ q := fun H hE9 => hQ.eq (fun b b1 b2 => hE9.eqA (by unfold EV; omega))
  have L : ∀ (m k : Nat) (H : AH), k + m = q.length → eqT (EV e) h H → gfD H e T q k 0 → AW γ mX1_prepare 5 0 0 2 [(3, vi (k : Int)), (0, vr (some e)), (1, vr (some t)), (2, vr (some b))] [] H (rF (fun h' => eqT (EV e) h h' ∧ gfD h' e T q q.length 0)) := by
    intro m
    induction m with
    | zero =>
      intro k H hk0 hE9 hI
      obtain rfl : k = q.length := by omega
      obtain ⟨⟨hk, hr, hk1, hπ, hrf, hst⟩, h0, -, hss⟩ := hQ0 H hE9
      refine aw_iload_n dX1_prepare_2 rfl ?_
      refine aw_aload_n dX1_prepare_3 rfl ?_
      refine aw_geti' (j := 0) dX1_prepare_4 fX1_18 rfl (by assumption) rfl h0 ?_
      refine aw_ic_ge (tgt := 62) dX1_prepare_7 rfl (by omega) (by omega) (fun c7 => ?_) (fun c7 => ?_)
      · exact aw_return dX1_prepare_62 rfl (Or.inl rfl) ⟨rfl, hE9, hI⟩
      · exact absurd c7 (by omega)
    | succ m ih =>
      intro k H hk0 hE9 hI
      obtain ⟨u, hu⟩ : ∃ u, q[k]? = some u := ⟨_, List.getElem?_eq_getElem (by omega)⟩
      obtain ⟨⟨hk, hr, hk1, hπ, hrf, hst⟩, h0, -, hss⟩ := hQ0 H hE9
      have I := i_pr13 (γ := γ) (Q := rF (fun h' => eqT (EV e) h h' ∧ gfD h' e T q q.length 0)) hE hT ho hQ hq hd1 hd2 hu (fun H2 hE2 hI2 => by
        have I := ih (k + 1) H2 (by omega) hE2 hI2
        refine aw_iinc (k9 := 0) (ls1 := [(3, _), (0, _), (1, _), (2, _)]) dX1_prepare_56 rfl (by decide) rfl ?_
        refine aw_goto (tgt := 2) dX1_prepare_59 rfl ?_
        refine aw_sub [0, 1, 2, 3] rfl ?_
        exact I) u.2.length 0 H (by omega) hE9 hI
      refine aw_iload_n dX1_prepare_2 rfl ?_
      refine aw_aload_n dX1_prepare_3 rfl ?_
      refine aw_geti' (j := 0) dX1_prepare_4 fX1_18 rfl (by assumption) rfl h0 ?_
      refine aw_ic_ge (tgt := 62) dX1_prepare_7 rfl (by omega) (by omega) (fun c7 => ?_) (fun c7 => ?_)
      · exact absurd c7 (by omega)
      · refine aw_iconst dX1_prepare_10 ?_
        refine aw_istore (ls1 := [(4, _), (3, _), (0, _), (1, _), (2, _)]) dX1_prepare_11 (by decide) rfl ?_
        refine aw_sub [0, 1, 2, 3, 4] rfl ?_
        exact I
  have L := L q.length 0 h (by omega) eqT.rf (fun p s t st _ _ h3 => absurd h3 (by omega))
  refine Call.of (ls := [(0, vr (some e)), (1, vr (some t)), (2, vr (some b))]) vX1_prepare.1 (Nat.le_of_ble_eq_true rfl) rfl ?_
  refine aw_iconst dX1_prepare_0 ?_
  refine aw_istore_n (ls1 := [(3, _), (0, _), (1, _), (2, _)]) dX1_prepare_1 (by decide) rfl ?_
  refine aw_sub [0, 1, 2, 3] rfl ?_
  exact L
