/-! ===== Parser: its cells, the machine's states in them ===== -/
def shZ (h : AH) (p : Nat) (π : Nat → Nat) (ρ : Nat → Nat → Nat) : Prop := kd h p = some (.inl 2) ∧ gr h p 0 = some (p + 1) ∧ shQ h (p + 1) π ρ
def isZ0 (h : AH) (p : Nat) (π : Nat → Nat) (ρ : Nat → Nat → Nat) (Q : TQ) (b : Bool) (T : List TS) : Prop := kd h p = some (.inl 2) ∧ gr h p 0 = some (p + 1) ∧ gr h p 1 = some (p + 1 + 2 + 18 * π Q.length) ∧ isQ h (p + 1) π ρ (Q ++ [(b, T)])
def isZ (h : AH) (p : Nat) (π : Nat → Nat) (ρ : Nat → Nat → Nat) (z : PS) : Prop :=
  isZ0 h p π ρ z.2.2.1 z.2.2.2.1.1 (zP z) ∧ gi h p 3 = (z.1 : Int) ∧ ((z.1 = 3 ∨ z.1 = 9) → gi h p 4 = z.2.1) ∧ (4 ≤ z.1 → gr h p 2 = some (p + 1 + 2 + 18 * π z.2.2.1.length + 2 + 2 * ρ (π z.2.2.1.length) z.2.2.2.1.2.length)) ∧ (5 ≤ z.1 → gi h p 5 = 9 * z.2.2.2.2.1.2.length + 3 * z.2.2.2.2.2.1.length + z.2.2.2.2.2.2.1.length) ∧ ((z.1 = 6 ∨ z.1 = 7) → gi h p 6 = if z.2.2.2.2.2.2.2.1 = true then 8 else 0)
def bO (o : Option PS) : Int := if o.isSome = true then 1 else 0
def zE (h : AH) (p : Nat) (π : Nat → Nat) (ρ : Nat → Nat → Nat) (o : Option PS) (h' : AH) : Prop := shZ h' p π ρ ∧ eqO h h' p (p + 75) ∧ ∀ z, o = some z → isZ h' p π ρ z
theorem isZ0.sh {h : AH} {p : Nat} {π : Nat → Nat} {ρ : Nat → Nat → Nat} {Q : TQ} {b : Bool} {T : List TS} (hz : isZ0 h p π ρ Q b T) : shZ h p π ρ := ⟨hz.1, hz.2.1, hz.2.2.2.1⟩
theorem zE_none {h h' : AH} {p : Nat} {π : Nat → Nat} {ρ : Nat → Nat → Nat} (h1 : shZ h' p π ρ) (h2 : eqO h h' p (p + 75)) : zE h p π ρ none h' := ⟨h1, h2, fun z hz => nomatch hz⟩
theorem zE_some {h h' : AH} {p : Nat} {π : Nat → Nat} {ρ : Nat → Nat → Nat} {z : PS} (h2 : eqO h h' p (p + 75)) (h1 : isZ h' p π ρ z) : zE h p π ρ (some z) h' := ⟨h1.1.sh, h2, fun z' hz => by cases hz; exact h1⟩
theorem zE.tr {h h1 h' : AH} {p : Nat} {π : Nat → Nat} {ρ : Nat → Nat → Nat} {o : Option PS} (e : eqO h h1 p (p + 75)) (hz : zE h1 p π ρ o h') : zE h p π ρ o h' := ⟨hz.1, e.tr hz.2.1, hz.2.2⟩
theorem isZ0.ob {h : AH} {p : Nat} {π : Nat → Nat} {ρ : Nat → Nat → Nat} {Q : TQ} {b : Bool} {T : List TS} (hz : isZ0 h p π ρ Q b T) : isP h (p + 1 + 2 + 18 * π Q.length) (ρ (π Q.length)) (b, T) ∧ π Q.length < 4 ∧ (∀ i, i < 8 → ρ (π Q.length) i < 8) ∧ Q.length ≤ 3 := by
  obtain ⟨-, -, -, q1, q2, q3, q4⟩ := hz
  have hl : Q.length ≤ 3 := by simp at q3; omega
  have hp := q4 Q.length (b, T) (by simp)
  exact ⟨hp, q1.2.2.2.1.1 _ (by omega), hp.1.2.2.2.1.1, hl⟩
theorem isZ0.wi {h : AH} {p : Nat} {π : Nat → Nat} {ρ : Nat → Nat → Nat} {Q : TQ} {b : Bool} {T : List TS} {j v : Int} (hz : isZ0 h p π ρ Q b T) : isZ0 (si h p j v) p π ρ Q b T := ⟨hz.1, hz.2.1, hz.2.2.1, hz.2.2.2.eq (fun c h1 h2 => eqA.si (by omega))⟩
theorem isZ0.wr {h : AH} {p : Nat} {π : Nat → Nat} {ρ : Nat → Nat → Nat} {Q : TQ} {b : Bool} {T : List TS} {v : Option Nat} (hz : isZ0 h p π ρ Q b T) : isZ0 (sr h p 2 v) p π ρ Q b T := ⟨hz.1, (gr_ne (Or.inr (by omega))).trans hz.2.1, (gr_ne (Or.inr (by omega))).trans hz.2.2.1, hz.2.2.2.eq (fun c h1 h2 => eqA.sr (by omega))⟩
theorem shZ.wi {h : AH} {p : Nat} {π : Nat → Nat} {ρ : Nat → Nat → Nat} {j v : Int} (hz : shZ h p π ρ) : shZ (si h p j v) p π ρ := ⟨hz.1, hz.2.1, hz.2.2.eq (fun c h1 h2 => eqA.si (by omega))⟩
theorem isZ0.put {h h' : AH} {p : Nat} {π : Nat → Nat} {ρ : Nat → Nat → Nat} {Q : TQ} {b b' : Bool} {T T' : List TS} (hz : isZ0 h p π ρ Q b T) (hP : isP h' (p + 1 + 2 + 18 * π Q.length) (ρ (π Q.length)) (b', T')) (e : eqO h h' (p + 1 + 2 + 18 * π Q.length) (p + 1 + 2 + 18 * π Q.length + 18)) : isZ0 h' p π ρ Q b' T' := by
  obtain ⟨-, x1, x2, x3⟩ := hz.ob
  obtain ⟨z1, z2, z3, z4⟩ := hz
  have ep := e.2 p (by omega)
  have hq := z4.set (i := Q.length) (by simp) hP e
  rw [uqs_id, List.set_append_right _ _ (Nat.le_refl _), Nat.sub_self] at hq
  exact ⟨ep.1.trans z1, ((ep.2 0).2.2).trans z2, ((ep.2 1).2.2).trans z3, hq⟩
theorem isZ0.set {h h' : AH} {p : Nat} {π : Nat → Nat} {ρ : Nat → Nat → Nat} {Q : TQ} {b : Bool} {T : List TS} {s s' : TS} (hz : isZ0 h p π ρ Q b (T ++ [s])) (hl : T.length < 8) (hS : isS h' (p + 1 + 2 + 18 * π Q.length + 2 + 2 * ρ (π Q.length) T.length) s') (e : eqO h h' (p + 1 + 2 + 18 * π Q.length + 2 + 2 * ρ (π Q.length) T.length) (p + 1 + 2 + 18 * π Q.length + 2 + 2 * ρ (π Q.length) T.length + 2)) : isZ0 h' p π ρ Q b (T ++ [s']) := by
  obtain ⟨x0, x1, x2, x3⟩ := hz.ob
  have := x2 T.length hl
  have hp := x0.set (i := T.length) (by simp) hS e
  rw [show ((b, T ++ [s]) : TT).2 = T ++ [s] from rfl, List.set_append_right _ _ (Nat.le_refl _), Nat.sub_self] at hp
  exact hz.put hp (e.mono (by omega) (by omega))
theorem isZ0.add {h h' : AH} {p : Nat} {π : Nat → Nat} {ρ : Nat → Nat → Nat} {Q : TQ} {b : Bool} {T : List TS} {s : TS} (hz : isZ0 h p π ρ Q b T) (hl : T.length < 8) (hS : isS h' (p + 1 + 2 + 18 * π Q.length + 2 + 2 * ρ (π Q.length) T.length) s) (e : eqO h h' (p + 1 + 2 + 18 * π Q.length + 2 + 2 * ρ (π Q.length) T.length) (p + 1 + 2 + 18 * π Q.length + 2 + 2 * ρ (π Q.length) T.length + 2)) : isZ0 (si h' (p + 1 + 2 + 18 * π Q.length) 1 (T.length + 1)) p π ρ Q b (T ++ [s]) := by
  obtain ⟨x0, x1, x2, x3⟩ := hz.ob
  have := x2 T.length hl
  have hp := x0.add (s := s) hl hS e
  exact hz.put hp ((e.mono (by omega) (by omega)).tr (eqO.si (by omega) (by omega)))
/-- the step at hand -/
theorem isZ0.st {h : AH} {p : Nat} {π : Nat → Nat} {ρ : Nat → Nat → Nat} {Q : TQ} {b : Bool} {T : List TS} {s : TS} (hz : isZ0 h p π ρ Q b (T ++ [s])) : isS h (p + 1 + 2 + 18 * π Q.length + 2 + 2 * ρ (π Q.length) T.length) s := hz.ob.1.2.2.2.2 T.length s (by simp)
theorem isS_put {h : AH} {a : Nat} {x : Int × Int} {P0 : List TP} {pr : TP} {al : TA} {c : TC} {ps : List TP} (hS : isS h a (x, ps)) (hl : ps.length = P0.length + 1) (h1 : pr.length ≤ 2) (h2 : al.length ≤ 2) (hk : 9 * P0.length + 3 * pr.length + al.length < 27) (hps : ∀ k, k ≠ 9 * P0.length + 3 * pr.length + al.length → cAt ps k = cAt (P0 ++ [pr ++ al1 al]) k) {k z : Int} (ek : k = 9 * P0.length + 3 * pr.length + al.length) (ez : z = pk c) : isS (si h (a + 1) k z) a (x, P0 ++ [pr ++ [al ++ [c]]]) := by
  subst ek ez
  obtain ⟨s1, s2, s3, s4, s5⟩ := hS
  refine ⟨s1, (gi_ne (Or.inl (by omega))).trans s2, (gi_ne (Or.inl (by omega))).trans s3, (gi_ne (Or.inl (by omega))).trans ?_, fun k hk9 => ?_⟩
  · rw [s4]
    show ((ps.length : Nat) : Int) = _
    rw [hl]
    simp
  · show gi _ (a + 1) k = slotv (P0 ++ [pr ++ [al ++ [c]]]) k
    rw [slotv_so, cAt_put h1 h2]
    by_cases q : k = 9 * P0.length + 3 * pr.length + al.length
    · rw [if_pos q, gi_at rfl (by omega)]
      rfl
    · rw [if_neg q, gi_ne (Or.inr (by omega)), s5 k hk9, slotv_so, hps k q]
theorem cAt_old {P0 : List TP} {pr : TP} {al : TA} {c : TC} (h1 : pr.length ≤ 2) (h2 : al.length ≤ 2) : ∀ k, k ≠ 9 * P0.length + 3 * pr.length + al.length → cAt (P0 ++ [pr ++ [al ++ [c]]]) k = cAt (P0 ++ [pr ++ al1 al]) k := fun k hk => by rw [cAt_put h1 h2, if_neg hk]
theorem c_zTst {γ : GG} {h : AH} {p : Nat} {π : Nat → Nat} {ρ : Nat → Nat → Nat} {Q : TQ} {T : Bool × List TS} {ch : Nat} {ax : Int} (hc : ch < 128) (hz : isZ0 h p π ρ Q T.1 T.2) (hl : T.2.length < 8) (ha : gi h p 4 = ax) : Call γ mX3_acceptsTest 3 0 0 [vr (some p), vi (ch : Int)] h (rE (vi (bO (a_tst (teN ch) ax Q T))) (zE h p π ρ (a_tst (teN ch) ax Q T))) := by
  obtain ⟨x0, x1, x2, x3⟩ := hz.ob
  have x4 := x2 T.2.length hl
  have hk := hz.1
  have hr1 := hz.2.2.1
  have hkp : kd h (p + 1 + 2 + 18 * π Q.length) = some (.inl 3) := x0.1.1
  have bt := teN_bd (c := ch)
  have K := c_pTest (γ := γ) (h := h) hc
  unfold a_tst
  by_cases q : teN ch = -1
  · rw [if_pos q]
    refine Call.of (ls := [(0, vr (some p)), (1, vi (ch : Int))]) vX3_acceptsTest.1 (Nat.le_of_ble_eq_true rfl) rfl ?_
    refine aw_iload_n dX3_acceptsTest_0 rfl ?_
    refine aw_invS_r dX3_acceptsTest_1 sX3_testOf kX3_121 rfl (K) rfl rfl (by decide) (by decide) (by decide) (Nat.le_of_ble_eq_true rfl) ?_
    refine aw_istore_n (ls1 := [(2, _), (0, _), (1, _)]) dX3_acceptsTest_4 (by decide) rfl ?_
    refine aw_iload_n dX3_acceptsTest_5 rfl ?_
    refine aw_iconst dX3_acceptsTest_6 ?_
    refine aw_ic_ne (tgt := 12) dX3_acceptsTest_7 rfl (by omega) (by omega) (fun c7 => ?_) (fun c7 => ?_)
    · exact absurd c7 (by omega)
    · refine aw_iconst dX3_acceptsTest_10 ?_
      exact aw_zreturn dX3_acceptsTest_11 rfl (by omega) (Or.inl rfl) ⟨rfl, zE_none hz.sh eqO.rf⟩
  · rw [if_neg q]
    have KA := c_paddStep (γ := γ) (x := ax) (te := teN ch) x0 hl
    have e1 := eqO_hBegin h (p + 1 + 2 + 18 * π Q.length + 2 + 2 * ρ (π Q.length) T.2.length) ax (teN ch)
    have hS := isS_hBegin (x := ax) (t := teN ch) (x0.1.2.2.2.2.2 _ x4)
    have hz1 := hz.add hl hS e1
    refine Call.of (ls := [(0, vr (some p)), (1, vi (ch : Int))]) vX3_acceptsTest.1 (Nat.le_of_ble_eq_true rfl) rfl ?_
    refine aw_iload_n dX3_acceptsTest_0 rfl ?_
    refine aw_invS_r dX3_acceptsTest_1 sX3_testOf kX3_121 rfl (K) rfl rfl (by decide) (by decide) (by decide) (Nat.le_of_ble_eq_true rfl) ?_
    refine aw_istore_n (ls1 := [(2, _), (0, _), (1, _)]) dX3_acceptsTest_4 (by decide) rfl ?_
    refine aw_iload_n dX3_acceptsTest_5 rfl ?_
    refine aw_iconst dX3_acceptsTest_6 ?_
    refine aw_ic_ne (tgt := 12) dX3_acceptsTest_7 rfl (by omega) (by omega) (fun c7 => ?_) (fun c7 => ?_)
    · refine aw_aload_n dX3_acceptsTest_12 rfl ?_
      refine aw_aload_n dX3_acceptsTest_13 rfl ?_
      refine aw_getr' (j := 1) dX3_acceptsTest_14 fX3_22 rfl (by assumption) rfl (by assumption) ?_
      refine aw_aload_n dX3_acceptsTest_17 rfl ?_
      refine aw_geti' (j := 4) dX3_acceptsTest_18 fX3_40 rfl (by assumption) rfl (by assumption) ?_
      refine aw_iload_n dX3_acceptsTest_21 rfl ?_
      refine aw_invV_r dX3_acceptsTest_22 vX4_addStep kX3_114 rfl (KA) ⟨_, (by assumption), _, _, rfl⟩ rfl rfl (by decide) (by decide) (by decide) (Nat.le_of_ble_eq_true rfl) ?_
      refine aw_putr' (j := 2) (by rfl) dX3_acceptsTest_25 fX3_32 (by assumption) rfl ?_
      refine aw_aload_n dX3_acceptsTest_28 rfl ?_
      refine aw_iconst dX3_acceptsTest_29 ?_
      refine aw_puti' (j := 3) rfl dX3_acceptsTest_30 fX3_36 (by assumption) rfl ?_
      refine aw_iconst dX3_acceptsTest_33 ?_
      exact aw_zreturn dX3_acceptsTest_34 rfl (by omega) (Or.inl rfl) ⟨rfl, zE_some ((((e1.mono (by omega) (by omega)).tr (eqO.si (by omega) (by omega))).tr (eqO.sr (by omega) (by omega))).tr (eqO.si (by omega) (by omega))) ⟨hz1.wr.wi, gi_at rfl rfl, fun q9 => absurd q9 (by simp), fun _ => gr_at rfl rfl, fun q9 => absurd q9 (by simp), fun q9 => absurd q9 (by simp)⟩⟩
    · exact absurd c7 (by omega)
theorem c_zStp {γ : GG} {h : AH} {p : Nat} {π : Nat → Nat} {ρ : Nat → Nat → Nat} {Q : TQ} {T : Bool × List TS} {ch : Nat} (hc : ch < 128) (hz : isZ0 h p π ρ Q T.1 T.2) : Call γ mX3_acceptsStep 5 0 0 [vr (some p), vi (ch : Int)] h (rE (vi (bO (a_stp ch Q T))) (zE h p π ρ (a_stp ch Q T))) := by
  obtain ⟨x0, x1, x2, x3⟩ := hz.ob
  have hk := hz.1
  have hr1 := hz.2.2.1
  have hl8 : T.2.length ≤ 8 := x0.2.2.2.1
  have hkp : kd h (p + 1 + 2 + 18 * π Q.length) = some (.inl 3) := x0.1.1
  have bt := axN_bd ch hc
  have KF := c_pfull (γ := γ) x0
  dsimp only at KF
  unfold a_stp
  by_cases q : T.2.length = 8
  · rw [if_pos q]
    rw [if_pos q] at KF
    refine Call.of (ls := [(0, vr (some p)), (1, vi (ch : Int))]) vX3_acceptsStep.1 (Nat.le_of_ble_eq_true rfl) rfl ?_
    refine aw_aload_n dX3_acceptsStep_0 rfl ?_
    refine aw_getr' (j := 1) dX3_acceptsStep_1 fX3_22 rfl (by assumption) rfl (by assumption) ?_
    refine aw_invV_r dX3_acceptsStep_4 vX4_isFull kX3_111 rfl (KF) ⟨_, (by assumption), _, _, rfl⟩ rfl rfl (by decide) (by decide) (by decide) (Nat.le_of_ble_eq_true rfl) ?_
    refine aw_if_eq (tgt := 12) dX3_acceptsStep_7 rfl (by omega) (fun c7 => ?_) (fun c7 => ?_)
    · exact absurd c7 (by omega)
    · refine aw_iconst dX3_acceptsStep_10 ?_
      exact aw_zreturn dX3_acceptsStep_11 rfl (by omega) (Or.inl rfl) ⟨rfl, zE_none hz.sh eqO.rf⟩
  · rw [if_neg q]
    rw [if_neg q] at KF
    have K := c_pAxis (γ := γ) (h := h) hc
    by_cases q2 : axN ch = 0
    · rw [if_pos q2]
      have KT := c_zTst (γ := γ) (h := si h p 4 (axN ch)) (ax := 0) hc hz.wi (by omega) (by rw [gi_at rfl rfl]; exact q2)
      refine Call.of (ls := [(0, vr (some p)), (1, vi (ch : Int))]) vX3_acceptsStep.1 (Nat.le_of_ble_eq_true rfl) rfl ?_
      refine aw_aload_n dX3_acceptsStep_0 rfl ?_
      refine aw_getr' (j := 1) dX3_acceptsStep_1 fX3_22 rfl (by assumption) rfl (by assumption) ?_
      refine aw_invV_r dX3_acceptsStep_4 vX4_isFull kX3_111 rfl (KF) ⟨_, (by assumption), _, _, rfl⟩ rfl rfl (by decide) (by decide) (by decide) (Nat.le_of_ble_eq_true rfl) ?_
      refine aw_if_eq (tgt := 12) dX3_acceptsStep_7 rfl (by omega) (fun c7 => ?_) (fun c7 => ?_)
      · refine aw_aload_n dX3_acceptsStep_12 rfl ?_
        refine aw_iload_n dX3_acceptsStep_13 rfl ?_
        refine aw_invS_r dX3_acceptsStep_14 sX3_axisOf kX3_118 rfl (K) rfl rfl (by decide) (by decide) (by decide) (Nat.le_of_ble_eq_true rfl) ?_
        refine aw_puti' (j := 4) rfl dX3_acceptsStep_17 fX3_40 (by assumption) rfl ?_
        refine aw_aload_n dX3_acceptsStep_20 rfl ?_
        refine aw_geti' (j := 4) dX3_acceptsStep_21 fX3_40 rfl (by assumption) rfl (gi_at rfl rfl) ?_
        refine aw_if_ne (tgt := 33) dX3_acceptsStep_24 rfl (by omega) (fun c24 => ?_) (fun c24 => ?_)
        · exact absurd c24 (by omega)
        · refine aw_aload_n dX3_acceptsStep_27 rfl ?_
          refine aw_iload_n dX3_acceptsStep_28 rfl ?_
          refine aw_invV_e dX3_acceptsStep_29 vX3_acceptsTest kX3_77 rfl (KT) ⟨_, (by assumption), _, _, rfl⟩ rfl rfl (by decide) (by decide) (by decide) (Nat.le_of_ble_eq_true rfl) (fun h1 hP9 => ?_)
          have hE := hP9
          exact aw_zreturn dX3_acceptsStep_32 rfl (by unfold bO; split <;> simp) (Or.inl rfl) ⟨rfl, hE.tr (eqO.si (by omega) (by omega))⟩
      · exact absurd c7 (by omega)
    · rw [if_neg q2]
      refine Call.of (ls := [(0, vr (some p)), (1, vi (ch : Int))]) vX3_acceptsStep.1 (Nat.le_of_ble_eq_true rfl) rfl ?_
      refine aw_aload_n dX3_acceptsStep_0 rfl ?_
      refine aw_getr' (j := 1) dX3_acceptsStep_1 fX3_22 rfl (by assumption) rfl (by assumption) ?_
      refine aw_invV_r dX3_acceptsStep_4 vX4_isFull kX3_111 rfl (KF) ⟨_, (by assumption), _, _, rfl⟩ rfl rfl (by decide) (by decide) (by decide) (Nat.le_of_ble_eq_true rfl) ?_
      refine aw_if_eq (tgt := 12) dX3_acceptsStep_7 rfl (by omega) (fun c7 => ?_) (fun c7 => ?_)
      · refine aw_aload_n dX3_acceptsStep_12 rfl ?_
        refine aw_iload_n dX3_acceptsStep_13 rfl ?_
        refine aw_invS_r dX3_acceptsStep_14 sX3_axisOf kX3_118 rfl (K) rfl rfl (by decide) (by decide) (by decide) (Nat.le_of_ble_eq_true rfl) ?_
        refine aw_puti' (j := 4) rfl dX3_acceptsStep_17 fX3_40 (by assumption) rfl ?_
        refine aw_aload_n dX3_acceptsStep_20 rfl ?_
        refine aw_geti' (j := 4) dX3_acceptsStep_21 fX3_40 rfl (by assumption) rfl (gi_at rfl rfl) ?_
        refine aw_if_ne (tgt := 33) dX3_acceptsStep_24 rfl (by omega) (fun c24 => ?_) (fun c24 => ?_)
        · refine aw_aload_n dX3_acceptsStep_33 rfl ?_
          refine aw_iconst dX3_acceptsStep_34 ?_
          refine aw_puti' (j := 3) rfl dX3_acceptsStep_35 fX3_36 (by assumption) rfl ?_
          refine aw_iconst dX3_acceptsStep_38 ?_
          exact aw_zreturn dX3_acceptsStep_39 rfl (by omega) (Or.inl rfl) ⟨rfl, zE_some ((eqO.si (by omega) (by omega)).tr (eqO.si (by omega) (by omega))) ⟨hz.wi.wi, gi_at rfl rfl, fun _ => (gi_ne (Or.inr (by omega))).trans (gi_at rfl rfl), fun q9 => absurd q9 (by simp), fun q9 => absurd q9 (by simp), fun q9 => absurd q9 (by simp)⟩⟩
        · exact absurd c24 (by omega)
      · exact absurd c7 (by omega)
theorem c_zSl1 {γ : GG} {h : AH} {p : Nat} {π : Nat → Nat} {ρ : Nat → Nat → Nat} {Q : TQ} {T : Bool × List TS} (hz : isZ0 h p π ρ Q T.1 T.2) : Call γ mX3_acceptsFirstSlash 0 0 0 [vr (some p)] h (rE (vi 1) (zE h p π ρ (some (1, 0, Q, (true, T.2), s0, k0)))) := by
  obtain ⟨x0, x1, x2, x3⟩ := hz.ob
  have hk := hz.1
  have hr1 := hz.2.2.1
  have hkp : kd h (p + 1 + 2 + 18 * π Q.length) = some (.inl 3) := x0.1.1
  have hp : isP (si h (p + 1 + 2 + 18 * π Q.length) 0 1) (p + 1 + 2 + 18 * π Q.length) (ρ (π Q.length)) (true, T.2) := by
    obtain ⟨y1, y2, y3, y4, y5⟩ := x0
    refine ⟨y1, gi_at rfl rfl, (gi_ne (Or.inr (by omega))).trans y3, y4, fun i s hs => ?_⟩
    have hi : i < 8 := by have := (List.getElem?_eq_some_iff.mp hs).1; dsimp only at this y4; omega
    have := x2 i hi
    exact (y5 i s hs).eq (eqA.si (by omega)) (eqA.si (by omega))
  have hz1 := hz.put hp (eqO.si (by omega) (by omega))
  refine Call.of (ls := [(0, vr (some p))]) vX3_acceptsFirstSlash.1 (Nat.le_of_ble_eq_true rfl) rfl ?_
  refine aw_aload_n dX3_acceptsFirstSlash_0 rfl ?_
  refine aw_getr' (j := 1) dX3_acceptsFirstSlash_1 fX3_22 rfl (by assumption) rfl (by assumption) ?_
  refine aw_iconst dX3_acceptsFirstSlash_4 ?_
  refine aw_putz' (j := 0) rfl (by omega) dX3_acceptsFirstSlash_5 fX3_107 (by assumption) rfl ?_
  refine aw_aload_n dX3_acceptsFirstSlash_8 rfl ?_
  refine aw_iconst dX3_acceptsFirstSlash_9 ?_
  refine aw_puti' (j := 3) rfl dX3_acceptsFirstSlash_10 fX3_36 (by assumption) rfl ?_
  refine aw_iconst dX3_acceptsFirstSlash_13 ?_
  exact aw_zreturn dX3_acceptsFirstSlash_14 rfl (by omega) (Or.inl rfl) ⟨rfl, zE_some ((eqO.si (by omega) (by omega)).tr (eqO.si (by omega) (by omega))) ⟨hz1.wi, gi_at rfl rfl, fun q9 => absurd q9 (by simp), fun q9 => absurd q9 (by simp), fun q9 => absurd q9 (by simp), fun q9 => absurd q9 (by simp)⟩⟩
theorem c_zSl2 {γ : GG} {h : AH} {p : Nat} {π : Nat → Nat} {ρ : Nat → Nat → Nat} {Q : TQ} {T : Bool × List TS} (hz : isZ0 h p π ρ Q T.1 T.2) : Call γ mX3_acceptsSecondSlash 3 0 0 [vr (some p)] h (rE (vi (bO (if T.2.length = 8 then none else some (2, 0, Q, (T.1, T.2 ++ [((3, 8), [])]), s0, k0)))) (zE h p π ρ (if T.2.length = 8 then none else some (2, 0, Q, (T.1, T.2 ++ [((3, 8), [])]), s0, k0)))) := by
  obtain ⟨x0, x1, x2, x3⟩ := hz.ob
  have hk := hz.1
  have hr1 := hz.2.2.1
  have hl8 : T.2.length ≤ 8 := x0.2.2.2.1
  have hkp : kd h (p + 1 + 2 + 18 * π Q.length) = some (.inl 3) := x0.1.1
  have KF := c_pfull (γ := γ) x0
  dsimp only at KF
  by_cases q : T.2.length = 8
  · rw [if_pos q]
    rw [if_pos q] at KF
    refine Call.of (ls := [(0, vr (some p))]) vX3_acceptsSecondSlash.1 (Nat.le_of_ble_eq_true rfl) rfl ?_
    refine aw_aload_n dX3_acceptsSecondSlash_0 rfl ?_
    refine aw_getr' (j := 1) dX3_acceptsSecondSlash_1 fX3_22 rfl (by assumption) rfl (by assumption) ?_
    refine aw_invV_r dX3_acceptsSecondSlash_4 vX4_isFull kX3_111 rfl (KF) ⟨_, (by assumption), _, _, rfl⟩ rfl rfl (by decide) (by decide) (by decide) (Nat.le_of_ble_eq_true rfl) ?_
    refine aw_if_eq (tgt := 12) dX3_acceptsSecondSlash_7 rfl (by omega) (fun c7 => ?_) (fun c7 => ?_)
    · exact absurd c7 (by omega)
    · refine aw_iconst dX3_acceptsSecondSlash_10 ?_
      exact aw_zreturn dX3_acceptsSecondSlash_11 rfl (by omega) (Or.inl rfl) ⟨rfl, zE_none hz.sh eqO.rf⟩
  · rw [if_neg q]
    rw [if_neg q] at KF
    have hl : T.2.length < 8 := by omega
    have x4 := x2 T.2.length hl
    have KA := c_paddStep (γ := γ) (x := 3) (te := 8) x0 hl
    have e1 := eqO_hBegin h (p + 1 + 2 + 18 * π Q.length + 2 + 2 * ρ (π Q.length) T.2.length) 3 8
    have hS := isS_hBegin (x := 3) (t := 8) (x0.1.2.2.2.2.2 _ x4)
    have hz1 := hz.add hl hS e1
    refine Call.of (ls := [(0, vr (some p))]) vX3_acceptsSecondSlash.1 (Nat.le_of_ble_eq_true rfl) rfl ?_
    refine aw_aload_n dX3_acceptsSecondSlash_0 rfl ?_
    refine aw_getr' (j := 1) dX3_acceptsSecondSlash_1 fX3_22 rfl (by assumption) rfl (by assumption) ?_
    refine aw_invV_r dX3_acceptsSecondSlash_4 vX4_isFull kX3_111 rfl (KF) ⟨_, (by assumption), _, _, rfl⟩ rfl rfl (by decide) (by decide) (by decide) (Nat.le_of_ble_eq_true rfl) ?_
    refine aw_if_eq (tgt := 12) dX3_acceptsSecondSlash_7 rfl (by omega) (fun c7 => ?_) (fun c7 => ?_)
    · refine aw_aload_n dX3_acceptsSecondSlash_12 rfl ?_
      refine aw_getr' (j := 1) dX3_acceptsSecondSlash_13 fX3_22 rfl (by assumption) rfl (by assumption) ?_
      refine aw_iconst dX3_acceptsSecondSlash_16 ?_
      refine aw_bipush dX3_acceptsSecondSlash_17 rfl ?_
      refine aw_invV_r dX3_acceptsSecondSlash_19 vX4_addStep kX3_114 rfl (KA) ⟨_, (by assumption), _, _, rfl⟩ rfl rfl (by decide) (by decide) (by decide) (Nat.le_of_ble_eq_true rfl) ?_
      refine aw_pop dX3_acceptsSecondSlash_22 rfl ?_
      refine aw_aload_n dX3_acceptsSecondSlash_23 rfl ?_
      refine aw_iconst dX3_acceptsSecondSlash_24 ?_
      refine aw_puti' (j := 3) rfl dX3_acceptsSecondSlash_25 fX3_36 (by assumption) rfl ?_
      refine aw_iconst dX3_acceptsSecondSlash_28 ?_
      exact aw_zreturn dX3_acceptsSecondSlash_29 rfl (by omega) (Or.inl rfl) ⟨rfl, zE_some (((e1.mono (by omega) (by omega)).tr (eqO.si (by omega) (by omega))).tr (eqO.si (by omega) (by omega))) ⟨hz1.wi, gi_at rfl rfl, fun q9 => absurd q9 (by simp), fun q9 => absurd q9 (by simp), fun q9 => absurd q9 (by simp), fun q9 => absurd q9 (by simp)⟩⟩
    · exact absurd c7 (by omega)
