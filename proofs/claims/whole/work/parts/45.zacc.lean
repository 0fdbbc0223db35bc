/-! ===== Parser.accepts, faultOf ===== -/
theorem c_zS4 {γ : GG} {h : AH} {p : Nat} {π : Nat → Nat} {ρ : Nat → Nat → Nat} {Q : TQ} {T : Bool × List TS} {s : TS} {pr : TP} {al : TA} {c : TC} {ch : Nat} {ax : Int} (hc : ch < 128) (hs : okS s) (hl : T.2.length < 8) (hZ : isZ h p π ρ (4, ax, Q, T, s, pr, al, c)) : Call γ mX3_acceptsStepEnd 2 0 0 [vr (some p), vi (ch : Int)] h (rE (vi (bO (acc ch (4, ax, Q, T, s, pr, al, c)))) (zE h p π ρ (acc ch (4, ax, Q, T, s, pr, al, c)))) := by
  obtain ⟨hz, h3, -, hr2, -, -⟩ := hZ
  have hr2 := hr2 (by dsimp only; omega)
  dsimp only at hr2 h3
  change isZ0 h p π ρ Q T.1 (T.2 ++ [s]) at hz
  obtain ⟨x0, x1, x2, x3⟩ := hz.ob
  have x4 := x2 T.2.length hl
  have hS := hz.st
  have hk := hz.1
  have hr0 := hz.2.1
  have hks : kd h (p + 1 + 2 + 18 * π Q.length + 2 + 2 * ρ (π Q.length) T.2.length) = some (.inl 7) := hS.1.1
  have hkq : kd h (p + 1) = some (.inl 4) := hz.2.2.2.1.1
  have h2 : gi h (p + 1 + 2 + 18 * π Q.length + 2 + 2 * ρ (π Q.length) T.2.length) 2 = (s.2.length : Int) := hS.2.2.2.1
  have ls := hs.2.1
  simp only [acc]
  by_cases q1 : ch = 47
  · rw [if_pos q1]
    refine Call.of (ls := [(0, vr (some p)), (1, vi (ch : Int))]) vX3_acceptsStepEnd.1 (Nat.le_of_ble_eq_true rfl) rfl ?_
    refine aw_iload_n dX3_acceptsStepEnd_0 rfl ?_
    refine aw_bipush dX3_acceptsStepEnd_1 rfl ?_
    refine aw_ic_ne (tgt := 13) dX3_acceptsStepEnd_3 rfl (by omega) (by omega) (fun c3 => ?_) (fun c3 => ?_)
    · exact absurd c3 (by omega)
    · refine aw_aload_n dX3_acceptsStepEnd_6 rfl ?_
      refine aw_iconst dX3_acceptsStepEnd_7 ?_
      refine aw_puti' (j := 3) rfl dX3_acceptsStepEnd_8 fX3_36 (by assumption) rfl ?_
      refine aw_iconst dX3_acceptsStepEnd_11 ?_
      exact aw_zreturn dX3_acceptsStepEnd_12 rfl (by omega) (Or.inl rfl) ⟨rfl, zE_some (eqO.si (by omega) (by omega)) ⟨hz.wi, gi_at rfl rfl, fun q9 => absurd q9 (by simp), fun q9 => absurd q9 (by simp), fun q9 => absurd q9 (by simp), fun q9 => absurd q9 (by simp)⟩⟩
  · rw [if_neg q1]
    by_cases q2 : ch = 91 ∧ s.2.length < 3
    · rw [if_pos q2]
      have KO := c_openP (γ := γ) hS.1 (by omega)
      rw [h2] at KO
      have hS' : isS (si h (p + 1 + 2 + 18 * π Q.length + 2 + 2 * ρ (π Q.length) T.2.length) 2 (s.2.length + 1)) (p + 1 + 2 + 18 * π Q.length + 2 + 2 * ρ (π Q.length) T.2.length) (s.1, s.2 ++ [[] ++ al1 []]) := by
        obtain ⟨y1, y2, y3, y4, y5⟩ := hS
        refine ⟨y1, (gi_ne (Or.inr (by omega))).trans y2, (gi_ne (Or.inr (by omega))).trans y3, (gi_at rfl rfl).trans (by simp), fun k hk => ?_⟩
        rw [gi_ne (Or.inl (by omega)), y5 k hk, slotv_so, slotv_so]
        exact congrArg so (cAt_open s.2 k).symm
      have hz1 := hz.set hl hS' (eqO.si (by omega) (by omega))
      refine Call.of (ls := [(0, vr (some p)), (1, vi (ch : Int))]) vX3_acceptsStepEnd.1 (Nat.le_of_ble_eq_true rfl) rfl ?_
      refine aw_iload_n dX3_acceptsStepEnd_0 rfl ?_
      refine aw_bipush dX3_acceptsStepEnd_1 rfl ?_
      refine aw_ic_ne (tgt := 13) dX3_acceptsStepEnd_3 rfl (by omega) (by omega) (fun c3 => ?_) (fun c3 => ?_)
      · refine aw_iload_n dX3_acceptsStepEnd_13 rfl ?_
        refine aw_bipush dX3_acceptsStepEnd_14 rfl ?_
        refine aw_ic_ne (tgt := 48) dX3_acceptsStepEnd_16 rfl (by omega) (by omega) (fun c16 => ?_) (fun c16 => ?_)
        · exact absurd c16 (by omega)
        · refine aw_aload_n dX3_acceptsStepEnd_19 rfl ?_
          refine aw_getr' (j := 2) dX3_acceptsStepEnd_20 fX3_32 rfl (by assumption) rfl (by assumption) ?_
          refine aw_geti' (j := 2) dX3_acceptsStepEnd_23 fX3_124 rfl (by assumption) rfl h2 ?_
          refine aw_iconst dX3_acceptsStepEnd_26 ?_
          refine aw_ic_ge (tgt := 48) dX3_acceptsStepEnd_27 rfl (by omega) (by omega) (fun c27 => ?_) (fun c27 => ?_)
          · exact absurd c27 (by omega)
          · refine aw_aload_n dX3_acceptsStepEnd_30 rfl ?_
            refine aw_aload_n dX3_acceptsStepEnd_31 rfl ?_
            refine aw_getr' (j := 2) dX3_acceptsStepEnd_32 fX3_32 rfl (by assumption) rfl (by assumption) ?_
            refine aw_invV_r dX3_acceptsStepEnd_35 vX8_openPredicate kX3_129 rfl (KO) ⟨_, (by assumption), _, _, rfl⟩ rfl rfl (by decide) (by decide) (by decide) (Nat.le_of_ble_eq_true rfl) ?_
            refine aw_puti' (j := 5) rfl dX3_acceptsStepEnd_38 fX3_43 (by assumption) rfl ?_
            refine aw_aload_n dX3_acceptsStepEnd_41 rfl ?_
            refine aw_iconst dX3_acceptsStepEnd_42 ?_
            refine aw_puti' (j := 3) rfl dX3_acceptsStepEnd_43 fX3_36 (by assumption) rfl ?_
            refine aw_iconst dX3_acceptsStepEnd_46 ?_
            exact aw_zreturn dX3_acceptsStepEnd_47 rfl (by omega) (Or.inl rfl) ⟨rfl, zE_some (((eqO.si (by omega) (by omega)).tr (eqO.si (by omega) (by omega))).tr (eqO.si (by omega) (by omega))) ⟨hz1.wi.wi, gi_at rfl rfl, fun q9 => absurd q9 (by simp), fun _ => hr2, fun _ => ((gi_ne (Or.inr (by omega))).trans (gi_at rfl rfl)).trans (by simp [k0]; omega), fun q9 => absurd q9 (by simp)⟩⟩
      · exact absurd c3 (by omega)
    · rw [if_neg q2]
      have KF := c_qfull (γ := γ) hz.2.2.2
      by_cases q3 : ch = 124 ∧ Q.length < 3
      · rw [if_pos q3]
        rw [if_neg (by simp; omega)] at KF
        have KA := c_qadd (γ := γ) hz.2.2.2 (by simp; omega)
        have e4 : (Q ++ [(T.1, T.2 ++ [s])]).length = Q.length + 1 := by simp
        rw [e4] at KA
        have x5 : π (Q.length + 1) < 4 := hz.2.2.2.1.2.2.2.1.1 _ (by omega)
        have hq : isQ (si (si (si h (p + 1 + 2 + 18 * π (Q.length + 1)) 0 0) (p + 1 + 2 + 18 * π (Q.length + 1)) 1 0) (p + 1) 0 ((Q.length + 1 : Nat) + 1)) (p + 1) π ρ ((Q ++ [(T.1, T.2 ++ [s])]) ++ [(false, [])]) := by
          have y1 := hz.2.2.2.add (h' := si (si h (p + 1 + 2 + 18 * π (Q.length + 1)) 0 0) (p + 1 + 2 + 18 * π (Q.length + 1)) 1 0) (r := ρ (π (Q.length + 1))) (t := (false, [])) (by simp; omega) (by rw [e4]; exact isP_begin (hz.2.2.2.1.2.2.2.2.2 _ x5)) (by rw [e4]; exact (eqO.si (by omega) (by omega)).tr (eqO.si (by omega) (by omega)))
          rw [e4, uqs_id] at y1
          exact y1
        refine Call.of (ls := [(0, vr (some p)), (1, vi (ch : Int))]) vX3_acceptsStepEnd.1 (Nat.le_of_ble_eq_true rfl) rfl ?_
        refine aw_iload_n dX3_acceptsStepEnd_0 rfl ?_
        refine aw_bipush dX3_acceptsStepEnd_1 rfl ?_
        refine aw_ic_ne (tgt := 13) dX3_acceptsStepEnd_3 rfl (by omega) (by omega) (fun c3 => ?_) (fun c3 => ?_)
        · refine aw_iload_n dX3_acceptsStepEnd_13 rfl ?_
          refine aw_bipush dX3_acceptsStepEnd_14 rfl ?_
          refine aw_ic_ne (tgt := 48) dX3_acceptsStepEnd_16 rfl (by omega) (by omega) (fun c16 => ?_) (fun c16 => ?_)
          · refine aw_iload_n dX3_acceptsStepEnd_48 rfl ?_
            refine aw_bipush dX3_acceptsStepEnd_49 rfl ?_
            refine aw_ic_ne (tgt := 82) dX3_acceptsStepEnd_51 rfl (by omega) (by omega) (fun c51 => ?_) (fun c51 => ?_)
            · exact absurd c51 (by omega)
            · refine aw_aload_n dX3_acceptsStepEnd_54 rfl ?_
              refine aw_getr' (j := 0) dX3_acceptsStepEnd_55 fX3_12 rfl (by assumption) rfl (by assumption) ?_
              refine aw_invV_r dX3_acceptsStepEnd_58 vX5_isFull kX3_133 rfl (KF) ⟨_, (by assumption), _, _, rfl⟩ rfl rfl (by decide) (by decide) (by decide) (Nat.le_of_ble_eq_true rfl) ?_
              refine aw_if_ne (tgt := 82) dX3_acceptsStepEnd_61 rfl (by omega) (fun c61 => ?_) (fun c61 => ?_)
              · exact absurd c61 (by omega)
              · refine aw_aload_n dX3_acceptsStepEnd_64 rfl ?_
                refine aw_aload_n dX3_acceptsStepEnd_65 rfl ?_
                refine aw_getr' (j := 0) dX3_acceptsStepEnd_66 fX3_12 rfl (by assumption) rfl (by assumption) ?_
                refine aw_invV_r dX3_acceptsStepEnd_69 vX5_addPath kX3_52 rfl (KA) ⟨_, (by assumption), _, _, rfl⟩ rfl rfl (by decide) (by decide) (by decide) (Nat.le_of_ble_eq_true rfl) ?_
                refine aw_putr' (j := 1) (by rfl) dX3_acceptsStepEnd_72 fX3_22 (by assumption) rfl ?_
                refine aw_aload_n dX3_acceptsStepEnd_75 rfl ?_
                refine aw_iconst dX3_acceptsStepEnd_76 ?_
                refine aw_puti' (j := 3) rfl dX3_acceptsStepEnd_77 fX3_36 (by assumption) rfl ?_
                refine aw_iconst dX3_acceptsStepEnd_80 ?_
                exact aw_zreturn dX3_acceptsStepEnd_81 rfl (by omega) (Or.inl rfl) ⟨rfl, zE_some (((((eqO.si (by omega) (by omega)).tr (eqO.si (by omega) (by omega))).tr (eqO.si (by omega) (by omega))).tr (eqO.sr (by omega) (by omega))).tr (eqO.si (by omega) (by omega))) ⟨⟨hk, (gr_ne (Or.inr (by omega))).trans hr0, (gr_at rfl rfl).trans (by dsimp only; rw [e4]), (hq.eq (fun c h1 h2 => eqA.sr (by omega))).eq (fun c h1 h2 => eqA.si (by omega))⟩, gi_at rfl rfl, fun q9 => absurd q9 (by simp), fun q9 => absurd q9 (by simp), fun q9 => absurd q9 (by simp), fun q9 => absurd q9 (by simp)⟩⟩
          · exact absurd c16 (by omega)
        · exact absurd c3 (by omega)
      · rw [if_neg q3]
        by_cases q4 : ch = 124
        · rw [if_pos (by simp; omega)] at KF
          refine Call.of (ls := [(0, vr (some p)), (1, vi (ch : Int))]) vX3_acceptsStepEnd.1 (Nat.le_of_ble_eq_true rfl) rfl ?_
          refine aw_iload_n dX3_acceptsStepEnd_0 rfl ?_
          refine aw_bipush dX3_acceptsStepEnd_1 rfl ?_
          refine aw_ic_ne (tgt := 13) dX3_acceptsStepEnd_3 rfl (by omega) (by omega) (fun c3 => ?_) (fun c3 => ?_)
          · refine aw_iload_n dX3_acceptsStepEnd_13 rfl ?_
            refine aw_bipush dX3_acceptsStepEnd_14 rfl ?_
            refine aw_ic_ne (tgt := 48) dX3_acceptsStepEnd_16 rfl (by omega) (by omega) (fun c16 => ?_) (fun c16 => ?_)
            · refine aw_iload_n dX3_acceptsStepEnd_48 rfl ?_
              refine aw_bipush dX3_acceptsStepEnd_49 rfl ?_
              refine aw_ic_ne (tgt := 82) dX3_acceptsStepEnd_51 rfl (by omega) (by omega) (fun c51 => ?_) (fun c51 => ?_)
              · exact absurd c51 (by omega)
              · refine aw_aload_n dX3_acceptsStepEnd_54 rfl ?_
                refine aw_getr' (j := 0) dX3_acceptsStepEnd_55 fX3_12 rfl (by assumption) rfl (by assumption) ?_
                refine aw_invV_r dX3_acceptsStepEnd_58 vX5_isFull kX3_133 rfl (KF) ⟨_, (by assumption), _, _, rfl⟩ rfl rfl (by decide) (by decide) (by decide) (Nat.le_of_ble_eq_true rfl) ?_
                refine aw_if_ne (tgt := 82) dX3_acceptsStepEnd_61 rfl (by omega) (fun c61 => ?_) (fun c61 => ?_)
                · refine aw_iconst dX3_acceptsStepEnd_82 ?_
                  exact aw_zreturn dX3_acceptsStepEnd_83 rfl (by omega) (Or.inl rfl) ⟨rfl, zE_none hz.sh eqO.rf⟩
                · exact absurd c61 (by omega)
            · exact absurd c16 (by omega)
          · exact absurd c3 (by omega)
        · skip
          refine Call.of (ls := [(0, vr (some p)), (1, vi (ch : Int))]) vX3_acceptsStepEnd.1 (Nat.le_of_ble_eq_true rfl) rfl ?_
          refine aw_iload_n dX3_acceptsStepEnd_0 rfl ?_
          refine aw_bipush dX3_acceptsStepEnd_1 rfl ?_
          refine aw_ic_ne (tgt := 13) dX3_acceptsStepEnd_3 rfl (by omega) (by omega) (fun c3 => ?_) (fun c3 => ?_)
          · refine aw_iload_n dX3_acceptsStepEnd_13 rfl ?_
            refine aw_bipush dX3_acceptsStepEnd_14 rfl ?_
            refine aw_ic_ne (tgt := 48) dX3_acceptsStepEnd_16 rfl (by omega) (by omega) (fun c16 => ?_) (fun c16 => ?_)
            · refine aw_iload_n dX3_acceptsStepEnd_48 rfl ?_
              refine aw_bipush dX3_acceptsStepEnd_49 rfl ?_
              refine aw_ic_ne (tgt := 82) dX3_acceptsStepEnd_51 rfl (by omega) (by omega) (fun c51 => ?_) (fun c51 => ?_)
              · refine aw_iconst dX3_acceptsStepEnd_82 ?_
                exact aw_zreturn dX3_acceptsStepEnd_83 rfl (by omega) (Or.inl rfl) ⟨rfl, zE_none hz.sh eqO.rf⟩
              · exact absurd c51 (by omega)
            · refine aw_aload_n dX3_acceptsStepEnd_19 rfl ?_
              refine aw_getr' (j := 2) dX3_acceptsStepEnd_20 fX3_32 rfl (by assumption) rfl (by assumption) ?_
              refine aw_geti' (j := 2) dX3_acceptsStepEnd_23 fX3_124 rfl (by assumption) rfl h2 ?_
              refine aw_iconst dX3_acceptsStepEnd_26 ?_
              refine aw_ic_ge (tgt := 48) dX3_acceptsStepEnd_27 rfl (by omega) (by omega) (fun c27 => ?_) (fun c27 => ?_)
              · refine aw_iload_n dX3_acceptsStepEnd_48 rfl ?_
                refine aw_bipush dX3_acceptsStepEnd_49 rfl ?_
                refine aw_ic_ne (tgt := 82) dX3_acceptsStepEnd_51 rfl (by omega) (by omega) (fun c51 => ?_) (fun c51 => ?_)
                · refine aw_iconst dX3_acceptsStepEnd_82 ?_
                  exact aw_zreturn dX3_acceptsStepEnd_83 rfl (by omega) (Or.inl rfl) ⟨rfl, zE_none hz.sh eqO.rf⟩
                · exact absurd c51 (by omega)
              · exact absurd q2 (by omega)
          · exact absurd c3 (by omega)
theorem c_acc {γ : GG} {h : AH} {p : Nat} {π : Nat → Nat} {ρ : Nat → Nat → Nat} {z : PS} {ch : Nat} (hc : ch < 128) (ho : okZ z) (hZ : isZ h p π ρ z) : Call γ mX3_accepts 6 0 0 [vr (some p), vi (ch : Int)] h (rE (vi (bO (acc ch z))) (zE h p π ρ (acc ch z))) := by
  obtain ⟨st, ax, Q, T, s, pr, al, c⟩ := z
  have hZ' := hZ
  obtain ⟨hz, h3, h4, hr2, h5, h6⟩ := hZ
  obtain ⟨o1, o2, o3, o4, o5, o6, o7, o8, o9⟩ := ho
  have hk := hz.1
  dsimp only at hz h3 h4 hr2 h5 h6
  refine Call.of (ls := [(0, vr (some p)), (1, vi (ch : Int))]) vX3_accepts.1 (Nat.le_of_ble_eq_true rfl) rfl ?_
  refine aw_aload_n dX3_accepts_0 rfl ?_
  refine aw_geti' (j := 3) dX3_accepts_1 fX3_36 rfl (by assumption) rfl h3 ?_
  match st, o1 with
  | 0, _ =>
    refine aw_tableIn (off := 60) (tgt := 64) dX3_accepts_4 (by omega) (by decide) (by decide) rfl rfl ?_
    change isZ0 h p π ρ Q T.1 T.2 at hz
    simp only [acc]
    by_cases q : ch = 47
    · rw [if_pos q]
      refine aw_iload_n dX3_accepts_64 rfl ?_
      refine aw_bipush dX3_accepts_65 rfl ?_
      refine aw_ic_ne (tgt := 77) dX3_accepts_67 rfl (by omega) (by omega) (fun c67 => ?_) (fun c67 => ?_)
      · exact absurd c67 (by omega)
      · refine aw_aload_n dX3_accepts_70 rfl ?_
        refine aw_invV_e dX3_accepts_71 vX3_acceptsFirstSlash kX3_67 rfl (c_zSl1 hz) ⟨_, (by assumption), _, _, rfl⟩ rfl rfl (by decide) (by decide) (by decide) (Nat.le_of_ble_eq_true rfl) (fun h1 hP9 => ?_)
        have hE := hP9
        refine aw_goto (tgt := 82) dX3_accepts_74 rfl ?_
        exact aw_zreturn dX3_accepts_82 rfl (by omega) (Or.inl rfl) ⟨rfl, hE⟩
    · rw [if_neg q]
      refine aw_iload_n dX3_accepts_64 rfl ?_
      refine aw_bipush dX3_accepts_65 rfl ?_
      refine aw_ic_ne (tgt := 77) dX3_accepts_67 rfl (by omega) (by omega) (fun c67 => ?_) (fun c67 => ?_)
      · refine aw_aload_n dX3_accepts_77 rfl ?_
        refine aw_iload_n dX3_accepts_78 rfl ?_
        refine aw_invV_e dX3_accepts_79 vX3_acceptsStep kX3_71 rfl (c_zStp hc hz) ⟨_, (by assumption), _, _, rfl⟩ rfl rfl (by decide) (by decide) (by decide) (Nat.le_of_ble_eq_true rfl) (fun h1 hP9 => ?_)
        have hE := hP9
        exact aw_zreturn dX3_accepts_82 rfl (by unfold bO; split <;> simp) (Or.inl rfl) ⟨rfl, hE⟩
      · exact absurd c67 (by omega)
  | 1, _ =>
    refine aw_tableIn (off := 79) (tgt := 83) dX3_accepts_4 (by omega) (by decide) (by decide) rfl rfl ?_
    change isZ0 h p π ρ Q T.1 T.2 at hz
    simp only [acc]
    by_cases q : ch = 47
    · rw [if_pos q]
      refine aw_iload_n dX3_accepts_83 rfl ?_
      refine aw_bipush dX3_accepts_84 rfl ?_
      refine aw_ic_ne (tgt := 96) dX3_accepts_86 rfl (by omega) (by omega) (fun c86 => ?_) (fun c86 => ?_)
      · exact absurd c86 (by omega)
      · refine aw_aload_n dX3_accepts_89 rfl ?_
        refine aw_invV_e dX3_accepts_90 vX3_acceptsSecondSlash kX3_74 rfl (c_zSl2 hz) ⟨_, (by assumption), _, _, rfl⟩ rfl rfl (by decide) (by decide) (by decide) (Nat.le_of_ble_eq_true rfl) (fun h1 hP9 => ?_)
        have hE := hP9
        refine aw_goto (tgt := 101) dX3_accepts_93 rfl ?_
        exact aw_zreturn dX3_accepts_101 rfl (by unfold bO; split <;> simp) (Or.inl rfl) ⟨rfl, hE⟩
    · rw [if_neg q]
      refine aw_iload_n dX3_accepts_83 rfl ?_
      refine aw_bipush dX3_accepts_84 rfl ?_
      refine aw_ic_ne (tgt := 96) dX3_accepts_86 rfl (by omega) (by omega) (fun c86 => ?_) (fun c86 => ?_)
      · refine aw_aload_n dX3_accepts_96 rfl ?_
        refine aw_iload_n dX3_accepts_97 rfl ?_
        refine aw_invV_e dX3_accepts_98 vX3_acceptsStep kX3_71 rfl (c_zStp hc hz) ⟨_, (by assumption), _, _, rfl⟩ rfl rfl (by decide) (by decide) (by decide) (Nat.le_of_ble_eq_true rfl) (fun h1 hP9 => ?_)
        have hE := hP9
        exact aw_zreturn dX3_accepts_101 rfl (by unfold bO; split <;> simp) (Or.inl rfl) ⟨rfl, hE⟩
      · exact absurd c86 (by omega)
  | 2, _ =>
    refine aw_tableIn (off := 98) (tgt := 102) dX3_accepts_4 (by omega) (by decide) (by decide) rfl rfl ?_
    change isZ0 h p π ρ Q T.1 T.2 at hz
    simp only [acc]
    refine aw_aload_n dX3_accepts_102 rfl ?_
    refine aw_iload_n dX3_accepts_103 rfl ?_
    refine aw_invV_e dX3_accepts_104 vX3_acceptsStep kX3_71 rfl (c_zStp hc hz) ⟨_, (by assumption), _, _, rfl⟩ rfl rfl (by decide) (by decide) (by decide) (Nat.le_of_ble_eq_true rfl) (fun h1 hP9 => ?_)
    have hE := hP9
    exact aw_zreturn dX3_accepts_107 rfl (by unfold bO; split <;> simp) (Or.inl rfl) ⟨rfl, hE⟩
  | 3, _ =>
    refine aw_tableIn (off := 104) (tgt := 108) dX3_accepts_4 (by omega) (by decide) (by decide) rfl rfl ?_
    change isZ0 h p π ρ Q T.1 T.2 at hz
    have l7 := o7 rfl
    have l4 := h4 (Or.inl rfl)
    simp only [acc]
    refine aw_aload_n dX3_accepts_108 rfl ?_
    refine aw_iload_n dX3_accepts_109 rfl ?_
    refine aw_invV_e dX3_accepts_110 vX3_acceptsTest kX3_77 rfl (c_zTst hc hz l7 l4) ⟨_, (by assumption), _, _, rfl⟩ rfl rfl (by decide) (by decide) (by decide) (Nat.le_of_ble_eq_true rfl) (fun h1 hP9 => ?_)
    have hE := hP9
    exact aw_zreturn dX3_accepts_113 rfl (by unfold bO; split <;> simp) (Or.inl rfl) ⟨rfl, hE⟩
  | 4, _ =>
    refine aw_tableIn (off := 110) (tgt := 114) dX3_accepts_4 (by omega) (by decide) (by decide) rfl rfl ?_
    obtain ⟨l8, os⟩ := o8 (by omega)
    refine aw_aload_n dX3_accepts_114 rfl ?_
    refine aw_iload_n dX3_accepts_115 rfl ?_
    refine aw_invV_e dX3_accepts_116 vX3_acceptsStepEnd kX3_80 rfl (c_zS4 hc os l8 hZ') ⟨_, (by assumption), _, _, rfl⟩ rfl rfl (by decide) (by decide) (by decide) (Nat.le_of_ble_eq_true rfl) (fun h1 hP9 => ?_)
    have hE := hP9
    exact aw_zreturn dX3_accepts_119 rfl (by unfold bO; split <;> simp) (Or.inl rfl) ⟨rfl, hE⟩
  | 5, _ =>
    refine aw_tableIn (off := 116) (tgt := 120) dX3_accepts_4 (by omega) (by decide) (by decide) rfl rfl ?_
    obtain ⟨l8, os⟩ := o8 (by omega)
    obtain ⟨b1, b2, b3, b4, b5, b6⟩ := o9 (by omega)
    have hW : isW h p π ρ Q T s pr al (s.2 ++ [pr ++ al1 al]) := ⟨hz, l8, hr2 (by omega), h5 (by omega), b1, b2, b4, by simp, fun k _ => rfl⟩
    refine aw_aload_n dX3_accepts_120 rfl ?_
    refine aw_iload_n dX3_accepts_121 rfl ?_
    refine aw_invV_e dX3_accepts_122 vX3_acceptsCondition kX3_83 rfl (c_zCnd (c := c) hc hW) ⟨_, (by assumption), _, _, rfl⟩ rfl rfl (by decide) (by decide) (by decide) (Nat.le_of_ble_eq_true rfl) (fun h1 hP9 => ?_)
    have hE := hP9
    exact aw_zreturn dX3_accepts_125 rfl (by unfold bO; split <;> simp) (Or.inl rfl) ⟨rfl, hE⟩
  | 6, _ =>
    refine aw_tableIn (off := 122) (tgt := 126) dX3_accepts_4 (by omega) (by decide) (by decide) rfl rfl ?_
    obtain ⟨l8, os⟩ := o8 (by omega)
    obtain ⟨b1, b2, b3, b4, b5, b6⟩ := o9 (by omega)
    have hW : isW h p π ρ Q T s pr al (s.2 ++ [pr ++ al1 al]) := ⟨hz, l8, hr2 (by omega), h5 (by omega), b1, b2, b4, by simp, fun k _ => rfl⟩
    simp only [acc]
    refine aw_aload_n dX3_accepts_126 rfl ?_
    refine aw_iload_n dX3_accepts_127 rfl ?_
    refine aw_invV_e dX3_accepts_128 vX3_acceptsAtom kX3_86 rfl (c_zAtm hc hW (h6 (Or.inl rfl))) ⟨_, (by assumption), _, _, rfl⟩ rfl rfl (by decide) (by decide) (by decide) (Nat.le_of_ble_eq_true rfl) (fun h1 hP9 => ?_)
    have hE := hP9
    exact aw_zreturn dX3_accepts_131 rfl (by unfold bO; split <;> simp) (Or.inl rfl) ⟨rfl, hE⟩
  | 7, _ =>
    refine aw_tableIn (off := 128) (tgt := 132) dX3_accepts_4 (by omega) (by decide) (by decide) rfl rfl ?_
    obtain ⟨l8, os⟩ := o8 (by omega)
    obtain ⟨b1, b2, b3, b4, b5, b6⟩ := o9 (by omega)
    have hW : isW h p π ρ Q T s pr al (s.2 ++ [pr ++ al1 al]) := ⟨hz, l8, hr2 (by omega), h5 (by omega), b1, b2, b4, by simp, fun k _ => rfl⟩
    simp only [acc]
    refine aw_aload_n dX3_accepts_132 rfl ?_
    refine aw_iload_n dX3_accepts_133 rfl ?_
    refine aw_bipush dX3_accepts_134 rfl ?_
    refine aw_iconst dX3_accepts_136 ?_
    refine aw_invV_e dX3_accepts_137 vX3_acceptsDigit kX3_91 rfl (c_zDig (lo := 48) (k := 2) hc (by omega) (by omega) hW (h6 (Or.inr rfl))) ⟨_, (by assumption), _, _, rfl⟩ rfl rfl (by decide) (by decide) (by decide) (Nat.le_of_ble_eq_true rfl) (fun h1 hP9 => ?_)
    have hE := hP9
    exact aw_zreturn dX3_accepts_140 rfl (by unfold bO; split <;> simp) (Or.inl rfl) ⟨rfl, hE⟩
  | 8, _ =>
    refine aw_tableIn (off := 137) (tgt := 141) dX3_accepts_4 (by omega) (by decide) (by decide) rfl rfl ?_
    obtain ⟨l8, os⟩ := o8 (by omega)
    obtain ⟨b1, b2, b3, b4, b5, b6⟩ := o9 (by omega)
    unfold okH at b6
    rw [if_pos (by omega)] at b6
    obtain ⟨ng, kk, dd, sh⟩ := c
    dsimp only at b6
    obtain ⟨rfl, b6⟩ := b6
    obtain ⟨rfl, b6⟩ := b6
    have hW : isW h p π ρ Q T s pr al (s.2 ++ [pr ++ [al ++ [(ng, 3, 0, sh)]]]) := ⟨hz, l8, hr2 (by omega), h5 (by omega), b1, b2, b4, by simp, cAt_old b2 b4⟩
    refine aw_aload_n dX3_accepts_141 rfl ?_
    refine aw_iload_n dX3_accepts_142 rfl ?_
    refine aw_invV_e dX3_accepts_143 vX3_acceptsShortStep kX3_95 rfl (c_zSst hc b6.1 b6.2 hW) ⟨_, (by assumption), _, _, rfl⟩ rfl rfl (by decide) (by decide) (by decide) (Nat.le_of_ble_eq_true rfl) (fun h1 hP9 => ?_)
    have hE := hP9
    exact aw_zreturn dX3_accepts_146 rfl (by unfold bO; split <;> simp) (Or.inl rfl) ⟨rfl, hE⟩
  | 9, _ =>
    refine aw_tableIn (off := 143) (tgt := 147) dX3_accepts_4 (by omega) (by decide) (by decide) rfl rfl ?_
    obtain ⟨l8, os⟩ := o8 (by omega)
    obtain ⟨b1, b2, b3, b4, b5, b6⟩ := o9 (by omega)
    unfold okH at b6
    rw [if_pos (by omega)] at b6
    obtain ⟨ng, kk, dd, sh⟩ := c
    dsimp only at b6
    obtain ⟨rfl, b6⟩ := b6
    obtain ⟨rfl, b6⟩ := b6
    have hW : isW h p π ρ Q T s pr al (s.2 ++ [pr ++ [al ++ [(ng, 3, 0, sh)]]]) := ⟨hz, l8, hr2 (by omega), h5 (by omega), b1, b2, b4, by simp, cAt_old b2 b4⟩
    simp only [acc]
    refine aw_aload_n dX3_accepts_147 rfl ?_
    refine aw_iload_n dX3_accepts_148 rfl ?_
    refine aw_invV_e dX3_accepts_149 vX3_acceptsShortTest kX3_98 rfl (c_zStt hc o2 b6.1 b6.2 hW (h4 (Or.inr rfl))) ⟨_, (by assumption), _, _, rfl⟩ rfl rfl (by decide) (by decide) (by decide) (Nat.le_of_ble_eq_true rfl) (fun h1 hP9 => ?_)
    have hE := hP9
    exact aw_zreturn dX3_accepts_152 rfl (by unfold bO; split <;> simp) (Or.inl rfl) ⟨rfl, hE⟩
  | 10, _ =>
    refine aw_tableIn (off := 149) (tgt := 153) dX3_accepts_4 (by omega) (by decide) (by decide) rfl rfl ?_
    obtain ⟨l8, os⟩ := o8 (by omega)
    obtain ⟨b1, b2, b3, b4, b5, b6⟩ := o9 (by omega)
    unfold okH at b6
    rw [if_neg (by omega), if_pos (by omega)] at b6
    have hW : isW h p π ρ Q T s pr al (s.2 ++ [pr ++ [al ++ [c]]]) := ⟨hz, l8, hr2 (by omega), h5 (by omega), b1, b2, b4, by simp, cAt_old b2 b4⟩
    simp only [acc]
    by_cases q : ch = 47
    · rw [if_pos q]
      refine aw_iload_n dX3_accepts_153 rfl ?_
      refine aw_bipush dX3_accepts_154 rfl ?_
      refine aw_ic_ne (tgt := 166) dX3_accepts_156 rfl (by omega) (by omega) (fun c156 => ?_) (fun c156 => ?_)
      · exact absurd c156 (by omega)
      · refine aw_aload_n dX3_accepts_159 rfl ?_
        refine aw_invV_e dX3_accepts_160 vX3_acceptsShortSlash kX3_101 rfl (c_zSsl b6.1 (b6.2 rfl) hW) ⟨_, (by assumption), _, _, rfl⟩ rfl rfl (by decide) (by decide) (by decide) (Nat.le_of_ble_eq_true rfl) (fun h1 hP9 => ?_)
        have hE := hP9
        refine aw_goto (tgt := 171) dX3_accepts_163 rfl ?_
        exact aw_zreturn dX3_accepts_171 rfl (by unfold bO; split <;> simp) (Or.inl rfl) ⟨rfl, hE⟩
    · rw [if_neg q]
      refine aw_iload_n dX3_accepts_153 rfl ?_
      refine aw_bipush dX3_accepts_154 rfl ?_
      refine aw_ic_ne (tgt := 166) dX3_accepts_156 rfl (by omega) (by omega) (fun c156 => ?_) (fun c156 => ?_)
      · refine aw_aload_n dX3_accepts_166 rfl ?_
        refine aw_iload_n dX3_accepts_167 rfl ?_
        refine aw_invV_e dX3_accepts_168 vX3_acceptsConditionEnd kX3_104 rfl (c_zCend hc hW) ⟨_, (by assumption), _, _, rfl⟩ rfl rfl (by decide) (by decide) (by decide) (Nat.le_of_ble_eq_true rfl) (fun h1 hP9 => ?_)
        have hE := hP9
        exact aw_zreturn dX3_accepts_171 rfl (by unfold bO; split <;> simp) (Or.inl rfl) ⟨rfl, hE⟩
      · exact absurd c156 (by omega)
  | 11, _ =>
    refine aw_tableOut (tgt := 172) dX3_accepts_4 (by omega) (Or.inr (by decide)) rfl ?_
    obtain ⟨l8, os⟩ := o8 (by omega)
    obtain ⟨b1, b2, b3, b4, b5, b6⟩ := o9 (by omega)
    unfold okH at b6
    rw [if_neg (by omega), if_pos (by omega)] at b6
    have hW : isW h p π ρ Q T s pr al (s.2 ++ [pr ++ [al ++ [c]]]) := ⟨hz, l8, hr2 (by omega), h5 (by omega), b1, b2, b4, by simp, cAt_old b2 b4⟩
    simp only [acc]
    refine aw_aload_n dX3_accepts_172 rfl ?_
    refine aw_iload_n dX3_accepts_173 rfl ?_
    refine aw_invV_e dX3_accepts_174 vX3_acceptsConditionEnd kX3_104 rfl (c_zCend hc hW) ⟨_, (by assumption), _, _, rfl⟩ rfl rfl (by decide) (by decide) (by decide) (Nat.le_of_ble_eq_true rfl) (fun h1 hP9 => ?_)
    have hE := hP9
    exact aw_zreturn dX3_accepts_177 rfl (by unfold bO; split <;> simp) (Or.inl rfl) ⟨rfl, hE⟩
  | n + 12, q => exact absurd q (by omega)
/-- the fault of the rest of a text (-1: none), and where the machine stands then -/
def flt (f : Nat → Nat) : Nat → Nat → PS → Int × PS
  | 0, k, z => if z.1 = 4 then (-1, z) else ((k : Int), z)
  | m + 1, k, z => match acc (f k) z with
    | none => ((k : Int), z)
    | some z' => flt f m (k + 1) z'
def zQ (z : PS) : TQ := z.2.2.1 ++ [(z.2.2.2.1.1, z.2.2.2.1.2 ++ [z.2.2.2.2.1])]
theorem flt_ok {f : Nat → Nat} (hf : ∀ k, f k < 128) : ∀ (m k : Nat) (z : PS), okZ z → (flt f m k z).1 = -1 → okQ (zQ (flt f m k z).2) := by
  intro m
  induction m with
  | zero =>
    intro k z hz h
    simp only [flt] at h ⊢
    split at h
    · next q =>
      rw [if_pos q]
      obtain ⟨st, ax, Q, T, s, pr, al, c⟩ := z
      obtain ⟨z1, z2, z3, z4, z5, z6, z7, z8, z9⟩ := hz
      dsimp only at q
      obtain ⟨y1, y2⟩ := z8 (by omega)
      exact ⟨by simp [zQ]; omega, mem_snoc z4 ⟨by simp, by simp; omega, mem_snoc z6 y2⟩⟩
    · simp only at h; omega
  | succ m ih =>
    intro k z hz h
    simp only [flt] at h ⊢
    cases e : acc (f k) z with
    | none => rw [e] at h; simp only at h; omega
    | some z' =>
      rw [e] at h
      exact ih (k + 1) z' (okZ_acc (hf k) hz e) h
theorem flt_rg {f : Nat → Nat} : ∀ (m k : Nat) (z : PS), (flt f m k z).1 = -1 ∨ ((k : Int) ≤ (flt f m k z).1 ∧ (flt f m k z).1 ≤ (k + m : Nat)) := by
  intro m
  induction m with
  | zero =>
    intro k z
    simp only [flt]
    split
    · left; rfl
    · right; simp only; omega
  | succ m ih =>
    intro k z
    simp only [flt]
    cases e : acc (f k) z with
    | none => right; simp only; omega
    | some z' =>
      simp only
      rcases ih (k + 1) z' with q | q
      · left; exact q
      · right; omega
theorem l_flt {γ : GG} {h : AH} {p o n : Nat} {π : Nat → Nat} {ρ : Nat → Nat → Nat} {f : Nat → Nat} (hT : isTx h o 80) (hn : n ≤ 80) (hl : gi h o 1 = n) (hf : ∀ k, f k < 128) (hg : ∀ k : Nat, k < n → gi h (o + 1) k = f k) (hop : o + 2 ≤ p ∨ p + 75 ≤ o) : ∀ (m k : Nat) (z : PS) (H : AH), k + m = n → okZ z → isZ H p π ρ z → eqO h H p (p + 75) → AW γ mX3_faultOf 7 0 0 26 [(0, vr (some p)), (1, vr (some o)), (2, vi (k : Int))] [] H (rE (vi (flt f m k z).1) (fun h' => shZ h' p π ρ ∧ eqO h h' p (p + 75) ∧ ((flt f m k z).1 = -1 → isQ h' (p + 1) π ρ (zQ (flt f m k z).2)))) := by
  intro m
  induction m with
  | zero =>
    intro k z H hkm hz hZ hE
    have eo := hE.2 o (by omega)
    have hk := hZ.1.1
    have hko : kd H o = some (.inl 8) := eo.1.trans hT.1
    have hlH : gi H o 1 = n := (eo.2 1).1.trans hl
    have h3 := hZ.2.1
    obtain ⟨st, ax, Q, T, s, pr, al, c⟩ := z
    dsimp only at h3
    simp only [flt]
    by_cases q : st = 4
    · rw [if_pos q]
      subst q
      refine aw_iload_n dX3_faultOf_26 rfl ?_
      refine aw_aload_n dX3_faultOf_27 rfl ?_
      refine aw_geti' (j := 1) dX3_faultOf_28 fX3_56 rfl (by assumption) rfl hlH ?_
      refine aw_ic_ge (tgt := 54) dX3_faultOf_31 rfl (by omega) (by omega) (fun c31 => ?_) (fun c31 => ?_)
      · refine aw_aload_n dX3_faultOf_54 rfl ?_
        refine aw_geti' (j := 3) dX3_faultOf_55 fX3_36 rfl (by assumption) rfl h3 ?_
        refine aw_iconst dX3_faultOf_58 ?_
        refine aw_ic_ne (tgt := 66) dX3_faultOf_59 rfl (by omega) (by omega) (fun c59 => ?_) (fun c59 => ?_)
        · exact absurd c59 (by omega)
        · refine aw_iconst dX3_faultOf_62 ?_
          refine aw_goto (tgt := 70) dX3_faultOf_63 rfl ?_
          exact aw_ireturn dX3_faultOf_70 rfl (Or.inl rfl) ⟨rfl, hZ.1.sh, hE, fun _ => hZ.1.2.2.2⟩
      · exact absurd c31 (by omega)
    · rw [if_neg q]
      rw [show (k : Int) = (n : Int) by omega]
      refine aw_iload_n dX3_faultOf_26 rfl ?_
      refine aw_aload_n dX3_faultOf_27 rfl ?_
      refine aw_geti' (j := 1) dX3_faultOf_28 fX3_56 rfl (by assumption) rfl hlH ?_
      refine aw_ic_ge (tgt := 54) dX3_faultOf_31 rfl (by have h11 : st ≤ 11 := hz.1; omega) (by have h11 : st ≤ 11 := hz.1; omega) (fun c31 => ?_) (fun c31 => ?_)
      · refine aw_aload_n dX3_faultOf_54 rfl ?_
        refine aw_geti' (j := 3) dX3_faultOf_55 fX3_36 rfl (by assumption) rfl h3 ?_
        refine aw_iconst dX3_faultOf_58 ?_
        refine aw_ic_ne (tgt := 66) dX3_faultOf_59 rfl (by have h11 : st ≤ 11 := hz.1; omega) (by have h11 : st ≤ 11 := hz.1; omega) (fun c59 => ?_) (fun c59 => ?_)
        · refine aw_aload_n dX3_faultOf_66 rfl ?_
          refine aw_geti' (j := 1) dX3_faultOf_67 fX3_56 rfl (by assumption) rfl hlH ?_
          exact aw_ireturn dX3_faultOf_70 rfl (Or.inl rfl) ⟨rfl, hZ.1.sh, hE, fun q9 => absurd q9 (by omega)⟩
        · exact absurd c59 (by omega)
      · exact absurd c31 (by omega)
  | succ m ih =>
    intro k z H hkm hz hZ hE
    have eo := hE.2 o (by omega)
    have eo1 := hE.2 (o + 1) (by omega)
    have hk := hZ.1.1
    have hko : kd H o = some (.inl 8) := eo.1.trans hT.1
    have hlH : gi H o 1 = n := (eo.2 1).1.trans hl
    have hTx : isTx H o 80 := ⟨hko, ((eo.2 0).2.2).trans hT.2.1, eo1.1.trans hT.2.2⟩
    have KT := c_at (γ := γ) (j := (k : Int)) hTx (by decide) (by omega)
    rw [if_pos (by omega), (eo1.2 (k : Int)).1, hg k (by omega)] at KT
    have KA := c_acc (γ := γ) (hf k) hz hZ
    simp only [flt]
    cases e : acc (f k) z with
    | none =>
      rw [e] at KA
      refine aw_iload_n dX3_faultOf_26 rfl ?_
      refine aw_aload_n dX3_faultOf_27 rfl ?_
      refine aw_geti' (j := 1) dX3_faultOf_28 fX3_56 rfl (by assumption) rfl hlH ?_
      refine aw_ic_ge (tgt := 54) dX3_faultOf_31 rfl (by omega) (by omega) (fun c31 => ?_) (fun c31 => ?_)
      · exact absurd c31 (by omega)
      · refine aw_aload_n dX3_faultOf_34 rfl ?_
        refine aw_aload_n dX3_faultOf_35 rfl ?_
        refine aw_iload_n dX3_faultOf_36 rfl ?_
        refine aw_invV_r dX3_faultOf_37 vX9_at kX3_59 rfl (KT) ⟨_, (by assumption), _, _, rfl⟩ rfl rfl (by decide) (by decide) (by decide) (Nat.le_of_ble_eq_true rfl) ?_
        refine aw_invV_e dX3_faultOf_40 vX3_accepts kX3_63 rfl (KA) ⟨_, (by assumption), _, _, rfl⟩ rfl rfl (by decide) (by decide) (by decide) (Nat.le_of_ble_eq_true rfl) (fun h1 hP9 => ?_)
        have hE1 := hP9
        refine aw_if_ne (tgt := 48) dX3_faultOf_43 rfl (by decide) (fun c43 => ?_) (fun c43 => ?_)
        · exact absurd rfl c43
        · refine aw_iload_n dX3_faultOf_46 rfl ?_
          exact aw_ireturn dX3_faultOf_47 rfl (Or.inl rfl) ⟨rfl, hE1.1, hE.tr hE1.2.1, fun q9 => absurd q9 (by dsimp only; omega)⟩
    | some z' =>
      rw [e] at KA
      refine aw_iload_n dX3_faultOf_26 rfl ?_
      refine aw_aload_n dX3_faultOf_27 rfl ?_
      refine aw_geti' (j := 1) dX3_faultOf_28 fX3_56 rfl (by assumption) rfl hlH ?_
      refine aw_ic_ge (tgt := 54) dX3_faultOf_31 rfl (by omega) (by omega) (fun c31 => ?_) (fun c31 => ?_)
      · exact absurd c31 (by omega)
      · refine aw_aload_n dX3_faultOf_34 rfl ?_
        refine aw_aload_n dX3_faultOf_35 rfl ?_
        refine aw_iload_n dX3_faultOf_36 rfl ?_
        refine aw_invV_r dX3_faultOf_37 vX9_at kX3_59 rfl (KT) ⟨_, (by assumption), _, _, rfl⟩ rfl rfl (by decide) (by decide) (by decide) (Nat.le_of_ble_eq_true rfl) ?_
        refine aw_invV_e dX3_faultOf_40 vX3_accepts kX3_63 rfl (KA) ⟨_, (by assumption), _, _, rfl⟩ rfl rfl (by decide) (by decide) (by decide) (Nat.le_of_ble_eq_true rfl) (fun h1 hP9 => ?_)
        have hE1 := hP9
        refine aw_if_ne (tgt := 48) dX3_faultOf_43 rfl (by simp [bO]) (fun c43 => ?_) (fun c43 => ?_)
        · refine aw_iinc (k9 := 2) (ls1 := [(2, _), (0, _), (1, _)]) dX3_faultOf_48 rfl (by decide) rfl ?_
          refine aw_goto (tgt := 26) dX3_faultOf_51 rfl ?_
          refine aw_sub [1, 2, 0] rfl ?_
          exact ih (k + 1) z' h1 (by omega) (okZ_acc (hf k) hz e) (hE1.2.2 z' rfl) (hE.tr hE1.2.1)
        · exact absurd c43 (by simp [bO])
theorem c_flt {γ : GG} {h : AH} {p o n : Nat} {π : Nat → Nat} {ρ : Nat → Nat → Nat} {f : Nat → Nat} (hT : isTx h o 80) (hn : n ≤ 80) (hl : gi h o 1 = n) (hf : ∀ k, f k < 128) (hg : ∀ k : Nat, k < n → gi h (o + 1) k = f k) (hop : o + 2 ≤ p ∨ p + 75 ≤ o) (hZ : shZ h p π ρ) : Call γ mX3_faultOf 7 0 0 [vr (some p), vr (some o)] h (rE (vi (flt f n 0 z0).1) (fun h' => shZ h' p π ρ ∧ eqO h h' p (p + 75) ∧ ((flt f n 0 z0).1 = -1 → isQ h' (p + 1) π ρ (zQ (flt f n 0 z0).2)))) := by
  obtain ⟨hk, hr0, hQ⟩ := hZ
  have hkq : kd h (p + 1) = some (.inl 4) := hQ.1
  have x5 : π 0 < 4 := hQ.2.2.2.1.1 0 (by omega)
  have hq0 : isQ (si h (p + 1) 0 0) (p + 1) π ρ [] := by
    refine ⟨⟨hQ.1, hQ.2.1, hQ.2.2.1, hQ.2.2.2.1, hQ.2.2.2.2.1, fun i hi => (hQ.2.2.2.2.2 i hi).eq (fun b h1 h2 => eqA.si (by omega))⟩, gi_at rfl rfl, by decide, fun i t ht => by simp at ht⟩
  have KA := c_qadd (γ := γ) hq0 (by decide)
  have y1 := hq0.add (h' := si (si (si h (p + 1) 0 0) (p + 1 + 2 + 18 * π 0) 0 0) (p + 1 + 2 + 18 * π 0) 1 0) (r := ρ (π 0)) (t := (false, [])) (by decide) (isP_begin (hq0.1.2.2.2.2.2 _ x5)) ((eqO.si (by simp) (by simp)).tr (eqO.si (by simp) (by simp)))
  rw [show ([] : TQ).length = 0 from rfl, uqs_id] at y1
  have KL := l_flt (γ := γ) (ρ := ρ) (π := π) hT hn hl hf hg hop n 0 z0 (si (sr (si (si (si (si h (p + 1) 0 0) (p + 1 + 2 + 18 * π 0) 0 0) (p + 1 + 2 + 18 * π 0) 1 0) (p + 1) 0 (((0 : Nat) : Int) + 1)) p 1 (some (p + 1 + 2 + 18 * π 0))) p 3 0) (by omega) okZ_z0 ⟨⟨hk, (gr_ne (Or.inr (by omega))).trans hr0, gr_at rfl rfl, (y1.eq (fun c h1 h2 => eqA.sr (by omega))).eq (fun c h1 h2 => eqA.si (by omega))⟩, gi_at rfl rfl, fun q9 => absurd q9 (by simp [z0]), fun q9 => absurd q9 (by simp [z0]), fun q9 => absurd q9 (by simp [z0]), fun q9 => absurd q9 (by simp [z0])⟩ ((((((eqO.si (by omega) (by omega)).tr (eqO.si (by omega) (by omega))).tr (eqO.si (by omega) (by omega))).tr (eqO.si (by omega) (by omega))).tr (eqO.sr (by omega) (by omega))).tr (eqO.si (by omega) (by omega)))
  refine Call.of (ls := [(0, vr (some p)), (1, vr (some o))]) vX3_faultOf.1 (Nat.le_of_ble_eq_true rfl) rfl ?_
  refine aw_aload_n dX3_faultOf_0 rfl ?_
  refine aw_getr' (j := 0) dX3_faultOf_1 fX3_12 rfl (by assumption) rfl (by assumption) ?_
  refine aw_iconst dX3_faultOf_4 ?_
  refine aw_puti' (j := 0) rfl dX3_faultOf_5 fX3_49 (by assumption) rfl ?_
  refine aw_aload_n dX3_faultOf_8 rfl ?_
  refine aw_aload_n dX3_faultOf_9 rfl ?_
  refine aw_getr' (j := 0) dX3_faultOf_10 fX3_12 rfl (by assumption) rfl (by assumption) ?_
  refine aw_invV_r dX3_faultOf_13 vX5_addPath kX3_52 rfl (KA) ⟨_, (by assumption), _, _, rfl⟩ rfl rfl (by decide) (by decide) (by decide) (Nat.le_of_ble_eq_true rfl) ?_
  refine aw_putr' (j := 1) (by rfl) dX3_faultOf_16 fX3_22 (by assumption) rfl ?_
  refine aw_aload_n dX3_faultOf_19 rfl ?_
  refine aw_iconst dX3_faultOf_20 ?_
  refine aw_puti' (j := 3) rfl dX3_faultOf_21 fX3_36 (by assumption) rfl ?_
  refine aw_iconst dX3_faultOf_24 ?_
  refine aw_istore_n (ls1 := [(2, _), (0, _), (1, _)]) dX3_faultOf_25 (by decide) rfl ?_
  refine aw_sub [1, 2, 0] rfl ?_
  exact KL
