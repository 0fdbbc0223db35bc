/-! ===== the model: putPredicate, putPath, putAll ===== -/
theorem mputs_cs (a : Nat) (h : AH) (c : Int) (l : List Int) : mputs a (mput a h c) l = mputs a h (c :: l) := rfl
theorem jr_hd2 {z : Int} {b : Bool} {x : List Int} {r : List (List Int)} : jr z b (x :: r) = (if b = true then [] else [z]) ++ (x ++ jr z false r) := by cases b <;> simp [jr]
theorem l_mp37 {γ : GG} {a : Nat} {b ab : Int} {i : Int} {al : TA} {Q : AR → AH → Prop} (ho : okA al) (hb : 1 ≤ ab ∧ ab + 22 ≤ 6537) : ∀ (r : TA) (k : Nat) (h : AH) (l : List Int), al.drop k = r → k ≤ al.length → gM h a (jr 44 (decide (k = 0)) (r.map wCond) ++ l) → gA (gi h (a + 7)) ab al → AW γ mX12_putPredicate 3 0 0 75 [(2, vi i), (0, vr (some a)), (1, vi b)] [] (mputs a h (jr 44 (decide (k = 0)) (r.map wCond))) Q → AW γ mX12_putPredicate 3 0 0 37 [(4, vi (k : Int)), (3, vi ab), (2, vi i), (0, vr (some a)), (1, vi b)] [] h Q := by
  have hl3 := ho.2.1
  intro r
  induction r with
  | nil =>
    intro k h l hd hkl g hg kk
    obtain ⟨hka, rq, kq⟩ := g.q
    have hk := List.drop_eq_nil_iff.mp hd
    have g0 := hg.1
    refine aw_iload dX12_putPredicate_37 rfl ?_
    refine aw_aload_n dX12_putPredicate_39 rfl ?_
    refine aw_getr' (j := 12) dX12_putPredicate_40 fX12_28 rfl (by assumption) rfl (by assumption) ?_
    refine aw_iload_n dX12_putPredicate_43 rfl ?_
    refine aw_iald' dX12_putPredicate_44 (by assumption) (by omega) (by first | decide | omega) g0 ?_
    refine aw_ic_ge (tgt := 75) dX12_putPredicate_45 rfl (by omega) (by omega) (fun c45 => ?_) (fun c45 => ?_)
    · refine aw_sub [2, 3, 4] rfl ?_
      exact kk
    · exact absurd c45 (by omega)
  | cons x r ih =>
    intro k h l hd hkl g hg kk
    obtain ⟨hx, hdr, hlt⟩ := drop_hd hd
    have ox := ho.2.2 x (List.mem_of_getElem? hx)
    rw [List.map_cons, jr_head] at g kk
    rw [List.append_assoc] at g
    have R : ∀ h', gM h' a (wCond x ++ (jr 44 false (r.map wCond) ++ l)) → gA (gi h' (a + 7)) ab al → AW γ mX12_putPredicate 3 0 0 75 [(2, vi i), (0, vr (some a)), (1, vi b)] [] (mputs a h' (wCond x ++ jr 44 false (r.map wCond))) Q → AW γ mX12_putPredicate 3 0 0 59 [(4, vi (k : Int)), (3, vi ab), (2, vi i), (0, vr (some a)), (1, vi b)] [] h' Q := by
      intro h' g' hg' kk'
      obtain ⟨hka, rq, kq⟩ := g'.q
      have KC := m_conditionAt (γ := γ) (h := h') (p := ab) (k := (k : Int))
      have KP := m_putCondition (γ := γ) ox (by omega) g' (hg'.2 k x hx)
      rw [mputs_app] at kk'
      have I := ih (k + 1) (mputs a h' (wCond x)) l hdr (by omega) (by rw [dec1]; exact g'.ap) (by rw [gi7s]; exact hg') (by rw [dec1]; exact kk')
      refine aw_aload_n dX12_putPredicate_59 rfl ?_
      refine aw_iload_n dX12_putPredicate_60 rfl ?_
      refine aw_iload dX12_putPredicate_61 rfl ?_
      refine aw_invS_r dX12_putPredicate_63 sX12_conditionAt kX12_153 rfl (KC) rfl rfl (by decide) (by decide) (by decide) (Nat.le_of_ble_eq_true rfl) ?_
      refine aw_invV_n dX12_putPredicate_66 vX12_putCondition kX12_198 rfl (KP) ⟨_, (by assumption), _, _, rfl⟩ rfl rfl (by decide) (by decide) (by decide) (Nat.le_of_ble_eq_true rfl) ?_
      refine aw_iinc (k9 := 0) (ls1 := [(4, _), (3, _), (2, _), (0, _), (1, _)]) dX12_putPredicate_69 rfl (by decide) rfl ?_
      refine aw_goto (tgt := 37) dX12_putPredicate_72 rfl ?_
      refine aw_sub [0, 1, 2, 3, 4] rfl ?_
      exact I
    obtain ⟨hka, rq, kq⟩ := g.q
    have g0 := hg.1
    by_cases q0 : k = 0
    · rw [if_pos q0] at g kk
      rw [List.nil_append, List.append_assoc] at g
      rw [List.nil_append] at kk
      refine aw_iload dX12_putPredicate_37 rfl ?_
      refine aw_aload_n dX12_putPredicate_39 rfl ?_
      refine aw_getr' (j := 12) dX12_putPredicate_40 fX12_28 rfl (by assumption) rfl (by assumption) ?_
      refine aw_iload_n dX12_putPredicate_43 rfl ?_
      refine aw_iald' dX12_putPredicate_44 (by assumption) (by omega) (by first | decide | omega) g0 ?_
      refine aw_ic_ge (tgt := 75) dX12_putPredicate_45 rfl (by omega) (by omega) (fun c45 => ?_) (fun c45 => ?_)
      · exact absurd c45 (by omega)
      · refine aw_iload dX12_putPredicate_48 rfl ?_
        refine aw_if_le (tgt := 59) dX12_putPredicate_50 rfl (by omega) (fun c50 => ?_) (fun c50 => ?_)
        · exact R h g hg kk
        · exact absurd c50 (by omega)
    · rw [if_neg q0] at g kk
      rw [List.append_assoc] at g
      have KP := m_putM (γ := γ) (v := 44) g
      refine aw_iload dX12_putPredicate_37 rfl ?_
      refine aw_aload_n dX12_putPredicate_39 rfl ?_
      refine aw_getr' (j := 12) dX12_putPredicate_40 fX12_28 rfl (by assumption) rfl (by assumption) ?_
      refine aw_iload_n dX12_putPredicate_43 rfl ?_
      refine aw_iald' dX12_putPredicate_44 (by assumption) (by omega) (by first | decide | omega) g0 ?_
      refine aw_ic_ge (tgt := 75) dX12_putPredicate_45 rfl (by omega) (by omega) (fun c45 => ?_) (fun c45 => ?_)
      · exact absurd c45 (by omega)
      · refine aw_iload dX12_putPredicate_48 rfl ?_
        refine aw_if_le (tgt := 59) dX12_putPredicate_50 rfl (by omega) (fun c50 => ?_) (fun c50 => ?_)
        · exact absurd c50 (by omega)
        · refine aw_aload_n dX12_putPredicate_53 rfl ?_
          refine aw_bipush dX12_putPredicate_54 rfl ?_
          refine aw_invV_n dX12_putPredicate_56 vX12_put kX12_192 rfl (KP) ⟨_, (by assumption), _, _, rfl⟩ rfl rfl (by decide) (by decide) (by decide) (Nat.le_of_ble_eq_true rfl) ?_
          exact R (mput a h 44) (gM.cs (c := 44) g) (by rw [gi7p]; exact hg) kk
theorem l_mp8 {γ : GG} {a : Nat} {b : Int} {p : TP} (ho : okP p) (hb : 1 ≤ b ∧ b + 67 ≤ 6537) : ∀ (r : TP) (k : Nat) (h : AH), p.drop k = r → k ≤ p.length → gM h a (jr 43 (decide (k = 0)) (r.map wAlt) ++ [93]) → gP (gi h (a + 7)) b p → AW γ mX12_putPredicate 3 0 0 8 [(2, vi (k : Int)), (0, vr (some a)), (1, vi b)] [] h (rN (mputs a h (jr 43 (decide (k = 0)) (r.map wAlt) ++ [93]))) := by
  have hl3 := ho.2.1
  intro r
  induction r with
  | nil =>
    intro k h hd hkl g hg
    obtain ⟨hka, rq, kq⟩ := g.q
    have hk := List.drop_eq_nil_iff.mp hd
    have g0 := hg.1
    have KP := m_putM (γ := γ) (v := 93) (l := []) g
    refine aw_iload_n dX12_putPredicate_8 rfl ?_
    refine aw_aload_n dX12_putPredicate_9 rfl ?_
    refine aw_getr' (j := 12) dX12_putPredicate_10 fX12_28 rfl (by assumption) rfl (by assumption) ?_
    refine aw_iload_n dX12_putPredicate_13 rfl ?_
    refine aw_iald' dX12_putPredicate_14 (by assumption) (by omega) (by first | decide | omega) g0 ?_
    refine aw_ic_ge (tgt := 81) dX12_putPredicate_15 rfl (by omega) (by omega) (fun c15 => ?_) (fun c15 => ?_)
    · refine aw_aload_n dX12_putPredicate_81 rfl ?_
      refine aw_bipush dX12_putPredicate_82 rfl ?_
      refine aw_invV_n dX12_putPredicate_84 vX12_put kX12_192 rfl (KP) ⟨_, (by assumption), _, _, rfl⟩ rfl rfl (by decide) (by decide) (by decide) (Nat.le_of_ble_eq_true rfl) ?_
      exact aw_return dX12_putPredicate_87 rfl (Or.inl rfl) ⟨rfl, rfl⟩
    · exact absurd c15 (by omega)
  | cons x r ih =>
    intro k h hd hkl g hg
    obtain ⟨hx, hdr, hlt⟩ := drop_hd hd
    have ox := ho.2.2 x (List.mem_of_getElem? hx)
    rw [List.map_cons, jr_head, List.append_assoc, List.append_assoc] at g ⊢
    have R : ∀ h', gM h' a (wAlt x ++ (jr 43 false (r.map wAlt) ++ [93])) → gP (gi h' (a + 7)) b p → AW γ mX12_putPredicate 3 0 0 28 [(2, vi (k : Int)), (0, vr (some a)), (1, vi b)] [] h' (rN (mputs a h' (wAlt x ++ (jr 43 false (r.map wAlt) ++ [93])))) := by
      intro h' g' hg'
      obtain ⟨hka, rq, kq⟩ := g'.q
      have KC := m_alternativeAt (γ := γ) (h := h') (p := b) (k := (k : Int))
      have I := ih (k + 1) (mputs a h' (wAlt x)) hdr (by omega) (by rw [dec1]; exact g'.ap) (by rw [gi7s]; exact hg')
      rw [dec1, ← mputs_app] at I
      have e : wAlt x = jr 44 (decide (0 = 0)) (x.map wCond) := (jr_t 44 (x.map wCond)).symm
      have L := l_mp37 (γ := γ) (a := a) (b := b) (ab := b + 1 + 22 * (k : Int)) (i := (k : Int)) (Q := rN (mputs a h' (wAlt x ++ (jr 43 false (r.map wAlt) ++ [93])))) ox (by omega) x 0 h' (jr 43 false (r.map wAlt) ++ [93]) rfl (Nat.zero_le _) (by rw [← e]; exact g') (hg'.2 k x hx) (by
        rw [← e]
        refine aw_iinc (k9 := 0) (ls1 := [(2, _), (0, _), (1, _)]) dX12_putPredicate_75 rfl (by decide) rfl ?_
        refine aw_goto (tgt := 8) dX12_putPredicate_78 rfl ?_
        exact I)
      refine aw_iload_n dX12_putPredicate_28 rfl ?_
      refine aw_iload_n dX12_putPredicate_29 rfl ?_
      refine aw_invS_r dX12_putPredicate_30 sX12_alternativeAt kX12_159 rfl (KC) rfl rfl (by decide) (by decide) (by decide) (Nat.le_of_ble_eq_true rfl) ?_
      refine aw_istore_n (ls1 := [(3, _), (2, _), (0, _), (1, _)]) dX12_putPredicate_33 (by decide) rfl ?_
      refine aw_iconst dX12_putPredicate_34 ?_
      refine aw_istore (ls1 := [(4, _), (3, _), (2, _), (0, _), (1, _)]) dX12_putPredicate_35 (by decide) rfl ?_
      refine aw_sub [0, 1, 2, 3, 4] rfl ?_
      exact L
    obtain ⟨hka, rq, kq⟩ := g.q
    have g0 := hg.1
    by_cases q0 : k = 0
    · rw [if_pos q0] at g ⊢
      refine aw_iload_n dX12_putPredicate_8 rfl ?_
      refine aw_aload_n dX12_putPredicate_9 rfl ?_
      refine aw_getr' (j := 12) dX12_putPredicate_10 fX12_28 rfl (by assumption) rfl (by assumption) ?_
      refine aw_iload_n dX12_putPredicate_13 rfl ?_
      refine aw_iald' dX12_putPredicate_14 (by assumption) (by omega) (by first | decide | omega) g0 ?_
      refine aw_ic_ge (tgt := 81) dX12_putPredicate_15 rfl (by omega) (by omega) (fun c15 => ?_) (fun c15 => ?_)
      · exact absurd c15 (by omega)
      · refine aw_iload_n dX12_putPredicate_18 rfl ?_
        refine aw_if_le (tgt := 28) dX12_putPredicate_19 rfl (by omega) (fun c19 => ?_) (fun c19 => ?_)
        · exact R h g hg
        · exact absurd c19 (by omega)
    · rw [if_neg q0] at g ⊢
      have KP := m_putM (γ := γ) (v := 43) g
      refine aw_iload_n dX12_putPredicate_8 rfl ?_
      refine aw_aload_n dX12_putPredicate_9 rfl ?_
      refine aw_getr' (j := 12) dX12_putPredicate_10 fX12_28 rfl (by assumption) rfl (by assumption) ?_
      refine aw_iload_n dX12_putPredicate_13 rfl ?_
      refine aw_iald' dX12_putPredicate_14 (by assumption) (by omega) (by first | decide | omega) g0 ?_
      refine aw_ic_ge (tgt := 81) dX12_putPredicate_15 rfl (by omega) (by omega) (fun c15 => ?_) (fun c15 => ?_)
      · exact absurd c15 (by omega)
      · refine aw_iload_n dX12_putPredicate_18 rfl ?_
        refine aw_if_le (tgt := 28) dX12_putPredicate_19 rfl (by omega) (fun c19 => ?_) (fun c19 => ?_)
        · exact absurd c19 (by omega)
        · refine aw_aload_n dX12_putPredicate_22 rfl ?_
          refine aw_bipush dX12_putPredicate_23 rfl ?_
          refine aw_invV_n dX12_putPredicate_25 vX12_put kX12_192 rfl (KP) ⟨_, (by assumption), _, _, rfl⟩ rfl rfl (by decide) (by decide) (by decide) (Nat.le_of_ble_eq_true rfl) ?_
          exact R (mput a h 43) (gM.cs (c := 43) g) (by rw [gi7p]; exact hg)
theorem m_putPredicate {γ : GG} {h : AH} {a : Nat} {b : Int} {p : TP} {l : List Int} (ho : okP p) (hb : 1 ≤ b ∧ b + 67 ≤ 6537) (g : gM h a (wPred p ++ l)) (hg : gP (gi h (a + 7)) b p) : Call γ mX12_putPredicate 3 0 0 [vr (some a), vi b] h (rN (mputs a h (wPred p))) := by
  obtain ⟨hka, rq, kq⟩ := g.q
  have g := g.lf
  have e : wPred p = 91 :: (jr 43 (decide (0 = 0)) (p.map wAlt) ++ [93]) := by unfold wPred; rw [← jr_t]; rfl
  rw [e] at g ⊢
  have KP := m_putM (γ := γ) g
  have L := l_mp8 (γ := γ) ho hb p 0 (mput a h 91) rfl (Nat.zero_le _) g.cs (by rw [gi7p]; exact hg)
  refine Call.of (ls := [(0, vr (some a)), (1, vi b)]) vX12_putPredicate.1 (Nat.le_of_ble_eq_true rfl) rfl ?_
  refine aw_aload_n dX12_putPredicate_0 rfl ?_
  refine aw_bipush dX12_putPredicate_1 rfl ?_
  refine aw_invV_n dX12_putPredicate_3 vX12_put kX12_192 rfl (KP) ⟨_, (by assumption), _, _, rfl⟩ rfl rfl (by decide) (by decide) (by decide) (Nat.le_of_ble_eq_true rfl) ?_
  refine aw_iconst dX12_putPredicate_6 ?_
  refine aw_istore_n (ls1 := [(2, _), (0, _), (1, _)]) dX12_putPredicate_7 (by decide) rfl ?_
  refine aw_sub [0, 1, 2] rfl ?_
  exact L
theorem l_mq61 {γ : GG} {a : Nat} {b sb : Int} {i : Int} {s : TS} {Q : AR → AH → Prop} (ho : okS s) (hb : 1 ≤ sb ∧ sb + 204 ≤ 6537) : ∀ (r : List TP) (k : Nat) (h : AH) (l : List Int), s.2.drop k = r → k ≤ s.2.length → gM h a (r.flatMap wPred ++ l) → gS (gi h (a + 7)) sb s → AW γ mX12_putPath 4 0 0 90 [(2, vi i), (0, vr (some a)), (1, vi b)] [] (mputs a h (r.flatMap wPred)) Q → AW γ mX12_putPath 4 0 0 61 [(4, vi (k : Int)), (3, vi sb), (2, vi i), (0, vr (some a)), (1, vi b)] [] h Q := by
  have hl3 := ho.2.1
  intro r
  induction r with
  | nil =>
    intro k h l hd hkl g hg kk
    obtain ⟨hka, rq, kq⟩ := g.q
    have hk := List.drop_eq_nil_iff.mp hd
    have g0 := hg.2.2.1
    refine aw_iload dX12_putPath_61 rfl ?_
    refine aw_aload_n dX12_putPath_63 rfl ?_
    refine aw_getr' (j := 12) dX12_putPath_64 fX12_28 rfl (by assumption) rfl (by assumption) ?_
    refine aw_iload_n dX12_putPath_67 rfl ?_
    refine aw_iconst dX12_putPath_68 ?_
    refine aw_iadd dX12_putPath_69 ?_
    refine aw_iald' dX12_putPath_70 (by assumption) (by omega) (by first | decide | omega) g0 ?_
    refine aw_ic_ge (tgt := 90) dX12_putPath_71 rfl (by omega) (by omega) (fun c71 => ?_) (fun c71 => ?_)
    · refine aw_sub [2, 3, 4] rfl ?_
      exact kk
    · exact absurd c71 (by omega)
  | cons x r ih =>
    intro k h l hd hkl g hg kk
    obtain ⟨hx, hdr, hlt⟩ := drop_hd hd
    have ox := ho.2.2 x (List.mem_of_getElem? hx)
    rw [List.flatMap_cons] at g kk
    rw [List.append_assoc] at g
    obtain ⟨hka, rq, kq⟩ := g.q
    have g0 := hg.2.2.1
    have KC := m_predicateAt (γ := γ) (h := h) (p := sb) (k := (k : Int))
    have KP := m_putPredicate (γ := γ) ox (by omega) g (hg.2.2.2 k x hx)
    rw [mputs_app] at kk
    have I := ih (k + 1) (mputs a h (wPred x)) l hdr (by omega) g.ap (by rw [gi7s]; exact hg) kk
    refine aw_iload dX12_putPath_61 rfl ?_
    refine aw_aload_n dX12_putPath_63 rfl ?_
    refine aw_getr' (j := 12) dX12_putPath_64 fX12_28 rfl (by assumption) rfl (by assumption) ?_
    refine aw_iload_n dX12_putPath_67 rfl ?_
    refine aw_iconst dX12_putPath_68 ?_
    refine aw_iadd dX12_putPath_69 ?_
    refine aw_iald' dX12_putPath_70 (by assumption) (by omega) (by first | decide | omega) g0 ?_
    refine aw_ic_ge (tgt := 90) dX12_putPath_71 rfl (by omega) (by omega) (fun c71 => ?_) (fun c71 => ?_)
    · exact absurd c71 (by omega)
    · refine aw_aload_n dX12_putPath_74 rfl ?_
      refine aw_iload_n dX12_putPath_75 rfl ?_
      refine aw_iload dX12_putPath_76 rfl ?_
      refine aw_invS_r dX12_putPath_78 sX12_predicateAt kX12_168 rfl (KC) rfl rfl (by decide) (by decide) (by decide) (Nat.le_of_ble_eq_true rfl) ?_
      refine aw_invV_n dX12_putPath_81 vX12_putPredicate kX12_201 rfl (KP) ⟨_, (by assumption), _, _, rfl⟩ rfl rfl (by decide) (by decide) (by decide) (Nat.le_of_ble_eq_true rfl) ?_
      refine aw_iinc (k9 := 0) (ls1 := [(4, _), (3, _), (2, _), (0, _), (1, _)]) dX12_putPath_84 rfl (by decide) rfl ?_
      refine aw_goto (tgt := 61) dX12_putPath_87 rfl ?_
      refine aw_sub [0, 1, 2, 3, 4] rfl ?_
      exact I
theorem l_mq2 {γ : GG} {a : Nat} {b : Int} {t : TT} (ho : t.2.length ≤ 8 ∧ ∀ s ∈ t.2, okS s) (hb : 1 ≤ b ∧ b + 1634 ≤ 6537) : ∀ (r : List TS) (k : Nat) (h : AH), t.2.drop k = r → k ≤ t.2.length → gM h a (jr 47 (decide (k = 0 ∧ t.1 = false)) (r.map wStep)) → gT (gi h (a + 7)) b t → AW γ mX12_putPath 4 0 0 2 [(2, vi (k : Int)), (0, vr (some a)), (1, vi b)] [] h (rN (mputs a h (jr 47 (decide (k = 0 ∧ t.1 = false)) (r.map wStep)))) := by
  have hl8 := ho.1
  intro r
  induction r with
  | nil =>
    intro k h hd hkl g hg
    obtain ⟨hka, rq, kq⟩ := g.q
    have hk := List.drop_eq_nil_iff.mp hd
    have g1 := hg.2.1
    refine aw_iload_n dX12_putPath_2 rfl ?_
    refine aw_aload_n dX12_putPath_3 rfl ?_
    refine aw_getr' (j := 12) dX12_putPath_4 fX12_28 rfl (by assumption) rfl (by assumption) ?_
    refine aw_iload_n dX12_putPath_7 rfl ?_
    refine aw_iconst dX12_putPath_8 ?_
    refine aw_iadd dX12_putPath_9 ?_
    refine aw_iald' dX12_putPath_10 (by assumption) (by omega) (by first | decide | omega) g1 ?_
    refine aw_ic_ge (tgt := 96) dX12_putPath_11 rfl (by omega) (by omega) (fun c11 => ?_) (fun c11 => ?_)
    · exact aw_return dX12_putPath_96 rfl (Or.inl rfl) ⟨rfl, rfl⟩
    · exact absurd c11 (by omega)
  | cons x r ih =>
    intro k h hd hkl g hg
    obtain ⟨hx, hdr, hlt⟩ := drop_hd hd
    have ox := ho.2 x (List.mem_of_getElem? hx)
    rw [List.map_cons, jr_hd2] at g ⊢
    have ed : decide (k + 1 = 0 ∧ t.1 = false) = false := by simp
    have R : ∀ h', gM h' a (wStep x ++ jr 47 false (r.map wStep)) → gT (gi h' (a + 7)) b t → AW γ mX12_putPath 4 0 0 34 [(2, vi (k : Int)), (0, vr (some a)), (1, vi b)] [] h' (rN (mputs a h' (wStep x ++ jr 47 false (r.map wStep)))) := by
      intro h' g' hg'
      obtain ⟨hka, rq, kq⟩ := g'.q
      have KC := m_stepAt (γ := γ) (h := h') (p := b) (k := (k : Int))
      have gs := hg'.2.2 k x hx
      have I := ih (k + 1) (mputs a h' (wStep x)) hdr (by omega) (by rw [ed]; exact g'.ap) (by rw [gi7s]; exact hg')
      rw [ed, ← mputs_app] at I
      have g2 : gM h' a (wTest x.1 ++ (x.2.flatMap wPred ++ jr 47 false (r.map wStep))) := by
        have := g'
        unfold wStep at this
        rw [List.append_assoc] at this
        exact this
      have KT := m_testM (γ := γ) ox.1 g2
      have e0 := gs.1
      have e1 := gs.2.1
      have L := l_mq61 (γ := γ) (a := a) (b := b) (sb := b + 2 + 204 * (k : Int)) (i := (k : Int)) (Q := rN (mputs a h' (wStep x ++ jr 47 false (r.map wStep)))) ox (by omega) x.2 0 (mputs a h' (wTest x.1)) (jr 47 false (r.map wStep)) rfl (Nat.zero_le _) g2.ap (by rw [gi7s]; exact gs) (by
        rw [← mputs_app]
        refine aw_iinc (k9 := 0) (ls1 := [(2, _), (0, _), (1, _)]) dX12_putPath_90 rfl (by decide) rfl ?_
        refine aw_goto (tgt := 2) dX12_putPath_93 rfl ?_
        exact I)
      refine aw_iload_n dX12_putPath_34 rfl ?_
      refine aw_iload_n dX12_putPath_35 rfl ?_
      refine aw_invS_r dX12_putPath_36 sX12_stepAt kX12_165 rfl (KC) rfl rfl (by decide) (by decide) (by decide) (Nat.le_of_ble_eq_true rfl) ?_
      refine aw_istore_n (ls1 := [(3, _), (2, _), (0, _), (1, _)]) dX12_putPath_39 (by decide) rfl ?_
      refine aw_aload_n dX12_putPath_40 rfl ?_
      refine aw_aload_n dX12_putPath_41 rfl ?_
      refine aw_getr' (j := 12) dX12_putPath_42 fX12_28 rfl (by assumption) rfl (by assumption) ?_
      refine aw_iload_n dX12_putPath_45 rfl ?_
      refine aw_iald' dX12_putPath_46 (by assumption) (by omega) (by first | decide | omega) e0 ?_
      refine aw_aload_n dX12_putPath_47 rfl ?_
      refine aw_getr' (j := 12) dX12_putPath_48 fX12_28 rfl (by assumption) rfl (by assumption) ?_
      refine aw_iload_n dX12_putPath_51 rfl ?_
      refine aw_iconst dX12_putPath_52 ?_
      refine aw_iadd dX12_putPath_53 ?_
      refine aw_iald' dX12_putPath_54 (by assumption) (by omega) (by first | decide | omega) e1 ?_
      refine aw_invV_n dX12_putPath_55 vX12_putTest kX12_195 rfl (KT) ⟨_, (by assumption), _, _, rfl⟩ rfl rfl (by decide) (by decide) (by decide) (Nat.le_of_ble_eq_true rfl) ?_
      refine aw_iconst dX12_putPath_58 ?_
      refine aw_istore (ls1 := [(4, _), (3, _), (2, _), (0, _), (1, _)]) dX12_putPath_59 (by decide) rfl ?_
      refine aw_sub [0, 1, 2, 3, 4] rfl ?_
      exact L
    obtain ⟨hka, rq, kq⟩ := g.q
    have g1 := hg.2.1
    have g0 := hg.1
    by_cases q0 : k = 0 ∧ t.1 = false
    · rw [if_pos (by simpa using q0)] at g ⊢
      rw [q0.2] at g0
      have k0 := q0.1
      refine aw_iload_n dX12_putPath_2 rfl ?_
      refine aw_aload_n dX12_putPath_3 rfl ?_
      refine aw_getr' (j := 12) dX12_putPath_4 fX12_28 rfl (by assumption) rfl (by assumption) ?_
      refine aw_iload_n dX12_putPath_7 rfl ?_
      refine aw_iconst dX12_putPath_8 ?_
      refine aw_iadd dX12_putPath_9 ?_
      refine aw_iald' dX12_putPath_10 (by assumption) (by omega) (by first | decide | omega) g1 ?_
      refine aw_ic_ge (tgt := 96) dX12_putPath_11 rfl (by omega) (by omega) (fun c11 => ?_) (fun c11 => ?_)
      · exact absurd c11 (by omega)
      · refine aw_iload_n dX12_putPath_14 rfl ?_
        refine aw_if_gt (tgt := 28) dX12_putPath_15 rfl (by omega) (fun c15 => ?_) (fun c15 => ?_)
        · exact absurd c15 (by omega)
        · refine aw_aload_n dX12_putPath_18 rfl ?_
          refine aw_getr' (j := 12) dX12_putPath_19 fX12_28 rfl (by assumption) rfl (by assumption) ?_
          refine aw_iload_n dX12_putPath_22 rfl ?_
          refine aw_iald' dX12_putPath_23 (by assumption) (by omega) (by first | decide | omega) (g0.trans (by rfl : bI false = 0)) ?_
          refine aw_iconst dX12_putPath_24 ?_
          refine aw_ic_ne (tgt := 34) dX12_putPath_25 rfl (by omega) (by omega) (fun c25 => ?_) (fun c25 => ?_)
          · exact R h g hg
          · exact absurd c25 (by omega)
    · rw [if_neg (by simpa using q0)] at g ⊢
      have KP := m_putM (γ := γ) (v := 47) g
      by_cases q1 : k = 0
      · have t1 : t.1 = true := by
          cases e : t.1 with
          | true => rfl
          | false => exact absurd ⟨q1, e⟩ q0
        rw [t1] at g0
        refine aw_iload_n dX12_putPath_2 rfl ?_
        refine aw_aload_n dX12_putPath_3 rfl ?_
        refine aw_getr' (j := 12) dX12_putPath_4 fX12_28 rfl (by assumption) rfl (by assumption) ?_
        refine aw_iload_n dX12_putPath_7 rfl ?_
        refine aw_iconst dX12_putPath_8 ?_
        refine aw_iadd dX12_putPath_9 ?_
        refine aw_iald' dX12_putPath_10 (by assumption) (by omega) (by first | decide | omega) g1 ?_
        refine aw_ic_ge (tgt := 96) dX12_putPath_11 rfl (by omega) (by omega) (fun c11 => ?_) (fun c11 => ?_)
        · exact absurd c11 (by omega)
        · refine aw_iload_n dX12_putPath_14 rfl ?_
          refine aw_if_gt (tgt := 28) dX12_putPath_15 rfl (by omega) (fun c15 => ?_) (fun c15 => ?_)
          · exact absurd c15 (by omega)
          · refine aw_aload_n dX12_putPath_18 rfl ?_
            refine aw_getr' (j := 12) dX12_putPath_19 fX12_28 rfl (by assumption) rfl (by assumption) ?_
            refine aw_iload_n dX12_putPath_22 rfl ?_
            refine aw_iald' dX12_putPath_23 (by assumption) (by omega) (by first | decide | omega) (g0.trans (by rfl : bI true = 1)) ?_
            refine aw_iconst dX12_putPath_24 ?_
            refine aw_ic_ne (tgt := 34) dX12_putPath_25 rfl (by omega) (by omega) (fun c25 => ?_) (fun c25 => ?_)
            · exact absurd c25 (by omega)
            · refine aw_aload_n dX12_putPath_28 rfl ?_
              refine aw_bipush dX12_putPath_29 rfl ?_
              refine aw_invV_n dX12_putPath_31 vX12_put kX12_192 rfl (KP) ⟨_, (by assumption), _, _, rfl⟩ rfl rfl (by decide) (by decide) (by decide) (Nat.le_of_ble_eq_true rfl) ?_
              exact R (mput a h 47) (gM.cs (c := 47) g) (by rw [gi7p]; exact hg)
      · skip
        refine aw_iload_n dX12_putPath_2 rfl ?_
        refine aw_aload_n dX12_putPath_3 rfl ?_
        refine aw_getr' (j := 12) dX12_putPath_4 fX12_28 rfl (by assumption) rfl (by assumption) ?_
        refine aw_iload_n dX12_putPath_7 rfl ?_
        refine aw_iconst dX12_putPath_8 ?_
        refine aw_iadd dX12_putPath_9 ?_
        refine aw_iald' dX12_putPath_10 (by assumption) (by omega) (by first | decide | omega) g1 ?_
        refine aw_ic_ge (tgt := 96) dX12_putPath_11 rfl (by omega) (by omega) (fun c11 => ?_) (fun c11 => ?_)
        · exact absurd c11 (by omega)
        · refine aw_iload_n dX12_putPath_14 rfl ?_
          refine aw_if_gt (tgt := 28) dX12_putPath_15 rfl (by omega) (fun c15 => ?_) (fun c15 => ?_)
          · refine aw_aload_n dX12_putPath_28 rfl ?_
            refine aw_bipush dX12_putPath_29 rfl ?_
            refine aw_invV_n dX12_putPath_31 vX12_put kX12_192 rfl (KP) ⟨_, (by assumption), _, _, rfl⟩ rfl rfl (by decide) (by decide) (by decide) (Nat.le_of_ble_eq_true rfl) ?_
            exact R (mput a h 47) (gM.cs (c := 47) g) (by rw [gi7p]; exact hg)
          · exact absurd c15 (by omega)
theorem m_putPath {γ : GG} {h : AH} {a : Nat} {b : Int} {t : TT} {l : List Int} (ho : okW t) (hb : 1 ≤ b ∧ b + 1634 ≤ 6537) (g : gM h a (wPath t ++ l)) (hg : gT (gi h (a + 7)) b t) : Call γ mX12_putPath 4 0 0 [vr (some a), vi b] h (rN (mputs a h (wPath t))) := by
  obtain ⟨hka, rq, kq⟩ := g.q
  have g := g.lf
  have e : wPath t = jr 47 (decide (0 = 0 ∧ t.1 = false)) (t.2.map wStep) := by
    obtain ⟨o1, -, -⟩ := ho
    obtain ⟨ab, l⟩ := t
    dsimp only at o1 ⊢
    match l, o1 with
    | x :: r, _ => cases ab <;> simp [wPath, jn, jr, jr_f]
  rw [e] at g ⊢
  have L := l_mq2 (γ := γ) ho.2 hb t.2 0 h rfl (Nat.zero_le _) g hg
  refine Call.of (ls := [(0, vr (some a)), (1, vi b)]) vX12_putPath.1 (Nat.le_of_ble_eq_true rfl) rfl ?_
  refine aw_iconst dX12_putPath_0 ?_
  refine aw_istore_n (ls1 := [(2, _), (0, _), (1, _)]) dX12_putPath_1 (by decide) rfl ?_
  refine aw_sub [0, 1, 2] rfl ?_
  exact L
theorem l_ma7 {γ : GG} {a : Nat} {q : TQ} (ho : okQ q) : ∀ (r : TQ) (k : Nat) (h : AH), q.drop k = r → k ≤ q.length → gM h a (jr 124 (decide (k = 0)) (r.map wPath)) → gQ (gi h (a + 7)) q → AW γ mX12_putAll 5 0 0 7 [(1, vi (k : Int)), (0, vr (some a))] [] h (rN (mputs a h (jr 124 (decide (k = 0)) (r.map wPath)))) := by
  have hl4 := ho.1
  intro r
  induction r with
  | nil =>
    intro k h hd hkl g hg
    obtain ⟨hka, rq, kq⟩ := g.q
    have hk := List.drop_eq_nil_iff.mp hd
    have g1 := hg.1
    refine aw_iload_n dX12_putAll_7 rfl ?_
    refine aw_aload_n dX12_putAll_8 rfl ?_
    refine aw_getr' (j := 12) dX12_putAll_9 fX12_28 rfl (by assumption) rfl (by assumption) ?_
    refine aw_iconst dX12_putAll_12 ?_
    refine aw_iald' dX12_putAll_13 (by assumption) (by omega) (by first | decide | omega) g1 ?_
    refine aw_ic_ge (tgt := 41) dX12_putAll_14 rfl (by omega) (by omega) (fun c14 => ?_) (fun c14 => ?_)
    · exact aw_return dX12_putAll_41 rfl (Or.inl rfl) ⟨rfl, rfl⟩
    · exact absurd c14 (by omega)
  | cons x r ih =>
    intro k h hd hkl g hg
    obtain ⟨hx, hdr, hlt⟩ := drop_hd hd
    have ox := ho.2 x (List.mem_of_getElem? hx)
    rw [List.map_cons, jr_head] at g ⊢
    have R : ∀ h', gM h' a (wPath x ++ jr 124 false (r.map wPath)) → gQ (gi h' (a + 7)) q → AW γ mX12_putAll 5 0 0 27 [(1, vi (k : Int)), (0, vr (some a))] [] h' (rN (mputs a h' (wPath x ++ jr 124 false (r.map wPath)))) := by
      intro h' g' hg'
      obtain ⟨hka, rq, kq⟩ := g'.q
      have KC := m_pathAt (γ := γ) (h := h') (k := (k : Int))
      have KP := m_putPath (γ := γ) ox (by omega) g' (hg'.2 k x hx)
      have I := ih (k + 1) (mputs a h' (wPath x)) hdr (by omega) (by rw [dec1]; exact g'.ap) (by rw [gi7s]; exact hg')
      rw [dec1, ← mputs_app] at I
      refine aw_aload_n dX12_putAll_27 rfl ?_
      refine aw_iload_n dX12_putAll_28 rfl ?_
      refine aw_invS_r dX12_putAll_29 sX12_pathAt kX12_180 rfl (KC) rfl rfl (by decide) (by decide) (by decide) (Nat.le_of_ble_eq_true rfl) ?_
      refine aw_invV_n dX12_putAll_32 vX12_putPath kX12_204 rfl (KP) ⟨_, (by assumption), _, _, rfl⟩ rfl rfl (by decide) (by decide) (by decide) (Nat.le_of_ble_eq_true rfl) ?_
      refine aw_iinc (k9 := 0) (ls1 := [(1, _), (0, _)]) dX12_putAll_35 rfl (by decide) rfl ?_
      refine aw_goto (tgt := 7) dX12_putAll_38 rfl ?_
      exact I
    obtain ⟨hka, rq, kq⟩ := g.q
    have g1 := hg.1
    by_cases q0 : k = 0
    · rw [if_pos q0] at g ⊢
      refine aw_iload_n dX12_putAll_7 rfl ?_
      refine aw_aload_n dX12_putAll_8 rfl ?_
      refine aw_getr' (j := 12) dX12_putAll_9 fX12_28 rfl (by assumption) rfl (by assumption) ?_
      refine aw_iconst dX12_putAll_12 ?_
      refine aw_iald' dX12_putAll_13 (by assumption) (by omega) (by first | decide | omega) g1 ?_
      refine aw_ic_ge (tgt := 41) dX12_putAll_14 rfl (by omega) (by omega) (fun c14 => ?_) (fun c14 => ?_)
      · exact absurd c14 (by omega)
      · refine aw_iload_n dX12_putAll_17 rfl ?_
        refine aw_if_le (tgt := 27) dX12_putAll_18 rfl (by omega) (fun c18 => ?_) (fun c18 => ?_)
        · exact R h g hg
        · exact absurd c18 (by omega)
    · rw [if_neg q0] at g ⊢
      have KP := m_putM (γ := γ) (v := 124) g
      refine aw_iload_n dX12_putAll_7 rfl ?_
      refine aw_aload_n dX12_putAll_8 rfl ?_
      refine aw_getr' (j := 12) dX12_putAll_9 fX12_28 rfl (by assumption) rfl (by assumption) ?_
      refine aw_iconst dX12_putAll_12 ?_
      refine aw_iald' dX12_putAll_13 (by assumption) (by omega) (by first | decide | omega) g1 ?_
      refine aw_ic_ge (tgt := 41) dX12_putAll_14 rfl (by omega) (by omega) (fun c14 => ?_) (fun c14 => ?_)
      · exact absurd c14 (by omega)
      · refine aw_iload_n dX12_putAll_17 rfl ?_
        refine aw_if_le (tgt := 27) dX12_putAll_18 rfl (by omega) (fun c18 => ?_) (fun c18 => ?_)
        · exact absurd c18 (by omega)
        · refine aw_aload_n dX12_putAll_21 rfl ?_
          refine aw_bipush dX12_putAll_22 rfl ?_
          refine aw_invV_n dX12_putAll_24 vX12_put kX12_192 rfl (KP) ⟨_, (by assumption), _, _, rfl⟩ rfl rfl (by decide) (by decide) (by decide) (Nat.le_of_ble_eq_true rfl) ?_
          exact R (mput a h 124) (gM.cs (c := 124) g) (by rw [gi7p]; exact hg)
theorem gi_a14 (h : AH) (a b : Nat) (v : Int) (hb : b ≠ a) : gi (si h a 14 v) b = gi h b := by
  funext k
  exact gi_ne (Or.inl hb)
theorem m_putAll {γ : GG} {h : AH} {a : Nat} {q : TQ} (ho : okQ q) (hM : shM h a) (hl : (wQry q).length ≤ 1000) (hg : gQ (gi h (a + 7)) q) : Call γ mX12_putAll 5 0 0 [vr (some a)] h (rN (mputs a (si h a 14 0) (wQry q))) := by
  have hka := hM.1
  have e : wQry q = jr 124 (decide (0 = 0)) (q.map wPath) := (jr_t 124 (q.map wPath)).symm
  have g : gM (si h a 14 0) a (wQry q) := ⟨hM, by rw [gi_at rfl rfl]; omega, by rw [gi_at rfl rfl]; omega⟩
  rw [e] at g ⊢
  have L := l_ma7 (γ := γ) ho q 0 (si h a 14 0) rfl (Nat.zero_le _) g (by rw [gi_a14 _ _ _ _ (by omega)]; exact hg)
  refine Call.of (ls := [(0, vr (some a))]) vX12_putAll.1 (Nat.le_of_ble_eq_true rfl) rfl ?_
  refine aw_aload_n dX12_putAll_0 rfl ?_
  refine aw_iconst dX12_putAll_1 ?_
  refine aw_puti' (j := 14) rfl dX12_putAll_2 fX12_186 (by assumption) rfl ?_
  refine aw_iconst dX12_putAll_5 ?_
  refine aw_istore_n (ls1 := [(1, _), (0, _)]) dX12_putAll_6 (by decide) rfl ?_
  refine aw_sub [0, 1] rfl ?_
  exact L
