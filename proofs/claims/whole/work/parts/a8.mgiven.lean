/-! ===== the model: given, differences ===== -/
def giV (T : Tr) (q : TQ) (pa st v : Nat) : Option Int := (q[pa]?).bind (fun t => (t.2[st]?).map (fun s => ((fb_ct (gvN T s v s.2.length) 40 : Nat) : Int)))
def opGiv (F : FS) (p pa st v : Int) : Int × Int × FS :=
  if ¬ ((0 ≤ p ∧ p ≤ 3) ∧ 0 ≤ v ∧ v < (tn F.1.1 : Int)) then (1, 0, F) else if F.1.2 p.toNat = [] then (2, 0, F) else if ¬ (0 ≤ pa ∧ 0 ≤ st) then (3, 0, F) else match giV F.1.1 (F.1.2 p.toNat) pa.toNat st.toNat v.toNat with
    | none => (3, 0, F)
    | some z => (0, z, F)
def difS (T : Tr) (q r : TQ) (c : Nat) : Bool := !allN (fun k => selF T q c k == selF T r c k) 40
def opDif (F : FS) (p r : Int) : Int × Int × FS :=
  if ¬ ((0 ≤ p ∧ p ≤ 3) ∧ 0 ≤ r ∧ r ≤ 3) then (1, 0, F) else if F.1.2 p.toNat = [] ∨ F.1.2 r.toNat = [] then (2, 0, F) else (0, ((fb_ct (difS F.1.1 (F.1.2 p.toNat) (F.1.2 r.toNat)) (tn F.1.1) : Nat) : Int), F)
theorem SGv_k {a : Nat} : ∀ b j, SGv a b j → SK a b j := fun b j z => by unfold SGv SXt SI at z; unfold SK; omega
theorem m_given {γ : GG} {h : AH} {a : Nat} {F : FS} {p pa st v : Int} (hF : isF h a F) (hp : (-2147483648 ≤ p ∧ p ≤ 2147483647)) (hpa : (-2147483648 ≤ pa ∧ pa ≤ 2147483647)) (hst : (-2147483648 ≤ st ∧ st ≤ 2147483647)) (hv : (-2147483648 ≤ v ∧ v ≤ 2147483647)) : Call γ mX12_given 11 0 0 [vr (some a), vi p, vi pa, vi st, vi v] h (rM h a (opGiv F p pa st v)) := by
  obtain ⟨S, U, tx⟩ := F
  obtain ⟨T, qs⟩ := S
  have hm : isMd h a (T, qs) U tx := hF
  have oT : okTr T := hm.2.2.1.1
  have o9 := oT.o
  have n40 := o9.2.1
  have n1 := o9.1
  obtain ⟨hka, -, -⟩ := hm.1.q
  obtain ⟨rm, km⟩ := hm.1.m
  have g0 : gi h (a + 1) 0 = (tn T : Int) := hm.2.1.1.1
  have m5 : isMd (si h a 5 0) a (T, qs) U tx := hm.eqk (E5 (v := 0))
  have KP := m_isPlace (γ := γ) (h := h) hp
  have KN := m_isNode (γ := γ) hm.1 hv g0 (by omega)
  unfold opGiv
  dsimp only
  by_cases c1 : 0 ≤ p ∧ p ≤ 3
  · rw [if_pos c1] at KP
    by_cases c2 : 0 ≤ v ∧ v < (tn T : Int)
    · rw [if_neg (fun z => z ⟨c1, c2⟩)]
      rw [if_pos c2] at KN
      obtain ⟨u, rfl⟩ := Int.eq_ofNat_of_zero_le c1.1
      obtain ⟨x, rfl⟩ := Int.eq_ofNat_of_zero_le c2.1
      rw [Int.toNat_natCast, Int.toNat_natCast]
      have hu : u < 4 := by omega
      have hx : x < tn T := by omega
      have KH := m_has (γ := γ) hm hu
      have KH : Call γ mX12_has 0 0 0 [vr (some a), vi (u : Int)] h (rV (vi (if qs u = [] then 0 else 1)) h) := KH
      have oq : okQ (qs u) := (hm.2.2.1.2 u hu).1
      have q4 := oq.1
      by_cases c3 : qs u = []
      · rw [if_pos c3]
        rw [if_pos c3] at KH
        refine Call.of (ls := [(0, vr (some a)), (1, vi (u : Int)), (2, vi pa), (3, vi st), (4, vi (x : Int))]) vX12_given.1 (Nat.le_of_ble_eq_true rfl) rfl ?_
        refine aw_aload_n dX12_given_0 rfl ?_
        refine aw_iload_n dX12_given_1 rfl ?_
        refine aw_invS_r dX12_given_2 sX12_isPlace kX12_217 rfl (KP) rfl rfl (by decide) (by decide) (by decide) (Nat.le_of_ble_eq_true rfl) ?_
        refine aw_if_eq (tgt := 17) dX12_given_5 rfl (by omega) (fun c5 => ?_) (fun c5 => ?_)
        · exact absurd c5 (by omega)
        · refine aw_aload_n dX12_given_8 rfl ?_
          refine aw_iload dX12_given_9 rfl ?_
          refine aw_invV_r dX12_given_11 vX12_isNode kX12_77 rfl (KN) ⟨_, (by assumption), _, _, rfl⟩ rfl rfl (by decide) (by decide) (by decide) (Nat.le_of_ble_eq_true rfl) ?_
          refine aw_if_ne (tgt := 21) dX12_given_14 rfl (by omega) (fun c14 => ?_) (fun c14 => ?_)
          · refine aw_aload_n dX12_given_21 rfl ?_
            refine aw_iload_n dX12_given_22 rfl ?_
            refine aw_invV_r dX12_given_23 vX12_has kX12_223 rfl (KH) ⟨_, (by assumption), _, _, rfl⟩ rfl rfl (by decide) (by decide) (by decide) (Nat.le_of_ble_eq_true rfl) ?_
            refine aw_if_eq (tgt := 33) dX12_given_26 rfl (by omega) (fun c26 => ?_) (fun c26 => ?_)
            · refine aw_iconst dX12_given_33 ?_
              refine aw_puti' (j := 5) rfl dX12_given_34 fX12_62 (by assumption) rfl ?_
              refine aw_aload_n dX12_given_37 rfl ?_
              refine aw_geti' (j := 5) dX12_given_38 fX12_62 rfl (by assumption) rfl (gi_at rfl rfl) ?_
              refine aw_if_eq (tgt := 46) dX12_given_41 rfl (by omega) (fun c41 => ?_) (fun c41 => ?_)
              · exact absurd c41 (by omega)
              · refine aw_iconst dX12_given_44 ?_
                exact aw_ireturn dX12_given_45 rfl (Or.inl rfl) ⟨rfl, rM_err hF 2⟩
            · exact absurd c26 (by omega)
          · exact absurd c14 (by omega)
      · rw [if_neg c3]
        rw [if_neg c3] at KH
        have KT := m_take9 (γ := γ) m5 hu c3
        have KT : Call γ mX12_take 10 0 0 [vr (some a), vi (u : Int)] (si h a 5 0) (rF (fun h' => eqG (ST9 a) (si h a 5 0) h' ∧ gQ (gi h' (a + 7)) (qs u))) := KT
        by_cases c4 : 0 ≤ pa ∧ pa ≤ ((qs u).length : Int) - 1
        · obtain ⟨y, rfl⟩ := Int.eq_ofNat_of_zero_le c4.1
          obtain ⟨t, ht⟩ : ∃ t, (qs u)[y]? = some t := ⟨_, List.getElem?_eq_getElem (by omega)⟩
          have ot := oq.2 t (List.mem_of_getElem? ht)
          have o8 := ot.2.1
          have KPa := fun H : AH => m_pathAt (γ := γ) (h := H) (k := (y : Int))
          by_cases d5 : 0 ≤ st ∧ st ≤ (t.2.length : Int) - 1
          · rw [if_neg (fun z => z ⟨c4.1, d5.1⟩)]
            obtain ⟨z, rfl⟩ := Int.eq_ofNat_of_zero_le d5.1
            obtain ⟨s, hs⟩ : ∃ s, t.2[z]? = some s := ⟨_, List.getElem?_eq_getElem (by omega)⟩
            have os := ot.2.2 s (List.mem_of_getElem? hs)
            have eg : giV T (qs u) ((y : Int)).toNat ((z : Int)).toNat x = some ((fb_ct (gvN T s x s.2.length) 40 : Nat) : Int) := by
              unfold giV
              rw [Int.toNat_natCast, Int.toNat_natCast, ht, Option.bind_some, hs]
              rfl
            rw [eg]
            dsimp only
            have KSt := fun H : AH => m_stepAt (γ := γ) (h := H) (p := 1 + 1634 * (y : Int)) (k := (z : Int))
            refine Call.of (ls := [(0, vr (some a)), (1, vi (u : Int)), (2, vi (y : Int)), (3, vi (z : Int)), (4, vi (x : Int))]) vX12_given.1 (Nat.le_of_ble_eq_true rfl) rfl ?_
            refine aw_aload_n dX12_given_0 rfl ?_
            refine aw_iload_n dX12_given_1 rfl ?_
            refine aw_invS_r dX12_given_2 sX12_isPlace kX12_217 rfl (KP) rfl rfl (by decide) (by decide) (by decide) (Nat.le_of_ble_eq_true rfl) ?_
            refine aw_if_eq (tgt := 17) dX12_given_5 rfl (by omega) (fun c5 => ?_) (fun c5 => ?_)
            · exact absurd c5 (by omega)
            · refine aw_aload_n dX12_given_8 rfl ?_
              refine aw_iload dX12_given_9 rfl ?_
              refine aw_invV_r dX12_given_11 vX12_isNode kX12_77 rfl (KN) ⟨_, (by assumption), _, _, rfl⟩ rfl rfl (by decide) (by decide) (by decide) (Nat.le_of_ble_eq_true rfl) ?_
              refine aw_if_ne (tgt := 21) dX12_given_14 rfl (by omega) (fun c14 => ?_) (fun c14 => ?_)
              · refine aw_aload_n dX12_given_21 rfl ?_
                refine aw_iload_n dX12_given_22 rfl ?_
                refine aw_invV_r dX12_given_23 vX12_has kX12_223 rfl (KH) ⟨_, (by assumption), _, _, rfl⟩ rfl rfl (by decide) (by decide) (by decide) (Nat.le_of_ble_eq_true rfl) ?_
                refine aw_if_eq (tgt := 33) dX12_given_26 rfl (by omega) (fun c26 => ?_) (fun c26 => ?_)
                · exact absurd c26 (by omega)
                · refine aw_iconst dX12_given_29 ?_
                  refine aw_goto (tgt := 34) dX12_given_30 rfl ?_
                  refine aw_puti' (j := 5) rfl dX12_given_34 fX12_62 (by assumption) rfl ?_
                  refine aw_aload_n dX12_given_37 rfl ?_
                  refine aw_geti' (j := 5) dX12_given_38 fX12_62 rfl (by assumption) rfl (gi_at rfl rfl) ?_
                  refine aw_if_eq (tgt := 46) dX12_given_41 rfl (by omega) (fun c41 => ?_) (fun c41 => ?_)
                  · refine aw_aload_n dX12_given_46 rfl ?_
                    refine aw_iload_n dX12_given_47 rfl ?_
                    refine aw_invV_f dX12_given_48 vX12_take kX12_235 rfl (KT) ⟨_, (by assumption), _, _, rfl⟩ rfl rfl (by decide) (by decide) (by decide) (Nat.le_of_ble_eq_true rfl) (fun H1 hP9 => ?_)
                    obtain ⟨E1, G1⟩ := hP9
                    have m1 : isMd H1 a (T, qs) U tx := m5.eqk (E1.mono ST9_k)
                    have hka1 := m1.1.1
                    have gq : gi H1 (a + 7) 0 = ((qs u).length : Int) := G1.1
                    obtain ⟨-, rq1, kq1⟩ := m1.1.q
                    have KI := m_in (γ := γ) (h := H1) (v := (y : Int)) (l := 0) (m := ((qs u).length : Int) - 1) hpa (by omega) (by omega)
                    have KF := m_fails (γ := γ) (h := H1) (v := 3) hka1
                    rw [if_pos c4] at KI
                    have gp : gi H1 (a + 7) (1 + 1634 * (y : Int) + 1) = (t.2.length : Int) := (G1.2 y t ht).2.1
                    have KJ := m_in (γ := γ) (h := H1) (v := (z : Int)) (l := 0) (m := (t.2.length : Int) - 1) hst (by omega) (by omega)
                    rw [if_pos d5] at KJ
                    have KG := m_give (γ := γ) (v := x) (b := 1 + 1634 * (y : Int) + 2 + 204 * (z : Int)) (s := s) (T := T) m1.1 m1.2.1.1 oT hx (by omega) os ((G1.2 y t ht).2.2 z s hs)
                    have ll : (gvL T s x s.2.length).length = fb_ct (gvN T s x s.2.length) (tn T) := orL_len _ _ _
                    rw [← gv_40 n40] at ll
                    refine aw_iload_n dX12_given_51 rfl ?_
                    refine aw_iconst dX12_given_52 ?_
                    refine aw_aload_n dX12_given_53 rfl ?_
                    refine aw_getr' (j := 12) dX12_given_54 fX12_28 rfl (by assumption) rfl (by assumption) ?_
                    refine aw_iconst dX12_given_57 ?_
                    refine aw_iald' dX12_given_58 (by assumption) (by omega) (by first | decide | omega) gq ?_
                    refine aw_iconst dX12_given_59 ?_
                    refine aw_isub dX12_given_60 ?_
                    refine aw_invS_r dX12_given_61 sX12_in kX12_69 rfl (KI) rfl rfl (by decide) (by decide) (by decide) (Nat.le_of_ble_eq_true rfl) ?_
                    refine aw_if_eq (tgt := 88) dX12_given_64 rfl (by omega) (fun c64 => ?_) (fun c64 => ?_)
                    · exact absurd c64 (by omega)
                    · refine aw_iload_n dX12_given_67 rfl ?_
                      refine aw_iconst dX12_given_68 ?_
                      refine aw_aload_n dX12_given_69 rfl ?_
                      refine aw_getr' (j := 12) dX12_given_70 fX12_28 rfl (by assumption) rfl (by assumption) ?_
                      refine aw_iload_n dX12_given_73 rfl ?_
                      refine aw_invS_r dX12_given_74 sX12_pathAt kX12_180 rfl (KPa H1) rfl rfl (by decide) (by decide) (by decide) (Nat.le_of_ble_eq_true rfl) ?_
                      refine aw_iconst dX12_given_77 ?_
                      refine aw_iadd dX12_given_78 ?_
                      refine aw_iald' dX12_given_79 (by assumption) (by omega) (by first | decide | omega) gp ?_
                      refine aw_iconst dX12_given_80 ?_
                      refine aw_isub dX12_given_81 ?_
                      refine aw_invS_r dX12_given_82 sX12_in kX12_69 rfl (KJ) rfl rfl (by decide) (by decide) (by decide) (Nat.le_of_ble_eq_true rfl) ?_
                      refine aw_if_ne (tgt := 94) dX12_given_85 rfl (by omega) (fun c85 => ?_) (fun c85 => ?_)
                      · refine aw_aload_n dX12_given_94 rfl ?_
                        refine aw_iload_n dX12_given_95 rfl ?_
                        refine aw_invS_r dX12_given_96 sX12_pathAt kX12_180 rfl (KPa H1) rfl rfl (by decide) (by decide) (by decide) (Nat.le_of_ble_eq_true rfl) ?_
                        refine aw_iload_n dX12_given_99 rfl ?_
                        refine aw_invS_r dX12_given_100 sX12_stepAt kX12_165 rfl (KSt H1) rfl rfl (by decide) (by decide) (by decide) (Nat.le_of_ble_eq_true rfl) ?_
                        refine aw_iload dX12_given_103 rfl ?_
                        refine aw_invV_f dX12_given_105 vX12_give kX12_260 rfl (KG) ⟨_, (by assumption), _, _, rfl⟩ rfl rfl (by decide) (by decide) (by decide) (Nat.le_of_ble_eq_true rfl) (fun H2 hP9 => ?_)
                        obtain ⟨V2, E2⟩ := hP9
                        have hka2 := (E2.1 a).trans hka1
                        have g18 := V2.1
                        rw [ll] at g18
                        refine aw_aload_n dX12_given_108 rfl ?_
                        refine aw_geti' (j := 18) dX12_given_109 fX12_254 rfl (by assumption) rfl g18 ?_
                        exact aw_ireturn dX12_given_112 rfl (Or.inl rfl) ⟨rfl, rM_ok hF ((E1.mono ST9_k).tr (E2.mono SGv_k)) ((E2.2.2.2.2 _ _ (by unfold SGv SXt SI; omega)).trans ((E1.2.2.2.2 _ _ (by unfold ST9; omega)).trans (gi_at rfl rfl)))⟩
                      · exact absurd c85 (by omega)
                  · exact absurd c41 (by omega)
              · exact absurd c14 (by omega)
          · have es : (if ¬ (0 ≤ (y : Int) ∧ 0 ≤ st) then ((3 : Int), (0 : Int), (((T, qs), U, tx) : FS)) else match giV T (qs u) ((y : Int)).toNat st.toNat x with
    | none => (3, 0, ((T, qs), U, tx))
    | some z => (0, z, ((T, qs), U, tx))) = (3, 0, ((T, qs), U, tx)) := by
              by_cases z : 0 ≤ st
              · rw [if_neg (fun y9 => y9 ⟨by omega, z⟩)]
                have eg : giV T (qs u) ((y : Int)).toNat st.toNat x = none := by
                  unfold giV
                  rw [Int.toNat_natCast, ht, Option.bind_some, List.getElem?_eq_none (by omega)]
                  rfl
                rw [eg]
              · rw [if_pos (fun y9 => z y9.2)]
            rw [es]
            refine Call.of (ls := [(0, vr (some a)), (1, vi (u : Int)), (2, vi (y : Int)), (3, vi st), (4, vi (x : Int))]) vX12_given.1 (Nat.le_of_ble_eq_true rfl) rfl ?_
            refine aw_aload_n dX12_given_0 rfl ?_
            refine aw_iload_n dX12_given_1 rfl ?_
            refine aw_invS_r dX12_given_2 sX12_isPlace kX12_217 rfl (KP) rfl rfl (by decide) (by decide) (by decide) (Nat.le_of_ble_eq_true rfl) ?_
            refine aw_if_eq (tgt := 17) dX12_given_5 rfl (by omega) (fun c5 => ?_) (fun c5 => ?_)
            · exact absurd c5 (by omega)
            · refine aw_aload_n dX12_given_8 rfl ?_
              refine aw_iload dX12_given_9 rfl ?_
              refine aw_invV_r dX12_given_11 vX12_isNode kX12_77 rfl (KN) ⟨_, (by assumption), _, _, rfl⟩ rfl rfl (by decide) (by decide) (by decide) (Nat.le_of_ble_eq_true rfl) ?_
              refine aw_if_ne (tgt := 21) dX12_given_14 rfl (by omega) (fun c14 => ?_) (fun c14 => ?_)
              · refine aw_aload_n dX12_given_21 rfl ?_
                refine aw_iload_n dX12_given_22 rfl ?_
                refine aw_invV_r dX12_given_23 vX12_has kX12_223 rfl (KH) ⟨_, (by assumption), _, _, rfl⟩ rfl rfl (by decide) (by decide) (by decide) (Nat.le_of_ble_eq_true rfl) ?_
                refine aw_if_eq (tgt := 33) dX12_given_26 rfl (by omega) (fun c26 => ?_) (fun c26 => ?_)
                · exact absurd c26 (by omega)
                · refine aw_iconst dX12_given_29 ?_
                  refine aw_goto (tgt := 34) dX12_given_30 rfl ?_
                  refine aw_puti' (j := 5) rfl dX12_given_34 fX12_62 (by assumption) rfl ?_
                  refine aw_aload_n dX12_given_37 rfl ?_
                  refine aw_geti' (j := 5) dX12_given_38 fX12_62 rfl (by assumption) rfl (gi_at rfl rfl) ?_
                  refine aw_if_eq (tgt := 46) dX12_given_41 rfl (by omega) (fun c41 => ?_) (fun c41 => ?_)
                  · refine aw_aload_n dX12_given_46 rfl ?_
                    refine aw_iload_n dX12_given_47 rfl ?_
                    refine aw_invV_f dX12_given_48 vX12_take kX12_235 rfl (KT) ⟨_, (by assumption), _, _, rfl⟩ rfl rfl (by decide) (by decide) (by decide) (Nat.le_of_ble_eq_true rfl) (fun H1 hP9 => ?_)
                    obtain ⟨E1, G1⟩ := hP9
                    have m1 : isMd H1 a (T, qs) U tx := m5.eqk (E1.mono ST9_k)
                    have hka1 := m1.1.1
                    have gq : gi H1 (a + 7) 0 = ((qs u).length : Int) := G1.1
                    obtain ⟨-, rq1, kq1⟩ := m1.1.q
                    have KI := m_in (γ := γ) (h := H1) (v := (y : Int)) (l := 0) (m := ((qs u).length : Int) - 1) hpa (by omega) (by omega)
                    have KF := m_fails (γ := γ) (h := H1) (v := 3) hka1
                    rw [if_pos c4] at KI
                    have gp : gi H1 (a + 7) (1 + 1634 * (y : Int) + 1) = (t.2.length : Int) := (G1.2 y t ht).2.1
                    have KJ := m_in (γ := γ) (h := H1) (v := st) (l := 0) (m := (t.2.length : Int) - 1) hst (by omega) (by omega)
                    rw [if_neg d5] at KJ
                    refine aw_iload_n dX12_given_51 rfl ?_
                    refine aw_iconst dX12_given_52 ?_
                    refine aw_aload_n dX12_given_53 rfl ?_
                    refine aw_getr' (j := 12) dX12_given_54 fX12_28 rfl (by assumption) rfl (by assumption) ?_
                    refine aw_iconst dX12_given_57 ?_
                    refine aw_iald' dX12_given_58 (by assumption) (by omega) (by first | decide | omega) gq ?_
                    refine aw_iconst dX12_given_59 ?_
                    refine aw_isub dX12_given_60 ?_
                    refine aw_invS_r dX12_given_61 sX12_in kX12_69 rfl (KI) rfl rfl (by decide) (by decide) (by decide) (Nat.le_of_ble_eq_true rfl) ?_
                    refine aw_if_eq (tgt := 88) dX12_given_64 rfl (by omega) (fun c64 => ?_) (fun c64 => ?_)
                    · exact absurd c64 (by omega)
                    · refine aw_iload_n dX12_given_67 rfl ?_
                      refine aw_iconst dX12_given_68 ?_
                      refine aw_aload_n dX12_given_69 rfl ?_
                      refine aw_getr' (j := 12) dX12_given_70 fX12_28 rfl (by assumption) rfl (by assumption) ?_
                      refine aw_iload_n dX12_given_73 rfl ?_
                      refine aw_invS_r dX12_given_74 sX12_pathAt kX12_180 rfl (KPa H1) rfl rfl (by decide) (by decide) (by decide) (Nat.le_of_ble_eq_true rfl) ?_
                      refine aw_iconst dX12_given_77 ?_
                      refine aw_iadd dX12_given_78 ?_
                      refine aw_iald' dX12_given_79 (by assumption) (by omega) (by first | decide | omega) gp ?_
                      refine aw_iconst dX12_given_80 ?_
                      refine aw_isub dX12_given_81 ?_
                      refine aw_invS_r dX12_given_82 sX12_in kX12_69 rfl (KJ) rfl rfl (by decide) (by decide) (by decide) (Nat.le_of_ble_eq_true rfl) ?_
                      refine aw_if_ne (tgt := 94) dX12_given_85 rfl (by omega) (fun c85 => ?_) (fun c85 => ?_)
                      · exact absurd c85 (by omega)
                      · refine aw_aload_n dX12_given_88 rfl ?_
                        refine aw_iconst dX12_given_89 ?_
                        refine aw_invV_r dX12_given_90 vX12_fails kX12_102 rfl (KF) ⟨_, (by assumption), _, _, rfl⟩ rfl rfl (by decide) (by decide) (by decide) (Nat.le_of_ble_eq_true rfl) ?_
                        exact aw_ireturn dX12_given_93 rfl (Or.inl rfl) ⟨rfl, isMd.eqk m1 E5, gi_at rfl rfl, ((E5.mono SA_k).tr ((E1.mono ST9_k).mono SA_k)).tr (E5.mono SA_k)⟩
                  · exact absurd c41 (by omega)
              · exact absurd c14 (by omega)
        · have es : (if ¬ (0 ≤ pa ∧ 0 ≤ st) then ((3 : Int), (0 : Int), (((T, qs), U, tx) : FS)) else match giV T (qs u) pa.toNat st.toNat x with
    | none => (3, 0, ((T, qs), U, tx))
    | some z => (0, z, ((T, qs), U, tx))) = (3, 0, ((T, qs), U, tx)) := by
            by_cases z : 0 ≤ pa ∧ 0 ≤ st
            · rw [if_neg (fun y9 => y9 z)]
              have eg : giV T (qs u) pa.toNat st.toNat x = none := by
                unfold giV
                rw [List.getElem?_eq_none (by omega)]
                rfl
              rw [eg]
            · rw [if_pos z]
          rw [es]
          refine Call.of (ls := [(0, vr (some a)), (1, vi (u : Int)), (2, vi pa), (3, vi st), (4, vi (x : Int))]) vX12_given.1 (Nat.le_of_ble_eq_true rfl) rfl ?_
          refine aw_aload_n dX12_given_0 rfl ?_
          refine aw_iload_n dX12_given_1 rfl ?_
          refine aw_invS_r dX12_given_2 sX12_isPlace kX12_217 rfl (KP) rfl rfl (by decide) (by decide) (by decide) (Nat.le_of_ble_eq_true rfl) ?_
          refine aw_if_eq (tgt := 17) dX12_given_5 rfl (by omega) (fun c5 => ?_) (fun c5 => ?_)
          · exact absurd c5 (by omega)
          · refine aw_aload_n dX12_given_8 rfl ?_
            refine aw_iload dX12_given_9 rfl ?_
            refine aw_invV_r dX12_given_11 vX12_isNode kX12_77 rfl (KN) ⟨_, (by assumption), _, _, rfl⟩ rfl rfl (by decide) (by decide) (by decide) (Nat.le_of_ble_eq_true rfl) ?_
            refine aw_if_ne (tgt := 21) dX12_given_14 rfl (by omega) (fun c14 => ?_) (fun c14 => ?_)
            · refine aw_aload_n dX12_given_21 rfl ?_
              refine aw_iload_n dX12_given_22 rfl ?_
              refine aw_invV_r dX12_given_23 vX12_has kX12_223 rfl (KH) ⟨_, (by assumption), _, _, rfl⟩ rfl rfl (by decide) (by decide) (by decide) (Nat.le_of_ble_eq_true rfl) ?_
              refine aw_if_eq (tgt := 33) dX12_given_26 rfl (by omega) (fun c26 => ?_) (fun c26 => ?_)
              · exact absurd c26 (by omega)
              · refine aw_iconst dX12_given_29 ?_
                refine aw_goto (tgt := 34) dX12_given_30 rfl ?_
                refine aw_puti' (j := 5) rfl dX12_given_34 fX12_62 (by assumption) rfl ?_
                refine aw_aload_n dX12_given_37 rfl ?_
                refine aw_geti' (j := 5) dX12_given_38 fX12_62 rfl (by assumption) rfl (gi_at rfl rfl) ?_
                refine aw_if_eq (tgt := 46) dX12_given_41 rfl (by omega) (fun c41 => ?_) (fun c41 => ?_)
                · refine aw_aload_n dX12_given_46 rfl ?_
                  refine aw_iload_n dX12_given_47 rfl ?_
                  refine aw_invV_f dX12_given_48 vX12_take kX12_235 rfl (KT) ⟨_, (by assumption), _, _, rfl⟩ rfl rfl (by decide) (by decide) (by decide) (Nat.le_of_ble_eq_true rfl) (fun H1 hP9 => ?_)
                  obtain ⟨E1, G1⟩ := hP9
                  have m1 : isMd H1 a (T, qs) U tx := m5.eqk (E1.mono ST9_k)
                  have hka1 := m1.1.1
                  have gq : gi H1 (a + 7) 0 = ((qs u).length : Int) := G1.1
                  obtain ⟨-, rq1, kq1⟩ := m1.1.q
                  have KI := m_in (γ := γ) (h := H1) (v := pa) (l := 0) (m := ((qs u).length : Int) - 1) hpa (by omega) (by omega)
                  have KF := m_fails (γ := γ) (h := H1) (v := 3) hka1
                  rw [if_neg c4] at KI
                  refine aw_iload_n dX12_given_51 rfl ?_
                  refine aw_iconst dX12_given_52 ?_
                  refine aw_aload_n dX12_given_53 rfl ?_
                  refine aw_getr' (j := 12) dX12_given_54 fX12_28 rfl (by assumption) rfl (by assumption) ?_
                  refine aw_iconst dX12_given_57 ?_
                  refine aw_iald' dX12_given_58 (by assumption) (by omega) (by first | decide | omega) gq ?_
                  refine aw_iconst dX12_given_59 ?_
                  refine aw_isub dX12_given_60 ?_
                  refine aw_invS_r dX12_given_61 sX12_in kX12_69 rfl (KI) rfl rfl (by decide) (by decide) (by decide) (Nat.le_of_ble_eq_true rfl) ?_
                  refine aw_if_eq (tgt := 88) dX12_given_64 rfl (by omega) (fun c64 => ?_) (fun c64 => ?_)
                  · refine aw_aload_n dX12_given_88 rfl ?_
                    refine aw_iconst dX12_given_89 ?_
                    refine aw_invV_r dX12_given_90 vX12_fails kX12_102 rfl (KF) ⟨_, (by assumption), _, _, rfl⟩ rfl rfl (by decide) (by decide) (by decide) (Nat.le_of_ble_eq_true rfl) ?_
                    exact aw_ireturn dX12_given_93 rfl (Or.inl rfl) ⟨rfl, isMd.eqk m1 E5, gi_at rfl rfl, ((E5.mono SA_k).tr ((E1.mono ST9_k).mono SA_k)).tr (E5.mono SA_k)⟩
                  · exact absurd c64 (by omega)
                · exact absurd c41 (by omega)
            · exact absurd c14 (by omega)
    · rw [if_pos (fun z => c2 z.2)]
      rw [if_neg c2] at KN
      refine Call.of (ls := [(0, vr (some a)), (1, vi p), (2, vi pa), (3, vi st), (4, vi v)]) vX12_given.1 (Nat.le_of_ble_eq_true rfl) rfl ?_
      refine aw_aload_n dX12_given_0 rfl ?_
      refine aw_iload_n dX12_given_1 rfl ?_
      refine aw_invS_r dX12_given_2 sX12_isPlace kX12_217 rfl (KP) rfl rfl (by decide) (by decide) (by decide) (Nat.le_of_ble_eq_true rfl) ?_
      refine aw_if_eq (tgt := 17) dX12_given_5 rfl (by omega) (fun c5 => ?_) (fun c5 => ?_)
      · exact absurd c5 (by omega)
      · refine aw_aload_n dX12_given_8 rfl ?_
        refine aw_iload dX12_given_9 rfl ?_
        refine aw_invV_r dX12_given_11 vX12_isNode kX12_77 rfl (KN) ⟨_, (by assumption), _, _, rfl⟩ rfl rfl (by decide) (by decide) (by decide) (Nat.le_of_ble_eq_true rfl) ?_
        refine aw_if_ne (tgt := 21) dX12_given_14 rfl (by omega) (fun c14 => ?_) (fun c14 => ?_)
        · exact absurd c14 (by omega)
        · refine aw_iconst dX12_given_17 ?_
          refine aw_goto (tgt := 34) dX12_given_18 rfl ?_
          refine aw_puti' (j := 5) rfl dX12_given_34 fX12_62 (by assumption) rfl ?_
          refine aw_aload_n dX12_given_37 rfl ?_
          refine aw_geti' (j := 5) dX12_given_38 fX12_62 rfl (by assumption) rfl (gi_at rfl rfl) ?_
          refine aw_if_eq (tgt := 46) dX12_given_41 rfl (by omega) (fun c41 => ?_) (fun c41 => ?_)
          · exact absurd c41 (by omega)
          · refine aw_iconst dX12_given_44 ?_
            exact aw_ireturn dX12_given_45 rfl (Or.inl rfl) ⟨rfl, rM_err hF 1⟩
  · rw [if_pos (fun z => c1 z.1)]
    rw [if_neg c1] at KP
    refine Call.of (ls := [(0, vr (some a)), (1, vi p), (2, vi pa), (3, vi st), (4, vi v)]) vX12_given.1 (Nat.le_of_ble_eq_true rfl) rfl ?_
    refine aw_aload_n dX12_given_0 rfl ?_
    refine aw_iload_n dX12_given_1 rfl ?_
    refine aw_invS_r dX12_given_2 sX12_isPlace kX12_217 rfl (KP) rfl rfl (by decide) (by decide) (by decide) (Nat.le_of_ble_eq_true rfl) ?_
    refine aw_if_eq (tgt := 17) dX12_given_5 rfl (by omega) (fun c5 => ?_) (fun c5 => ?_)
    · refine aw_iconst dX12_given_17 ?_
      refine aw_goto (tgt := 34) dX12_given_18 rfl ?_
      refine aw_puti' (j := 5) rfl dX12_given_34 fX12_62 (by assumption) rfl ?_
      refine aw_aload_n dX12_given_37 rfl ?_
      refine aw_geti' (j := 5) dX12_given_38 fX12_62 rfl (by assumption) rfl (gi_at rfl rfl) ?_
      refine aw_if_eq (tgt := 46) dX12_given_41 rfl (by omega) (fun c41 => ?_) (fun c41 => ?_)
      · exact absurd c41 (by omega)
      · refine aw_iconst dX12_given_44 ?_
        exact aw_ireturn dX12_given_45 rfl (Or.inl rfl) ⟨rfl, rM_err hF 1⟩
    · exact absurd c5 (by omega)
def SDf (a : Nat) : Nat → Int → Prop := fun b j => SSe a b j ∨ b = a + 16
theorem SDf_1 {a : Nat} : ∀ j, ¬ SDf a (a + 1) j := fun j => by unfold SDf SSe SPt SGv SXt SI; omega
theorem SDf_7 {a : Nat} : ∀ j, ¬ SDf a (a + 7) j := fun j => by unfold SDf SSe SPt SGv SXt SI; omega
theorem SDf_k {a : Nat} : ∀ b j, SDf a b j → SK a b j := fun b j z => by unfold SDf SSe SPt SGv SXt SI at z; unfold SK; omega
/-- the rows of what was selected, up to a context -/
def isRo (h : AH) (a : Nat) (T : Tr) (q : TQ) (n : Nat) : Prop := ∀ c k : Nat, c < n → k < 40 → gi h (a + 16) (40 * (c : Int) + k) = bI (selF T q c k)
theorem i_df77 {γ : GG} {a : Nat} {p r : Int} {q : TQ} {T : Tr} {h : AH} {Q : AR → AH → Prop} (hM : shM h a) (hT : gTr (gi h (a + 1)) 0 T) (ho : okTr T) {c : Nat} (hc : c < tn T) (kk : ∀ H, eqG (SDf a) h H → isRo H a T q (c + 1) → AW γ mX12_differences 12 0 0 109 [(3, vi (c : Int)), (0, vr (some a)), (1, vi p), (2, vi r)] [] H Q) : ∀ (m k : Nat) (H : AH), k + m = 40 → eqG (SDf a) h H → isBo H (a + 15) (selF T q c) 40 → isRo H a T q c → (∀ j : Nat, j < k → gi H (a + 16) (40 * (c : Int) + j) = bI (selF T q c j)) → AW γ mX12_differences 12 0 0 77 [(4, vi (k : Int)), (3, vi (c : Int)), (0, vr (some a)), (1, vi p), (2, vi r)] [] H Q := by
  have n40 := ho.o.2.1
  intro m
  induction m with
  | zero =>
    intro k H hk hE hB hR hj
    obtain rfl : k = 40 := by omega
    have bT : bI true = 1 := rfl
    have bF : bI false = 0 := rfl
    have hM1 := hE.sh hM
    have hT1 := tr_k hT hE SDf_1
    have eq7 := q_k hE SDf_7
    obtain ⟨hka, rq, kq⟩ := hM1.q
    obtain ⟨rm, km⟩ := hM1.m
    obtain ⟨ri9, ki9⟩ := hM1.i9
    obtain ⟨rs9, ks9⟩ := hM1.s9
    have g0 : gi H (a + 1) 0 = (tn T : Int) := hT1.1
    have K := kk H hE (fun d j hd hj2 => by
      by_cases z : d = c
      · subst z; exact hj j hj2
      · exact hR d j (by omega) hj2)
    refine aw_iload dX12_differences_77 rfl ?_
    refine aw_bipush dX12_differences_79 rfl ?_
    refine aw_ic_ge (tgt := 109) dX12_differences_81 rfl (by omega) (by omega) (fun c81 => ?_) (fun c81 => ?_)
    · refine aw_sub [1, 2, 3, 4] rfl ?_
      exact K
    · exact absurd c81 (by omega)
  | succ m ih =>
    intro k H hk hE hB hR hj
    have bT : bI true = 1 := rfl
    have bF : bI false = 0 := rfl
    have hM1 := hE.sh hM
    have hT1 := tr_k hT hE SDf_1
    have eq7 := q_k hE SDf_7
    obtain ⟨hka, rq, kq⟩ := hM1.q
    obtain ⟨rm, km⟩ := hM1.m
    obtain ⟨ri9, ki9⟩ := hM1.i9
    obtain ⟨rs9, ks9⟩ := hM1.s9
    have g0 : gi H (a + 1) 0 = (tn T : Int) := hT1.1
    have gb := hB k (by omega)
    have I := ih (k + 1) (si H (a + 16) (40 * (c : Int) + k) (bI (selF T q c k))) (by omega) (hE.tr (eqG.si (Or.inr rfl))) (fun j hj => (gi_ne (Or.inl (by omega))).trans (hB j hj)) (fun d j hd hj2 => (gi_ne (Or.inr (by omega))).trans (hR d j hd hj2)) (fun j hj2 => by
      by_cases z : j = k
      · subst z; exact gi_at rfl rfl
      · exact (gi_ne (Or.inr (by omega))).trans (hj j (by omega)))
    refine aw_iload dX12_differences_77 rfl ?_
    refine aw_bipush dX12_differences_79 rfl ?_
    refine aw_ic_ge (tgt := 109) dX12_differences_81 rfl (by omega) (by omega) (fun c81 => ?_) (fun c81 => ?_)
    · exact absurd c81 (by omega)
    · refine aw_aload_n dX12_differences_84 rfl ?_
      refine aw_getr' (j := 23) dX12_differences_85 fX12_56 rfl (by assumption) rfl (by assumption) ?_
      refine aw_bipush dX12_differences_88 rfl ?_
      refine aw_iload_n dX12_differences_90 rfl ?_
      refine aw_imul dX12_differences_91 ?_
      refine aw_iload dX12_differences_92 rfl ?_
      refine aw_iadd dX12_differences_94 ?_
      refine aw_aload_n dX12_differences_95 rfl ?_
      refine aw_getr' (j := 22) dX12_differences_96 fX12_53 rfl (by assumption) rfl (by assumption) ?_
      refine aw_iload dX12_differences_99 rfl ?_
      refine aw_zald' dX12_differences_101 (by assumption) (by omega) (by first | decide | omega) gb ?_
      refine aw_zast dX12_differences_102 (by assumption) (by omega) (by first | decide | omega) (bI01 _) ?_
      refine aw_iinc (k9 := 0) (ls1 := [(4, _), (3, _), (0, _), (1, _), (2, _)]) dX12_differences_103 rfl (by decide) rfl ?_
      refine aw_goto (tgt := 77) dX12_differences_106 rfl ?_
      refine aw_sub [0, 1, 2, 3, 4] rfl ?_
      exact I
theorem l_df59 {γ : GG} {a : Nat} {p r : Int} {q : TQ} {T : Tr} {h : AH} {Q : AR → AH → Prop} (hM : shM h a) (hT : gTr (gi h (a + 1)) 0 T) (ho : okTr T) (hq : okQ q) (hg : gQ (gi h (a + 7)) q) (kk : ∀ H, eqG (SDf a) h H → isRo H a T q (tn T) → AW γ mX12_differences 12 0 0 115 [(0, vr (some a)), (1, vi p), (2, vi r)] [] H Q) : ∀ (m c : Nat) (H : AH), c + m = tn T → eqG (SDf a) h H → isRo H a T q c → AW γ mX12_differences 12 0 0 59 [(3, vi (c : Int)), (0, vr (some a)), (1, vi p), (2, vi r)] [] H Q := by
  have n40 := ho.o.2.1
  intro m
  induction m with
  | zero =>
    intro c H hc hE hR
    obtain rfl : c = tn T := by omega
    have bT : bI true = 1 := rfl
    have bF : bI false = 0 := rfl
    have hM1 := hE.sh hM
    have hT1 := tr_k hT hE SDf_1
    have eq7 := q_k hE SDf_7
    obtain ⟨hka, rq, kq⟩ := hM1.q
    obtain ⟨rm, km⟩ := hM1.m
    obtain ⟨ri9, ki9⟩ := hM1.i9
    obtain ⟨rs9, ks9⟩ := hM1.s9
    have g0 : gi H (a + 1) 0 = (tn T : Int) := hT1.1
    have K := kk H hE hR
    refine aw_iload_n dX12_differences_59 rfl ?_
    refine aw_aload_n dX12_differences_60 rfl ?_
    refine aw_getr' (j := 0) dX12_differences_61 fX12_7 rfl (by assumption) rfl (by assumption) ?_
    refine aw_iconst dX12_differences_64 ?_
    refine aw_iald' dX12_differences_65 (by assumption) (by omega) (by first | decide | omega) g0 ?_
    refine aw_ic_ge (tgt := 115) dX12_differences_66 rfl (by omega) (by omega) (fun c66 => ?_) (fun c66 => ?_)
    · refine aw_sub [1, 2, 3] rfl ?_
      exact K
    · exact absurd c66 (by omega)
  | succ m ih =>
    intro c H hc hE hR
    have hcn : c < tn T := by omega
    have bT : bI true = 1 := rfl
    have bF : bI false = 0 := rfl
    have hM1 := hE.sh hM
    have hT1 := tr_k hT hE SDf_1
    have eq7 := q_k hE SDf_7
    obtain ⟨hka, rq, kq⟩ := hM1.q
    obtain ⟨rm, km⟩ := hM1.m
    obtain ⟨ri9, ki9⟩ := hM1.i9
    obtain ⟨rs9, ks9⟩ := hM1.s9
    have g0 : gi H (a + 1) 0 = (tn T : Int) := hT1.1
    have KS := m_select (γ := γ) (T := T) (q := q) hM1 hT1 ho hcn hq (by rw [eq7]; exact hg)
    have J := fun H1 (B1 : isBo H1 (a + 15) (selF T q c) 40) (E1 : eqG (SSe a) H H1) => i_df77 (γ := γ) (p := p) (r := r) (Q := Q) hM hT ho hcn (fun H2 E2 R2 => by
      have I := ih (c + 1) H2 (by omega) E2 R2
      refine aw_iinc (k9 := 0) (ls1 := [(3, _), (0, _), (1, _), (2, _)]) dX12_differences_109 rfl (by decide) rfl ?_
      refine aw_goto (tgt := 59) dX12_differences_112 rfl ?_
      refine aw_sub [0, 1, 2, 3] rfl ?_
      exact I) 40 0 H1 (Nat.zero_add _) (hE.tr (E1.mono (fun b j z => Or.inl z))) B1 (fun d j hd hj2 => (E1.2.2.2.2 _ _ (by unfold SSe SPt SGv SXt SI; omega)).trans (hR d j hd hj2)) (fun j hj => absurd hj (by omega))
    refine aw_iload_n dX12_differences_59 rfl ?_
    refine aw_aload_n dX12_differences_60 rfl ?_
    refine aw_getr' (j := 0) dX12_differences_61 fX12_7 rfl (by assumption) rfl (by assumption) ?_
    refine aw_iconst dX12_differences_64 ?_
    refine aw_iald' dX12_differences_65 (by assumption) (by omega) (by first | decide | omega) g0 ?_
    refine aw_ic_ge (tgt := 115) dX12_differences_66 rfl (by omega) (by omega) (fun c66 => ?_) (fun c66 => ?_)
    · exact absurd c66 (by omega)
    · refine aw_aload_n dX12_differences_69 rfl ?_
      refine aw_iload_n dX12_differences_70 rfl ?_
      refine aw_invV_f dX12_differences_71 vX12_select kX12_266 rfl (KS) ⟨_, (by assumption), _, _, rfl⟩ rfl rfl (by decide) (by decide) (by decide) (Nat.le_of_ble_eq_true rfl) (fun H1 hP9 => ?_)
      obtain ⟨B1, E1⟩ := hP9
      refine aw_iconst dX12_differences_74 ?_
      refine aw_istore (ls1 := [(4, _), (3, _), (0, _), (1, _), (2, _)]) dX12_differences_75 (by decide) rfl ?_
      refine aw_sub [0, 1, 2, 3, 4] rfl ?_
      exact J H1 B1 E1
theorem i_df148 {γ : GG} {a : Nat} {p r : Int} {q q2 : TQ} {T : Tr} {h : AH} {Q : AR → AH → Prop} (hM : shM h a) (hT : gTr (gi h (a + 1)) 0 T) (ho : okTr T) {c : Nat} {z : Int} (hc : c < tn T) (kk : ∀ H, eqG (SDf a) h H → isRo H a T q (tn T) → AW γ mX12_differences 12 0 0 196 [(5, vi (bI (allN (fun k => selF T q c k == selF T q2 c k) 40))), (4, vi (c : Int)), (3, vi z), (0, vr (some a)), (1, vi p), (2, vi r)] [] H Q) : ∀ (m k : Nat) (H : AH), k + m = 40 → eqG (SDf a) h H → isBo H (a + 15) (selF T q2 c) 40 → isRo H a T q (tn T) → AW γ mX12_differences 12 0 0 148 [(6, vi (k : Int)), (5, vi (bI (allN (fun k => selF T q c k == selF T q2 c k) k))), (4, vi (c : Int)), (3, vi z), (0, vr (some a)), (1, vi p), (2, vi r)] [] H Q := by
  have n40 := ho.o.2.1
  intro m
  induction m with
  | zero =>
    intro k H hk hE hB hR
    obtain rfl : k = 40 := by omega
    have bT : bI true = 1 := rfl
    have bF : bI false = 0 := rfl
    have hM1 := hE.sh hM
    have hT1 := tr_k hT hE SDf_1
    have eq7 := q_k hE SDf_7
    obtain ⟨hka, rq, kq⟩ := hM1.q
    obtain ⟨rm, km⟩ := hM1.m
    obtain ⟨ri9, ki9⟩ := hM1.i9
    obtain ⟨rs9, ks9⟩ := hM1.s9
    have g0 : gi H (a + 1) 0 = (tn T : Int) := hT1.1
    have K := kk H hE hR
    refine aw_iload dX12_differences_148 rfl ?_
    refine aw_bipush dX12_differences_150 rfl ?_
    refine aw_ic_ge (tgt := 196) dX12_differences_152 rfl (by omega) (by omega) (fun c152 => ?_) (fun c152 => ?_)
    · refine aw_sub [1, 2, 3, 4, 5, 6] rfl ?_
      exact K
    · exact absurd c152 (by omega)
  | succ m ih =>
    intro k H hk hE hB hR
    have bT : bI true = 1 := rfl
    have bF : bI false = 0 := rfl
    have hM1 := hE.sh hM
    have hT1 := tr_k hT hE SDf_1
    have eq7 := q_k hE SDf_7
    obtain ⟨hka, rq, kq⟩ := hM1.q
    obtain ⟨rm, km⟩ := hM1.m
    obtain ⟨ri9, ki9⟩ := hM1.i9
    obtain ⟨rs9, ks9⟩ := hM1.s9
    have g0 : gi H (a + 1) 0 = (tn T : Int) := hT1.1
    have gb := hB k (by omega)
    have gs := hR c k hc (by omega)
    have I := ih (k + 1) H (by omega) hE hB hR
    have e : allN (fun k => selF T q c k == selF T q2 c k) (k + 1) = (allN (fun k => selF T q c k == selF T q2 c k) k && (selF T q c k == selF T q2 c k)) := rfl
    rw [e] at I
    cases q1 : allN (fun k => selF T q c k == selF T q2 c k) k with
    | false =>
      rw [q1] at I
      refine aw_iload dX12_differences_148 rfl ?_
      refine aw_bipush dX12_differences_150 rfl ?_
      refine aw_ic_ge (tgt := 196) dX12_differences_152 rfl (by omega) (by omega) (fun c152 => ?_) (fun c152 => ?_)
      · exact absurd c152 (by omega)
      · refine aw_iload dX12_differences_155 rfl ?_
        refine aw_if_eq (tgt := 187) dX12_differences_157 rfl (by omega) (fun c157 => ?_) (fun c157 => ?_)
        · refine aw_iconst dX12_differences_187 ?_
          refine aw_istore (ls1 := [(5, _), (6, _), (4, _), (3, _), (0, _), (1, _), (2, _)]) dX12_differences_188 (by decide) rfl ?_
          refine aw_iinc (k9 := 1) (ls1 := [(6, _), (5, _), (4, _), (3, _), (0, _), (1, _), (2, _)]) dX12_differences_190 rfl (by decide) rfl ?_
          refine aw_goto (tgt := 148) dX12_differences_193 rfl ?_
          refine aw_sub [0, 1, 2, 3, 4, 5, 6] rfl ?_
          exact I
        · exact absurd c157 (by omega)
    | true =>
      rw [q1] at I
      cases q3 : selF T q c k with
      | true =>
        cases q4 : selF T q2 c k with
        | true =>
          rw [q3] at gs
          rw [q4] at gb
          rw [q3, q4] at I
          refine aw_iload dX12_differences_148 rfl ?_
          refine aw_bipush dX12_differences_150 rfl ?_
          refine aw_ic_ge (tgt := 196) dX12_differences_152 rfl (by omega) (by omega) (fun c152 => ?_) (fun c152 => ?_)
          · exact absurd c152 (by omega)
          · refine aw_iload dX12_differences_155 rfl ?_
            refine aw_if_eq (tgt := 187) dX12_differences_157 rfl (by omega) (fun c157 => ?_) (fun c157 => ?_)
            · exact absurd c157 (by omega)
            · refine aw_aload_n dX12_differences_160 rfl ?_
              refine aw_getr' (j := 23) dX12_differences_161 fX12_56 rfl (by assumption) rfl (by assumption) ?_
              refine aw_bipush dX12_differences_164 rfl ?_
              refine aw_iload dX12_differences_166 rfl ?_
              refine aw_imul dX12_differences_168 ?_
              refine aw_iload dX12_differences_169 rfl ?_
              refine aw_iadd dX12_differences_171 ?_
              refine aw_zald' dX12_differences_172 (by assumption) (by omega) (by first | decide | omega) gs ?_
              refine aw_aload_n dX12_differences_173 rfl ?_
              refine aw_getr' (j := 22) dX12_differences_174 fX12_53 rfl (by assumption) rfl (by assumption) ?_
              refine aw_iload dX12_differences_177 rfl ?_
              refine aw_zald' dX12_differences_179 (by assumption) (by omega) (by first | decide | omega) gb ?_
              refine aw_ic_ne (tgt := 187) dX12_differences_180 rfl (by omega) (by omega) (fun c180 => ?_) (fun c180 => ?_)
              · exact absurd c180 (by omega)
              · refine aw_iconst dX12_differences_183 ?_
                refine aw_goto (tgt := 188) dX12_differences_184 rfl ?_
                refine aw_istore (ls1 := [(5, _), (6, _), (4, _), (3, _), (0, _), (1, _), (2, _)]) dX12_differences_188 (by decide) rfl ?_
                refine aw_iinc (k9 := 1) (ls1 := [(6, _), (5, _), (4, _), (3, _), (0, _), (1, _), (2, _)]) dX12_differences_190 rfl (by decide) rfl ?_
                refine aw_goto (tgt := 148) dX12_differences_193 rfl ?_
                refine aw_sub [0, 1, 2, 3, 4, 5, 6] rfl ?_
                exact I
        | false =>
          rw [q3] at gs
          rw [q4] at gb
          rw [q3, q4] at I
          refine aw_iload dX12_differences_148 rfl ?_
          refine aw_bipush dX12_differences_150 rfl ?_
          refine aw_ic_ge (tgt := 196) dX12_differences_152 rfl (by omega) (by omega) (fun c152 => ?_) (fun c152 => ?_)
          · exact absurd c152 (by omega)
          · refine aw_iload dX12_differences_155 rfl ?_
            refine aw_if_eq (tgt := 187) dX12_differences_157 rfl (by omega) (fun c157 => ?_) (fun c157 => ?_)
            · exact absurd c157 (by omega)
            · refine aw_aload_n dX12_differences_160 rfl ?_
              refine aw_getr' (j := 23) dX12_differences_161 fX12_56 rfl (by assumption) rfl (by assumption) ?_
              refine aw_bipush dX12_differences_164 rfl ?_
              refine aw_iload dX12_differences_166 rfl ?_
              refine aw_imul dX12_differences_168 ?_
              refine aw_iload dX12_differences_169 rfl ?_
              refine aw_iadd dX12_differences_171 ?_
              refine aw_zald' dX12_differences_172 (by assumption) (by omega) (by first | decide | omega) gs ?_
              refine aw_aload_n dX12_differences_173 rfl ?_
              refine aw_getr' (j := 22) dX12_differences_174 fX12_53 rfl (by assumption) rfl (by assumption) ?_
              refine aw_iload dX12_differences_177 rfl ?_
              refine aw_zald' dX12_differences_179 (by assumption) (by omega) (by first | decide | omega) gb ?_
              refine aw_ic_ne (tgt := 187) dX12_differences_180 rfl (by omega) (by omega) (fun c180 => ?_) (fun c180 => ?_)
              · refine aw_iconst dX12_differences_187 ?_
                refine aw_istore (ls1 := [(5, _), (6, _), (4, _), (3, _), (0, _), (1, _), (2, _)]) dX12_differences_188 (by decide) rfl ?_
                refine aw_iinc (k9 := 1) (ls1 := [(6, _), (5, _), (4, _), (3, _), (0, _), (1, _), (2, _)]) dX12_differences_190 rfl (by decide) rfl ?_
                refine aw_goto (tgt := 148) dX12_differences_193 rfl ?_
                refine aw_sub [0, 1, 2, 3, 4, 5, 6] rfl ?_
                exact I
              · exact absurd c180 (by omega)
      | false =>
        cases q4 : selF T q2 c k with
        | true =>
          rw [q3] at gs
          rw [q4] at gb
          rw [q3, q4] at I
          refine aw_iload dX12_differences_148 rfl ?_
          refine aw_bipush dX12_differences_150 rfl ?_
          refine aw_ic_ge (tgt := 196) dX12_differences_152 rfl (by omega) (by omega) (fun c152 => ?_) (fun c152 => ?_)
          · exact absurd c152 (by omega)
          · refine aw_iload dX12_differences_155 rfl ?_
            refine aw_if_eq (tgt := 187) dX12_differences_157 rfl (by omega) (fun c157 => ?_) (fun c157 => ?_)
            · exact absurd c157 (by omega)
            · refine aw_aload_n dX12_differences_160 rfl ?_
              refine aw_getr' (j := 23) dX12_differences_161 fX12_56 rfl (by assumption) rfl (by assumption) ?_
              refine aw_bipush dX12_differences_164 rfl ?_
              refine aw_iload dX12_differences_166 rfl ?_
              refine aw_imul dX12_differences_168 ?_
              refine aw_iload dX12_differences_169 rfl ?_
              refine aw_iadd dX12_differences_171 ?_
              refine aw_zald' dX12_differences_172 (by assumption) (by omega) (by first | decide | omega) gs ?_
              refine aw_aload_n dX12_differences_173 rfl ?_
              refine aw_getr' (j := 22) dX12_differences_174 fX12_53 rfl (by assumption) rfl (by assumption) ?_
              refine aw_iload dX12_differences_177 rfl ?_
              refine aw_zald' dX12_differences_179 (by assumption) (by omega) (by first | decide | omega) gb ?_
              refine aw_ic_ne (tgt := 187) dX12_differences_180 rfl (by omega) (by omega) (fun c180 => ?_) (fun c180 => ?_)
              · refine aw_iconst dX12_differences_187 ?_
                refine aw_istore (ls1 := [(5, _), (6, _), (4, _), (3, _), (0, _), (1, _), (2, _)]) dX12_differences_188 (by decide) rfl ?_
                refine aw_iinc (k9 := 1) (ls1 := [(6, _), (5, _), (4, _), (3, _), (0, _), (1, _), (2, _)]) dX12_differences_190 rfl (by decide) rfl ?_
                refine aw_goto (tgt := 148) dX12_differences_193 rfl ?_
                refine aw_sub [0, 1, 2, 3, 4, 5, 6] rfl ?_
                exact I
              · exact absurd c180 (by omega)
        | false =>
          rw [q3] at gs
          rw [q4] at gb
          rw [q3, q4] at I
          refine aw_iload dX12_differences_148 rfl ?_
          refine aw_bipush dX12_differences_150 rfl ?_
          refine aw_ic_ge (tgt := 196) dX12_differences_152 rfl (by omega) (by omega) (fun c152 => ?_) (fun c152 => ?_)
          · exact absurd c152 (by omega)
          · refine aw_iload dX12_differences_155 rfl ?_
            refine aw_if_eq (tgt := 187) dX12_differences_157 rfl (by omega) (fun c157 => ?_) (fun c157 => ?_)
            · exact absurd c157 (by omega)
            · refine aw_aload_n dX12_differences_160 rfl ?_
              refine aw_getr' (j := 23) dX12_differences_161 fX12_56 rfl (by assumption) rfl (by assumption) ?_
              refine aw_bipush dX12_differences_164 rfl ?_
              refine aw_iload dX12_differences_166 rfl ?_
              refine aw_imul dX12_differences_168 ?_
              refine aw_iload dX12_differences_169 rfl ?_
              refine aw_iadd dX12_differences_171 ?_
              refine aw_zald' dX12_differences_172 (by assumption) (by omega) (by first | decide | omega) gs ?_
              refine aw_aload_n dX12_differences_173 rfl ?_
              refine aw_getr' (j := 22) dX12_differences_174 fX12_53 rfl (by assumption) rfl (by assumption) ?_
              refine aw_iload dX12_differences_177 rfl ?_
              refine aw_zald' dX12_differences_179 (by assumption) (by omega) (by first | decide | omega) gb ?_
              refine aw_ic_ne (tgt := 187) dX12_differences_180 rfl (by omega) (by omega) (fun c180 => ?_) (fun c180 => ?_)
              · exact absurd c180 (by omega)
              · refine aw_iconst dX12_differences_183 ?_
                refine aw_goto (tgt := 188) dX12_differences_184 rfl ?_
                refine aw_istore (ls1 := [(5, _), (6, _), (4, _), (3, _), (0, _), (1, _), (2, _)]) dX12_differences_188 (by decide) rfl ?_
                refine aw_iinc (k9 := 1) (ls1 := [(6, _), (5, _), (4, _), (3, _), (0, _), (1, _), (2, _)]) dX12_differences_190 rfl (by decide) rfl ?_
                refine aw_goto (tgt := 148) dX12_differences_193 rfl ?_
                refine aw_sub [0, 1, 2, 3, 4, 5, 6] rfl ?_
                exact I
theorem l_df125 {γ : GG} {a : Nat} {p r : Int} {q q2 : TQ} {T : Tr} {h : AH} {Q : AR → AH → Prop} (hM : shM h a) (hT : gTr (gi h (a + 1)) 0 T) (ho : okTr T) (hq : okQ q2) (hg : gQ (gi h (a + 7)) q2) (kk : ∀ H, eqG (SDf a) h H → Q (.inl (some (vi ((fb_ct (difS T q q2) (tn T) : Nat) : Int)))) H) : ∀ (m c : Nat) (H : AH), c + m = tn T → eqG (SDf a) h H → isRo H a T q (tn T) → AW γ mX12_differences 12 0 0 125 [(4, vi (c : Int)), (3, vi ((fb_ct (difS T q q2) c : Nat) : Int)), (0, vr (some a)), (1, vi p), (2, vi r)] [] H Q := by
  have n40 := ho.o.2.1
  intro m
  induction m with
  | zero =>
    intro c H hc hE hR
    obtain rfl : c = tn T := by omega
    have bT : bI true = 1 := rfl
    have bF : bI false = 0 := rfl
    have hM1 := hE.sh hM
    have hT1 := tr_k hT hE SDf_1
    have eq7 := q_k hE SDf_7
    obtain ⟨hka, rq, kq⟩ := hM1.q
    obtain ⟨rm, km⟩ := hM1.m
    obtain ⟨ri9, ki9⟩ := hM1.i9
    obtain ⟨rs9, ks9⟩ := hM1.s9
    have g0 : gi H (a + 1) 0 = (tn T : Int) := hT1.1
    have K := kk H hE
    refine aw_iload dX12_differences_125 rfl ?_
    refine aw_aload_n dX12_differences_127 rfl ?_
    refine aw_getr' (j := 0) dX12_differences_128 fX12_7 rfl (by assumption) rfl (by assumption) ?_
    refine aw_iconst dX12_differences_131 ?_
    refine aw_iald' dX12_differences_132 (by assumption) (by omega) (by first | decide | omega) g0 ?_
    refine aw_ic_ge (tgt := 215) dX12_differences_133 rfl (by omega) (by omega) (fun c133 => ?_) (fun c133 => ?_)
    · refine aw_iload_n dX12_differences_215 rfl ?_
      exact aw_ireturn dX12_differences_216 rfl (Or.inl rfl) K
    · exact absurd c133 (by omega)
  | succ m ih =>
    intro c H hc hE hR
    have hcn : c < tn T := by omega
    have bT : bI true = 1 := rfl
    have bF : bI false = 0 := rfl
    have hM1 := hE.sh hM
    have hT1 := tr_k hT hE SDf_1
    have eq7 := q_k hE SDf_7
    obtain ⟨hka, rq, kq⟩ := hM1.q
    obtain ⟨rm, km⟩ := hM1.m
    obtain ⟨ri9, ki9⟩ := hM1.i9
    obtain ⟨rs9, ks9⟩ := hM1.s9
    have g0 : gi H (a + 1) 0 = (tn T : Int) := hT1.1
    have KS := m_select (γ := γ) (T := T) (q := q2) hM1 hT1 ho hcn hq (by rw [eq7]; exact hg)
    have J := fun H1 (B1 : isBo H1 (a + 15) (selF T q2 c) 40) (E1 : eqG (SSe a) H H1) => i_df148 (γ := γ) (p := p) (r := r) (q := q) (q2 := q2) (z := ((fb_ct (difS T q q2) c : Nat) : Int)) (Q := Q) hM hT ho hcn (fun H2 E2 R2 => by
      have I := ih (c + 1) H2 (by omega) E2 R2
      rw [fb_ct_succ] at I
      have ed : difS T q q2 c = !allN (fun k => selF T q c k == selF T q2 c k) 40 := rfl
      rw [ed] at I
      have bT : bI true = 1 := rfl
      have bF : bI false = 0 := rfl
      cases q1 : allN (fun k => selF T q c k == selF T q2 c k) 40 with
      | true =>
        rw [q1] at I
        refine aw_iload_n dX12_differences_196 rfl ?_
        refine aw_iload dX12_differences_197 rfl ?_
        refine aw_if_eq (tgt := 206) dX12_differences_199 rfl (by omega) (fun c199 => ?_) (fun c199 => ?_)
        · exact absurd c199 (by omega)
        · refine aw_iconst dX12_differences_202 ?_
          refine aw_goto (tgt := 207) dX12_differences_203 rfl ?_
          refine aw_iadd dX12_differences_207 ?_
          rw [Int.add_zero]
          refine aw_istore_n (ls1 := [(3, _), (5, _), (4, _), (0, _), (1, _), (2, _)]) dX12_differences_208 (by decide) rfl ?_
          refine aw_iinc (k9 := 2) (ls1 := [(4, _), (3, _), (5, _), (0, _), (1, _), (2, _)]) dX12_differences_209 rfl (by decide) rfl ?_
          refine aw_goto (tgt := 125) dX12_differences_212 rfl ?_
          refine aw_sub [0, 1, 3, 4, 5] rfl ?_
          exact I
      | false =>
        rw [q1] at I
        refine aw_iload_n dX12_differences_196 rfl ?_
        refine aw_iload dX12_differences_197 rfl ?_
        refine aw_if_eq (tgt := 206) dX12_differences_199 rfl (by omega) (fun c199 => ?_) (fun c199 => ?_)
        · refine aw_iconst dX12_differences_206 ?_
          refine aw_iadd dX12_differences_207 ?_
          refine aw_istore_n (ls1 := [(3, _), (5, _), (4, _), (0, _), (1, _), (2, _)]) dX12_differences_208 (by decide) rfl ?_
          refine aw_iinc (k9 := 2) (ls1 := [(4, _), (3, _), (5, _), (0, _), (1, _), (2, _)]) dX12_differences_209 rfl (by decide) rfl ?_
          refine aw_goto (tgt := 125) dX12_differences_212 rfl ?_
          refine aw_sub [0, 1, 3, 4, 5] rfl ?_
          exact I
        · exact absurd c199 (by omega)) 40 0 H1 (Nat.zero_add _) (hE.tr (E1.mono (fun b j z => Or.inl z))) B1 (fun d j hd hj2 => (E1.2.2.2.2 _ _ (by unfold SSe SPt SGv SXt SI; omega)).trans (hR d j hd hj2))
    refine aw_iload dX12_differences_125 rfl ?_
    refine aw_aload_n dX12_differences_127 rfl ?_
    refine aw_getr' (j := 0) dX12_differences_128 fX12_7 rfl (by assumption) rfl (by assumption) ?_
    refine aw_iconst dX12_differences_131 ?_
    refine aw_iald' dX12_differences_132 (by assumption) (by omega) (by first | decide | omega) g0 ?_
    refine aw_ic_ge (tgt := 215) dX12_differences_133 rfl (by omega) (by omega) (fun c133 => ?_) (fun c133 => ?_)
    · exact absurd c133 (by omega)
    · refine aw_aload_n dX12_differences_136 rfl ?_
      refine aw_iload dX12_differences_137 rfl ?_
      refine aw_invV_f dX12_differences_139 vX12_select kX12_266 rfl (KS) ⟨_, (by assumption), _, _, rfl⟩ rfl rfl (by decide) (by decide) (by decide) (Nat.le_of_ble_eq_true rfl) (fun H1 hP9 => ?_)
      obtain ⟨B1, E1⟩ := hP9
      refine aw_iconst dX12_differences_142 ?_
      refine aw_istore (ls1 := [(5, _), (4, _), (3, _), (0, _), (1, _), (2, _)]) dX12_differences_143 (by decide) rfl ?_
      refine aw_iconst dX12_differences_145 ?_
      refine aw_istore (ls1 := [(6, _), (5, _), (4, _), (3, _), (0, _), (1, _), (2, _)]) dX12_differences_146 (by decide) rfl ?_
      refine aw_sub [0, 1, 2, 3, 4, 5, 6] rfl ?_
      exact J H1 B1 E1
theorem m_differences {γ : GG} {h : AH} {a : Nat} {F : FS} {p r : Int} (hF : isF h a F) (hp : (-2147483648 ≤ p ∧ p ≤ 2147483647)) (hr : (-2147483648 ≤ r ∧ r ≤ 2147483647)) : Call γ mX12_differences 12 0 0 [vr (some a), vi p, vi r] h (rM h a (opDif F p r)) := by
  obtain ⟨S, U, tx⟩ := F
  obtain ⟨T, qs⟩ := S
  have hm : isMd h a (T, qs) U tx := hF
  have oT : okTr T := hm.2.2.1.1
  have o9 := oT.o
  have n40 := o9.2.1
  have n1 := o9.1
  obtain ⟨hka, -, -⟩ := hm.1.q
  obtain ⟨rm, km⟩ := hm.1.m
  have g0 : gi h (a + 1) 0 = (tn T : Int) := hm.2.1.1.1
  have m5 : isMd (si h a 5 0) a (T, qs) U tx := hm.eqk (E5 (v := 0))
  have KP := m_isPlace (γ := γ) (h := h) hp
  have KR := m_isPlace (γ := γ) (h := h) hr
  unfold opDif
  dsimp only
  by_cases c1 : 0 ≤ p ∧ p ≤ 3
  · rw [if_pos c1] at KP
    by_cases c2 : 0 ≤ r ∧ r ≤ 3
    · rw [if_neg (fun z => z ⟨c1, c2⟩)]
      rw [if_pos c2] at KR
      obtain ⟨u, rfl⟩ := Int.eq_ofNat_of_zero_le c1.1
      obtain ⟨x, rfl⟩ := Int.eq_ofNat_of_zero_le c2.1
      rw [Int.toNat_natCast, Int.toNat_natCast]
      have hu : u < 4 := by omega
      have hx : x < 4 := by omega
      have KH : Call γ mX12_has 0 0 0 [vr (some a), vi (u : Int)] h (rV (vi (if qs u = [] then 0 else 1)) h) := m_has (γ := γ) hm hu
      have KJ : Call γ mX12_has 0 0 0 [vr (some a), vi (x : Int)] h (rV (vi (if qs x = [] then 0 else 1)) h) := m_has (γ := γ) hm hx
      have oq : okQ (qs u) := (hm.2.2.1.2 u hu).1
      have ox : okQ (qs x) := (hm.2.2.1.2 x hx).1
      by_cases c3 : qs u = []
      · rw [if_pos (Or.inl c3)]
        rw [if_pos c3] at KH
        refine Call.of (ls := [(0, vr (some a)), (1, vi (u : Int)), (2, vi (x : Int))]) vX12_differences.1 (Nat.le_of_ble_eq_true rfl) rfl ?_
        refine aw_aload_n dX12_differences_0 rfl ?_
        refine aw_iload_n dX12_differences_1 rfl ?_
        refine aw_invS_r dX12_differences_2 sX12_isPlace kX12_217 rfl (KP) rfl rfl (by decide) (by decide) (by decide) (Nat.le_of_ble_eq_true rfl) ?_
        refine aw_if_eq (tgt := 15) dX12_differences_5 rfl (by omega) (fun c5 => ?_) (fun c5 => ?_)
        · exact absurd c5 (by omega)
        · refine aw_iload_n dX12_differences_8 rfl ?_
          refine aw_invS_r dX12_differences_9 sX12_isPlace kX12_217 rfl (KR) rfl rfl (by decide) (by decide) (by decide) (Nat.le_of_ble_eq_true rfl) ?_
          refine aw_if_ne (tgt := 19) dX12_differences_12 rfl (by omega) (fun c12 => ?_) (fun c12 => ?_)
          · refine aw_aload_n dX12_differences_19 rfl ?_
            refine aw_iload_n dX12_differences_20 rfl ?_
            refine aw_invV_r dX12_differences_21 vX12_has kX12_223 rfl (KH) ⟨_, (by assumption), _, _, rfl⟩ rfl rfl (by decide) (by decide) (by decide) (Nat.le_of_ble_eq_true rfl) ?_
            refine aw_if_eq (tgt := 39) dX12_differences_24 rfl (by omega) (fun c24 => ?_) (fun c24 => ?_)
            · refine aw_iconst dX12_differences_39 ?_
              refine aw_puti' (j := 5) rfl dX12_differences_40 fX12_62 (by assumption) rfl ?_
              refine aw_aload_n dX12_differences_43 rfl ?_
              refine aw_geti' (j := 5) dX12_differences_44 fX12_62 rfl (by assumption) rfl (gi_at rfl rfl) ?_
              refine aw_if_eq (tgt := 52) dX12_differences_47 rfl (by omega) (fun c47 => ?_) (fun c47 => ?_)
              · exact absurd c47 (by omega)
              · refine aw_iconst dX12_differences_50 ?_
                exact aw_ireturn dX12_differences_51 rfl (Or.inl rfl) ⟨rfl, rM_err hF 2⟩
            · exact absurd c24 (by omega)
          · exact absurd c12 (by omega)
      · rw [if_neg c3] at KH
        by_cases c4 : qs x = []
        · rw [if_pos (Or.inr c4)]
          rw [if_pos c4] at KJ
          refine Call.of (ls := [(0, vr (some a)), (1, vi (u : Int)), (2, vi (x : Int))]) vX12_differences.1 (Nat.le_of_ble_eq_true rfl) rfl ?_
          refine aw_aload_n dX12_differences_0 rfl ?_
          refine aw_iload_n dX12_differences_1 rfl ?_
          refine aw_invS_r dX12_differences_2 sX12_isPlace kX12_217 rfl (KP) rfl rfl (by decide) (by decide) (by decide) (Nat.le_of_ble_eq_true rfl) ?_
          refine aw_if_eq (tgt := 15) dX12_differences_5 rfl (by omega) (fun c5 => ?_) (fun c5 => ?_)
          · exact absurd c5 (by omega)
          · refine aw_iload_n dX12_differences_8 rfl ?_
            refine aw_invS_r dX12_differences_9 sX12_isPlace kX12_217 rfl (KR) rfl rfl (by decide) (by decide) (by decide) (Nat.le_of_ble_eq_true rfl) ?_
            refine aw_if_ne (tgt := 19) dX12_differences_12 rfl (by omega) (fun c12 => ?_) (fun c12 => ?_)
            · refine aw_aload_n dX12_differences_19 rfl ?_
              refine aw_iload_n dX12_differences_20 rfl ?_
              refine aw_invV_r dX12_differences_21 vX12_has kX12_223 rfl (KH) ⟨_, (by assumption), _, _, rfl⟩ rfl rfl (by decide) (by decide) (by decide) (Nat.le_of_ble_eq_true rfl) ?_
              refine aw_if_eq (tgt := 39) dX12_differences_24 rfl (by omega) (fun c24 => ?_) (fun c24 => ?_)
              · exact absurd c24 (by omega)
              · refine aw_aload_n dX12_differences_27 rfl ?_
                refine aw_iload_n dX12_differences_28 rfl ?_
                refine aw_invV_r dX12_differences_29 vX12_has kX12_223 rfl (KJ) ⟨_, (by assumption), _, _, rfl⟩ rfl rfl (by decide) (by decide) (by decide) (Nat.le_of_ble_eq_true rfl) ?_
                refine aw_if_eq (tgt := 39) dX12_differences_32 rfl (by omega) (fun c32 => ?_) (fun c32 => ?_)
                · refine aw_iconst dX12_differences_39 ?_
                  refine aw_puti' (j := 5) rfl dX12_differences_40 fX12_62 (by assumption) rfl ?_
                  refine aw_aload_n dX12_differences_43 rfl ?_
                  refine aw_geti' (j := 5) dX12_differences_44 fX12_62 rfl (by assumption) rfl (gi_at rfl rfl) ?_
                  refine aw_if_eq (tgt := 52) dX12_differences_47 rfl (by omega) (fun c47 => ?_) (fun c47 => ?_)
                  · exact absurd c47 (by omega)
                  · refine aw_iconst dX12_differences_50 ?_
                    exact aw_ireturn dX12_differences_51 rfl (Or.inl rfl) ⟨rfl, rM_err hF 2⟩
                · exact absurd c32 (by omega)
            · exact absurd c12 (by omega)
        · rw [if_neg (fun z => z.elim c3 c4)]
          rw [if_neg c4] at KJ
          have KT : Call γ mX12_take 10 0 0 [vr (some a), vi (u : Int)] (si h a 5 0) (rF (fun h' => eqG (ST9 a) (si h a 5 0) h' ∧ gQ (gi h' (a + 7)) (qs u))) := m_take9 (γ := γ) m5 hu c3
          have Lf := fun H1 (E1 : eqG (ST9 a) (si h a 5 0) H1) (G1 : gQ (gi H1 (a + 7)) (qs u)) (m1 : isMd H1 a (T, qs) U tx) => l_df59 (γ := γ) (p := (u : Int)) (r := (x : Int)) (T := T) (Q := rM h a (0, ((fb_ct (difS T (qs u) (qs x)) (tn T) : Nat) : Int), ((T, qs), U, tx))) m1.1 m1.2.1.1 oT oq G1 (fun H2 E2 R2 => by
            have m2 : isMd H2 a (T, qs) U tx := m1.eqk (E2.mono SDf_k)
            have KT2 : Call γ mX12_take 10 0 0 [vr (some a), vi (x : Int)] H2 (rF (fun h' => eqG (ST9 a) H2 h' ∧ gQ (gi h' (a + 7)) (qs x))) := m_take9 (γ := γ) m2 hx c4
            have hka2 := m2.1.1
            have Ls := fun H3 (E3 : eqG (ST9 a) H2 H3) (G3 : gQ (gi H3 (a + 7)) (qs x)) (m3 : isMd H3 a (T, qs) U tx) => l_df125 (γ := γ) (p := (u : Int)) (r := (x : Int)) (T := T) (q := qs u) (Q := rM h a (0, ((fb_ct (difS T (qs u) (qs x)) (tn T) : Nat) : Int), ((T, qs), U, tx))) m3.1 m3.2.1.1 oT ox G3 (fun H4 E4 => ⟨rfl, rM_ok hF ((((E1.mono ST9_k).tr (E2.mono SDf_k)).tr (E3.mono ST9_k)).tr (E4.mono SDf_k)) ((E4.2.2.2.2 _ _ (by unfold SDf SSe SPt SGv SXt SI; omega)).trans ((E3.2.2.2.2 _ _ (by unfold ST9; omega)).trans ((E2.2.2.2.2 _ _ (by unfold SDf SSe SPt SGv SXt SI; omega)).trans ((E1.2.2.2.2 _ _ (by unfold ST9; omega)).trans (gi_at rfl rfl)))))⟩) (tn T) 0 H3 (Nat.zero_add _) eqG.rf (fun d j hd hj => (E3.2.2.2.2 _ _ (by unfold ST9; omega)).trans (R2 d j hd hj))
            refine aw_aload_n dX12_differences_115 rfl ?_
            refine aw_iload_n dX12_differences_116 rfl ?_
            refine aw_invV_f dX12_differences_117 vX12_take kX12_235 rfl (KT2) ⟨_, (by assumption), _, _, rfl⟩ rfl rfl (by decide) (by decide) (by decide) (Nat.le_of_ble_eq_true rfl) (fun H3 hP9 => ?_)
            obtain ⟨E3, G3⟩ := hP9
            refine aw_iconst dX12_differences_120 ?_
            refine aw_istore_n (ls1 := [(3, _), (0, _), (1, _), (2, _)]) dX12_differences_121 (by decide) rfl ?_
            refine aw_iconst dX12_differences_122 ?_
            refine aw_istore (ls1 := [(4, _), (3, _), (0, _), (1, _), (2, _)]) dX12_differences_123 (by decide) rfl ?_
            refine aw_sub [0, 1, 2, 3, 4] rfl ?_
            exact Ls H3 E3 G3 (m2.eqk (E3.mono ST9_k))) (tn T) 0 H1 (Nat.zero_add _) eqG.rf (fun d j hd => absurd hd (by omega))
          refine Call.of (ls := [(0, vr (some a)), (1, vi (u : Int)), (2, vi (x : Int))]) vX12_differences.1 (Nat.le_of_ble_eq_true rfl) rfl ?_
          refine aw_aload_n dX12_differences_0 rfl ?_
          refine aw_iload_n dX12_differences_1 rfl ?_
          refine aw_invS_r dX12_differences_2 sX12_isPlace kX12_217 rfl (KP) rfl rfl (by decide) (by decide) (by decide) (Nat.le_of_ble_eq_true rfl) ?_
          refine aw_if_eq (tgt := 15) dX12_differences_5 rfl (by omega) (fun c5 => ?_) (fun c5 => ?_)
          · exact absurd c5 (by omega)
          · refine aw_iload_n dX12_differences_8 rfl ?_
            refine aw_invS_r dX12_differences_9 sX12_isPlace kX12_217 rfl (KR) rfl rfl (by decide) (by decide) (by decide) (Nat.le_of_ble_eq_true rfl) ?_
            refine aw_if_ne (tgt := 19) dX12_differences_12 rfl (by omega) (fun c12 => ?_) (fun c12 => ?_)
            · refine aw_aload_n dX12_differences_19 rfl ?_
              refine aw_iload_n dX12_differences_20 rfl ?_
              refine aw_invV_r dX12_differences_21 vX12_has kX12_223 rfl (KH) ⟨_, (by assumption), _, _, rfl⟩ rfl rfl (by decide) (by decide) (by decide) (Nat.le_of_ble_eq_true rfl) ?_
              refine aw_if_eq (tgt := 39) dX12_differences_24 rfl (by omega) (fun c24 => ?_) (fun c24 => ?_)
              · exact absurd c24 (by omega)
              · refine aw_aload_n dX12_differences_27 rfl ?_
                refine aw_iload_n dX12_differences_28 rfl ?_
                refine aw_invV_r dX12_differences_29 vX12_has kX12_223 rfl (KJ) ⟨_, (by assumption), _, _, rfl⟩ rfl rfl (by decide) (by decide) (by decide) (Nat.le_of_ble_eq_true rfl) ?_
                refine aw_if_eq (tgt := 39) dX12_differences_32 rfl (by omega) (fun c32 => ?_) (fun c32 => ?_)
                · exact absurd c32 (by omega)
                · refine aw_iconst dX12_differences_35 ?_
                  refine aw_goto (tgt := 40) dX12_differences_36 rfl ?_
                  refine aw_puti' (j := 5) rfl dX12_differences_40 fX12_62 (by assumption) rfl ?_
                  refine aw_aload_n dX12_differences_43 rfl ?_
                  refine aw_geti' (j := 5) dX12_differences_44 fX12_62 rfl (by assumption) rfl (gi_at rfl rfl) ?_
                  refine aw_if_eq (tgt := 52) dX12_differences_47 rfl (by omega) (fun c47 => ?_) (fun c47 => ?_)
                  · refine aw_aload_n dX12_differences_52 rfl ?_
                    refine aw_iload_n dX12_differences_53 rfl ?_
                    refine aw_invV_f dX12_differences_54 vX12_take kX12_235 rfl (KT) ⟨_, (by assumption), _, _, rfl⟩ rfl rfl (by decide) (by decide) (by decide) (Nat.le_of_ble_eq_true rfl) (fun H1 hP9 => ?_)
                    obtain ⟨E1, G1⟩ := hP9
                    refine aw_iconst dX12_differences_57 ?_
                    refine aw_istore_n (ls1 := [(3, _), (0, _), (1, _), (2, _)]) dX12_differences_58 (by decide) rfl ?_
                    refine aw_sub [0, 1, 2, 3] rfl ?_
                    exact Lf H1 E1 G1 (m5.eqk (E1.mono ST9_k))
                  · exact absurd c47 (by omega)
            · exact absurd c12 (by omega)
    · rw [if_pos (fun z => c2 z.2)]
      rw [if_neg c2] at KR
      refine Call.of (ls := [(0, vr (some a)), (1, vi p), (2, vi r)]) vX12_differences.1 (Nat.le_of_ble_eq_true rfl) rfl ?_
      refine aw_aload_n dX12_differences_0 rfl ?_
      refine aw_iload_n dX12_differences_1 rfl ?_
      refine aw_invS_r dX12_differences_2 sX12_isPlace kX12_217 rfl (KP) rfl rfl (by decide) (by decide) (by decide) (Nat.le_of_ble_eq_true rfl) ?_
      refine aw_if_eq (tgt := 15) dX12_differences_5 rfl (by omega) (fun c5 => ?_) (fun c5 => ?_)
      · exact absurd c5 (by omega)
      · refine aw_iload_n dX12_differences_8 rfl ?_
        refine aw_invS_r dX12_differences_9 sX12_isPlace kX12_217 rfl (KR) rfl rfl (by decide) (by decide) (by decide) (Nat.le_of_ble_eq_true rfl) ?_
        refine aw_if_ne (tgt := 19) dX12_differences_12 rfl (by omega) (fun c12 => ?_) (fun c12 => ?_)
        · exact absurd c12 (by omega)
        · refine aw_iconst dX12_differences_15 ?_
          refine aw_goto (tgt := 40) dX12_differences_16 rfl ?_
          refine aw_puti' (j := 5) rfl dX12_differences_40 fX12_62 (by assumption) rfl ?_
          refine aw_aload_n dX12_differences_43 rfl ?_
          refine aw_geti' (j := 5) dX12_differences_44 fX12_62 rfl (by assumption) rfl (gi_at rfl rfl) ?_
          refine aw_if_eq (tgt := 52) dX12_differences_47 rfl (by omega) (fun c47 => ?_) (fun c47 => ?_)
          · exact absurd c47 (by omega)
          · refine aw_iconst dX12_differences_50 ?_
            exact aw_ireturn dX12_differences_51 rfl (Or.inl rfl) ⟨rfl, rM_err hF 1⟩
  · rw [if_pos (fun z => c1 z.1)]
    rw [if_neg c1] at KP
    refine Call.of (ls := [(0, vr (some a)), (1, vi p), (2, vi r)]) vX12_differences.1 (Nat.le_of_ble_eq_true rfl) rfl ?_
    refine aw_aload_n dX12_differences_0 rfl ?_
    refine aw_iload_n dX12_differences_1 rfl ?_
    refine aw_invS_r dX12_differences_2 sX12_isPlace kX12_217 rfl (KP) rfl rfl (by decide) (by decide) (by decide) (Nat.le_of_ble_eq_true rfl) ?_
    refine aw_if_eq (tgt := 15) dX12_differences_5 rfl (by omega) (fun c5 => ?_) (fun c5 => ?_)
    · refine aw_iconst dX12_differences_15 ?_
      refine aw_goto (tgt := 40) dX12_differences_16 rfl ?_
      refine aw_puti' (j := 5) rfl dX12_differences_40 fX12_62 (by assumption) rfl ?_
      refine aw_aload_n dX12_differences_43 rfl ?_
      refine aw_geti' (j := 5) dX12_differences_44 fX12_62 rfl (by assumption) rfl (gi_at rfl rfl) ?_
      refine aw_if_eq (tgt := 52) dX12_differences_47 rfl (by omega) (fun c47 => ?_) (fun c47 => ?_)
      · exact absurd c47 (by omega)
      · refine aw_iconst dX12_differences_50 ?_
        exact aw_ireturn dX12_differences_51 rfl (Or.inl rfl) ⟨rfl, rM_err hF 1⟩
    · exact absurd c5 (by omega)
