/-! ===== the model: rewrite, uses ===== -/
def opRew (F : FS) (p : Int) : Int × Int × FS :=
  if ¬ (0 ≤ p ∧ p ≤ 3) then (1, 0, F) else if F.1.2 p.toNat = [] then (2, 0, F) else (0, sumU (rwQ (F.1.2 p.toNat)).2 9, keepF F (upQ F.1 p.toNat (rwQ (F.1.2 p.toNat)).1))
def opUse (F : FS) (p r : Int) : Int × Int × FS :=
  if ¬ (0 ≤ p ∧ p ≤ 3) then (1, 0, F) else if ¬ (1 ≤ r ∧ r ≤ 9) then (2, 0, F) else if F.1.2 p.toNat = [] then (3, 0, F) else (0, (rwQ (F.1.2 p.toNat)).2 r.toNat, F)
theorem SX_k {a : Nat} : ∀ b j, SX a 0 6537 b j → SK a b j := fun b j z => by unfold SX SW SO SQ at z; unfold SK; omega
theorem SX_5 {a : Nat} : ¬ SX a 0 6537 a 5 := by unfold SX SW SO SQ; omega
theorem one_le {q : TQ} (h : q ≠ []) : 1 ≤ q.length := List.length_pos_iff.mpr h
theorem l_rwsum {γ : GG} {a : Nat} {h : AH} {u : Nat → Int} {p : Int} {Q : AR → AH → Prop} (hM : shM h a) (hu : uM h a u) (kk : Q (.inl (some (vi (sumU u 9)))) h) : ∀ (m k : Nat), k + m = 9 → AW γ mX12_rewrite 11 0 0 59 [(3, vi ((k + 1 : Nat) : Int)), (2, vi (sumU u k)), (0, vr (some a)), (1, vi p)] [] h Q := by
  obtain ⟨hka, -, -⟩ := hM.q
  obtain ⟨ru, ku⟩ := hM.u9
  intro m
  induction m with
  | zero =>
    intro k hk
    obtain rfl : k = 9 := by omega
    refine aw_iload_n dX12_rewrite_59 rfl ?_
    refine aw_bipush dX12_rewrite_60 rfl ?_
    refine aw_ic_ge (tgt := 80) dX12_rewrite_62 rfl (by omega) (by omega) (fun c62 => ?_) (fun c62 => ?_)
    · refine aw_iload_n dX12_rewrite_80 rfl ?_
      exact aw_ireturn dX12_rewrite_81 rfl (Or.inl rfl) kk
    · exact absurd c62 (by omega)
  | succ m ih =>
    intro k hk
    have gu := hu (k + 1) (by omega) (by omega)
    have I := ih (k + 1) (by omega)
    have e : sumU u (k + 1) = sumU u k + u (k + 1) := rfl
    rw [e] at I
    refine aw_iload_n dX12_rewrite_59 rfl ?_
    refine aw_bipush dX12_rewrite_60 rfl ?_
    refine aw_ic_ge (tgt := 80) dX12_rewrite_62 rfl (by omega) (by omega) (fun c62 => ?_) (fun c62 => ?_)
    · exact absurd c62 (by omega)
    · refine aw_iload_n dX12_rewrite_65 rfl ?_
      refine aw_aload_n dX12_rewrite_66 rfl ?_
      refine aw_getr' (j := 24) dX12_rewrite_67 fX12_59 rfl (by assumption) rfl (by assumption) ?_
      refine aw_iload_n dX12_rewrite_70 rfl ?_
      refine aw_iald' dX12_rewrite_71 (by assumption) (by omega) (by first | decide | omega) gu ?_
      refine aw_iadd dX12_rewrite_72 ?_
      refine aw_istore_n (ls1 := [(2, _), (3, _), (0, _), (1, _)]) dX12_rewrite_73 (by decide) rfl ?_
      refine aw_iinc (k9 := 1) (ls1 := [(3, _), (2, _), (0, _), (1, _)]) dX12_rewrite_74 rfl (by decide) rfl ?_
      refine aw_goto (tgt := 59) dX12_rewrite_77 rfl ?_
      refine aw_sub [0, 1, 2, 3] rfl ?_
      exact I
theorem m_rewrite {γ : GG} {h : AH} {a : Nat} {F : FS} {p : Int} (hF : isF h a F) (hp : (-2147483648 ≤ p ∧ p ≤ 2147483647)) : Call γ mX12_rewrite 11 0 0 [vr (some a), vi p] h (rM h a (opRew F p)) := by
  obtain ⟨S, U, tx⟩ := F
  obtain ⟨T, qs⟩ := S
  have hm : isMd h a (T, qs) U tx := hF
  have oT : okTr T := hm.2.2.1.1
  have o9 := oT.o
  have n40 := o9.2.1
  have n1 := o9.1
  obtain ⟨hka, -, -⟩ := hm.1.q
  obtain ⟨rm, km⟩ := hm.1.m
  have g0 : gi h (a + 1) 0 = (tn T : Int) := hm.2.1.1.1
  have m5 : isMd (si h a 5 0) a (T, qs) U tx := hm.eqk (E5 (v := 0))
  have KP := m_isPlace (γ := γ) (h := h) hp
  unfold opRew
  dsimp only
  by_cases c1 : 0 ≤ p ∧ p ≤ 3
  · rw [if_pos c1] at KP
    rw [if_neg (fun z => z c1)]
    obtain ⟨u, rfl⟩ := Int.eq_ofNat_of_zero_le c1.1
    rw [Int.toNat_natCast]
    have hu : u < 4 := by omega
    have KH : Call γ mX12_has 0 0 0 [vr (some a), vi (u : Int)] h (rV (vi (if qs u = [] then 0 else 1)) h) := m_has (γ := γ) hm hu
    have oq := hm.2.2.1.2 u hu
    have oq : okQ (qs u) ∧ lnQ (qs u) := oq
    by_cases c3 : qs u = []
    · rw [if_pos c3]
      rw [if_pos c3] at KH
      refine Call.of (ls := [(0, vr (some a)), (1, vi (u : Int))]) vX12_rewrite.1 (Nat.le_of_ble_eq_true rfl) rfl ?_
      refine aw_aload_n dX12_rewrite_0 rfl ?_
      refine aw_iload_n dX12_rewrite_1 rfl ?_
      refine aw_invS_r dX12_rewrite_2 sX12_isPlace kX12_217 rfl (KP) rfl rfl (by decide) (by decide) (by decide) (Nat.le_of_ble_eq_true rfl) ?_
      refine aw_if_ne (tgt := 12) dX12_rewrite_5 rfl (by omega) (fun c5 => ?_) (fun c5 => ?_)
      · refine aw_aload_n dX12_rewrite_12 rfl ?_
        refine aw_iload_n dX12_rewrite_13 rfl ?_
        refine aw_invV_r dX12_rewrite_14 vX12_has kX12_223 rfl (KH) ⟨_, (by assumption), _, _, rfl⟩ rfl rfl (by decide) (by decide) (by decide) (Nat.le_of_ble_eq_true rfl) ?_
        refine aw_if_eq (tgt := 24) dX12_rewrite_17 rfl (by omega) (fun c17 => ?_) (fun c17 => ?_)
        · refine aw_iconst dX12_rewrite_24 ?_
          refine aw_puti' (j := 5) rfl dX12_rewrite_25 fX12_62 (by assumption) rfl ?_
          refine aw_aload_n dX12_rewrite_28 rfl ?_
          refine aw_geti' (j := 5) dX12_rewrite_29 fX12_62 rfl (by assumption) rfl (gi_at rfl rfl) ?_
          refine aw_if_eq (tgt := 37) dX12_rewrite_32 rfl (by omega) (fun c32 => ?_) (fun c32 => ?_)
          · exact absurd c32 (by omega)
          · refine aw_iconst dX12_rewrite_35 ?_
            exact aw_ireturn dX12_rewrite_36 rfl (Or.inl rfl) ⟨rfl, rM_err hF 2⟩
        · exact absurd c17 (by omega)
      · exact absurd c5 (by omega)
    · rw [if_neg c3]
      rw [if_neg c3] at KH
      have KK := m_keep (γ := γ) m5
      refine Call.of (ls := [(0, vr (some a)), (1, vi (u : Int))]) vX12_rewrite.1 (Nat.le_of_ble_eq_true rfl) rfl ?_
      refine aw_aload_n dX12_rewrite_0 rfl ?_
      refine aw_iload_n dX12_rewrite_1 rfl ?_
      refine aw_invS_r dX12_rewrite_2 sX12_isPlace kX12_217 rfl (KP) rfl rfl (by decide) (by decide) (by decide) (Nat.le_of_ble_eq_true rfl) ?_
      refine aw_if_ne (tgt := 12) dX12_rewrite_5 rfl (by omega) (fun c5 => ?_) (fun c5 => ?_)
      · refine aw_aload_n dX12_rewrite_12 rfl ?_
        refine aw_iload_n dX12_rewrite_13 rfl ?_
        refine aw_invV_r dX12_rewrite_14 vX12_has kX12_223 rfl (KH) ⟨_, (by assumption), _, _, rfl⟩ rfl rfl (by decide) (by decide) (by decide) (Nat.le_of_ble_eq_true rfl) ?_
        refine aw_if_eq (tgt := 24) dX12_rewrite_17 rfl (by omega) (fun c17 => ?_) (fun c17 => ?_)
        · exact absurd c17 (by omega)
        · refine aw_iconst dX12_rewrite_20 ?_
          refine aw_goto (tgt := 25) dX12_rewrite_21 rfl ?_
          refine aw_puti' (j := 5) rfl dX12_rewrite_25 fX12_62 (by assumption) rfl ?_
          refine aw_aload_n dX12_rewrite_28 rfl ?_
          refine aw_geti' (j := 5) dX12_rewrite_29 fX12_62 rfl (by assumption) rfl (gi_at rfl rfl) ?_
          refine aw_if_eq (tgt := 37) dX12_rewrite_32 rfl (by omega) (fun c32 => ?_) (fun c32 => ?_)
          · refine aw_aload_n dX12_rewrite_37 rfl ?_
            refine aw_invV_f dX12_rewrite_38 vX12_keep kX12_85 rfl (KK) ⟨_, (by assumption), _, _, rfl⟩ rfl rfl (by decide) (by decide) (by decide) (Nat.le_of_ble_eq_true rfl) (fun H1 hP9 => ?_)
            obtain ⟨E1, m1⟩ := hP9
            have hka1 := m1.1.1
            have KT : Call γ mX12_take 10 0 0 [vr (some a), vi (u : Int)] H1 (rF (fun h' => eqG (ST9 a) H1 h' ∧ gQ (gi h' (a + 7)) (qs u))) := m_take9 (γ := γ) m1 hu c3
            refine aw_aload_n dX12_rewrite_41 rfl ?_
            refine aw_iload_n dX12_rewrite_42 rfl ?_
            refine aw_invV_f dX12_rewrite_43 vX12_take kX12_235 rfl (KT) ⟨_, (by assumption), _, _, rfl⟩ rfl rfl (by decide) (by decide) (by decide) (Nat.le_of_ble_eq_true rfl) (fun H2 hP9 => ?_)
            obtain ⟨E2, G2⟩ := hP9
            have m2 : isMd H2 a (T, qs) (psh U (T, qs)) tx := m1.eqk (E2.mono ST9_k)
            have hka2 := m2.1.1
            have KW := m_rewriteAll (γ := γ) m2.1 G2 oq.1 oq.2 (one_le c3)
            refine aw_aload_n dX12_rewrite_46 rfl ?_
            refine aw_invV_f dX12_rewrite_47 vX12_rewriteAll kX12_333 rfl (KW) ⟨_, (by assumption), _, _, rfl⟩ rfl rfl (by decide) (by decide) (by decide) (Nat.le_of_ble_eq_true rfl) (fun H3 hP9 => ?_)
            obtain ⟨G3, o3, w3, E3, U3⟩ := hP9
            have m3 : isMd H3 a (T, qs) (psh U (T, qs)) tx := m2.eqk (E3.mono SX_k)
            have hka3 := m3.1.1
            have KL := m_lay (γ := γ) m3 hu o3 w3 G3
            refine aw_aload_n dX12_rewrite_50 rfl ?_
            refine aw_iload_n dX12_rewrite_51 rfl ?_
            refine aw_invV_f dX12_rewrite_52 vX12_lay kX12_220 rfl (KL) ⟨_, (by assumption), _, _, rfl⟩ rfl rfl (by decide) (by decide) (by decide) (Nat.le_of_ble_eq_true rfl) (fun H4 hP9 => ?_)
            obtain ⟨E4, m4⟩ := hP9
            have U4 : uM H4 a (rwQ (qs u)).2 := fun j j1 j2 => (E4.2.2.2.2 _ _ (by unfold SL SO; omega)).trans (U3 j j1 j2)
            have e5 : gi H4 a 5 = 0 := (E4.2.2.2.2 _ _ (by unfold SL SO; omega)).trans ((E3.2.2.2.2 _ _ SX_5).trans ((E2.2.2.2.2 _ _ (by unfold ST9; omega)).trans ((E1.2.2.2.2 _ _ (by unfold SV; omega)).trans (gi_at rfl rfl))))
            have eA : eqG (SA a) h H4 := ((((E5.mono SA_k).tr (E1.mono SA_v)).tr ((E2.mono ST9_k).mono SA_k)).tr ((E3.mono SX_k).mono SA_k)).tr (E4.mono SA_l)
            have L := l_rwsum (γ := γ) (p := (u : Int)) (Q := rM h a (0, sumU (rwQ (qs u)).2 9, keepF ((T, qs), U, tx) (upQ (T, qs) u (rwQ (qs u)).1))) m4.1 U4 ⟨rfl, m4, e5, eA⟩ 9 0 rfl
            refine aw_iconst dX12_rewrite_55 ?_
            refine aw_istore_n (ls1 := [(2, _), (0, _), (1, _)]) dX12_rewrite_56 (by decide) rfl ?_
            refine aw_iconst dX12_rewrite_57 ?_
            refine aw_istore_n (ls1 := [(3, _), (2, _), (0, _), (1, _)]) dX12_rewrite_58 (by decide) rfl ?_
            refine aw_sub [0, 1, 2, 3] rfl ?_
            exact L
          · exact absurd c32 (by omega)
      · exact absurd c5 (by omega)
  · rw [if_pos c1]
    rw [if_neg c1] at KP
    refine Call.of (ls := [(0, vr (some a)), (1, vi p)]) vX12_rewrite.1 (Nat.le_of_ble_eq_true rfl) rfl ?_
    refine aw_aload_n dX12_rewrite_0 rfl ?_
    refine aw_iload_n dX12_rewrite_1 rfl ?_
    refine aw_invS_r dX12_rewrite_2 sX12_isPlace kX12_217 rfl (KP) rfl rfl (by decide) (by decide) (by decide) (Nat.le_of_ble_eq_true rfl) ?_
    refine aw_if_ne (tgt := 12) dX12_rewrite_5 rfl (by omega) (fun c5 => ?_) (fun c5 => ?_)
    · exact absurd c5 (by omega)
    · refine aw_iconst dX12_rewrite_8 ?_
      refine aw_goto (tgt := 25) dX12_rewrite_9 rfl ?_
      refine aw_puti' (j := 5) rfl dX12_rewrite_25 fX12_62 (by assumption) rfl ?_
      refine aw_aload_n dX12_rewrite_28 rfl ?_
      refine aw_geti' (j := 5) dX12_rewrite_29 fX12_62 rfl (by assumption) rfl (gi_at rfl rfl) ?_
      refine aw_if_eq (tgt := 37) dX12_rewrite_32 rfl (by omega) (fun c32 => ?_) (fun c32 => ?_)
      · exact absurd c32 (by omega)
      · refine aw_iconst dX12_rewrite_35 ?_
        exact aw_ireturn dX12_rewrite_36 rfl (Or.inl rfl) ⟨rfl, rM_err hF 1⟩
theorem m_uses {γ : GG} {h : AH} {a : Nat} {F : FS} {p r : Int} (hF : isF h a F) (hp : (-2147483648 ≤ p ∧ p ≤ 2147483647)) (hr : (-2147483648 ≤ r ∧ r ≤ 2147483647)) : Call γ mX12_uses 11 0 0 [vr (some a), vi p, vi r] h (rM h a (opUse F p r)) := by
  obtain ⟨S, U, tx⟩ := F
  obtain ⟨T, qs⟩ := S
  have hm : isMd h a (T, qs) U tx := hF
  have oT : okTr T := hm.2.2.1.1
  have o9 := oT.o
  have n40 := o9.2.1
  have n1 := o9.1
  obtain ⟨hka, -, -⟩ := hm.1.q
  obtain ⟨rm, km⟩ := hm.1.m
  have g0 : gi h (a + 1) 0 = (tn T : Int) := hm.2.1.1.1
  have m5 : isMd (si h a 5 0) a (T, qs) U tx := hm.eqk (E5 (v := 0))
  have KP := m_isPlace (γ := γ) (h := h) hp
  have KI := m_in (γ := γ) (h := h) (v := r) (l := 1) (m := 9) hr (by omega) (by omega)
  unfold opUse
  dsimp only
  by_cases c1 : 0 ≤ p ∧ p ≤ 3
  · rw [if_pos c1] at KP
    rw [if_neg (fun z => z c1)]
    by_cases c2 : 1 ≤ r ∧ r ≤ 9
    · rw [if_neg (fun z => z c2)]
      rw [if_pos c2] at KI
      obtain ⟨u, rfl⟩ := Int.eq_ofNat_of_zero_le c1.1
      obtain ⟨y, rfl⟩ := Int.eq_ofNat_of_zero_le (show 0 ≤ r by omega)
      rw [Int.toNat_natCast, Int.toNat_natCast]
      have hu : u < 4 := by omega
      have KH : Call γ mX12_has 0 0 0 [vr (some a), vi (u : Int)] h (rV (vi (if qs u = [] then 0 else 1)) h) := m_has (γ := γ) hm hu
      have oq := hm.2.2.1.2 u hu
      have oq : okQ (qs u) ∧ lnQ (qs u) := oq
      by_cases c3 : qs u = []
      · rw [if_pos c3]
        rw [if_pos c3] at KH
        refine Call.of (ls := [(0, vr (some a)), (1, vi (u : Int)), (2, vi (y : Int))]) vX12_uses.1 (Nat.le_of_ble_eq_true rfl) rfl ?_
        refine aw_aload_n dX12_uses_0 rfl ?_
        refine aw_iload_n dX12_uses_1 rfl ?_
        refine aw_invS_r dX12_uses_2 sX12_isPlace kX12_217 rfl (KP) rfl rfl (by decide) (by decide) (by decide) (Nat.le_of_ble_eq_true rfl) ?_
        refine aw_if_ne (tgt := 12) dX12_uses_5 rfl (by omega) (fun c5 => ?_) (fun c5 => ?_)
        · refine aw_iload_n dX12_uses_12 rfl ?_
          refine aw_iconst dX12_uses_13 ?_
          refine aw_bipush dX12_uses_14 rfl ?_
          refine aw_invS_r dX12_uses_16 sX12_in kX12_69 rfl (KI) rfl rfl (by decide) (by decide) (by decide) (Nat.le_of_ble_eq_true rfl) ?_
          refine aw_if_ne (tgt := 26) dX12_uses_19 rfl (by omega) (fun c19 => ?_) (fun c19 => ?_)
          · refine aw_aload_n dX12_uses_26 rfl ?_
            refine aw_iload_n dX12_uses_27 rfl ?_
            refine aw_invV_r dX12_uses_28 vX12_has kX12_223 rfl (KH) ⟨_, (by assumption), _, _, rfl⟩ rfl rfl (by decide) (by decide) (by decide) (Nat.le_of_ble_eq_true rfl) ?_
            refine aw_if_eq (tgt := 38) dX12_uses_31 rfl (by omega) (fun c31 => ?_) (fun c31 => ?_)
            · refine aw_iconst dX12_uses_38 ?_
              refine aw_puti' (j := 5) rfl dX12_uses_39 fX12_62 (by assumption) rfl ?_
              refine aw_aload_n dX12_uses_42 rfl ?_
              refine aw_geti' (j := 5) dX12_uses_43 fX12_62 rfl (by assumption) rfl (gi_at rfl rfl) ?_
              refine aw_if_eq (tgt := 51) dX12_uses_46 rfl (by omega) (fun c46 => ?_) (fun c46 => ?_)
              · exact absurd c46 (by omega)
              · refine aw_iconst dX12_uses_49 ?_
                exact aw_ireturn dX12_uses_50 rfl (Or.inl rfl) ⟨rfl, rM_err hF 3⟩
            · exact absurd c31 (by omega)
          · exact absurd c19 (by omega)
        · exact absurd c5 (by omega)
      · rw [if_neg c3]
        rw [if_neg c3] at KH
        have KT : Call γ mX12_take 10 0 0 [vr (some a), vi (u : Int)] (si h a 5 0) (rF (fun h' => eqG (ST9 a) (si h a 5 0) h' ∧ gQ (gi h' (a + 7)) (qs u))) := m_take9 (γ := γ) m5 hu c3
        refine Call.of (ls := [(0, vr (some a)), (1, vi (u : Int)), (2, vi (y : Int))]) vX12_uses.1 (Nat.le_of_ble_eq_true rfl) rfl ?_
        refine aw_aload_n dX12_uses_0 rfl ?_
        refine aw_iload_n dX12_uses_1 rfl ?_
        refine aw_invS_r dX12_uses_2 sX12_isPlace kX12_217 rfl (KP) rfl rfl (by decide) (by decide) (by decide) (Nat.le_of_ble_eq_true rfl) ?_
        refine aw_if_ne (tgt := 12) dX12_uses_5 rfl (by omega) (fun c5 => ?_) (fun c5 => ?_)
        · refine aw_iload_n dX12_uses_12 rfl ?_
          refine aw_iconst dX12_uses_13 ?_
          refine aw_bipush dX12_uses_14 rfl ?_
          refine aw_invS_r dX12_uses_16 sX12_in kX12_69 rfl (KI) rfl rfl (by decide) (by decide) (by decide) (Nat.le_of_ble_eq_true rfl) ?_
          refine aw_if_ne (tgt := 26) dX12_uses_19 rfl (by omega) (fun c19 => ?_) (fun c19 => ?_)
          · refine aw_aload_n dX12_uses_26 rfl ?_
            refine aw_iload_n dX12_uses_27 rfl ?_
            refine aw_invV_r dX12_uses_28 vX12_has kX12_223 rfl (KH) ⟨_, (by assumption), _, _, rfl⟩ rfl rfl (by decide) (by decide) (by decide) (Nat.le_of_ble_eq_true rfl) ?_
            refine aw_if_eq (tgt := 38) dX12_uses_31 rfl (by omega) (fun c31 => ?_) (fun c31 => ?_)
            · exact absurd c31 (by omega)
            · refine aw_iconst dX12_uses_34 ?_
              refine aw_goto (tgt := 39) dX12_uses_35 rfl ?_
              refine aw_puti' (j := 5) rfl dX12_uses_39 fX12_62 (by assumption) rfl ?_
              refine aw_aload_n dX12_uses_42 rfl ?_
              refine aw_geti' (j := 5) dX12_uses_43 fX12_62 rfl (by assumption) rfl (gi_at rfl rfl) ?_
              refine aw_if_eq (tgt := 51) dX12_uses_46 rfl (by omega) (fun c46 => ?_) (fun c46 => ?_)
              · refine aw_aload_n dX12_uses_51 rfl ?_
                refine aw_iload_n dX12_uses_52 rfl ?_
                refine aw_invV_f dX12_uses_53 vX12_take kX12_235 rfl (KT) ⟨_, (by assumption), _, _, rfl⟩ rfl rfl (by decide) (by decide) (by decide) (Nat.le_of_ble_eq_true rfl) (fun H1 hP9 => ?_)
                obtain ⟨E1, G1⟩ := hP9
                have m1 : isMd H1 a (T, qs) U tx := m5.eqk (E1.mono ST9_k)
                have hka1 := m1.1.1
                have KW := m_rewriteAll (γ := γ) m1.1 G1 oq.1 oq.2 (one_le c3)
                refine aw_aload_n dX12_uses_56 rfl ?_
                refine aw_invV_f dX12_uses_57 vX12_rewriteAll kX12_333 rfl (KW) ⟨_, (by assumption), _, _, rfl⟩ rfl rfl (by decide) (by decide) (by decide) (Nat.le_of_ble_eq_true rfl) (fun H2 hP9 => ?_)
                obtain ⟨G2, o2, w2, E2, U2⟩ := hP9
                have m2 : isMd H2 a (T, qs) U tx := m1.eqk (E2.mono SX_k)
                obtain ⟨hka2, -, -⟩ := m2.1.q
                obtain ⟨ru, ku⟩ := m2.1.u9
                have gu := U2 y (by omega) (by omega)
                refine aw_aload_n dX12_uses_60 rfl ?_
                refine aw_getr' (j := 24) dX12_uses_61 fX12_59 rfl (by assumption) rfl (by assumption) ?_
                refine aw_iload_n dX12_uses_64 rfl ?_
                refine aw_iald' dX12_uses_65 (by assumption) (by omega) (by first | decide | omega) gu ?_
                exact aw_ireturn dX12_uses_66 rfl (Or.inl rfl) ⟨rfl, rM_ok hF ((E1.mono ST9_k).tr (E2.mono SX_k)) ((E2.2.2.2.2 _ _ SX_5).trans ((E1.2.2.2.2 _ _ (by unfold ST9; omega)).trans (gi_at rfl rfl)))⟩
              · exact absurd c46 (by omega)
          · exact absurd c19 (by omega)
        · exact absurd c5 (by omega)
    · rw [if_pos c2]
      rw [if_neg c2] at KI
      refine Call.of (ls := [(0, vr (some a)), (1, vi p), (2, vi r)]) vX12_uses.1 (Nat.le_of_ble_eq_true rfl) rfl ?_
      refine aw_aload_n dX12_uses_0 rfl ?_
      refine aw_iload_n dX12_uses_1 rfl ?_
      refine aw_invS_r dX12_uses_2 sX12_isPlace kX12_217 rfl (KP) rfl rfl (by decide) (by decide) (by decide) (Nat.le_of_ble_eq_true rfl) ?_
      refine aw_if_ne (tgt := 12) dX12_uses_5 rfl (by omega) (fun c5 => ?_) (fun c5 => ?_)
      · refine aw_iload_n dX12_uses_12 rfl ?_
        refine aw_iconst dX12_uses_13 ?_
        refine aw_bipush dX12_uses_14 rfl ?_
        refine aw_invS_r dX12_uses_16 sX12_in kX12_69 rfl (KI) rfl rfl (by decide) (by decide) (by decide) (Nat.le_of_ble_eq_true rfl) ?_
        refine aw_if_ne (tgt := 26) dX12_uses_19 rfl (by omega) (fun c19 => ?_) (fun c19 => ?_)
        · exact absurd c19 (by omega)
        · refine aw_iconst dX12_uses_22 ?_
          refine aw_goto (tgt := 39) dX12_uses_23 rfl ?_
          refine aw_puti' (j := 5) rfl dX12_uses_39 fX12_62 (by assumption) rfl ?_
          refine aw_aload_n dX12_uses_42 rfl ?_
          refine aw_geti' (j := 5) dX12_uses_43 fX12_62 rfl (by assumption) rfl (gi_at rfl rfl) ?_
          refine aw_if_eq (tgt := 51) dX12_uses_46 rfl (by omega) (fun c46 => ?_) (fun c46 => ?_)
          · exact absurd c46 (by omega)
          · refine aw_iconst dX12_uses_49 ?_
            exact aw_ireturn dX12_uses_50 rfl (Or.inl rfl) ⟨rfl, rM_err hF 2⟩
      · exact absurd c5 (by omega)
  · rw [if_pos c1]
    rw [if_neg c1] at KP
    refine Call.of (ls := [(0, vr (some a)), (1, vi p), (2, vi r)]) vX12_uses.1 (Nat.le_of_ble_eq_true rfl) rfl ?_
    refine aw_aload_n dX12_uses_0 rfl ?_
    refine aw_iload_n dX12_uses_1 rfl ?_
    refine aw_invS_r dX12_uses_2 sX12_isPlace kX12_217 rfl (KP) rfl rfl (by decide) (by decide) (by decide) (Nat.le_of_ble_eq_true rfl) ?_
    refine aw_if_ne (tgt := 12) dX12_uses_5 rfl (by omega) (fun c5 => ?_) (fun c5 => ?_)
    · exact absurd c5 (by omega)
    · refine aw_iconst dX12_uses_8 ?_
      refine aw_goto (tgt := 39) dX12_uses_9 rfl ?_
      refine aw_puti' (j := 5) rfl dX12_uses_39 fX12_62 (by assumption) rfl ?_
      refine aw_aload_n dX12_uses_42 rfl ?_
      refine aw_geti' (j := 5) dX12_uses_43 fX12_62 rfl (by assumption) rfl (gi_at rfl rfl) ?_
      refine aw_if_eq (tgt := 51) dX12_uses_46 rfl (by omega) (fun c46 => ?_) (fun c46 => ?_)
      · exact absurd c46 (by omega)
      · refine aw_iconst dX12_uses_49 ?_
        exact aw_ireturn dX12_uses_50 rfl (Or.inl rfl) ⟨rfl, rM_err hF 1⟩
