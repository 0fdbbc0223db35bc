/-! ===== the model: digest ===== -/
theorem i6_1 : i6 1 = 1 := by decide +kernel
theorem i6_0 : i6 0 = 0 := by decide +kernel
theorem hPp_e {T : Tr} {qs : Nat → TQ} {p : Nat} {z : Int64} (h : qs p = []) : hPp T qs p z = mx9 z 0 := if_pos h
theorem hPp_n {T : Tr} {qs : Nat → TQ} {p : Nat} {z : Int64} (h : qs p ≠ []) : hPp T qs p z = hPl T (qs p) (mx9 z 1) := if_neg h
theorem i_dg55 {γ : GG} {a : Nat} {F : FS} {z : Int64} {h : AH} {Q : AR → AH → Prop} {v : Nat} (hv : v < tn F.1.1) (kk : ∀ H, dSt h a F (itr9 (fun k z => mx9 z (telT F.1.1 v (k : Int))) 6 z) H → AW γ mX12_digest 13 0 0 78 [(1, vi (v : Int)), (0, vr (some a))] [] H Q) : ∀ (m k : Nat) (H : AH), k + m = 6 → dSt h a F (itr9 (fun k z => mx9 z (telT F.1.1 v (k : Int))) k z) H → AW γ mX12_digest 13 0 0 55 [(2, vi (k : Int)), (1, vi (v : Int)), (0, vr (some a))] [] H Q := by
  intro m
  induction m with
  | zero =>
    intro k H hk dd
    have K := kk H (by have hk : k = 6 := by omega
                       subst hk; exact dd)
    obtain ⟨S, U, tx⟩ := F
    obtain ⟨T, qs⟩ := S
    have hm : isMd H a (T, qs) U tx := dd.1
    have oT : okTr T := hm.2.2.1.1
    have n40 := oT.o.2.1
    obtain ⟨hka, rq, kq⟩ := hm.1.q
    obtain ⟨rm, km⟩ := hm.1.m
    have g0 : gi H (a + 1) 0 = (tn T : Int) := hm.2.1.1.1
    obtain rfl : k = 6 := hk
    refine aw_iload_n dX12_digest_55 rfl ?_
    refine aw_bipush dX12_digest_56 rfl ?_
    refine aw_ic_ge (tgt := 78) dX12_digest_58 rfl (by omega) (by omega) (fun c58 => ?_) (fun c58 => ?_)
    · refine aw_sub [1, 2] rfl ?_
      exact K
    · exact absurd c58 (by omega)
  | succ m ih =>
    intro k H hk dd
    have I := fun H1 d1 => ih (k + 1) H1 (by omega) d1
    obtain ⟨S, U, tx⟩ := F
    obtain ⟨T, qs⟩ := S
    have hm : isMd H a (T, qs) U tx := dd.1
    have oT : okTr T := hm.2.2.1.1
    have n40 := oT.o.2.1
    obtain ⟨hka, rq, kq⟩ := hm.1.q
    obtain ⟨rm, km⟩ := hm.1.m
    have g0 : gi H (a + 1) 0 = (tn T : Int) := hm.2.1.1.1
    have hv : v < tn T := hv
    have KV := m_nodeValue (γ := γ) (T := T) (v := v) (x := k) hm.1 hm.2.1.1 oT hv (by omega)
    refine aw_iload_n dX12_digest_55 rfl ?_
    refine aw_bipush dX12_digest_56 rfl ?_
    refine aw_ic_ge (tgt := 78) dX12_digest_58 rfl (by omega) (by omega) (fun c58 => ?_) (fun c58 => ?_)
    · exact absurd c58 (by omega)
    · refine aw_aload_n dX12_digest_61 rfl ?_
      refine aw_aload_n dX12_digest_62 rfl ?_
      refine aw_iload_n dX12_digest_63 rfl ?_
      refine aw_iload_n dX12_digest_64 rfl ?_
      refine aw_invV_e dX12_digest_65 vX12_nodeValue kX12_117 rfl (KV) ⟨_, (by assumption), _, _, rfl⟩ rfl rfl (by decide) (by decide) (by decide) (Nat.le_of_ble_eq_true rfl) (fun H1 hP9 => ?_)
      have E1 := hP9
      have d1 := dd.k E1 SI_k (by unfold SI; omega)
      have hka1 := d1.1.1.1
      have KX := m_mix (γ := γ) (x := i6 (telT T v (k : Int))) d1.1.1 d1.2.1
      refine aw_i2l dX12_digest_68 rfl ?_
      refine aw_invV_n dX12_digest_69 vX12_mix kX12_342 rfl (KX) ⟨_, (by assumption), _, _, rfl⟩ rfl rfl (by decide) (by decide) (by decide) (Nat.le_of_ble_eq_true rfl) ?_
      refine aw_iinc (k9 := 0) (ls1 := [(2, _), (1, _), (0, _)]) dX12_digest_72 rfl (by decide) rfl ?_
      refine aw_goto (tgt := 55) dX12_digest_75 rfl ?_
      refine aw_sub [0, 1, 2] rfl ?_
      exact I _ (d1.mix rfl)
theorem l_dg43 {γ : GG} {a : Nat} {F : FS} {z : Int64} {h : AH} {Q : AR → AH → Prop} (kk : ∀ H, dSt h a F (hTr F.1.1 z) H → AW γ mX12_digest 13 0 0 84 [(0, vr (some a))] [] H Q) : ∀ (m v : Nat) (H : AH), v + m = tn F.1.1 → dSt h a F (itr9 (fun v z => itr9 (fun k z => mx9 z (telT F.1.1 v (k : Int))) 6 z) v z) H → AW γ mX12_digest 13 0 0 43 [(1, vi (v : Int)), (0, vr (some a))] [] H Q := by
  intro m
  induction m with
  | zero =>
    intro v H hk dd
    have K := kk H (by have hk : v = tn F.1.1 := by omega
                       subst hk; exact dd)
    obtain ⟨S, U, tx⟩ := F
    obtain ⟨T, qs⟩ := S
    have hm : isMd H a (T, qs) U tx := dd.1
    have oT : okTr T := hm.2.2.1.1
    have n40 := oT.o.2.1
    obtain ⟨hka, rq, kq⟩ := hm.1.q
    obtain ⟨rm, km⟩ := hm.1.m
    have g0 : gi H (a + 1) 0 = (tn T : Int) := hm.2.1.1.1
    obtain rfl : v = tn T := hk
    refine aw_iload_n dX12_digest_43 rfl ?_
    refine aw_aload_n dX12_digest_44 rfl ?_
    refine aw_getr' (j := 0) dX12_digest_45 fX12_7 rfl (by assumption) rfl (by assumption) ?_
    refine aw_iconst dX12_digest_48 ?_
    refine aw_iald' dX12_digest_49 (by assumption) (by omega) (by first | decide | omega) g0 ?_
    refine aw_ic_ge (tgt := 84) dX12_digest_50 rfl (by omega) (by omega) (fun c50 => ?_) (fun c50 => ?_)
    · refine aw_sub [1] rfl ?_
      exact K
    · exact absurd c50 (by omega)
  | succ m ih =>
    intro v H hk dd
    have hv : v < tn F.1.1 := by omega
    have I := fun H1 d1 => ih (v + 1) H1 (by omega) d1
    have J := i_dg55 (γ := γ) (Q := Q) hv (fun H1 d1 => by
      have I1 := I H1 d1
      refine aw_iinc (k9 := 0) (ls1 := [(1, _), (0, _)]) dX12_digest_78 rfl (by decide) rfl ?_
      refine aw_goto (tgt := 43) dX12_digest_81 rfl ?_
      refine aw_sub [0, 1] rfl ?_
      exact I1) 6 0 H rfl (dSt0 dd)
    obtain ⟨S, U, tx⟩ := F
    obtain ⟨T, qs⟩ := S
    have hm : isMd H a (T, qs) U tx := dd.1
    have oT : okTr T := hm.2.2.1.1
    have n40 := oT.o.2.1
    obtain ⟨hka, rq, kq⟩ := hm.1.q
    obtain ⟨rm, km⟩ := hm.1.m
    have g0 : gi H (a + 1) 0 = (tn T : Int) := hm.2.1.1.1
    have hv : v < tn T := hv
    refine aw_iload_n dX12_digest_43 rfl ?_
    refine aw_aload_n dX12_digest_44 rfl ?_
    refine aw_getr' (j := 0) dX12_digest_45 fX12_7 rfl (by assumption) rfl (by assumption) ?_
    refine aw_iconst dX12_digest_48 ?_
    refine aw_iald' dX12_digest_49 (by assumption) (by omega) (by first | decide | omega) g0 ?_
    refine aw_ic_ge (tgt := 84) dX12_digest_50 rfl (by omega) (by omega) (fun c50 => ?_) (fun c50 => ?_)
    · exact absurd c50 (by omega)
    · refine aw_iconst dX12_digest_53 ?_
      refine aw_istore_n (ls1 := [(2, _), (1, _), (0, _)]) dX12_digest_54 (by decide) rfl ?_
      refine aw_sub [0, 1, 2] rfl ?_
      exact J
theorem l_dg86 {γ : GG} {a : Nat} {F : FS} {z : Int64} {h : AH} (hz : dgS F = itr9 (hPp F.1.1 F.1.2) 4 z) : ∀ (m p : Nat) (H : AH), p + m = 4 → dSt h a F (itr9 (hPp F.1.1 F.1.2) p z) H → AW γ mX12_digest 13 0 0 86 [(1, vi (p : Int)), (0, vr (some a))] [] H (rE (vl (dgS F)) (fun h' => isF h' a F ∧ gi h' a 5 = 0 ∧ eqO h h' a (a + 18))) := by
  intro m
  induction m with
  | zero =>
    intro p H hk dd
    obtain rfl : p = 4 := by omega
    obtain ⟨Y, hY⟩ : ∃ Y, Y = itr9 (hPp F.1.1 F.1.2) 4 z := ⟨_, rfl⟩
    rw [← hY] at dd hz
    rw [hz]
    have hka := dd.1.1.1
    have gh := dd.2.1
    refine aw_iload_n dX12_digest_86 rfl ?_
    refine aw_iconst dX12_digest_87 ?_
    refine aw_ic_ge (tgt := 127) dX12_digest_88 rfl (by omega) (by omega) (fun c88 => ?_) (fun c88 => ?_)
    · refine aw_aload_n dX12_digest_127 rfl ?_
      refine aw_getl' (j := 25) dX12_digest_128 fX12_338 rfl (by assumption) rfl gh ?_
      exact aw_lreturn dX12_digest_131 rfl (Or.inl rfl) ⟨rfl, dd.1, dd.2.2.1, dd.2.2.2⟩
    · exact absurd c88 (by omega)
  | succ m ih =>
    intro p H hk dd
    have I := fun H1 d1 => ih (p + 1) H1 (by omega) d1
    obtain ⟨Y, hY⟩ : ∃ Y, Y = itr9 (hPp F.1.1 F.1.2) p z := ⟨_, rfl⟩
    have e : itr9 (hPp F.1.1 F.1.2) (p + 1) z = hPp F.1.1 F.1.2 p Y := by rw [hY]; rfl
    rw [e] at I
    rw [← hY] at dd
    have hp : p < 4 := by omega
    have hm : isMd H a F.1 F.2.1 F.2.2 := dd.1
    have hka := hm.1.1
    have KH := m_has (γ := γ) hm hp
    by_cases c3 : F.1.2 p = []
    · rw [if_pos c3] at KH
      rw [hPp_e c3] at I
      have KX := m_mix (γ := γ) (x := 0) hm.1 dd.2.1
      have d1 := dd.mix (x := 31 * Y + 0) (y := mx9 Y 0) (by show 31 * Y + 0 = 31 * Y + i6 0; rw [i6_0])
      have m1 : isMd (sl H a 25 (31 * Y + 0)) a F.1 F.2.1 F.2.2 := d1.1
      have KJ := m_has (γ := γ) m1 hp
      rw [if_pos c3] at KJ
      refine aw_iload_n dX12_digest_86 rfl ?_
      refine aw_iconst dX12_digest_87 ?_
      refine aw_ic_ge (tgt := 127) dX12_digest_88 rfl (by omega) (by omega) (fun c88 => ?_) (fun c88 => ?_)
      · exact absurd c88 (by omega)
      · refine aw_aload_n dX12_digest_91 rfl ?_
        refine aw_aload_n dX12_digest_92 rfl ?_
        refine aw_iload_n dX12_digest_93 rfl ?_
        refine aw_invV_r dX12_digest_94 vX12_has kX12_223 rfl (KH) ⟨_, (by assumption), _, _, rfl⟩ rfl rfl (by decide) (by decide) (by decide) (Nat.le_of_ble_eq_true rfl) ?_
        refine aw_if_eq (tgt := 104) dX12_digest_97 rfl (by omega) (fun c97 => ?_) (fun c97 => ?_)
        · refine aw_lconst (v := 0) dX12_digest_104 rfl ?_
          refine aw_invV_n dX12_digest_105 vX12_mix kX12_342 rfl (KX) ⟨_, (by assumption), _, _, rfl⟩ rfl rfl (by decide) (by decide) (by decide) (Nat.le_of_ble_eq_true rfl) ?_
          refine aw_aload_n dX12_digest_108 rfl ?_
          refine aw_iload_n dX12_digest_109 rfl ?_
          refine aw_invV_r dX12_digest_110 vX12_has kX12_223 rfl (KJ) ⟨_, (by assumption), _, _, rfl⟩ rfl rfl (by decide) (by decide) (by decide) (Nat.le_of_ble_eq_true rfl) ?_
          refine aw_if_eq (tgt := 121) dX12_digest_113 rfl (by omega) (fun c113 => ?_) (fun c113 => ?_)
          · refine aw_iinc (k9 := 0) (ls1 := [(1, _), (0, _)]) dX12_digest_121 rfl (by decide) rfl ?_
            refine aw_goto (tgt := 86) dX12_digest_124 rfl ?_
            refine aw_sub [0, 1] rfl ?_
            exact I _ d1
          · exact absurd c113 (by omega)
        · exact absurd c97 (by omega)
    · rw [if_neg c3] at KH
      rw [hPp_n c3] at I
      have KX := m_mix (γ := γ) (x := 1) hm.1 dd.2.1
      have d1 := dd.mix (x := 31 * Y + 1) (y := mx9 Y 1) (by show 31 * Y + 1 = 31 * Y + i6 1; rw [i6_1])
      have m1 : isMd (sl H a 25 (31 * Y + 1)) a F.1 F.2.1 F.2.2 := d1.1
      have KJ := m_has (γ := γ) m1 hp
      rw [if_neg c3] at KJ
      have KP := m_mixPlace (γ := γ) d1 hp c3
      refine aw_iload_n dX12_digest_86 rfl ?_
      refine aw_iconst dX12_digest_87 ?_
      refine aw_ic_ge (tgt := 127) dX12_digest_88 rfl (by omega) (by omega) (fun c88 => ?_) (fun c88 => ?_)
      · exact absurd c88 (by omega)
      · refine aw_aload_n dX12_digest_91 rfl ?_
        refine aw_aload_n dX12_digest_92 rfl ?_
        refine aw_iload_n dX12_digest_93 rfl ?_
        refine aw_invV_r dX12_digest_94 vX12_has kX12_223 rfl (KH) ⟨_, (by assumption), _, _, rfl⟩ rfl rfl (by decide) (by decide) (by decide) (Nat.le_of_ble_eq_true rfl) ?_
        refine aw_if_eq (tgt := 104) dX12_digest_97 rfl (by omega) (fun c97 => ?_) (fun c97 => ?_)
        · exact absurd c97 (by omega)
        · refine aw_lconst (v := 1) dX12_digest_100 rfl ?_
          refine aw_goto (tgt := 105) dX12_digest_101 rfl ?_
          refine aw_invV_n dX12_digest_105 vX12_mix kX12_342 rfl (KX) ⟨_, (by assumption), _, _, rfl⟩ rfl rfl (by decide) (by decide) (by decide) (Nat.le_of_ble_eq_true rfl) ?_
          refine aw_aload_n dX12_digest_108 rfl ?_
          refine aw_iload_n dX12_digest_109 rfl ?_
          refine aw_invV_r dX12_digest_110 vX12_has kX12_223 rfl (KJ) ⟨_, (by assumption), _, _, rfl⟩ rfl rfl (by decide) (by decide) (by decide) (Nat.le_of_ble_eq_true rfl) ?_
          refine aw_if_eq (tgt := 121) dX12_digest_113 rfl (by omega) (fun c113 => ?_) (fun c113 => ?_)
          · exact absurd c113 (by omega)
          · refine aw_aload_n dX12_digest_116 rfl ?_
            refine aw_iload_n dX12_digest_117 rfl ?_
            refine aw_invV_f dX12_digest_118 vX12_mixPlace kX12_348 rfl (KP) ⟨_, (by assumption), _, _, rfl⟩ rfl rfl (by decide) (by decide) (by decide) (Nat.le_of_ble_eq_true rfl) (fun H2 hP9 => ?_)
            have d2 := hP9
            refine aw_iinc (k9 := 0) (ls1 := [(1, _), (0, _)]) dX12_digest_121 rfl (by decide) rfl ?_
            refine aw_goto (tgt := 86) dX12_digest_124 rfl ?_
            refine aw_sub [0, 1] rfl ?_
            exact I _ d2
theorem m_digest {γ : GG} {h : AH} {a : Nat} {F : FS} (hF : isF h a F) : Call γ mX12_digest 13 0 0 [vr (some a)] h (rE (vl (dgS F)) (fun h' => isF h' a F ∧ gi h' a 5 = 0 ∧ eqO h h' a (a + 18))) := by
  have d0 : dSt h a F 18335 (sl (si h a 5 0) a 25 18335) := ⟨(isMd.eqk hF (E5 (v := 0)) : isMd (si h a 5 0) a F.1 F.2.1 F.2.2), gl_at rfl rfl, gi_at rfl rfl, (eqO.si (by omega) (by omega)).tr (eqO.sl (by omega) (by omega))⟩
  have hm : isMd h a F.1 F.2.1 F.2.2 := hF
  obtain ⟨hka, -, -⟩ := hm.1.q
  obtain ⟨rm, km⟩ := hm.1.m
  have g0 : gi (si h a 5 0) (a + 1) 0 = (tn F.1.1 : Int) := (gi_ne (Or.inl (by omega))).trans hm.2.1.1.1
  have g2 : gi (si h a 5 0) a 2 = (F.2.1.length : Int) := (gi_ne (Or.inr (by decide))).trans hm.2.2.2.1
  have g4 : gi (si h a 5 0) a 4 = (F.2.2.length : Int) := (gi_ne (Or.inr (by decide))).trans hm.2.2.2.2.2.2.2.1
  have K1 : Call γ mX12_mix 0 0 0 [vr (some a), vl (i6 (F.2.1.length : Int))] (sl (si h a 5 0) a 25 18335) (rN (sl (sl (si h a 5 0) a 25 18335) a 25 (mx9 18335 (F.2.1.length : Int)))) := m_mix (γ := γ) (x := i6 (F.2.1.length : Int)) d0.1.1 d0.2.1
  have d1 := d0.mix (x := mx9 18335 (F.2.1.length : Int)) (y := mx9 18335 (F.2.1.length : Int)) rfl
  generalize hz1 : mx9 18335 (F.2.1.length : Int) = Z1 at d1 K1
  have K2 : Call γ mX12_mix 0 0 0 [vr (some a), vl (i6 (F.2.2.length : Int))] (sl (sl (si h a 5 0) a 25 18335) a 25 Z1) (rN (sl (sl (sl (si h a 5 0) a 25 18335) a 25 Z1) a 25 (mx9 Z1 (F.2.2.length : Int)))) := m_mix (γ := γ) (x := i6 (F.2.2.length : Int)) d1.1.1 d1.2.1
  have d2 := d1.mix (x := mx9 Z1 (F.2.2.length : Int)) (y := mx9 Z1 (F.2.2.length : Int)) rfl
  generalize hz2 : mx9 Z1 (F.2.2.length : Int) = Z2 at d2 K2
  have K3 : Call γ mX12_mix 0 0 0 [vr (some a), vl (i6 (tn F.1.1 : Int))] (sl (sl (sl (si h a 5 0) a 25 18335) a 25 Z1) a 25 Z2) (rN (sl (sl (sl (sl (si h a 5 0) a 25 18335) a 25 Z1) a 25 Z2) a 25 (mx9 Z2 (tn F.1.1 : Int)))) := m_mix (γ := γ) (x := i6 (tn F.1.1 : Int)) d2.1.1 d2.2.1
  have d3 := d2.mix (x := mx9 Z2 (tn F.1.1 : Int)) (y := mx9 Z2 (tn F.1.1 : Int)) rfl
  generalize hz3 : mx9 Z2 (tn F.1.1 : Int) = Z3 at d3 K3
  have hz : dgS F = itr9 (hPp F.1.1 F.1.2) 4 (hTr F.1.1 Z3) := by rw [← hz3, ← hz2, ← hz1]; rfl
  generalize hz4 : hTr F.1.1 Z3 = Z4 at hz
  have L := l_dg43 (γ := γ) (a := a) (F := F) (h := h) (z := Z3) (Q := (rE (vl (dgS F)) (fun h' => isF h' a F ∧ gi h' a 5 = 0 ∧ eqO h h' a (a + 18)))) (fun H1 e1 => by
    rw [hz4] at e1
    have L2 := l_dg86 (γ := γ) hz 4 0 H1 rfl (dSt0 e1)
    refine aw_iconst dX12_digest_84 ?_
    refine aw_istore_n (ls1 := [(1, _), (0, _)]) dX12_digest_85 (by decide) rfl ?_
    refine aw_sub [0, 1] rfl ?_
    exact L2) (tn F.1.1) 0 _ (Nat.zero_add _) (dSt0 d3)
  refine Call.of (ls := [(0, vr (some a))]) vX12_digest.1 (Nat.le_of_ble_eq_true rfl) rfl ?_
  refine aw_aload_n dX12_digest_0 rfl ?_
  refine aw_iconst dX12_digest_1 ?_
  refine aw_puti' (j := 5) rfl dX12_digest_2 fX12_62 (by assumption) rfl ?_
  refine aw_aload_n dX12_digest_5 rfl ?_
  refine aw_ldc2 dX12_digest_6 qX12_346 ?_
  refine aw_putl' (j := 25) rfl dX12_digest_9 fX12_338 (by assumption) rfl ?_
  refine aw_aload_n dX12_digest_12 rfl ?_
  refine aw_aload_n dX12_digest_13 rfl ?_
  refine aw_geti' (j := 2) dX12_digest_14 fX12_66 rfl (by assumption) rfl g2 ?_
  refine aw_i2l dX12_digest_17 rfl ?_
  refine aw_invV_n dX12_digest_18 vX12_mix kX12_342 rfl (K1) ⟨_, (by assumption), _, _, rfl⟩ rfl rfl (by decide) (by decide) (by decide) (Nat.le_of_ble_eq_true rfl) ?_
  refine aw_aload_n dX12_digest_21 rfl ?_
  refine aw_aload_n dX12_digest_22 rfl ?_
  refine aw_geti' (j := 4) dX12_digest_23 fX12_214 rfl (by assumption) rfl g4 ?_
  refine aw_i2l dX12_digest_26 rfl ?_
  refine aw_invV_n dX12_digest_27 vX12_mix kX12_342 rfl (K2) ⟨_, (by assumption), _, _, rfl⟩ rfl rfl (by decide) (by decide) (by decide) (Nat.le_of_ble_eq_true rfl) ?_
  refine aw_aload_n dX12_digest_30 rfl ?_
  refine aw_aload_n dX12_digest_31 rfl ?_
  refine aw_getr' (j := 0) dX12_digest_32 fX12_7 rfl (by assumption) rfl (by assumption) ?_
  refine aw_iconst dX12_digest_35 ?_
  refine aw_iald' dX12_digest_36 (by assumption) (by omega) (by first | decide | omega) g0 ?_
  refine aw_i2l dX12_digest_37 rfl ?_
  refine aw_invV_n dX12_digest_38 vX12_mix kX12_342 rfl (K3) ⟨_, (by assumption), _, _, rfl⟩ rfl rfl (by decide) (by decide) (by decide) (Nat.le_of_ble_eq_true rfl) ?_
  refine aw_iconst dX12_digest_41 ?_
  refine aw_istore_n (ls1 := [(1, _), (0, _)]) dX12_digest_42 (by decide) rfl ?_
  refine aw_sub [0, 1] rfl ?_
  exact L
