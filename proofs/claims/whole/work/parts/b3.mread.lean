/-! ===== the model: read ===== -/
def fT9 (tx : List Nat) (k : Nat) : Nat := tx.getD k 0
def rdQ (tx : List Nat) : Int × TQ := ((flt (fT9 tx) tx.length 0 z0).1, zQ (flt (fT9 tx) tx.length 0 z0).2)
def opRd (F : FS) (p : Int) : Int × Int × FS :=
  if ¬ (0 ≤ p ∧ p ≤ 3) then (1, 0, F) else if (rdQ F.2.2).1 = -1 then (0, ((rdQ F.2.2).2.length : Int), keepF F (upQ F.1 p.toNat (rdQ F.2.2).2)) else (0, -10 - (rdQ F.2.2).1, F)
theorem fT9_lt {tx : List Nat} (h : ∀ c ∈ tx, c < 128) (k : Nat) : fT9 tx k < 128 := by
  unfold fT9
  rw [List.getD_eq_getElem?_getD]
  cases q : tx[k]? with
  | none => decide
  | some c => exact h c (List.mem_of_getElem? q)
theorem fT9_at {tx : List Nat} {k c : Nat} (h : tx[k]? = some c) : fT9 tx k = c := by
  unfold fT9
  rw [List.getD_eq_getElem?_getD, h]
  rfl
theorem ST9_1 {a : Nat} : ∀ j, ¬ ST9 a (a + 1) j := fun j => by unfold ST9; omega
theorem SR_t {a : Nat} : ∀ b j, SR a 0 6537 b j → ST9 a b j := fun b j z => by unfold SR at z; unfold ST9; omega
theorem l_rd9 {γ : GG} {a : Nat} {p : Int} {S : St} {U : List St} {tx : List Nat} {h : AH} {Q : AR → AH → Prop} (hm : isMd h a S U tx) (kk : ∀ H, eqG (ST9 a) h H → isX H a (fT9 tx) tx.length → AW γ mX12_read 10 0 0 61 [(0, vr (some a)), (1, vi p)] [] H Q) : ∀ (m k : Nat) (H : AH), k + m = tx.length → eqG (ST9 a) h H → gi H a 10 = (tx.length : Int) → (∀ j : Nat, j < k → gi H (a + 6) j = fT9 tx j) → AW γ mX12_read 10 0 0 35 [(2, vi (k : Int)), (0, vr (some a)), (1, vi p)] [] H Q := by
  have l80 : tx.length ≤ 80 := hm.2.2.2.2.2.2.2.2.1
  intro m
  induction m with
  | zero =>
    intro k H hk hE h10 hj
    obtain rfl : k = tx.length := by omega
    have m1 := hm.eqk (hE.mono ST9_k)
    obtain ⟨hka, -, -⟩ := m1.1.q
    have g4 : gi H a 4 = (tx.length : Int) := m1.2.2.2.2.2.2.2.1
    have K := kk H hE ⟨m1.1, h10, by omega, hj, fT9_lt hm.2.2.2.2.2.2.2.2.2.1⟩
    refine aw_iload_n dX12_read_35 rfl ?_
    refine aw_aload_n dX12_read_36 rfl ?_
    refine aw_geti' (j := 4) dX12_read_37 fX12_214 rfl (by assumption) rfl g4 ?_
    refine aw_ic_ge (tgt := 61) dX12_read_40 rfl (by omega) (by omega) (fun c40 => ?_) (fun c40 => ?_)
    · refine aw_sub [1, 2] rfl ?_
      exact K
    · exact absurd c40 (by omega)
  | succ m ih =>
    intro k H hk hE h10 hj
    have m1 := hm.eqk (hE.mono ST9_k)
    obtain ⟨hka, -, -⟩ := m1.1.q
    obtain ⟨rx, kx⟩ := m1.1.x
    obtain ⟨rs, ks⟩ := m1.1.s
    have g4 : gi H a 4 = (tx.length : Int) := m1.2.2.2.2.2.2.2.1
    obtain ⟨c, hc⟩ : ∃ c, tx[k]? = some c := ⟨_, List.getElem?_eq_getElem (by omega)⟩
    have gc := m1.2.2.2.2.2.2.2.2.2.2 k c hc
    have I := ih (k + 1) (si H (a + 6) (k : Int) (c : Int)) (by omega) (hE.tr (eqG.si (Or.inr (Or.inl rfl)))) ((gi_ne (Or.inl (by omega))).trans h10) (fun j j1 => by
      by_cases z : j = k
      · subst z; rw [fT9_at hc]; exact gi_at rfl rfl
      · exact (gi_ne (Or.inr (by omega))).trans (hj j (by omega)))
    refine aw_iload_n dX12_read_35 rfl ?_
    refine aw_aload_n dX12_read_36 rfl ?_
    refine aw_geti' (j := 4) dX12_read_37 fX12_214 rfl (by assumption) rfl g4 ?_
    refine aw_ic_ge (tgt := 61) dX12_read_40 rfl (by omega) (by omega) (fun c40 => ?_) (fun c40 => ?_)
    · exact absurd c40 (by omega)
    · refine aw_aload_n dX12_read_43 rfl ?_
      refine aw_getr' (j := 9) dX12_read_44 fX12_25 rfl (by assumption) rfl (by assumption) ?_
      refine aw_iload_n dX12_read_47 rfl ?_
      refine aw_aload_n dX12_read_48 rfl ?_
      refine aw_getr' (j := 3) dX12_read_49 fX12_16 rfl (by assumption) rfl (by assumption) ?_
      refine aw_iload_n dX12_read_52 rfl ?_
      refine aw_iald' dX12_read_53 (by assumption) (by omega) (by first | decide | omega) gc ?_
      refine aw_iast dX12_read_54 (by assumption) (by omega) (by first | decide | omega) ?_
      refine aw_iinc (k9 := 0) (ls1 := [(2, _), (0, _), (1, _)]) dX12_read_55 rfl (by decide) rfl ?_
      refine aw_goto (tgt := 35) dX12_read_58 rfl ?_
      refine aw_sub [0, 1, 2] rfl ?_
      exact I
theorem m_read {γ : GG} {h : AH} {a : Nat} {F : FS} {p : Int} (hF : isF h a F) (hp : (-2147483648 ≤ p ∧ p ≤ 2147483647)) : Call γ mX12_read 10 0 0 [vr (some a), vi p] h (rM h a (opRd F p)) := by
  obtain ⟨S, U, tx⟩ := F
  obtain ⟨T, qs⟩ := S
  have hm : isMd h a (T, qs) U tx := hF
  have oT : okTr T := hm.2.2.1.1
  have o9 := oT.o
  have n40 := o9.2.1
  have n1 := o9.1
  obtain ⟨hka, -, -⟩ := hm.1.q
  obtain ⟨rm, km⟩ := hm.1.m
  have g0 : gi h (a + 1) 0 = (tn T : Int) := hm.2.1.1.1
  have m5 : isMd (si h a 5 0) a (T, qs) U tx := hm.eqk (E5 (v := 0))
  have KP := m_isPlace (γ := γ) (h := h) hp
  have l80 : tx.length ≤ 80 := hm.2.2.2.2.2.2.2.2.1
  have t128 : ∀ c ∈ tx, c < 128 := hm.2.2.2.2.2.2.2.2.2.1
  unfold opRd
  dsimp only
  by_cases c1 : 0 ≤ p ∧ p ≤ 3
  · rw [if_pos c1] at KP
    rw [if_neg (fun z => z c1)]
    obtain ⟨u, rfl⟩ := Int.eq_ofNat_of_zero_le c1.1
    rw [Int.toNat_natCast]
    have hu : u < 4 := by omega
    have g45 : gi (si h a 5 0) a 4 = (tx.length : Int) := m5.2.2.2.2.2.2.2.1
    have EX : eqG (ST9 a) (si h a 5 0) (si (si h a 5 0) a 10 (tx.length : Int)) := eqG.si (Or.inl ⟨rfl, Or.inl rfl⟩)
    have L : AW γ mX12_read 10 0 0 35 [(2, vi (0 : Nat)), (0, vr (some a)), (1, vi (u : Int))] [] (si (si h a 5 0) a 10 (tx.length : Int)) (rM h a (if (rdQ tx).1 = -1 then (0, ((rdQ tx).2.length : Int), keepF ((T, qs), U, tx) (upQ (T, qs) u (rdQ tx).2)) else (0, -10 - (rdQ tx).1, ((T, qs), U, tx)))) := by
      refine l_rd9 (γ := γ) m5 (fun H1 E1 X1 => ?_) tx.length 0 _ (Nat.zero_add _) EX (gi_at rfl rfl) (fun j hj => absurd hj (by omega))
      have m1 : isMd H1 a (T, qs) U tx := m5.eqk (E1.mono ST9_k)
      have hka1 := m1.1.1
      have KR := m_readAll (γ := γ) X1
      by_cases d1 : (rdQ tx).1 = -1
      · rw [if_pos d1]
        have d1' : (flt (fT9 tx) tx.length 0 z0).1 = -1 := d1
        have hw : lnQ (rdQ tx).2 := flt_ln (fT9_lt t128) l80 d1
        unfold vQ at KR
        rw [if_pos d1'] at KR
        refine aw_aload_n dX12_read_61 rfl ?_
        refine aw_invV_e dX12_read_62 vX12_readAll kX12_207 rfl (KR) ⟨_, (by assumption), _, _, rfl⟩ rfl rfl (by decide) (by decide) (by decide) (Nat.le_of_ble_eq_true rfl) (fun H2 hP9 => ?_)
        obtain ⟨E2, Y2, N2⟩ := hP9
        obtain ⟨G2, O2, L2, -⟩ := Y2 d1'
        have m2 : isMd H2 a (T, qs) U tx := m1.eqk ((E2.mono SR_t).mono ST9_k)
        have hka2 := m2.1.1
        have KK := m_keep (γ := γ) m2
        refine aw_if_ne (tgt := 76) dX12_read_65 rfl (by omega) (fun c65 => ?_) (fun c65 => ?_)
        · refine aw_aload_n dX12_read_76 rfl ?_
          refine aw_invV_f dX12_read_77 vX12_keep kX12_85 rfl (KK) ⟨_, (by assumption), _, _, rfl⟩ rfl rfl (by decide) (by decide) (by decide) (Nat.le_of_ble_eq_true rfl) (fun H3 hP9 => ?_)
          obtain ⟨E3, m3⟩ := hP9
          have hka3 := m3.1.1
          have KL := m_lay (γ := γ) (q := (rdQ tx).2) m3 hu O2 hw (by rw [q_k E3 (fun j => by unfold SV; omega)]; exact G2)
          refine aw_aload_n dX12_read_80 rfl ?_
          refine aw_iload_n dX12_read_81 rfl ?_
          refine aw_invV_f dX12_read_82 vX12_lay kX12_220 rfl (KL) ⟨_, (by assumption), _, _, rfl⟩ rfl rfl (by decide) (by decide) (by decide) (Nat.le_of_ble_eq_true rfl) (fun H4 hP9 => ?_)
          obtain ⟨E4, m4⟩ := hP9
          obtain ⟨hka4, rq4, kq4⟩ := m4.1.q
          have gq : gi H4 (a + 7) 0 = ((rdQ tx).2.length : Int) := (E4.2.2.2.2 _ _ (by unfold SL SO; omega)).trans ((E3.2.2.2.2 _ _ (by unfold SV; omega)).trans G2.1)
          refine aw_aload_n dX12_read_85 rfl ?_
          refine aw_getr' (j := 12) dX12_read_86 fX12_28 rfl (by assumption) rfl (by assumption) ?_
          refine aw_iconst dX12_read_89 ?_
          refine aw_iald' dX12_read_90 (by assumption) (by omega) (by first | decide | omega) gq ?_
          exact aw_ireturn dX12_read_91 rfl (Or.inl rfl) ⟨rfl, m4, (E4.2.2.2.2 _ _ (by unfold SL SO; omega)).trans ((E3.2.2.2.2 _ _ (by unfold SV; omega)).trans ((E2.2.2.2.2 _ _ (by unfold SR; omega)).trans ((E1.2.2.2.2 _ _ (by unfold ST9; omega)).trans (gi_at rfl rfl)))), ((((E5.mono SA_k).tr ((E1.mono ST9_k).mono SA_k)).tr (((E2.mono SR_t).mono ST9_k).mono SA_k)).tr (E3.mono SA_v)).tr (E4.mono SA_l)⟩
        · exact absurd c65 (by omega)
      · rw [if_neg d1]
        have d1' : (flt (fT9 tx) tx.length 0 z0).1 ≠ -1 := d1
        unfold vQ at KR
        rw [if_neg d1'] at KR
        refine aw_aload_n dX12_read_61 rfl ?_
        refine aw_invV_e dX12_read_62 vX12_readAll kX12_207 rfl (KR) ⟨_, (by assumption), _, _, rfl⟩ rfl rfl (by decide) (by decide) (by decide) (Nat.le_of_ble_eq_true rfl) (fun H2 hP9 => ?_)
        obtain ⟨E2, Y2, N2⟩ := hP9
        have m2 : isMd H2 a (T, qs) U tx := m1.eqk ((E2.mono SR_t).mono ST9_k)
        have hka2 := m2.1.1
        have g11 : gi H2 a 11 = (rdQ tx).1 := N2 d1'
        refine aw_if_ne (tgt := 76) dX12_read_65 rfl (by omega) (fun c65 => ?_) (fun c65 => ?_)
        · exact absurd c65 (by omega)
        · refine aw_bipush dX12_read_68 rfl ?_
          refine aw_aload_n dX12_read_70 rfl ?_
          refine aw_geti' (j := 11) dX12_read_71 fX12_131 rfl (by assumption) rfl g11 ?_
          refine aw_isub dX12_read_74 ?_
          exact aw_ireturn dX12_read_75 rfl (Or.inl rfl) ⟨rfl, rM_ok hF ((E1.mono ST9_k).tr ((E2.mono SR_t).mono ST9_k)) ((E2.2.2.2.2 _ _ (by unfold SR; omega)).trans ((E1.2.2.2.2 _ _ (by unfold ST9; omega)).trans (gi_at rfl rfl)))⟩
    refine Call.of (ls := [(0, vr (some a)), (1, vi (u : Int))]) vX12_read.1 (Nat.le_of_ble_eq_true rfl) rfl ?_
    refine aw_aload_n dX12_read_0 rfl ?_
    refine aw_iload_n dX12_read_1 rfl ?_
    refine aw_invS_r dX12_read_2 sX12_isPlace kX12_217 rfl (KP) rfl rfl (by decide) (by decide) (by decide) (Nat.le_of_ble_eq_true rfl) ?_
    refine aw_if_eq (tgt := 12) dX12_read_5 rfl (by omega) (fun c5 => ?_) (fun c5 => ?_)
    · exact absurd c5 (by omega)
    · refine aw_iconst dX12_read_8 ?_
      refine aw_goto (tgt := 13) dX12_read_9 rfl ?_
      refine aw_puti' (j := 5) rfl dX12_read_13 fX12_62 (by assumption) rfl ?_
      refine aw_aload_n dX12_read_16 rfl ?_
      refine aw_geti' (j := 5) dX12_read_17 fX12_62 rfl (by assumption) rfl (gi_at rfl rfl) ?_
      refine aw_if_eq (tgt := 25) dX12_read_20 rfl (by omega) (fun c20 => ?_) (fun c20 => ?_)
      · refine aw_aload_n dX12_read_25 rfl ?_
        refine aw_aload_n dX12_read_26 rfl ?_
        refine aw_geti' (j := 4) dX12_read_27 fX12_214 rfl (by assumption) rfl g45 ?_
        refine aw_puti' (j := 10) rfl dX12_read_30 fX12_134 (by assumption) rfl ?_
        refine aw_iconst dX12_read_33 ?_
        refine aw_istore_n (ls1 := [(2, _), (0, _), (1, _)]) dX12_read_34 (by decide) rfl ?_
        refine aw_sub [0, 1, 2] rfl ?_
        exact L
      · exact absurd c20 (by omega)
  · rw [if_pos c1]
    rw [if_neg c1] at KP
    refine Call.of (ls := [(0, vr (some a)), (1, vi p)]) vX12_read.1 (Nat.le_of_ble_eq_true rfl) rfl ?_
    refine aw_aload_n dX12_read_0 rfl ?_
    refine aw_iload_n dX12_read_1 rfl ?_
    refine aw_invS_r dX12_read_2 sX12_isPlace kX12_217 rfl (KP) rfl rfl (by decide) (by decide) (by decide) (Nat.le_of_ble_eq_true rfl) ?_
    refine aw_if_eq (tgt := 12) dX12_read_5 rfl (by omega) (fun c5 => ?_) (fun c5 => ?_)
    · refine aw_iconst dX12_read_12 ?_
      refine aw_puti' (j := 5) rfl dX12_read_13 fX12_62 (by assumption) rfl ?_
      refine aw_aload_n dX12_read_16 rfl ?_
      refine aw_geti' (j := 5) dX12_read_17 fX12_62 rfl (by assumption) rfl (gi_at rfl rfl) ?_
      refine aw_if_eq (tgt := 25) dX12_read_20 rfl (by omega) (fun c20 => ?_) (fun c20 => ?_)
      · exact absurd c20 (by omega)
      · refine aw_iconst dX12_read_23 ?_
        exact aw_ireturn dX12_read_24 rfl (Or.inl rfl) ⟨rfl, rM_err hF 1⟩
    · exact absurd c5 (by omega)
