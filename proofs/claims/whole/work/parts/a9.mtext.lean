/-! ===== the model: nodes, type, clearText, written, size, drop, undo ===== -/
def opNds (F : FS) : Int × Int × FS := (0, (tn F.1.1 : Int), F)
def opTyp (F : FS) (c : Int) : Int × Int × FS :=
  if ¬ (0 ≤ c ∧ c ≤ 127) then (1, 0, F) else if F.2.2.length = 80 then (2, 0, F) else (0, (F.2.2.length : Int) + 1, (F.1, F.2.1, F.2.2 ++ [c.toNat]))
def opClr (F : FS) : Int × Int × FS := (0, (F.2.2.length : Int), (F.1, F.2.1, []))
def atI (l : List Int) (i : Int) : Int := match l[i.toNat]? with
  | some x => x
  | none => -1
def opWri (F : FS) (p i : Int) : Int × Int × FS :=
  if ¬ (0 ≤ p ∧ p ≤ 3) then (1, 0, F) else if i < 0 then (2, 0, F) else if F.1.2 p.toNat = [] then (3, 0, F) else (0, atI (wQry (F.1.2 p.toNat)) i, F)
def sizV (q : TQ) (x : Int) : Int := if x = 0 then (q.length : Int) else if x = 5 then ((wQry q).length : Int) else numQ q x
def opSiz (F : FS) (p x : Int) : Int × Int × FS :=
  if ¬ (0 ≤ p ∧ p ≤ 3) then (1, 0, F) else if ¬ (0 ≤ x ∧ x ≤ 5) then (2, 0, F) else if F.1.2 p.toNat = [] then (3, 0, F) else (0, sizV (F.1.2 p.toNat) x, F)
def opDrp (F : FS) (p : Int) : Int × Int × FS :=
  if ¬ (0 ≤ p ∧ p ≤ 3) then (1, 0, F) else (0, (if F.1.2 p.toNat = [] then 0 else 1), keepF F (upQ F.1 p.toNat []))
def opUnd (F : FS) : Int × Int × FS := match F.2.1.getLast? with
  | none => (1, 0, F)
  | some S => (0, ((F.2.1.dropLast.length : Nat) : Int), (S, F.2.1.dropLast, F.2.2))
theorem isMd.tx {h h' : AH} {a : Nat} {S : St} {U : List St} {tx tx' : List Nat} (hm : isMd h a S U tx) (e : eqG (fun b j => (b = a ∧ j = 4) ∨ b = a + 3) h h') (e4 : gi h' a 4 = tx'.length) (hl : tx'.length ≤ 80) (h8 : ∀ c ∈ tx', c < 128) (hc : ∀ (k c : Nat), tx'[k]? = some c → gi h' (a + 3) k = c) : isMd h' a S U tx' := by
  obtain ⟨m1, m2, m3, m4, m5, m6, m7, m8, m9, m10, m11⟩ := hm
  have e1 : gi h' (a + 1) = gi h (a + 1) := by funext j; exact e.2.2.2.2 _ _ (by dsimp only; omega)
  have e2 : gi h' (a + 2) = gi h (a + 2) := by funext j; exact e.2.2.2.2 _ _ (by dsimp only; omega)
  exact ⟨e.sh m1, by rw [e1]; exact m2, m3, (e.2.2.2.2 _ _ (by dsimp only; omega)).trans m4, m5, m6, by rw [e2]; exact m7, e4, hl, h8, hc⟩
theorem okQ_nil : okQ [] := ⟨Nat.zero_le 4, fun t ht => by cases ht⟩
theorem lnQ_nil : lnQ [] := fun t ht => by cases ht
theorem SZ_k {a : Nat} : ∀ b j, SZ a b j → SK a b j := fun b j z => by unfold SZ at z; unfold SK; omega
theorem SA_l {a : Nat} : ∀ b j, SL a b j → SA a b j := fun b j z => by unfold SL SO at z; unfold SA; omega
theorem m_nodes {γ : GG} {h : AH} {a : Nat} {F : FS} (hF : isF h a F) : Call γ mX12_nodes 0 0 0 [vr (some a)] h (rM h a (opNds F)) := by
  obtain ⟨S, U, tx⟩ := F
  obtain ⟨T, qs⟩ := S
  have hm : isMd h a (T, qs) U tx := hF
  have oT : okTr T := hm.2.2.1.1
  have o9 := oT.o
  have n40 := o9.2.1
  have n1 := o9.1
  obtain ⟨hka, -, -⟩ := hm.1.q
  obtain ⟨rm, km⟩ := hm.1.m
  have g0 : gi h (a + 1) 0 = (tn T : Int) := hm.2.1.1.1
  have m5 : isMd (si h a 5 0) a (T, qs) U tx := hm.eqk (E5 (v := 0))
  refine Call.of (ls := [(0, vr (some a))]) vX12_nodes.1 (Nat.le_of_ble_eq_true rfl) rfl ?_
  refine aw_aload_n dX12_nodes_0 rfl ?_
  refine aw_iconst dX12_nodes_1 ?_
  refine aw_puti' (j := 5) rfl dX12_nodes_2 fX12_62 (by assumption) rfl ?_
  refine aw_aload_n dX12_nodes_5 rfl ?_
  refine aw_getr' (j := 0) dX12_nodes_6 fX12_7 rfl (by assumption) rfl (by assumption) ?_
  refine aw_iconst dX12_nodes_9 ?_
  refine aw_iald' dX12_nodes_10 (by assumption) (by omega) (by first | decide | omega) ((gi_ne (Or.inl (by omega))).trans g0) ?_
  exact aw_ireturn dX12_nodes_11 rfl (Or.inl rfl) ⟨rfl, rM_err hF 0⟩
theorem m_type {γ : GG} {h : AH} {a : Nat} {F : FS} {c : Int} (hF : isF h a F) (hc : (-2147483648 ≤ c ∧ c ≤ 2147483647)) : Call γ mX12_type 1 0 0 [vr (some a), vi c] h (rM h a (opTyp F c)) := by
  obtain ⟨S, U, tx⟩ := F
  obtain ⟨T, qs⟩ := S
  have hm : isMd h a (T, qs) U tx := hF
  have oT : okTr T := hm.2.2.1.1
  have o9 := oT.o
  have n40 := o9.2.1
  have n1 := o9.1
  obtain ⟨hka, -, -⟩ := hm.1.q
  obtain ⟨rm, km⟩ := hm.1.m
  have g0 : gi h (a + 1) 0 = (tn T : Int) := hm.2.1.1.1
  have m5 : isMd (si h a 5 0) a (T, qs) U tx := hm.eqk (E5 (v := 0))
  have KI := m_in (γ := γ) (h := h) (v := c) (l := 0) (m := 127) hc (by omega) (by omega)
  have g4 : gi h a 4 = (tx.length : Int) := hm.2.2.2.2.2.2.2.1
  have l80 : tx.length ≤ 80 := hm.2.2.2.2.2.2.2.2.1
  unfold opTyp
  dsimp only
  by_cases c1 : 0 ≤ c ∧ c ≤ 127
  · rw [if_neg (fun z => z c1)]
    rw [if_pos c1] at KI
    by_cases c2 : tx.length = 80
    · rw [if_pos c2]
      refine Call.of (ls := [(0, vr (some a)), (1, vi c)]) vX12_type.1 (Nat.le_of_ble_eq_true rfl) rfl ?_
      refine aw_aload_n dX12_type_0 rfl ?_
      refine aw_iload_n dX12_type_1 rfl ?_
      refine aw_iconst dX12_type_2 ?_
      refine aw_bipush dX12_type_3 rfl ?_
      refine aw_invS_r dX12_type_5 sX12_in kX12_69 rfl (KI) rfl rfl (by decide) (by decide) (by decide) (Nat.le_of_ble_eq_true rfl) ?_
      refine aw_if_ne (tgt := 15) dX12_type_8 rfl (by omega) (fun c8 => ?_) (fun c8 => ?_)
      · refine aw_aload_n dX12_type_15 rfl ?_
        refine aw_geti' (j := 4) dX12_type_16 fX12_214 rfl (by assumption) rfl g4 ?_
        refine aw_bipush dX12_type_19 rfl ?_
        refine aw_ic_ne (tgt := 28) dX12_type_21 rfl (by omega) (by omega) (fun c21 => ?_) (fun c21 => ?_)
        · exact absurd c21 (by omega)
        · refine aw_iconst dX12_type_24 ?_
          refine aw_goto (tgt := 29) dX12_type_25 rfl ?_
          refine aw_puti' (j := 5) rfl dX12_type_29 fX12_62 (by assumption) rfl ?_
          refine aw_aload_n dX12_type_32 rfl ?_
          refine aw_geti' (j := 5) dX12_type_33 fX12_62 rfl (by assumption) rfl (gi_at rfl rfl) ?_
          refine aw_if_eq (tgt := 41) dX12_type_36 rfl (by omega) (fun c36 => ?_) (fun c36 => ?_)
          · exact absurd c36 (by omega)
          · refine aw_iconst dX12_type_39 ?_
            exact aw_ireturn dX12_type_40 rfl (Or.inl rfl) ⟨rfl, rM_err hF 2⟩
      · exact absurd c8 (by omega)
    · rw [if_neg c2]
      obtain ⟨u, rfl⟩ := Int.eq_ofNat_of_zero_le c1.1
      rw [Int.toNat_natCast]
      have g45 : gi (si h a 5 0) a 4 = (tx.length : Int) := (gi_ne (Or.inr (by decide))).trans g4
      obtain ⟨rx, kx⟩ := hm.1.x
      have fin : isF (si (si (si h a 5 0) (a + 3) (tx.length : Int) u) a 4 ((tx.length : Int) + 1)) a ((T, qs), U, tx ++ [u]) := by
        refine isMd.tx m5 ((eqG.si (Or.inr rfl)).tr (eqG.si (Or.inl ⟨rfl, rfl⟩))) ((gi_at rfl rfl).trans (by rw [List.length_append, List.length_singleton]; omega)) (by rw [List.length_append, List.length_singleton]; omega) (fun x hx => ?_) (fun k x hk => ?_)
        · rw [List.mem_append, List.mem_singleton] at hx
          rcases hx with hx | hx
          · exact hm.2.2.2.2.2.2.2.2.2.1 x hx
          · omega
        · rcases get_snoc9 hk with ⟨z1, z2⟩ | ⟨z1, z2⟩
          · exact (gi_ne (Or.inl (by omega))).trans ((gi_ne (Or.inr (by omega))).trans ((gi_ne (Or.inl (by omega))).trans (hm.2.2.2.2.2.2.2.2.2.2 k x z2)))
          · subst z2
            exact (gi_ne (Or.inl (by omega))).trans (gi_at rfl (by omega))
      refine Call.of (ls := [(0, vr (some a)), (1, vi (u : Int))]) vX12_type.1 (Nat.le_of_ble_eq_true rfl) rfl ?_
      refine aw_aload_n dX12_type_0 rfl ?_
      refine aw_iload_n dX12_type_1 rfl ?_
      refine aw_iconst dX12_type_2 ?_
      refine aw_bipush dX12_type_3 rfl ?_
      refine aw_invS_r dX12_type_5 sX12_in kX12_69 rfl (KI) rfl rfl (by decide) (by decide) (by decide) (Nat.le_of_ble_eq_true rfl) ?_
      refine aw_if_ne (tgt := 15) dX12_type_8 rfl (by omega) (fun c8 => ?_) (fun c8 => ?_)
      · refine aw_aload_n dX12_type_15 rfl ?_
        refine aw_geti' (j := 4) dX12_type_16 fX12_214 rfl (by assumption) rfl g4 ?_
        refine aw_bipush dX12_type_19 rfl ?_
        refine aw_ic_ne (tgt := 28) dX12_type_21 rfl (by omega) (by omega) (fun c21 => ?_) (fun c21 => ?_)
        · refine aw_iconst dX12_type_28 ?_
          refine aw_puti' (j := 5) rfl dX12_type_29 fX12_62 (by assumption) rfl ?_
          refine aw_aload_n dX12_type_32 rfl ?_
          refine aw_geti' (j := 5) dX12_type_33 fX12_62 rfl (by assumption) rfl (gi_at rfl rfl) ?_
          refine aw_if_eq (tgt := 41) dX12_type_36 rfl (by omega) (fun c36 => ?_) (fun c36 => ?_)
          · refine aw_aload_n dX12_type_41 rfl ?_
            refine aw_getr' (j := 3) dX12_type_42 fX12_16 rfl (by assumption) rfl (by assumption) ?_
            refine aw_aload_n dX12_type_45 rfl ?_
            refine aw_geti' (j := 4) dX12_type_46 fX12_214 rfl (by assumption) rfl g45 ?_
            refine aw_iload_n dX12_type_49 rfl ?_
            refine aw_iast dX12_type_50 (by assumption) (by omega) (by first | decide | omega) ?_
            refine aw_aload_n dX12_type_51 rfl ?_
            refine aw_dup dX12_type_52 rfl ?_
            refine aw_geti' (j := 4) dX12_type_53 fX12_214 rfl (by assumption) rfl ((gi_ne (Or.inl (by omega))).trans g45) ?_
            refine aw_iconst dX12_type_56 ?_
            refine aw_iadd dX12_type_57 ?_
            refine aw_puti' (j := 4) rfl dX12_type_58 fX12_214 (by assumption) rfl ?_
            refine aw_aload_n dX12_type_61 rfl ?_
            refine aw_geti' (j := 4) dX12_type_62 fX12_214 rfl (by assumption) rfl (gi_at rfl rfl) ?_
            exact aw_ireturn dX12_type_65 rfl (Or.inl rfl) ⟨rfl, fin, (gi_ne (Or.inr (by decide))).trans ((gi_ne (Or.inl (by omega))).trans (gi_at rfl rfl)), (E5.mono SA_k).tr ((eqG.si (by unfold SA; omega)).tr (eqG.si (by unfold SA; omega)))⟩
          · exact absurd c36 (by omega)
        · exact absurd c21 (by omega)
      · exact absurd c8 (by omega)
  · rw [if_pos (fun z => c1 z)]
    rw [if_neg c1] at KI
    refine Call.of (ls := [(0, vr (some a)), (1, vi c)]) vX12_type.1 (Nat.le_of_ble_eq_true rfl) rfl ?_
    refine aw_aload_n dX12_type_0 rfl ?_
    refine aw_iload_n dX12_type_1 rfl ?_
    refine aw_iconst dX12_type_2 ?_
    refine aw_bipush dX12_type_3 rfl ?_
    refine aw_invS_r dX12_type_5 sX12_in kX12_69 rfl (KI) rfl rfl (by decide) (by decide) (by decide) (Nat.le_of_ble_eq_true rfl) ?_
    refine aw_if_ne (tgt := 15) dX12_type_8 rfl (by omega) (fun c8 => ?_) (fun c8 => ?_)
    · exact absurd c8 (by omega)
    · refine aw_iconst dX12_type_11 ?_
      refine aw_goto (tgt := 29) dX12_type_12 rfl ?_
      refine aw_puti' (j := 5) rfl dX12_type_29 fX12_62 (by assumption) rfl ?_
      refine aw_aload_n dX12_type_32 rfl ?_
      refine aw_geti' (j := 5) dX12_type_33 fX12_62 rfl (by assumption) rfl (gi_at rfl rfl) ?_
      refine aw_if_eq (tgt := 41) dX12_type_36 rfl (by omega) (fun c36 => ?_) (fun c36 => ?_)
      · exact absurd c36 (by omega)
      · refine aw_iconst dX12_type_39 ?_
        exact aw_ireturn dX12_type_40 rfl (Or.inl rfl) ⟨rfl, rM_err hF 1⟩
theorem m_clearText {γ : GG} {h : AH} {a : Nat} {F : FS} (hF : isF h a F) : Call γ mX12_clearText 0 0 0 [vr (some a)] h (rM h a (opClr F)) := by
  obtain ⟨S, U, tx⟩ := F
  obtain ⟨T, qs⟩ := S
  have hm : isMd h a (T, qs) U tx := hF
  have oT : okTr T := hm.2.2.1.1
  have o9 := oT.o
  have n40 := o9.2.1
  have n1 := o9.1
  obtain ⟨hka, -, -⟩ := hm.1.q
  obtain ⟨rm, km⟩ := hm.1.m
  have g0 : gi h (a + 1) 0 = (tn T : Int) := hm.2.1.1.1
  have m5 : isMd (si h a 5 0) a (T, qs) U tx := hm.eqk (E5 (v := 0))
  have g4 : gi h a 4 = (tx.length : Int) := hm.2.2.2.2.2.2.2.1
  have g45 : gi (si h a 5 0) a 4 = (tx.length : Int) := (gi_ne (Or.inr (by decide))).trans g4
  have fin : isF (si (si h a 5 0) a 4 0) a ((T, qs), U, []) := isMd.tx m5 (eqG.si (Or.inl ⟨rfl, rfl⟩)) (gi_at rfl rfl) (Nat.zero_le _) (fun x hx => by cases hx) (fun k x hk => by simp at hk)
  refine Call.of (ls := [(0, vr (some a))]) vX12_clearText.1 (Nat.le_of_ble_eq_true rfl) rfl ?_
  refine aw_aload_n dX12_clearText_0 rfl ?_
  refine aw_iconst dX12_clearText_1 ?_
  refine aw_puti' (j := 5) rfl dX12_clearText_2 fX12_62 (by assumption) rfl ?_
  refine aw_aload_n dX12_clearText_5 rfl ?_
  refine aw_geti' (j := 4) dX12_clearText_6 fX12_214 rfl (by assumption) rfl g45 ?_
  refine aw_istore_n (ls1 := [(1, _), (0, _)]) dX12_clearText_9 (by decide) rfl ?_
  refine aw_aload_n dX12_clearText_10 rfl ?_
  refine aw_iconst dX12_clearText_11 ?_
  refine aw_puti' (j := 4) rfl dX12_clearText_12 fX12_214 (by assumption) rfl ?_
  refine aw_iload_n dX12_clearText_15 rfl ?_
  exact aw_ireturn dX12_clearText_16 rfl (Or.inl rfl) ⟨rfl, fin, (gi_ne (Or.inr (by decide))).trans (gi_at rfl rfl), (E5.mono SA_k).tr (eqG.si (by unfold SA; omega))⟩
theorem m_written {γ : GG} {h : AH} {a : Nat} {F : FS} {p i : Int} (hF : isF h a F) (hp : (-2147483648 ≤ p ∧ p ≤ 2147483647)) (hi : (-2147483648 ≤ i ∧ i ≤ 2147483647)) : Call γ mX12_written 2 0 0 [vr (some a), vi p, vi i] h (rM h a (opWri F p i)) := by
  obtain ⟨S, U, tx⟩ := F
  obtain ⟨T, qs⟩ := S
  have hm : isMd h a (T, qs) U tx := hF
  have oT : okTr T := hm.2.2.1.1
  have o9 := oT.o
  have n40 := o9.2.1
  have n1 := o9.1
  obtain ⟨hka, -, -⟩ := hm.1.q
  obtain ⟨rm, km⟩ := hm.1.m
  have g0 : gi h (a + 1) 0 = (tn T : Int) := hm.2.1.1.1
  have m5 : isMd (si h a 5 0) a (T, qs) U tx := hm.eqk (E5 (v := 0))
  have KP := m_isPlace (γ := γ) (h := h) hp
  unfold opWri
  dsimp only
  by_cases c1 : 0 ≤ p ∧ p ≤ 3
  · rw [if_pos c1] at KP
    rw [if_neg (fun z => z c1)]
    by_cases c2 : i < 0
    · rw [if_pos c2]
      refine Call.of (ls := [(0, vr (some a)), (1, vi p), (2, vi i)]) vX12_written.1 (Nat.le_of_ble_eq_true rfl) rfl ?_
      refine aw_aload_n dX12_written_0 rfl ?_
      refine aw_iload_n dX12_written_1 rfl ?_
      refine aw_invS_r dX12_written_2 sX12_isPlace kX12_217 rfl (KP) rfl rfl (by decide) (by decide) (by decide) (Nat.le_of_ble_eq_true rfl) ?_
      refine aw_if_ne (tgt := 12) dX12_written_5 rfl (by omega) (fun c5 => ?_) (fun c5 => ?_)
      · refine aw_iload_n dX12_written_12 rfl ?_
        refine aw_if_ge (tgt := 20) dX12_written_13 rfl (by omega) (fun c13 => ?_) (fun c13 => ?_)
        · exact absurd c13 (by omega)
        · refine aw_iconst dX12_written_16 ?_
          refine aw_goto (tgt := 33) dX12_written_17 rfl ?_
          refine aw_puti' (j := 5) rfl dX12_written_33 fX12_62 (by assumption) rfl ?_
          refine aw_aload_n dX12_written_36 rfl ?_
          refine aw_geti' (j := 5) dX12_written_37 fX12_62 rfl (by assumption) rfl (gi_at rfl rfl) ?_
          refine aw_if_eq (tgt := 45) dX12_written_40 rfl (by omega) (fun c40 => ?_) (fun c40 => ?_)
          · exact absurd c40 (by omega)
          · refine aw_iconst dX12_written_43 ?_
            exact aw_ireturn dX12_written_44 rfl (Or.inl rfl) ⟨rfl, rM_err hF 2⟩
      · exact absurd c5 (by omega)
    · rw [if_neg c2]
      obtain ⟨u, rfl⟩ := Int.eq_ofNat_of_zero_le c1.1
      obtain ⟨y, rfl⟩ := Int.eq_ofNat_of_zero_le (show 0 ≤ i by omega)
      rw [Int.toNat_natCast]
      have hu : u < 4 := by omega
      have KH : Call γ mX12_has 0 0 0 [vr (some a), vi (u : Int)] h (rV (vi (if qs u = [] then 0 else 1)) h) := m_has (γ := γ) hm hu
      have oq := hm.2.2.1.2 u hu
      have oq : okQ (qs u) ∧ lnQ (qs u) := oq
      by_cases c3 : qs u = []
      · rw [if_pos c3]
        rw [if_pos c3] at KH
        refine Call.of (ls := [(0, vr (some a)), (1, vi (u : Int)), (2, vi (y : Int))]) vX12_written.1 (Nat.le_of_ble_eq_true rfl) rfl ?_
        refine aw_aload_n dX12_written_0 rfl ?_
        refine aw_iload_n dX12_written_1 rfl ?_
        refine aw_invS_r dX12_written_2 sX12_isPlace kX12_217 rfl (KP) rfl rfl (by decide) (by decide) (by decide) (Nat.le_of_ble_eq_true rfl) ?_
        refine aw_if_ne (tgt := 12) dX12_written_5 rfl (by omega) (fun c5 => ?_) (fun c5 => ?_)
        · refine aw_iload_n dX12_written_12 rfl ?_
          refine aw_if_ge (tgt := 20) dX12_written_13 rfl (by omega) (fun c13 => ?_) (fun c13 => ?_)
          · refine aw_aload_n dX12_written_20 rfl ?_
            refine aw_iload_n dX12_written_21 rfl ?_
            refine aw_invV_r dX12_written_22 vX12_has kX12_223 rfl (KH) ⟨_, (by assumption), _, _, rfl⟩ rfl rfl (by decide) (by decide) (by decide) (Nat.le_of_ble_eq_true rfl) ?_
            refine aw_if_eq (tgt := 32) dX12_written_25 rfl (by omega) (fun c25 => ?_) (fun c25 => ?_)
            · refine aw_iconst dX12_written_32 ?_
              refine aw_puti' (j := 5) rfl dX12_written_33 fX12_62 (by assumption) rfl ?_
              refine aw_aload_n dX12_written_36 rfl ?_
              refine aw_geti' (j := 5) dX12_written_37 fX12_62 rfl (by assumption) rfl (gi_at rfl rfl) ?_
              refine aw_if_eq (tgt := 45) dX12_written_40 rfl (by omega) (fun c40 => ?_) (fun c40 => ?_)
              · exact absurd c40 (by omega)
              · refine aw_iconst dX12_written_43 ?_
                exact aw_ireturn dX12_written_44 rfl (Or.inl rfl) ⟨rfl, rM_err hF 3⟩
            · exact absurd c25 (by omega)
          · exact absurd c13 (by omega)
        · exact absurd c5 (by omega)
      · rw [if_neg c3]
        rw [if_neg c3] at KH
        have bw := wQry_le oq.1 oq.2
        obtain ⟨w1, w2⟩ := hm.2.1.2 u hu
        have w1 : gi (si h a 5 0) (a + 1) (121 + (u : Int)) = ((wQry (qs u)).length : Int) := (gi_ne (Or.inl (by omega))).trans (by rw [show (121 : Int) + (u : Int) = 0 + 121 + u by omega]; exact w1)
        unfold atI
        rw [Int.toNat_natCast]
        by_cases c4 : y < (wQry (qs u)).length
        · obtain ⟨x, hx⟩ : ∃ x, (wQry (qs u))[y]? = some x := ⟨_, List.getElem?_eq_getElem c4⟩
          rw [hx]
          dsimp only
          have w3 : gi (si h a 5 0) (a + 1) (125 + 400 * (u : Int) + (y : Int)) = x := (gi_ne (Or.inl (by omega))).trans (by rw [show (125 : Int) + 400 * (u : Int) + (y : Int) = 0 + 125 + 400 * u + y by omega]; exact w2 y x hx)
          refine Call.of (ls := [(0, vr (some a)), (1, vi (u : Int)), (2, vi (y : Int))]) vX12_written.1 (Nat.le_of_ble_eq_true rfl) rfl ?_
          refine aw_aload_n dX12_written_0 rfl ?_
          refine aw_iload_n dX12_written_1 rfl ?_
          refine aw_invS_r dX12_written_2 sX12_isPlace kX12_217 rfl (KP) rfl rfl (by decide) (by decide) (by decide) (Nat.le_of_ble_eq_true rfl) ?_
          refine aw_if_ne (tgt := 12) dX12_written_5 rfl (by omega) (fun c5 => ?_) (fun c5 => ?_)
          · refine aw_iload_n dX12_written_12 rfl ?_
            refine aw_if_ge (tgt := 20) dX12_written_13 rfl (by omega) (fun c13 => ?_) (fun c13 => ?_)
            · refine aw_aload_n dX12_written_20 rfl ?_
              refine aw_iload_n dX12_written_21 rfl ?_
              refine aw_invV_r dX12_written_22 vX12_has kX12_223 rfl (KH) ⟨_, (by assumption), _, _, rfl⟩ rfl rfl (by decide) (by decide) (by decide) (Nat.le_of_ble_eq_true rfl) ?_
              refine aw_if_eq (tgt := 32) dX12_written_25 rfl (by omega) (fun c25 => ?_) (fun c25 => ?_)
              · exact absurd c25 (by omega)
              · refine aw_iconst dX12_written_28 ?_
                refine aw_goto (tgt := 33) dX12_written_29 rfl ?_
                refine aw_puti' (j := 5) rfl dX12_written_33 fX12_62 (by assumption) rfl ?_
                refine aw_aload_n dX12_written_36 rfl ?_
                refine aw_geti' (j := 5) dX12_written_37 fX12_62 rfl (by assumption) rfl (gi_at rfl rfl) ?_
                refine aw_if_eq (tgt := 45) dX12_written_40 rfl (by omega) (fun c40 => ?_) (fun c40 => ?_)
                · refine aw_iload_n dX12_written_45 rfl ?_
                  refine aw_aload_n dX12_written_46 rfl ?_
                  refine aw_getr' (j := 0) dX12_written_47 fX12_7 rfl (by assumption) rfl (by assumption) ?_
                  refine aw_bipush dX12_written_50 rfl ?_
                  refine aw_iload_n dX12_written_52 rfl ?_
                  refine aw_iadd dX12_written_53 ?_
                  refine aw_iald' dX12_written_54 (by assumption) (by omega) (by first | decide | omega) w1 ?_
                  refine aw_ic_ge (tgt := 76) dX12_written_55 rfl (by omega) (by omega) (fun c55 => ?_) (fun c55 => ?_)
                  · exact absurd c55 (by omega)
                  · refine aw_aload_n dX12_written_58 rfl ?_
                    refine aw_getr' (j := 0) dX12_written_59 fX12_7 rfl (by assumption) rfl (by assumption) ?_
                    refine aw_bipush dX12_written_62 rfl ?_
                    refine aw_sipush dX12_written_64 rfl ?_
                    refine aw_iload_n dX12_written_67 rfl ?_
                    refine aw_imul dX12_written_68 ?_
                    refine aw_iadd dX12_written_69 ?_
                    refine aw_iload_n dX12_written_70 rfl ?_
                    refine aw_iadd dX12_written_71 ?_
                    refine aw_iald' dX12_written_72 (by assumption) (by omega) (by first | decide | omega) w3 ?_
                    refine aw_goto (tgt := 77) dX12_written_73 rfl ?_
                    exact aw_ireturn dX12_written_77 rfl (Or.inl rfl) ⟨rfl, rM_err hF 0⟩
                · exact absurd c40 (by omega)
            · exact absurd c13 (by omega)
          · exact absurd c5 (by omega)
        · rw [List.getElem?_eq_none (by omega)]
          dsimp only
          refine Call.of (ls := [(0, vr (some a)), (1, vi (u : Int)), (2, vi (y : Int))]) vX12_written.1 (Nat.le_of_ble_eq_true rfl) rfl ?_
          refine aw_aload_n dX12_written_0 rfl ?_
          refine aw_iload_n dX12_written_1 rfl ?_
          refine aw_invS_r dX12_written_2 sX12_isPlace kX12_217 rfl (KP) rfl rfl (by decide) (by decide) (by decide) (Nat.le_of_ble_eq_true rfl) ?_
          refine aw_if_ne (tgt := 12) dX12_written_5 rfl (by omega) (fun c5 => ?_) (fun c5 => ?_)
          · refine aw_iload_n dX12_written_12 rfl ?_
            refine aw_if_ge (tgt := 20) dX12_written_13 rfl (by omega) (fun c13 => ?_) (fun c13 => ?_)
            · refine aw_aload_n dX12_written_20 rfl ?_
              refine aw_iload_n dX12_written_21 rfl ?_
              refine aw_invV_r dX12_written_22 vX12_has kX12_223 rfl (KH) ⟨_, (by assumption), _, _, rfl⟩ rfl rfl (by decide) (by decide) (by decide) (Nat.le_of_ble_eq_true rfl) ?_
              refine aw_if_eq (tgt := 32) dX12_written_25 rfl (by omega) (fun c25 => ?_) (fun c25 => ?_)
              · exact absurd c25 (by omega)
              · refine aw_iconst dX12_written_28 ?_
                refine aw_goto (tgt := 33) dX12_written_29 rfl ?_
                refine aw_puti' (j := 5) rfl dX12_written_33 fX12_62 (by assumption) rfl ?_
                refine aw_aload_n dX12_written_36 rfl ?_
                refine aw_geti' (j := 5) dX12_written_37 fX12_62 rfl (by assumption) rfl (gi_at rfl rfl) ?_
                refine aw_if_eq (tgt := 45) dX12_written_40 rfl (by omega) (fun c40 => ?_) (fun c40 => ?_)
                · refine aw_iload_n dX12_written_45 rfl ?_
                  refine aw_aload_n dX12_written_46 rfl ?_
                  refine aw_getr' (j := 0) dX12_written_47 fX12_7 rfl (by assumption) rfl (by assumption) ?_
                  refine aw_bipush dX12_written_50 rfl ?_
                  refine aw_iload_n dX12_written_52 rfl ?_
                  refine aw_iadd dX12_written_53 ?_
                  refine aw_iald' dX12_written_54 (by assumption) (by omega) (by first | decide | omega) w1 ?_
                  refine aw_ic_ge (tgt := 76) dX12_written_55 rfl (by omega) (by omega) (fun c55 => ?_) (fun c55 => ?_)
                  · refine aw_iconst dX12_written_76 ?_
                    exact aw_ireturn dX12_written_77 rfl (Or.inl rfl) ⟨rfl, rM_err hF 0⟩
                  · exact absurd c55 (by omega)
                · exact absurd c40 (by omega)
            · exact absurd c13 (by omega)
          · exact absurd c5 (by omega)
  · rw [if_pos c1]
    rw [if_neg c1] at KP
    refine Call.of (ls := [(0, vr (some a)), (1, vi p), (2, vi i)]) vX12_written.1 (Nat.le_of_ble_eq_true rfl) rfl ?_
    refine aw_aload_n dX12_written_0 rfl ?_
    refine aw_iload_n dX12_written_1 rfl ?_
    refine aw_invS_r dX12_written_2 sX12_isPlace kX12_217 rfl (KP) rfl rfl (by decide) (by decide) (by decide) (Nat.le_of_ble_eq_true rfl) ?_
    refine aw_if_ne (tgt := 12) dX12_written_5 rfl (by omega) (fun c5 => ?_) (fun c5 => ?_)
    · exact absurd c5 (by omega)
    · refine aw_iconst dX12_written_8 ?_
      refine aw_goto (tgt := 33) dX12_written_9 rfl ?_
      refine aw_puti' (j := 5) rfl dX12_written_33 fX12_62 (by assumption) rfl ?_
      refine aw_aload_n dX12_written_36 rfl ?_
      refine aw_geti' (j := 5) dX12_written_37 fX12_62 rfl (by assumption) rfl (gi_at rfl rfl) ?_
      refine aw_if_eq (tgt := 45) dX12_written_40 rfl (by omega) (fun c40 => ?_) (fun c40 => ?_)
      · exact absurd c40 (by omega)
      · refine aw_iconst dX12_written_43 ?_
        exact aw_ireturn dX12_written_44 rfl (Or.inl rfl) ⟨rfl, rM_err hF 1⟩
theorem m_size {γ : GG} {h : AH} {a : Nat} {F : FS} {p x : Int} (hF : isF h a F) (hp : (-2147483648 ≤ p ∧ p ≤ 2147483647)) (hx : (-2147483648 ≤ x ∧ x ≤ 2147483647)) : Call γ mX12_size 11 0 0 [vr (some a), vi p, vi x] h (rM h a (opSiz F p x)) := by
  obtain ⟨S, U, tx⟩ := F
  obtain ⟨T, qs⟩ := S
  have hm : isMd h a (T, qs) U tx := hF
  have oT : okTr T := hm.2.2.1.1
  have o9 := oT.o
  have n40 := o9.2.1
  have n1 := o9.1
  obtain ⟨hka, -, -⟩ := hm.1.q
  obtain ⟨rm, km⟩ := hm.1.m
  have g0 : gi h (a + 1) 0 = (tn T : Int) := hm.2.1.1.1
  have m5 : isMd (si h a 5 0) a (T, qs) U tx := hm.eqk (E5 (v := 0))
  have KP := m_isPlace (γ := γ) (h := h) hp
  have KI := m_in (γ := γ) (h := h) (v := x) (l := 0) (m := 5) hx (by omega) (by omega)
  unfold opSiz
  dsimp only
  by_cases c1 : 0 ≤ p ∧ p ≤ 3
  · rw [if_pos c1] at KP
    rw [if_neg (fun z => z c1)]
    by_cases c2 : 0 ≤ x ∧ x ≤ 5
    · rw [if_neg (fun z => z c2)]
      rw [if_pos c2] at KI
      obtain ⟨u, rfl⟩ := Int.eq_ofNat_of_zero_le c1.1
      rw [Int.toNat_natCast]
      have hu : u < 4 := by omega
      have KH : Call γ mX12_has 0 0 0 [vr (some a), vi (u : Int)] h (rV (vi (if qs u = [] then 0 else 1)) h) := m_has (γ := γ) hm hu
      have oq := hm.2.2.1.2 u hu
      have oq : okQ (qs u) ∧ lnQ (qs u) := oq
      by_cases c3 : qs u = []
      · rw [if_pos c3]
        rw [if_pos c3] at KH
        refine Call.of (ls := [(0, vr (some a)), (1, vi (u : Int)), (2, vi x)]) vX12_size.1 (Nat.le_of_ble_eq_true rfl) rfl ?_
        refine aw_aload_n dX12_size_0 rfl ?_
        refine aw_iload_n dX12_size_1 rfl ?_
        refine aw_invS_r dX12_size_2 sX12_isPlace kX12_217 rfl (KP) rfl rfl (by decide) (by decide) (by decide) (Nat.le_of_ble_eq_true rfl) ?_
        refine aw_if_ne (tgt := 12) dX12_size_5 rfl (by omega) (fun c5 => ?_) (fun c5 => ?_)
        · refine aw_iload_n dX12_size_12 rfl ?_
          refine aw_iconst dX12_size_13 ?_
          refine aw_iconst dX12_size_14 ?_
          refine aw_invS_r dX12_size_15 sX12_in kX12_69 rfl (KI) rfl rfl (by decide) (by decide) (by decide) (Nat.le_of_ble_eq_true rfl) ?_
          refine aw_if_ne (tgt := 25) dX12_size_18 rfl (by omega) (fun c18 => ?_) (fun c18 => ?_)
          · refine aw_aload_n dX12_size_25 rfl ?_
            refine aw_iload_n dX12_size_26 rfl ?_
            refine aw_invV_r dX12_size_27 vX12_has kX12_223 rfl (KH) ⟨_, (by assumption), _, _, rfl⟩ rfl rfl (by decide) (by decide) (by decide) (Nat.le_of_ble_eq_true rfl) ?_
            refine aw_if_eq (tgt := 37) dX12_size_30 rfl (by omega) (fun c30 => ?_) (fun c30 => ?_)
            · refine aw_iconst dX12_size_37 ?_
              refine aw_puti' (j := 5) rfl dX12_size_38 fX12_62 (by assumption) rfl ?_
              refine aw_aload_n dX12_size_41 rfl ?_
              refine aw_geti' (j := 5) dX12_size_42 fX12_62 rfl (by assumption) rfl (gi_at rfl rfl) ?_
              refine aw_if_eq (tgt := 50) dX12_size_45 rfl (by omega) (fun c45 => ?_) (fun c45 => ?_)
              · exact absurd c45 (by omega)
              · refine aw_iconst dX12_size_48 ?_
                exact aw_ireturn dX12_size_49 rfl (Or.inl rfl) ⟨rfl, rM_err hF 3⟩
            · exact absurd c30 (by omega)
          · exact absurd c18 (by omega)
        · exact absurd c5 (by omega)
      · rw [if_neg c3]
        rw [if_neg c3] at KH
        have KT : Call γ mX12_take 10 0 0 [vr (some a), vi (u : Int)] (si h a 5 0) (rF (fun h' => eqG (ST9 a) (si h a 5 0) h' ∧ gQ (gi h' (a + 7)) (qs u))) := m_take9 (γ := γ) m5 hu c3
        unfold sizV
        refine Call.of (ls := [(0, vr (some a)), (1, vi (u : Int)), (2, vi x)]) vX12_size.1 (Nat.le_of_ble_eq_true rfl) rfl ?_
        refine aw_aload_n dX12_size_0 rfl ?_
        refine aw_iload_n dX12_size_1 rfl ?_
        refine aw_invS_r dX12_size_2 sX12_isPlace kX12_217 rfl (KP) rfl rfl (by decide) (by decide) (by decide) (Nat.le_of_ble_eq_true rfl) ?_
        refine aw_if_ne (tgt := 12) dX12_size_5 rfl (by omega) (fun c5 => ?_) (fun c5 => ?_)
        · refine aw_iload_n dX12_size_12 rfl ?_
          refine aw_iconst dX12_size_13 ?_
          refine aw_iconst dX12_size_14 ?_
          refine aw_invS_r dX12_size_15 sX12_in kX12_69 rfl (KI) rfl rfl (by decide) (by decide) (by decide) (Nat.le_of_ble_eq_true rfl) ?_
          refine aw_if_ne (tgt := 25) dX12_size_18 rfl (by omega) (fun c18 => ?_) (fun c18 => ?_)
          · refine aw_aload_n dX12_size_25 rfl ?_
            refine aw_iload_n dX12_size_26 rfl ?_
            refine aw_invV_r dX12_size_27 vX12_has kX12_223 rfl (KH) ⟨_, (by assumption), _, _, rfl⟩ rfl rfl (by decide) (by decide) (by decide) (Nat.le_of_ble_eq_true rfl) ?_
            refine aw_if_eq (tgt := 37) dX12_size_30 rfl (by omega) (fun c30 => ?_) (fun c30 => ?_)
            · exact absurd c30 (by omega)
            · refine aw_iconst dX12_size_33 ?_
              refine aw_goto (tgt := 38) dX12_size_34 rfl ?_
              refine aw_puti' (j := 5) rfl dX12_size_38 fX12_62 (by assumption) rfl ?_
              refine aw_aload_n dX12_size_41 rfl ?_
              refine aw_geti' (j := 5) dX12_size_42 fX12_62 rfl (by assumption) rfl (gi_at rfl rfl) ?_
              refine aw_if_eq (tgt := 50) dX12_size_45 rfl (by omega) (fun c45 => ?_) (fun c45 => ?_)
              · refine aw_aload_n dX12_size_50 rfl ?_
                refine aw_iload_n dX12_size_51 rfl ?_
                refine aw_invV_f dX12_size_52 vX12_take kX12_235 rfl (KT) ⟨_, (by assumption), _, _, rfl⟩ rfl rfl (by decide) (by decide) (by decide) (Nat.le_of_ble_eq_true rfl) (fun H1 hP9 => ?_)
                obtain ⟨E1, G1⟩ := hP9
                have m1 : isMd H1 a (T, qs) U tx := m5.eqk (E1.mono ST9_k)
                have hka1 := m1.1.1
                have KZ := m_sizeOf (γ := γ) (pl := (u : Int)) (wh := x) m1.1 oq.1 G1 c2 (by omega) (by have := (m1.2.1.2 u hu).1; rw [show (0 : Int) + 121 + (u : Int) = 121 + (u : Int) by omega] at this; exact this)
                refine aw_aload_n dX12_size_55 rfl ?_
                refine aw_iload_n dX12_size_56 rfl ?_
                refine aw_iload_n dX12_size_57 rfl ?_
                refine aw_invV_e dX12_size_58 vX12_sizeOf kX12_238 rfl (KZ) ⟨_, (by assumption), _, _, rfl⟩ rfl rfl (by decide) (by decide) (by decide) (Nat.le_of_ble_eq_true rfl) (fun H2 hP9 => ?_)
                have E2 := hP9
                exact aw_ireturn dX12_size_61 rfl (Or.inl rfl) ⟨rfl, rM_ok hF ((E1.mono ST9_k).tr (E2.mono SZ_k)) ((E2.2.2.2.2 _ _ (by unfold SZ; omega)).trans ((E1.2.2.2.2 _ _ (by unfold ST9; omega)).trans (gi_at rfl rfl)))⟩
              · exact absurd c45 (by omega)
          · exact absurd c18 (by omega)
        · exact absurd c5 (by omega)
    · rw [if_pos c2]
      rw [if_neg c2] at KI
      refine Call.of (ls := [(0, vr (some a)), (1, vi p), (2, vi x)]) vX12_size.1 (Nat.le_of_ble_eq_true rfl) rfl ?_
      refine aw_aload_n dX12_size_0 rfl ?_
      refine aw_iload_n dX12_size_1 rfl ?_
      refine aw_invS_r dX12_size_2 sX12_isPlace kX12_217 rfl (KP) rfl rfl (by decide) (by decide) (by decide) (Nat.le_of_ble_eq_true rfl) ?_
      refine aw_if_ne (tgt := 12) dX12_size_5 rfl (by omega) (fun c5 => ?_) (fun c5 => ?_)
      · refine aw_iload_n dX12_size_12 rfl ?_
        refine aw_iconst dX12_size_13 ?_
        refine aw_iconst dX12_size_14 ?_
        refine aw_invS_r dX12_size_15 sX12_in kX12_69 rfl (KI) rfl rfl (by decide) (by decide) (by decide) (Nat.le_of_ble_eq_true rfl) ?_
        refine aw_if_ne (tgt := 25) dX12_size_18 rfl (by omega) (fun c18 => ?_) (fun c18 => ?_)
        · exact absurd c18 (by omega)
        · refine aw_iconst dX12_size_21 ?_
          refine aw_goto (tgt := 38) dX12_size_22 rfl ?_
          refine aw_puti' (j := 5) rfl dX12_size_38 fX12_62 (by assumption) rfl ?_
          refine aw_aload_n dX12_size_41 rfl ?_
          refine aw_geti' (j := 5) dX12_size_42 fX12_62 rfl (by assumption) rfl (gi_at rfl rfl) ?_
          refine aw_if_eq (tgt := 50) dX12_size_45 rfl (by omega) (fun c45 => ?_) (fun c45 => ?_)
          · exact absurd c45 (by omega)
          · refine aw_iconst dX12_size_48 ?_
            exact aw_ireturn dX12_size_49 rfl (Or.inl rfl) ⟨rfl, rM_err hF 2⟩
      · exact absurd c5 (by omega)
  · rw [if_pos c1]
    rw [if_neg c1] at KP
    refine Call.of (ls := [(0, vr (some a)), (1, vi p), (2, vi x)]) vX12_size.1 (Nat.le_of_ble_eq_true rfl) rfl ?_
    refine aw_aload_n dX12_size_0 rfl ?_
    refine aw_iload_n dX12_size_1 rfl ?_
    refine aw_invS_r dX12_size_2 sX12_isPlace kX12_217 rfl (KP) rfl rfl (by decide) (by decide) (by decide) (Nat.le_of_ble_eq_true rfl) ?_
    refine aw_if_ne (tgt := 12) dX12_size_5 rfl (by omega) (fun c5 => ?_) (fun c5 => ?_)
    · exact absurd c5 (by omega)
    · refine aw_iconst dX12_size_8 ?_
      refine aw_goto (tgt := 38) dX12_size_9 rfl ?_
      refine aw_puti' (j := 5) rfl dX12_size_38 fX12_62 (by assumption) rfl ?_
      refine aw_aload_n dX12_size_41 rfl ?_
      refine aw_geti' (j := 5) dX12_size_42 fX12_62 rfl (by assumption) rfl (gi_at rfl rfl) ?_
      refine aw_if_eq (tgt := 50) dX12_size_45 rfl (by omega) (fun c45 => ?_) (fun c45 => ?_)
      · exact absurd c45 (by omega)
      · refine aw_iconst dX12_size_48 ?_
        exact aw_ireturn dX12_size_49 rfl (Or.inl rfl) ⟨rfl, rM_err hF 1⟩
theorem m_drop {γ : GG} {h : AH} {a : Nat} {F : FS} {p : Int} (hF : isF h a F) (hp : (-2147483648 ≤ p ∧ p ≤ 2147483647)) : Call γ mX12_drop 2 0 0 [vr (some a), vi p] h (rM h a (opDrp F p)) := by
  obtain ⟨S, U, tx⟩ := F
  obtain ⟨T, qs⟩ := S
  have hm : isMd h a (T, qs) U tx := hF
  have oT : okTr T := hm.2.2.1.1
  have o9 := oT.o
  have n40 := o9.2.1
  have n1 := o9.1
  obtain ⟨hka, -, -⟩ := hm.1.q
  obtain ⟨rm, km⟩ := hm.1.m
  have g0 : gi h (a + 1) 0 = (tn T : Int) := hm.2.1.1.1
  have m5 : isMd (si h a 5 0) a (T, qs) U tx := hm.eqk (E5 (v := 0))
  have KP := m_isPlace (γ := γ) (h := h) hp
  unfold opDrp
  dsimp only
  by_cases c1 : 0 ≤ p ∧ p ≤ 3
  · rw [if_pos c1] at KP
    rw [if_neg (fun z => z c1)]
    obtain ⟨u, rfl⟩ := Int.eq_ofNat_of_zero_le c1.1
    rw [Int.toNat_natCast]
    have hu : u < 4 := by omega
    have KK := m_keep (γ := γ) m5
    have fin : ∀ H1, eqG (SV a) (si h a 5 0) H1 → isMd H1 a (T, qs) (psh U (T, qs)) tx → isF (si H1 (a + 1) (121 + (u : Int)) 0) a (keepF ((T, qs), U, tx) (upQ (T, qs) u [])) ∧ gi (si H1 (a + 1) (121 + (u : Int)) 0) a 5 = 0 ∧ eqG (SA a) h (si H1 (a + 1) (121 + (u : Int)) 0) := fun H1 E1 m1 => ⟨isMd.lay m1 hu okQ_nil lnQ_nil (eqG.si (Or.inr rfl)) (gi_at rfl rfl) (fun k c hk => by simp [wQry, jn] at hk) (fun j j1 j2 => gi_ne (Or.inr j1)), (gi_ne (Or.inl (by omega))).trans ((E1.2.2.2.2 _ _ (by unfold SV; omega)).trans (gi_at rfl rfl)), ((E5.mono SA_k).tr (E1.mono SA_v)).tr (eqG.si (by unfold SA; omega))⟩
    by_cases c3 : qs u = []
    · rw [if_pos c3]
      refine Call.of (ls := [(0, vr (some a)), (1, vi (u : Int))]) vX12_drop.1 (Nat.le_of_ble_eq_true rfl) rfl ?_
      refine aw_aload_n dX12_drop_0 rfl ?_
      refine aw_iload_n dX12_drop_1 rfl ?_
      refine aw_invS_r dX12_drop_2 sX12_isPlace kX12_217 rfl (KP) rfl rfl (by decide) (by decide) (by decide) (Nat.le_of_ble_eq_true rfl) ?_
      refine aw_if_eq (tgt := 12) dX12_drop_5 rfl (by omega) (fun c5 => ?_) (fun c5 => ?_)
      · exact absurd c5 (by omega)
      · refine aw_iconst dX12_drop_8 ?_
        refine aw_goto (tgt := 13) dX12_drop_9 rfl ?_
        refine aw_puti' (j := 5) rfl dX12_drop_13 fX12_62 (by assumption) rfl ?_
        refine aw_aload_n dX12_drop_16 rfl ?_
        refine aw_geti' (j := 5) dX12_drop_17 fX12_62 rfl (by assumption) rfl (gi_at rfl rfl) ?_
        refine aw_if_eq (tgt := 25) dX12_drop_20 rfl (by omega) (fun c20 => ?_) (fun c20 => ?_)
        · refine aw_aload_n dX12_drop_25 rfl ?_
          refine aw_invV_f dX12_drop_26 vX12_keep kX12_85 rfl (KK) ⟨_, (by assumption), _, _, rfl⟩ rfl rfl (by decide) (by decide) (by decide) (Nat.le_of_ble_eq_true rfl) (fun H1 hP9 => ?_)
          obtain ⟨E1, m1⟩ := hP9
          have hka1 := m1.1.1
          obtain ⟨rm1, km1⟩ := m1.1.m
          have KH : Call γ mX12_has 0 0 0 [vr (some a), vi (u : Int)] H1 (rV (vi (if qs u = [] then 0 else 1)) H1) := m_has (γ := γ) m1 hu
          rw [if_pos c3] at KH
          refine aw_aload_n dX12_drop_29 rfl ?_
          refine aw_iload_n dX12_drop_30 rfl ?_
          refine aw_invV_r dX12_drop_31 vX12_has kX12_223 rfl (KH) ⟨_, (by assumption), _, _, rfl⟩ rfl rfl (by decide) (by decide) (by decide) (Nat.le_of_ble_eq_true rfl) ?_
          refine aw_if_eq (tgt := 41) dX12_drop_34 rfl (by omega) (fun c34 => ?_) (fun c34 => ?_)
          · refine aw_iconst dX12_drop_41 ?_
            refine aw_istore_n (ls1 := [(2, _), (0, _), (1, _)]) dX12_drop_42 (by decide) rfl ?_
            refine aw_aload_n dX12_drop_43 rfl ?_
            refine aw_getr' (j := 0) dX12_drop_44 fX12_7 rfl (by assumption) rfl (by assumption) ?_
            refine aw_bipush dX12_drop_47 rfl ?_
            refine aw_iload_n dX12_drop_49 rfl ?_
            refine aw_iadd dX12_drop_50 ?_
            refine aw_iconst dX12_drop_51 ?_
            refine aw_iast dX12_drop_52 (by assumption) (by omega) (by first | decide | omega) ?_
            refine aw_iload_n dX12_drop_53 rfl ?_
            exact aw_ireturn dX12_drop_54 rfl (Or.inl rfl) ⟨rfl, fin H1 E1 m1⟩
          · exact absurd c34 (by omega)
        · exact absurd c20 (by omega)
    · rw [if_neg c3]
      refine Call.of (ls := [(0, vr (some a)), (1, vi (u : Int))]) vX12_drop.1 (Nat.le_of_ble_eq_true rfl) rfl ?_
      refine aw_aload_n dX12_drop_0 rfl ?_
      refine aw_iload_n dX12_drop_1 rfl ?_
      refine aw_invS_r dX12_drop_2 sX12_isPlace kX12_217 rfl (KP) rfl rfl (by decide) (by decide) (by decide) (Nat.le_of_ble_eq_true rfl) ?_
      refine aw_if_eq (tgt := 12) dX12_drop_5 rfl (by omega) (fun c5 => ?_) (fun c5 => ?_)
      · exact absurd c5 (by omega)
      · refine aw_iconst dX12_drop_8 ?_
        refine aw_goto (tgt := 13) dX12_drop_9 rfl ?_
        refine aw_puti' (j := 5) rfl dX12_drop_13 fX12_62 (by assumption) rfl ?_
        refine aw_aload_n dX12_drop_16 rfl ?_
        refine aw_geti' (j := 5) dX12_drop_17 fX12_62 rfl (by assumption) rfl (gi_at rfl rfl) ?_
        refine aw_if_eq (tgt := 25) dX12_drop_20 rfl (by omega) (fun c20 => ?_) (fun c20 => ?_)
        · refine aw_aload_n dX12_drop_25 rfl ?_
          refine aw_invV_f dX12_drop_26 vX12_keep kX12_85 rfl (KK) ⟨_, (by assumption), _, _, rfl⟩ rfl rfl (by decide) (by decide) (by decide) (Nat.le_of_ble_eq_true rfl) (fun H1 hP9 => ?_)
          obtain ⟨E1, m1⟩ := hP9
          have hka1 := m1.1.1
          obtain ⟨rm1, km1⟩ := m1.1.m
          have KH : Call γ mX12_has 0 0 0 [vr (some a), vi (u : Int)] H1 (rV (vi (if qs u = [] then 0 else 1)) H1) := m_has (γ := γ) m1 hu
          rw [if_neg c3] at KH
          refine aw_aload_n dX12_drop_29 rfl ?_
          refine aw_iload_n dX12_drop_30 rfl ?_
          refine aw_invV_r dX12_drop_31 vX12_has kX12_223 rfl (KH) ⟨_, (by assumption), _, _, rfl⟩ rfl rfl (by decide) (by decide) (by decide) (Nat.le_of_ble_eq_true rfl) ?_
          refine aw_if_eq (tgt := 41) dX12_drop_34 rfl (by omega) (fun c34 => ?_) (fun c34 => ?_)
          · exact absurd c34 (by omega)
          · refine aw_iconst dX12_drop_37 ?_
            refine aw_goto (tgt := 42) dX12_drop_38 rfl ?_
            refine aw_istore_n (ls1 := [(2, _), (0, _), (1, _)]) dX12_drop_42 (by decide) rfl ?_
            refine aw_aload_n dX12_drop_43 rfl ?_
            refine aw_getr' (j := 0) dX12_drop_44 fX12_7 rfl (by assumption) rfl (by assumption) ?_
            refine aw_bipush dX12_drop_47 rfl ?_
            refine aw_iload_n dX12_drop_49 rfl ?_
            refine aw_iadd dX12_drop_50 ?_
            refine aw_iconst dX12_drop_51 ?_
            refine aw_iast dX12_drop_52 (by assumption) (by omega) (by first | decide | omega) ?_
            refine aw_iload_n dX12_drop_53 rfl ?_
            exact aw_ireturn dX12_drop_54 rfl (Or.inl rfl) ⟨rfl, fin H1 E1 m1⟩
        · exact absurd c20 (by omega)
  · rw [if_pos c1]
    rw [if_neg c1] at KP
    refine Call.of (ls := [(0, vr (some a)), (1, vi p)]) vX12_drop.1 (Nat.le_of_ble_eq_true rfl) rfl ?_
    refine aw_aload_n dX12_drop_0 rfl ?_
    refine aw_iload_n dX12_drop_1 rfl ?_
    refine aw_invS_r dX12_drop_2 sX12_isPlace kX12_217 rfl (KP) rfl rfl (by decide) (by decide) (by decide) (Nat.le_of_ble_eq_true rfl) ?_
    refine aw_if_eq (tgt := 12) dX12_drop_5 rfl (by omega) (fun c5 => ?_) (fun c5 => ?_)
    · refine aw_iconst dX12_drop_12 ?_
      refine aw_puti' (j := 5) rfl dX12_drop_13 fX12_62 (by assumption) rfl ?_
      refine aw_aload_n dX12_drop_16 rfl ?_
      refine aw_geti' (j := 5) dX12_drop_17 fX12_62 rfl (by assumption) rfl (gi_at rfl rfl) ?_
      refine aw_if_eq (tgt := 25) dX12_drop_20 rfl (by omega) (fun c20 => ?_) (fun c20 => ?_)
      · exact absurd c20 (by omega)
      · refine aw_iconst dX12_drop_23 ?_
        exact aw_ireturn dX12_drop_24 rfl (Or.inl rfl) ⟨rfl, rM_err hF 1⟩
    · exact absurd c5 (by omega)
theorem l_und {γ : GG} {a n : Nat} {h : AH} {Q : AR → AH → Prop} (hM : shM h a) (hn : n ≤ 3) (h2 : gi h a 2 = (n : Int)) (kk : ∀ H, eqG (fun b _ => b = a + 1) h H → (∀ j : Int, 0 ≤ j → j < 1725 → gi H (a + 1) j = gi h (a + 2) (1725 * n + j)) → Q (.inl (some (vi (n : Int)))) H) : ∀ (m k : Nat) (H : AH), k + m = 1725 → eqG (fun b _ => b = a + 1) h H → (∀ j : Int, 0 ≤ j → j < k → gi H (a + 1) j = gi h (a + 2) (1725 * n + j)) → AW γ mX12_undo 0 0 0 37 [(1, vi (k : Int)), (0, vr (some a))] [] H Q := by
  intro m
  induction m with
  | zero =>
    intro k H hk hE hj
    obtain rfl : k = 1725 := by omega
    obtain ⟨hka, -, -⟩ := (hE.sh hM).q
    have g2 : gi H a 2 = (n : Int) := (hE.2.2.2.2 _ _ (by dsimp only; omega)).trans h2
    have K := kk H hE hj
    refine aw_iload_n dX12_undo_37 rfl ?_
    refine aw_sipush dX12_undo_38 rfl ?_
    refine aw_ic_ge (tgt := 71) dX12_undo_41 rfl (by omega) (by omega) (fun c41 => ?_) (fun c41 => ?_)
    · refine aw_aload_n dX12_undo_71 rfl ?_
      refine aw_geti' (j := 2) dX12_undo_72 fX12_66 rfl (by assumption) rfl g2 ?_
      exact aw_ireturn dX12_undo_75 rfl (Or.inl rfl) K
    · exact absurd c41 (by omega)
  | succ m ih =>
    intro k H hk hE hj
    have hM1 := hE.sh hM
    obtain ⟨hka, -, -⟩ := hM1.q
    obtain ⟨rm, km⟩ := hM1.m
    obtain ⟨rv, kv⟩ := hM1.v
    have g2 : gi H a 2 = (n : Int) := (hE.2.2.2.2 _ _ (by dsimp only; omega)).trans h2
    have gs : gi H (a + 2) (1725 * (n : Int) + (k : Int)) = gi h (a + 2) (1725 * (n : Int) + (k : Int)) := hE.2.2.2.2 _ _ (by dsimp only; omega)
    have I := ih (k + 1) (si H (a + 1) (k : Int) (gi h (a + 2) (1725 * (n : Int) + (k : Int)))) (by omega) (hE.tr (eqG.si rfl)) (fun j j1 j2 => by
      by_cases z : j = k
      · subst z; exact gi_at rfl rfl
      · exact (gi_ne (Or.inr (by omega))).trans (hj j j1 (by omega)))
    refine aw_iload_n dX12_undo_37 rfl ?_
    refine aw_sipush dX12_undo_38 rfl ?_
    refine aw_ic_ge (tgt := 71) dX12_undo_41 rfl (by omega) (by omega) (fun c41 => ?_) (fun c41 => ?_)
    · exact absurd c41 (by omega)
    · refine aw_aload_n dX12_undo_44 rfl ?_
      refine aw_getr' (j := 0) dX12_undo_45 fX12_7 rfl (by assumption) rfl (by assumption) ?_
      refine aw_iload_n dX12_undo_48 rfl ?_
      refine aw_aload_n dX12_undo_49 rfl ?_
      refine aw_getr' (j := 1) dX12_undo_50 fX12_13 rfl (by assumption) rfl (by assumption) ?_
      refine aw_sipush dX12_undo_53 rfl ?_
      refine aw_aload_n dX12_undo_56 rfl ?_
      refine aw_geti' (j := 2) dX12_undo_57 fX12_66 rfl (by assumption) rfl g2 ?_
      refine aw_imul dX12_undo_60 ?_
      refine aw_iload_n dX12_undo_61 rfl ?_
      refine aw_iadd dX12_undo_62 ?_
      refine aw_iald' dX12_undo_63 (by assumption) (by omega) (by first | decide | omega) gs ?_
      refine aw_iast dX12_undo_64 (by assumption) (by omega) (by first | decide | omega) ?_
      refine aw_iinc (k9 := 0) (ls1 := [(1, _), (0, _)]) dX12_undo_65 rfl (by decide) rfl ?_
      refine aw_goto (tgt := 37) dX12_undo_68 rfl ?_
      refine aw_sub [0, 1] rfl ?_
      exact I
theorem m_undo {γ : GG} {h : AH} {a : Nat} {F : FS} (hF : isF h a F) : Call γ mX12_undo 0 0 0 [vr (some a)] h (rM h a (opUnd F)) := by
  obtain ⟨S, U, tx⟩ := F
  obtain ⟨T, qs⟩ := S
  have hm : isMd h a (T, qs) U tx := hF
  have oT : okTr T := hm.2.2.1.1
  have o9 := oT.o
  have n40 := o9.2.1
  have n1 := o9.1
  obtain ⟨hka, -, -⟩ := hm.1.q
  obtain ⟨rm, km⟩ := hm.1.m
  have g0 : gi h (a + 1) 0 = (tn T : Int) := hm.2.1.1.1
  have m5 : isMd (si h a 5 0) a (T, qs) U tx := hm.eqk (E5 (v := 0))
  have g2 : gi h a 2 = (U.length : Int) := hm.2.2.2.1
  have l4 : U.length ≤ 4 := hm.2.2.2.2.1
  unfold opUnd
  dsimp only
  rcases List.eq_nil_or_concat U with e | ⟨U', S, e⟩
  · subst e
    have g2 : gi h a 2 = 0 := g2
    refine Call.of (ls := [(0, vr (some a))]) vX12_undo.1 (Nat.le_of_ble_eq_true rfl) rfl ?_
    refine aw_aload_n dX12_undo_0 rfl ?_
    refine aw_aload_n dX12_undo_1 rfl ?_
    refine aw_geti' (j := 2) dX12_undo_2 fX12_66 rfl (by assumption) rfl g2 ?_
    refine aw_if_ne (tgt := 12) dX12_undo_5 rfl (by omega) (fun c5 => ?_) (fun c5 => ?_)
    · exact absurd c5 (by omega)
    · refine aw_iconst dX12_undo_8 ?_
      refine aw_goto (tgt := 13) dX12_undo_9 rfl ?_
      refine aw_puti' (j := 5) rfl dX12_undo_13 fX12_62 (by assumption) rfl ?_
      refine aw_aload_n dX12_undo_16 rfl ?_
      refine aw_geti' (j := 5) dX12_undo_17 fX12_62 rfl (by assumption) rfl (gi_at rfl rfl) ?_
      refine aw_if_eq (tgt := 25) dX12_undo_20 rfl (by omega) (fun c20 => ?_) (fun c20 => ?_)
      · exact absurd c20 (by omega)
      · refine aw_iconst dX12_undo_23 ?_
        exact aw_ireturn dX12_undo_24 rfl (Or.inl rfl) ⟨rfl, rM_err hF 1⟩
  · rw [List.concat_eq_append] at e
    subst e
    rw [List.getLast?_append, List.getLast?_singleton, Option.some_or, List.dropLast_concat]
    dsimp only
    rw [List.length_append, List.length_singleton] at g2 l4
    have hS : okSt S := hm.2.2.2.2.2.1 S (by simp)
    have gU : gSt (gi h (a + 2)) (1725 * (U'.length : Nat)) S := hm.2.2.2.2.2.2.1 U'.length S (by simp)
    have EU : eqG (fun b j => b = a ∧ (j = 2 ∨ j = 5)) h (si (si h a 5 0) a 2 (U'.length : Int)) := (eqG.si ⟨rfl, Or.inr rfl⟩).tr (eqG.si ⟨rfl, Or.inl rfl⟩)
    have g25 : gi (si h a 5 0) a 2 = ((U'.length + 1 : Nat) : Int) := (gi_ne (Or.inr (by decide))).trans g2
    have L := l_und (γ := γ) (n := U'.length) (h := si (si h a 5 0) a 2 (U'.length : Int)) (Q := rM h a (0, (U'.length : Int), (S, U', tx))) (EU.sh hm.1) (by omega) (gi_at rfl rfl) (fun H E1 hj => by
      have E2 : eqG (fun b j => b = a + 1 ∨ (b = a ∧ (j = 2 ∨ j = 5))) h H := (EU.mono (fun b j z => Or.inr z)).tr (E1.mono (fun b j z => Or.inl z))
      have e2 : gi H (a + 2) = gi h (a + 2) := by funext j; exact E2.2.2.2.2 _ _ (by dsimp only; omega)
      refine ⟨rfl, ⟨E2.sh hm.1, ?_, hS, (E1.2.2.2.2 _ _ (by dsimp only; omega)).trans (gi_at rfl rfl), by show U'.length ≤ 4; omega, fun S' hS' => hm.2.2.2.2.2.1 S' (List.mem_append_left _ hS'), fun i S' hi => ?_, (E2.2.2.2.2 _ _ (by dsimp only; omega)).trans hm.2.2.2.2.2.2.2.1, hm.2.2.2.2.2.2.2.2.1, hm.2.2.2.2.2.2.2.2.2.1, fun k c hc => (E2.2.2.2.2 _ _ (by dsimp only; omega)).trans (hm.2.2.2.2.2.2.2.2.2.2 k c hc)⟩, (E1.2.2.2.2 _ _ (by dsimp only; omega)).trans ((gi_ne (Or.inr (by decide))).trans (gi_at rfl rfl)), E2.mono (fun b j z => by unfold SA; omega)⟩
      · refine gSt_eq hS gU (fun j j1 j2 => ?_)
        rw [Int.zero_add]
        exact (hj j j1 j2).trans ((gi_ne (Or.inl (by omega))).trans (gi_ne (Or.inl (by omega))))
      · rw [e2]
        exact hm.2.2.2.2.2.2.1 i S' (by rw [List.getElem?_append_left (lt_of_get hi)]; exact hi)) 1725 0 _ (by omega) eqG.rf (fun j j1 j2 => absurd j2 (by omega))
    refine Call.of (ls := [(0, vr (some a))]) vX12_undo.1 (Nat.le_of_ble_eq_true rfl) rfl ?_
    refine aw_aload_n dX12_undo_0 rfl ?_
    refine aw_aload_n dX12_undo_1 rfl ?_
    refine aw_geti' (j := 2) dX12_undo_2 fX12_66 rfl (by assumption) rfl g2 ?_
    refine aw_if_ne (tgt := 12) dX12_undo_5 rfl (by omega) (fun c5 => ?_) (fun c5 => ?_)
    · refine aw_iconst dX12_undo_12 ?_
      refine aw_puti' (j := 5) rfl dX12_undo_13 fX12_62 (by assumption) rfl ?_
      refine aw_aload_n dX12_undo_16 rfl ?_
      refine aw_geti' (j := 5) dX12_undo_17 fX12_62 rfl (by assumption) rfl (gi_at rfl rfl) ?_
      refine aw_if_eq (tgt := 25) dX12_undo_20 rfl (by omega) (fun c20 => ?_) (fun c20 => ?_)
      · refine aw_aload_n dX12_undo_25 rfl ?_
        refine aw_dup dX12_undo_26 rfl ?_
        refine aw_geti' (j := 2) dX12_undo_27 fX12_66 rfl (by assumption) rfl g25 ?_
        refine aw_iconst dX12_undo_30 ?_
        refine aw_isub dX12_undo_31 ?_
        rw [show ((U'.length + 1 : Nat) : Int) - 1 = (U'.length : Int) by omega]
        refine aw_puti' (j := 2) rfl dX12_undo_32 fX12_66 (by assumption) rfl ?_
        refine aw_iconst dX12_undo_35 ?_
        refine aw_istore_n (ls1 := [(1, _), (0, _)]) dX12_undo_36 (by decide) rfl ?_
        refine aw_sub [0, 1] rfl ?_
        exact L
      · exact absurd c20 (by omega)
    · exact absurd c5 (by omega)
