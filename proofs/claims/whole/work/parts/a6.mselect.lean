/-! ===== the model: select, its count and sum ===== -/
theorem seJ_up {T : Tr} {q : TQ} {t : TT} {v p : Nat} (h1 : 1 ≤ tn T) (hv : v < tn T) (hp : q[p]? = some t) {k : Nat} (hk : tn T ≤ k) : seJ T q v (p + 1) k = seJ T q v p k := by
  rw [seJ_s hp]
  cases z : seP T t v k with
  | false => simp
  | true => have := seP_lt h1 hv k z; omega
theorem i_se44 {γ : GG} {a v : Nat} {q : TQ} {T : Tr} {h : AH} {p : Nat} {t : TT} {Q : AR → AH → Prop} (hM : shM h a) (hT : gTr (gi h (a + 1)) 0 T) (ho : okTr T) (hv : v < tn T) (hp : q[p]? = some t) (kk : ∀ H, eqG (SSe a) h H → isBo H (a + 15) (seJ T q v (p + 1)) 40 → AW γ mX12_select 11 0 0 89 [(2, vi (p : Int)), (0, vr (some a)), (1, vi (v : Int))] [] H Q) : ∀ (m k : Nat) (H : AH), k + m = tn T → eqG (SSe a) h H → isBo H (a + 13) (seP T t v) (tn T) → (∀ j : Nat, j < 40 → gi H (a + 15) j = bI (if j < k then seJ T q v (p + 1) j else seJ T q v p j)) → AW γ mX12_select 11 0 0 44 [(3, vi (k : Int)), (2, vi (p : Int)), (0, vr (some a)), (1, vi (v : Int))] [] H Q := by
  have n40 := ho.o.2.1
  intro m
  induction m with
  | zero =>
    intro k H hk hE hF hB
    obtain rfl : k = tn T := by omega
    have bT : bI true = 1 := rfl
    have bF : bI false = 0 := rfl
    have hM1 := hE.sh hM
    have hT1 := tr_k hT hE SSe_1
    have eq7 := q_k hE SSe_7
    obtain ⟨hka, rq, kq⟩ := hM1.q
    obtain ⟨rm, km⟩ := hM1.m
    obtain ⟨ra9, ka9⟩ := hM1.a9
    obtain ⟨rb9, kb9⟩ := hM1.b9
    obtain ⟨ri9, ki9⟩ := hM1.i9
    obtain ⟨rn9, kn9⟩ := hM1.n9
    have g0 : gi H (a + 1) 0 = (tn T : Int) := hT1.1
    have K := kk H hE (fun j hj => by
      rw [hB j hj]
      by_cases z : j < tn T
      · rw [if_pos z]
      · rw [if_neg z, seJ_up ho.o.1 hv hp (by omega)])
    refine aw_iload_n dX12_select_44 rfl ?_
    refine aw_aload_n dX12_select_45 rfl ?_
    refine aw_getr' (j := 0) dX12_select_46 fX12_7 rfl (by assumption) rfl (by assumption) ?_
    refine aw_iconst dX12_select_49 ?_
    refine aw_iald' dX12_select_50 (by assumption) (by omega) (by first | decide | omega) g0 ?_
    refine aw_ic_ge (tgt := 89) dX12_select_51 rfl (by omega) (by omega) (fun c51 => ?_) (fun c51 => ?_)
    · refine aw_sub [1, 2, 3] rfl ?_
      exact K
    · exact absurd c51 (by omega)
  | succ m ih =>
    intro k H hk hE hF hB
    have hkn : k < tn T := by omega
    have bT : bI true = 1 := rfl
    have bF : bI false = 0 := rfl
    have hM1 := hE.sh hM
    have hT1 := tr_k hT hE SSe_1
    have eq7 := q_k hE SSe_7
    obtain ⟨hka, rq, kq⟩ := hM1.q
    obtain ⟨rm, km⟩ := hM1.m
    obtain ⟨ra9, ka9⟩ := hM1.a9
    obtain ⟨rb9, kb9⟩ := hM1.b9
    obtain ⟨ri9, ki9⟩ := hM1.i9
    obtain ⟨rn9, kn9⟩ := hM1.n9
    have g0 : gi H (a + 1) 0 = (tn T : Int) := hT1.1
    have gf := hF k hkn
    have gb := hB k (by omega)
    rw [if_neg (by omega)] at gb
    have I := ih (k + 1) (si H (a + 15) (k : Int) (bI (seJ T q v (p + 1) k))) (by omega) (hE.tr (eqG.si (Or.inr rfl))) (fun j hj => (gi_ne (Or.inl (by omega))).trans (hF j hj)) (fun j hj => by
      by_cases z : j = k
      · subst z; rw [if_pos (by omega)]; exact gi_at rfl rfl
      · refine (gi_ne (Or.inr (by omega))).trans ((hB j hj).trans ?_)
        by_cases z2 : j < k
        · rw [if_pos z2, if_pos (by omega)]
        · rw [if_neg z2, if_neg (by omega)])
    rw [seJ_s hp] at I
    cases q1 : seJ T q v p k with
    | true =>
      rw [q1] at I gb
      refine aw_iload_n dX12_select_44 rfl ?_
      refine aw_aload_n dX12_select_45 rfl ?_
      refine aw_getr' (j := 0) dX12_select_46 fX12_7 rfl (by assumption) rfl (by assumption) ?_
      refine aw_iconst dX12_select_49 ?_
      refine aw_iald' dX12_select_50 (by assumption) (by omega) (by first | decide | omega) g0 ?_
      refine aw_ic_ge (tgt := 89) dX12_select_51 rfl (by omega) (by omega) (fun c51 => ?_) (fun c51 => ?_)
      · exact absurd c51 (by omega)
      · refine aw_aload_n dX12_select_54 rfl ?_
        refine aw_getr' (j := 22) dX12_select_55 fX12_53 rfl (by assumption) rfl (by assumption) ?_
        refine aw_iload_n dX12_select_58 rfl ?_
        refine aw_aload_n dX12_select_59 rfl ?_
        refine aw_getr' (j := 22) dX12_select_60 fX12_53 rfl (by assumption) rfl (by assumption) ?_
        refine aw_iload_n dX12_select_63 rfl ?_
        refine aw_zald' dX12_select_64 (by assumption) (by omega) (by first | decide | omega) gb ?_
        refine aw_if_ne (tgt := 77) dX12_select_65 rfl (by omega) (fun c65 => ?_) (fun c65 => ?_)
        · refine aw_iconst dX12_select_77 ?_
          refine aw_goto (tgt := 82) dX12_select_78 rfl ?_
          refine aw_zast dX12_select_82 (by assumption) (by omega) (by first | decide | omega) (Or.inr rfl) ?_
          refine aw_iinc (k9 := 0) (ls1 := [(3, _), (2, _), (0, _), (1, _)]) dX12_select_83 rfl (by decide) rfl ?_
          refine aw_goto (tgt := 44) dX12_select_86 rfl ?_
          refine aw_sub [0, 1, 2, 3] rfl ?_
          exact I
        · exact absurd c65 (by omega)
    | false =>
      rw [q1] at I gb
      cases q2 : seP T t v k with
      | true =>
        rw [q2] at I gf
        refine aw_iload_n dX12_select_44 rfl ?_
        refine aw_aload_n dX12_select_45 rfl ?_
        refine aw_getr' (j := 0) dX12_select_46 fX12_7 rfl (by assumption) rfl (by assumption) ?_
        refine aw_iconst dX12_select_49 ?_
        refine aw_iald' dX12_select_50 (by assumption) (by omega) (by first | decide | omega) g0 ?_
        refine aw_ic_ge (tgt := 89) dX12_select_51 rfl (by omega) (by omega) (fun c51 => ?_) (fun c51 => ?_)
        · exact absurd c51 (by omega)
        · refine aw_aload_n dX12_select_54 rfl ?_
          refine aw_getr' (j := 22) dX12_select_55 fX12_53 rfl (by assumption) rfl (by assumption) ?_
          refine aw_iload_n dX12_select_58 rfl ?_
          refine aw_aload_n dX12_select_59 rfl ?_
          refine aw_getr' (j := 22) dX12_select_60 fX12_53 rfl (by assumption) rfl (by assumption) ?_
          refine aw_iload_n dX12_select_63 rfl ?_
          refine aw_zald' dX12_select_64 (by assumption) (by omega) (by first | decide | omega) gb ?_
          refine aw_if_ne (tgt := 77) dX12_select_65 rfl (by omega) (fun c65 => ?_) (fun c65 => ?_)
          · exact absurd c65 (by omega)
          · refine aw_aload_n dX12_select_68 rfl ?_
            refine aw_getr' (j := 20) dX12_select_69 fX12_47 rfl (by assumption) rfl (by assumption) ?_
            refine aw_iload_n dX12_select_72 rfl ?_
            refine aw_zald' dX12_select_73 (by assumption) (by omega) (by first | decide | omega) gf ?_
            refine aw_if_eq (tgt := 81) dX12_select_74 rfl (by omega) (fun c74 => ?_) (fun c74 => ?_)
            · exact absurd c74 (by omega)
            · refine aw_iconst dX12_select_77 ?_
              refine aw_goto (tgt := 82) dX12_select_78 rfl ?_
              refine aw_zast dX12_select_82 (by assumption) (by omega) (by first | decide | omega) (Or.inr rfl) ?_
              refine aw_iinc (k9 := 0) (ls1 := [(3, _), (2, _), (0, _), (1, _)]) dX12_select_83 rfl (by decide) rfl ?_
              refine aw_goto (tgt := 44) dX12_select_86 rfl ?_
              refine aw_sub [0, 1, 2, 3] rfl ?_
              exact I
      | false =>
        rw [q2] at I gf
        refine aw_iload_n dX12_select_44 rfl ?_
        refine aw_aload_n dX12_select_45 rfl ?_
        refine aw_getr' (j := 0) dX12_select_46 fX12_7 rfl (by assumption) rfl (by assumption) ?_
        refine aw_iconst dX12_select_49 ?_
        refine aw_iald' dX12_select_50 (by assumption) (by omega) (by first | decide | omega) g0 ?_
        refine aw_ic_ge (tgt := 89) dX12_select_51 rfl (by omega) (by omega) (fun c51 => ?_) (fun c51 => ?_)
        · exact absurd c51 (by omega)
        · refine aw_aload_n dX12_select_54 rfl ?_
          refine aw_getr' (j := 22) dX12_select_55 fX12_53 rfl (by assumption) rfl (by assumption) ?_
          refine aw_iload_n dX12_select_58 rfl ?_
          refine aw_aload_n dX12_select_59 rfl ?_
          refine aw_getr' (j := 22) dX12_select_60 fX12_53 rfl (by assumption) rfl (by assumption) ?_
          refine aw_iload_n dX12_select_63 rfl ?_
          refine aw_zald' dX12_select_64 (by assumption) (by omega) (by first | decide | omega) gb ?_
          refine aw_if_ne (tgt := 77) dX12_select_65 rfl (by omega) (fun c65 => ?_) (fun c65 => ?_)
          · exact absurd c65 (by omega)
          · refine aw_aload_n dX12_select_68 rfl ?_
            refine aw_getr' (j := 20) dX12_select_69 fX12_47 rfl (by assumption) rfl (by assumption) ?_
            refine aw_iload_n dX12_select_72 rfl ?_
            refine aw_zald' dX12_select_73 (by assumption) (by omega) (by first | decide | omega) gf ?_
            refine aw_if_eq (tgt := 81) dX12_select_74 rfl (by omega) (fun c74 => ?_) (fun c74 => ?_)
            · refine aw_iconst dX12_select_81 ?_
              refine aw_zast dX12_select_82 (by assumption) (by omega) (by first | decide | omega) (Or.inl rfl) ?_
              refine aw_iinc (k9 := 0) (ls1 := [(3, _), (2, _), (0, _), (1, _)]) dX12_select_83 rfl (by decide) rfl ?_
              refine aw_goto (tgt := 44) dX12_select_86 rfl ?_
              refine aw_sub [0, 1, 2, 3] rfl ?_
              exact I
            · exact absurd c74 (by omega)
theorem l_se23 {γ : GG} {a v : Nat} {q : TQ} {T : Tr} {h : AH} (hM : shM h a) (hT : gTr (gi h (a + 1)) 0 T) (ho : okTr T) (hv : v < tn T) (hq : okQ q) (hg : gQ (gi h (a + 7)) q) : ∀ (m p : Nat) (H : AH), p + m = q.length → eqG (SSe a) h H → isBo H (a + 15) (seJ T q v p) 40 → AW γ mX12_select 11 0 0 23 [(2, vi (p : Int)), (0, vr (some a)), (1, vi (v : Int))] [] H (rF (fun h' => isBo h' (a + 15) (seJ T q v q.length) 40 ∧ eqG (SSe a) h h')) := by
  have n40 := ho.o.2.1
  have l4 := hq.1
  intro m
  induction m with
  | zero =>
    intro p H hp hE hB
    obtain rfl : p = q.length := by omega
    have bT : bI true = 1 := rfl
    have bF : bI false = 0 := rfl
    have hM1 := hE.sh hM
    have hT1 := tr_k hT hE SSe_1
    have eq7 := q_k hE SSe_7
    obtain ⟨hka, rq, kq⟩ := hM1.q
    obtain ⟨rm, km⟩ := hM1.m
    obtain ⟨ra9, ka9⟩ := hM1.a9
    obtain ⟨rb9, kb9⟩ := hM1.b9
    obtain ⟨ri9, ki9⟩ := hM1.i9
    obtain ⟨rn9, kn9⟩ := hM1.n9
    have g0 : gi H (a + 1) 0 = (tn T : Int) := hT1.1
    have gq : gi H (a + 7) 0 = q.length := by rw [eq7]; exact hg.1
    refine aw_iload_n dX12_select_23 rfl ?_
    refine aw_aload_n dX12_select_24 rfl ?_
    refine aw_getr' (j := 12) dX12_select_25 fX12_28 rfl (by assumption) rfl (by assumption) ?_
    refine aw_iconst dX12_select_28 ?_
    refine aw_iald' dX12_select_29 (by assumption) (by omega) (by first | decide | omega) gq ?_
    refine aw_ic_ge (tgt := 95) dX12_select_30 rfl (by omega) (by omega) (fun c30 => ?_) (fun c30 => ?_)
    · exact aw_return dX12_select_95 rfl (Or.inl rfl) ⟨rfl, hB, hE⟩
    · exact absurd c30 (by omega)
  | succ m ih =>
    intro p H hp hE hB
    have bT : bI true = 1 := rfl
    have bF : bI false = 0 := rfl
    have hM1 := hE.sh hM
    have hT1 := tr_k hT hE SSe_1
    have eq7 := q_k hE SSe_7
    obtain ⟨hka, rq, kq⟩ := hM1.q
    obtain ⟨rm, km⟩ := hM1.m
    obtain ⟨ra9, ka9⟩ := hM1.a9
    obtain ⟨rb9, kb9⟩ := hM1.b9
    obtain ⟨ri9, ki9⟩ := hM1.i9
    obtain ⟨rn9, kn9⟩ := hM1.n9
    have g0 : gi H (a + 1) 0 = (tn T : Int) := hT1.1
    have gq : gi H (a + 7) 0 = q.length := by rw [eq7]; exact hg.1
    obtain ⟨t, ht⟩ : ∃ t, q[p]? = some t := ⟨_, List.getElem?_eq_getElem (by omega)⟩
    have ot := hq.2 t (List.mem_of_getElem? ht)
    have KP := m_pathAt (γ := γ) (h := H) (k := (p : Int))
    have KS := m_selectPath (γ := γ) (v := v) (b := 1 + 1634 * (p : Int)) (t := t) hM1 hT1 ho hv (by omega) ot (by rw [eq7]; exact hg.2 p t ht)
    have J := fun H1 (F1 : isBo H1 (a + 13) (seP T t v) (tn T)) (E1 : eqG (SPt a) H H1) => i_se44 (γ := γ) (Q := (rF (fun h' => isBo h' (a + 15) (seJ T q v q.length) 40 ∧ eqG (SSe a) h h'))) hM hT ho hv ht (fun H2 E2 B2 => by
      have I := ih (p + 1) H2 (by omega) E2 B2
      refine aw_iinc (k9 := 0) (ls1 := [(2, _), (0, _), (1, _)]) dX12_select_89 rfl (by decide) rfl ?_
      refine aw_goto (tgt := 23) dX12_select_92 rfl ?_
      refine aw_sub [0, 1, 2] rfl ?_
      exact I) (tn T) 0 H1 (Nat.zero_add _) (hE.tr (E1.mono (fun b j z => Or.inl z))) F1 (fun j hj => by
      rw [if_neg (by omega)]
      exact (E1.2.2.2.2 _ _ (by unfold SPt SGv SXt SI; omega)).trans (hB j hj))
    refine aw_iload_n dX12_select_23 rfl ?_
    refine aw_aload_n dX12_select_24 rfl ?_
    refine aw_getr' (j := 12) dX12_select_25 fX12_28 rfl (by assumption) rfl (by assumption) ?_
    refine aw_iconst dX12_select_28 ?_
    refine aw_iald' dX12_select_29 (by assumption) (by omega) (by first | decide | omega) gq ?_
    refine aw_ic_ge (tgt := 95) dX12_select_30 rfl (by omega) (by omega) (fun c30 => ?_) (fun c30 => ?_)
    · exact absurd c30 (by omega)
    · refine aw_aload_n dX12_select_33 rfl ?_
      refine aw_iload_n dX12_select_34 rfl ?_
      refine aw_invS_r dX12_select_35 sX12_pathAt kX12_180 rfl (KP) rfl rfl (by decide) (by decide) (by decide) (Nat.le_of_ble_eq_true rfl) ?_
      refine aw_iload_n dX12_select_38 rfl ?_
      refine aw_invV_f dX12_select_39 vX12_selectPath kX12_263 rfl (KS) ⟨_, (by assumption), _, _, rfl⟩ rfl rfl (by decide) (by decide) (by decide) (Nat.le_of_ble_eq_true rfl) (fun H1 hP9 => ?_)
      obtain ⟨F1, E1⟩ := hP9
      refine aw_iconst dX12_select_42 ?_
      refine aw_istore_n (ls1 := [(3, _), (2, _), (0, _), (1, _)]) dX12_select_43 (by decide) rfl ?_
      refine aw_sub [0, 1, 2, 3] rfl ?_
      exact J H1 F1 E1
theorem l_se2 {γ : GG} {a v : Nat} {q : TQ} {T : Tr} {h : AH} (hM : shM h a) (hT : gTr (gi h (a + 1)) 0 T) (ho : okTr T) (hv : v < tn T) (hq : okQ q) (hg : gQ (gi h (a + 7)) q) : ∀ (m k : Nat) (H : AH), k + m = 40 → eqG (SSe a) h H → isBo H (a + 15) (fun _ => false) k → AW γ mX12_select 11 0 0 2 [(2, vi (k : Int)), (0, vr (some a)), (1, vi (v : Int))] [] H (rF (fun h' => isBo h' (a + 15) (seJ T q v q.length) 40 ∧ eqG (SSe a) h h')) := by
  have n40 := ho.o.2.1
  intro m
  induction m with
  | zero =>
    intro k H hk hE hB
    obtain rfl : k = 40 := by omega
    have bT : bI true = 1 := rfl
    have bF : bI false = 0 := rfl
    have hM1 := hE.sh hM
    have hT1 := tr_k hT hE SSe_1
    have eq7 := q_k hE SSe_7
    obtain ⟨hka, rq, kq⟩ := hM1.q
    obtain ⟨rm, km⟩ := hM1.m
    obtain ⟨ra9, ka9⟩ := hM1.a9
    obtain ⟨rb9, kb9⟩ := hM1.b9
    obtain ⟨ri9, ki9⟩ := hM1.i9
    obtain ⟨rn9, kn9⟩ := hM1.n9
    have g0 : gi H (a + 1) 0 = (tn T : Int) := hT1.1
    have L := l_se23 (γ := γ) hM hT ho hv hq hg q.length 0 H (Nat.zero_add _) hE (hB.cong (fun u _ => rfl))
    refine aw_iload_n dX12_select_2 rfl ?_
    refine aw_bipush dX12_select_3 rfl ?_
    refine aw_ic_ge (tgt := 21) dX12_select_5 rfl (by omega) (by omega) (fun c5 => ?_) (fun c5 => ?_)
    · refine aw_iconst dX12_select_21 ?_
      refine aw_istore_n (ls1 := [(2, _), (0, _), (1, _)]) dX12_select_22 (by decide) rfl ?_
      refine aw_sub [0, 1, 2] rfl ?_
      exact L
    · exact absurd c5 (by omega)
  | succ m ih =>
    intro k H hk hE hB
    have bT : bI true = 1 := rfl
    have bF : bI false = 0 := rfl
    have hM1 := hE.sh hM
    have hT1 := tr_k hT hE SSe_1
    have eq7 := q_k hE SSe_7
    obtain ⟨hka, rq, kq⟩ := hM1.q
    obtain ⟨rm, km⟩ := hM1.m
    obtain ⟨ra9, ka9⟩ := hM1.a9
    obtain ⟨rb9, kb9⟩ := hM1.b9
    obtain ⟨ri9, ki9⟩ := hM1.i9
    obtain ⟨rn9, kn9⟩ := hM1.n9
    have g0 : gi H (a + 1) 0 = (tn T : Int) := hT1.1
    have I := ih (k + 1) (si H (a + 15) (k : Int) 0) (by omega) (hE.tr (eqG.si (Or.inr rfl))) (fun j hj => by
      by_cases z : j = k
      · subst z; exact gi_at rfl rfl
      · exact (gi_ne (Or.inr (by omega))).trans (hB j (by omega)))
    refine aw_iload_n dX12_select_2 rfl ?_
    refine aw_bipush dX12_select_3 rfl ?_
    refine aw_ic_ge (tgt := 21) dX12_select_5 rfl (by omega) (by omega) (fun c5 => ?_) (fun c5 => ?_)
    · exact absurd c5 (by omega)
    · refine aw_aload_n dX12_select_8 rfl ?_
      refine aw_getr' (j := 22) dX12_select_9 fX12_53 rfl (by assumption) rfl (by assumption) ?_
      refine aw_iload_n dX12_select_12 rfl ?_
      refine aw_iconst dX12_select_13 ?_
      refine aw_zast dX12_select_14 (by assumption) (by omega) (by first | decide | omega) (Or.inl rfl) ?_
      refine aw_iinc (k9 := 0) (ls1 := [(2, _), (0, _), (1, _)]) dX12_select_15 rfl (by decide) rfl ?_
      refine aw_goto (tgt := 2) dX12_select_18 rfl ?_
      refine aw_sub [0, 1, 2] rfl ?_
      exact I
theorem m_select {γ : GG} {h : AH} {a v : Nat} {q : TQ} {T : Tr} (hM : shM h a) (hT : gTr (gi h (a + 1)) 0 T) (ho : okTr T) (hv : v < tn T) (hq : okQ q) (hg : gQ (gi h (a + 7)) q) : Call γ mX12_select 11 0 0 [vr (some a), vi (v : Int)] h (rF (fun h' => isBo h' (a + 15) (seJ T q v q.length) 40 ∧ eqG (SSe a) h h')) := by
  have L := l_se2 (γ := γ) hM hT ho hv hq hg 40 0 h (Nat.zero_add _) eqG.rf (fun j hj => absurd hj (by omega))
  refine Call.of (ls := [(0, vr (some a)), (1, vi (v : Int))]) vX12_select.1 (Nat.le_of_ble_eq_true rfl) rfl ?_
  refine aw_iconst dX12_select_0 ?_
  refine aw_istore_n (ls1 := [(2, _), (0, _), (1, _)]) dX12_select_1 (by decide) rfl ?_
  refine aw_sub [0, 1, 2] rfl ?_
  exact L
theorem l_sct9 {γ : GG} {h : AH} {a : Nat} {T : Tr} {f : Nat → Bool} (hM : shM h a) (hT : gTr (gi h (a + 1)) 0 T) (ho : okTr T) (hB : isBo h (a + 15) f (tn T)) : ∀ (m k : Nat), k + m = tn T → AW γ mX12_selectedCount 0 0 0 4 [(2, vi (k : Int)), (1, vi ((fb_ct f k : Nat) : Int)), (0, vr (some a))] [] h (rV (vi ((fb_ct f (tn T) : Nat) : Int)) h) := by
  have n40 := ho.o.2.1
  intro m
  induction m with
  | zero =>
    intro k hk
    obtain rfl : k = tn T := by omega
    have bT : bI true = 1 := rfl
    have bF : bI false = 0 := rfl
    obtain ⟨hka, rq, kq⟩ := hM.q
    obtain ⟨rm, km⟩ := hM.m
    obtain ⟨ri9, ki9⟩ := hM.i9
    have g0 : gi h (a + 1) 0 = (tn T : Int) := hT.1
    refine aw_iload_n dX12_selectedCount_4 rfl ?_
    refine aw_aload_n dX12_selectedCount_5 rfl ?_
    refine aw_getr' (j := 0) dX12_selectedCount_6 fX12_7 rfl (by assumption) rfl (by assumption) ?_
    refine aw_iconst dX12_selectedCount_9 ?_
    refine aw_iald' dX12_selectedCount_10 (by assumption) (by omega) (by first | decide | omega) g0 ?_
    refine aw_ic_ge (tgt := 37) dX12_selectedCount_11 rfl (by omega) (by omega) (fun c11 => ?_) (fun c11 => ?_)
    · refine aw_iload_n dX12_selectedCount_37 rfl ?_
      exact aw_ireturn dX12_selectedCount_38 rfl (Or.inl rfl) ⟨rfl, rfl⟩
    · exact absurd c11 (by omega)
  | succ m ih =>
    intro k hk
    have bT : bI true = 1 := rfl
    have bF : bI false = 0 := rfl
    obtain ⟨hka, rq, kq⟩ := hM.q
    obtain ⟨rm, km⟩ := hM.m
    obtain ⟨ri9, ki9⟩ := hM.i9
    have g0 : gi h (a + 1) 0 = (tn T : Int) := hT.1
    have gb := hB k (by omega)
    have I := ih (k + 1) (by omega)
    rw [fb_ct_succ] at I
    cases q : f k with
    | true =>
      rw [q] at gb I
      refine aw_iload_n dX12_selectedCount_4 rfl ?_
      refine aw_aload_n dX12_selectedCount_5 rfl ?_
      refine aw_getr' (j := 0) dX12_selectedCount_6 fX12_7 rfl (by assumption) rfl (by assumption) ?_
      refine aw_iconst dX12_selectedCount_9 ?_
      refine aw_iald' dX12_selectedCount_10 (by assumption) (by omega) (by first | decide | omega) g0 ?_
      refine aw_ic_ge (tgt := 37) dX12_selectedCount_11 rfl (by omega) (by omega) (fun c11 => ?_) (fun c11 => ?_)
      · exact absurd c11 (by omega)
      · refine aw_iload_n dX12_selectedCount_14 rfl ?_
        refine aw_aload_n dX12_selectedCount_15 rfl ?_
        refine aw_getr' (j := 22) dX12_selectedCount_16 fX12_53 rfl (by assumption) rfl (by assumption) ?_
        refine aw_iload_n dX12_selectedCount_19 rfl ?_
        refine aw_zald' dX12_selectedCount_20 (by assumption) (by omega) (by first | decide | omega) gb ?_
        refine aw_if_eq (tgt := 28) dX12_selectedCount_21 rfl (by omega) (fun c21 => ?_) (fun c21 => ?_)
        · exact absurd c21 (by omega)
        · refine aw_iconst dX12_selectedCount_24 ?_
          refine aw_goto (tgt := 29) dX12_selectedCount_25 rfl ?_
          refine aw_iadd dX12_selectedCount_29 ?_
          refine aw_istore_n (ls1 := [(1, _), (2, _), (0, _)]) dX12_selectedCount_30 (by decide) rfl ?_
          refine aw_iinc (k9 := 1) (ls1 := [(2, _), (1, _), (0, _)]) dX12_selectedCount_31 rfl (by decide) rfl ?_
          refine aw_goto (tgt := 4) dX12_selectedCount_34 rfl ?_
          refine aw_sub [0, 1, 2] rfl ?_
          exact I
    | false =>
      rw [q] at gb I
      refine aw_iload_n dX12_selectedCount_4 rfl ?_
      refine aw_aload_n dX12_selectedCount_5 rfl ?_
      refine aw_getr' (j := 0) dX12_selectedCount_6 fX12_7 rfl (by assumption) rfl (by assumption) ?_
      refine aw_iconst dX12_selectedCount_9 ?_
      refine aw_iald' dX12_selectedCount_10 (by assumption) (by omega) (by first | decide | omega) g0 ?_
      refine aw_ic_ge (tgt := 37) dX12_selectedCount_11 rfl (by omega) (by omega) (fun c11 => ?_) (fun c11 => ?_)
      · exact absurd c11 (by omega)
      · refine aw_iload_n dX12_selectedCount_14 rfl ?_
        refine aw_aload_n dX12_selectedCount_15 rfl ?_
        refine aw_getr' (j := 22) dX12_selectedCount_16 fX12_53 rfl (by assumption) rfl (by assumption) ?_
        refine aw_iload_n dX12_selectedCount_19 rfl ?_
        refine aw_zald' dX12_selectedCount_20 (by assumption) (by omega) (by first | decide | omega) gb ?_
        refine aw_if_eq (tgt := 28) dX12_selectedCount_21 rfl (by omega) (fun c21 => ?_) (fun c21 => ?_)
        · refine aw_iconst dX12_selectedCount_28 ?_
          refine aw_iadd dX12_selectedCount_29 ?_
          rw [Int.add_zero]
          refine aw_istore_n (ls1 := [(1, _), (2, _), (0, _)]) dX12_selectedCount_30 (by decide) rfl ?_
          refine aw_iinc (k9 := 1) (ls1 := [(2, _), (1, _), (0, _)]) dX12_selectedCount_31 rfl (by decide) rfl ?_
          refine aw_goto (tgt := 4) dX12_selectedCount_34 rfl ?_
          refine aw_sub [0, 1, 2] rfl ?_
          exact I
        · exact absurd c21 (by omega)
theorem m_selectedCount {γ : GG} {h : AH} {a : Nat} {T : Tr} {f : Nat → Bool} (hM : shM h a) (hT : gTr (gi h (a + 1)) 0 T) (ho : okTr T) (hB : isBo h (a + 15) f (tn T)) : Call γ mX12_selectedCount 0 0 0 [vr (some a)] h (rV (vi ((fb_ct f (tn T) : Nat) : Int)) h) := by
  have L := l_sct9 (γ := γ) hM hT ho hB (tn T) 0 (Nat.zero_add _)
  refine Call.of (ls := [(0, vr (some a))]) vX12_selectedCount.1 (Nat.le_of_ble_eq_true rfl) rfl ?_
  refine aw_iconst dX12_selectedCount_0 ?_
  refine aw_istore_n (ls1 := [(1, _), (0, _)]) dX12_selectedCount_1 (by decide) rfl ?_
  refine aw_iconst dX12_selectedCount_2 ?_
  refine aw_istore_n (ls1 := [(2, _), (1, _), (0, _)]) dX12_selectedCount_3 (by decide) rfl ?_
  refine aw_sub [0, 1, 2] rfl ?_
  exact L
theorem l_ssm {γ : GG} {h : AH} {a : Nat} {T : Tr} {f : Nat → Bool} (hM : shM h a) (hT : gTr (gi h (a + 1)) 0 T) (ho : okTr T) (hB : isBo h (a + 15) f (tn T)) : ∀ (m k : Nat), k + m = tn T → AW γ mX12_selectedSum 1 0 0 4 [(2, vi (k : Int)), (1, vi (sumT T f k)), (0, vr (some a))] [] h (rV (vi (sumT T f (tn T))) h) := by
  have n40 := ho.o.2.1
  intro m
  induction m with
  | zero =>
    intro k hk
    obtain rfl : k = tn T := by omega
    have bT : bI true = 1 := rfl
    have bF : bI false = 0 := rfl
    obtain ⟨hka, rq, kq⟩ := hM.q
    obtain ⟨rm, km⟩ := hM.m
    obtain ⟨ri9, ki9⟩ := hM.i9
    have g0 : gi h (a + 1) 0 = (tn T : Int) := hT.1
    refine aw_iload_n dX12_selectedSum_4 rfl ?_
    refine aw_aload_n dX12_selectedSum_5 rfl ?_
    refine aw_getr' (j := 0) dX12_selectedSum_6 fX12_7 rfl (by assumption) rfl (by assumption) ?_
    refine aw_iconst dX12_selectedSum_9 ?_
    refine aw_iald' dX12_selectedSum_10 (by assumption) (by omega) (by first | decide | omega) g0 ?_
    refine aw_ic_ge (tgt := 41) dX12_selectedSum_11 rfl (by omega) (by omega) (fun c11 => ?_) (fun c11 => ?_)
    · refine aw_iload_n dX12_selectedSum_41 rfl ?_
      exact aw_ireturn dX12_selectedSum_42 rfl (Or.inl rfl) ⟨rfl, rfl⟩
    · exact absurd c11 (by omega)
  | succ m ih =>
    intro k hk
    have bT : bI true = 1 := rfl
    have bF : bI false = 0 := rfl
    obtain ⟨hka, rq, kq⟩ := hM.q
    obtain ⟨rm, km⟩ := hM.m
    obtain ⟨ri9, ki9⟩ := hM.i9
    have g0 : gi h (a + 1) 0 = (tn T : Int) := hT.1
    have gb := hB k (by omega)
    have I := ih (k + 1) (by omega)
    have e : sumT T f (k + 1) = sumT T f k + (if f k = true then tvl T k else 0) := rfl
    rw [e] at I
    have KV := m_valueOf (γ := γ) (h := h) (n := (k : Int)) hM (by omega)
    rw [(gTr_c hT (show k < tn T by omega)).2.1] at KV
    cases q : f k with
    | true =>
      rw [q] at gb
      rw [if_pos q] at I
      refine aw_iload_n dX12_selectedSum_4 rfl ?_
      refine aw_aload_n dX12_selectedSum_5 rfl ?_
      refine aw_getr' (j := 0) dX12_selectedSum_6 fX12_7 rfl (by assumption) rfl (by assumption) ?_
      refine aw_iconst dX12_selectedSum_9 ?_
      refine aw_iald' dX12_selectedSum_10 (by assumption) (by omega) (by first | decide | omega) g0 ?_
      refine aw_ic_ge (tgt := 41) dX12_selectedSum_11 rfl (by omega) (by omega) (fun c11 => ?_) (fun c11 => ?_)
      · exact absurd c11 (by omega)
      · refine aw_iload_n dX12_selectedSum_14 rfl ?_
        refine aw_aload_n dX12_selectedSum_15 rfl ?_
        refine aw_getr' (j := 22) dX12_selectedSum_16 fX12_53 rfl (by assumption) rfl (by assumption) ?_
        refine aw_iload_n dX12_selectedSum_19 rfl ?_
        refine aw_zald' dX12_selectedSum_20 (by assumption) (by omega) (by first | decide | omega) gb ?_
        refine aw_if_eq (tgt := 32) dX12_selectedSum_21 rfl (by omega) (fun c21 => ?_) (fun c21 => ?_)
        · exact absurd c21 (by omega)
        · refine aw_aload_n dX12_selectedSum_24 rfl ?_
          refine aw_iload_n dX12_selectedSum_25 rfl ?_
          refine aw_invV_r dX12_selectedSum_26 vX12_valueOf kX12_108 rfl (KV) ⟨_, (by assumption), _, _, rfl⟩ rfl rfl (by decide) (by decide) (by decide) (Nat.le_of_ble_eq_true rfl) ?_
          refine aw_goto (tgt := 33) dX12_selectedSum_29 rfl ?_
          refine aw_iadd dX12_selectedSum_33 ?_
          refine aw_istore_n (ls1 := [(1, _), (2, _), (0, _)]) dX12_selectedSum_34 (by decide) rfl ?_
          refine aw_iinc (k9 := 1) (ls1 := [(2, _), (1, _), (0, _)]) dX12_selectedSum_35 rfl (by decide) rfl ?_
          refine aw_goto (tgt := 4) dX12_selectedSum_38 rfl ?_
          refine aw_sub [0, 1, 2] rfl ?_
          exact I
    | false =>
      rw [q] at gb
      rw [if_neg (by rw [q]; decide)] at I
      refine aw_iload_n dX12_selectedSum_4 rfl ?_
      refine aw_aload_n dX12_selectedSum_5 rfl ?_
      refine aw_getr' (j := 0) dX12_selectedSum_6 fX12_7 rfl (by assumption) rfl (by assumption) ?_
      refine aw_iconst dX12_selectedSum_9 ?_
      refine aw_iald' dX12_selectedSum_10 (by assumption) (by omega) (by first | decide | omega) g0 ?_
      refine aw_ic_ge (tgt := 41) dX12_selectedSum_11 rfl (by omega) (by omega) (fun c11 => ?_) (fun c11 => ?_)
      · exact absurd c11 (by omega)
      · refine aw_iload_n dX12_selectedSum_14 rfl ?_
        refine aw_aload_n dX12_selectedSum_15 rfl ?_
        refine aw_getr' (j := 22) dX12_selectedSum_16 fX12_53 rfl (by assumption) rfl (by assumption) ?_
        refine aw_iload_n dX12_selectedSum_19 rfl ?_
        refine aw_zald' dX12_selectedSum_20 (by assumption) (by omega) (by first | decide | omega) gb ?_
        refine aw_if_eq (tgt := 32) dX12_selectedSum_21 rfl (by omega) (fun c21 => ?_) (fun c21 => ?_)
        · refine aw_iconst dX12_selectedSum_32 ?_
          refine aw_iadd dX12_selectedSum_33 ?_
          refine aw_istore_n (ls1 := [(1, _), (2, _), (0, _)]) dX12_selectedSum_34 (by decide) rfl ?_
          refine aw_iinc (k9 := 1) (ls1 := [(2, _), (1, _), (0, _)]) dX12_selectedSum_35 rfl (by decide) rfl ?_
          refine aw_goto (tgt := 4) dX12_selectedSum_38 rfl ?_
          refine aw_sub [0, 1, 2] rfl ?_
          exact I
        · exact absurd c21 (by omega)
theorem m_selectedSum {γ : GG} {h : AH} {a : Nat} {T : Tr} {f : Nat → Bool} (hM : shM h a) (hT : gTr (gi h (a + 1)) 0 T) (ho : okTr T) (hB : isBo h (a + 15) f (tn T)) : Call γ mX12_selectedSum 1 0 0 [vr (some a)] h (rV (vi (sumT T f (tn T))) h) := by
  have L := l_ssm (γ := γ) hM hT ho hB (tn T) 0 (Nat.zero_add _)
  refine Call.of (ls := [(0, vr (some a))]) vX12_selectedSum.1 (Nat.le_of_ble_eq_true rfl) rfl ?_
  refine aw_iconst dX12_selectedSum_0 ?_
  refine aw_istore_n (ls1 := [(1, _), (0, _)]) dX12_selectedSum_1 (by decide) rfl ?_
  refine aw_iconst dX12_selectedSum_2 ?_
  refine aw_istore_n (ls1 := [(2, _), (1, _), (0, _)]) dX12_selectedSum_3 (by decide) rfl ?_
  refine aw_sub [0, 1, 2] rfl ?_
  exact L
