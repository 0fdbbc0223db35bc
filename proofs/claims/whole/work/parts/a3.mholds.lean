/-! ===== the model: holds; what the class keeps, by lists ===== -/
def hdC (T : Tr) (v : Nat) (p z : Int) (c : TC) : Bool := haC T c v p z != c.1
def hdA (T : Tr) (v : Nat) (p z : Int) (al : TA) : Bool := al.all (hdC T v p z)
def hdP (T : Tr) (v : Nat) (p z : Int) (pr : TP) : Bool := pr.any (hdA T v p z)
theorem drop_cons {α : Type} {l r : List α} {x : α} {s : Nat} (hd : l.drop s = x :: r) : s < l.length ∧ l[s]? = some x ∧ l.drop (s + 1) = r := by
  refine ⟨?_, ?_, ?_⟩
  · have := congrArg List.length hd
    rw [List.length_drop, List.length_cons] at this
    omega
  · have := congrArg (fun q => q[0]?) hd
    simpa [List.getElem?_drop] using this
  · have := congrArg (fun q => q.drop 1) hd
    simpa [List.drop_drop, Nat.add_comm] using this
theorem drop_nil {α : Type} {l : List α} {s : Nat} (hd : l.drop s = []) : l.length ≤ s := by
  have := congrArg List.length hd
  rw [List.length_drop, List.length_nil] at this
  omega
theorem i_hol {γ : GG} {a v : Nat} {b p z : Int} {T : Tr} {h : AH} {b2 : Int} {al : TA} {i : Nat} {X : Bool} {Q : AR → AH → Prop} (hM : shM h a) (hT : gTr (gi h (a + 1)) 0 T) (ho : okTr T) (hp : 0 ≤ p ∧ p ≤ 100) (hz : 0 ≤ z ∧ z ≤ 100) (hv : v < tn T) (hb : 0 ≤ b2 ∧ b2 + 22 ≤ 6537) (ha : okA al) (hg : gA (gi h (a + 7)) b2 al) (kk : ∀ H, eqG (SXt a) h H → AW γ mX12_holds 8 0 0 104 [(8, vi (bI X)), (6, vi (i : Int)), (0, vr (some a)), (1, vi b), (2, vi (v : Int)), (3, vi p), (4, vi z)] [] H Q) : ∀ (r : List TC) (s : Nat) (H : AH) (t : Bool), al.drop s = r → s ≤ al.length → (t && r.all (hdC T v p z)) = X → eqG (SXt a) h H → AW γ mX12_holds 8 0 0 36 [(9, vi (s : Int)), (8, vi (bI t)), (7, vi b2), (6, vi (i : Int)), (5, vi (bI false)), (0, vr (some a)), (1, vi b), (2, vi (v : Int)), (3, vi p), (4, vi z)] [] H Q := by
  have l3 := ha.2.1
  intro r
  induction r with
  | nil =>
    intro s H t hd hs hX hE
    have bT : bI true = 1 := rfl
    have bF : bI false = 0 := rfl
    have hM1 := hE.sh hM
    have hT1 := tr_k hT hE SXt_1
    have eq7 := q_k hE SXt_7
    obtain ⟨hka, rq, kq⟩ := hM1.q
    have g0 : gi H (a + 7) b2 = al.length := by rw [eq7]; exact hg.1
    have e9 := drop_nil hd
    rw [List.all_nil, Bool.and_true] at hX
    subst hX
    have K := kk H hE
    refine aw_iload dX12_holds_36 rfl ?_
    refine aw_aload_n dX12_holds_38 rfl ?_
    refine aw_getr' (j := 12) dX12_holds_39 fX12_28 rfl (by assumption) rfl (by assumption) ?_
    refine aw_iload dX12_holds_42 rfl ?_
    refine aw_iald' dX12_holds_44 (by assumption) (by omega) (by first | decide | omega) g0 ?_
    refine aw_ic_ge (tgt := 104) dX12_holds_45 rfl (by omega) (by omega) (fun c45 => ?_) (fun c45 => ?_)
    · refine aw_sub [1, 3, 5, 6, 7, 8, 9] rfl ?_
      exact K
    · exact absurd c45 (by omega)
  | cons c r ih =>
    intro s H t hd hs hX hE
    have bT : bI true = 1 := rfl
    have bF : bI false = 0 := rfl
    have hM1 := hE.sh hM
    have hT1 := tr_k hT hE SXt_1
    have eq7 := q_k hE SXt_7
    obtain ⟨hka, rq, kq⟩ := hM1.q
    have g0 : gi H (a + 7) b2 = al.length := by rw [eq7]; exact hg.1
    obtain ⟨e9, hc, hr⟩ := drop_cons hd
    rw [List.all_cons] at hX
    have K := kk H hE
    cases t with
    | false =>
      rw [Bool.false_and] at hX
      subst hX
      refine aw_iload dX12_holds_36 rfl ?_
      refine aw_aload_n dX12_holds_38 rfl ?_
      refine aw_getr' (j := 12) dX12_holds_39 fX12_28 rfl (by assumption) rfl (by assumption) ?_
      refine aw_iload dX12_holds_42 rfl ?_
      refine aw_iald' dX12_holds_44 (by assumption) (by omega) (by first | decide | omega) g0 ?_
      refine aw_ic_ge (tgt := 104) dX12_holds_45 rfl (by omega) (by omega) (fun c45 => ?_) (fun c45 => ?_)
      · exact absurd c45 (by omega)
      · refine aw_iload dX12_holds_48 rfl ?_
        refine aw_if_eq (tgt := 104) dX12_holds_50 rfl (by omega) (fun c50 => ?_) (fun c50 => ?_)
        · refine aw_sub [1, 3, 5, 6, 7, 8, 9] rfl ?_
          exact K
        · exact absurd c50 (by omega)
    | true =>
      rw [Bool.true_and] at hX
      have gc := hg.2 s c hc
      have oc := ha.2.2 c (List.mem_of_getElem? hc)
      have KC := m_conditionAt (γ := γ) (h := H) (p := b2) (k := (s : Int))
      have gc0 : gi H (a + 7) (b2 + 1 + 7 * (s : Int)) = bI c.1 := by rw [eq7]; exact gc.1
      have KA := m_holdsAtom (γ := γ) (b := b2 + 1 + 7 * (s : Int)) hM1 hT1 ho hv (by omega) oc (by rw [eq7]; exact gc) hp hz
      have I := fun H1 (E1 : eqG (SXt a) H H1) => ih (s + 1) H1 (hdC T v p z c) hr (by omega) hX (hE.tr E1)
      unfold hdC at I
      cases q1 : haC T c v p z with
      | true =>
        cases q2 : c.1 with
        | true =>
          rw [q1] at KA
          rw [q1, q2] at I
          rw [q2] at gc0
          have I : ∀ H1, eqG (SXt a) H H1 → AW γ mX12_holds 8 0 0 36 [(9, vi ((s + 1 : Nat) : Int)), (8, vi (bI false)), (7, vi b2), (6, vi (i : Int)), (5, vi (bI false)), (0, vr (some a)), (1, vi b), (2, vi (v : Int)), (3, vi p), (4, vi z)] [] H1 Q := I
          refine aw_iload dX12_holds_36 rfl ?_
          refine aw_aload_n dX12_holds_38 rfl ?_
          refine aw_getr' (j := 12) dX12_holds_39 fX12_28 rfl (by assumption) rfl (by assumption) ?_
          refine aw_iload dX12_holds_42 rfl ?_
          refine aw_iald' dX12_holds_44 (by assumption) (by omega) (by first | decide | omega) g0 ?_
          refine aw_ic_ge (tgt := 104) dX12_holds_45 rfl (by omega) (by omega) (fun c45 => ?_) (fun c45 => ?_)
          · exact absurd c45 (by omega)
          · refine aw_iload dX12_holds_48 rfl ?_
            refine aw_if_eq (tgt := 104) dX12_holds_50 rfl (by omega) (fun c50 => ?_) (fun c50 => ?_)
            · exact absurd c50 (by omega)
            · refine aw_iload dX12_holds_53 rfl ?_
              refine aw_iload dX12_holds_55 rfl ?_
              refine aw_invS_r dX12_holds_57 sX12_conditionAt kX12_153 rfl (KC) rfl rfl (by decide) (by decide) (by decide) (Nat.le_of_ble_eq_true rfl) ?_
              refine aw_istore (ls1 := [(10, _), (9, _), (8, _), (7, _), (6, _), (5, _), (0, _), (1, _), (2, _), (3, _), (4, _)]) dX12_holds_60 (by decide) rfl ?_
              refine aw_aload_n dX12_holds_62 rfl ?_
              refine aw_iload dX12_holds_63 rfl ?_
              refine aw_iload_n dX12_holds_65 rfl ?_
              refine aw_iload_n dX12_holds_66 rfl ?_
              refine aw_iload dX12_holds_67 rfl ?_
              refine aw_invV_e dX12_holds_69 vX12_holdsAtom kX12_250 rfl (KA) ⟨_, (by assumption), _, _, rfl⟩ rfl rfl (by decide) (by decide) (by decide) (Nat.le_of_ble_eq_true rfl) (fun H1 hP9 => ?_)
              have E1 := hP9
              obtain ⟨hka1, rq1, kq1⟩ := (E1.sh hM1).q
              have gc1 := (congrFun (q_k E1 SXt_7) _).trans gc0
              refine aw_aload_n dX12_holds_72 rfl ?_
              refine aw_getr' (j := 12) dX12_holds_73 fX12_28 rfl (by assumption) rfl (by assumption) ?_
              refine aw_iload dX12_holds_76 rfl ?_
              refine aw_iald' dX12_holds_78 (by assumption) (by omega) (by first | decide | omega) gc1 ?_
              refine aw_iconst dX12_holds_79 ?_
              refine aw_ic_ne (tgt := 87) dX12_holds_80 rfl (by omega) (by omega) (fun c80 => ?_) (fun c80 => ?_)
              · exact absurd c80 (by omega)
              · refine aw_iconst dX12_holds_83 ?_
                refine aw_goto (tgt := 88) dX12_holds_84 rfl ?_
                refine aw_ic_eq (tgt := 95) dX12_holds_88 rfl (by omega) (by omega) (fun c88 => ?_) (fun c88 => ?_)
                · refine aw_iconst dX12_holds_95 ?_
                  refine aw_istore (ls1 := [(8, _), (10, _), (9, _), (7, _), (6, _), (5, _), (0, _), (1, _), (2, _), (3, _), (4, _)]) dX12_holds_96 (by decide) rfl ?_
                  refine aw_iinc (k9 := 2) (ls1 := [(9, _), (8, _), (10, _), (7, _), (6, _), (5, _), (0, _), (1, _), (2, _), (3, _), (4, _)]) dX12_holds_98 rfl (by decide) rfl ?_
                  refine aw_goto (tgt := 36) dX12_holds_101 rfl ?_
                  refine aw_sub [0, 1, 3, 4, 5, 6, 7, 8, 9, 10] rfl ?_
                  exact I H1 E1
                · exact absurd c88 (by omega)
        | false =>
          rw [q1] at KA
          rw [q1, q2] at I
          rw [q2] at gc0
          have I : ∀ H1, eqG (SXt a) H H1 → AW γ mX12_holds 8 0 0 36 [(9, vi ((s + 1 : Nat) : Int)), (8, vi (bI true)), (7, vi b2), (6, vi (i : Int)), (5, vi (bI false)), (0, vr (some a)), (1, vi b), (2, vi (v : Int)), (3, vi p), (4, vi z)] [] H1 Q := I
          refine aw_iload dX12_holds_36 rfl ?_
          refine aw_aload_n dX12_holds_38 rfl ?_
          refine aw_getr' (j := 12) dX12_holds_39 fX12_28 rfl (by assumption) rfl (by assumption) ?_
          refine aw_iload dX12_holds_42 rfl ?_
          refine aw_iald' dX12_holds_44 (by assumption) (by omega) (by first | decide | omega) g0 ?_
          refine aw_ic_ge (tgt := 104) dX12_holds_45 rfl (by omega) (by omega) (fun c45 => ?_) (fun c45 => ?_)
          · exact absurd c45 (by omega)
          · refine aw_iload dX12_holds_48 rfl ?_
            refine aw_if_eq (tgt := 104) dX12_holds_50 rfl (by omega) (fun c50 => ?_) (fun c50 => ?_)
            · exact absurd c50 (by omega)
            · refine aw_iload dX12_holds_53 rfl ?_
              refine aw_iload dX12_holds_55 rfl ?_
              refine aw_invS_r dX12_holds_57 sX12_conditionAt kX12_153 rfl (KC) rfl rfl (by decide) (by decide) (by decide) (Nat.le_of_ble_eq_true rfl) ?_
              refine aw_istore (ls1 := [(10, _), (9, _), (8, _), (7, _), (6, _), (5, _), (0, _), (1, _), (2, _), (3, _), (4, _)]) dX12_holds_60 (by decide) rfl ?_
              refine aw_aload_n dX12_holds_62 rfl ?_
              refine aw_iload dX12_holds_63 rfl ?_
              refine aw_iload_n dX12_holds_65 rfl ?_
              refine aw_iload_n dX12_holds_66 rfl ?_
              refine aw_iload dX12_holds_67 rfl ?_
              refine aw_invV_e dX12_holds_69 vX12_holdsAtom kX12_250 rfl (KA) ⟨_, (by assumption), _, _, rfl⟩ rfl rfl (by decide) (by decide) (by decide) (Nat.le_of_ble_eq_true rfl) (fun H1 hP9 => ?_)
              have E1 := hP9
              obtain ⟨hka1, rq1, kq1⟩ := (E1.sh hM1).q
              have gc1 := (congrFun (q_k E1 SXt_7) _).trans gc0
              refine aw_aload_n dX12_holds_72 rfl ?_
              refine aw_getr' (j := 12) dX12_holds_73 fX12_28 rfl (by assumption) rfl (by assumption) ?_
              refine aw_iload dX12_holds_76 rfl ?_
              refine aw_iald' dX12_holds_78 (by assumption) (by omega) (by first | decide | omega) gc1 ?_
              refine aw_iconst dX12_holds_79 ?_
              refine aw_ic_ne (tgt := 87) dX12_holds_80 rfl (by omega) (by omega) (fun c80 => ?_) (fun c80 => ?_)
              · refine aw_iconst dX12_holds_87 ?_
                refine aw_ic_eq (tgt := 95) dX12_holds_88 rfl (by omega) (by omega) (fun c88 => ?_) (fun c88 => ?_)
                · exact absurd c88 (by omega)
                · refine aw_iconst dX12_holds_91 ?_
                  refine aw_goto (tgt := 96) dX12_holds_92 rfl ?_
                  refine aw_istore (ls1 := [(8, _), (10, _), (9, _), (7, _), (6, _), (5, _), (0, _), (1, _), (2, _), (3, _), (4, _)]) dX12_holds_96 (by decide) rfl ?_
                  refine aw_iinc (k9 := 2) (ls1 := [(9, _), (8, _), (10, _), (7, _), (6, _), (5, _), (0, _), (1, _), (2, _), (3, _), (4, _)]) dX12_holds_98 rfl (by decide) rfl ?_
                  refine aw_goto (tgt := 36) dX12_holds_101 rfl ?_
                  refine aw_sub [0, 1, 3, 4, 5, 6, 7, 8, 9, 10] rfl ?_
                  exact I H1 E1
              · exact absurd c80 (by omega)
      | false =>
        cases q2 : c.1 with
        | true =>
          rw [q1] at KA
          rw [q1, q2] at I
          rw [q2] at gc0
          have I : ∀ H1, eqG (SXt a) H H1 → AW γ mX12_holds 8 0 0 36 [(9, vi ((s + 1 : Nat) : Int)), (8, vi (bI true)), (7, vi b2), (6, vi (i : Int)), (5, vi (bI false)), (0, vr (some a)), (1, vi b), (2, vi (v : Int)), (3, vi p), (4, vi z)] [] H1 Q := I
          refine aw_iload dX12_holds_36 rfl ?_
          refine aw_aload_n dX12_holds_38 rfl ?_
          refine aw_getr' (j := 12) dX12_holds_39 fX12_28 rfl (by assumption) rfl (by assumption) ?_
          refine aw_iload dX12_holds_42 rfl ?_
          refine aw_iald' dX12_holds_44 (by assumption) (by omega) (by first | decide | omega) g0 ?_
          refine aw_ic_ge (tgt := 104) dX12_holds_45 rfl (by omega) (by omega) (fun c45 => ?_) (fun c45 => ?_)
          · exact absurd c45 (by omega)
          · refine aw_iload dX12_holds_48 rfl ?_
            refine aw_if_eq (tgt := 104) dX12_holds_50 rfl (by omega) (fun c50 => ?_) (fun c50 => ?_)
            · exact absurd c50 (by omega)
            · refine aw_iload dX12_holds_53 rfl ?_
              refine aw_iload dX12_holds_55 rfl ?_
              refine aw_invS_r dX12_holds_57 sX12_conditionAt kX12_153 rfl (KC) rfl rfl (by decide) (by decide) (by decide) (Nat.le_of_ble_eq_true rfl) ?_
              refine aw_istore (ls1 := [(10, _), (9, _), (8, _), (7, _), (6, _), (5, _), (0, _), (1, _), (2, _), (3, _), (4, _)]) dX12_holds_60 (by decide) rfl ?_
              refine aw_aload_n dX12_holds_62 rfl ?_
              refine aw_iload dX12_holds_63 rfl ?_
              refine aw_iload_n dX12_holds_65 rfl ?_
              refine aw_iload_n dX12_holds_66 rfl ?_
              refine aw_iload dX12_holds_67 rfl ?_
              refine aw_invV_e dX12_holds_69 vX12_holdsAtom kX12_250 rfl (KA) ⟨_, (by assumption), _, _, rfl⟩ rfl rfl (by decide) (by decide) (by decide) (Nat.le_of_ble_eq_true rfl) (fun H1 hP9 => ?_)
              have E1 := hP9
              obtain ⟨hka1, rq1, kq1⟩ := (E1.sh hM1).q
              have gc1 := (congrFun (q_k E1 SXt_7) _).trans gc0
              refine aw_aload_n dX12_holds_72 rfl ?_
              refine aw_getr' (j := 12) dX12_holds_73 fX12_28 rfl (by assumption) rfl (by assumption) ?_
              refine aw_iload dX12_holds_76 rfl ?_
              refine aw_iald' dX12_holds_78 (by assumption) (by omega) (by first | decide | omega) gc1 ?_
              refine aw_iconst dX12_holds_79 ?_
              refine aw_ic_ne (tgt := 87) dX12_holds_80 rfl (by omega) (by omega) (fun c80 => ?_) (fun c80 => ?_)
              · exact absurd c80 (by omega)
              · refine aw_iconst dX12_holds_83 ?_
                refine aw_goto (tgt := 88) dX12_holds_84 rfl ?_
                refine aw_ic_eq (tgt := 95) dX12_holds_88 rfl (by omega) (by omega) (fun c88 => ?_) (fun c88 => ?_)
                · exact absurd c88 (by omega)
                · refine aw_iconst dX12_holds_91 ?_
                  refine aw_goto (tgt := 96) dX12_holds_92 rfl ?_
                  refine aw_istore (ls1 := [(8, _), (10, _), (9, _), (7, _), (6, _), (5, _), (0, _), (1, _), (2, _), (3, _), (4, _)]) dX12_holds_96 (by decide) rfl ?_
                  refine aw_iinc (k9 := 2) (ls1 := [(9, _), (8, _), (10, _), (7, _), (6, _), (5, _), (0, _), (1, _), (2, _), (3, _), (4, _)]) dX12_holds_98 rfl (by decide) rfl ?_
                  refine aw_goto (tgt := 36) dX12_holds_101 rfl ?_
                  refine aw_sub [0, 1, 3, 4, 5, 6, 7, 8, 9, 10] rfl ?_
                  exact I H1 E1
        | false =>
          rw [q1] at KA
          rw [q1, q2] at I
          rw [q2] at gc0
          have I : ∀ H1, eqG (SXt a) H H1 → AW γ mX12_holds 8 0 0 36 [(9, vi ((s + 1 : Nat) : Int)), (8, vi (bI false)), (7, vi b2), (6, vi (i : Int)), (5, vi (bI false)), (0, vr (some a)), (1, vi b), (2, vi (v : Int)), (3, vi p), (4, vi z)] [] H1 Q := I
          refine aw_iload dX12_holds_36 rfl ?_
          refine aw_aload_n dX12_holds_38 rfl ?_
          refine aw_getr' (j := 12) dX12_holds_39 fX12_28 rfl (by assumption) rfl (by assumption) ?_
          refine aw_iload dX12_holds_42 rfl ?_
          refine aw_iald' dX12_holds_44 (by assumption) (by omega) (by first | decide | omega) g0 ?_
          refine aw_ic_ge (tgt := 104) dX12_holds_45 rfl (by omega) (by omega) (fun c45 => ?_) (fun c45 => ?_)
          · exact absurd c45 (by omega)
          · refine aw_iload dX12_holds_48 rfl ?_
            refine aw_if_eq (tgt := 104) dX12_holds_50 rfl (by omega) (fun c50 => ?_) (fun c50 => ?_)
            · exact absurd c50 (by omega)
            · refine aw_iload dX12_holds_53 rfl ?_
              refine aw_iload dX12_holds_55 rfl ?_
              refine aw_invS_r dX12_holds_57 sX12_conditionAt kX12_153 rfl (KC) rfl rfl (by decide) (by decide) (by decide) (Nat.le_of_ble_eq_true rfl) ?_
              refine aw_istore (ls1 := [(10, _), (9, _), (8, _), (7, _), (6, _), (5, _), (0, _), (1, _), (2, _), (3, _), (4, _)]) dX12_holds_60 (by decide) rfl ?_
              refine aw_aload_n dX12_holds_62 rfl ?_
              refine aw_iload dX12_holds_63 rfl ?_
              refine aw_iload_n dX12_holds_65 rfl ?_
              refine aw_iload_n dX12_holds_66 rfl ?_
              refine aw_iload dX12_holds_67 rfl ?_
              refine aw_invV_e dX12_holds_69 vX12_holdsAtom kX12_250 rfl (KA) ⟨_, (by assumption), _, _, rfl⟩ rfl rfl (by decide) (by decide) (by decide) (Nat.le_of_ble_eq_true rfl) (fun H1 hP9 => ?_)
              have E1 := hP9
              obtain ⟨hka1, rq1, kq1⟩ := (E1.sh hM1).q
              have gc1 := (congrFun (q_k E1 SXt_7) _).trans gc0
              refine aw_aload_n dX12_holds_72 rfl ?_
              refine aw_getr' (j := 12) dX12_holds_73 fX12_28 rfl (by assumption) rfl (by assumption) ?_
              refine aw_iload dX12_holds_76 rfl ?_
              refine aw_iald' dX12_holds_78 (by assumption) (by omega) (by first | decide | omega) gc1 ?_
              refine aw_iconst dX12_holds_79 ?_
              refine aw_ic_ne (tgt := 87) dX12_holds_80 rfl (by omega) (by omega) (fun c80 => ?_) (fun c80 => ?_)
              · refine aw_iconst dX12_holds_87 ?_
                refine aw_ic_eq (tgt := 95) dX12_holds_88 rfl (by omega) (by omega) (fun c88 => ?_) (fun c88 => ?_)
                · refine aw_iconst dX12_holds_95 ?_
                  refine aw_istore (ls1 := [(8, _), (10, _), (9, _), (7, _), (6, _), (5, _), (0, _), (1, _), (2, _), (3, _), (4, _)]) dX12_holds_96 (by decide) rfl ?_
                  refine aw_iinc (k9 := 2) (ls1 := [(9, _), (8, _), (10, _), (7, _), (6, _), (5, _), (0, _), (1, _), (2, _), (3, _), (4, _)]) dX12_holds_98 rfl (by decide) rfl ?_
                  refine aw_goto (tgt := 36) dX12_holds_101 rfl ?_
                  refine aw_sub [0, 1, 3, 4, 5, 6, 7, 8, 9, 10] rfl ?_
                  exact I H1 E1
                · exact absurd c88 (by omega)
              · exact absurd c80 (by omega)
theorem l_hol {γ : GG} {a v : Nat} {b p z : Int} {T : Tr} {h : AH} {pr : TP} {X : Bool} (hM : shM h a) (hT : gTr (gi h (a + 1)) 0 T) (ho : okTr T) (hp : 0 ≤ p ∧ p ≤ 100) (hz : 0 ≤ z ∧ z ≤ 100) (hv : v < tn T) (hb : 0 ≤ b ∧ b + 67 ≤ 6537) (ha : okP pr) (hg : gP (gi h (a + 7)) b pr) : ∀ (r : List TA) (s : Nat) (H : AH) (t : Bool), pr.drop s = r → s ≤ pr.length → (t || r.any (hdA T v p z)) = X → eqG (SXt a) h H → AW γ mX12_holds 8 0 0 6 [(6, vi (s : Int)), (5, vi (bI t)), (0, vr (some a)), (1, vi b), (2, vi (v : Int)), (3, vi p), (4, vi z)] [] H (rE (vi (bI X)) (eqG (SXt a) h)) := by
  have l3 := ha.2.1
  intro r
  induction r with
  | nil =>
    intro s H t hd hs hX hE
    have bT : bI true = 1 := rfl
    have bF : bI false = 0 := rfl
    have hM1 := hE.sh hM
    have hT1 := tr_k hT hE SXt_1
    have eq7 := q_k hE SXt_7
    obtain ⟨hka, rq, kq⟩ := hM1.q
    have g0 : gi H (a + 7) b = pr.length := by rw [eq7]; exact hg.1
    have e9 := drop_nil hd
    rw [List.any_nil, Bool.or_false] at hX
    subst hX
    refine aw_iload dX12_holds_6 rfl ?_
    refine aw_aload_n dX12_holds_8 rfl ?_
    refine aw_getr' (j := 12) dX12_holds_9 fX12_28 rfl (by assumption) rfl (by assumption) ?_
    refine aw_iload_n dX12_holds_12 rfl ?_
    refine aw_iald' dX12_holds_13 (by assumption) (by omega) (by first | decide | omega) g0 ?_
    refine aw_ic_ge (tgt := 114) dX12_holds_14 rfl (by omega) (by omega) (fun c14 => ?_) (fun c14 => ?_)
    · refine aw_iload dX12_holds_114 rfl ?_
      exact aw_zreturn dX12_holds_116 rfl (bI01 _) (Or.inl rfl) ⟨rfl, hE⟩
    · exact absurd c14 (by omega)
  | cons al r ih =>
    intro s H t hd hs hX hE
    have bT : bI true = 1 := rfl
    have bF : bI false = 0 := rfl
    have hM1 := hE.sh hM
    have hT1 := tr_k hT hE SXt_1
    have eq7 := q_k hE SXt_7
    obtain ⟨hka, rq, kq⟩ := hM1.q
    have g0 : gi H (a + 7) b = pr.length := by rw [eq7]; exact hg.1
    obtain ⟨e9, hc, hr⟩ := drop_cons hd
    rw [List.any_cons] at hX
    cases t with
    | true =>
      rw [Bool.true_or] at hX
      subst hX
      refine aw_iload dX12_holds_6 rfl ?_
      refine aw_aload_n dX12_holds_8 rfl ?_
      refine aw_getr' (j := 12) dX12_holds_9 fX12_28 rfl (by assumption) rfl (by assumption) ?_
      refine aw_iload_n dX12_holds_12 rfl ?_
      refine aw_iald' dX12_holds_13 (by assumption) (by omega) (by first | decide | omega) g0 ?_
      refine aw_ic_ge (tgt := 114) dX12_holds_14 rfl (by omega) (by omega) (fun c14 => ?_) (fun c14 => ?_)
      · exact absurd c14 (by omega)
      · refine aw_iload dX12_holds_17 rfl ?_
        refine aw_if_ne (tgt := 114) dX12_holds_19 rfl (by omega) (fun c19 => ?_) (fun c19 => ?_)
        · refine aw_iload dX12_holds_114 rfl ?_
          exact aw_zreturn dX12_holds_116 rfl (bI01 _) (Or.inl rfl) ⟨rfl, hE⟩
        · exact absurd c19 (by omega)
    | false =>
      rw [Bool.false_or] at hX
      have gc := hg.2 s al hc
      have oc := ha.2.2 al (List.mem_of_getElem? hc)
      have KC := m_alternativeAt (γ := γ) (h := H) (p := b) (k := (s : Int))
      have I := fun H1 (E1 : eqG (SXt a) h H1) => ih (s + 1) H1 (hdA T v p z al) hr (by omega) hX E1
      have J := i_hol (γ := γ) (b := b) (i := s) (X := hdA T v p z al) (Q := rE (vi (bI X)) (eqG (SXt a) h)) hM hT ho hp hz hv (b2 := b + 1 + 22 * (s : Int)) (by omega) oc gc (fun H1 E1 => by
        have I1 := I H1 E1
        refine aw_iload dX12_holds_104 rfl ?_
        refine aw_istore (ls1 := [(5, _), (8, _), (6, _), (0, _), (1, _), (2, _), (3, _), (4, _)]) dX12_holds_106 (by decide) rfl ?_
        refine aw_iinc (k9 := 2) (ls1 := [(6, _), (5, _), (8, _), (0, _), (1, _), (2, _), (3, _), (4, _)]) dX12_holds_108 rfl (by decide) rfl ?_
        refine aw_goto (tgt := 6) dX12_holds_111 rfl ?_
        refine aw_sub [0, 1, 3, 4, 5, 6, 7] rfl ?_
        exact I1) al 0 H true rfl (Nat.zero_le _) (Bool.true_and _) hE
      refine aw_iload dX12_holds_6 rfl ?_
      refine aw_aload_n dX12_holds_8 rfl ?_
      refine aw_getr' (j := 12) dX12_holds_9 fX12_28 rfl (by assumption) rfl (by assumption) ?_
      refine aw_iload_n dX12_holds_12 rfl ?_
      refine aw_iald' dX12_holds_13 (by assumption) (by omega) (by first | decide | omega) g0 ?_
      refine aw_ic_ge (tgt := 114) dX12_holds_14 rfl (by omega) (by omega) (fun c14 => ?_) (fun c14 => ?_)
      · exact absurd c14 (by omega)
      · refine aw_iload dX12_holds_17 rfl ?_
        refine aw_if_ne (tgt := 114) dX12_holds_19 rfl (by omega) (fun c19 => ?_) (fun c19 => ?_)
        · exact absurd c19 (by omega)
        · refine aw_iload_n dX12_holds_22 rfl ?_
          refine aw_iload dX12_holds_23 rfl ?_
          refine aw_invS_r dX12_holds_25 sX12_alternativeAt kX12_159 rfl (KC) rfl rfl (by decide) (by decide) (by decide) (Nat.le_of_ble_eq_true rfl) ?_
          refine aw_istore (ls1 := [(7, _), (6, _), (5, _), (0, _), (1, _), (2, _), (3, _), (4, _)]) dX12_holds_28 (by decide) rfl ?_
          refine aw_iconst dX12_holds_30 ?_
          refine aw_istore (ls1 := [(8, _), (7, _), (6, _), (5, _), (0, _), (1, _), (2, _), (3, _), (4, _)]) dX12_holds_31 (by decide) rfl ?_
          refine aw_iconst dX12_holds_33 ?_
          refine aw_istore (ls1 := [(9, _), (8, _), (7, _), (6, _), (5, _), (0, _), (1, _), (2, _), (3, _), (4, _)]) dX12_holds_34 (by decide) rfl ?_
          refine aw_sub [0, 1, 2, 3, 4, 5, 6, 7, 8, 9] rfl ?_
          exact J
theorem m_holds {γ : GG} {h : AH} {a v : Nat} {b p z : Int} {T : Tr} {pr : TP} (hM : shM h a) (hT : gTr (gi h (a + 1)) 0 T) (ho : okTr T) (hp : 0 ≤ p ∧ p ≤ 100) (hz : 0 ≤ z ∧ z ≤ 100) (hv : v < tn T) (hb : 0 ≤ b ∧ b + 67 ≤ 6537) (ha : okP pr) (hg : gP (gi h (a + 7)) b pr) : Call γ mX12_holds 8 0 0 [vr (some a), vi b, vi (v : Int), vi p, vi z] h (rE (vi (bI (hdP T v p z pr))) (eqG (SXt a) h)) := by
  have L := l_hol (γ := γ) (X := hdP T v p z pr) hM hT ho hp hz hv hb ha hg pr 0 h false rfl (Nat.zero_le _) (Bool.false_or _) eqG.rf
  refine Call.of (ls := [(0, vr (some a)), (1, vi b), (2, vi (v : Int)), (3, vi p), (4, vi z)]) vX12_holds.1 (Nat.le_of_ble_eq_true rfl) rfl ?_
  refine aw_iconst dX12_holds_0 ?_
  refine aw_istore (ls1 := [(5, _), (0, _), (1, _), (2, _), (3, _), (4, _)]) dX12_holds_1 (by decide) rfl ?_
  refine aw_iconst dX12_holds_3 ?_
  refine aw_istore (ls1 := [(6, _), (5, _), (0, _), (1, _), (2, _), (3, _), (4, _)]) dX12_holds_4 (by decide) rfl ?_
  refine aw_sub [0, 1, 2, 3, 4, 5, 6] rfl ?_
  exact L
theorem al3 {al : TA} (ha : okA al) (F : TC → Bool) : allN (fun m => match al[m]? with | none => true | some c => F c) 3 = al.all F := by
  obtain ⟨h1, h2, -⟩ := ha
  match al, h1, h2 with
  | [c], _, _ => simp [allN]
  | [c, d], _, _ => simp [allN]
  | [c, d, e], _, _ => simp [allN, Bool.and_assoc]
  | c :: d :: e :: f :: r, _, h2 => simp at h2
theorem an3 {p : TP} (ha : okP p) (F : TA → Bool) : anyN (fun m => match p[m]? with | none => false | some al => F al) 3 = p.any F := by
  obtain ⟨h1, h2, -⟩ := ha
  match p, h1, h2 with
  | [c], _, _ => simp [anyN]
  | [c, d], _, _ => simp [anyN]
  | [c, d, e], _, _ => simp [anyN, Bool.or_assoc]
  | c :: d :: e :: f :: r, _, h2 => simp at h2
theorem allN_cong {p q : Nat → Bool} {n : Nat} (e : ∀ k, k < n → p k = q k) : allN p n = allN q n := by
  induction n with
  | zero => rfl
  | succ n ih => simp only [allN]; rw [ih (fun k hk => e k (by omega)), e n (by omega)]
/-- what the class keeps for a predicate is what the model's holds says at the node's position -/
theorem kp_at {T : Tr} {s : TS} {g : Nat → Bool} {i x : Nat} {pr : TP} (hs : okS s) (hi : s.2[i]? = some pr) (hg : g x = true) (hx : x < tn T) : kpR T s g i 3 x = hdP T x (if rvA s.1.1 = true then (fb_ct g 40 : Int) - fb_ct g x else (fb_ct g x : Int) + 1) (fb_ct g 40) pr := by
  have op := hs.2.2 pr (List.mem_of_getElem? hi)
  unfold hdP
  rw [← an3 op]
  unfold kpR
  refine anyN_cong (fun j hj => ?_)
  have e1 : ∀ m, m < 3 → cAt s.2 (9 * i + 3 * j + m) = (pr[j]?).bind (fun al => al[m]?) := by
    intro m hm
    unfold cAt
    rw [show (9 * i + 3 * j + m) / 9 = i by omega, hi, show (9 * i + 3 * j + m) % 9 / 3 = j by omega, show (9 * i + 3 * j + m) % 3 = m by omega]
    rfl
  have e0 := e1 0 (by decide)
  rw [Nat.add_zero] at e0
  cases hj : pr[j]? with
  | none =>
    rw [hj] at e0
    rw [e0]
    rfl
  | some al =>
    have oa := op.2.2 al (List.mem_of_getElem? hj)
    rw [hj] at e0
    have e2 : (cAt s.2 (9 * i + 3 * j)).isSome = true := by
      rw [e0]
      show (al[0]?).isSome = true
      rw [List.getElem?_eq_getElem (show 0 < al.length from oa.1)]
      rfl
    rw [e2, Bool.true_and]
    dsimp only
    unfold hdA
    rw [← al3 oa]
    unfold agF
    rw [hg, Bool.true_and]
    refine allN_cong (fun m hm => ?_)
    rw [e1 m hm, hj]
    show hoO T s.1.1 (al[m]?) g x = _
    cases hm2 : al[m]? with
    | none => rfl
    | some c =>
      have oc := oa.2.2 c (List.mem_of_getElem? hm2)
      show hoC T s.1.1 c g x = hdC T x _ _ c
      unfold hoC hdC
      congr 1
      unfold haC
      rcases oc with ⟨o1, -⟩ | ⟨o1, -⟩ | ⟨o1, -⟩ | ⟨o1, -⟩
      · rw [if_pos (by omega), if_pos o1]
        unfold plS numC
        rw [hg, Bool.true_and, if_neg (show ¬ c.2.1 = 1 by omega)]
      · rw [if_pos (by omega), if_neg (by omega), if_pos o1]
        unfold plS numC
        rw [hg, Bool.true_and, if_pos o1]
      · rw [if_neg (by omega), if_neg (by omega), if_neg (by omega), if_pos o1]
        unfold nfS
        rw [if_pos o1]
        unfold lim
        rw [decide_eq_true hx, Bool.true_and]
      · rw [if_neg (by omega), if_neg (by omega), if_neg (by omega), if_neg (by omega)]
        unfold nfS
        rw [if_neg (by omega), if_pos o1]
theorem kp_g {T : Tr} {s : TS} {g : Nat → Bool} {i x : Nat} (hg : g x = false) : kpR T s g i 3 x = false := by
  unfold kpR agF
  rw [hg]
  simp [anyN]
