/-! ===== what each call does: tree calls; the model's side ===== -/
abbrev FS : Type := St × List St × List Nat
def isF (h : AH) (a : Nat) (F : FS) : Prop := isMd h a F.1 F.2.1 F.2.2
def SA (a : Nat) : Nat → Int → Prop := fun b _ => a ≤ b ∧ b ≤ a + 17
def rM (h : AH) (a : Nat) (o : Int × Int × FS) : AR → AH → Prop := rE (vi o.2.1) (fun h' => isF h' a o.2.2 ∧ gi h' a 5 = o.1 ∧ eqG (SA a) h h')
def keepF (F : FS) (S : St) : FS := (S, psh F.2.1 F.1, F.2.2)
def opAdd (F : FS) (p x y : Int) : Int × Int × FS :=
  if ¬ (0 ≤ p ∧ p < (tn F.1.1 : Int)) then (1, 0, F) else if ¬ ((0 ≤ x ∧ x ≤ 7) ∧ 0 ≤ y ∧ y ≤ 9) then (2, 0, F) else if tn F.1.1 = 40 then (3, 0, F) else (0, (endT F.1.1 p.toNat : Nat), keepF F (addT F.1.1 p.toNat x y, F.1.2))
def opRem (F : FS) (p : Int) : Int × Int × FS :=
  if ¬ (0 ≤ p ∧ p < (tn F.1.1 : Int)) then (1, 0, F) else if p = 0 then (2, 0, F) else (0, ((tn F.1.1 - (endT F.1.1 p.toNat - p.toNat) : Nat) : Int), keepF F (dlT F.1.1 p.toNat (endT F.1.1 p.toNat - p.toNat), F.1.2))
def opMov (F : FS) (v p : Int) : Int × Int × FS :=
  if ¬ ((0 ≤ v ∧ v < (tn F.1.1 : Int)) ∧ 0 ≤ p ∧ p < (tn F.1.1 : Int)) then (1, 0, F) else if v ≤ p ∧ p < (endT F.1.1 v.toNat : Nat) then (2, 0, F) else (0, (mvAt F.1.1 v.toNat p.toNat : Nat), keepF F (movT F.1.1 v.toNat p.toNat, F.1.2))
def setT (T : Tr) (v : Nat) (x y : Int) : Tr := (tn T, fun k => if k = v then x else tnm T k, fun k => if k = v then y else tvl T k, tpa T)
def opSet (F : FS) (v x y : Int) : Int × Int × FS :=
  if ¬ (0 ≤ v ∧ v < (tn F.1.1 : Int)) then (1, 0, F) else if ¬ ((0 ≤ x ∧ x ≤ 7) ∧ 0 ≤ y ∧ y ≤ 9) then (2, 0, F) else (0, 10 * tnm F.1.1 v.toNat + tvl F.1.1 v.toNat, keepF F (setT F.1.1 v.toNat x y, F.1.2))
theorem isMd.tr {h h' : AH} {a : Nat} {S : St} {U : List St} {tx : List Nat} {T' : Tr} (hm : isMd h a S U tx) (e : eqG (SM a) h h') (g : gTr (gi h' (a + 1)) 0 T') (ho : okTr T') : isMd h' a (T', S.2) U tx := by
  obtain ⟨m1, ⟨m2, m22⟩, ⟨m3, m33⟩, m4, m5, m6, m7, m8, m9, m10, m11⟩ := hm
  have ev : gi h' (a + 2) = gi h (a + 2) := by funext j; exact e.2.2.2.2 _ _ (by unfold SM; omega)
  refine ⟨e.sh m1, ⟨g, fun p hp => ?_⟩, ⟨ho, m33⟩, (e.2.2.2.2 _ _ (by unfold SM; omega)).trans m4, m5, m6, by rw [ev]; exact m7, (e.2.2.2.2 _ _ (by unfold SM; omega)).trans m8, m9, m10, fun k c hc => (e.2.2.2.2 _ _ (by unfold SM; omega)).trans (m11 k c hc)⟩
  obtain ⟨a1, a2⟩ := m22 p hp
  exact ⟨(e.2.2.2.2 _ _ (by unfold SM; omega)).trans a1, fun j c hc => (e.2.2.2.2 _ _ (by unfold SM; omega)).trans (a2 j c hc)⟩
theorem SA_k {a : Nat} : ∀ b j, SK a b j → SA a b j := fun b j z => by unfold SK at z; unfold SA; omega
theorem SA_v {a : Nat} : ∀ b j, SV a b j → SA a b j := fun b j z => by unfold SV at z; unfold SA; omega
theorem SA_m {a : Nat} : ∀ b j, SM a b j → SA a b j := fun b j z => by unfold SM at z; unfold SA; omega
theorem E5 {h : AH} {a : Nat} {v : Int} : eqG (SK a) h (si h a 5 v) := eqG.si (Or.inl ⟨rfl, by omega, by omega⟩)
theorem rM_err {h : AH} {a : Nat} {F : FS} (hF : isF h a F) (v : Int) : isF (si h a 5 v) a F ∧ gi (si h a 5 v) a 5 = v ∧ eqG (SA a) h (si h a 5 v) := ⟨isMd.eqk hF E5, gi_at rfl rfl, E5.mono SA_k⟩
theorem set_ok {T : Tr} (ho : okTr T) {v : Nat} {x y : Int} (hx : 0 ≤ x ∧ x ≤ 7 ∧ 0 ≤ y ∧ y ≤ 9) : okTr (setT T v x y) := by
  obtain ⟨o1, o2, o3, o4, o5, o6⟩ := ho.o
  refine ⟨o1, o2, fun k hk => ?_, o4, o5, o6⟩
  show 0 ≤ (if k = v then x else tnm T k) ∧ (if k = v then x else tnm T k) ≤ 7 ∧ 0 ≤ (if k = v then y else tvl T k) ∧ (if k = v then y else tvl T k) ≤ 9
  by_cases q : k = v
  · rw [if_pos q, if_pos q]; exact hx
  · rw [if_neg q, if_neg q]; exact o3 k hk
theorem m_addNode {γ : GG} {h : AH} {a : Nat} {F : FS} {p x y : Int} (hF : isF h a F) (hp : (-2147483648 ≤ p ∧ p ≤ 2147483647)) (hx : (-2147483648 ≤ x ∧ x ≤ 2147483647)) (hy : (-2147483648 ≤ y ∧ y ≤ 2147483647)) : Call γ mX12_addNode 2 0 0 [vr (some a), vi p, vi x, vi y] h (rM h a (opAdd F p x y)) := by
  obtain ⟨S, U, tx⟩ := F
  obtain ⟨T, qs⟩ := S
  have hm : isMd h a (T, qs) U tx := hF
  have oT : okTr T := hm.2.2.1.1
  have o9 := oT.o
  have n40 := o9.2.1
  have n1 := o9.1
  obtain ⟨hka, -, -⟩ := hm.1.q
  obtain ⟨rm, km⟩ := hm.1.m
  have g0 : gi h (a + 1) 0 = (tn T : Int) := hm.2.1.1.1
  have KN := m_isNode (γ := γ) hm.1 hp g0 (by omega)
  have KD := m_isNamed (γ := γ) (h := h) hx hy
  unfold opAdd
  dsimp only
  by_cases c1 : 0 ≤ p ∧ p < (tn T : Int)
  · rw [if_neg (fun z => z c1)]
    rw [if_pos c1] at KN
    by_cases c2 : (0 ≤ x ∧ x ≤ 7) ∧ 0 ≤ y ∧ y ≤ 9
    · rw [if_neg (fun z => z c2)]
      rw [if_pos c2] at KD
      by_cases c3 : tn T = 40
      · rw [if_pos c3]
        refine Call.of (ls := [(0, vr (some a)), (1, vi p), (2, vi x), (3, vi y)]) vX12_addNode.1 (Nat.le_of_ble_eq_true rfl) rfl ?_
        refine aw_aload_n dX12_addNode_0 rfl ?_
        refine aw_aload_n dX12_addNode_1 rfl ?_
        refine aw_iload_n dX12_addNode_2 rfl ?_
        refine aw_invV_r dX12_addNode_3 vX12_isNode kX12_77 rfl (KN) ⟨_, (by assumption), _, _, rfl⟩ rfl rfl (by decide) (by decide) (by decide) (Nat.le_of_ble_eq_true rfl) ?_
        refine aw_if_ne (tgt := 13) dX12_addNode_6 rfl (by omega) (fun c6 => ?_) (fun c6 => ?_)
        · refine aw_iload_n dX12_addNode_13 rfl ?_
          refine aw_iload_n dX12_addNode_14 rfl ?_
          refine aw_invS_r dX12_addNode_15 sX12_isNamed kX12_81 rfl (KD) rfl rfl (by decide) (by decide) (by decide) (Nat.le_of_ble_eq_true rfl) ?_
          refine aw_if_ne (tgt := 25) dX12_addNode_18 rfl (by omega) (fun c18 => ?_) (fun c18 => ?_)
          · refine aw_aload_n dX12_addNode_25 rfl ?_
            refine aw_getr' (j := 0) dX12_addNode_26 fX12_7 rfl (by assumption) rfl (by assumption) ?_
            refine aw_iconst dX12_addNode_29 ?_
            refine aw_iald' dX12_addNode_30 (by assumption) (by omega) (by first | decide | omega) g0 ?_
            refine aw_bipush dX12_addNode_31 rfl ?_
            refine aw_ic_ne (tgt := 40) dX12_addNode_33 rfl (by omega) (by omega) (fun c33 => ?_) (fun c33 => ?_)
            · exact absurd c33 (by omega)
            · refine aw_iconst dX12_addNode_36 ?_
              refine aw_goto (tgt := 41) dX12_addNode_37 rfl ?_
              refine aw_puti' (j := 5) rfl dX12_addNode_41 fX12_62 (by assumption) rfl ?_
              refine aw_aload_n dX12_addNode_44 rfl ?_
              refine aw_geti' (j := 5) dX12_addNode_45 fX12_62 rfl (by assumption) rfl (gi_at rfl rfl) ?_
              refine aw_if_eq (tgt := 53) dX12_addNode_48 rfl (by omega) (fun c48 => ?_) (fun c48 => ?_)
              · exact absurd c48 (by omega)
              · refine aw_iconst dX12_addNode_51 ?_
                exact aw_ireturn dX12_addNode_52 rfl (Or.inl rfl) ⟨rfl, rM_err hF 3⟩
          · exact absurd c18 (by omega)
        · exact absurd c6 (by omega)
      · rw [if_neg c3]
        obtain ⟨v, rfl⟩ := Int.eq_ofNat_of_zero_le c1.1
        rw [Int.toNat_natCast]
        have hv : v < tn T := by omega
        have m5 := hm.eqk (E5 (v := 0))
        have KK := m_keep (γ := γ) m5
        have ev := endT_spec (T := T) hv
        have oA := add_ok (p := v) (x := x) (y := y) oT hv (by omega) ⟨c2.1.1, c2.1.2, c2.2.1, c2.2.2⟩
        have fin : ∀ H1 H2, eqG (SV a) (si h a 5 0) H1 → isMd H1 a (T, qs) (psh U (T, qs)) tx → opP (gi H2 (a + 1)) T (endT T v) 1 → eqG (SM a) H1 H2 → isF (si (si (si H2 (a + 1) (1 + 3 * (endT T v : Nat)) x) (a + 1) (1 + 3 * (endT T v : Nat) + 1) y) (a + 1) (1 + 3 * (endT T v : Nat) + 2) v) a (keepF ((T, qs), U, tx) (addT T v x y, qs)) ∧ gi (si (si (si H2 (a + 1) (1 + 3 * (endT T v : Nat)) x) (a + 1) (1 + 3 * (endT T v : Nat) + 1) y) (a + 1) (1 + 3 * (endT T v : Nat) + 2) v) a 5 = 0 ∧ eqG (SA a) h (si (si (si H2 (a + 1) (1 + 3 * (endT T v : Nat)) x) (a + 1) (1 + 3 * (endT T v : Nat) + 1) y) (a + 1) (1 + 3 * (endT T v : Nat) + 2) v) := by
          intro H1 H2 E1 m1 P2 E2
          obtain ⟨p0, p1, p2⟩ := P2
          have E3 : eqG (SM a) H1 (si (si (si H2 (a + 1) (1 + 3 * (endT T v : Nat)) x) (a + 1) (1 + 3 * (endT T v : Nat) + 1) y) (a + 1) (1 + 3 * (endT T v : Nat) + 2) v) := E2.tr (((eqG.si ⟨rfl, by omega⟩).tr (eqG.si ⟨rfl, by omega⟩)).tr (eqG.si ⟨rfl, by omega⟩))
          refine ⟨m1.tr E3 (gTr_of ?_ (fun k hk => ?_)) oA, ?_, ((E5.mono SA_k).tr (E1.mono SA_v)).tr (E3.mono SA_m)⟩
          · exact (gi_ne (Or.inr (by omega))).trans ((gi_ne (Or.inr (by omega))).trans ((gi_ne (Or.inr (by omega))).trans p0))
          · have hk' : k < tn T + 1 := hk
            unfold addT
            by_cases q1 : k < endT T v
            · obtain ⟨a1, a2, a3⟩ := ip_at1 (T := T) (m := 1) (x := fun _ => x) (y := fun _ => y) (z := fun _ => (v : Int)) q1
              obtain ⟨b1, b2, b3⟩ := p1 k q1
              rw [a1, a2, a3]
              exact ⟨(gi_ne (Or.inr (by omega))).trans ((gi_ne (Or.inr (by omega))).trans ((gi_ne (Or.inr (by omega))).trans b1)), (gi_ne (Or.inr (by omega))).trans ((gi_ne (Or.inr (by omega))).trans ((gi_ne (Or.inr (by omega))).trans b2)), (gi_ne (Or.inr (by omega))).trans ((gi_ne (Or.inr (by omega))).trans ((gi_ne (Or.inr (by omega))).trans b3))⟩
            · by_cases q2 : k < endT T v + 1
              · obtain ⟨a1, a2, a3⟩ := ip_at2 (T := T) (m := 1) (x := fun _ => x) (y := fun _ => y) (z := fun _ => (v : Int)) (show endT T v ≤ k by omega) q2
                rw [a1, a2, a3]
                exact ⟨(gi_ne (Or.inr (by omega))).trans ((gi_ne (Or.inr (by omega))).trans (gi_at rfl (by omega))), (gi_ne (Or.inr (by omega))).trans (gi_at rfl (by omega)), gi_at rfl (by omega)⟩
              · obtain ⟨a1, a2, a3⟩ := ip_at3 (T := T) (m := 1) (x := fun _ => x) (y := fun _ => y) (z := fun _ => (v : Int)) (show endT T v + 1 ≤ k by omega)
                obtain ⟨b1, b2, b3⟩ := p2 (k - 1) (by omega) (by omega)
                have ek : (((k - 1 : Nat) : Int) + ((1 : Nat) : Int)) = (k : Int) := by omega
                rw [ek] at b1 b2 b3
                rw [a1, a2, a3]
                exact ⟨(gi_ne (Or.inr (by omega))).trans ((gi_ne (Or.inr (by omega))).trans ((gi_ne (Or.inr (by omega))).trans b1)), (gi_ne (Or.inr (by omega))).trans ((gi_ne (Or.inr (by omega))).trans ((gi_ne (Or.inr (by omega))).trans b2)), (gi_ne (Or.inr (by omega))).trans ((gi_ne (Or.inr (by omega))).trans ((gi_ne (Or.inr (by omega))).trans b3))⟩
          · exact (gi_ne (Or.inl (by omega))).trans ((gi_ne (Or.inl (by omega))).trans ((gi_ne (Or.inl (by omega))).trans ((E2.2.2.2.2 _ _ (by unfold SM; omega)).trans ((E1.2.2.2.2 _ _ (by unfold SV; omega)).trans (gi_at rfl rfl)))))
        refine Call.of (ls := [(0, vr (some a)), (1, vi (v : Int)), (2, vi x), (3, vi y)]) vX12_addNode.1 (Nat.le_of_ble_eq_true rfl) rfl ?_
        refine aw_aload_n dX12_addNode_0 rfl ?_
        refine aw_aload_n dX12_addNode_1 rfl ?_
        refine aw_iload_n dX12_addNode_2 rfl ?_
        refine aw_invV_r dX12_addNode_3 vX12_isNode kX12_77 rfl (KN) ⟨_, (by assumption), _, _, rfl⟩ rfl rfl (by decide) (by decide) (by decide) (Nat.le_of_ble_eq_true rfl) ?_
        refine aw_if_ne (tgt := 13) dX12_addNode_6 rfl (by omega) (fun c6 => ?_) (fun c6 => ?_)
        · refine aw_iload_n dX12_addNode_13 rfl ?_
          refine aw_iload_n dX12_addNode_14 rfl ?_
          refine aw_invS_r dX12_addNode_15 sX12_isNamed kX12_81 rfl (KD) rfl rfl (by decide) (by decide) (by decide) (Nat.le_of_ble_eq_true rfl) ?_
          refine aw_if_ne (tgt := 25) dX12_addNode_18 rfl (by omega) (fun c18 => ?_) (fun c18 => ?_)
          · refine aw_aload_n dX12_addNode_25 rfl ?_
            refine aw_getr' (j := 0) dX12_addNode_26 fX12_7 rfl (by assumption) rfl (by assumption) ?_
            refine aw_iconst dX12_addNode_29 ?_
            refine aw_iald' dX12_addNode_30 (by assumption) (by omega) (by first | decide | omega) g0 ?_
            refine aw_bipush dX12_addNode_31 rfl ?_
            refine aw_ic_ne (tgt := 40) dX12_addNode_33 rfl (by omega) (by omega) (fun c33 => ?_) (fun c33 => ?_)
            · refine aw_iconst dX12_addNode_40 ?_
              refine aw_puti' (j := 5) rfl dX12_addNode_41 fX12_62 (by assumption) rfl ?_
              refine aw_aload_n dX12_addNode_44 rfl ?_
              refine aw_geti' (j := 5) dX12_addNode_45 fX12_62 rfl (by assumption) rfl (gi_at rfl rfl) ?_
              refine aw_if_eq (tgt := 53) dX12_addNode_48 rfl (by omega) (fun c48 => ?_) (fun c48 => ?_)
              · refine aw_aload_n dX12_addNode_53 rfl ?_
                refine aw_invV_f dX12_addNode_54 vX12_keep kX12_85 rfl (KK) ⟨_, (by assumption), _, _, rfl⟩ rfl rfl (by decide) (by decide) (by decide) (Nat.le_of_ble_eq_true rfl) (fun H1 hP9 => ?_)
                obtain ⟨E1, m1⟩ := hP9
                have hka1 := m1.1.1
                have KE := m_endOf (γ := γ) m1.1 m1.2.1.1 oT.rg hv
                have KO := m_opens (γ := γ) (T := T) (v := endT T v) (m := 1) m1.1 m1.2.1.1 oT.rg (by omega) (by omega) (by omega)
                refine aw_aload_n dX12_addNode_57 rfl ?_
                refine aw_iload_n dX12_addNode_58 rfl ?_
                refine aw_invV_r dX12_addNode_59 vX12_endOf kX12_88 rfl (KE) ⟨_, (by assumption), _, _, rfl⟩ rfl rfl (by decide) (by decide) (by decide) (Nat.le_of_ble_eq_true rfl) ?_
                refine aw_istore (ls1 := [(4, _), (0, _), (1, _), (2, _), (3, _)]) dX12_addNode_62 (by decide) rfl ?_
                refine aw_aload_n dX12_addNode_64 rfl ?_
                refine aw_iload dX12_addNode_65 rfl ?_
                refine aw_iconst dX12_addNode_67 ?_
                refine aw_invV_f dX12_addNode_68 vX12_opens kX12_91 rfl (KO) ⟨_, (by assumption), _, _, rfl⟩ rfl rfl (by decide) (by decide) (by decide) (Nat.le_of_ble_eq_true rfl) (fun H2 hP9 => ?_)
                obtain ⟨P2, E2⟩ := hP9
                have hM2 := E2.sh m1.1
                have hka2 := hM2.1
                have KS := m_setCells (γ := γ) (n := ((endT T v : Nat) : Int)) (x := x) (y := y) (z := (v : Int)) hM2 (by omega)
                refine aw_aload_n dX12_addNode_71 rfl ?_
                refine aw_iload dX12_addNode_72 rfl ?_
                refine aw_iload_n dX12_addNode_74 rfl ?_
                refine aw_iload_n dX12_addNode_75 rfl ?_
                refine aw_iload_n dX12_addNode_76 rfl ?_
                refine aw_invV_n dX12_addNode_77 vX12_setCells kX12_95 rfl (KS) ⟨_, (by assumption), _, _, rfl⟩ rfl rfl (by decide) (by decide) (by decide) (Nat.le_of_ble_eq_true rfl) ?_
                refine aw_iload dX12_addNode_80 rfl ?_
                exact aw_ireturn dX12_addNode_82 rfl (Or.inl rfl) ⟨rfl, fin H1 H2 E1 m1 P2 E2⟩
              · exact absurd c48 (by omega)
            · exact absurd c33 (by omega)
          · exact absurd c18 (by omega)
        · exact absurd c6 (by omega)
    · rw [if_pos (fun z => c2 z)]
      rw [if_neg c2] at KD
      refine Call.of (ls := [(0, vr (some a)), (1, vi p), (2, vi x), (3, vi y)]) vX12_addNode.1 (Nat.le_of_ble_eq_true rfl) rfl ?_
      refine aw_aload_n dX12_addNode_0 rfl ?_
      refine aw_aload_n dX12_addNode_1 rfl ?_
      refine aw_iload_n dX12_addNode_2 rfl ?_
      refine aw_invV_r dX12_addNode_3 vX12_isNode kX12_77 rfl (KN) ⟨_, (by assumption), _, _, rfl⟩ rfl rfl (by decide) (by decide) (by decide) (Nat.le_of_ble_eq_true rfl) ?_
      refine aw_if_ne (tgt := 13) dX12_addNode_6 rfl (by omega) (fun c6 => ?_) (fun c6 => ?_)
      · refine aw_iload_n dX12_addNode_13 rfl ?_
        refine aw_iload_n dX12_addNode_14 rfl ?_
        refine aw_invS_r dX12_addNode_15 sX12_isNamed kX12_81 rfl (KD) rfl rfl (by decide) (by decide) (by decide) (Nat.le_of_ble_eq_true rfl) ?_
        refine aw_if_ne (tgt := 25) dX12_addNode_18 rfl (by omega) (fun c18 => ?_) (fun c18 => ?_)
        · exact absurd c18 (by omega)
        · refine aw_iconst dX12_addNode_21 ?_
          refine aw_goto (tgt := 41) dX12_addNode_22 rfl ?_
          refine aw_puti' (j := 5) rfl dX12_addNode_41 fX12_62 (by assumption) rfl ?_
          refine aw_aload_n dX12_addNode_44 rfl ?_
          refine aw_geti' (j := 5) dX12_addNode_45 fX12_62 rfl (by assumption) rfl (gi_at rfl rfl) ?_
          refine aw_if_eq (tgt := 53) dX12_addNode_48 rfl (by omega) (fun c48 => ?_) (fun c48 => ?_)
          · exact absurd c48 (by omega)
          · refine aw_iconst dX12_addNode_51 ?_
            exact aw_ireturn dX12_addNode_52 rfl (Or.inl rfl) ⟨rfl, rM_err hF 2⟩
      · exact absurd c6 (by omega)
  · rw [if_pos (fun z => c1 z)]
    rw [if_neg c1] at KN
    refine Call.of (ls := [(0, vr (some a)), (1, vi p), (2, vi x), (3, vi y)]) vX12_addNode.1 (Nat.le_of_ble_eq_true rfl) rfl ?_
    refine aw_aload_n dX12_addNode_0 rfl ?_
    refine aw_aload_n dX12_addNode_1 rfl ?_
    refine aw_iload_n dX12_addNode_2 rfl ?_
    refine aw_invV_r dX12_addNode_3 vX12_isNode kX12_77 rfl (KN) ⟨_, (by assumption), _, _, rfl⟩ rfl rfl (by decide) (by decide) (by decide) (Nat.le_of_ble_eq_true rfl) ?_
    refine aw_if_ne (tgt := 13) dX12_addNode_6 rfl (by omega) (fun c6 => ?_) (fun c6 => ?_)
    · exact absurd c6 (by omega)
    · refine aw_iconst dX12_addNode_9 ?_
      refine aw_goto (tgt := 41) dX12_addNode_10 rfl ?_
      refine aw_puti' (j := 5) rfl dX12_addNode_41 fX12_62 (by assumption) rfl ?_
      refine aw_aload_n dX12_addNode_44 rfl ?_
      refine aw_geti' (j := 5) dX12_addNode_45 fX12_62 rfl (by assumption) rfl (gi_at rfl rfl) ?_
      refine aw_if_eq (tgt := 53) dX12_addNode_48 rfl (by omega) (fun c48 => ?_) (fun c48 => ?_)
      · exact absurd c48 (by omega)
      · refine aw_iconst dX12_addNode_51 ?_
        exact aw_ireturn dX12_addNode_52 rfl (Or.inl rfl) ⟨rfl, rM_err hF 1⟩
theorem m_removeNode {γ : GG} {h : AH} {a : Nat} {F : FS} {p : Int} (hF : isF h a F) (hp : (-2147483648 ≤ p ∧ p ≤ 2147483647)) : Call γ mX12_removeNode 2 0 0 [vr (some a), vi p] h (rM h a (opRem F p)) := by
  obtain ⟨S, U, tx⟩ := F
  obtain ⟨T, qs⟩ := S
  have hm : isMd h a (T, qs) U tx := hF
  have oT : okTr T := hm.2.2.1.1
  have o9 := oT.o
  have n40 := o9.2.1
  have n1 := o9.1
  obtain ⟨hka, -, -⟩ := hm.1.q
  obtain ⟨rm, km⟩ := hm.1.m
  have g0 : gi h (a + 1) 0 = (tn T : Int) := hm.2.1.1.1
  have KN := m_isNode (γ := γ) hm.1 hp g0 (by omega)
  unfold opRem
  dsimp only
  by_cases c1 : 0 ≤ p ∧ p < (tn T : Int)
  · rw [if_neg (fun z => z c1)]
    rw [if_pos c1] at KN
    by_cases c2 : p = 0
    · rw [if_pos c2]
      refine Call.of (ls := [(0, vr (some a)), (1, vi p)]) vX12_removeNode.1 (Nat.le_of_ble_eq_true rfl) rfl ?_
      refine aw_aload_n dX12_removeNode_0 rfl ?_
      refine aw_aload_n dX12_removeNode_1 rfl ?_
      refine aw_iload_n dX12_removeNode_2 rfl ?_
      refine aw_invV_r dX12_removeNode_3 vX12_isNode kX12_77 rfl (KN) ⟨_, (by assumption), _, _, rfl⟩ rfl rfl (by decide) (by decide) (by decide) (Nat.le_of_ble_eq_true rfl) ?_
      refine aw_if_ne (tgt := 13) dX12_removeNode_6 rfl (by omega) (fun c6 => ?_) (fun c6 => ?_)
      · refine aw_iload_n dX12_removeNode_13 rfl ?_
        refine aw_if_ne (tgt := 21) dX12_removeNode_14 rfl (by omega) (fun c14 => ?_) (fun c14 => ?_)
        · exact absurd c14 (by omega)
        · refine aw_iconst dX12_removeNode_17 ?_
          refine aw_goto (tgt := 22) dX12_removeNode_18 rfl ?_
          refine aw_puti' (j := 5) rfl dX12_removeNode_22 fX12_62 (by assumption) rfl ?_
          refine aw_aload_n dX12_removeNode_25 rfl ?_
          refine aw_geti' (j := 5) dX12_removeNode_26 fX12_62 rfl (by assumption) rfl (gi_at rfl rfl) ?_
          refine aw_if_eq (tgt := 34) dX12_removeNode_29 rfl (by omega) (fun c29 => ?_) (fun c29 => ?_)
          · exact absurd c29 (by omega)
          · refine aw_iconst dX12_removeNode_32 ?_
            exact aw_ireturn dX12_removeNode_33 rfl (Or.inl rfl) ⟨rfl, rM_err hF 2⟩
      · exact absurd c6 (by omega)
    · rw [if_neg c2]
      obtain ⟨v, rfl⟩ := Int.eq_ofNat_of_zero_le c1.1
      rw [Int.toNat_natCast]
      have hv : v < tn T := by omega
      have m5 := hm.eqk (E5 (v := 0))
      have KK := m_keep (γ := γ) m5
      have ev := endT_spec (T := T) hv
      have oA := dl_ok (v := v) (m := endT T v - v) oT (by omega) hv (by omega)
      have em : ((endT T v : Nat) : Int) - (v : Int) = ((endT T v - v : Nat) : Int) := by omega
      refine Call.of (ls := [(0, vr (some a)), (1, vi (v : Int))]) vX12_removeNode.1 (Nat.le_of_ble_eq_true rfl) rfl ?_
      refine aw_aload_n dX12_removeNode_0 rfl ?_
      refine aw_aload_n dX12_removeNode_1 rfl ?_
      refine aw_iload_n dX12_removeNode_2 rfl ?_
      refine aw_invV_r dX12_removeNode_3 vX12_isNode kX12_77 rfl (KN) ⟨_, (by assumption), _, _, rfl⟩ rfl rfl (by decide) (by decide) (by decide) (Nat.le_of_ble_eq_true rfl) ?_
      refine aw_if_ne (tgt := 13) dX12_removeNode_6 rfl (by omega) (fun c6 => ?_) (fun c6 => ?_)
      · refine aw_iload_n dX12_removeNode_13 rfl ?_
        refine aw_if_ne (tgt := 21) dX12_removeNode_14 rfl (by omega) (fun c14 => ?_) (fun c14 => ?_)
        · refine aw_iconst dX12_removeNode_21 ?_
          refine aw_puti' (j := 5) rfl dX12_removeNode_22 fX12_62 (by assumption) rfl ?_
          refine aw_aload_n dX12_removeNode_25 rfl ?_
          refine aw_geti' (j := 5) dX12_removeNode_26 fX12_62 rfl (by assumption) rfl (gi_at rfl rfl) ?_
          refine aw_if_eq (tgt := 34) dX12_removeNode_29 rfl (by omega) (fun c29 => ?_) (fun c29 => ?_)
          · refine aw_aload_n dX12_removeNode_34 rfl ?_
            refine aw_invV_f dX12_removeNode_35 vX12_keep kX12_85 rfl (KK) ⟨_, (by assumption), _, _, rfl⟩ rfl rfl (by decide) (by decide) (by decide) (Nat.le_of_ble_eq_true rfl) (fun H1 hP9 => ?_)
            obtain ⟨E1, m1⟩ := hP9
            have hka1 := m1.1.1
            have KE := m_endOf (γ := γ) m1.1 m1.2.1.1 oT.rg hv
            have KO := m_shuts (γ := γ) (T := T) (v := v) (m := endT T v - v) m1.1 m1.2.1.1 oT.rg (by omega) (by omega)
            refine aw_aload_n dX12_removeNode_38 rfl ?_
            refine aw_iload_n dX12_removeNode_39 rfl ?_
            refine aw_aload_n dX12_removeNode_40 rfl ?_
            refine aw_iload_n dX12_removeNode_41 rfl ?_
            refine aw_invV_r dX12_removeNode_42 vX12_endOf kX12_88 rfl (KE) ⟨_, (by assumption), _, _, rfl⟩ rfl rfl (by decide) (by decide) (by decide) (Nat.le_of_ble_eq_true rfl) ?_
            refine aw_iload_n dX12_removeNode_45 rfl ?_
            refine aw_isub dX12_removeNode_46 ?_
            rw [em]
            refine aw_invV_f dX12_removeNode_47 vX12_shuts kX12_99 rfl (KO) ⟨_, (by assumption), _, _, rfl⟩ rfl rfl (by decide) (by decide) (by decide) (Nat.le_of_ble_eq_true rfl) (fun H2 hP9 => ?_)
            obtain ⟨P2, E2⟩ := hP9
            have hM2 := E2.sh m1.1
            have hka2 := hM2.1
            obtain ⟨rm2, km2⟩ := hM2.m
            have g2 : gi H2 (a + 1) 0 = ((tn T - (endT T v - v) : Nat) : Int) := P2.1
            refine aw_aload_n dX12_removeNode_50 rfl ?_
            refine aw_getr' (j := 0) dX12_removeNode_51 fX12_7 rfl (by assumption) rfl (by assumption) ?_
            refine aw_iconst dX12_removeNode_54 ?_
            refine aw_iald' dX12_removeNode_55 (by assumption) (by omega) (by first | decide | omega) g2 ?_
            exact aw_ireturn dX12_removeNode_56 rfl (Or.inl rfl) ⟨rfl, m1.tr E2 P2 oA, (E2.2.2.2.2 _ _ (by unfold SM; omega)).trans ((E1.2.2.2.2 _ _ (by unfold SV; omega)).trans (gi_at rfl rfl)), ((E5.mono SA_k).tr (E1.mono SA_v)).tr (E2.mono SA_m)⟩
          · exact absurd c29 (by omega)
        · exact absurd c14 (by omega)
      · exact absurd c6 (by omega)
  · rw [if_pos (fun z => c1 z)]
    rw [if_neg c1] at KN
    refine Call.of (ls := [(0, vr (some a)), (1, vi p)]) vX12_removeNode.1 (Nat.le_of_ble_eq_true rfl) rfl ?_
    refine aw_aload_n dX12_removeNode_0 rfl ?_
    refine aw_aload_n dX12_removeNode_1 rfl ?_
    refine aw_iload_n dX12_removeNode_2 rfl ?_
    refine aw_invV_r dX12_removeNode_3 vX12_isNode kX12_77 rfl (KN) ⟨_, (by assumption), _, _, rfl⟩ rfl rfl (by decide) (by decide) (by decide) (Nat.le_of_ble_eq_true rfl) ?_
    refine aw_if_ne (tgt := 13) dX12_removeNode_6 rfl (by omega) (fun c6 => ?_) (fun c6 => ?_)
    · exact absurd c6 (by omega)
    · refine aw_iconst dX12_removeNode_9 ?_
      refine aw_goto (tgt := 22) dX12_removeNode_10 rfl ?_
      refine aw_puti' (j := 5) rfl dX12_removeNode_22 fX12_62 (by assumption) rfl ?_
      refine aw_aload_n dX12_removeNode_25 rfl ?_
      refine aw_geti' (j := 5) dX12_removeNode_26 fX12_62 rfl (by assumption) rfl (gi_at rfl rfl) ?_
      refine aw_if_eq (tgt := 34) dX12_removeNode_29 rfl (by omega) (fun c29 => ?_) (fun c29 => ?_)
      · exact absurd c29 (by omega)
      · refine aw_iconst dX12_removeNode_32 ?_
        exact aw_ireturn dX12_removeNode_33 rfl (Or.inl rfl) ⟨rfl, rM_err hF 1⟩
theorem m_setNode {γ : GG} {h : AH} {a : Nat} {F : FS} {p x y : Int} (hF : isF h a F) (hp : (-2147483648 ≤ p ∧ p ≤ 2147483647)) (hx : (-2147483648 ≤ x ∧ x ≤ 2147483647)) (hy : (-2147483648 ≤ y ∧ y ≤ 2147483647)) : Call γ mX12_setNode 2 0 0 [vr (some a), vi p, vi x, vi y] h (rM h a (opSet F p x y)) := by
  obtain ⟨S, U, tx⟩ := F
  obtain ⟨T, qs⟩ := S
  have hm : isMd h a (T, qs) U tx := hF
  have oT : okTr T := hm.2.2.1.1
  have o9 := oT.o
  have n40 := o9.2.1
  have n1 := o9.1
  obtain ⟨hka, -, -⟩ := hm.1.q
  obtain ⟨rm, km⟩ := hm.1.m
  have g0 : gi h (a + 1) 0 = (tn T : Int) := hm.2.1.1.1
  have KN := m_isNode (γ := γ) hm.1 hp g0 (by omega)
  have KD := m_isNamed (γ := γ) (h := h) hx hy
  unfold opSet
  dsimp only
  by_cases c1 : 0 ≤ p ∧ p < (tn T : Int)
  · rw [if_neg (fun z => z c1)]
    rw [if_pos c1] at KN
    by_cases c2 : (0 ≤ x ∧ x ≤ 7) ∧ 0 ≤ y ∧ y ≤ 9
    · rw [if_neg (fun z => z c2)]
      rw [if_pos c2] at KD
      obtain ⟨v, rfl⟩ := Int.eq_ofNat_of_zero_le c1.1
      rw [Int.toNat_natCast]
      have hv : v < tn T := by omega
      have m5 := hm.eqk (E5 (v := 0))
      have KK := m_keep (γ := γ) m5
      have oA := set_ok (v := v) (x := x) (y := y) oT ⟨c2.1.1, c2.1.2, c2.2.1, c2.2.2⟩
      have fin : ∀ H1, eqG (SV a) (si h a 5 0) H1 → isMd H1 a (T, qs) (psh U (T, qs)) tx → isF (si (si (si H1 (a + 1) (1 + 3 * (v : Int)) x) (a + 1) (1 + 3 * (v : Int) + 1) y) (a + 1) (1 + 3 * (v : Int) + 2) (tpa T v)) a (keepF ((T, qs), U, tx) (setT T v x y, qs)) ∧ gi (si (si (si H1 (a + 1) (1 + 3 * (v : Int)) x) (a + 1) (1 + 3 * (v : Int) + 1) y) (a + 1) (1 + 3 * (v : Int) + 2) (tpa T v)) a 5 = 0 ∧ eqG (SA a) h (si (si (si H1 (a + 1) (1 + 3 * (v : Int)) x) (a + 1) (1 + 3 * (v : Int) + 1) y) (a + 1) (1 + 3 * (v : Int) + 2) (tpa T v)) := by
        intro H1 E1 m1
        have E3 : eqG (SM a) H1 (si (si (si H1 (a + 1) (1 + 3 * (v : Int)) x) (a + 1) (1 + 3 * (v : Int) + 1) y) (a + 1) (1 + 3 * (v : Int) + 2) (tpa T v)) := ((eqG.si ⟨rfl, by omega⟩).tr (eqG.si ⟨rfl, by omega⟩)).tr (eqG.si ⟨rfl, by omega⟩)
        refine ⟨m1.tr E3 (gTr_of ?_ (fun k hk => ?_)) oA, ?_, ((E5.mono SA_k).tr (E1.mono SA_v)).tr (E3.mono SA_m)⟩
        · exact (gi_ne (Or.inr (by omega))).trans ((gi_ne (Or.inr (by omega))).trans ((gi_ne (Or.inr (by omega))).trans m1.2.1.1.1))
        · have hk' : k < tn T := hk
          obtain ⟨b1, b2, b3⟩ := gTr_c m1.2.1.1 hk'
          show _ = (if k = v then x else tnm T k) ∧ _ = (if k = v then y else tvl T k) ∧ _ = tpa T k
          by_cases q : k = v
          · subst q
            rw [if_pos rfl, if_pos rfl]
            exact ⟨(gi_ne (Or.inr (by omega))).trans ((gi_ne (Or.inr (by omega))).trans (gi_at rfl (by omega))), (gi_ne (Or.inr (by omega))).trans (gi_at rfl (by omega)), gi_at rfl (by omega)⟩
          · rw [if_neg q, if_neg q]
            exact ⟨(gi_ne (Or.inr (by omega))).trans ((gi_ne (Or.inr (by omega))).trans ((gi_ne (Or.inr (by omega))).trans b1)), (gi_ne (Or.inr (by omega))).trans ((gi_ne (Or.inr (by omega))).trans ((gi_ne (Or.inr (by omega))).trans b2)), (gi_ne (Or.inr (by omega))).trans ((gi_ne (Or.inr (by omega))).trans ((gi_ne (Or.inr (by omega))).trans b3))⟩
        · exact (gi_ne (Or.inl (by omega))).trans ((gi_ne (Or.inl (by omega))).trans ((gi_ne (Or.inl (by omega))).trans ((E1.2.2.2.2 _ _ (by unfold SV; omega)).trans (gi_at rfl rfl))))
      refine Call.of (ls := [(0, vr (some a)), (1, vi (v : Int)), (2, vi x), (3, vi y)]) vX12_setNode.1 (Nat.le_of_ble_eq_true rfl) rfl ?_
      refine aw_aload_n dX12_setNode_0 rfl ?_
      refine aw_aload_n dX12_setNode_1 rfl ?_
      refine aw_iload_n dX12_setNode_2 rfl ?_
      refine aw_invV_r dX12_setNode_3 vX12_isNode kX12_77 rfl (KN) ⟨_, (by assumption), _, _, rfl⟩ rfl rfl (by decide) (by decide) (by decide) (Nat.le_of_ble_eq_true rfl) ?_
      refine aw_if_ne (tgt := 13) dX12_setNode_6 rfl (by omega) (fun c6 => ?_) (fun c6 => ?_)
      · refine aw_iload_n dX12_setNode_13 rfl ?_
        refine aw_iload_n dX12_setNode_14 rfl ?_
        refine aw_invS_r dX12_setNode_15 sX12_isNamed kX12_81 rfl (KD) rfl rfl (by decide) (by decide) (by decide) (Nat.le_of_ble_eq_true rfl) ?_
        refine aw_if_ne (tgt := 25) dX12_setNode_18 rfl (by omega) (fun c18 => ?_) (fun c18 => ?_)
        · refine aw_iconst dX12_setNode_25 ?_
          refine aw_puti' (j := 5) rfl dX12_setNode_26 fX12_62 (by assumption) rfl ?_
          refine aw_aload_n dX12_setNode_29 rfl ?_
          refine aw_geti' (j := 5) dX12_setNode_30 fX12_62 rfl (by assumption) rfl (gi_at rfl rfl) ?_
          refine aw_if_eq (tgt := 38) dX12_setNode_33 rfl (by omega) (fun c33 => ?_) (fun c33 => ?_)
          · refine aw_aload_n dX12_setNode_38 rfl ?_
            refine aw_invV_f dX12_setNode_39 vX12_keep kX12_85 rfl (KK) ⟨_, (by assumption), _, _, rfl⟩ rfl rfl (by decide) (by decide) (by decide) (Nat.le_of_ble_eq_true rfl) (fun H1 hP9 => ?_)
            obtain ⟨E1, m1⟩ := hP9
            have hka1 := m1.1.1
            obtain ⟨b1, b2, b3⟩ := gTr_c m1.2.1.1 hv
            have K1 := m_nameOf (γ := γ) (n := (v : Int)) m1.1 (by omega)
            have K2 := m_valueOf (γ := γ) (n := (v : Int)) m1.1 (by omega)
            have K3 := m_parentOf (γ := γ) (n := (v : Int)) m1.1 (by omega)
            rw [b1] at K1
            rw [b2] at K2
            rw [b3] at K3
            have KS := m_setCells (γ := γ) (n := (v : Int)) (x := x) (y := y) (z := tpa T v) m1.1 (by omega)
            refine aw_bipush dX12_setNode_42 rfl ?_
            refine aw_aload_n dX12_setNode_44 rfl ?_
            refine aw_iload_n dX12_setNode_45 rfl ?_
            refine aw_invV_r dX12_setNode_46 vX12_nameOf kX12_105 rfl (K1) ⟨_, (by assumption), _, _, rfl⟩ rfl rfl (by decide) (by decide) (by decide) (Nat.le_of_ble_eq_true rfl) ?_
            refine aw_imul dX12_setNode_49 ?_
            refine aw_aload_n dX12_setNode_50 rfl ?_
            refine aw_iload_n dX12_setNode_51 rfl ?_
            refine aw_invV_r dX12_setNode_52 vX12_valueOf kX12_108 rfl (K2) ⟨_, (by assumption), _, _, rfl⟩ rfl rfl (by decide) (by decide) (by decide) (Nat.le_of_ble_eq_true rfl) ?_
            refine aw_iadd dX12_setNode_55 ?_
            refine aw_istore (ls1 := [(4, _), (0, _), (1, _), (2, _), (3, _)]) dX12_setNode_56 (by decide) rfl ?_
            refine aw_aload_n dX12_setNode_58 rfl ?_
            refine aw_iload_n dX12_setNode_59 rfl ?_
            refine aw_iload_n dX12_setNode_60 rfl ?_
            refine aw_iload_n dX12_setNode_61 rfl ?_
            refine aw_aload_n dX12_setNode_62 rfl ?_
            refine aw_iload_n dX12_setNode_63 rfl ?_
            refine aw_invV_r dX12_setNode_64 vX12_parentOf kX12_73 rfl (K3) ⟨_, (by assumption), _, _, rfl⟩ rfl rfl (by decide) (by decide) (by decide) (Nat.le_of_ble_eq_true rfl) ?_
            refine aw_invV_n dX12_setNode_67 vX12_setCells kX12_95 rfl (KS) ⟨_, (by assumption), _, _, rfl⟩ rfl rfl (by decide) (by decide) (by decide) (Nat.le_of_ble_eq_true rfl) ?_
            refine aw_iload dX12_setNode_70 rfl ?_
            exact aw_ireturn dX12_setNode_72 rfl (Or.inl rfl) ⟨rfl, fin H1 E1 m1⟩
          · exact absurd c33 (by omega)
        · exact absurd c18 (by omega)
      · exact absurd c6 (by omega)
    · rw [if_pos (fun z => c2 z)]
      rw [if_neg c2] at KD
      refine Call.of (ls := [(0, vr (some a)), (1, vi p), (2, vi x), (3, vi y)]) vX12_setNode.1 (Nat.le_of_ble_eq_true rfl) rfl ?_
      refine aw_aload_n dX12_setNode_0 rfl ?_
      refine aw_aload_n dX12_setNode_1 rfl ?_
      refine aw_iload_n dX12_setNode_2 rfl ?_
      refine aw_invV_r dX12_setNode_3 vX12_isNode kX12_77 rfl (KN) ⟨_, (by assumption), _, _, rfl⟩ rfl rfl (by decide) (by decide) (by decide) (Nat.le_of_ble_eq_true rfl) ?_
      refine aw_if_ne (tgt := 13) dX12_setNode_6 rfl (by omega) (fun c6 => ?_) (fun c6 => ?_)
      · refine aw_iload_n dX12_setNode_13 rfl ?_
        refine aw_iload_n dX12_setNode_14 rfl ?_
        refine aw_invS_r dX12_setNode_15 sX12_isNamed kX12_81 rfl (KD) rfl rfl (by decide) (by decide) (by decide) (Nat.le_of_ble_eq_true rfl) ?_
        refine aw_if_ne (tgt := 25) dX12_setNode_18 rfl (by omega) (fun c18 => ?_) (fun c18 => ?_)
        · exact absurd c18 (by omega)
        · refine aw_iconst dX12_setNode_21 ?_
          refine aw_goto (tgt := 26) dX12_setNode_22 rfl ?_
          refine aw_puti' (j := 5) rfl dX12_setNode_26 fX12_62 (by assumption) rfl ?_
          refine aw_aload_n dX12_setNode_29 rfl ?_
          refine aw_geti' (j := 5) dX12_setNode_30 fX12_62 rfl (by assumption) rfl (gi_at rfl rfl) ?_
          refine aw_if_eq (tgt := 38) dX12_setNode_33 rfl (by omega) (fun c33 => ?_) (fun c33 => ?_)
          · exact absurd c33 (by omega)
          · refine aw_iconst dX12_setNode_36 ?_
            exact aw_ireturn dX12_setNode_37 rfl (Or.inl rfl) ⟨rfl, rM_err hF 2⟩
      · exact absurd c6 (by omega)
  · rw [if_pos (fun z => c1 z)]
    rw [if_neg c1] at KN
    refine Call.of (ls := [(0, vr (some a)), (1, vi p), (2, vi x), (3, vi y)]) vX12_setNode.1 (Nat.le_of_ble_eq_true rfl) rfl ?_
    refine aw_aload_n dX12_setNode_0 rfl ?_
    refine aw_aload_n dX12_setNode_1 rfl ?_
    refine aw_iload_n dX12_setNode_2 rfl ?_
    refine aw_invV_r dX12_setNode_3 vX12_isNode kX12_77 rfl (KN) ⟨_, (by assumption), _, _, rfl⟩ rfl rfl (by decide) (by decide) (by decide) (Nat.le_of_ble_eq_true rfl) ?_
    refine aw_if_ne (tgt := 13) dX12_setNode_6 rfl (by omega) (fun c6 => ?_) (fun c6 => ?_)
    · exact absurd c6 (by omega)
    · refine aw_iconst dX12_setNode_9 ?_
      refine aw_goto (tgt := 26) dX12_setNode_10 rfl ?_
      refine aw_puti' (j := 5) rfl dX12_setNode_26 fX12_62 (by assumption) rfl ?_
      refine aw_aload_n dX12_setNode_29 rfl ?_
      refine aw_geti' (j := 5) dX12_setNode_30 fX12_62 rfl (by assumption) rfl (gi_at rfl rfl) ?_
      refine aw_if_eq (tgt := 38) dX12_setNode_33 rfl (by omega) (fun c33 => ?_) (fun c33 => ?_)
      · exact absurd c33 (by omega)
      · refine aw_iconst dX12_setNode_36 ?_
        exact aw_ireturn dX12_setNode_37 rfl (Or.inl rfl) ⟨rfl, rM_err hF 1⟩
