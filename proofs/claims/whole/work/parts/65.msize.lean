/-! ===== the model: sizes ===== -/
abbrev ZZ : Type := Nat × Nat × Nat × Bool
def isSz (h : AH) (a : Nat) (x : ZZ) : Prop := gi h (a + 9) 0 = x.1 ∧ gi h (a + 9) 1 = x.2.1 ∧ gi h (a + 9) 2 = x.2.2.1 ∧ gi h (a + 9) 3 = bI x.2.2.2
def SZ (a : Nat) : Nat → Int → Prop := fun b _ => b = a + 9
def szS (x : ZZ) (s : TS) : ZZ := (x.1 + 1, x.2.1 + s.2.length, x.2.2.1 + nCondS s, isPosS s || x.2.2.2)
def szT (x : ZZ) (t : TT) : ZZ := t.2.foldl szS x
def szQ (x : ZZ) (q : TQ) : ZZ := q.foldl szT x
theorem shM.z {h : AH} {a : Nat} (g : shM h a) : gr h a 15 = some (a + 9) ∧ kd h (a + 9) = some (.inr (1, 4)) := by
  obtain ⟨-, -, -, -, -, -, -, -, -, hu, -⟩ := g
  exact hu
theorem gi7z {h h' : AH} {a : Nat} (e : eqG (SZ a) h h') : gi h' (a + 7) = gi h (a + 7) := by
  funext j
  exact e.2.2.2.2 _ _ (by unfold SZ; omega)
theorem szT_eq (t : TT) : ∀ (l : List TS) (x : ZZ), l.foldl szS x = (x.1 + l.length, x.2.1 + (l.map (fun s => s.2.length)).sum, x.2.2.1 + (l.map nCondS).sum, l.any isPosS || x.2.2.2) := by
  intro l
  induction l with
  | nil => intro x; simp
  | cons s r ih =>
    intro x
    rw [List.foldl_cons, ih]
    simp only [szS, List.length_cons, List.map_cons, List.sum_cons, List.any_cons]
    refine Prod.ext (by dsimp only; omega) (Prod.ext (by dsimp only; omega) (Prod.ext (by dsimp only; omega) ?_))
    dsimp only
    cases isPosS s <;> cases r.any isPosS <;> rfl
theorem szQ_eq : ∀ (q : TQ) (x : ZZ), q.foldl szT x = (x.1 + (q.map (fun t => t.2.length)).sum, x.2.1 + (q.map nPred).sum, x.2.2.1 + (q.map nCond).sum, isPosQ q || x.2.2.2) := by
  intro q
  induction q with
  | nil => intro x; simp [isPosQ]
  | cons t r ih =>
    intro x
    rw [List.foldl_cons, ih]
    unfold szT
    rw [szT_eq t]
    simp only [List.map_cons, List.sum_cons, isPosQ, List.any_cons, nPred, nCond]
    refine Prod.ext (by dsimp only; omega) (Prod.ext (by dsimp only; omega) (Prod.ext (by dsimp only; omega) ?_))
    dsimp only
    rw [show isPosT t = t.2.any isPosS from rfl]
    cases t.2.any isPosS <;> cases r.any isPosT <;> rfl
theorem l_sz74 {γ : GG} {a : Nat} {sb pb : Int} {i : Int} {p : TP} {x1 x2 : Nat} {x4 : Bool} {Q : AR → AH → Prop} {h : AH} (hM : shM h a) (ho : okP p) (hb : 1 ≤ pb ∧ pb + 67 ≤ 6537) (hg : gP (gi h (a + 7)) pb p) : ∀ (r : TP) (k x3 : Nat) (H : AH), p.drop k = r → k ≤ p.length → eqG (SZ a) h H → isSz H a (x1, x2, x3, x4) → (∀ H', eqG (SZ a) h H' → isSz H' a (x1, x2, x3 + (r.map List.length).sum, x4) → AW γ mX12_sizeStep 3 0 0 111 [(2, vi i), (0, vr (some a)), (1, vi sb)] [] H' Q) → AW γ mX12_sizeStep 3 0 0 74 [(4, vi (k : Int)), (3, vi pb), (2, vi i), (0, vr (some a)), (1, vi sb)] [] H Q := by
  have l3 := ho.2.1
  intro r
  induction r with
  | nil =>
    intro k x3 H hd hkl hE hs kk
    obtain ⟨hka, rq, kq⟩ := (hE.sh hM).q
    have hg1 := hg
    rw [← gi7z hE] at hg1
    have g0 := hg1.1
    have hk := List.drop_eq_nil_iff.mp hd
    have K := kk H hE (by simpa using hs)
    refine aw_iload dX12_sizeStep_74 rfl ?_
    refine aw_aload_n dX12_sizeStep_76 rfl ?_
    refine aw_getr' (j := 12) dX12_sizeStep_77 fX12_28 rfl (by assumption) rfl (by assumption) ?_
    refine aw_iload_n dX12_sizeStep_80 rfl ?_
    refine aw_iald' dX12_sizeStep_81 (by assumption) (by omega) (by first | decide | omega) g0 ?_
    refine aw_ic_ge (tgt := 111) dX12_sizeStep_82 rfl (by omega) (by omega) (fun c82 => ?_) (fun c82 => ?_)
    · refine aw_sub [2, 3, 4] rfl ?_
      exact K
    · exact absurd c82 (by omega)
  | cons x r ih =>
    intro k x3 H hd hkl hE hs kk
    have hM1 := hE.sh hM
    obtain ⟨hka, rq, kq⟩ := hM1.q
    obtain ⟨rz, kz⟩ := hM1.z
    have hg1 := hg
    rw [← gi7z hE] at hg1
    have g0 := hg1.1
    obtain ⟨hx, hdr, hlt⟩ := drop_hd hd
    have gx := (hg1.2 k x hx).1
    have KC := m_alternativeAt (γ := γ) (h := H) (p := pb) (k := (k : Int))
    obtain ⟨s0, s1, s2, s3⟩ := hs
    have I := ih (k + 1) (x3 + x.length) (si H (a + 9) 2 ((x3 : Int) + (x.length : Int))) hdr (by omega) (hE.tr (eqG.si rfl)) ⟨(gi_ne (Or.inr (by omega))).trans s0, (gi_ne (Or.inr (by omega))).trans s1, (gi_at rfl rfl).trans (by dsimp only; omega), (gi_ne (Or.inr (by omega))).trans s3⟩ (by
      simp only [List.map_cons, List.sum_cons] at kk
      rw [Nat.add_assoc]
      exact kk)
    refine aw_iload dX12_sizeStep_74 rfl ?_
    refine aw_aload_n dX12_sizeStep_76 rfl ?_
    refine aw_getr' (j := 12) dX12_sizeStep_77 fX12_28 rfl (by assumption) rfl (by assumption) ?_
    refine aw_iload_n dX12_sizeStep_80 rfl ?_
    refine aw_iald' dX12_sizeStep_81 (by assumption) (by omega) (by first | decide | omega) g0 ?_
    refine aw_ic_ge (tgt := 111) dX12_sizeStep_82 rfl (by omega) (by omega) (fun c82 => ?_) (fun c82 => ?_)
    · exact absurd c82 (by omega)
    · refine aw_aload_n dX12_sizeStep_85 rfl ?_
      refine aw_getr' (j := 15) dX12_sizeStep_86 fX12_34 rfl (by assumption) rfl (by assumption) ?_
      refine aw_iconst dX12_sizeStep_89 ?_
      refine aw_dup2 dX12_sizeStep_90 rfl rfl ?_
      refine aw_iald' dX12_sizeStep_91 (by assumption) (by omega) (by first | decide | omega) s2 ?_
      refine aw_aload_n dX12_sizeStep_92 rfl ?_
      refine aw_getr' (j := 12) dX12_sizeStep_93 fX12_28 rfl (by assumption) rfl (by assumption) ?_
      refine aw_iload_n dX12_sizeStep_96 rfl ?_
      refine aw_iload dX12_sizeStep_97 rfl ?_
      refine aw_invS_r dX12_sizeStep_99 sX12_alternativeAt kX12_159 rfl (KC) rfl rfl (by decide) (by decide) (by decide) (Nat.le_of_ble_eq_true rfl) ?_
      refine aw_iald' dX12_sizeStep_102 (by assumption) (by omega) (by first | decide | omega) gx ?_
      refine aw_iadd dX12_sizeStep_103 ?_
      refine aw_iast dX12_sizeStep_104 (by assumption) (by omega) (by first | decide | omega) ?_
      refine aw_iinc (k9 := 0) (ls1 := [(4, _), (3, _), (2, _), (0, _), (1, _)]) dX12_sizeStep_105 rfl (by decide) rfl ?_
      refine aw_goto (tgt := 74) dX12_sizeStep_108 rfl ?_
      refine aw_sub [0, 1, 2, 3, 4] rfl ?_
      exact I
theorem l_sz53 {γ : GG} {a : Nat} {sb : Int} {s : TS} {x1 x2 : Nat} {x4 : Bool} {Q : AR → AH → Prop} {h : AH} (hM : shM h a) (ho : okS s) (hb : 1 ≤ sb ∧ sb + 204 ≤ 6537) (hg : gS (gi h (a + 7)) sb s) : ∀ (r : List TP) (k x3 : Nat) (H : AH), s.2.drop k = r → k ≤ s.2.length → eqG (SZ a) h H → isSz H a (x1, x2, x3, x4) → (∀ H', eqG (SZ a) h H' → isSz H' a (x1, x2, x3 + (r.map nCondP).sum, x4) → Q (.inl none) H') → AW γ mX12_sizeStep 3 0 0 53 [(2, vi (k : Int)), (0, vr (some a)), (1, vi sb)] [] H Q := by
  have l3 := ho.2.1
  intro r
  induction r with
  | nil =>
    intro k x3 H hd hkl hE hs kk
    obtain ⟨hka, rq, kq⟩ := (hE.sh hM).q
    have hg1 := hg
    rw [← gi7z hE] at hg1
    have g0 := hg1.2.2.1
    have hk := List.drop_eq_nil_iff.mp hd
    have K := kk H hE (by simpa using hs)
    refine aw_iload_n dX12_sizeStep_53 rfl ?_
    refine aw_aload_n dX12_sizeStep_54 rfl ?_
    refine aw_getr' (j := 12) dX12_sizeStep_55 fX12_28 rfl (by assumption) rfl (by assumption) ?_
    refine aw_iload_n dX12_sizeStep_58 rfl ?_
    refine aw_iconst dX12_sizeStep_59 ?_
    refine aw_iadd dX12_sizeStep_60 ?_
    refine aw_iald' dX12_sizeStep_61 (by assumption) (by omega) (by first | decide | omega) g0 ?_
    refine aw_ic_ge (tgt := 117) dX12_sizeStep_62 rfl (by omega) (by omega) (fun c62 => ?_) (fun c62 => ?_)
    · exact aw_return dX12_sizeStep_117 rfl (Or.inl rfl) K
    · exact absurd c62 (by omega)
  | cons x r ih =>
    intro k x3 H hd hkl hE hs kk
    have hM1 := hE.sh hM
    obtain ⟨hka, rq, kq⟩ := hM1.q
    have hg1 := hg
    rw [← gi7z hE] at hg1
    have g0 := hg1.2.2.1
    obtain ⟨hx, hdr, hlt⟩ := drop_hd hd
    have ox := ho.2.2 x (List.mem_of_getElem? hx)
    have KC := m_predicateAt (γ := γ) (h := H) (p := sb) (k := (k : Int))
    have L := l_sz74 (γ := γ) (a := a) (sb := sb) (pb := sb + 3 + 67 * (k : Int)) (i := (k : Int)) (x1 := x1) (x2 := x2) (x4 := x4) (Q := Q) hM1 ox (by omega) (hg1.2.2.2 k x hx) x 0 x3 H rfl (Nat.zero_le _) eqG.rf hs (fun H' hE' hs' => by
      have I := ih (k + 1) (x3 + nCondP x) H' hdr (by omega) (hE.tr hE') hs' (by
        simp only [List.map_cons, List.sum_cons] at kk
        rw [Nat.add_assoc]
        exact kk)
      refine aw_iinc (k9 := 0) (ls1 := [(2, _), (0, _), (1, _)]) dX12_sizeStep_111 rfl (by decide) rfl ?_
      refine aw_goto (tgt := 53) dX12_sizeStep_114 rfl ?_
      refine aw_sub [0, 1, 2] rfl ?_
      exact I)
    refine aw_iload_n dX12_sizeStep_53 rfl ?_
    refine aw_aload_n dX12_sizeStep_54 rfl ?_
    refine aw_getr' (j := 12) dX12_sizeStep_55 fX12_28 rfl (by assumption) rfl (by assumption) ?_
    refine aw_iload_n dX12_sizeStep_58 rfl ?_
    refine aw_iconst dX12_sizeStep_59 ?_
    refine aw_iadd dX12_sizeStep_60 ?_
    refine aw_iald' dX12_sizeStep_61 (by assumption) (by omega) (by first | decide | omega) g0 ?_
    refine aw_ic_ge (tgt := 117) dX12_sizeStep_62 rfl (by omega) (by omega) (fun c62 => ?_) (fun c62 => ?_)
    · exact absurd c62 (by omega)
    · refine aw_iload_n dX12_sizeStep_65 rfl ?_
      refine aw_iload_n dX12_sizeStep_66 rfl ?_
      refine aw_invS_r dX12_sizeStep_67 sX12_predicateAt kX12_168 rfl (KC) rfl rfl (by decide) (by decide) (by decide) (Nat.le_of_ble_eq_true rfl) ?_
      refine aw_istore_n (ls1 := [(3, _), (2, _), (0, _), (1, _)]) dX12_sizeStep_70 (by decide) rfl ?_
      refine aw_iconst dX12_sizeStep_71 ?_
      refine aw_istore (ls1 := [(4, _), (3, _), (2, _), (0, _), (1, _)]) dX12_sizeStep_72 (by decide) rfl ?_
      refine aw_sub [0, 1, 2, 3, 4] rfl ?_
      exact L
theorem m_sizeStep {γ : GG} {h : AH} {a : Nat} {sb : Int} {s : TS} {x : ZZ} (hM : shM h a) (ho : okS s) (hb : 1 ≤ sb ∧ sb + 204 ≤ 6537) (hg : gS (gi h (a + 7)) sb s) (hs : isSz h a x) : Call γ mX12_sizeStep 3 0 0 [vr (some a), vi sb] h (rF (fun h' => eqG (SZ a) h h' ∧ isSz h' a (szS x s))) := by
  obtain ⟨x1, x2, x3, x4⟩ := x
  obtain ⟨hka, rq, kq⟩ := hM.q
  obtain ⟨rz, kz⟩ := hM.z
  obtain ⟨s0, s1, s2, s3⟩ := hs
  dsimp only at s0 s1 s2 s3
  have g2 := hg.2.2.1
  have E1 : eqG (SZ a) h (si (si h (a + 9) 0 ((x1 : Int) + 1)) (a + 9) 1 ((x2 : Int) + (s.2.length : Int))) := (eqG.si rfl).tr (eqG.si rfl)
  have KP := m_isPositionalStep (γ := γ) (E1.sh hM) ho hb (by rw [gi7z E1]; exact hg)
  have fin : ∀ v : Int, v = bI (isPosS s || x4) → AW γ mX12_sizeStep 3 0 0 53 [(2, vi ((0 : Nat) : Int)), (0, vr (some a)), (1, vi sb)] [] (si (si (si h (a + 9) 0 ((x1 : Int) + 1)) (a + 9) 1 ((x2 : Int) + (s.2.length : Int))) (a + 9) 3 v) (rF (fun h' => eqG (SZ a) h h' ∧ isSz h' a (szS (x1, x2, x3, x4) s))) := fun v hv => by
    have E2 : eqG (SZ a) h (si (si (si h (a + 9) 0 ((x1 : Int) + 1)) (a + 9) 1 ((x2 : Int) + (s.2.length : Int))) (a + 9) 3 v) := E1.tr (eqG.si rfl)
    exact l_sz53 (γ := γ) (a := a) (sb := sb) (s := s) (x1 := x1 + 1) (x2 := x2 + s.2.length) (x4 := isPosS s || x4) (E2.sh hM) ho hb (by rw [gi7z E2]; exact hg) s.2 0 x3 _ rfl (Nat.zero_le _) eqG.rf ⟨(gi_ne (Or.inr (by omega))).trans ((gi_ne (Or.inr (by omega))).trans ((gi_at rfl rfl).trans (by dsimp only; omega))), (gi_ne (Or.inr (by omega))).trans ((gi_at rfl rfl).trans (by dsimp only; omega)), (gi_ne (Or.inr (by omega))).trans ((gi_ne (Or.inr (by omega))).trans ((gi_ne (Or.inr (by omega))).trans s2)), (gi_at rfl rfl).trans hv⟩ (fun H' e1 e2 => ⟨rfl, E2.tr e1, e2⟩)
  cases ep : isPosS s with
  | true =>
    rw [ep] at KP fin
    refine Call.of (ls := [(0, vr (some a)), (1, vi sb)]) vX12_sizeStep.1 (Nat.le_of_ble_eq_true rfl) rfl ?_
    refine aw_aload_n dX12_sizeStep_0 rfl ?_
    refine aw_getr' (j := 15) dX12_sizeStep_1 fX12_34 rfl (by assumption) rfl (by assumption) ?_
    refine aw_iconst dX12_sizeStep_4 ?_
    refine aw_dup2 dX12_sizeStep_5 rfl rfl ?_
    refine aw_iald' dX12_sizeStep_6 (by assumption) (by omega) (by first | decide | omega) s0 ?_
    refine aw_iconst dX12_sizeStep_7 ?_
    refine aw_iadd dX12_sizeStep_8 ?_
    refine aw_iast dX12_sizeStep_9 (by assumption) (by omega) (by first | decide | omega) ?_
    refine aw_aload_n dX12_sizeStep_10 rfl ?_
    refine aw_getr' (j := 15) dX12_sizeStep_11 fX12_34 rfl (by assumption) rfl (by assumption) ?_
    refine aw_iconst dX12_sizeStep_14 ?_
    refine aw_dup2 dX12_sizeStep_15 rfl rfl ?_
    refine aw_iald' dX12_sizeStep_16 (by assumption) (by omega) (by first | decide | omega) ((gi_ne (Or.inr (by omega))).trans s1) ?_
    refine aw_aload_n dX12_sizeStep_17 rfl ?_
    refine aw_getr' (j := 12) dX12_sizeStep_18 fX12_28 rfl (by assumption) rfl (by assumption) ?_
    refine aw_iload_n dX12_sizeStep_21 rfl ?_
    refine aw_iconst dX12_sizeStep_22 ?_
    refine aw_iadd dX12_sizeStep_23 ?_
    refine aw_iald' dX12_sizeStep_24 (by assumption) (by omega) (by first | decide | omega) ((gi_ne (Or.inl (by omega))).trans g2) ?_
    refine aw_iadd dX12_sizeStep_25 ?_
    refine aw_iast dX12_sizeStep_26 (by assumption) (by omega) (by first | decide | omega) ?_
    refine aw_aload_n dX12_sizeStep_27 rfl ?_
    refine aw_getr' (j := 15) dX12_sizeStep_28 fX12_34 rfl (by assumption) rfl (by assumption) ?_
    refine aw_iconst dX12_sizeStep_31 ?_
    refine aw_aload_n dX12_sizeStep_32 rfl ?_
    refine aw_iload_n dX12_sizeStep_33 rfl ?_
    refine aw_invV_r dX12_sizeStep_34 vX12_isPositionalStep kX12_229 rfl (KP) ⟨_, (by assumption), _, _, rfl⟩ rfl rfl (by decide) (by decide) (by decide) (Nat.le_of_ble_eq_true rfl) ?_
    refine aw_if_eq (tgt := 44) dX12_sizeStep_37 rfl (by decide) (fun c37 => ?_) (fun c37 => ?_)
    · exact absurd c37 (by decide)
    · refine aw_iconst dX12_sizeStep_40 ?_
      refine aw_goto (tgt := 50) dX12_sizeStep_41 rfl ?_
      refine aw_iast dX12_sizeStep_50 (by assumption) (by omega) (by first | decide | omega) ?_
      refine aw_iconst dX12_sizeStep_51 ?_
      refine aw_istore_n (ls1 := [(2, _), (0, _), (1, _)]) dX12_sizeStep_52 (by decide) rfl ?_
      refine aw_sub [0, 1, 2] rfl ?_
      exact fin _ rfl
  | false =>
    rw [ep] at KP fin
    refine Call.of (ls := [(0, vr (some a)), (1, vi sb)]) vX12_sizeStep.1 (Nat.le_of_ble_eq_true rfl) rfl ?_
    refine aw_aload_n dX12_sizeStep_0 rfl ?_
    refine aw_getr' (j := 15) dX12_sizeStep_1 fX12_34 rfl (by assumption) rfl (by assumption) ?_
    refine aw_iconst dX12_sizeStep_4 ?_
    refine aw_dup2 dX12_sizeStep_5 rfl rfl ?_
    refine aw_iald' dX12_sizeStep_6 (by assumption) (by omega) (by first | decide | omega) s0 ?_
    refine aw_iconst dX12_sizeStep_7 ?_
    refine aw_iadd dX12_sizeStep_8 ?_
    refine aw_iast dX12_sizeStep_9 (by assumption) (by omega) (by first | decide | omega) ?_
    refine aw_aload_n dX12_sizeStep_10 rfl ?_
    refine aw_getr' (j := 15) dX12_sizeStep_11 fX12_34 rfl (by assumption) rfl (by assumption) ?_
    refine aw_iconst dX12_sizeStep_14 ?_
    refine aw_dup2 dX12_sizeStep_15 rfl rfl ?_
    refine aw_iald' dX12_sizeStep_16 (by assumption) (by omega) (by first | decide | omega) ((gi_ne (Or.inr (by omega))).trans s1) ?_
    refine aw_aload_n dX12_sizeStep_17 rfl ?_
    refine aw_getr' (j := 12) dX12_sizeStep_18 fX12_28 rfl (by assumption) rfl (by assumption) ?_
    refine aw_iload_n dX12_sizeStep_21 rfl ?_
    refine aw_iconst dX12_sizeStep_22 ?_
    refine aw_iadd dX12_sizeStep_23 ?_
    refine aw_iald' dX12_sizeStep_24 (by assumption) (by omega) (by first | decide | omega) ((gi_ne (Or.inl (by omega))).trans g2) ?_
    refine aw_iadd dX12_sizeStep_25 ?_
    refine aw_iast dX12_sizeStep_26 (by assumption) (by omega) (by first | decide | omega) ?_
    refine aw_aload_n dX12_sizeStep_27 rfl ?_
    refine aw_getr' (j := 15) dX12_sizeStep_28 fX12_34 rfl (by assumption) rfl (by assumption) ?_
    refine aw_iconst dX12_sizeStep_31 ?_
    refine aw_aload_n dX12_sizeStep_32 rfl ?_
    refine aw_iload_n dX12_sizeStep_33 rfl ?_
    refine aw_invV_r dX12_sizeStep_34 vX12_isPositionalStep kX12_229 rfl (KP) ⟨_, (by assumption), _, _, rfl⟩ rfl rfl (by decide) (by decide) (by decide) (Nat.le_of_ble_eq_true rfl) ?_
    refine aw_if_eq (tgt := 44) dX12_sizeStep_37 rfl (by decide) (fun c37 => ?_) (fun c37 => ?_)
    · refine aw_aload_n dX12_sizeStep_44 rfl ?_
      refine aw_getr' (j := 15) dX12_sizeStep_45 fX12_34 rfl (by assumption) rfl (by assumption) ?_
      refine aw_iconst dX12_sizeStep_48 ?_
      refine aw_iald' dX12_sizeStep_49 (by assumption) (by omega) (by first | decide | omega) ((gi_ne (Or.inr (by omega))).trans ((gi_ne (Or.inr (by omega))).trans s3)) ?_
      refine aw_iast dX12_sizeStep_50 (by assumption) (by omega) (by first | decide | omega) ?_
      refine aw_iconst dX12_sizeStep_51 ?_
      refine aw_istore_n (ls1 := [(2, _), (0, _), (1, _)]) dX12_sizeStep_52 (by decide) rfl ?_
      refine aw_sub [0, 1, 2] rfl ?_
      exact fin _ rfl
    · exact absurd rfl c37
theorem l_so73 {γ : GG} {a : Nat} {v0 wh : Int} {i : Int} {pb : Int} {t : TT} {Q : AR → AH → Prop} {h : AH} (hM : shM h a) (ho : okW t) (hb : 1 ≤ pb ∧ pb + 1634 ≤ 6537) (hg : gT (gi h (a + 7)) pb t) : ∀ (r : List TS) (k : Nat) (x : ZZ) (H : AH), t.2.drop k = r → k ≤ t.2.length → eqG (SZ a) h H → isSz H a x → (∀ H', eqG (SZ a) h H' → isSz H' a (r.foldl szS x) → AW γ mX12_sizeOf 4 0 0 104 [(3, vi i), (0, vr (some a)), (1, vi v0), (2, vi wh)] [] H' Q) → AW γ mX12_sizeOf 4 0 0 73 [(5, vi (k : Int)), (4, vi pb), (3, vi i), (0, vr (some a)), (1, vi v0), (2, vi wh)] [] H Q := by
  have l8 := ho.2.1
  intro r
  induction r with
  | nil =>
    intro k x H hd hkl hE hs kk
    obtain ⟨hka, rq, kq⟩ := (hE.sh hM).q
    have hg1 := hg
    rw [← gi7z hE] at hg1
    have g0 := hg1.2.1
    have hk := List.drop_eq_nil_iff.mp hd
    refine aw_iload dX12_sizeOf_73 rfl ?_
    refine aw_aload_n dX12_sizeOf_75 rfl ?_
    refine aw_getr' (j := 12) dX12_sizeOf_76 fX12_28 rfl (by assumption) rfl (by assumption) ?_
    refine aw_iload dX12_sizeOf_79 rfl ?_
    refine aw_iconst dX12_sizeOf_81 ?_
    refine aw_iadd dX12_sizeOf_82 ?_
    refine aw_iald' dX12_sizeOf_83 (by assumption) (by omega) (by first | decide | omega) g0 ?_
    refine aw_ic_ge (tgt := 104) dX12_sizeOf_84 rfl (by omega) (by omega) (fun c84 => ?_) (fun c84 => ?_)
    · refine aw_sub [2, 3, 4, 5] rfl ?_
      exact kk H hE hs
    · exact absurd c84 (by omega)
  | cons s r ih =>
    intro k x H hd hkl hE hs kk
    have hM1 := hE.sh hM
    obtain ⟨hka, rq, kq⟩ := hM1.q
    have hg1 := hg
    rw [← gi7z hE] at hg1
    have g0 := hg1.2.1
    obtain ⟨hx, hdr, hlt⟩ := drop_hd hd
    have KC := m_stepAt (γ := γ) (h := H) (p := pb) (k := (k : Int))
    have KS := m_sizeStep (γ := γ) hM1 (ho.2.2 s (List.mem_of_getElem? hx)) (by omega) (hg1.2.2 k s hx) hs
    refine aw_iload dX12_sizeOf_73 rfl ?_
    refine aw_aload_n dX12_sizeOf_75 rfl ?_
    refine aw_getr' (j := 12) dX12_sizeOf_76 fX12_28 rfl (by assumption) rfl (by assumption) ?_
    refine aw_iload dX12_sizeOf_79 rfl ?_
    refine aw_iconst dX12_sizeOf_81 ?_
    refine aw_iadd dX12_sizeOf_82 ?_
    refine aw_iald' dX12_sizeOf_83 (by assumption) (by omega) (by first | decide | omega) g0 ?_
    refine aw_ic_ge (tgt := 104) dX12_sizeOf_84 rfl (by omega) (by omega) (fun c84 => ?_) (fun c84 => ?_)
    · exact absurd c84 (by omega)
    · refine aw_aload_n dX12_sizeOf_87 rfl ?_
      refine aw_iload dX12_sizeOf_88 rfl ?_
      refine aw_iload dX12_sizeOf_90 rfl ?_
      refine aw_invS_r dX12_sizeOf_92 sX12_stepAt kX12_165 rfl (KC) rfl rfl (by decide) (by decide) (by decide) (Nat.le_of_ble_eq_true rfl) ?_
      refine aw_invV_f dX12_sizeOf_95 vX12_sizeStep kX12_232 rfl (KS) ⟨_, (by assumption), _, _, rfl⟩ rfl rfl (by decide) (by decide) (by decide) (Nat.le_of_ble_eq_true rfl) (fun h1 hP9 => ?_)
      obtain ⟨E1, Z1⟩ := hP9
      refine aw_iinc (k9 := 0) (ls1 := [(5, _), (4, _), (3, _), (0, _), (1, _), (2, _)]) dX12_sizeOf_98 rfl (by decide) rfl ?_
      refine aw_goto (tgt := 73) dX12_sizeOf_101 rfl ?_
      refine aw_sub [0, 1, 2, 3, 4, 5] rfl ?_
      exact ih (k + 1) (szS x s) h1 hdr (by omega) (hE.tr E1) Z1 kk
theorem l_so54 {γ : GG} {a : Nat} {v0 wh : Int} {q : TQ} {Q : AR → AH → Prop} {h : AH} (hM : shM h a) (ho : okQ q) (hg : gQ (gi h (a + 7)) q) : ∀ (r : TQ) (k : Nat) (x : ZZ) (H : AH), q.drop k = r → k ≤ q.length → eqG (SZ a) h H → isSz H a x → (∀ H', eqG (SZ a) h H' → isSz H' a (r.foldl szT x) → AW γ mX12_sizeOf 4 0 0 110 [(0, vr (some a)), (1, vi v0), (2, vi wh)] [] H' Q) → AW γ mX12_sizeOf 4 0 0 54 [(3, vi (k : Int)), (0, vr (some a)), (1, vi v0), (2, vi wh)] [] H Q := by
  have l4 := ho.1
  intro r
  induction r with
  | nil =>
    intro k x H hd hkl hE hs kk
    obtain ⟨hka, rq, kq⟩ := (hE.sh hM).q
    have hg1 := hg
    rw [← gi7z hE] at hg1
    have g0 := hg1.1
    have hk := List.drop_eq_nil_iff.mp hd
    refine aw_iload_n dX12_sizeOf_54 rfl ?_
    refine aw_aload_n dX12_sizeOf_55 rfl ?_
    refine aw_getr' (j := 12) dX12_sizeOf_56 fX12_28 rfl (by assumption) rfl (by assumption) ?_
    refine aw_iconst dX12_sizeOf_59 ?_
    refine aw_iald' dX12_sizeOf_60 (by assumption) (by omega) (by first | decide | omega) g0 ?_
    refine aw_ic_ge (tgt := 110) dX12_sizeOf_61 rfl (by omega) (by omega) (fun c61 => ?_) (fun c61 => ?_)
    · refine aw_sub [1, 2, 3] rfl ?_
      exact kk H hE hs
    · exact absurd c61 (by omega)
  | cons t r ih =>
    intro k x H hd hkl hE hs kk
    have hM1 := hE.sh hM
    obtain ⟨hka, rq, kq⟩ := hM1.q
    have hg1 := hg
    rw [← gi7z hE] at hg1
    have g0 := hg1.1
    obtain ⟨hx, hdr, hlt⟩ := drop_hd hd
    have KC := m_pathAt (γ := γ) (h := H) (k := (k : Int))
    have L := l_so73 (γ := γ) (a := a) (v0 := v0) (wh := wh) (i := (k : Int)) (pb := 1 + 1634 * (k : Int)) (Q := Q) hM1 (ho.2 t (List.mem_of_getElem? hx)) (by omega) (hg1.2 k t hx) t.2 0 x H rfl (Nat.zero_le _) eqG.rf hs (fun H' hE' hs' => by
      have I := ih (k + 1) (szT x t) H' hdr (by omega) (hE.tr hE') hs' kk
      refine aw_iinc (k9 := 0) (ls1 := [(3, _), (0, _), (1, _), (2, _)]) dX12_sizeOf_104 rfl (by decide) rfl ?_
      refine aw_goto (tgt := 54) dX12_sizeOf_107 rfl ?_
      refine aw_sub [0, 1, 2, 3] rfl ?_
      exact I)
    refine aw_iload_n dX12_sizeOf_54 rfl ?_
    refine aw_aload_n dX12_sizeOf_55 rfl ?_
    refine aw_getr' (j := 12) dX12_sizeOf_56 fX12_28 rfl (by assumption) rfl (by assumption) ?_
    refine aw_iconst dX12_sizeOf_59 ?_
    refine aw_iald' dX12_sizeOf_60 (by assumption) (by omega) (by first | decide | omega) g0 ?_
    refine aw_ic_ge (tgt := 110) dX12_sizeOf_61 rfl (by omega) (by omega) (fun c61 => ?_) (fun c61 => ?_)
    · exact absurd c61 (by omega)
    · refine aw_iload_n dX12_sizeOf_64 rfl ?_
      refine aw_invS_r dX12_sizeOf_65 sX12_pathAt kX12_180 rfl (KC) rfl rfl (by decide) (by decide) (by decide) (Nat.le_of_ble_eq_true rfl) ?_
      refine aw_istore (ls1 := [(4, _), (3, _), (0, _), (1, _), (2, _)]) dX12_sizeOf_68 (by decide) rfl ?_
      refine aw_iconst dX12_sizeOf_70 ?_
      refine aw_istore (ls1 := [(5, _), (4, _), (3, _), (0, _), (1, _), (2, _)]) dX12_sizeOf_71 (by decide) rfl ?_
      refine aw_sub [0, 1, 2, 3, 4, 5] rfl ?_
      exact L
/-- the numbers of a query, 1 to 4 -/
def numQ (q : TQ) (k : Int) : Int := if k = 1 then ((q.map (fun t => t.2.length)).sum : Nat) else if k = 2 then ((q.map nPred).sum : Nat) else if k = 3 then ((q.map nCond).sum : Nat) else bI (isPosQ q)
theorem l_so34 {γ : GG} {a : Nat} {v0 wh : Int} {q : TQ} {h : AH} (hM : shM h a) (ho : okQ q) (hg : gQ (gi h (a + 7)) q) (hw : 1 ≤ wh ∧ wh ≤ 4) : ∀ (m k : Nat) (H : AH), k + m = 4 → eqG (SZ a) h H → (∀ j : Nat, j < k → gi H (a + 9) j = 0) → AW γ mX12_sizeOf 4 0 0 34 [(3, vi (k : Int)), (0, vr (some a)), (1, vi v0), (2, vi wh)] [] H (rE (vi (numQ q wh)) (eqG (SZ a) h)) := by
  intro m
  induction m with
  | zero =>
    intro k H hkm hE hj
    obtain ⟨hka, rq, kq⟩ := (hE.sh hM).q
    have hg1 := hg
    rw [← gi7z hE] at hg1
    have z0 := hj 0 (by omega)
    have z1 := hj 1 (by omega)
    have z2 := hj 2 (by omega)
    have z3 := hj 3 (by omega)
    have L := l_so54 (γ := γ) (a := a) (v0 := v0) (wh := wh) (Q := rE (vi (numQ q wh)) (eqG (SZ a) h)) (hE.sh hM) ho hg1 q 0 (0, 0, 0, false) H rfl (Nat.zero_le _) eqG.rf ⟨z0, z1, z2, z3⟩ (fun H' hE' hs' => by
      have hM1 := (hE.tr hE').sh hM
      obtain ⟨hka, rq, kq⟩ := hM1.q
      obtain ⟨rz, kz⟩ := hM1.z
      rw [szQ_eq] at hs'
      obtain ⟨s0, s1, s2, s3⟩ := hs'
      have ev : gi H' (a + 9) (wh - 1) = numQ q wh := by
        unfold numQ
        by_cases q1 : wh = 1
        · rw [if_pos q1, show wh - 1 = 0 by omega, s0]; simp
        · rw [if_neg q1]
          by_cases q2 : wh = 2
          · rw [if_pos q2, show wh - 1 = 1 by omega, s1]; simp
          · rw [if_neg q2]
            by_cases q3 : wh = 3
            · rw [if_pos q3, show wh - 1 = 2 by omega, s2]; simp
            · rw [if_neg q3, show wh - 1 = 3 by omega, s3, Bool.or_false]
      refine aw_aload_n dX12_sizeOf_110 rfl ?_
      refine aw_getr' (j := 15) dX12_sizeOf_111 fX12_34 rfl (by assumption) rfl (by assumption) ?_
      refine aw_iload_n dX12_sizeOf_114 rfl ?_
      refine aw_iconst dX12_sizeOf_115 ?_
      refine aw_isub dX12_sizeOf_116 ?_
      refine aw_iald' dX12_sizeOf_117 (by assumption) (by omega) (by first | decide | omega) ev ?_
      exact aw_ireturn dX12_sizeOf_118 rfl (Or.inl rfl) ⟨rfl, hE.tr hE'⟩)
    refine aw_iload_n dX12_sizeOf_34 rfl ?_
    refine aw_iconst dX12_sizeOf_35 ?_
    refine aw_ic_ge (tgt := 52) dX12_sizeOf_36 rfl (by omega) (by omega) (fun c36 => ?_) (fun c36 => ?_)
    · refine aw_iconst dX12_sizeOf_52 ?_
      refine aw_istore_n (ls1 := [(3, _), (0, _), (1, _), (2, _)]) dX12_sizeOf_53 (by decide) rfl ?_
      refine aw_sub [0, 1, 2, 3] rfl ?_
      exact L
    · exact absurd c36 (by omega)
  | succ m ih =>
    intro k H hkm hE hj
    obtain ⟨hka, rq, kq⟩ := (hE.sh hM).q
    obtain ⟨rz, kz⟩ := (hE.sh hM).z
    have I := ih (k + 1) (si H (a + 9) (k : Int) 0) (by omega) (hE.tr (eqG.si rfl)) (fun j hj2 => by
      by_cases z : j = k
      · exact gi_at rfl (by omega)
      · exact (gi_ne (Or.inr (by omega))).trans (hj j (by omega)))
    refine aw_iload_n dX12_sizeOf_34 rfl ?_
    refine aw_iconst dX12_sizeOf_35 ?_
    refine aw_ic_ge (tgt := 52) dX12_sizeOf_36 rfl (by omega) (by omega) (fun c36 => ?_) (fun c36 => ?_)
    · exact absurd c36 (by omega)
    · refine aw_aload_n dX12_sizeOf_39 rfl ?_
      refine aw_getr' (j := 15) dX12_sizeOf_40 fX12_34 rfl (by assumption) rfl (by assumption) ?_
      refine aw_iload_n dX12_sizeOf_43 rfl ?_
      refine aw_iconst dX12_sizeOf_44 ?_
      refine aw_iast dX12_sizeOf_45 (by assumption) (by omega) (by first | decide | omega) ?_
      refine aw_iinc (k9 := 0) (ls1 := [(3, _), (0, _), (1, _), (2, _)]) dX12_sizeOf_46 rfl (by decide) rfl ?_
      refine aw_goto (tgt := 34) dX12_sizeOf_49 rfl ?_
      refine aw_sub [0, 1, 2, 3] rfl ?_
      exact I
theorem m_sizeOf {γ : GG} {h : AH} {a : Nat} {pl wh : Int} {q : TQ} {n : Nat} (hM : shM h a) (ho : okQ q) (hg : gQ (gi h (a + 7)) q) (hw : 0 ≤ wh ∧ wh ≤ 5) (hpl : 0 ≤ pl ∧ pl ≤ 3) (hn : gi h (a + 1) (121 + pl) = n) : Call γ mX12_sizeOf 4 0 0 [vr (some a), vi pl, vi wh] h (rE (vi (if wh = 0 then (q.length : Int) else if wh = 5 then (n : Int) else numQ q wh)) (eqG (SZ a) h)) := by
  obtain ⟨hka, rq, kq⟩ := hM.q
  obtain ⟨rm, km⟩ := hM.2.1
  have g0 := hg.1
  by_cases q0 : wh = 0
  · rw [if_pos q0]
    refine Call.of (ls := [(0, vr (some a)), (1, vi pl), (2, vi wh)]) vX12_sizeOf.1 (Nat.le_of_ble_eq_true rfl) rfl ?_
    refine aw_iload_n dX12_sizeOf_0 rfl ?_
    refine aw_if_eq (tgt := 9) dX12_sizeOf_1 rfl (by omega) (fun c1 => ?_) (fun c1 => ?_)
    · refine aw_iload_n dX12_sizeOf_9 rfl ?_
      refine aw_if_ne (tgt := 22) dX12_sizeOf_10 rfl (by omega) (fun c10 => ?_) (fun c10 => ?_)
      · exact absurd c10 (by omega)
      · refine aw_aload_n dX12_sizeOf_13 rfl ?_
        refine aw_getr' (j := 12) dX12_sizeOf_14 fX12_28 rfl (by assumption) rfl (by assumption) ?_
        refine aw_iconst dX12_sizeOf_17 ?_
        refine aw_iald' dX12_sizeOf_18 (by assumption) (by omega) (by first | decide | omega) g0 ?_
        refine aw_goto (tgt := 31) dX12_sizeOf_19 rfl ?_
        exact aw_ireturn dX12_sizeOf_31 rfl (Or.inl rfl) ⟨rfl, eqG.rf⟩
    · exact absurd c1 (by omega)
  · rw [if_neg q0]
    by_cases q5 : wh = 5
    · rw [if_pos q5]
      refine Call.of (ls := [(0, vr (some a)), (1, vi pl), (2, vi wh)]) vX12_sizeOf.1 (Nat.le_of_ble_eq_true rfl) rfl ?_
      refine aw_iload_n dX12_sizeOf_0 rfl ?_
      refine aw_if_eq (tgt := 9) dX12_sizeOf_1 rfl (by omega) (fun c1 => ?_) (fun c1 => ?_)
      · exact absurd c1 (by omega)
      · refine aw_iload_n dX12_sizeOf_4 rfl ?_
        refine aw_iconst dX12_sizeOf_5 ?_
        refine aw_ic_ne (tgt := 32) dX12_sizeOf_6 rfl (by omega) (by omega) (fun c6 => ?_) (fun c6 => ?_)
        · exact absurd c6 (by omega)
        · refine aw_iload_n dX12_sizeOf_9 rfl ?_
          refine aw_if_ne (tgt := 22) dX12_sizeOf_10 rfl (by omega) (fun c10 => ?_) (fun c10 => ?_)
          · refine aw_aload_n dX12_sizeOf_22 rfl ?_
            refine aw_getr' (j := 0) dX12_sizeOf_23 fX12_7 rfl (by assumption) rfl (by assumption) ?_
            refine aw_bipush dX12_sizeOf_26 rfl ?_
            refine aw_iload_n dX12_sizeOf_28 rfl ?_
            refine aw_iadd dX12_sizeOf_29 ?_
            refine aw_iald' dX12_sizeOf_30 (by assumption) (by omega) (by first | decide | omega) hn ?_
            exact aw_ireturn dX12_sizeOf_31 rfl (Or.inl rfl) ⟨rfl, eqG.rf⟩
          · exact absurd c10 (by omega)
    · rw [if_neg q5]
      have L := l_so34 (γ := γ) (v0 := pl) (wh := wh) hM ho hg (by omega) 4 0 h (by omega) eqG.rf (fun j hj => absurd hj (by omega))
      refine Call.of (ls := [(0, vr (some a)), (1, vi pl), (2, vi wh)]) vX12_sizeOf.1 (Nat.le_of_ble_eq_true rfl) rfl ?_
      refine aw_iload_n dX12_sizeOf_0 rfl ?_
      refine aw_if_eq (tgt := 9) dX12_sizeOf_1 rfl (by omega) (fun c1 => ?_) (fun c1 => ?_)
      · exact absurd c1 (by omega)
      · refine aw_iload_n dX12_sizeOf_4 rfl ?_
        refine aw_iconst dX12_sizeOf_5 ?_
        refine aw_ic_ne (tgt := 32) dX12_sizeOf_6 rfl (by omega) (by omega) (fun c6 => ?_) (fun c6 => ?_)
        · refine aw_iconst dX12_sizeOf_32 ?_
          refine aw_istore_n (ls1 := [(3, _), (0, _), (1, _), (2, _)]) dX12_sizeOf_33 (by decide) rfl ?_
          refine aw_sub [0, 1, 2, 3] rfl ?_
          exact L
        · exact absurd c6 (by omega)
