/-! ===== Evaluator: prepareStep ===== -/
/-- what a step gives for a node when n of its predicates are applied -/
def gvN (T : Tr) (s : TS) (v : Nat) : Nat → Nat → Bool
  | 0 => fun k => alS T s.1.1 v k && psS T s.1.2 k
  | n + 1 => kpR T s (gvN T s v n) n 3
def agH (h : AH) (e : Nat) (T : Tr) (s : TS) : Prop := ∀ k c, cAt s.2 k = some c → gl h (e + 2) k = S9 (nfS T c)
theorem eqT.shE {S : Nat → Prop} {h h' : AH} {e : Nat} (q : eqT S h h') (hE : shE h e) : shE h' e := by
  obtain ⟨k0, r1, k1, r2, k2⟩ := hE
  exact ⟨(q.2 e).1.trans k0, ((q.2 e).2.1 0).trans r1, (q.2 (e + 1)).1.trans k1, ((q.2 e).2.1 1).trans r2, (q.2 (e + 2)).1.trans k2⟩
theorem cAt_lt {ps : List TP} {k : Nat} {c : TC} (h : cAt ps k = some c) : k < 9 * ps.length := by
  obtain ⟨p, x, h1, -, -⟩ := cAt_get h
  have : k / 9 < ps.length := by
    by_cases z : k / 9 < ps.length
    · exact z
    · rw [List.getElem?_eq_none (by omega)] at h1; cases h1
  omega
theorem l_ps3 {γ : GG} {e t a r : Nat} {T : Tr} {s : TS} {h : AH} {Q : AR → AH → Prop} (hE : shE h e) (hT : isTr h t T) (ho : okTr T) (hS : isS h a s) (hs : okS s) (hd1 : e + 3 ≤ t ∨ t + 10 ≤ e) (hd2 : e + 3 ≤ a ∨ a + 2 ≤ e) (kk : ∀ H, eqT (fun b => b = e + 2) h H → agH H e T s → AW γ mX1_prepareStep 4 0 0 46 [(0, vr (some e)), (1, vr (some t)), (2, vr (some a)), (3, vi (r : Int))] [] H Q) : ∀ (m k : Nat) (H : AH), k + m = 9 * s.2.length → eqT (fun b => b = e + 2) h H → (∀ j c, j < k → cAt s.2 j = some c → gl H (e + 2) j = S9 (nfS T c)) → AW γ mX1_prepareStep 4 0 0 3 [(4, vi (k : Int)), (0, vr (some e)), (1, vr (some t)), (2, vr (some a)), (3, vi (r : Int))] [] H Q := by
  have l3 : s.2.length ≤ 3 := hs.2.1
  intro m
  induction m with
  | zero =>
    intro k H hk hq hI
    have hT1 : isTr H t T := hT.eq (fun b b1 b2 => hq.eqA (by omega))
    obtain ⟨hSh, s0, s1, s2, s3⟩ : isS H a s := hS.eq (hq.eqA (by omega)) (hq.eqA (by omega))
    obtain ⟨ka, ra, kb⟩ := hSh
    have K := kk H hq (fun j c hc => hI j c (by have := cAt_lt hc; omega) hc)
    refine aw_iload dX1_prepareStep_3 rfl ?_
    refine aw_aload_n dX1_prepareStep_5 rfl ?_
    refine aw_geti' (j := 2) dX1_prepareStep_6 fX1_66 rfl (by assumption) rfl s2 ?_
    refine aw_bipush dX1_prepareStep_9 rfl ?_
    refine aw_imul dX1_prepareStep_11 ?_
    rw [show (s.2.length : Int) * 9 = ((9 * s.2.length : Nat) : Int) by omega]
    refine aw_ic_ge (tgt := 46) dX1_prepareStep_12 rfl (by omega) (by omega) (fun c12 => ?_) (fun c12 => ?_)
    · refine aw_sub [1, 2, 3, 4] rfl ?_
      exact K
    · exact absurd c12 (by omega)
  | succ m ih =>
    intro k H hk hq hI
    have hT1 : isTr H t T := hT.eq (fun b b1 b2 => hq.eqA (by omega))
    obtain ⟨hSh, s0, s1, s2, s3⟩ : isS H a s := hS.eq (hq.eqA (by omega)) (hq.eqA (by omega))
    obtain ⟨ka, ra, kb⟩ := hSh
    obtain ⟨k0, r1, k1, r2, k2⟩ := hq.shE hE
    have g3 := s3 k (by omega)
    rw [slotv_so] at g3
    have I : ∀ z : Int64, (∀ c, cAt s.2 k = some c → z = S9 (nfS T c)) → AW γ mX1_prepareStep 4 0 0 3 [(4, vi ((k + 1 : Nat) : Int)), (0, vr (some e)), (1, vr (some t)), (2, vr (some a)), (3, vi (r : Int))] [] (sl H (e + 2) k z) Q := fun z hz => ih (k + 1) _ (by omega) (hq.tr (eqT.wl rfl)) (fun j c hj hc => by
      by_cases q : j = k
      · subst q
        exact (gl_at rfl rfl).trans (hz c hc)
      · exact (gl_ne (Or.inr (by omega))).trans (hI j c (by omega) hc))
    cases hc : cAt s.2 k with
    | none =>
      rw [hc] at g3
      have g3 : gi H (a + 1) k = 0 := g3
      have CN := c_nodesFor0 (γ := γ) (h := H) (t := t)
      have I := I (S9 (fun _ => false)) (fun c h9 => by rw [hc] at h9; cases h9)
      refine aw_iload dX1_prepareStep_3 rfl ?_
      refine aw_aload_n dX1_prepareStep_5 rfl ?_
      refine aw_geti' (j := 2) dX1_prepareStep_6 fX1_66 rfl (by assumption) rfl s2 ?_
      refine aw_bipush dX1_prepareStep_9 rfl ?_
      refine aw_imul dX1_prepareStep_11 ?_
      rw [show (s.2.length : Int) * 9 = ((9 * s.2.length : Nat) : Int) by omega]
      refine aw_ic_ge (tgt := 46) dX1_prepareStep_12 rfl (by omega) (by omega) (fun c12 => ?_) (fun c12 => ?_)
      · exact absurd c12 (by omega)
      · refine aw_iload dX1_prepareStep_15 rfl ?_
        refine aw_bipush dX1_prepareStep_17 rfl ?_
        refine aw_ic_ge (tgt := 46) dX1_prepareStep_19 rfl (by omega) (by omega) (fun c19 => ?_) (fun c19 => ?_)
        · exact absurd c19 (by omega)
        · refine aw_aload_n dX1_prepareStep_22 rfl ?_
          refine aw_getr' (j := 1) dX1_prepareStep_23 fX1_15 rfl (by assumption) rfl (by assumption) ?_
          refine aw_iload dX1_prepareStep_26 rfl ?_
          refine aw_aload_n dX1_prepareStep_28 rfl ?_
          refine aw_aload_n dX1_prepareStep_29 rfl ?_
          refine aw_getr' (j := 3) dX1_prepareStep_30 fX1_71 rfl (by assumption) rfl (by assumption) ?_
          refine aw_iload dX1_prepareStep_33 rfl ?_
          refine aw_iald' dX1_prepareStep_35 (by assumption) (by omega) (by first | decide | omega) g3 ?_
          refine aw_invS_r dX1_prepareStep_36 sX1_nodesFor kX1_75 rfl (CN) rfl rfl (by decide) (by decide) (by decide) (Nat.le_of_ble_eq_true rfl) ?_
          refine aw_last dX1_prepareStep_39 (by assumption) (by omega) (by first | decide | omega) ?_
          refine aw_iinc (k9 := 0) (ls1 := [(4, _), (0, _), (1, _), (2, _), (3, _)]) dX1_prepareStep_40 rfl (by decide) rfl ?_
          refine aw_goto (tgt := 3) dX1_prepareStep_43 rfl ?_
          refine aw_sub [0, 1, 2, 3, 4] rfl ?_
          exact I
    | some c =>
      rw [hc] at g3
      have g3 : gi H (a + 1) k = pk c := g3
      have CN := c_nodesFor (γ := γ) hT1 ho (cAt_ok hs.2.2 hc).1
      have I := I (S9 (nfS T c)) (fun c2 h9 => by rw [hc] at h9; cases h9; rfl)
      refine aw_iload dX1_prepareStep_3 rfl ?_
      refine aw_aload_n dX1_prepareStep_5 rfl ?_
      refine aw_geti' (j := 2) dX1_prepareStep_6 fX1_66 rfl (by assumption) rfl s2 ?_
      refine aw_bipush dX1_prepareStep_9 rfl ?_
      refine aw_imul dX1_prepareStep_11 ?_
      rw [show (s.2.length : Int) * 9 = ((9 * s.2.length : Nat) : Int) by omega]
      refine aw_ic_ge (tgt := 46) dX1_prepareStep_12 rfl (by omega) (by omega) (fun c12 => ?_) (fun c12 => ?_)
      · exact absurd c12 (by omega)
      · refine aw_iload dX1_prepareStep_15 rfl ?_
        refine aw_bipush dX1_prepareStep_17 rfl ?_
        refine aw_ic_ge (tgt := 46) dX1_prepareStep_19 rfl (by omega) (by omega) (fun c19 => ?_) (fun c19 => ?_)
        · exact absurd c19 (by omega)
        · refine aw_aload_n dX1_prepareStep_22 rfl ?_
          refine aw_getr' (j := 1) dX1_prepareStep_23 fX1_15 rfl (by assumption) rfl (by assumption) ?_
          refine aw_iload dX1_prepareStep_26 rfl ?_
          refine aw_aload_n dX1_prepareStep_28 rfl ?_
          refine aw_aload_n dX1_prepareStep_29 rfl ?_
          refine aw_getr' (j := 3) dX1_prepareStep_30 fX1_71 rfl (by assumption) rfl (by assumption) ?_
          refine aw_iload dX1_prepareStep_33 rfl ?_
          refine aw_iald' dX1_prepareStep_35 (by assumption) (by omega) (by first | decide | omega) g3 ?_
          refine aw_invS_r dX1_prepareStep_36 sX1_nodesFor kX1_75 rfl (CN) rfl rfl (by decide) (by decide) (by decide) (Nat.le_of_ble_eq_true rfl) ?_
          refine aw_last dX1_prepareStep_39 (by assumption) (by omega) (by first | decide | omega) ?_
          refine aw_iinc (k9 := 0) (ls1 := [(4, _), (0, _), (1, _), (2, _), (3, _)]) dX1_prepareStep_40 rfl (by decide) rfl ?_
          refine aw_goto (tgt := 3) dX1_prepareStep_43 rfl ?_
          refine aw_sub [0, 1, 2, 3, 4] rfl ?_
          exact I
theorem l_ps98 {γ : GG} {e t a r : Nat} {T : Tr} {s : TS} {h : AH} {v : Nat} {z : Int64} {Q : AR → AH → Prop} (hE : shE h e) (hS : isS h a s) (hs : okS s) (hA : agH h e T s) (kk : AW γ mX1_prepareStep 4 0 0 124 [(7, vl (S9 (gvN T s v s.2.length))), (6, vi (v : Int)), (4, vl z), (0, vr (some e)), (1, vr (some t)), (2, vr (some a)), (3, vi (r : Int))] [] h Q) : ∀ (m i : Nat), i + m = s.2.length → AW γ mX1_prepareStep 4 0 0 98 [(9, vi (i : Int)), (7, vl (S9 (gvN T s v i))), (6, vi (v : Int)), (4, vl z), (0, vr (some e)), (1, vr (some t)), (2, vr (some a)), (3, vi (r : Int))] [] h Q := by
  have l3 : s.2.length ≤ 3 := hs.2.1
  obtain ⟨hSh, s0, s1, s2, s3⟩ := hS
  have hS : isS h a s := ⟨hSh, s0, s1, s2, s3⟩
  obtain ⟨ka, ra, kb⟩ := hSh
  have k0 := hE.1
  intro m
  induction m with
  | zero =>
    intro i hi
    obtain rfl : i = s.2.length := by omega
    refine aw_iload dX1_prepareStep_98 rfl ?_
    refine aw_aload_n dX1_prepareStep_100 rfl ?_
    refine aw_geti' (j := 2) dX1_prepareStep_101 fX1_66 rfl (by assumption) rfl s2 ?_
    refine aw_ic_ge (tgt := 124) dX1_prepareStep_104 rfl (by omega) (by omega) (fun c104 => ?_) (fun c104 => ?_)
    · refine aw_sub [1, 2, 3, 4, 5, 6, 7] rfl ?_
      exact kk
    · exact absurd c104 (by omega)
  | succ m ih =>
    intro i hi
    have CK := c_keep (γ := γ) (i := i) (T := T) (g := gvN T s v i) hE hS hs hA (by omega)
    have I := ih (i + 1) (by omega)
    refine aw_iload dX1_prepareStep_98 rfl ?_
    refine aw_aload_n dX1_prepareStep_100 rfl ?_
    refine aw_geti' (j := 2) dX1_prepareStep_101 fX1_66 rfl (by assumption) rfl s2 ?_
    refine aw_ic_ge (tgt := 124) dX1_prepareStep_104 rfl (by omega) (by omega) (fun c104 => ?_) (fun c104 => ?_)
    · exact absurd c104 (by omega)
    · refine aw_aload_n dX1_prepareStep_107 rfl ?_
      refine aw_aload_n dX1_prepareStep_108 rfl ?_
      refine aw_iload dX1_prepareStep_109 rfl ?_
      refine aw_lload dX1_prepareStep_111 rfl ?_
      refine aw_invV_r dX1_prepareStep_113 vX1_keep kX1_93 rfl (CK) ⟨_, (by assumption), _, _, rfl⟩ rfl rfl (by decide) (by decide) (by decide) (Nat.le_of_ble_eq_true rfl) ?_
      refine aw_lstore (ls1 := [(7, _), (9, _), (6, _), (4, _), (0, _), (1, _), (2, _), (3, _)]) dX1_prepareStep_116 (by decide) rfl ?_
      refine aw_iinc (k9 := 1) (ls1 := [(9, _), (7, _), (6, _), (4, _), (0, _), (1, _), (2, _), (3, _)]) dX1_prepareStep_118 rfl (by decide) rfl ?_
      refine aw_goto (tgt := 98) dX1_prepareStep_121 rfl ?_
      refine aw_sub [0, 1, 2, 3, 4, 5, 6, 7] rfl ?_
      exact I
theorem l_ps59 {γ : GG} {e t a r : Nat} {T : Tr} {s : TS} {h : AH} (hE : shE h e) (hT : isTr h t T) (ho : okTr T) (hS : isS h a s) (hs : okS s) (hd1 : e + 3 ≤ t ∨ t + 10 ≤ e) (hd2 : e + 3 ≤ a ∨ a + 2 ≤ e) (hA : agH h e T s) (hr : r + 40 ≤ 1280) : ∀ (m v : Nat) (H : AH), v + m = tn T → eqT (fun b => b = e + 1) h H → (∀ j, j < v → gl H (e + 1) ((r : Int) + (j : Int)) = S9 (gvN T s j s.2.length)) → (∀ x : Int, (x < r ∨ (r : Int) + 40 ≤ x) → gl H (e + 1) x = gl h (e + 1) x) → AW γ mX1_prepareStep 4 0 0 59 [(6, vi (v : Int)), (4, vl (S9 (psS T s.1.2))), (0, vr (some e)), (1, vr (some t)), (2, vr (some a)), (3, vi (r : Int))] [] H (rF (fun h' => eqT (fun b => b = e + 1) h h' ∧ (∀ j, j < tn T → gl h' (e + 1) ((r : Int) + (j : Int)) = S9 (gvN T s j s.2.length)) ∧ ∀ x : Int, (x < r ∨ (r : Int) + 40 ≤ x) → gl h' (e + 1) x = gl h (e + 1) x)) := by
  have n40 : tn T ≤ 40 := ho.2.1
  have a9 := hs.1
  obtain ⟨a91, a92, a93, a94⟩ := a9
  obtain ⟨ax, hax⟩ := Int.eq_ofNat_of_zero_le a91
  have hax : s.1.1 = (ax : Int) := hax
  intro m
  induction m with
  | zero =>
    intro v H hv hq hI hX
    obtain ⟨hTs, h0, -⟩ : isTr H t T := hT.eq (fun b b1 b2 => hq.eqA (by omega))
    have kt := hTs.1
    obtain rfl : v = tn T := by omega
    refine aw_iload dX1_prepareStep_59 rfl ?_
    refine aw_aload_n dX1_prepareStep_61 rfl ?_
    refine aw_geti' (j := 0) dX1_prepareStep_62 fX1_85 rfl (by assumption) rfl h0 ?_
    refine aw_ic_ge (tgt := 141) dX1_prepareStep_65 rfl (by omega) (by omega) (fun c65 => ?_) (fun c65 => ?_)
    · exact aw_return dX1_prepareStep_141 rfl (Or.inl rfl) ⟨rfl, hq, hI, hX⟩
    · exact absurd c65 (by omega)
  | succ m ih =>
    intro v H hv hq hI hX
    have hT1 : isTr H t T := hT.eq (fun b b1 b2 => hq.eqA (by omega))
    have hS1 : isS H a s := hS.eq (hq.eqA (by omega)) (hq.eqA (by omega))
    have hE1 := hq.shE hE
    have hA1 : agH H e T s := fun k c hc => (((hq.2 (e + 2)).2.2 (by omega) k).2).trans (hA k c hc)
    have CAl := c_along (γ := γ) (v := v) (ax := ax) hT1 ho (by omega) (by omega)
    rw [← hax] at CAl
    have L := l_ps98 (γ := γ) (t := t) (r := r) (v := v) (z := S9 (psS T s.1.2)) (Q := (rF (fun h' => eqT (fun b => b = e + 1) h h' ∧ (∀ j, j < tn T → gl h' (e + 1) ((r : Int) + (j : Int)) = S9 (gvN T s j s.2.length)) ∧ ∀ x : Int, (x < r ∨ (r : Int) + 40 ≤ x) → gl h' (e + 1) x = gl h (e + 1) x))) hE1 hS1 hs hA1 (by
      obtain ⟨k0, r1, k1, r2, k2⟩ := hE1
      have I := ih (v + 1) (sl H (e + 1) ((r : Int) + (v : Int)) (S9 (gvN T s v s.2.length))) (by omega) (hq.tr (eqT.wl rfl)) (fun j hj => by
        by_cases q : j = v
        · subst q
          exact gl_at rfl rfl
        · exact (gl_ne (Or.inr (by omega))).trans (hI j (by omega))) (fun x hx => (gl_ne (Or.inr (by omega))).trans (hX x hx))
      refine aw_aload_n dX1_prepareStep_124 rfl ?_
      refine aw_getr' (j := 0) dX1_prepareStep_125 fX1_9 rfl (by assumption) rfl (by assumption) ?_
      refine aw_iload_n dX1_prepareStep_128 rfl ?_
      refine aw_iload dX1_prepareStep_129 rfl ?_
      refine aw_iadd dX1_prepareStep_131 ?_
      refine aw_lload dX1_prepareStep_132 rfl ?_
      refine aw_last dX1_prepareStep_134 (by assumption) (by omega) (by first | decide | omega) ?_
      refine aw_iinc (k9 := 1) (ls1 := [(6, _), (7, _), (4, _), (0, _), (1, _), (2, _), (3, _)]) dX1_prepareStep_135 rfl (by decide) rfl ?_
      refine aw_goto (tgt := 59) dX1_prepareStep_138 rfl ?_
      refine aw_sub [0, 2, 3, 4, 5, 6] rfl ?_
      exact I) s.2.length 0 (by omega)
    have e0 : S9 (alS T s.1.1 v) &&& S9 (psS T s.1.2) = S9 (gvN T s v 0) := by rw [S9_and]; rfl
    obtain ⟨k0, r1, k1, r2, k2⟩ := hE1
    obtain ⟨hSh, s0, s1, s2, s3⟩ := hS1
    obtain ⟨ka, ra, kb⟩ := hSh
    obtain ⟨hTs, h0, -⟩ := hT1
    have kt := hTs.1
    refine aw_iload dX1_prepareStep_59 rfl ?_
    refine aw_aload_n dX1_prepareStep_61 rfl ?_
    refine aw_geti' (j := 0) dX1_prepareStep_62 fX1_85 rfl (by assumption) rfl h0 ?_
    refine aw_ic_ge (tgt := 141) dX1_prepareStep_65 rfl (by omega) (by omega) (fun c65 => ?_) (fun c65 => ?_)
    · exact absurd c65 (by omega)
    · refine aw_iload_n dX1_prepareStep_68 rfl ?_
      refine aw_iload dX1_prepareStep_69 rfl ?_
      refine aw_iadd dX1_prepareStep_71 ?_
      refine aw_aload_n dX1_prepareStep_72 rfl ?_
      refine aw_getr' (j := 0) dX1_prepareStep_73 fX1_9 rfl (by assumption) rfl (by assumption) ?_
      refine aw_alen dX1_prepareStep_76 (by assumption) (by decide) ?_
      refine aw_ic_ge (tgt := 141) dX1_prepareStep_77 rfl (by omega) (by omega) (fun c77 => ?_) (fun c77 => ?_)
      · exact absurd c77 (by omega)
      · refine aw_aload_n dX1_prepareStep_80 rfl ?_
        refine aw_aload_n dX1_prepareStep_81 rfl ?_
        refine aw_geti' (j := 0) dX1_prepareStep_82 fX1_86 rfl (by assumption) rfl s0 ?_
        refine aw_iload dX1_prepareStep_85 rfl ?_
        refine aw_invV_r dX1_prepareStep_87 vX10_along kX1_89 rfl (CAl) ⟨_, (by assumption), _, _, rfl⟩ rfl rfl (by decide) (by decide) (by decide) (Nat.le_of_ble_eq_true rfl) ?_
        refine aw_lload dX1_prepareStep_90 rfl ?_
        refine aw_land dX1_prepareStep_92 ?_
        rw [e0]
        refine aw_lstore (ls1 := [(7, _), (6, _), (4, _), (0, _), (1, _), (2, _), (3, _)]) dX1_prepareStep_93 (by decide) rfl ?_
        refine aw_iconst dX1_prepareStep_95 ?_
        refine aw_istore (ls1 := [(9, _), (7, _), (6, _), (4, _), (0, _), (1, _), (2, _), (3, _)]) dX1_prepareStep_96 (by decide) rfl ?_
        refine aw_sub [0, 1, 2, 3, 4, 5, 6, 7] rfl ?_
        exact L
theorem c_prepareStep {γ : GG} {e t a r : Nat} {T : Tr} {s : TS} {h : AH} (hE : shE h e) (hT : isTr h t T) (ho : okTr T) (hS : isS h a s) (hs : okS s) (hd1 : e + 3 ≤ t ∨ t + 10 ≤ e) (hd2 : e + 3 ≤ a ∨ a + 2 ≤ e) (hr : r + 40 ≤ 1280) : Call γ mX1_prepareStep 4 0 0 [vr (some e), vr (some t), vr (some a), vi (r : Int)] h (rF (fun h' => eqT (fun b => b = e + 1 ∨ b = e + 2) h h' ∧ (∀ j, j < tn T → gl h' (e + 1) ((r : Int) + (j : Int)) = S9 (gvN T s j s.2.length)) ∧ ∀ x : Int, (x < r ∨ (r : Int) + 40 ≤ x) → gl h' (e + 1) x = gl h (e + 1) x)) := by
  have a9 := hs.1
  obtain ⟨a91, a92, a93, a94⟩ := a9
  have L := l_ps3 (γ := γ) (r := r) (Q := rF (fun h' => eqT (fun b => b = e + 1 ∨ b = e + 2) h h' ∧ (∀ j, j < tn T → gl h' (e + 1) ((r : Int) + (j : Int)) = S9 (gvN T s j s.2.length)) ∧ ∀ x : Int, (x < r ∨ (r : Int) + 40 ≤ x) → gl h' (e + 1) x = gl h (e + 1) x)) hE hT ho hS hs hd1 hd2 (fun H hq hA => by
    have hT1 : isTr H t T := hT.eq (fun b b1 b2 => hq.eqA (by omega))
    have hS1 : isS H a s := hS.eq (hq.eqA (by omega)) (hq.eqA (by omega))
    have hE1 := hq.shE hE
    have CP := c_passing (γ := γ) (x := s.1.2) hT1 ho ⟨a93, a94⟩
    have L2 := aw_mono (fun r9 h' hq9 => (⟨hq9.1, (hq.mono (fun b hb => Or.inr hb)).tr (hq9.2.1.mono (fun b hb => Or.inl hb)), hq9.2.2.1, fun x hx => (hq9.2.2.2 x hx).trans (((hq.2 (e + 1)).2.2 (by omega) x).2)⟩ : rF (fun h' => eqT (fun b => b = e + 1 ∨ b = e + 2) h h' ∧ (∀ j, j < tn T → gl h' (e + 1) ((r : Int) + (j : Int)) = S9 (gvN T s j s.2.length)) ∧ ∀ x : Int, (x < r ∨ (r : Int) + 40 ≤ x) → gl h' (e + 1) x = gl h (e + 1) x) r9 h')) (l_ps59 (γ := γ) (r := r) hE1 hT1 ho hS1 hs hd1 hd2 hA hr (tn T) 0 H (by omega) eqT.rf (fun j hj => absurd hj (by omega)) (fun x _ => rfl))
    obtain ⟨hSh, s0, s1, s2, s3⟩ := hS1
    obtain ⟨ka, ra, kb⟩ := hSh
    have kt := hT1.1.1
    refine aw_aload_n dX1_prepareStep_46 rfl ?_
    refine aw_aload_n dX1_prepareStep_47 rfl ?_
    refine aw_geti' (j := 1) dX1_prepareStep_48 fX1_79 rfl (by assumption) rfl s1 ?_
    refine aw_invV_r dX1_prepareStep_51 vX10_passing kX1_82 rfl (CP) ⟨_, (by assumption), _, _, rfl⟩ rfl rfl (by decide) (by decide) (by decide) (Nat.le_of_ble_eq_true rfl) ?_
    refine aw_lstore (ls1 := [(4, _), (0, _), (1, _), (2, _), (3, _)]) dX1_prepareStep_54 (by decide) rfl ?_
    refine aw_iconst dX1_prepareStep_56 ?_
    refine aw_istore (ls1 := [(6, _), (4, _), (0, _), (1, _), (2, _), (3, _)]) dX1_prepareStep_57 (by decide) rfl ?_
    refine aw_sub [0, 1, 2, 3, 4, 5] rfl ?_
    exact L2) (9 * s.2.length) 0 h (by omega) eqT.rf (fun j c hj => absurd hj (by omega))
  refine Call.of (ls := [(0, vr (some e)), (1, vr (some t)), (2, vr (some a)), (3, vi (r : Int))]) vX1_prepareStep.1 (Nat.le_of_ble_eq_true rfl) rfl ?_
  refine aw_iconst dX1_prepareStep_0 ?_
  refine aw_istore (ls1 := [(4, _), (0, _), (1, _), (2, _), (3, _)]) dX1_prepareStep_1 (by decide) rfl ?_
  refine aw_sub [0, 1, 2, 3, 4] rfl ?_
  exact L
