/-! ===== the model: give ===== -/
def isLv (h : AH) (a : Nat) (l : List Nat) : Prop := gi h a 18 = l.length ∧ ∀ (k x : Nat), l[k]? = some x → gi h (a + 12) k = x
def SGv (a : Nat) : Nat → Int → Prop := fun b j => SXt a b j ∨ (b = a ∧ j = 18) ∨ b = a + 12
theorem SGv_1 {a : Nat} : ∀ j, ¬ SGv a (a + 1) j := fun j => by unfold SGv SXt SI; omega
theorem SGv_7 {a : Nat} : ∀ j, ¬ SGv a (a + 7) j := fun j => by unfold SGv SXt SI; omega
theorem isLv_nil {h : AH} {a : Nat} (h0 : gi h a 18 = 0) : isLv h a [] := ⟨h0, fun k x hx => by simp at hx⟩
theorem get_snoc9 {l : List Nat} {x y k : Nat} (hk : (l ++ [x])[k]? = some y) : (k < l.length ∧ l[k]? = some y) ∨ (k = l.length ∧ y = x) := by
  by_cases z : k < l.length
  · left
    rw [List.getElem?_append_left z] at hk
    exact ⟨z, hk⟩
  · right
    rw [List.getElem?_append_right (by omega)] at hk
    have hz : k - l.length = 0 := by
      by_cases y0 : k - l.length = 0
      · exact y0
      · rw [List.getElem?_eq_none (by rw [List.length_singleton]; omega)] at hk; cases hk
    rw [hz] at hk
    have e : x = y := by simpa using hk
    exact ⟨by omega, e.symm⟩
/-- what a step gives for a node, as the model lists it -/
def gvL (T : Tr) (s : TS) (v n : Nat) : List Nat := orL (rvA s.1.1) (gvN T s v n) (tn T)
theorem gvL_0 {T : Tr} {s : TS} {v : Nat} (hs : okS s) : gvL T s v 0 = (lsA T s.1.1 v).filter (psS T s.1.2) := by
  rw [lsA_rv ⟨hs.1.1, hs.1.2.1⟩, orL_filter]
  rfl
theorem gvL_s {T : Tr} {s : TS} {v n : Nat} : gvL T s v (n + 1) = (gvL T s v n).filter (kpR T s (gvN T s v n) n 3) := by
  unfold gvL
  rw [orL_filter]
  refine orL_cong (fun k _ => ?_)
  show kpR T s (gvN T s v n) n 3 k = _
  cases q : gvN T s v n k with
  | true => simp
  | false => rw [kp_g q]; rfl
theorem gv_40 {T : Tr} (hn : tn T ≤ 40) (s : TS) (v n : Nat) : fb_ct (gvN T s v n) 40 = fb_ct (gvN T s v n) (tn T) := by
  refine fb_40 hn (fun k hk => ?_)
  cases q : gvN T s v n k with
  | false => rfl
  | true => have := gvN_lt n k q; omega
theorem i_gv1 {γ : GG} {a v : Nat} {b : Int} {s : TS} {T : Tr} {h : AH} {L X : List Nat} {Q : AR → AH → Prop} (hM : shM h a) (hT : gTr (gi h (a + 1)) 0 T) (ho : okTr T) (hv : v < tn T) (hb : 0 ≤ b ∧ b + 204 ≤ 6537) (hs : okS s) (hg : gS (gi h (a + 7)) b s) (hL : ∀ x ∈ L, x < tn T) (hll : L.length ≤ 40) (kk : ∀ H, eqG (SGv a) h H → isLv H a X → AW γ mX12_give 9 0 0 78 [(0, vr (some a)), (1, vi b), (2, vi (v : Int))] [] H Q) : ∀ (r : List Nat) (i : Nat) (H : AH) (P : List Nat), L.drop i = r → i ≤ L.length → P.length ≤ i → P ++ r.filter (psS T s.1.2) = X → eqG (SGv a) h H → isLi H a L → isLv H a P → AW γ mX12_give 9 0 0 18 [(3, vi (i : Int)), (0, vr (some a)), (1, vi b), (2, vi (v : Int))] [] H Q := by
  have n40 := ho.o.2.1
  intro r
  induction r with
  | nil =>
    intro i H P hd hi hP hX hE hLi hLv
    have bT : bI true = 1 := rfl
    have bF : bI false = 0 := rfl
    have hM1 := hE.sh hM
    have hT1 := tr_k hT hE SGv_1
    have eq7 := q_k hE SGv_7
    obtain ⟨hka, rq, kq⟩ := hM1.q
    obtain ⟨rl, kl⟩ := hM1.l9
    obtain ⟨rn9, kn9⟩ := hM1.n9
    have g7 := hLi.1
    have e9 := drop_nil hd
    rw [List.filter_nil, List.append_nil] at hX
    subst hX
    have K := kk H hE hLv
    refine aw_iload_n dX12_give_18 rfl ?_
    refine aw_aload_n dX12_give_19 rfl ?_
    refine aw_geti' (j := 7) dX12_give_20 fX12_114 rfl (by assumption) rfl g7 ?_
    refine aw_ic_ge (tgt := 78) dX12_give_23 rfl (by omega) (by omega) (fun c23 => ?_) (fun c23 => ?_)
    · refine aw_sub [1, 2, 3] rfl ?_
      exact K
    · exact absurd c23 (by omega)
  | cons y r ih =>
    intro i H P hd hi hP hX hE hLi hLv
    have bT : bI true = 1 := rfl
    have bF : bI false = 0 := rfl
    have hM1 := hE.sh hM
    have hT1 := tr_k hT hE SGv_1
    have eq7 := q_k hE SGv_7
    obtain ⟨hka, rq, kq⟩ := hM1.q
    obtain ⟨rl, kl⟩ := hM1.l9
    obtain ⟨rn9, kn9⟩ := hM1.n9
    have g7 := hLi.1
    obtain ⟨e9, hy, hr⟩ := drop_cons hd
    have gy := hLi.2 i y hy
    have hyn := hL y (List.mem_of_getElem? hy)
    have gt : gi H (a + 7) (b + 1) = s.1.2 := by rw [eq7]; exact hg.2.1
    have KP := m_passes (γ := γ) (v := y) (x := s.1.2) hM1 hT1 ho hyn ⟨hs.1.2.2.1, hs.1.2.2.2⟩
    have g18 := hLv.1
    cases q : psS T s.1.2 y with
    | true =>
      rw [q] at KP
      have fE : eqG (SGv a) h (si (si H (a + 12) (P.length : Int) y) a 18 ((P.length : Int) + 1)) := hE.tr ((eqG.si (Or.inr (Or.inr rfl))).tr (eqG.si (Or.inr (Or.inl ⟨rfl, rfl⟩))))
      have fL : isLi (si (si H (a + 12) (P.length : Int) y) a 18 ((P.length : Int) + 1)) a L := ⟨(gi_ne (Or.inr (by decide))).trans ((gi_ne (Or.inl (by omega))).trans hLi.1), fun k x hk => (gi_ne (Or.inl (by omega))).trans ((gi_ne (Or.inl (by omega))).trans (hLi.2 k x hk))⟩
      have fV : isLv (si (si H (a + 12) (P.length : Int) y) a 18 ((P.length : Int) + 1)) a (P ++ [y]) := ⟨(gi_at rfl rfl).trans (by rw [List.length_append, List.length_singleton]; omega), fun k x hk => by
        rcases get_snoc9 hk with ⟨z1, z2⟩ | ⟨z1, z2⟩
        · exact (gi_ne (Or.inl (by omega))).trans ((gi_ne (Or.inr (by omega))).trans (hLv.2 k x z2))
        · subst z2
          exact (gi_ne (Or.inl (by omega))).trans (gi_at rfl (by omega))⟩
      have I := ih (i + 1) _ (P ++ [y]) hr (by omega) (by rw [List.length_append, List.length_singleton]; omega) (by rw [List.filter_cons_of_pos q] at hX; rw [← hX]; simp) fE fL fV
      refine aw_iload_n dX12_give_18 rfl ?_
      refine aw_aload_n dX12_give_19 rfl ?_
      refine aw_geti' (j := 7) dX12_give_20 fX12_114 rfl (by assumption) rfl g7 ?_
      refine aw_ic_ge (tgt := 78) dX12_give_23 rfl (by omega) (by omega) (fun c23 => ?_) (fun c23 => ?_)
      · exact absurd c23 (by omega)
      · refine aw_aload_n dX12_give_26 rfl ?_
        refine aw_aload_n dX12_give_27 rfl ?_
        refine aw_getr' (j := 8) dX12_give_28 fX12_22 rfl (by assumption) rfl (by assumption) ?_
        refine aw_iload_n dX12_give_31 rfl ?_
        refine aw_iald' dX12_give_32 (by assumption) (by omega) (by first | decide | omega) gy ?_
        refine aw_aload_n dX12_give_33 rfl ?_
        refine aw_getr' (j := 12) dX12_give_34 fX12_28 rfl (by assumption) rfl (by assumption) ?_
        refine aw_iload_n dX12_give_37 rfl ?_
        refine aw_iconst dX12_give_38 ?_
        refine aw_iadd dX12_give_39 ?_
        refine aw_iald' dX12_give_40 (by assumption) (by omega) (by first | decide | omega) gt ?_
        refine aw_invV_r dX12_give_41 vX12_passes kX12_244 rfl (KP) ⟨_, (by assumption), _, _, rfl⟩ rfl rfl (by decide) (by decide) (by decide) (Nat.le_of_ble_eq_true rfl) ?_
        refine aw_if_eq (tgt := 72) dX12_give_44 rfl (by omega) (fun c44 => ?_) (fun c44 => ?_)
        · exact absurd c44 (by omega)
        · refine aw_aload_n dX12_give_47 rfl ?_
          refine aw_getr' (j := 19) dX12_give_48 fX12_44 rfl (by assumption) rfl (by assumption) ?_
          refine aw_aload_n dX12_give_51 rfl ?_
          refine aw_geti' (j := 18) dX12_give_52 fX12_254 rfl (by assumption) rfl g18 ?_
          refine aw_aload_n dX12_give_55 rfl ?_
          refine aw_getr' (j := 8) dX12_give_56 fX12_22 rfl (by assumption) rfl (by assumption) ?_
          refine aw_iload_n dX12_give_59 rfl ?_
          refine aw_iald' dX12_give_60 (by assumption) (by omega) (by first | decide | omega) gy ?_
          refine aw_iast dX12_give_61 (by assumption) (by omega) (by first | decide | omega) ?_
          refine aw_aload_n dX12_give_62 rfl ?_
          refine aw_dup dX12_give_63 rfl ?_
          refine aw_geti' (j := 18) dX12_give_64 fX12_254 rfl (by assumption) rfl ((gi_ne (Or.inl (by omega))).trans g18) ?_
          refine aw_iconst dX12_give_67 ?_
          refine aw_iadd dX12_give_68 ?_
          refine aw_puti' (j := 18) rfl dX12_give_69 fX12_254 (by assumption) rfl ?_
          refine aw_iinc (k9 := 0) (ls1 := [(3, _), (0, _), (1, _), (2, _)]) dX12_give_72 rfl (by decide) rfl ?_
          refine aw_goto (tgt := 18) dX12_give_75 rfl ?_
          refine aw_sub [0, 1, 2, 3] rfl ?_
          exact I
    | false =>
      rw [q] at KP
      have I := ih (i + 1) H P hr (by omega) (by omega) (by rw [List.filter_cons_of_neg (by rw [q]; decide)] at hX; exact hX) hE hLi hLv
      refine aw_iload_n dX12_give_18 rfl ?_
      refine aw_aload_n dX12_give_19 rfl ?_
      refine aw_geti' (j := 7) dX12_give_20 fX12_114 rfl (by assumption) rfl g7 ?_
      refine aw_ic_ge (tgt := 78) dX12_give_23 rfl (by omega) (by omega) (fun c23 => ?_) (fun c23 => ?_)
      · exact absurd c23 (by omega)
      · refine aw_aload_n dX12_give_26 rfl ?_
        refine aw_aload_n dX12_give_27 rfl ?_
        refine aw_getr' (j := 8) dX12_give_28 fX12_22 rfl (by assumption) rfl (by assumption) ?_
        refine aw_iload_n dX12_give_31 rfl ?_
        refine aw_iald' dX12_give_32 (by assumption) (by omega) (by first | decide | omega) gy ?_
        refine aw_aload_n dX12_give_33 rfl ?_
        refine aw_getr' (j := 12) dX12_give_34 fX12_28 rfl (by assumption) rfl (by assumption) ?_
        refine aw_iload_n dX12_give_37 rfl ?_
        refine aw_iconst dX12_give_38 ?_
        refine aw_iadd dX12_give_39 ?_
        refine aw_iald' dX12_give_40 (by assumption) (by omega) (by first | decide | omega) gt ?_
        refine aw_invV_r dX12_give_41 vX12_passes kX12_244 rfl (KP) ⟨_, (by assumption), _, _, rfl⟩ rfl rfl (by decide) (by decide) (by decide) (Nat.le_of_ble_eq_true rfl) ?_
        refine aw_if_eq (tgt := 72) dX12_give_44 rfl (by omega) (fun c44 => ?_) (fun c44 => ?_)
        · refine aw_iinc (k9 := 0) (ls1 := [(3, _), (0, _), (1, _), (2, _)]) dX12_give_72 rfl (by decide) rfl ?_
          refine aw_goto (tgt := 18) dX12_give_75 rfl ?_
          refine aw_sub [0, 1, 2, 3] rfl ?_
          exact I
        · exact absurd c44 (by omega)
theorem i_gv2 {γ : GG} {a v : Nat} {b : Int} {s : TS} {T : Tr} {h : AH} {k : Nat} {pr : TP} {X : List Nat} {Q : AR → AH → Prop} (hM : shM h a) (hT : gTr (gi h (a + 1)) 0 T) (ho : okTr T) (hv : v < tn T) (hb : 0 ≤ b ∧ b + 204 ≤ 6537) (hs : okS s) (hg : gS (gi h (a + 7)) b s) (hk : s.2[k]? = some pr) (kk : ∀ H, eqG (SGv a) h H → isLv H a X → AW γ mX12_give 9 0 0 170 [(3, vi (k : Int)), (0, vr (some a)), (1, vi b), (2, vi (v : Int))] [] H Q) : ∀ (r : List Nat) (i : Nat) (H : AH) (P : List Nat), (gvL T s v k).drop i = r → i ≤ (gvL T s v k).length → P.length ≤ i → P ++ r.filter (kpR T s (gvN T s v k) k 3) = X → eqG (SGv a) h H → isLv H a P → (∀ (j x : Nat), i ≤ j → (gvL T s v k)[j]? = some x → gi H (a + 12) j = x) → AW γ mX12_give 9 0 0 106 [(5, vi (i : Int)), (4, vi ((gvL T s v k).length : Int)), (3, vi (k : Int)), (0, vr (some a)), (1, vi b), (2, vi (v : Int))] [] H Q := by
  have n40 := ho.o.2.1
  have ll : (gvL T s v k).length = fb_ct (gvN T s v k) (tn T) := orL_len _ _ _
  have l40 := fb_ct_le (gvN T s v k) (tn T)
  have k3 : k < 3 := by have := lt_of_get hk; have := hs.2.1; omega
  intro r
  induction r with
  | nil =>
    intro i H P hd hi hP hX hE hLv hJ
    have bT : bI true = 1 := rfl
    have bF : bI false = 0 := rfl
    have hM1 := hE.sh hM
    have hT1 := tr_k hT hE SGv_1
    have eq7 := q_k hE SGv_7
    obtain ⟨hka, rq, kq⟩ := hM1.q
    obtain ⟨rl, kl⟩ := hM1.l9
    obtain ⟨rn9, kn9⟩ := hM1.n9
    have e9 := drop_nil hd
    rw [List.filter_nil, List.append_nil] at hX
    subst hX
    have K := kk H hE hLv
    refine aw_iload dX12_give_106 rfl ?_
    refine aw_iload dX12_give_108 rfl ?_
    refine aw_ic_ge (tgt := 170) dX12_give_110 rfl (by omega) (by omega) (fun c110 => ?_) (fun c110 => ?_)
    · refine aw_sub [2, 3, 4, 5] rfl ?_
      exact K
    · exact absurd c110 (by omega)
  | cons y r ih =>
    intro i H P hd hi hP hX hE hLv hJ
    have bT : bI true = 1 := rfl
    have bF : bI false = 0 := rfl
    have hM1 := hE.sh hM
    have hT1 := tr_k hT hE SGv_1
    have eq7 := q_k hE SGv_7
    obtain ⟨hka, rq, kq⟩ := hM1.q
    obtain ⟨rl, kl⟩ := hM1.l9
    obtain ⟨rn9, kn9⟩ := hM1.n9
    obtain ⟨e9, hy, hr⟩ := drop_cons hd
    have gy := hJ i y (Nat.le_refl _) hy
    obtain ⟨hyn, hyg, hyp⟩ := orL_at hy
    have op := hs.2.2 pr (List.mem_of_getElem? hk)
    have KQ := m_predicateAt (γ := γ) (h := H) (p := b) (k := (k : Int))
    have KH := m_holds (γ := γ) (v := y) (b := b + 3 + 67 * (k : Int)) (p := (i : Int) + 1) (z := ((gvL T s v k).length : Int)) (pr := pr) hM1 hT1 ho (by omega) (by omega) hyn (by omega) op (by rw [eq7]; exact hg.2.2.2 k pr hk)
    have ke := kp_at (T := T) (s := s) (g := gvN T s v k) (x := y) hs hk hyg hyn
    rw [gv_40 n40, hyp, ← ll] at ke
    rw [← ke] at KH
    have g18 := hLv.1
    cases q : kpR T s (gvN T s v k) k 3 y with
    | true =>
      rw [q] at KH
      have I := fun H1 (E1 : eqG (SXt a) H H1) => ih (i + 1) (si (si H1 (a + 12) (P.length : Int) y) a 18 ((P.length : Int) + 1)) (P ++ [y]) hr (by omega) (by rw [List.length_append, List.length_singleton]; omega) (by rw [List.filter_cons_of_pos q] at hX; rw [← hX]; simp) ((hE.tr (E1.mono (fun b j z => Or.inl z))).tr ((eqG.si (Or.inr (Or.inr rfl))).tr (eqG.si (Or.inr (Or.inl ⟨rfl, rfl⟩))))) ⟨(gi_at rfl rfl).trans (by rw [List.length_append, List.length_singleton]; omega), fun j x hj => by
        rcases get_snoc9 hj with ⟨z1, z2⟩ | ⟨z1, z2⟩
        · exact (gi_ne (Or.inl (by omega))).trans ((gi_ne (Or.inr (by omega))).trans ((E1.2.2.2.2 _ _ (by unfold SXt SI; omega)).trans (hLv.2 j x z2)))
        · subst z2
          exact (gi_ne (Or.inl (by omega))).trans (gi_at rfl (by omega))⟩ (fun j x j1 hj => (gi_ne (Or.inl (by omega))).trans ((gi_ne (Or.inr (by omega))).trans ((E1.2.2.2.2 _ _ (by unfold SXt SI; omega)).trans (hJ j x (by omega) hj))))
      refine aw_iload dX12_give_106 rfl ?_
      refine aw_iload dX12_give_108 rfl ?_
      refine aw_ic_ge (tgt := 170) dX12_give_110 rfl (by omega) (by omega) (fun c110 => ?_) (fun c110 => ?_)
      · exact absurd c110 (by omega)
      · refine aw_aload_n dX12_give_113 rfl ?_
        refine aw_iload_n dX12_give_114 rfl ?_
        refine aw_iload_n dX12_give_115 rfl ?_
        refine aw_invS_r dX12_give_116 sX12_predicateAt kX12_168 rfl (KQ) rfl rfl (by decide) (by decide) (by decide) (Nat.le_of_ble_eq_true rfl) ?_
        refine aw_aload_n dX12_give_119 rfl ?_
        refine aw_getr' (j := 19) dX12_give_120 fX12_44 rfl (by assumption) rfl (by assumption) ?_
        refine aw_iload dX12_give_123 rfl ?_
        refine aw_iald' dX12_give_125 (by assumption) (by omega) (by first | decide | omega) gy ?_
        refine aw_iload dX12_give_126 rfl ?_
        refine aw_iconst dX12_give_128 ?_
        refine aw_iadd dX12_give_129 ?_
        refine aw_iload dX12_give_130 rfl ?_
        refine aw_invV_e dX12_give_132 vX12_holds kX12_257 rfl (KH) ⟨_, (by assumption), _, _, rfl⟩ rfl rfl (by decide) (by decide) (by decide) (Nat.le_of_ble_eq_true rfl) (fun H1 hP9 => ?_)
        have E1 := hP9
        have hM2 := E1.sh hM1
        obtain ⟨hka1, -, -⟩ := hM2.q
        obtain ⟨rn2, kn2⟩ := hM2.n9
        have g18 := (E1.2.2.2.2 a 18 (by unfold SXt SI; omega)).trans g18
        have gy := (E1.2.2.2.2 (a + 12) i (by unfold SXt SI; omega)).trans gy
        refine aw_if_eq (tgt := 164) dX12_give_135 rfl (by omega) (fun c135 => ?_) (fun c135 => ?_)
        · exact absurd c135 (by omega)
        · refine aw_aload_n dX12_give_138 rfl ?_
          refine aw_getr' (j := 19) dX12_give_139 fX12_44 rfl (by assumption) rfl (by assumption) ?_
          refine aw_aload_n dX12_give_142 rfl ?_
          refine aw_geti' (j := 18) dX12_give_143 fX12_254 rfl (by assumption) rfl g18 ?_
          refine aw_aload_n dX12_give_146 rfl ?_
          refine aw_getr' (j := 19) dX12_give_147 fX12_44 rfl (by assumption) rfl (by assumption) ?_
          refine aw_iload dX12_give_150 rfl ?_
          refine aw_iald' dX12_give_152 (by assumption) (by omega) (by first | decide | omega) gy ?_
          refine aw_iast dX12_give_153 (by assumption) (by omega) (by first | decide | omega) ?_
          refine aw_aload_n dX12_give_154 rfl ?_
          refine aw_dup dX12_give_155 rfl ?_
          refine aw_geti' (j := 18) dX12_give_156 fX12_254 rfl (by assumption) rfl ((gi_ne (Or.inl (by omega))).trans g18) ?_
          refine aw_iconst dX12_give_159 ?_
          refine aw_iadd dX12_give_160 ?_
          refine aw_puti' (j := 18) rfl dX12_give_161 fX12_254 (by assumption) rfl ?_
          refine aw_iinc (k9 := 0) (ls1 := [(5, _), (4, _), (3, _), (0, _), (1, _), (2, _)]) dX12_give_164 rfl (by decide) rfl ?_
          refine aw_goto (tgt := 106) dX12_give_167 rfl ?_
          refine aw_sub [0, 1, 2, 3, 4, 5] rfl ?_
          exact I H1 E1
    | false =>
      rw [q] at KH
      have I := fun H1 (E1 : eqG (SXt a) H H1) => ih (i + 1) H1 P hr (by omega) (by omega) (by rw [List.filter_cons_of_neg (by rw [q]; decide)] at hX; exact hX) (hE.tr (E1.mono (fun b j z => Or.inl z))) ⟨(E1.2.2.2.2 _ _ (by unfold SXt SI; omega)).trans hLv.1, fun j x hj => (E1.2.2.2.2 _ _ (by unfold SXt SI; omega)).trans (hLv.2 j x hj)⟩ (fun j x j1 hj => (E1.2.2.2.2 _ _ (by unfold SXt SI; omega)).trans (hJ j x (by omega) hj))
      refine aw_iload dX12_give_106 rfl ?_
      refine aw_iload dX12_give_108 rfl ?_
      refine aw_ic_ge (tgt := 170) dX12_give_110 rfl (by omega) (by omega) (fun c110 => ?_) (fun c110 => ?_)
      · exact absurd c110 (by omega)
      · refine aw_aload_n dX12_give_113 rfl ?_
        refine aw_iload_n dX12_give_114 rfl ?_
        refine aw_iload_n dX12_give_115 rfl ?_
        refine aw_invS_r dX12_give_116 sX12_predicateAt kX12_168 rfl (KQ) rfl rfl (by decide) (by decide) (by decide) (Nat.le_of_ble_eq_true rfl) ?_
        refine aw_aload_n dX12_give_119 rfl ?_
        refine aw_getr' (j := 19) dX12_give_120 fX12_44 rfl (by assumption) rfl (by assumption) ?_
        refine aw_iload dX12_give_123 rfl ?_
        refine aw_iald' dX12_give_125 (by assumption) (by omega) (by first | decide | omega) gy ?_
        refine aw_iload dX12_give_126 rfl ?_
        refine aw_iconst dX12_give_128 ?_
        refine aw_iadd dX12_give_129 ?_
        refine aw_iload dX12_give_130 rfl ?_
        refine aw_invV_e dX12_give_132 vX12_holds kX12_257 rfl (KH) ⟨_, (by assumption), _, _, rfl⟩ rfl rfl (by decide) (by decide) (by decide) (Nat.le_of_ble_eq_true rfl) (fun H1 hP9 => ?_)
        have E1 := hP9
        refine aw_if_eq (tgt := 164) dX12_give_135 rfl (by omega) (fun c135 => ?_) (fun c135 => ?_)
        · refine aw_iinc (k9 := 0) (ls1 := [(5, _), (4, _), (3, _), (0, _), (1, _), (2, _)]) dX12_give_164 rfl (by decide) rfl ?_
          refine aw_goto (tgt := 106) dX12_give_167 rfl ?_
          refine aw_sub [0, 1, 2, 3, 4, 5] rfl ?_
          exact I H1 E1
        · exact absurd c135 (by omega)
theorem l_gv3 {γ : GG} {a v : Nat} {b : Int} {s : TS} {T : Tr} {h : AH} (hM : shM h a) (hT : gTr (gi h (a + 1)) 0 T) (ho : okTr T) (hv : v < tn T) (hb : 0 ≤ b ∧ b + 204 ≤ 6537) (hs : okS s) (hg : gS (gi h (a + 7)) b s) : ∀ (m k : Nat) (H : AH), k + m = s.2.length → eqG (SGv a) h H → isLv H a (gvL T s v k) → AW γ mX12_give 9 0 0 80 [(3, vi (k : Int)), (0, vr (some a)), (1, vi b), (2, vi (v : Int))] [] H (rF (fun h' => isLv h' a (gvL T s v s.2.length) ∧ eqG (SGv a) h h')) := by
  have n40 := ho.o.2.1
  have l3 := hs.2.1
  intro m
  induction m with
  | zero =>
    intro k H hk hE hLv
    obtain rfl : k = s.2.length := by omega
    have bT : bI true = 1 := rfl
    have bF : bI false = 0 := rfl
    have hM1 := hE.sh hM
    have hT1 := tr_k hT hE SGv_1
    have eq7 := q_k hE SGv_7
    obtain ⟨hka, rq, kq⟩ := hM1.q
    obtain ⟨rl, kl⟩ := hM1.l9
    obtain ⟨rn9, kn9⟩ := hM1.n9
    have g2 : gi H (a + 7) (b + 2) = s.2.length := by rw [eq7]; exact hg.2.2.1
    refine aw_iload_n dX12_give_80 rfl ?_
    refine aw_aload_n dX12_give_81 rfl ?_
    refine aw_getr' (j := 12) dX12_give_82 fX12_28 rfl (by assumption) rfl (by assumption) ?_
    refine aw_iload_n dX12_give_85 rfl ?_
    refine aw_iconst dX12_give_86 ?_
    refine aw_iadd dX12_give_87 ?_
    refine aw_iald' dX12_give_88 (by assumption) (by omega) (by first | decide | omega) g2 ?_
    refine aw_ic_ge (tgt := 176) dX12_give_89 rfl (by omega) (by omega) (fun c89 => ?_) (fun c89 => ?_)
    · exact aw_return dX12_give_176 rfl (Or.inl rfl) ⟨rfl, hLv, hE⟩
    · exact absurd c89 (by omega)
  | succ m ih =>
    intro k H hk hE hLv
    have bT : bI true = 1 := rfl
    have bF : bI false = 0 := rfl
    have hM1 := hE.sh hM
    have hT1 := tr_k hT hE SGv_1
    have eq7 := q_k hE SGv_7
    obtain ⟨hka, rq, kq⟩ := hM1.q
    obtain ⟨rl, kl⟩ := hM1.l9
    obtain ⟨rn9, kn9⟩ := hM1.n9
    have g2 : gi H (a + 7) (b + 2) = s.2.length := by rw [eq7]; exact hg.2.2.1
    obtain ⟨pr, hpr⟩ : ∃ pr, s.2[k]? = some pr := ⟨_, List.getElem?_eq_getElem (by omega)⟩
    have g18 := hLv.1
    have l40 := fb_ct_le (gvN T s v k) (tn T)
    have ll : (gvL T s v k).length = fb_ct (gvN T s v k) (tn T) := orL_len _ _ _
    have J := i_gv2 (γ := γ) (X := gvL T s v (k + 1)) (Q := rF (fun h' => isLv h' a (gvL T s v s.2.length) ∧ eqG (SGv a) h h')) hM hT ho hv hb hs hg hpr (fun H1 E1 V1 => by
      have I := ih (k + 1) H1 (by omega) E1 V1
      refine aw_iinc (k9 := 0) (ls1 := [(3, _), (0, _), (1, _), (2, _)]) dX12_give_170 rfl (by decide) rfl ?_
      refine aw_goto (tgt := 80) dX12_give_173 rfl ?_
      refine aw_sub [0, 1, 2, 3] rfl ?_
      exact I) (gvL T s v k) 0 (si H a 18 0) [] rfl (Nat.zero_le _) (Nat.le_refl _) (by rw [gvL_s]; rfl) (hE.tr (eqG.si (Or.inr (Or.inl ⟨rfl, rfl⟩)))) (isLv_nil (gi_at rfl rfl)) (fun j x _ hj => (gi_ne (Or.inl (by omega))).trans (hLv.2 j x hj))
    refine aw_iload_n dX12_give_80 rfl ?_
    refine aw_aload_n dX12_give_81 rfl ?_
    refine aw_getr' (j := 12) dX12_give_82 fX12_28 rfl (by assumption) rfl (by assumption) ?_
    refine aw_iload_n dX12_give_85 rfl ?_
    refine aw_iconst dX12_give_86 ?_
    refine aw_iadd dX12_give_87 ?_
    refine aw_iald' dX12_give_88 (by assumption) (by omega) (by first | decide | omega) g2 ?_
    refine aw_ic_ge (tgt := 176) dX12_give_89 rfl (by omega) (by omega) (fun c89 => ?_) (fun c89 => ?_)
    · exact absurd c89 (by omega)
    · refine aw_aload_n dX12_give_92 rfl ?_
      refine aw_geti' (j := 18) dX12_give_93 fX12_254 rfl (by assumption) rfl g18 ?_
      refine aw_istore (ls1 := [(4, _), (3, _), (0, _), (1, _), (2, _)]) dX12_give_96 (by decide) rfl ?_
      refine aw_aload_n dX12_give_98 rfl ?_
      refine aw_iconst dX12_give_99 ?_
      refine aw_puti' (j := 18) rfl dX12_give_100 fX12_254 (by assumption) rfl ?_
      refine aw_iconst dX12_give_103 ?_
      refine aw_istore (ls1 := [(5, _), (4, _), (3, _), (0, _), (1, _), (2, _)]) dX12_give_104 (by decide) rfl ?_
      refine aw_sub [0, 1, 2, 3, 4, 5] rfl ?_
      exact J
theorem m_give {γ : GG} {h : AH} {a v : Nat} {b : Int} {s : TS} {T : Tr} (hM : shM h a) (hT : gTr (gi h (a + 1)) 0 T) (ho : okTr T) (hv : v < tn T) (hb : 0 ≤ b ∧ b + 204 ≤ 6537) (hs : okS s) (hg : gS (gi h (a + 7)) b s) : Call γ mX12_give 9 0 0 [vr (some a), vi b, vi (v : Int)] h (rF (fun h' => isLv h' a (gvL T s v s.2.length) ∧ eqG (SGv a) h h')) := by
  have n40 := ho.o.2.1
  obtain ⟨hka, rq, kq⟩ := hM.q
  have hs' := hs
  obtain ⟨⟨o1, o2, o3, o4⟩, -⟩ := hs'
  obtain ⟨ax, hax⟩ := Int.eq_ofNat_of_zero_le o1
  have KL := m_listAxis (γ := γ) (v := v) (ax := ax) hM hT ho hv (by omega)
  rw [← hax] at KL
  have g0 : gi h (a + 7) b = s.1.1 := hg.1
  have ll : (lsA T s.1.1 v).length ≤ 40 := by
    have := orL_len (rv6 s.1.1) (alS T s.1.1 v) (tn T)
    have := fb_ct_le (alS T s.1.1 v) (tn T)
    unfold lsA
    omega
  have J := fun H1 (L1 : isLi H1 a (lsA T s.1.1 v)) (E1 : eqG (SI a) h H1) => i_gv1 (γ := γ) (X := gvL T s v 0) (L := lsA T s.1.1 v) (Q := rF (fun h' => isLv h' a (gvL T s v s.2.length) ∧ eqG (SGv a) h h')) hM hT ho hv hb hs hg (fun x hx => (orL_mem.mp hx).1) ll (fun H2 E2 V2 => by
    have I := l_gv3 (γ := γ) hM hT ho hv hb hs hg s.2.length 0 H2 (Nat.zero_add _) E2 V2
    refine aw_iconst dX12_give_78 ?_
    refine aw_istore_n (ls1 := [(3, _), (0, _), (1, _), (2, _)]) dX12_give_79 (by decide) rfl ?_
    refine aw_sub [0, 1, 2, 3] rfl ?_
    exact I) (lsA T s.1.1 v) 0 (si H1 a 18 0) [] rfl (Nat.zero_le _) (Nat.le_refl _) (by rw [gvL_0 hs]; rfl) ((E1.mono (fun b j z => Or.inl (Or.inl z))).tr (eqG.si (Or.inr (Or.inl ⟨rfl, rfl⟩)))) ⟨(gi_ne (Or.inr (by decide))).trans L1.1, fun j x hj => (gi_ne (Or.inl (by omega))).trans (L1.2 j x hj)⟩ (isLv_nil (gi_at rfl rfl))
  refine Call.of (ls := [(0, vr (some a)), (1, vi b), (2, vi (v : Int))]) vX12_give.1 (Nat.le_of_ble_eq_true rfl) rfl ?_
  refine aw_aload_n dX12_give_0 rfl ?_
  refine aw_iload_n dX12_give_1 rfl ?_
  refine aw_aload_n dX12_give_2 rfl ?_
  refine aw_getr' (j := 12) dX12_give_3 fX12_28 rfl (by assumption) rfl (by assumption) ?_
  refine aw_iload_n dX12_give_6 rfl ?_
  refine aw_iald' dX12_give_7 (by assumption) (by omega) (by first | decide | omega) g0 ?_
  refine aw_invV_f dX12_give_8 vX12_listAxis kX12_111 rfl (KL) ⟨_, (by assumption), _, _, rfl⟩ rfl rfl (by decide) (by decide) (by decide) (Nat.le_of_ble_eq_true rfl) (fun H1 hP9 => ?_)
  obtain ⟨L1, E1⟩ := hP9
  have hka1 := (E1.1 a).trans hka
  refine aw_aload_n dX12_give_11 rfl ?_
  refine aw_iconst dX12_give_12 ?_
  refine aw_puti' (j := 18) rfl dX12_give_13 fX12_254 (by assumption) rfl ?_
  refine aw_iconst dX12_give_16 ?_
  refine aw_istore_n (ls1 := [(3, _), (0, _), (1, _), (2, _)]) dX12_give_17 (by decide) rfl ?_
  refine aw_sub [0, 1, 2, 3] rfl ?_
  exact J H1 L1 E1
