/-! ===== the model: selecting ===== -/
def SPt (a : Nat) : Nat → Int → Prop := fun b j => SGv a b j ∨ b = a + 13 ∨ b = a + 14
theorem SPt_1 {a : Nat} : ∀ j, ¬ SPt a (a + 1) j := fun j => by unfold SPt SGv SXt SI; omega
theorem SPt_7 {a : Nat} : ∀ j, ¬ SPt a (a + 7) j := fun j => by unfold SPt SGv SXt SI; omega
def SSe (a : Nat) : Nat → Int → Prop := fun b j => SPt a b j ∨ b = a + 15
theorem SSe_1 {a : Nat} : ∀ j, ¬ SSe a (a + 1) j := fun j => by unfold SSe SPt SGv SXt SI; omega
theorem SSe_7 {a : Nat} : ∀ j, ¬ SSe a (a + 7) j := fun j => by unfold SSe SPt SGv SXt SI; omega
theorem SSe_k {a : Nat} : ∀ b j, SSe a b j → SK a b j := fun b j z => by unfold SSe SPt SGv SXt SI at z; unfold SK; omega
def tkS (T : Tr) (s : TS) (f : Nat → Bool) (k u : Nat) : Bool := anyN (fun y => f y && gvN T s y s.2.length u) k
theorem tkS_e {T : Tr} (hn : tn T ≤ 40) {s : TS} {f : Nat → Bool} (hf : ∀ k, f k = true → k < tn T) (u : Nat) : tkS T s f (tn T) u = foS (fun y => gvN T s y s.2.length) f u := bool_ext (by
  unfold tkS foS
  rw [anyN_iff, anyS_iff]
  constructor
  · rintro ⟨k, k1, k2⟩
    rw [Bool.and_eq_true] at k2
    exact ⟨k, by omega, k2.1, k2.2⟩
  · rintro ⟨k, k1, k2, k3⟩
    have k3 : gvN T s k s.2.length u = true := k3
    exact ⟨k, hf k k2, by rw [k2, k3]; rfl⟩)
theorem paS_lt {T : Tr} : ∀ (l : List TS) (f : Nat → Bool), (∀ k, f k = true → k < tn T) → ∀ k, paS T l f k = true → k < tn T := by
  intro l
  induction l with
  | nil => intro f hf k hk; exact hf k hk
  | cons s r ih => intro f hf k hk; exact ih _ (fun j hj => fo_lt hj) k hk
def stP (t : TT) (v : Nat) : Nat → Bool := if t.1 = true then fun k => decide (k = 0) else fun k => decide (k = v)
theorem stP_lt {T : Tr} {t : TT} {v : Nat} (h1 : 1 ≤ tn T) (hv : v < tn T) : ∀ k, stP t v k = true → k < tn T := by
  intro k hk
  unfold stP at hk
  split at hk
  · have := of_decide_eq_true hk; omega
  · have := of_decide_eq_true hk; omega
theorem seP_lt {T : Tr} {t : TT} {v : Nat} (h1 : 1 ≤ tn T) (hv : v < tn T) : ∀ k, seP T t v k = true → k < tn T := paS_lt t.2 (stP t v) (stP_lt h1 hv)
theorem seJ_s {T : Tr} {q : TQ} {t : TT} {v p : Nat} (hp : q[p]? = some t) (k : Nat) : seJ T q v (p + 1) k = (seJ T q v p k || seP T t v k) := by
  unfold seJ
  show (_ || match q[p]? with | none => false | some t => seP T t v k) = _
  rw [hp]
theorem seJ_lt {T : Tr} {q : TQ} {v : Nat} (h1 : 1 ≤ tn T) (hv : v < tn T) : ∀ n k, seJ T q v n k = true → k < tn T := by
  intro n k hk
  unfold seJ at hk
  rw [anyN_iff] at hk
  obtain ⟨p, p1, p2⟩ := hk
  cases hp : q[p]? with
  | none => rw [hp] at p2; cases p2
  | some t => rw [hp] at p2; exact seP_lt h1 hv k p2
def mkS9 (G : Nat → Bool) (L : List Nat) (i u : Nat) : Bool := G u || (L.take i).contains u
theorem mkS9_s {G : Nat → Bool} {L : List Nat} {i y : Nat} (h : L[i]? = some y) (u : Nat) : mkS9 G L (i + 1) u = (mkS9 G L i u || decide (u = y)) := by
  have e : L.take (i + 1) = L.take i ++ [y] := by rw [List.take_add_one, h]; rfl
  unfold mkS9
  rw [e]
  by_cases q : u = y
  · subst q; simp
  · simp [q]
theorem i_sp128 {γ : GG} {a v : Nat} {b : Int} {T : Tr} {h : AH} {s k : Nat} {L : List Nat} {G f : Nat → Bool} {Q : AR → AH → Prop} (hM : shM h a) (hT : gTr (gi h (a + 1)) 0 T) (ho : okTr T) (hL : ∀ x ∈ L, x < tn T) (hll : L.length ≤ 40) (kk : ∀ H, eqG (SPt a) h H → isBo H (a + 13) f (tn T) → isBo H (a + 14) (mkS9 G L L.length) (tn T) → AW γ mX12_selectPath 10 0 0 156 [(4, vi (k : Int)), (3, vi (s : Int)), (0, vr (some a)), (1, vi b), (2, vi (v : Int))] [] H Q) : ∀ (m i : Nat) (H : AH), i + m = L.length → eqG (SPt a) h H → isBo H (a + 13) f (tn T) → isBo H (a + 14) (mkS9 G L i) (tn T) → isLv H a L → AW γ mX12_selectPath 10 0 0 128 [(5, vi (i : Int)), (4, vi (k : Int)), (3, vi (s : Int)), (0, vr (some a)), (1, vi b), (2, vi (v : Int))] [] H Q := by
  have n40 := ho.o.2.1
  intro m
  induction m with
  | zero =>
    intro i H hi hE hF hB hV
    obtain rfl : i = L.length := by omega
    have bT : bI true = 1 := rfl
    have bF : bI false = 0 := rfl
    have hM1 := hE.sh hM
    have hT1 := tr_k hT hE SPt_1
    have eq7 := q_k hE SPt_7
    obtain ⟨hka, rq, kq⟩ := hM1.q
    obtain ⟨rm, km⟩ := hM1.m
    obtain ⟨ra9, ka9⟩ := hM1.a9
    obtain ⟨rb9, kb9⟩ := hM1.b9
    obtain ⟨ri9, ki9⟩ := hM1.i9
    obtain ⟨rn9, kn9⟩ := hM1.n9
    have g0 : gi H (a + 1) 0 = (tn T : Int) := hT1.1
    have g18 := hV.1
    have K := kk H hE hF hB
    refine aw_iload dX12_selectPath_128 rfl ?_
    refine aw_aload_n dX12_selectPath_130 rfl ?_
    refine aw_geti' (j := 18) dX12_selectPath_131 fX12_254 rfl (by assumption) rfl g18 ?_
    refine aw_ic_ge (tgt := 156) dX12_selectPath_134 rfl (by omega) (by omega) (fun c134 => ?_) (fun c134 => ?_)
    · refine aw_sub [1, 2, 3, 4, 5] rfl ?_
      exact K
    · exact absurd c134 (by omega)
  | succ m ih =>
    intro i H hi hE hF hB hV
    have bT : bI true = 1 := rfl
    have bF : bI false = 0 := rfl
    have hM1 := hE.sh hM
    have hT1 := tr_k hT hE SPt_1
    have eq7 := q_k hE SPt_7
    obtain ⟨hka, rq, kq⟩ := hM1.q
    obtain ⟨rm, km⟩ := hM1.m
    obtain ⟨ra9, ka9⟩ := hM1.a9
    obtain ⟨rb9, kb9⟩ := hM1.b9
    obtain ⟨ri9, ki9⟩ := hM1.i9
    obtain ⟨rn9, kn9⟩ := hM1.n9
    have g0 : gi H (a + 1) 0 = (tn T : Int) := hT1.1
    have g18 := hV.1
    obtain ⟨y, hy⟩ : ∃ y, L[i]? = some y := ⟨_, List.getElem?_eq_getElem (by omega)⟩
    have gy := hV.2 i y hy
    have hyn := hL y (List.mem_of_getElem? hy)
    have I := ih (i + 1) (si H (a + 14) (y : Int) 1) (by omega) (hE.tr (eqG.si (Or.inr (Or.inr rfl)))) (fun j hj => (gi_ne (Or.inl (by omega))).trans (hF j hj)) (fun j hj => by
      rw [mkS9_s hy j]
      by_cases z : j = y
      · subst z; rw [decide_eq_true rfl, Bool.or_true]; exact gi_at rfl rfl
      · rw [decide_eq_false z, Bool.or_false]
        exact (gi_ne (Or.inr (by omega))).trans (hB j hj)) ⟨(gi_ne (Or.inl (by omega))).trans hV.1, fun j u hu => (gi_ne (Or.inl (by omega))).trans (hV.2 j u hu)⟩
    refine aw_iload dX12_selectPath_128 rfl ?_
    refine aw_aload_n dX12_selectPath_130 rfl ?_
    refine aw_geti' (j := 18) dX12_selectPath_131 fX12_254 rfl (by assumption) rfl g18 ?_
    refine aw_ic_ge (tgt := 156) dX12_selectPath_134 rfl (by omega) (by omega) (fun c134 => ?_) (fun c134 => ?_)
    · exact absurd c134 (by omega)
    · refine aw_aload_n dX12_selectPath_137 rfl ?_
      refine aw_getr' (j := 21) dX12_selectPath_138 fX12_50 rfl (by assumption) rfl (by assumption) ?_
      refine aw_aload_n dX12_selectPath_141 rfl ?_
      refine aw_getr' (j := 19) dX12_selectPath_142 fX12_44 rfl (by assumption) rfl (by assumption) ?_
      refine aw_iload dX12_selectPath_145 rfl ?_
      refine aw_iald' dX12_selectPath_147 (by assumption) (by omega) (by first | decide | omega) gy ?_
      refine aw_iconst dX12_selectPath_148 ?_
      refine aw_zast dX12_selectPath_149 (by assumption) (by omega) (by first | decide | omega) (Or.inr rfl) ?_
      refine aw_iinc (k9 := 0) (ls1 := [(5, _), (4, _), (3, _), (0, _), (1, _), (2, _)]) dX12_selectPath_150 rfl (by decide) rfl ?_
      refine aw_goto (tgt := 128) dX12_selectPath_153 rfl ?_
      refine aw_sub [0, 1, 2, 3, 4, 5] rfl ?_
      exact I
theorem i_sp93 {γ : GG} {a v : Nat} {b : Int} {t : TT} {T : Tr} {h : AH} {s : Nat} {st : TS} {f : Nat → Bool} {Q : AR → AH → Prop} (hM : shM h a) (hT : gTr (gi h (a + 1)) 0 T) (ho : okTr T) (hv : v < tn T) (hb : 0 ≤ b ∧ b + 1634 ≤ 6537) (hs : okW t) (hg : gT (gi h (a + 7)) b t) (hst : t.2[s]? = some st) (kk : ∀ H, eqG (SPt a) h H → isBo H (a + 14) (tkS T st f (tn T)) (tn T) → AW γ mX12_selectPath 10 0 0 162 [(3, vi (s : Int)), (0, vr (some a)), (1, vi b), (2, vi (v : Int))] [] H Q) : ∀ (m k : Nat) (H : AH), k + m = tn T → eqG (SPt a) h H → isBo H (a + 13) f (tn T) → isBo H (a + 14) (tkS T st f k) (tn T) → AW γ mX12_selectPath 10 0 0 93 [(4, vi (k : Int)), (3, vi (s : Int)), (0, vr (some a)), (1, vi b), (2, vi (v : Int))] [] H Q := by
  have n40 := ho.o.2.1
  have os := hs.2.2 st (List.mem_of_getElem? hst)
  have s8 : s < 8 := by have := lt_of_get hst; have := hs.2.1; omega
  intro m
  induction m with
  | zero =>
    intro k H hk hE hF hB
    obtain rfl : k = tn T := by omega
    have bT : bI true = 1 := rfl
    have bF : bI false = 0 := rfl
    have hM1 := hE.sh hM
    have hT1 := tr_k hT hE SPt_1
    have eq7 := q_k hE SPt_7
    obtain ⟨hka, rq, kq⟩ := hM1.q
    obtain ⟨rm, km⟩ := hM1.m
    obtain ⟨ra9, ka9⟩ := hM1.a9
    obtain ⟨rb9, kb9⟩ := hM1.b9
    obtain ⟨ri9, ki9⟩ := hM1.i9
    obtain ⟨rn9, kn9⟩ := hM1.n9
    have g0 : gi H (a + 1) 0 = (tn T : Int) := hT1.1
    have K := kk H hE hB
    refine aw_iload dX12_selectPath_93 rfl ?_
    refine aw_aload_n dX12_selectPath_95 rfl ?_
    refine aw_getr' (j := 0) dX12_selectPath_96 fX12_7 rfl (by assumption) rfl (by assumption) ?_
    refine aw_iconst dX12_selectPath_99 ?_
    refine aw_iald' dX12_selectPath_100 (by assumption) (by omega) (by first | decide | omega) g0 ?_
    refine aw_ic_ge (tgt := 162) dX12_selectPath_101 rfl (by omega) (by omega) (fun c101 => ?_) (fun c101 => ?_)
    · refine aw_sub [1, 2, 3, 4] rfl ?_
      exact K
    · exact absurd c101 (by omega)
  | succ m ih =>
    intro k H hk hE hF hB
    have hkn : k < tn T := by omega
    have bT : bI true = 1 := rfl
    have bF : bI false = 0 := rfl
    have hM1 := hE.sh hM
    have hT1 := tr_k hT hE SPt_1
    have eq7 := q_k hE SPt_7
    obtain ⟨hka, rq, kq⟩ := hM1.q
    obtain ⟨rm, km⟩ := hM1.m
    obtain ⟨ra9, ka9⟩ := hM1.a9
    obtain ⟨rb9, kb9⟩ := hM1.b9
    obtain ⟨ri9, ki9⟩ := hM1.i9
    obtain ⟨rn9, kn9⟩ := hM1.n9
    have g0 : gi H (a + 1) 0 = (tn T : Int) := hT1.1
    have gf := hF k hkn
    cases q : f k with
    | true =>
      rw [q] at gf
      have KS := m_stepAt (γ := γ) (h := H) (p := b) (k := (s : Int))
      have KG := m_give (γ := γ) (v := k) (b := b + 2 + 204 * (s : Int)) (s := st) hM1 hT1 ho hkn (by omega) os (by rw [eq7]; exact hg.2.2 s st hst)
      have lL : (gvL T st k st.2.length).length ≤ 40 := by
        have := orL_len (rvA st.1.1) (gvN T st k st.2.length) (tn T)
        have := fb_ct_le (gvN T st k st.2.length) (tn T)
        unfold gvL
        omega
      have J := fun H1 (V1 : isLv H1 a (gvL T st k st.2.length)) (E1 : eqG (SGv a) H H1) => i_sp128 (γ := γ) (v := v) (b := b) (s := s) (k := k) (L := gvL T st k st.2.length) (G := tkS T st f k) (f := f) (Q := Q) hM hT ho (fun x hx => (orL_mem.mp hx).1) lL (fun H2 E2 F2 B2 => by
        have I := ih (k + 1) H2 (by omega) E2 F2 (B2.cong (fun u hu => by
          unfold mkS9
          rw [List.take_length]
          have e : (gvL T st k st.2.length).contains u = gvN T st k st.2.length u := bool_ext (by
            rw [List.contains_iff_mem]
            unfold gvL
            rw [orL_mem]
            exact ⟨fun z => z.2, fun z => ⟨hu, z⟩⟩)
          rw [e]
          show _ = (tkS T st f k u || (f k && gvN T st k st.2.length u))
          rw [q, Bool.true_and]))
        refine aw_iinc (k9 := 0) (ls1 := [(4, _), (3, _), (0, _), (1, _), (2, _)]) dX12_selectPath_156 rfl (by decide) rfl ?_
        refine aw_goto (tgt := 93) dX12_selectPath_159 rfl ?_
        refine aw_sub [0, 1, 2, 3, 4] rfl ?_
        exact I) (gvL T st k st.2.length).length 0 H1 (Nat.zero_add _) (hE.tr (E1.mono (fun b j z => Or.inl z))) (hF.eq E1 (fun j => by unfold SGv SXt SI; omega)) ((hB.eq E1 (fun j => by unfold SGv SXt SI; omega)).cong (fun u hu => by simp [mkS9])) V1
      refine aw_iload dX12_selectPath_93 rfl ?_
      refine aw_aload_n dX12_selectPath_95 rfl ?_
      refine aw_getr' (j := 0) dX12_selectPath_96 fX12_7 rfl (by assumption) rfl (by assumption) ?_
      refine aw_iconst dX12_selectPath_99 ?_
      refine aw_iald' dX12_selectPath_100 (by assumption) (by omega) (by first | decide | omega) g0 ?_
      refine aw_ic_ge (tgt := 162) dX12_selectPath_101 rfl (by omega) (by omega) (fun c101 => ?_) (fun c101 => ?_)
      · exact absurd c101 (by omega)
      · refine aw_aload_n dX12_selectPath_104 rfl ?_
        refine aw_getr' (j := 20) dX12_selectPath_105 fX12_47 rfl (by assumption) rfl (by assumption) ?_
        refine aw_iload dX12_selectPath_108 rfl ?_
        refine aw_zald' dX12_selectPath_110 (by assumption) (by omega) (by first | decide | omega) gf ?_
        refine aw_if_eq (tgt := 156) dX12_selectPath_111 rfl (by omega) (fun c111 => ?_) (fun c111 => ?_)
        · exact absurd c111 (by omega)
        · refine aw_aload_n dX12_selectPath_114 rfl ?_
          refine aw_iload_n dX12_selectPath_115 rfl ?_
          refine aw_iload_n dX12_selectPath_116 rfl ?_
          refine aw_invS_r dX12_selectPath_117 sX12_stepAt kX12_165 rfl (KS) rfl rfl (by decide) (by decide) (by decide) (Nat.le_of_ble_eq_true rfl) ?_
          refine aw_iload dX12_selectPath_120 rfl ?_
          refine aw_invV_f dX12_selectPath_122 vX12_give kX12_260 rfl (KG) ⟨_, (by assumption), _, _, rfl⟩ rfl rfl (by decide) (by decide) (by decide) (Nat.le_of_ble_eq_true rfl) (fun H1 hP9 => ?_)
          obtain ⟨V1, E1⟩ := hP9
          refine aw_iconst dX12_selectPath_125 ?_
          refine aw_istore (ls1 := [(5, _), (4, _), (3, _), (0, _), (1, _), (2, _)]) dX12_selectPath_126 (by decide) rfl ?_
          refine aw_sub [0, 1, 2, 3, 4, 5] rfl ?_
          exact J H1 V1 E1
    | false =>
      rw [q] at gf
      have I := ih (k + 1) H (by omega) hE hF (hB.cong (fun u hu => by
        show tkS T st f k u = (tkS T st f k u || (f k && gvN T st k st.2.length u))
        rw [q]; simp))
      refine aw_iload dX12_selectPath_93 rfl ?_
      refine aw_aload_n dX12_selectPath_95 rfl ?_
      refine aw_getr' (j := 0) dX12_selectPath_96 fX12_7 rfl (by assumption) rfl (by assumption) ?_
      refine aw_iconst dX12_selectPath_99 ?_
      refine aw_iald' dX12_selectPath_100 (by assumption) (by omega) (by first | decide | omega) g0 ?_
      refine aw_ic_ge (tgt := 162) dX12_selectPath_101 rfl (by omega) (by omega) (fun c101 => ?_) (fun c101 => ?_)
      · exact absurd c101 (by omega)
      · refine aw_aload_n dX12_selectPath_104 rfl ?_
        refine aw_getr' (j := 20) dX12_selectPath_105 fX12_47 rfl (by assumption) rfl (by assumption) ?_
        refine aw_iload dX12_selectPath_108 rfl ?_
        refine aw_zald' dX12_selectPath_110 (by assumption) (by omega) (by first | decide | omega) gf ?_
        refine aw_if_eq (tgt := 156) dX12_selectPath_111 rfl (by omega) (fun c111 => ?_) (fun c111 => ?_)
        · refine aw_iinc (k9 := 0) (ls1 := [(4, _), (3, _), (0, _), (1, _), (2, _)]) dX12_selectPath_156 rfl (by decide) rfl ?_
          refine aw_goto (tgt := 93) dX12_selectPath_159 rfl ?_
          refine aw_sub [0, 1, 2, 3, 4] rfl ?_
          exact I
        · exact absurd c111 (by omega)
theorem i_sp65 {γ : GG} {a v : Nat} {b : Int} {T : Tr} {h : AH} {s : Nat} {f : Nat → Bool} {Q : AR → AH → Prop} (hM : shM h a) (hT : gTr (gi h (a + 1)) 0 T) (ho : okTr T) (kk : ∀ H, eqG (SPt a) h H → isBo H (a + 13) f (tn T) → isBo H (a + 14) (fun _ => false) (tn T) → AW γ mX12_selectPath 10 0 0 90 [(3, vi (s : Int)), (0, vr (some a)), (1, vi b), (2, vi (v : Int))] [] H Q) : ∀ (m k : Nat) (H : AH), k + m = tn T → eqG (SPt a) h H → isBo H (a + 13) f (tn T) → isBo H (a + 14) (fun _ => false) k → AW γ mX12_selectPath 10 0 0 65 [(4, vi (k : Int)), (3, vi (s : Int)), (0, vr (some a)), (1, vi b), (2, vi (v : Int))] [] H Q := by
  have n40 := ho.o.2.1
  intro m
  induction m with
  | zero =>
    intro k H hk hE hF hB
    obtain rfl : k = tn T := by omega
    have bT : bI true = 1 := rfl
    have bF : bI false = 0 := rfl
    have hM1 := hE.sh hM
    have hT1 := tr_k hT hE SPt_1
    have eq7 := q_k hE SPt_7
    obtain ⟨hka, rq, kq⟩ := hM1.q
    obtain ⟨rm, km⟩ := hM1.m
    obtain ⟨ra9, ka9⟩ := hM1.a9
    obtain ⟨rb9, kb9⟩ := hM1.b9
    obtain ⟨ri9, ki9⟩ := hM1.i9
    obtain ⟨rn9, kn9⟩ := hM1.n9
    have g0 : gi H (a + 1) 0 = (tn T : Int) := hT1.1
    have K := kk H hE hF hB
    refine aw_iload dX12_selectPath_65 rfl ?_
    refine aw_aload_n dX12_selectPath_67 rfl ?_
    refine aw_getr' (j := 0) dX12_selectPath_68 fX12_7 rfl (by assumption) rfl (by assumption) ?_
    refine aw_iconst dX12_selectPath_71 ?_
    refine aw_iald' dX12_selectPath_72 (by assumption) (by omega) (by first | decide | omega) g0 ?_
    refine aw_ic_ge (tgt := 90) dX12_selectPath_73 rfl (by omega) (by omega) (fun c73 => ?_) (fun c73 => ?_)
    · refine aw_sub [1, 2, 3, 4] rfl ?_
      exact K
    · exact absurd c73 (by omega)
  | succ m ih =>
    intro k H hk hE hF hB
    have bT : bI true = 1 := rfl
    have bF : bI false = 0 := rfl
    have hM1 := hE.sh hM
    have hT1 := tr_k hT hE SPt_1
    have eq7 := q_k hE SPt_7
    obtain ⟨hka, rq, kq⟩ := hM1.q
    obtain ⟨rm, km⟩ := hM1.m
    obtain ⟨ra9, ka9⟩ := hM1.a9
    obtain ⟨rb9, kb9⟩ := hM1.b9
    obtain ⟨ri9, ki9⟩ := hM1.i9
    obtain ⟨rn9, kn9⟩ := hM1.n9
    have g0 : gi H (a + 1) 0 = (tn T : Int) := hT1.1
    have I := ih (k + 1) (si H (a + 14) (k : Int) 0) (by omega) (hE.tr (eqG.si (Or.inr (Or.inr rfl)))) (fun j hj => (gi_ne (Or.inl (by omega))).trans (hF j hj)) (fun j hj => by
      by_cases z : j = k
      · subst z; exact gi_at rfl rfl
      · exact (gi_ne (Or.inr (by omega))).trans (hB j (by omega)))
    refine aw_iload dX12_selectPath_65 rfl ?_
    refine aw_aload_n dX12_selectPath_67 rfl ?_
    refine aw_getr' (j := 0) dX12_selectPath_68 fX12_7 rfl (by assumption) rfl (by assumption) ?_
    refine aw_iconst dX12_selectPath_71 ?_
    refine aw_iald' dX12_selectPath_72 (by assumption) (by omega) (by first | decide | omega) g0 ?_
    refine aw_ic_ge (tgt := 90) dX12_selectPath_73 rfl (by omega) (by omega) (fun c73 => ?_) (fun c73 => ?_)
    · exact absurd c73 (by omega)
    · refine aw_aload_n dX12_selectPath_76 rfl ?_
      refine aw_getr' (j := 21) dX12_selectPath_77 fX12_50 rfl (by assumption) rfl (by assumption) ?_
      refine aw_iload dX12_selectPath_80 rfl ?_
      refine aw_iconst dX12_selectPath_82 ?_
      refine aw_zast dX12_selectPath_83 (by assumption) (by omega) (by first | decide | omega) (Or.inl rfl) ?_
      refine aw_iinc (k9 := 0) (ls1 := [(4, _), (3, _), (0, _), (1, _), (2, _)]) dX12_selectPath_84 rfl (by decide) rfl ?_
      refine aw_goto (tgt := 65) dX12_selectPath_87 rfl ?_
      refine aw_sub [0, 1, 2, 3, 4] rfl ?_
      exact I
theorem i_sp165 {γ : GG} {a v : Nat} {b : Int} {T : Tr} {h : AH} {s : Nat} {G : Nat → Bool} {Q : AR → AH → Prop} (hM : shM h a) (hT : gTr (gi h (a + 1)) 0 T) (ho : okTr T) (kk : ∀ H, eqG (SPt a) h H → isBo H (a + 13) G (tn T) → AW γ mX12_selectPath 10 0 0 196 [(3, vi (s : Int)), (0, vr (some a)), (1, vi b), (2, vi (v : Int))] [] H Q) : ∀ (m k : Nat) (H : AH), k + m = tn T → eqG (SPt a) h H → isBo H (a + 14) G (tn T) → isBo H (a + 13) G k → AW γ mX12_selectPath 10 0 0 165 [(4, vi (k : Int)), (3, vi (s : Int)), (0, vr (some a)), (1, vi b), (2, vi (v : Int))] [] H Q := by
  have n40 := ho.o.2.1
  intro m
  induction m with
  | zero =>
    intro k H hk hE hF hB
    obtain rfl : k = tn T := by omega
    have bT : bI true = 1 := rfl
    have bF : bI false = 0 := rfl
    have hM1 := hE.sh hM
    have hT1 := tr_k hT hE SPt_1
    have eq7 := q_k hE SPt_7
    obtain ⟨hka, rq, kq⟩ := hM1.q
    obtain ⟨rm, km⟩ := hM1.m
    obtain ⟨ra9, ka9⟩ := hM1.a9
    obtain ⟨rb9, kb9⟩ := hM1.b9
    obtain ⟨ri9, ki9⟩ := hM1.i9
    obtain ⟨rn9, kn9⟩ := hM1.n9
    have g0 : gi H (a + 1) 0 = (tn T : Int) := hT1.1
    have K := kk H hE hB
    refine aw_iload dX12_selectPath_165 rfl ?_
    refine aw_aload_n dX12_selectPath_167 rfl ?_
    refine aw_getr' (j := 0) dX12_selectPath_168 fX12_7 rfl (by assumption) rfl (by assumption) ?_
    refine aw_iconst dX12_selectPath_171 ?_
    refine aw_iald' dX12_selectPath_172 (by assumption) (by omega) (by first | decide | omega) g0 ?_
    refine aw_ic_ge (tgt := 196) dX12_selectPath_173 rfl (by omega) (by omega) (fun c173 => ?_) (fun c173 => ?_)
    · refine aw_sub [1, 2, 3, 4] rfl ?_
      exact K
    · exact absurd c173 (by omega)
  | succ m ih =>
    intro k H hk hE hF hB
    have bT : bI true = 1 := rfl
    have bF : bI false = 0 := rfl
    have hM1 := hE.sh hM
    have hT1 := tr_k hT hE SPt_1
    have eq7 := q_k hE SPt_7
    obtain ⟨hka, rq, kq⟩ := hM1.q
    obtain ⟨rm, km⟩ := hM1.m
    obtain ⟨ra9, ka9⟩ := hM1.a9
    obtain ⟨rb9, kb9⟩ := hM1.b9
    obtain ⟨ri9, ki9⟩ := hM1.i9
    obtain ⟨rn9, kn9⟩ := hM1.n9
    have g0 : gi H (a + 1) 0 = (tn T : Int) := hT1.1
    have gb := hF k (by omega)
    have I := ih (k + 1) (si H (a + 13) (k : Int) (bI (G k))) (by omega) (hE.tr (eqG.si (Or.inr (Or.inl rfl)))) (fun j hj => (gi_ne (Or.inl (by omega))).trans (hF j hj)) (fun j hj => by
      by_cases z : j = k
      · subst z; exact gi_at rfl rfl
      · exact (gi_ne (Or.inr (by omega))).trans (hB j (by omega)))
    refine aw_iload dX12_selectPath_165 rfl ?_
    refine aw_aload_n dX12_selectPath_167 rfl ?_
    refine aw_getr' (j := 0) dX12_selectPath_168 fX12_7 rfl (by assumption) rfl (by assumption) ?_
    refine aw_iconst dX12_selectPath_171 ?_
    refine aw_iald' dX12_selectPath_172 (by assumption) (by omega) (by first | decide | omega) g0 ?_
    refine aw_ic_ge (tgt := 196) dX12_selectPath_173 rfl (by omega) (by omega) (fun c173 => ?_) (fun c173 => ?_)
    · exact absurd c173 (by omega)
    · refine aw_aload_n dX12_selectPath_176 rfl ?_
      refine aw_getr' (j := 20) dX12_selectPath_177 fX12_47 rfl (by assumption) rfl (by assumption) ?_
      refine aw_iload dX12_selectPath_180 rfl ?_
      refine aw_aload_n dX12_selectPath_182 rfl ?_
      refine aw_getr' (j := 21) dX12_selectPath_183 fX12_50 rfl (by assumption) rfl (by assumption) ?_
      refine aw_iload dX12_selectPath_186 rfl ?_
      refine aw_zald' dX12_selectPath_188 (by assumption) (by omega) (by first | decide | omega) gb ?_
      refine aw_zast dX12_selectPath_189 (by assumption) (by omega) (by first | decide | omega) (bI01 _) ?_
      refine aw_iinc (k9 := 0) (ls1 := [(4, _), (3, _), (0, _), (1, _), (2, _)]) dX12_selectPath_190 rfl (by decide) rfl ?_
      refine aw_goto (tgt := 165) dX12_selectPath_193 rfl ?_
      refine aw_sub [0, 1, 2, 3, 4] rfl ?_
      exact I
theorem l_sp50 {γ : GG} {a v : Nat} {b : Int} {t : TT} {T : Tr} {h : AH} (hM : shM h a) (hT : gTr (gi h (a + 1)) 0 T) (ho : okTr T) (hv : v < tn T) (hb : 0 ≤ b ∧ b + 1634 ≤ 6537) (hs : okW t) (hg : gT (gi h (a + 7)) b t) : ∀ (r : List TS) (s : Nat) (H : AH) (f : Nat → Bool), t.2.drop s = r → s ≤ t.2.length → (∀ k, f k = true → k < tn T) → paS T r f = seP T t v → eqG (SPt a) h H → isBo H (a + 13) f (tn T) → AW γ mX12_selectPath 10 0 0 50 [(3, vi (s : Int)), (0, vr (some a)), (1, vi b), (2, vi (v : Int))] [] H (rF (fun h' => isBo h' (a + 13) (seP T t v) (tn T) ∧ eqG (SPt a) h h')) := by
  have n40 := ho.o.2.1
  have l8 := hs.2.1
  intro r
  induction r with
  | nil =>
    intro s H f hd hi hf hX hE hF
    have bT : bI true = 1 := rfl
    have bF : bI false = 0 := rfl
    have hM1 := hE.sh hM
    have hT1 := tr_k hT hE SPt_1
    have eq7 := q_k hE SPt_7
    obtain ⟨hka, rq, kq⟩ := hM1.q
    obtain ⟨rm, km⟩ := hM1.m
    obtain ⟨ra9, ka9⟩ := hM1.a9
    obtain ⟨rb9, kb9⟩ := hM1.b9
    obtain ⟨ri9, ki9⟩ := hM1.i9
    obtain ⟨rn9, kn9⟩ := hM1.n9
    have g0 : gi H (a + 1) 0 = (tn T : Int) := hT1.1
    have g1 : gi H (a + 7) (b + 1) = t.2.length := by rw [eq7]; exact hg.2.1
    have e9 := drop_nil hd
    have hX : f = seP T t v := hX
    subst hX
    refine aw_iload_n dX12_selectPath_50 rfl ?_
    refine aw_aload_n dX12_selectPath_51 rfl ?_
    refine aw_getr' (j := 12) dX12_selectPath_52 fX12_28 rfl (by assumption) rfl (by assumption) ?_
    refine aw_iload_n dX12_selectPath_55 rfl ?_
    refine aw_iconst dX12_selectPath_56 ?_
    refine aw_iadd dX12_selectPath_57 ?_
    refine aw_iald' dX12_selectPath_58 (by assumption) (by omega) (by first | decide | omega) g1 ?_
    refine aw_ic_ge (tgt := 202) dX12_selectPath_59 rfl (by omega) (by omega) (fun c59 => ?_) (fun c59 => ?_)
    · exact aw_return dX12_selectPath_202 rfl (Or.inl rfl) ⟨rfl, hF, hE⟩
    · exact absurd c59 (by omega)
  | cons st r ih =>
    intro s H f hd hi hf hX hE hF
    have bT : bI true = 1 := rfl
    have bF : bI false = 0 := rfl
    have hM1 := hE.sh hM
    have hT1 := tr_k hT hE SPt_1
    have eq7 := q_k hE SPt_7
    obtain ⟨hka, rq, kq⟩ := hM1.q
    obtain ⟨rm, km⟩ := hM1.m
    obtain ⟨ra9, ka9⟩ := hM1.a9
    obtain ⟨rb9, kb9⟩ := hM1.b9
    obtain ⟨ri9, ki9⟩ := hM1.i9
    obtain ⟨rn9, kn9⟩ := hM1.n9
    have g0 : gi H (a + 1) 0 = (tn T : Int) := hT1.1
    have g1 : gi H (a + 7) (b + 1) = t.2.length := by rw [eq7]; exact hg.2.1
    obtain ⟨e9, hst, hr⟩ := drop_cons hd
    have J := i_sp65 (γ := γ) (v := v) (b := b) (s := s) (f := f) (Q := (rF (fun h' => isBo h' (a + 13) (seP T t v) (tn T) ∧ eqG (SPt a) h h'))) hM hT ho (fun H1 E1 F1 B1 => by
      have J2 := i_sp93 (γ := γ) (f := f) (Q := (rF (fun h' => isBo h' (a + 13) (seP T t v) (tn T) ∧ eqG (SPt a) h h'))) hM hT ho hv hb hs hg hst (fun H2 E2 B2 => by
        have J3 := i_sp165 (γ := γ) (v := v) (b := b) (s := s) (G := tkS T st f (tn T)) (Q := (rF (fun h' => isBo h' (a + 13) (seP T t v) (tn T) ∧ eqG (SPt a) h h'))) hM hT ho (fun H3 E3 B3 => by
          have I := ih (s + 1) H3 (foS (fun y => gvN T st y st.2.length) f) hr (by omega) (fun k hk => fo_lt hk) hX E3 (B3.cong (fun u _ => tkS_e n40 hf u))
          refine aw_iinc (k9 := 0) (ls1 := [(3, _), (0, _), (1, _), (2, _)]) dX12_selectPath_196 rfl (by decide) rfl ?_
          refine aw_goto (tgt := 50) dX12_selectPath_199 rfl ?_
          refine aw_sub [0, 1, 2, 3] rfl ?_
          exact I) (tn T) 0 H2 (Nat.zero_add _) E2 B2 (fun j hj => absurd hj (by omega))
        refine aw_iconst dX12_selectPath_162 ?_
        refine aw_istore (ls1 := [(4, _), (3, _), (0, _), (1, _), (2, _)]) dX12_selectPath_163 (by decide) rfl ?_
        refine aw_sub [0, 1, 2, 3, 4] rfl ?_
        exact J3) (tn T) 0 H1 (Nat.zero_add _) E1 F1 (B1.cong (fun u _ => rfl))
      refine aw_iconst dX12_selectPath_90 ?_
      refine aw_istore (ls1 := [(4, _), (3, _), (0, _), (1, _), (2, _)]) dX12_selectPath_91 (by decide) rfl ?_
      refine aw_sub [0, 1, 2, 3, 4] rfl ?_
      exact J2) (tn T) 0 H (Nat.zero_add _) hE hF (fun j hj => absurd hj (by omega))
    refine aw_iload_n dX12_selectPath_50 rfl ?_
    refine aw_aload_n dX12_selectPath_51 rfl ?_
    refine aw_getr' (j := 12) dX12_selectPath_52 fX12_28 rfl (by assumption) rfl (by assumption) ?_
    refine aw_iload_n dX12_selectPath_55 rfl ?_
    refine aw_iconst dX12_selectPath_56 ?_
    refine aw_iadd dX12_selectPath_57 ?_
    refine aw_iald' dX12_selectPath_58 (by assumption) (by omega) (by first | decide | omega) g1 ?_
    refine aw_ic_ge (tgt := 202) dX12_selectPath_59 rfl (by omega) (by omega) (fun c59 => ?_) (fun c59 => ?_)
    · exact absurd c59 (by omega)
    · refine aw_iconst dX12_selectPath_62 ?_
      refine aw_istore (ls1 := [(4, _), (3, _), (0, _), (1, _), (2, _)]) dX12_selectPath_63 (by decide) rfl ?_
      refine aw_sub [0, 1, 2, 3, 4] rfl ?_
      exact J
theorem l_sp2 {γ : GG} {a v : Nat} {b : Int} {t : TT} {T : Tr} {h : AH} (hM : shM h a) (hT : gTr (gi h (a + 1)) 0 T) (ho : okTr T) (hv : v < tn T) (hb : 0 ≤ b ∧ b + 1634 ≤ 6537) (hs : okW t) (hg : gT (gi h (a + 7)) b t) : ∀ (m k : Nat) (H : AH), k + m = tn T → eqG (SPt a) h H → isBo H (a + 13) (stP t v) k → AW γ mX12_selectPath 10 0 0 2 [(3, vi (k : Int)), (0, vr (some a)), (1, vi b), (2, vi (v : Int))] [] H (rF (fun h' => isBo h' (a + 13) (seP T t v) (tn T) ∧ eqG (SPt a) h h')) := by
  have n40 := ho.o.2.1
  intro m
  induction m with
  | zero =>
    intro k H hk hE hB
    obtain rfl : k = tn T := by omega
    have bT : bI true = 1 := rfl
    have bF : bI false = 0 := rfl
    have hM1 := hE.sh hM
    have hT1 := tr_k hT hE SPt_1
    have eq7 := q_k hE SPt_7
    obtain ⟨hka, rq, kq⟩ := hM1.q
    obtain ⟨rm, km⟩ := hM1.m
    obtain ⟨ra9, ka9⟩ := hM1.a9
    obtain ⟨rb9, kb9⟩ := hM1.b9
    obtain ⟨ri9, ki9⟩ := hM1.i9
    obtain ⟨rn9, kn9⟩ := hM1.n9
    have g0 : gi H (a + 1) 0 = (tn T : Int) := hT1.1
    have L := l_sp50 (γ := γ) hM hT ho hv hb hs hg t.2 0 H (stP t v) rfl (Nat.zero_le _) (stP_lt ho.o.1 hv) rfl hE hB
    refine aw_iload_n dX12_selectPath_2 rfl ?_
    refine aw_aload_n dX12_selectPath_3 rfl ?_
    refine aw_getr' (j := 0) dX12_selectPath_4 fX12_7 rfl (by assumption) rfl (by assumption) ?_
    refine aw_iconst dX12_selectPath_7 ?_
    refine aw_iald' dX12_selectPath_8 (by assumption) (by omega) (by first | decide | omega) g0 ?_
    refine aw_ic_ge (tgt := 48) dX12_selectPath_9 rfl (by omega) (by omega) (fun c9 => ?_) (fun c9 => ?_)
    · refine aw_iconst dX12_selectPath_48 ?_
      refine aw_istore_n (ls1 := [(3, _), (0, _), (1, _), (2, _)]) dX12_selectPath_49 (by decide) rfl ?_
      refine aw_sub [0, 1, 2, 3] rfl ?_
      exact L
    · exact absurd c9 (by omega)
  | succ m ih =>
    intro k H hk hE hB
    have bT : bI true = 1 := rfl
    have bF : bI false = 0 := rfl
    have hM1 := hE.sh hM
    have hT1 := tr_k hT hE SPt_1
    have eq7 := q_k hE SPt_7
    obtain ⟨hka, rq, kq⟩ := hM1.q
    obtain ⟨rm, km⟩ := hM1.m
    obtain ⟨ra9, ka9⟩ := hM1.a9
    obtain ⟨rb9, kb9⟩ := hM1.b9
    obtain ⟨ri9, ki9⟩ := hM1.i9
    obtain ⟨rn9, kn9⟩ := hM1.n9
    have g0 : gi H (a + 1) 0 = (tn T : Int) := hT1.1
    have gb : gi H (a + 7) b = bI t.1 := by rw [eq7]; exact hg.1
    have I := ih (k + 1) (si H (a + 13) (k : Int) (bI (stP t v k))) (by omega) (hE.tr (eqG.si (Or.inr (Or.inl rfl)))) (fun j hj => by
      by_cases z : j = k
      · subst z; exact gi_at rfl rfl
      · exact (gi_ne (Or.inr (by omega))).trans (hB j (by omega)))
    cases q : t.1 with
    | true =>
      rw [q] at gb
      have e : stP t v k = decide (k = 0) := by unfold stP; rw [if_pos q]
      rw [e] at I
      by_cases z : k = 0
      · rw [decide_eq_true z] at I
        refine aw_iload_n dX12_selectPath_2 rfl ?_
        refine aw_aload_n dX12_selectPath_3 rfl ?_
        refine aw_getr' (j := 0) dX12_selectPath_4 fX12_7 rfl (by assumption) rfl (by assumption) ?_
        refine aw_iconst dX12_selectPath_7 ?_
        refine aw_iald' dX12_selectPath_8 (by assumption) (by omega) (by first | decide | omega) g0 ?_
        refine aw_ic_ge (tgt := 48) dX12_selectPath_9 rfl (by omega) (by omega) (fun c9 => ?_) (fun c9 => ?_)
        · exact absurd c9 (by omega)
        · refine aw_aload_n dX12_selectPath_12 rfl ?_
          refine aw_getr' (j := 20) dX12_selectPath_13 fX12_47 rfl (by assumption) rfl (by assumption) ?_
          refine aw_iload_n dX12_selectPath_16 rfl ?_
          refine aw_iload_n dX12_selectPath_17 rfl ?_
          refine aw_aload_n dX12_selectPath_18 rfl ?_
          refine aw_getr' (j := 12) dX12_selectPath_19 fX12_28 rfl (by assumption) rfl (by assumption) ?_
          refine aw_iload_n dX12_selectPath_22 rfl ?_
          refine aw_iald' dX12_selectPath_23 (by assumption) (by omega) (by first | decide | omega) rfl ?_
          refine aw_iconst dX12_selectPath_24 ?_
          refine aw_ic_ne (tgt := 32) dX12_selectPath_25 rfl (by omega) (by omega) (fun c25 => ?_) (fun c25 => ?_)
          · exact absurd c25 (by omega)
          · refine aw_iconst dX12_selectPath_28 ?_
            refine aw_goto (tgt := 33) dX12_selectPath_29 rfl ?_
            refine aw_ic_ne (tgt := 40) dX12_selectPath_33 rfl (by omega) (by omega) (fun c33 => ?_) (fun c33 => ?_)
            · exact absurd c33 (by omega)
            · refine aw_iconst dX12_selectPath_36 ?_
              refine aw_goto (tgt := 41) dX12_selectPath_37 rfl ?_
              refine aw_zast dX12_selectPath_41 (by assumption) (by omega) (by first | decide | omega) (Or.inr rfl) ?_
              refine aw_iinc (k9 := 0) (ls1 := [(3, _), (0, _), (1, _), (2, _)]) dX12_selectPath_42 rfl (by decide) rfl ?_
              refine aw_goto (tgt := 2) dX12_selectPath_45 rfl ?_
              refine aw_sub [0, 1, 2, 3] rfl ?_
              exact I
      · rw [decide_eq_false z] at I
        refine aw_iload_n dX12_selectPath_2 rfl ?_
        refine aw_aload_n dX12_selectPath_3 rfl ?_
        refine aw_getr' (j := 0) dX12_selectPath_4 fX12_7 rfl (by assumption) rfl (by assumption) ?_
        refine aw_iconst dX12_selectPath_7 ?_
        refine aw_iald' dX12_selectPath_8 (by assumption) (by omega) (by first | decide | omega) g0 ?_
        refine aw_ic_ge (tgt := 48) dX12_selectPath_9 rfl (by omega) (by omega) (fun c9 => ?_) (fun c9 => ?_)
        · exact absurd c9 (by omega)
        · refine aw_aload_n dX12_selectPath_12 rfl ?_
          refine aw_getr' (j := 20) dX12_selectPath_13 fX12_47 rfl (by assumption) rfl (by assumption) ?_
          refine aw_iload_n dX12_selectPath_16 rfl ?_
          refine aw_iload_n dX12_selectPath_17 rfl ?_
          refine aw_aload_n dX12_selectPath_18 rfl ?_
          refine aw_getr' (j := 12) dX12_selectPath_19 fX12_28 rfl (by assumption) rfl (by assumption) ?_
          refine aw_iload_n dX12_selectPath_22 rfl ?_
          refine aw_iald' dX12_selectPath_23 (by assumption) (by omega) (by first | decide | omega) rfl ?_
          refine aw_iconst dX12_selectPath_24 ?_
          refine aw_ic_ne (tgt := 32) dX12_selectPath_25 rfl (by omega) (by omega) (fun c25 => ?_) (fun c25 => ?_)
          · exact absurd c25 (by omega)
          · refine aw_iconst dX12_selectPath_28 ?_
            refine aw_goto (tgt := 33) dX12_selectPath_29 rfl ?_
            refine aw_ic_ne (tgt := 40) dX12_selectPath_33 rfl (by omega) (by omega) (fun c33 => ?_) (fun c33 => ?_)
            · refine aw_iconst dX12_selectPath_40 ?_
              refine aw_zast dX12_selectPath_41 (by assumption) (by omega) (by first | decide | omega) (Or.inl rfl) ?_
              refine aw_iinc (k9 := 0) (ls1 := [(3, _), (0, _), (1, _), (2, _)]) dX12_selectPath_42 rfl (by decide) rfl ?_
              refine aw_goto (tgt := 2) dX12_selectPath_45 rfl ?_
              refine aw_sub [0, 1, 2, 3] rfl ?_
              exact I
            · exact absurd c33 (by omega)
    | false =>
      rw [q] at gb
      have e : stP t v k = decide (k = v) := by unfold stP; rw [if_neg (by rw [q]; decide)]
      rw [e] at I
      by_cases z : k = v
      · rw [decide_eq_true z] at I
        refine aw_iload_n dX12_selectPath_2 rfl ?_
        refine aw_aload_n dX12_selectPath_3 rfl ?_
        refine aw_getr' (j := 0) dX12_selectPath_4 fX12_7 rfl (by assumption) rfl (by assumption) ?_
        refine aw_iconst dX12_selectPath_7 ?_
        refine aw_iald' dX12_selectPath_8 (by assumption) (by omega) (by first | decide | omega) g0 ?_
        refine aw_ic_ge (tgt := 48) dX12_selectPath_9 rfl (by omega) (by omega) (fun c9 => ?_) (fun c9 => ?_)
        · exact absurd c9 (by omega)
        · refine aw_aload_n dX12_selectPath_12 rfl ?_
          refine aw_getr' (j := 20) dX12_selectPath_13 fX12_47 rfl (by assumption) rfl (by assumption) ?_
          refine aw_iload_n dX12_selectPath_16 rfl ?_
          refine aw_iload_n dX12_selectPath_17 rfl ?_
          refine aw_aload_n dX12_selectPath_18 rfl ?_
          refine aw_getr' (j := 12) dX12_selectPath_19 fX12_28 rfl (by assumption) rfl (by assumption) ?_
          refine aw_iload_n dX12_selectPath_22 rfl ?_
          refine aw_iald' dX12_selectPath_23 (by assumption) (by omega) (by first | decide | omega) rfl ?_
          refine aw_iconst dX12_selectPath_24 ?_
          refine aw_ic_ne (tgt := 32) dX12_selectPath_25 rfl (by omega) (by omega) (fun c25 => ?_) (fun c25 => ?_)
          · refine aw_iload_n dX12_selectPath_32 rfl ?_
            refine aw_ic_ne (tgt := 40) dX12_selectPath_33 rfl (by omega) (by omega) (fun c33 => ?_) (fun c33 => ?_)
            · exact absurd c33 (by omega)
            · refine aw_iconst dX12_selectPath_36 ?_
              refine aw_goto (tgt := 41) dX12_selectPath_37 rfl ?_
              refine aw_zast dX12_selectPath_41 (by assumption) (by omega) (by first | decide | omega) (Or.inr rfl) ?_
              refine aw_iinc (k9 := 0) (ls1 := [(3, _), (0, _), (1, _), (2, _)]) dX12_selectPath_42 rfl (by decide) rfl ?_
              refine aw_goto (tgt := 2) dX12_selectPath_45 rfl ?_
              refine aw_sub [0, 1, 2, 3] rfl ?_
              exact I
          · exact absurd c25 (by omega)
      · rw [decide_eq_false z] at I
        refine aw_iload_n dX12_selectPath_2 rfl ?_
        refine aw_aload_n dX12_selectPath_3 rfl ?_
        refine aw_getr' (j := 0) dX12_selectPath_4 fX12_7 rfl (by assumption) rfl (by assumption) ?_
        refine aw_iconst dX12_selectPath_7 ?_
        refine aw_iald' dX12_selectPath_8 (by assumption) (by omega) (by first | decide | omega) g0 ?_
        refine aw_ic_ge (tgt := 48) dX12_selectPath_9 rfl (by omega) (by omega) (fun c9 => ?_) (fun c9 => ?_)
        · exact absurd c9 (by omega)
        · refine aw_aload_n dX12_selectPath_12 rfl ?_
          refine aw_getr' (j := 20) dX12_selectPath_13 fX12_47 rfl (by assumption) rfl (by assumption) ?_
          refine aw_iload_n dX12_selectPath_16 rfl ?_
          refine aw_iload_n dX12_selectPath_17 rfl ?_
          refine aw_aload_n dX12_selectPath_18 rfl ?_
          refine aw_getr' (j := 12) dX12_selectPath_19 fX12_28 rfl (by assumption) rfl (by assumption) ?_
          refine aw_iload_n dX12_selectPath_22 rfl ?_
          refine aw_iald' dX12_selectPath_23 (by assumption) (by omega) (by first | decide | omega) rfl ?_
          refine aw_iconst dX12_selectPath_24 ?_
          refine aw_ic_ne (tgt := 32) dX12_selectPath_25 rfl (by omega) (by omega) (fun c25 => ?_) (fun c25 => ?_)
          · refine aw_iload_n dX12_selectPath_32 rfl ?_
            refine aw_ic_ne (tgt := 40) dX12_selectPath_33 rfl (by omega) (by omega) (fun c33 => ?_) (fun c33 => ?_)
            · refine aw_iconst dX12_selectPath_40 ?_
              refine aw_zast dX12_selectPath_41 (by assumption) (by omega) (by first | decide | omega) (Or.inl rfl) ?_
              refine aw_iinc (k9 := 0) (ls1 := [(3, _), (0, _), (1, _), (2, _)]) dX12_selectPath_42 rfl (by decide) rfl ?_
              refine aw_goto (tgt := 2) dX12_selectPath_45 rfl ?_
              refine aw_sub [0, 1, 2, 3] rfl ?_
              exact I
            · exact absurd c33 (by omega)
          · exact absurd c25 (by omega)
theorem m_selectPath {γ : GG} {h : AH} {a v : Nat} {b : Int} {t : TT} {T : Tr} (hM : shM h a) (hT : gTr (gi h (a + 1)) 0 T) (ho : okTr T) (hv : v < tn T) (hb : 0 ≤ b ∧ b + 1634 ≤ 6537) (hs : okW t) (hg : gT (gi h (a + 7)) b t) : Call γ mX12_selectPath 10 0 0 [vr (some a), vi b, vi (v : Int)] h (rF (fun h' => isBo h' (a + 13) (seP T t v) (tn T) ∧ eqG (SPt a) h h')) := by
  have L := l_sp2 (γ := γ) hM hT ho hv hb hs hg (tn T) 0 h (Nat.zero_add _) eqG.rf (fun j hj => absurd hj (by omega))
  refine Call.of (ls := [(0, vr (some a)), (1, vi b), (2, vi (v : Int))]) vX12_selectPath.1 (Nat.le_of_ble_eq_true rfl) rfl ?_
  refine aw_iconst dX12_selectPath_0 ?_
  refine aw_istore_n (ls1 := [(3, _), (0, _), (1, _), (2, _)]) dX12_selectPath_1 (by decide) rfl ?_
  refine aw_sub [0, 1, 2, 3] rfl ?_
  exact L
