/-! ===== the model: axes as lists ===== -/
theorem lsA_f {T : Tr} {ax : Int} {v : Nat} (h : ax < 6) : lsA T ax v = fu (alS T ax v) (tn T) := by
  unfold lsA orL rv6
  rw [decide_eq_false (by omega)]
  rfl
theorem lsA_b {T : Tr} {ax : Int} {v : Nat} (h : 6 ≤ ax) : lsA T ax v = (fu (alS T ax v) (tn T)).reverse := by
  unfold lsA orL rv6
  rw [decide_eq_true h]
  rfl
theorem al_back {T : Tr} {v k ax : Nat} (ho : okTr T) (hv : v < tn T) (hx : 6 ≤ ax ∧ ax ≤ 9) (hk : v ≤ k) : alS T (ax : Int) v k = false := by
  have hax : ax = 6 ∨ ax = 7 ∨ ax = 8 ∨ ax = 9 := by omega
  have o9 := ho.o
  rcases hax with rfl | rfl | rfl | rfl
  · show decide ((k : Int) = tpa T v) = false
    refine decide_eq_false ?_
    by_cases z : v = 0
    · subst z; have := o9.2.2.2.1; omega
    · have := o9.2.2.2.2.1 v (by omega) hv; omega
  · show decide (k < v ∧ v < endT T k) = false
    exact decide_eq_false (by omega)
  · show (sbS T v k && (decide (0 ≤ k) && decide (k < v))) = false
    rw [decide_eq_false (show ¬ k < v by omega)]
    simp
  · show ((decide (0 ≤ k) && decide (k < v)) && !anS T v k) = false
    rw [decide_eq_false (show ¬ k < v by omega)]
    simp
theorem pa_lt {T : Tr} (ho : okTr T) {k : Nat} (hk : k < tn T) : tpa T k < k := by
  have o9 := ho.o
  by_cases z : k = 0
  · subst z; have := o9.2.2.2.1; omega
  · exact (o9.2.2.2.2.1 k (by omega) hk).2
theorem fu_one (z : Int) : ∀ n, fu (fun k => decide ((k : Int) = z)) n = [] ∨ ∃ x : Nat, x < n ∧ (x : Int) = z ∧ fu (fun k => decide ((k : Int) = z)) n = [x] := by
  intro n
  induction n with
  | zero => exact Or.inl rfl
  | succ n ih =>
    by_cases q : (n : Int) = z
    · right
      refine ⟨n, by omega, q, ?_⟩
      rw [fu_st (decide_eq_true q)]
      rcases ih with e | ⟨x, x1, x2, e⟩
      · rw [e]; rfl
      · omega
    · rw [fu_sf (decide_eq_false q)]
      rcases ih with e | ⟨x, x1, x2, e⟩
      · exact Or.inl e
      · exact Or.inr ⟨x, by omega, x2, e⟩
/-- the parent axis has one node at most: its order is as one likes -/
theorem lsA_rv {T : Tr} {ax : Int} {v : Nat} (hx : 0 ≤ ax ∧ ax ≤ 9) : lsA T ax v = orL (rvA ax) (alS T ax v) (tn T) := by
  by_cases q : ax = 6
  · subst q
    rw [lsA_b (by omega)]
    have e : orL (rvA 6) (alS T 6 v) (tn T) = fu (alS T 6 v) (tn T) := rfl
    rw [e]
    rcases fu_one (tpa T v) (tn T) with z | ⟨x, _, _, z⟩
    · have z : fu (alS T 6 v) (tn T) = [] := z
      rw [z]; rfl
    · have z : fu (alS T 6 v) (tn T) = [x] := z
      rw [z]; rfl
  · unfold lsA
    congr 1
    unfold rv6 rvA
    exact decide_eq_decide.mpr (by omega)
theorem fu_mid {p : Nat → Bool} {b e n : Nat} (hbe : e ≤ n) (h2 : ∀ k, e ≤ k → k < n → p k = false) : fu p n = fu p e := fu_up hbe h2
theorem l_la0 {γ : GG} {a v : Nat} {T : Tr} {h : AH} (hM : shM h a) (hT : gTr (gi h (a + 1)) 0 T) (ho : okTr T) (hv : v < tn T) : ∀ (m k : Nat) (H : AH), k + m = endT T v → v + 1 ≤ k → eqG (SI a) h H → isLi H a (fu (alS T 0 v) k) → AW γ mX12_listAxis 4 0 0 100 [(4, vi (k : Int)), (3, vi (endT T v : Nat)), (0, vr (some a)), (1, vi (v : Int)), (2, vi 0)] [] H (rF (fun h' => isLi h' a (fu (alS T 0 v) (endT T v)) ∧ eqG (SI a) h h')) := by
  have o9 := ho.o
  have n40 := o9.2.1
  have rg := ho.rg.2 v hv
  have e9 := endT_spec (T := T) hv
  intro m
  induction m with
  | zero =>
    intro k H hk hb hE hL
    obtain rfl : k = endT T v := by omega
    have hM1 := hE.sh hM
    have hT1 := tr_k hT hE SI_1
    obtain ⟨hka, -, -⟩ := hM1.q
    obtain ⟨rm, km⟩ := hM1.m
    have g0 : gi H (a + 1) 0 = (tn T : Int) := hT1.1
    refine aw_iload dX12_listAxis_100 rfl ?_
    refine aw_iload_n dX12_listAxis_102 rfl ?_
    refine aw_ic_ge (tgt := 128) dX12_listAxis_103 rfl (by omega) (by omega) (fun c103 => ?_) (fun c103 => ?_)
    · refine aw_goto (tgt := 209) dX12_listAxis_128 rfl ?_
      exact aw_return dX12_listAxis_209 rfl (Or.inl rfl) ⟨rfl, hL, hE⟩
    · exact absurd c103 (by omega)
  | succ m ih =>
    intro k H hk hb hE hL
    have hM1 := hE.sh hM
    have hT1 := tr_k hT hE SI_1
    obtain ⟨hka, -, -⟩ := hM1.q
    obtain ⟨rm, km⟩ := hM1.m
    have g0 : gi H (a + 1) 0 = (tn T : Int) := hT1.1
    have hk2 : k < tn T := by omega
    have ll := fu_le (alS T 0 v) k
    have KL := m_lists (γ := γ) (x := k) hM1 hL (by omega)
    have KPk := m_parentOf (γ := γ) (h := H) (n := (k : Int)) hM1 (by omega)
    rw [gTr_p hT1 hk2] at KPk
    have KPv := m_parentOf (γ := γ) (h := H) (n := (v : Int)) hM1 (by omega)
    rw [gTr_p hT1 hv] at KPv
    have rk := ho.rg.2 k hk2
    by_cases q : tpa T k = (v : Int)
    · have hs : (alS T 0 v) k = true := by exact decide_eq_true ⟨hk2, q⟩
      have hs := fu_st hs
      refine aw_iload dX12_listAxis_100 rfl ?_
      refine aw_iload_n dX12_listAxis_102 rfl ?_
      refine aw_ic_ge (tgt := 128) dX12_listAxis_103 rfl (by omega) (by omega) (fun c103 => ?_) (fun c103 => ?_)
      · exact absurd c103 (by omega)
      · refine aw_aload_n dX12_listAxis_106 rfl ?_
        refine aw_iload dX12_listAxis_107 rfl ?_
        refine aw_invV_r dX12_listAxis_109 vX12_parentOf kX12_73 rfl (KPk) ⟨_, (by assumption), _, _, rfl⟩ rfl rfl (by decide) (by decide) (by decide) (Nat.le_of_ble_eq_true rfl) ?_
        refine aw_iload_n dX12_listAxis_112 rfl ?_
        refine aw_ic_ne (tgt := 122) dX12_listAxis_113 rfl (by omega) (by omega) (fun c113 => ?_) (fun c113 => ?_)
        · exact absurd c113 (by omega)
        · refine aw_aload_n dX12_listAxis_116 rfl ?_
          refine aw_iload dX12_listAxis_117 rfl ?_
          refine aw_invV_f dX12_listAxis_119 vX12_lists kX12_121 rfl (KL) ⟨_, (by assumption), _, _, rfl⟩ rfl rfl (by decide) (by decide) (by decide) (Nat.le_of_ble_eq_true rfl) (fun H1 hP9 => ?_)
          obtain ⟨L1, E1⟩ := hP9
          refine aw_iinc (k9 := 0) (ls1 := [(4, _), (3, _), (0, _), (1, _), (2, _)]) dX12_listAxis_122 rfl (by decide) rfl ?_
          refine aw_goto (tgt := 100) dX12_listAxis_125 rfl ?_
          refine aw_sub [0, 1, 2, 3, 4] rfl ?_
          exact ih (k + 1) H1 (by omega) (by omega) (hE.tr E1) (by rw [hs]; exact L1)
    · have hs : (alS T 0 v) k = false := by exact decide_eq_false (fun z => q z.2)
      have hs := fu_sf hs
      refine aw_iload dX12_listAxis_100 rfl ?_
      refine aw_iload_n dX12_listAxis_102 rfl ?_
      refine aw_ic_ge (tgt := 128) dX12_listAxis_103 rfl (by omega) (by omega) (fun c103 => ?_) (fun c103 => ?_)
      · exact absurd c103 (by omega)
      · refine aw_aload_n dX12_listAxis_106 rfl ?_
        refine aw_iload dX12_listAxis_107 rfl ?_
        refine aw_invV_r dX12_listAxis_109 vX12_parentOf kX12_73 rfl (KPk) ⟨_, (by assumption), _, _, rfl⟩ rfl rfl (by decide) (by decide) (by decide) (Nat.le_of_ble_eq_true rfl) ?_
        refine aw_iload_n dX12_listAxis_112 rfl ?_
        refine aw_ic_ne (tgt := 122) dX12_listAxis_113 rfl (by omega) (by omega) (fun c113 => ?_) (fun c113 => ?_)
        · refine aw_iinc (k9 := 0) (ls1 := [(4, _), (3, _), (0, _), (1, _), (2, _)]) dX12_listAxis_122 rfl (by decide) rfl ?_
          refine aw_goto (tgt := 100) dX12_listAxis_125 rfl ?_
          refine aw_sub [0, 1, 2, 3, 4] rfl ?_
          exact ih (k + 1) H (by omega) (by omega) hE (by rw [hs]; exact hL)
        · exact absurd c113 (by omega)
theorem l_la2 {γ : GG} {a v : Nat} {T : Tr} {h : AH} (hM : shM h a) (hT : gTr (gi h (a + 1)) 0 T) (ho : okTr T) (hv : v < tn T) : ∀ (m k : Nat) (H : AH), k + m = endT T v → v + 1 ≤ k → eqG (SI a) h H → isLi H a (fu (alS T 2 v) k) → AW γ mX12_listAxis 4 0 0 74 [(4, vi (k : Int)), (3, vi (endT T v : Nat)), (0, vr (some a)), (1, vi (v : Int)), (2, vi 2)] [] H (rF (fun h' => isLi h' a (fu (alS T 2 v) (endT T v)) ∧ eqG (SI a) h h')) := by
  have o9 := ho.o
  have n40 := o9.2.1
  have rg := ho.rg.2 v hv
  have e9 := endT_spec (T := T) hv
  intro m
  induction m with
  | zero =>
    intro k H hk hb hE hL
    obtain rfl : k = endT T v := by omega
    have hM1 := hE.sh hM
    have hT1 := tr_k hT hE SI_1
    obtain ⟨hka, -, -⟩ := hM1.q
    obtain ⟨rm, km⟩ := hM1.m
    have g0 : gi H (a + 1) 0 = (tn T : Int) := hT1.1
    refine aw_iload dX12_listAxis_74 rfl ?_
    refine aw_iload_n dX12_listAxis_76 rfl ?_
    refine aw_ic_ge (tgt := 92) dX12_listAxis_77 rfl (by omega) (by omega) (fun c77 => ?_) (fun c77 => ?_)
    · refine aw_goto (tgt := 209) dX12_listAxis_92 rfl ?_
      exact aw_return dX12_listAxis_209 rfl (Or.inl rfl) ⟨rfl, hL, hE⟩
    · exact absurd c77 (by omega)
  | succ m ih =>
    intro k H hk hb hE hL
    have hM1 := hE.sh hM
    have hT1 := tr_k hT hE SI_1
    obtain ⟨hka, -, -⟩ := hM1.q
    obtain ⟨rm, km⟩ := hM1.m
    have g0 : gi H (a + 1) 0 = (tn T : Int) := hT1.1
    have hk2 : k < tn T := by omega
    have ll := fu_le (alS T 2 v) k
    have KL := m_lists (γ := γ) (x := k) hM1 hL (by omega)
    have hs : (alS T 2 v) k = true := by show (decide (v + 1 ≤ k) && decide (k < endT T v)) = true; rw [decide_eq_true hb, decide_eq_true (by omega : k < endT T v)]; rfl
    have hs := fu_st hs
    refine aw_iload dX12_listAxis_74 rfl ?_
    refine aw_iload_n dX12_listAxis_76 rfl ?_
    refine aw_ic_ge (tgt := 92) dX12_listAxis_77 rfl (by omega) (by omega) (fun c77 => ?_) (fun c77 => ?_)
    · exact absurd c77 (by omega)
    · refine aw_aload_n dX12_listAxis_80 rfl ?_
      refine aw_iload dX12_listAxis_81 rfl ?_
      refine aw_invV_f dX12_listAxis_83 vX12_lists kX12_121 rfl (KL) ⟨_, (by assumption), _, _, rfl⟩ rfl rfl (by decide) (by decide) (by decide) (Nat.le_of_ble_eq_true rfl) (fun H1 hP9 => ?_)
      obtain ⟨L1, E1⟩ := hP9
      refine aw_iinc (k9 := 0) (ls1 := [(4, _), (3, _), (0, _), (1, _), (2, _)]) dX12_listAxis_86 rfl (by decide) rfl ?_
      refine aw_goto (tgt := 74) dX12_listAxis_89 rfl ?_
      refine aw_sub [0, 1, 2, 3, 4] rfl ?_
      exact ih (k + 1) H1 (by omega) (by omega) (hE.tr E1) (by rw [hs]; exact L1)
theorem l_la3 {γ : GG} {a v : Nat} {T : Tr} {h : AH} (hM : shM h a) (hT : gTr (gi h (a + 1)) 0 T) (ho : okTr T) (hv : v < tn T) : ∀ (m k : Nat) (H : AH), k + m = endT T v → v ≤ k → eqG (SI a) h H → isLi H a (fu (alS T 3 v) k) → AW γ mX12_listAxis 4 0 0 74 [(4, vi (k : Int)), (3, vi (endT T v : Nat)), (0, vr (some a)), (1, vi (v : Int)), (2, vi 3)] [] H (rF (fun h' => isLi h' a (fu (alS T 3 v) (endT T v)) ∧ eqG (SI a) h h')) := by
  have o9 := ho.o
  have n40 := o9.2.1
  have rg := ho.rg.2 v hv
  have e9 := endT_spec (T := T) hv
  intro m
  induction m with
  | zero =>
    intro k H hk hb hE hL
    obtain rfl : k = endT T v := by omega
    have hM1 := hE.sh hM
    have hT1 := tr_k hT hE SI_1
    obtain ⟨hka, -, -⟩ := hM1.q
    obtain ⟨rm, km⟩ := hM1.m
    have g0 : gi H (a + 1) 0 = (tn T : Int) := hT1.1
    refine aw_iload dX12_listAxis_74 rfl ?_
    refine aw_iload_n dX12_listAxis_76 rfl ?_
    refine aw_ic_ge (tgt := 92) dX12_listAxis_77 rfl (by omega) (by omega) (fun c77 => ?_) (fun c77 => ?_)
    · refine aw_goto (tgt := 209) dX12_listAxis_92 rfl ?_
      exact aw_return dX12_listAxis_209 rfl (Or.inl rfl) ⟨rfl, hL, hE⟩
    · exact absurd c77 (by omega)
  | succ m ih =>
    intro k H hk hb hE hL
    have hM1 := hE.sh hM
    have hT1 := tr_k hT hE SI_1
    obtain ⟨hka, -, -⟩ := hM1.q
    obtain ⟨rm, km⟩ := hM1.m
    have g0 : gi H (a + 1) 0 = (tn T : Int) := hT1.1
    have hk2 : k < tn T := by omega
    have ll := fu_le (alS T 3 v) k
    have KL := m_lists (γ := γ) (x := k) hM1 hL (by omega)
    have hs : (alS T 3 v) k = true := by show (decide (v ≤ k) && decide (k < endT T v)) = true; rw [decide_eq_true hb, decide_eq_true (by omega : k < endT T v)]; rfl
    have hs := fu_st hs
    refine aw_iload dX12_listAxis_74 rfl ?_
    refine aw_iload_n dX12_listAxis_76 rfl ?_
    refine aw_ic_ge (tgt := 92) dX12_listAxis_77 rfl (by omega) (by omega) (fun c77 => ?_) (fun c77 => ?_)
    · exact absurd c77 (by omega)
    · refine aw_aload_n dX12_listAxis_80 rfl ?_
      refine aw_iload dX12_listAxis_81 rfl ?_
      refine aw_invV_f dX12_listAxis_83 vX12_lists kX12_121 rfl (KL) ⟨_, (by assumption), _, _, rfl⟩ rfl rfl (by decide) (by decide) (by decide) (Nat.le_of_ble_eq_true rfl) (fun H1 hP9 => ?_)
      obtain ⟨L1, E1⟩ := hP9
      refine aw_iinc (k9 := 0) (ls1 := [(4, _), (3, _), (0, _), (1, _), (2, _)]) dX12_listAxis_86 rfl (by decide) rfl ?_
      refine aw_goto (tgt := 74) dX12_listAxis_89 rfl ?_
      refine aw_sub [0, 1, 2, 3, 4] rfl ?_
      exact ih (k + 1) H1 (by omega) (by omega) (hE.tr E1) (by rw [hs]; exact L1)
theorem l_la5 {γ : GG} {a v : Nat} {T : Tr} {h : AH} (hM : shM h a) (hT : gTr (gi h (a + 1)) 0 T) (ho : okTr T) (hv : v < tn T) : ∀ (m k : Nat) (H : AH), k + m = tn T → endT T v ≤ k → eqG (SI a) h H → isLi H a (fu (alS T 5 v) k) → AW γ mX12_listAxis 4 0 0 134 [(4, vi (k : Int)), (3, vi (endT T v : Nat)), (0, vr (some a)), (1, vi (v : Int)), (2, vi 5)] [] H (rF (fun h' => isLi h' a (fu (alS T 5 v) (tn T)) ∧ eqG (SI a) h h')) := by
  have o9 := ho.o
  have n40 := o9.2.1
  have rg := ho.rg.2 v hv
  have e9 := endT_spec (T := T) hv
  intro m
  induction m with
  | zero =>
    intro k H hk hb hE hL
    obtain rfl : k = tn T := by omega
    have hM1 := hE.sh hM
    have hT1 := tr_k hT hE SI_1
    obtain ⟨hka, -, -⟩ := hM1.q
    obtain ⟨rm, km⟩ := hM1.m
    have g0 : gi H (a + 1) 0 = (tn T : Int) := hT1.1
    refine aw_iload dX12_listAxis_134 rfl ?_
    refine aw_aload_n dX12_listAxis_136 rfl ?_
    refine aw_getr' (j := 0) dX12_listAxis_137 fX12_7 rfl (by assumption) rfl (by assumption) ?_
    refine aw_iconst dX12_listAxis_140 ?_
    refine aw_iald' dX12_listAxis_141 (by assumption) (by omega) (by first | decide | omega) g0 ?_
    refine aw_ic_ge (tgt := 157) dX12_listAxis_142 rfl (by omega) (by omega) (fun c142 => ?_) (fun c142 => ?_)
    · refine aw_goto (tgt := 209) dX12_listAxis_157 rfl ?_
      exact aw_return dX12_listAxis_209 rfl (Or.inl rfl) ⟨rfl, hL, hE⟩
    · exact absurd c142 (by omega)
  | succ m ih =>
    intro k H hk hb hE hL
    have hM1 := hE.sh hM
    have hT1 := tr_k hT hE SI_1
    obtain ⟨hka, -, -⟩ := hM1.q
    obtain ⟨rm, km⟩ := hM1.m
    have g0 : gi H (a + 1) 0 = (tn T : Int) := hT1.1
    have hk2 : k < tn T := by omega
    have ll := fu_le (alS T 5 v) k
    have KL := m_lists (γ := γ) (x := k) hM1 hL (by omega)
    have hs : (alS T 5 v) k = true := by show (decide (endT T v ≤ k) && decide (k < tn T)) = true; rw [decide_eq_true hb, decide_eq_true hk2]; rfl
    have hs := fu_st hs
    refine aw_iload dX12_listAxis_134 rfl ?_
    refine aw_aload_n dX12_listAxis_136 rfl ?_
    refine aw_getr' (j := 0) dX12_listAxis_137 fX12_7 rfl (by assumption) rfl (by assumption) ?_
    refine aw_iconst dX12_listAxis_140 ?_
    refine aw_iald' dX12_listAxis_141 (by assumption) (by omega) (by first | decide | omega) g0 ?_
    refine aw_ic_ge (tgt := 157) dX12_listAxis_142 rfl (by omega) (by omega) (fun c142 => ?_) (fun c142 => ?_)
    · exact absurd c142 (by omega)
    · refine aw_aload_n dX12_listAxis_145 rfl ?_
      refine aw_iload dX12_listAxis_146 rfl ?_
      refine aw_invV_f dX12_listAxis_148 vX12_lists kX12_121 rfl (KL) ⟨_, (by assumption), _, _, rfl⟩ rfl rfl (by decide) (by decide) (by decide) (Nat.le_of_ble_eq_true rfl) (fun H1 hP9 => ?_)
      obtain ⟨L1, E1⟩ := hP9
      refine aw_iinc (k9 := 0) (ls1 := [(4, _), (3, _), (0, _), (1, _), (2, _)]) dX12_listAxis_151 rfl (by decide) rfl ?_
      refine aw_goto (tgt := 134) dX12_listAxis_154 rfl ?_
      refine aw_sub [0, 1, 2, 3, 4] rfl ?_
      exact ih (k + 1) H1 (by omega) (by omega) (hE.tr E1) (by rw [hs]; exact L1)
theorem l_la4 {γ : GG} {a v : Nat} {T : Tr} {h : AH} (hM : shM h a) (hT : gTr (gi h (a + 1)) 0 T) (ho : okTr T) (hv : v < tn T) : ∀ (m k : Nat) (H : AH), k + m = tn T → endT T v ≤ k → eqG (SI a) h H → isLi H a (fu (alS T 4 v) k) → AW γ mX12_listAxis 4 0 0 163 [(4, vi (k : Int)), (3, vi (endT T v : Nat)), (0, vr (some a)), (1, vi (v : Int)), (2, vi 4)] [] H (rF (fun h' => isLi h' a (fu (alS T 4 v) (tn T)) ∧ eqG (SI a) h h')) := by
  have o9 := ho.o
  have n40 := o9.2.1
  have rg := ho.rg.2 v hv
  have e9 := endT_spec (T := T) hv
  intro m
  induction m with
  | zero =>
    intro k H hk hb hE hL
    obtain rfl : k = tn T := by omega
    have hM1 := hE.sh hM
    have hT1 := tr_k hT hE SI_1
    obtain ⟨hka, -, -⟩ := hM1.q
    obtain ⟨rm, km⟩ := hM1.m
    have g0 : gi H (a + 1) 0 = (tn T : Int) := hT1.1
    refine aw_iload dX12_listAxis_163 rfl ?_
    refine aw_aload_n dX12_listAxis_165 rfl ?_
    refine aw_getr' (j := 0) dX12_listAxis_166 fX12_7 rfl (by assumption) rfl (by assumption) ?_
    refine aw_iconst dX12_listAxis_169 ?_
    refine aw_iald' dX12_listAxis_170 (by assumption) (by omega) (by first | decide | omega) g0 ?_
    refine aw_ic_ge (tgt := 200) dX12_listAxis_171 rfl (by omega) (by omega) (fun c171 => ?_) (fun c171 => ?_)
    · refine aw_goto (tgt := 209) dX12_listAxis_200 rfl ?_
      exact aw_return dX12_listAxis_209 rfl (Or.inl rfl) ⟨rfl, hL, hE⟩
    · exact absurd c171 (by omega)
  | succ m ih =>
    intro k H hk hb hE hL
    have hM1 := hE.sh hM
    have hT1 := tr_k hT hE SI_1
    obtain ⟨hka, -, -⟩ := hM1.q
    obtain ⟨rm, km⟩ := hM1.m
    have g0 : gi H (a + 1) 0 = (tn T : Int) := hT1.1
    have hk2 : k < tn T := by omega
    have ll := fu_le (alS T 4 v) k
    have KL := m_lists (γ := γ) (x := k) hM1 hL (by omega)
    have KPk := m_parentOf (γ := γ) (h := H) (n := (k : Int)) hM1 (by omega)
    rw [gTr_p hT1 hk2] at KPk
    have KPv := m_parentOf (γ := γ) (h := H) (n := (v : Int)) hM1 (by omega)
    rw [gTr_p hT1 hv] at KPv
    have rk := ho.rg.2 k hk2
    by_cases q : tpa T k = tpa T v
    · have hs : (alS T 4 v) k = true := by 
        have q0 : 0 ≤ tpa T v := by
          have := o9.2.2.2.2.1 k (by omega) hk2
          omega
        show (decide (0 ≤ tpa T v) && decide (k < tn T ∧ tpa T k = tpa T v) && (decide (v + 1 ≤ k) && decide (k < tn T))) = true
        rw [decide_eq_true q0, decide_eq_true (⟨hk2, q⟩ : k < tn T ∧ tpa T k = tpa T v), decide_eq_true (by omega : v + 1 ≤ k), decide_eq_true hk2]; rfl
      have hs := fu_st hs
      refine aw_iload dX12_listAxis_163 rfl ?_
      refine aw_aload_n dX12_listAxis_165 rfl ?_
      refine aw_getr' (j := 0) dX12_listAxis_166 fX12_7 rfl (by assumption) rfl (by assumption) ?_
      refine aw_iconst dX12_listAxis_169 ?_
      refine aw_iald' dX12_listAxis_170 (by assumption) (by omega) (by first | decide | omega) g0 ?_
      refine aw_ic_ge (tgt := 200) dX12_listAxis_171 rfl (by omega) (by omega) (fun c171 => ?_) (fun c171 => ?_)
      · exact absurd c171 (by omega)
      · refine aw_aload_n dX12_listAxis_174 rfl ?_
        refine aw_iload dX12_listAxis_175 rfl ?_
        refine aw_invV_r dX12_listAxis_177 vX12_parentOf kX12_73 rfl (KPk) ⟨_, (by assumption), _, _, rfl⟩ rfl rfl (by decide) (by decide) (by decide) (Nat.le_of_ble_eq_true rfl) ?_
        refine aw_aload_n dX12_listAxis_180 rfl ?_
        refine aw_iload_n dX12_listAxis_181 rfl ?_
        refine aw_invV_r dX12_listAxis_182 vX12_parentOf kX12_73 rfl (KPv) ⟨_, (by assumption), _, _, rfl⟩ rfl rfl (by decide) (by decide) (by decide) (Nat.le_of_ble_eq_true rfl) ?_
        refine aw_ic_ne (tgt := 194) dX12_listAxis_185 rfl (by omega) (by omega) (fun c185 => ?_) (fun c185 => ?_)
        · exact absurd c185 (by omega)
        · refine aw_aload_n dX12_listAxis_188 rfl ?_
          refine aw_iload dX12_listAxis_189 rfl ?_
          refine aw_invV_f dX12_listAxis_191 vX12_lists kX12_121 rfl (KL) ⟨_, (by assumption), _, _, rfl⟩ rfl rfl (by decide) (by decide) (by decide) (Nat.le_of_ble_eq_true rfl) (fun H1 hP9 => ?_)
          obtain ⟨L1, E1⟩ := hP9
          refine aw_iinc (k9 := 0) (ls1 := [(4, _), (3, _), (0, _), (1, _), (2, _)]) dX12_listAxis_194 rfl (by decide) rfl ?_
          refine aw_goto (tgt := 163) dX12_listAxis_197 rfl ?_
          refine aw_sub [0, 1, 2, 3, 4] rfl ?_
          exact ih (k + 1) H1 (by omega) (by omega) (hE.tr E1) (by rw [hs]; exact L1)
    · have hs : (alS T 4 v) k = false := by show (decide (0 ≤ tpa T v) && decide (k < tn T ∧ tpa T k = tpa T v) && (decide (v + 1 ≤ k) && decide (k < tn T))) = false; rw [decide_eq_false (fun z => q z.2 : ¬ (k < tn T ∧ tpa T k = tpa T v))]; simp
      have hs := fu_sf hs
      refine aw_iload dX12_listAxis_163 rfl ?_
      refine aw_aload_n dX12_listAxis_165 rfl ?_
      refine aw_getr' (j := 0) dX12_listAxis_166 fX12_7 rfl (by assumption) rfl (by assumption) ?_
      refine aw_iconst dX12_listAxis_169 ?_
      refine aw_iald' dX12_listAxis_170 (by assumption) (by omega) (by first | decide | omega) g0 ?_
      refine aw_ic_ge (tgt := 200) dX12_listAxis_171 rfl (by omega) (by omega) (fun c171 => ?_) (fun c171 => ?_)
      · exact absurd c171 (by omega)
      · refine aw_aload_n dX12_listAxis_174 rfl ?_
        refine aw_iload dX12_listAxis_175 rfl ?_
        refine aw_invV_r dX12_listAxis_177 vX12_parentOf kX12_73 rfl (KPk) ⟨_, (by assumption), _, _, rfl⟩ rfl rfl (by decide) (by decide) (by decide) (Nat.le_of_ble_eq_true rfl) ?_
        refine aw_aload_n dX12_listAxis_180 rfl ?_
        refine aw_iload_n dX12_listAxis_181 rfl ?_
        refine aw_invV_r dX12_listAxis_182 vX12_parentOf kX12_73 rfl (KPv) ⟨_, (by assumption), _, _, rfl⟩ rfl rfl (by decide) (by decide) (by decide) (Nat.le_of_ble_eq_true rfl) ?_
        refine aw_ic_ne (tgt := 194) dX12_listAxis_185 rfl (by omega) (by omega) (fun c185 => ?_) (fun c185 => ?_)
        · refine aw_iinc (k9 := 0) (ls1 := [(4, _), (3, _), (0, _), (1, _), (2, _)]) dX12_listAxis_194 rfl (by decide) rfl ?_
          refine aw_goto (tgt := 163) dX12_listAxis_197 rfl ?_
          refine aw_sub [0, 1, 2, 3, 4] rfl ?_
          exact ih (k + 1) H (by omega) (by omega) hE (by rw [hs]; exact hL)
        · exact absurd c185 (by omega)
theorem fu_v {v n : Nat} (hv : v < n) : fu (fun k => decide (k = v)) n = [v] := by
  rw [fu_up (b := v + 1) hv (fun k k1 _ => decide_eq_false (by omega)), fu_st (decide_eq_true rfl), fu_0 (fun k k1 => decide_eq_false (by omega))]
  rfl
theorem sb_in {T : Tr} {v k : Nat} (ho : okTr T) (hv : v < tn T) (hk : k < endT T v) : alS T 4 v k = false := by
  have o9 := ho.o
  have e9 := endT_spec (T := T) hv
  show (decide (0 ≤ tpa T v) && decide (k < tn T ∧ tpa T k = tpa T v) && (decide (v + 1 ≤ k) && decide (k < tn T))) = false
  by_cases q1 : v + 1 ≤ k
  · have h1 := e9.2.2.1 k q1 hk
    by_cases q2 : tpa T k = tpa T v
    · have : tpa T v < v := by
        by_cases z : v = 0
        · subst z; have := o9.2.2.2.1; omega
        · have := o9.2.2.2.2.1 v (by omega) hv; omega
      omega
    · rw [decide_eq_false (fun z => q2 z.2 : ¬ (k < tn T ∧ tpa T k = tpa T v))]; simp
  · rw [decide_eq_false q1]; simp
theorem m_listAxis {γ : GG} {h : AH} {a v ax : Nat} {T : Tr} (hM : shM h a) (hT : gTr (gi h (a + 1)) 0 T) (ho : okTr T) (hv : v < tn T) (hx : ax ≤ 9) : Call γ mX12_listAxis 4 0 0 [vr (some a), vi (v : Int), vi (ax : Int)] h (rF (fun h' => isLi h' a (lsA T (ax : Int) v) ∧ eqG (SI a) h h')) := by
  obtain ⟨hka, -, -⟩ := hM.q
  have o9 := ho.o
  have n40 := o9.2.1
  have rg := ho.rg.2 v hv
  have e9 := endT_spec (T := T) hv
  have hE0 : eqG (SI a) h (si h a 7 0) := eqG.si (Or.inl ⟨rfl, rfl⟩)
  have hM0 := hE0.sh hM
  have hT0 := tr_k hT hE0 SI_1
  have hL0 : isLi (si h a 7 0) a [] := isLi_nil (gi_at rfl rfl)
  have KE := m_endOf (γ := γ) hM0 hT0 ho.rg hv
  have fin : ∀ (x : Nat) (p : Nat → Bool) (e : Nat), alS T (x : Int) v = p → x < 6 → e ≤ tn T → (∀ k, e ≤ k → k < tn T → p k = false) → ∀ r h', rF (fun h' => isLi h' a (fu p e) ∧ eqG (SI a) (si h a 7 0) h') r h' → rF (fun h' => isLi h' a (lsA T (x : Int) v) ∧ eqG (SI a) h h') r h' := by
    intro x p e hp hax he hf r h' hq
    obtain ⟨q1, q2, q3⟩ := hq
    refine ⟨q1, ?_, hE0.tr q3⟩
    rw [lsA_f (by omega), hp, fu_up he hf]
    exact q2
  match ax, hx with
  | 0, _ =>
    refine Call.mono (fin 0 (alS T 0 v) (endT T v) rfl (by decide) e9.2.1 (fun k k1 k2 => by show decide (k < tn T ∧ tpa T k = v) = false; exact decide_eq_false (fun z => by have := sub_end (T := T) ho (k := k) (p := v) (by omega) k2 z.2; omega))) ?_
    refine Call.of (ls := [(0, vr (some a)), (1, vi (v : Int)), (2, vi ((0 : Nat) : Int))]) vX12_listAxis.1 (Nat.le_of_ble_eq_true rfl) rfl ?_
    refine aw_aload_n dX12_listAxis_0 rfl ?_
    refine aw_iconst dX12_listAxis_1 ?_
    refine aw_puti' (j := 7) rfl dX12_listAxis_2 fX12_114 (by assumption) rfl ?_
    refine aw_aload_n dX12_listAxis_5 rfl ?_
    refine aw_iload_n dX12_listAxis_6 rfl ?_
    refine aw_invV_r dX12_listAxis_7 vX12_endOf kX12_88 rfl (KE) ⟨_, (by assumption), _, _, rfl⟩ rfl rfl (by decide) (by decide) (by decide) (Nat.le_of_ble_eq_true rfl) ?_
    refine aw_istore_n (ls1 := [(3, _), (0, _), (1, _), (2, _)]) dX12_listAxis_10 (by decide) rfl ?_
    refine aw_iload_n dX12_listAxis_11 rfl ?_
    refine aw_tableIn (off := 83) (tgt := 95) dX12_listAxis_12 (by omega) (by decide) (by decide) rfl rfl ?_
    refine aw_iload_n dX12_listAxis_95 rfl ?_
    refine aw_iconst dX12_listAxis_96 ?_
    refine aw_iadd dX12_listAxis_97 ?_
    rw [show (v : Int) + 1 = ((v + 1 : Nat) : Int) by omega]
    refine aw_istore (ls1 := [(4, _), (3, _), (0, _), (1, _), (2, _)]) dX12_listAxis_98 (by decide) rfl ?_
    refine aw_sub [0, 1, 2, 3, 4] rfl ?_
    exact l_la0 (γ := γ) hM0 hT0 ho hv (endT T v - (v + 1)) (v + 1) (si h a 7 0) (by omega) (Nat.le_refl _) eqG.rf (by rw [show fu (alS T 0 v) (v + 1) = [] from fu_0 (fun k k1 => by show decide (k < tn T ∧ tpa T k = v) = false; exact decide_eq_false (fun z => by have z2 := z.2; have z3 := pa_lt ho z.1; omega))]; exact hL0)
  | 1, _ =>
    refine Call.of (ls := [(0, vr (some a)), (1, vi (v : Int)), (2, vi ((1 : Nat) : Int))]) vX12_listAxis.1 (Nat.le_of_ble_eq_true rfl) rfl ?_
    refine aw_aload_n dX12_listAxis_0 rfl ?_
    refine aw_iconst dX12_listAxis_1 ?_
    refine aw_puti' (j := 7) rfl dX12_listAxis_2 fX12_114 (by assumption) rfl ?_
    refine aw_aload_n dX12_listAxis_5 rfl ?_
    refine aw_iload_n dX12_listAxis_6 rfl ?_
    refine aw_invV_r dX12_listAxis_7 vX12_endOf kX12_88 rfl (KE) ⟨_, (by assumption), _, _, rfl⟩ rfl rfl (by decide) (by decide) (by decide) (Nat.le_of_ble_eq_true rfl) ?_
    refine aw_istore_n (ls1 := [(3, _), (0, _), (1, _), (2, _)]) dX12_listAxis_10 (by decide) rfl ?_
    refine aw_iload_n dX12_listAxis_11 rfl ?_
    refine aw_tableIn (off := 40) (tgt := 52) dX12_listAxis_12 (by omega) (by decide) (by decide) rfl rfl ?_
    refine aw_aload_n dX12_listAxis_52 rfl ?_
    refine aw_iload_n dX12_listAxis_53 rfl ?_
    refine aw_invV_f dX12_listAxis_54 vX12_lists kX12_121 rfl (m_lists (x := v) hM0 hL0 (by decide)) ⟨_, (by assumption), _, _, rfl⟩ rfl rfl (by decide) (by decide) (by decide) (Nat.le_of_ble_eq_true rfl) (fun H1 hP9 => ?_)
    obtain ⟨L1, E1⟩ := hP9
    refine aw_goto (tgt := 209) dX12_listAxis_57 rfl ?_
    exact aw_return dX12_listAxis_209 rfl (Or.inl rfl) ⟨rfl, (by rw [lsA_f (by decide), show alS T ((1 : Nat) : Int) v = (fun k => decide (k = v)) from rfl, fu_v hv]; exact L1), hE0.tr E1⟩
  | 2, _ =>
    refine Call.mono (fin 2 (alS T 2 v) (endT T v) rfl (by decide) e9.2.1 (fun k k1 k2 => by show (decide (v + 1 ≤ k) && decide (k < endT T v)) = false; rw [decide_eq_false (show ¬ k < endT T v by omega)]; simp)) ?_
    refine Call.of (ls := [(0, vr (some a)), (1, vi (v : Int)), (2, vi ((2 : Nat) : Int))]) vX12_listAxis.1 (Nat.le_of_ble_eq_true rfl) rfl ?_
    refine aw_aload_n dX12_listAxis_0 rfl ?_
    refine aw_iconst dX12_listAxis_1 ?_
    refine aw_puti' (j := 7) rfl dX12_listAxis_2 fX12_114 (by assumption) rfl ?_
    refine aw_aload_n dX12_listAxis_5 rfl ?_
    refine aw_iload_n dX12_listAxis_6 rfl ?_
    refine aw_invV_r dX12_listAxis_7 vX12_endOf kX12_88 rfl (KE) ⟨_, (by assumption), _, _, rfl⟩ rfl rfl (by decide) (by decide) (by decide) (Nat.le_of_ble_eq_true rfl) ?_
    refine aw_istore_n (ls1 := [(3, _), (0, _), (1, _), (2, _)]) dX12_listAxis_10 (by decide) rfl ?_
    refine aw_iload_n dX12_listAxis_11 rfl ?_
    refine aw_tableIn (off := 48) (tgt := 60) dX12_listAxis_12 (by omega) (by decide) (by decide) rfl rfl ?_
    refine aw_iload_n dX12_listAxis_60 rfl ?_
    refine aw_iconst dX12_listAxis_61 ?_
    refine aw_ic_ne (tgt := 71) dX12_listAxis_62 rfl (by omega) (by omega) (fun c62 => ?_) (fun c62 => ?_)
    · exact absurd c62 (by omega)
    · refine aw_iload_n dX12_listAxis_65 rfl ?_
      refine aw_iconst dX12_listAxis_66 ?_
      refine aw_iadd dX12_listAxis_67 ?_
      rw [show (v : Int) + 1 = ((v + 1 : Nat) : Int) by omega]
      refine aw_goto (tgt := 72) dX12_listAxis_68 rfl ?_
      refine aw_istore (ls1 := [(4, _), (3, _), (0, _), (1, _), (2, _)]) dX12_listAxis_72 (by decide) rfl ?_
      refine aw_sub [0, 1, 2, 3, 4] rfl ?_
      exact l_la2 (γ := γ) hM0 hT0 ho hv (endT T v - (v + 1)) (v + 1) (si h a 7 0) (by omega) (Nat.le_refl _) eqG.rf (by rw [show fu (alS T 2 v) (v + 1) = [] from fu_0 (fun k k1 => by show (decide (v + 1 ≤ k) && decide (k < endT T v)) = false; rw [decide_eq_false (show ¬ v + 1 ≤ k by omega)]; rfl)]; exact hL0)
  | 3, _ =>
    refine Call.mono (fin 3 (alS T 3 v) (endT T v) rfl (by decide) e9.2.1 (fun k k1 k2 => by show (decide (v ≤ k) && decide (k < endT T v)) = false; rw [decide_eq_false (show ¬ k < endT T v by omega)]; simp)) ?_
    refine Call.of (ls := [(0, vr (some a)), (1, vi (v : Int)), (2, vi ((3 : Nat) : Int))]) vX12_listAxis.1 (Nat.le_of_ble_eq_true rfl) rfl ?_
    refine aw_aload_n dX12_listAxis_0 rfl ?_
    refine aw_iconst dX12_listAxis_1 ?_
    refine aw_puti' (j := 7) rfl dX12_listAxis_2 fX12_114 (by assumption) rfl ?_
    refine aw_aload_n dX12_listAxis_5 rfl ?_
    refine aw_iload_n dX12_listAxis_6 rfl ?_
    refine aw_invV_r dX12_listAxis_7 vX12_endOf kX12_88 rfl (KE) ⟨_, (by assumption), _, _, rfl⟩ rfl rfl (by decide) (by decide) (by decide) (Nat.le_of_ble_eq_true rfl) ?_
    refine aw_istore_n (ls1 := [(3, _), (0, _), (1, _), (2, _)]) dX12_listAxis_10 (by decide) rfl ?_
    refine aw_iload_n dX12_listAxis_11 rfl ?_
    refine aw_tableIn (off := 48) (tgt := 60) dX12_listAxis_12 (by omega) (by decide) (by decide) rfl rfl ?_
    refine aw_iload_n dX12_listAxis_60 rfl ?_
    refine aw_iconst dX12_listAxis_61 ?_
    refine aw_ic_ne (tgt := 71) dX12_listAxis_62 rfl (by omega) (by omega) (fun c62 => ?_) (fun c62 => ?_)
    · refine aw_iload_n dX12_listAxis_71 rfl ?_
      refine aw_istore (ls1 := [(4, _), (3, _), (0, _), (1, _), (2, _)]) dX12_listAxis_72 (by decide) rfl ?_
      refine aw_sub [0, 1, 2, 3, 4] rfl ?_
      exact l_la3 (γ := γ) hM0 hT0 ho hv (endT T v - (v)) (v) (si h a 7 0) (by omega) (Nat.le_refl _) eqG.rf (by rw [show fu (alS T 3 v) (v) = [] from fu_0 (fun k k1 => by show (decide (v ≤ k) && decide (k < endT T v)) = false; rw [decide_eq_false (show ¬ v ≤ k by omega)]; rfl)]; exact hL0)
    · exact absurd c62 (by omega)
  | 4, _ =>
    refine Call.mono (fin 4 (alS T 4 v) (tn T) rfl (by decide) (Nat.le_refl _) (fun k k1 k2 => absurd k2 (by omega))) ?_
    refine Call.of (ls := [(0, vr (some a)), (1, vi (v : Int)), (2, vi ((4 : Nat) : Int))]) vX12_listAxis.1 (Nat.le_of_ble_eq_true rfl) rfl ?_
    refine aw_aload_n dX12_listAxis_0 rfl ?_
    refine aw_iconst dX12_listAxis_1 ?_
    refine aw_puti' (j := 7) rfl dX12_listAxis_2 fX12_114 (by assumption) rfl ?_
    refine aw_aload_n dX12_listAxis_5 rfl ?_
    refine aw_iload_n dX12_listAxis_6 rfl ?_
    refine aw_invV_r dX12_listAxis_7 vX12_endOf kX12_88 rfl (KE) ⟨_, (by assumption), _, _, rfl⟩ rfl rfl (by decide) (by decide) (by decide) (Nat.le_of_ble_eq_true rfl) ?_
    refine aw_istore_n (ls1 := [(3, _), (0, _), (1, _), (2, _)]) dX12_listAxis_10 (by decide) rfl ?_
    refine aw_iload_n dX12_listAxis_11 rfl ?_
    refine aw_tableIn (off := 148) (tgt := 160) dX12_listAxis_12 (by omega) (by decide) (by decide) rfl rfl ?_
    refine aw_iload_n dX12_listAxis_160 rfl ?_
    refine aw_istore (ls1 := [(4, _), (3, _), (0, _), (1, _), (2, _)]) dX12_listAxis_161 (by decide) rfl ?_
    refine aw_sub [0, 1, 2, 3, 4] rfl ?_
    exact l_la4 (γ := γ) hM0 hT0 ho hv (tn T - (endT T v)) (endT T v) (si h a 7 0) (by omega) (Nat.le_refl _) eqG.rf (by rw [show fu (alS T 4 v) (endT T v) = [] from fu_0 (fun k k1 => sb_in ho hv k1)]; exact hL0)
  | 5, _ =>
    refine Call.mono (fin 5 (alS T 5 v) (tn T) rfl (by decide) (Nat.le_refl _) (fun k k1 k2 => absurd k2 (by omega))) ?_
    refine Call.of (ls := [(0, vr (some a)), (1, vi (v : Int)), (2, vi ((5 : Nat) : Int))]) vX12_listAxis.1 (Nat.le_of_ble_eq_true rfl) rfl ?_
    refine aw_aload_n dX12_listAxis_0 rfl ?_
    refine aw_iconst dX12_listAxis_1 ?_
    refine aw_puti' (j := 7) rfl dX12_listAxis_2 fX12_114 (by assumption) rfl ?_
    refine aw_aload_n dX12_listAxis_5 rfl ?_
    refine aw_iload_n dX12_listAxis_6 rfl ?_
    refine aw_invV_r dX12_listAxis_7 vX12_endOf kX12_88 rfl (KE) ⟨_, (by assumption), _, _, rfl⟩ rfl rfl (by decide) (by decide) (by decide) (Nat.le_of_ble_eq_true rfl) ?_
    refine aw_istore_n (ls1 := [(3, _), (0, _), (1, _), (2, _)]) dX12_listAxis_10 (by decide) rfl ?_
    refine aw_iload_n dX12_listAxis_11 rfl ?_
    refine aw_tableIn (off := 119) (tgt := 131) dX12_listAxis_12 (by omega) (by decide) (by decide) rfl rfl ?_
    refine aw_iload_n dX12_listAxis_131 rfl ?_
    refine aw_istore (ls1 := [(4, _), (3, _), (0, _), (1, _), (2, _)]) dX12_listAxis_132 (by decide) rfl ?_
    refine aw_sub [0, 1, 2, 3, 4] rfl ?_
    exact l_la5 (γ := γ) hM0 hT0 ho hv (tn T - (endT T v)) (endT T v) (si h a 7 0) (by omega) (Nat.le_refl _) eqG.rf (by rw [show fu (alS T 5 v) (endT T v) = [] from fu_0 (fun k k1 => by show (decide (endT T v ≤ k) && decide (k < tn T)) = false; rw [decide_eq_false (show ¬ endT T v ≤ k by omega)]; rfl)]; exact hL0)
  | 6, _ =>
    refine Call.of (ls := [(0, vr (some a)), (1, vi (v : Int)), (2, vi ((6 : Nat) : Int))]) vX12_listAxis.1 (Nat.le_of_ble_eq_true rfl) rfl ?_
    refine aw_aload_n dX12_listAxis_0 rfl ?_
    refine aw_iconst dX12_listAxis_1 ?_
    refine aw_puti' (j := 7) rfl dX12_listAxis_2 fX12_114 (by assumption) rfl ?_
    refine aw_aload_n dX12_listAxis_5 rfl ?_
    refine aw_iload_n dX12_listAxis_6 rfl ?_
    refine aw_invV_r dX12_listAxis_7 vX12_endOf kX12_88 rfl (KE) ⟨_, (by assumption), _, _, rfl⟩ rfl rfl (by decide) (by decide) (by decide) (Nat.le_of_ble_eq_true rfl) ?_
    refine aw_istore_n (ls1 := [(3, _), (0, _), (1, _), (2, _)]) dX12_listAxis_10 (by decide) rfl ?_
    refine aw_iload_n dX12_listAxis_11 rfl ?_
    refine aw_tableOut (tgt := 203) dX12_listAxis_12 (by omega) (Or.inr (by decide)) rfl ?_
    refine aw_aload_n dX12_listAxis_203 rfl ?_
    refine aw_iload_n dX12_listAxis_204 rfl ?_
    refine aw_iload_n dX12_listAxis_205 rfl ?_
    refine aw_invV_f dX12_listAxis_206 vX12_listBack kX12_125 rfl (m_listBack (ax := 6) hM0 hT0 ho hv (by decide) hL0) ⟨_, (by assumption), _, _, rfl⟩ rfl rfl (by decide) (by decide) (by decide) (Nat.le_of_ble_eq_true rfl) (fun H1 hP9 => ?_)
    obtain ⟨L1, E1⟩ := hP9
    exact aw_return dX12_listAxis_209 rfl (Or.inl rfl) ⟨rfl, (by rw [lsA_b (by decide), fu_up (b := v) (by omega) (fun k k1 _ => al_back (ax := 6) ho hv (by decide) k1)]; exact L1), hE0.tr E1⟩
  | 7, _ =>
    refine Call.of (ls := [(0, vr (some a)), (1, vi (v : Int)), (2, vi ((7 : Nat) : Int))]) vX12_listAxis.1 (Nat.le_of_ble_eq_true rfl) rfl ?_
    refine aw_aload_n dX12_listAxis_0 rfl ?_
    refine aw_iconst dX12_listAxis_1 ?_
    refine aw_puti' (j := 7) rfl dX12_listAxis_2 fX12_114 (by assumption) rfl ?_
    refine aw_aload_n dX12_listAxis_5 rfl ?_
    refine aw_iload_n dX12_listAxis_6 rfl ?_
    refine aw_invV_r dX12_listAxis_7 vX12_endOf kX12_88 rfl (KE) ⟨_, (by assumption), _, _, rfl⟩ rfl rfl (by decide) (by decide) (by decide) (Nat.le_of_ble_eq_true rfl) ?_
    refine aw_istore_n (ls1 := [(3, _), (0, _), (1, _), (2, _)]) dX12_listAxis_10 (by decide) rfl ?_
    refine aw_iload_n dX12_listAxis_11 rfl ?_
    refine aw_tableOut (tgt := 203) dX12_listAxis_12 (by omega) (Or.inr (by decide)) rfl ?_
    refine aw_aload_n dX12_listAxis_203 rfl ?_
    refine aw_iload_n dX12_listAxis_204 rfl ?_
    refine aw_iload_n dX12_listAxis_205 rfl ?_
    refine aw_invV_f dX12_listAxis_206 vX12_listBack kX12_125 rfl (m_listBack (ax := 7) hM0 hT0 ho hv (by decide) hL0) ⟨_, (by assumption), _, _, rfl⟩ rfl rfl (by decide) (by decide) (by decide) (Nat.le_of_ble_eq_true rfl) (fun H1 hP9 => ?_)
    obtain ⟨L1, E1⟩ := hP9
    exact aw_return dX12_listAxis_209 rfl (Or.inl rfl) ⟨rfl, (by rw [lsA_b (by decide), fu_up (b := v) (by omega) (fun k k1 _ => al_back (ax := 7) ho hv (by decide) k1)]; exact L1), hE0.tr E1⟩
  | 8, _ =>
    refine Call.of (ls := [(0, vr (some a)), (1, vi (v : Int)), (2, vi ((8 : Nat) : Int))]) vX12_listAxis.1 (Nat.le_of_ble_eq_true rfl) rfl ?_
    refine aw_aload_n dX12_listAxis_0 rfl ?_
    refine aw_iconst dX12_listAxis_1 ?_
    refine aw_puti' (j := 7) rfl dX12_listAxis_2 fX12_114 (by assumption) rfl ?_
    refine aw_aload_n dX12_listAxis_5 rfl ?_
    refine aw_iload_n dX12_listAxis_6 rfl ?_
    refine aw_invV_r dX12_listAxis_7 vX12_endOf kX12_88 rfl (KE) ⟨_, (by assumption), _, _, rfl⟩ rfl rfl (by decide) (by decide) (by decide) (Nat.le_of_ble_eq_true rfl) ?_
    refine aw_istore_n (ls1 := [(3, _), (0, _), (1, _), (2, _)]) dX12_listAxis_10 (by decide) rfl ?_
    refine aw_iload_n dX12_listAxis_11 rfl ?_
    refine aw_tableOut (tgt := 203) dX12_listAxis_12 (by omega) (Or.inr (by decide)) rfl ?_
    refine aw_aload_n dX12_listAxis_203 rfl ?_
    refine aw_iload_n dX12_listAxis_204 rfl ?_
    refine aw_iload_n dX12_listAxis_205 rfl ?_
    refine aw_invV_f dX12_listAxis_206 vX12_listBack kX12_125 rfl (m_listBack (ax := 8) hM0 hT0 ho hv (by decide) hL0) ⟨_, (by assumption), _, _, rfl⟩ rfl rfl (by decide) (by decide) (by decide) (Nat.le_of_ble_eq_true rfl) (fun H1 hP9 => ?_)
    obtain ⟨L1, E1⟩ := hP9
    exact aw_return dX12_listAxis_209 rfl (Or.inl rfl) ⟨rfl, (by rw [lsA_b (by decide), fu_up (b := v) (by omega) (fun k k1 _ => al_back (ax := 8) ho hv (by decide) k1)]; exact L1), hE0.tr E1⟩
  | 9, _ =>
    refine Call.of (ls := [(0, vr (some a)), (1, vi (v : Int)), (2, vi ((9 : Nat) : Int))]) vX12_listAxis.1 (Nat.le_of_ble_eq_true rfl) rfl ?_
    refine aw_aload_n dX12_listAxis_0 rfl ?_
    refine aw_iconst dX12_listAxis_1 ?_
    refine aw_puti' (j := 7) rfl dX12_listAxis_2 fX12_114 (by assumption) rfl ?_
    refine aw_aload_n dX12_listAxis_5 rfl ?_
    refine aw_iload_n dX12_listAxis_6 rfl ?_
    refine aw_invV_r dX12_listAxis_7 vX12_endOf kX12_88 rfl (KE) ⟨_, (by assumption), _, _, rfl⟩ rfl rfl (by decide) (by decide) (by decide) (Nat.le_of_ble_eq_true rfl) ?_
    refine aw_istore_n (ls1 := [(3, _), (0, _), (1, _), (2, _)]) dX12_listAxis_10 (by decide) rfl ?_
    refine aw_iload_n dX12_listAxis_11 rfl ?_
    refine aw_tableOut (tgt := 203) dX12_listAxis_12 (by omega) (Or.inr (by decide)) rfl ?_
    refine aw_aload_n dX12_listAxis_203 rfl ?_
    refine aw_iload_n dX12_listAxis_204 rfl ?_
    refine aw_iload_n dX12_listAxis_205 rfl ?_
    refine aw_invV_f dX12_listAxis_206 vX12_listBack kX12_125 rfl (m_listBack (ax := 9) hM0 hT0 ho hv (by decide) hL0) ⟨_, (by assumption), _, _, rfl⟩ rfl rfl (by decide) (by decide) (by decide) (Nat.le_of_ble_eq_true rfl) (fun H1 hP9 => ?_)
    obtain ⟨L1, E1⟩ := hP9
    exact aw_return dX12_listAxis_209 rfl (Or.inl rfl) ⟨rfl, (by rw [lsA_b (by decide), fu_up (b := v) (by omega) (fun k k1 _ => al_back (ax := 9) ho hv (by decide) k1)]; exact L1), hE0.tr E1⟩
  | n + 10, hx => exact absurd hx (by omega)
