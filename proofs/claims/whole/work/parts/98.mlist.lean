/-! ===== the model: lists of nodes ===== -/
def fu (p : Nat → Bool) (n : Nat) : List Nat := (List.range n).filter p
theorem fu_s (p : Nat → Bool) (n : Nat) : fu p (n + 1) = fu p n ++ (if p n = true then [n] else []) := by
  unfold fu
  rw [List.range_succ, List.filter_append]
  congr 1
  by_cases q : p n = true
  · rw [if_pos q]; simp [q]
  · rw [if_neg q]; simp [q]
theorem fu_st {p : Nat → Bool} {n : Nat} (q : p n = true) : fu p (n + 1) = fu p n ++ [n] := by rw [fu_s, if_pos q]
theorem fu_sf {p : Nat → Bool} {n : Nat} (q : p n = false) : fu p (n + 1) = fu p n := by rw [fu_s, if_neg (by rw [q]; decide), List.append_nil]
theorem fu_len (p : Nat → Bool) : ∀ n, (fu p n).length = fb_ct p n := by
  intro n
  induction n with
  | zero => rfl
  | succ n ih =>
    rw [fb_ct_succ, ← ih, fu_s, List.length_append]
    congr 1
    by_cases q : p n = true
    · rw [if_pos q, if_pos q]; rfl
    · rw [if_neg q, if_neg q]; rfl
theorem fu_le (p : Nat → Bool) (n : Nat) : (fu p n).length ≤ n := by rw [fu_len]; exact fb_ct_le p n
theorem fu_lt {p : Nat → Bool} {n : Nat} (q : p n = true) : (fu p n).length < (fu p (n + 1)).length := by rw [fu_st q, List.length_append]; exact Nat.lt_succ_self _
theorem fu_at {p : Nat → Bool} : ∀ (n i x : Nat), (fu p n)[i]? = some x → x < n ∧ p x = true ∧ fb_ct p x = i := by
  intro n
  induction n with
  | zero => intro i x hx; simp [fu] at hx
  | succ n ih =>
    intro i x hx
    by_cases q : p n = true
    · rw [fu_st q] at hx
      by_cases z : i < (fu p n).length
      · rw [List.getElem?_append_left z] at hx
        obtain ⟨a1, a2⟩ := ih i x hx
        exact ⟨by omega, a2⟩
      · rw [List.getElem?_append_right (by omega)] at hx
        have hl : i - (fu p n).length = 0 := by
          by_cases y : i - (fu p n).length = 0
          · exact y
          · rw [List.getElem?_eq_none (by rw [List.length_singleton]; omega)] at hx; cases hx
        rw [hl] at hx
        have e : n = x := by simpa using hx
        subst e
        refine ⟨by omega, q, ?_⟩
        rw [← fu_len]
        omega
    · rw [fu_sf (by simpa using q)] at hx
      obtain ⟨a1, a2⟩ := ih i x hx
      exact ⟨by omega, a2⟩
theorem fu_mem {p : Nat → Bool} {n x : Nat} : x ∈ fu p n ↔ x < n ∧ p x = true := by
  unfold fu
  rw [List.mem_filter, List.mem_range]
theorem fu_none {p : Nat → Bool} {b : Nat} : ∀ m, (∀ k, b ≤ k → k < b + m → p k = false) → fu p (b + m) = fu p b := by
  intro m
  induction m with
  | zero => intro _; rfl
  | succ m ih => intro q; rw [← Nat.add_assoc, fu_sf (q _ (by omega) (by omega)), ih (fun k k1 k2 => q k k1 (by omega))]
theorem fu_up {p : Nat → Bool} {b n : Nat} (hb : b ≤ n) (q : ∀ k, b ≤ k → k < n → p k = false) : fu p n = fu p b := by
  obtain ⟨m, rfl⟩ := Nat.exists_eq_add_of_le hb
  exact fu_none m q
theorem fu_0 {p : Nat → Bool} {n : Nat} (q : ∀ k, k < n → p k = false) : fu p n = [] := fu_up (b := 0) (Nat.zero_le _) (fun k _ k2 => q k k2)
theorem fu_cong {p q : Nat → Bool} {n : Nat} (e : ∀ k, k < n → p k = q k) : fu p n = fu q n := by
  unfold fu
  exact List.filter_congr (fun k hk => e k (List.mem_range.mp hk))
theorem fu_filter (p q : Nat → Bool) (n : Nat) : (fu p n).filter q = fu (fun k => p k && q k) n := by
  unfold fu
  rw [List.filter_filter]
  exact List.filter_congr (fun k _ => Bool.and_comm _ _)
theorem fb_up {p : Nat → Bool} {n : Nat} (q : ∀ k, n ≤ k → p k = false) : ∀ m, fb_ct p (n + m) = fb_ct p n := by
  intro m
  induction m with
  | zero => rfl
  | succ m ih => rw [← Nat.add_assoc, fb_ct_succ, ih, q _ (by omega)]; rfl
theorem fb_40 {p : Nat → Bool} {n : Nat} (hn : n ≤ 40) (q : ∀ k, n ≤ k → p k = false) : fb_ct p 40 = fb_ct p n := by
  have := fb_up q (40 - n)
  rw [show n + (40 - n) = 40 by omega] at this
  exact this
def orL (rv : Bool) (p : Nat → Bool) (n : Nat) : List Nat := if rv = true then (fu p n).reverse else fu p n
theorem orL_len (rv : Bool) (p : Nat → Bool) (n : Nat) : (orL rv p n).length = fb_ct p n := by
  unfold orL
  split
  · rw [List.length_reverse, fu_len]
  · exact fu_len p n
theorem orL_mem {rv : Bool} {p : Nat → Bool} {n x : Nat} : x ∈ orL rv p n ↔ x < n ∧ p x = true := by
  unfold orL
  split
  · rw [List.mem_reverse]; exact fu_mem
  · exact fu_mem
theorem orL_filter (rv : Bool) (p q : Nat → Bool) (n : Nat) : (orL rv p n).filter q = orL rv (fun k => p k && q k) n := by
  unfold orL
  split
  · rw [List.filter_reverse, fu_filter]
  · exact fu_filter p q n
theorem orL_cong {rv : Bool} {p q : Nat → Bool} {n : Nat} (e : ∀ k, k < n → p k = q k) : orL rv p n = orL rv q n := by
  unfold orL
  rw [fu_cong e]
/-- where a node stands in the list -/
theorem orL_at {rv : Bool} {p : Nat → Bool} {n i x : Nat} (h : (orL rv p n)[i]? = some x) : x < n ∧ p x = true ∧ (if rv = true then (fb_ct p n : Int) - fb_ct p x else (fb_ct p x : Int) + 1) = (i : Int) + 1 := by
  unfold orL at h
  by_cases q : rv = true
  · rw [if_pos q] at h
    rw [if_pos q]
    have hi : i < (fu p n).length := by
      by_cases z : i < (fu p n).length
      · exact z
      · rw [List.getElem?_eq_none (by rw [List.length_reverse]; omega)] at h; cases h
    rw [List.getElem?_reverse hi] at h
    obtain ⟨a1, a2, a3⟩ := fu_at n _ x h
    have e := fu_len p n
    exact ⟨a1, a2, by omega⟩
  · rw [if_neg q] at h
    rw [if_neg q]
    obtain ⟨a1, a2, a3⟩ := fu_at n i x h
    exact ⟨a1, a2, by omega⟩
def rv6 (ax : Int) : Bool := decide (6 ≤ ax)
/-- an axis as the model lists it -/
def lsA (T : Tr) (ax : Int) (v : Nat) : List Nat := orL (rv6 ax) (alS T ax v) (tn T)
def isLi (h : AH) (a : Nat) (l : List Nat) : Prop := gi h a 7 = l.length ∧ ∀ (k x : Nat), l[k]? = some x → gi h (a + 5) k = x
def SI (a : Nat) : Nat → Int → Prop := fun b j => (b = a ∧ j = 7) ∨ b = a + 5
theorem tr_k {S : Nat → Int → Prop} {h H : AH} {a : Nat} {T : Tr} (hT : gTr (gi h (a + 1)) 0 T) (e : eqG S h H) (hs : ∀ j, ¬ S (a + 1) j) : gTr (gi H (a + 1)) 0 T := by
  have e1 : gi H (a + 1) = gi h (a + 1) := by funext j; exact e.2.2.2.2 _ _ (hs j)
  rw [e1]; exact hT
theorem SI_1 {a : Nat} : ∀ j, ¬ SI a (a + 1) j := fun j => by unfold SI; omega
theorem isLi_nil {h : AH} {a : Nat} (h0 : gi h a 7 = 0) : isLi h a [] := ⟨h0, fun k x hx => by simp at hx⟩
theorem m_lists {γ : GG} {h : AH} {a x : Nat} {l : List Nat} (hM : shM h a) (hL : isLi h a l) (hl : l.length < 40) : Call γ mX12_lists 0 0 0 [vr (some a), vi (x : Int)] h (rF (fun h' => isLi h' a (l ++ [x]) ∧ eqG (SI a) h h')) := by
  obtain ⟨hka, -, -⟩ := hM.q
  obtain ⟨-, -, -, -, -, ⟨rl, kl⟩, -⟩ := hM
  have g7 := hL.1
  have fin : isLi (si (si h (a + 5) (l.length : Int) x) a 7 ((l.length : Int) + 1)) a (l ++ [x]) ∧ eqG (SI a) h (si (si h (a + 5) (l.length : Int) x) a 7 ((l.length : Int) + 1)) := by
    refine ⟨⟨gi_at rfl rfl |>.trans (by rw [List.length_append, List.length_singleton]; omega), fun k y hk => ?_⟩, (eqG.si (Or.inr rfl)).tr (eqG.si (Or.inl ⟨rfl, rfl⟩))⟩
    by_cases z : k < l.length
    · rw [List.getElem?_append_left z] at hk
      exact (gi_ne (Or.inl (by omega))).trans ((gi_ne (Or.inr (by omega))).trans (hL.2 k y hk))
    · rw [List.getElem?_append_right (by omega)] at hk
      have hz : k - l.length = 0 := by
        by_cases y0 : k - l.length = 0
        · exact y0
        · rw [List.getElem?_eq_none (by rw [List.length_singleton]; omega)] at hk; cases hk
      rw [hz] at hk
      have e : x = y := by simpa using hk
      subst e
      exact (gi_ne (Or.inl (by omega))).trans (gi_at rfl (by omega))
  refine Call.of (ls := [(0, vr (some a)), (1, vi (x : Int))]) vX12_lists.1 (Nat.le_of_ble_eq_true rfl) rfl ?_
  refine aw_aload_n dX12_lists_0 rfl ?_
  refine aw_getr' (j := 8) dX12_lists_1 fX12_22 rfl (by assumption) rfl (by assumption) ?_
  refine aw_aload_n dX12_lists_4 rfl ?_
  refine aw_geti' (j := 7) dX12_lists_5 fX12_114 rfl (by assumption) rfl g7 ?_
  refine aw_iload_n dX12_lists_8 rfl ?_
  refine aw_iast dX12_lists_9 (by assumption) (by omega) (by first | decide | omega) ?_
  refine aw_aload_n dX12_lists_10 rfl ?_
  refine aw_dup dX12_lists_11 rfl ?_
  refine aw_geti' (j := 7) dX12_lists_12 fX12_114 rfl (by assumption) rfl ((gi_ne (Or.inl (by omega))).trans g7) ?_
  refine aw_iconst dX12_lists_15 ?_
  refine aw_iadd dX12_lists_16 ?_
  refine aw_puti' (j := 7) rfl dX12_lists_17 fX12_114 (by assumption) rfl ?_
  exact aw_return dX12_lists_20 rfl (Or.inl rfl) ⟨rfl, fin⟩
theorem m_isAncestor {γ : GG} {h : AH} {a k v : Nat} {T : Tr} (hM : shM h a) (hT : gTr (gi h (a + 1)) 0 T) (ho : okTr T) (hk : k < tn T) (hv : v < tn T) : Call γ mX12_isAncestor 2 0 0 [vr (some a), vi (k : Int), vi (v : Int)] h (rV (vi (bI (anS T v k))) h) := by
  obtain ⟨hka, -, -⟩ := hM.q
  have n40 := ho.o.2.1
  have KE := m_endOf (γ := γ) hM hT ho.rg hk
  have e9 := (endT_spec (T := T) hk).2.1
  by_cases q1 : k < v
  · by_cases q2 : v < endT T k
    · rw [show anS T v k = true from decide_eq_true ⟨q1, q2⟩]
      refine Call.of (ls := [(0, vr (some a)), (1, vi (k : Int)), (2, vi (v : Int))]) vX12_isAncestor.1 (Nat.le_of_ble_eq_true rfl) rfl ?_
      refine aw_iload_n dX12_isAncestor_0 rfl ?_
      refine aw_iload_n dX12_isAncestor_1 rfl ?_
      refine aw_ic_ge (tgt := 18) dX12_isAncestor_2 rfl (by omega) (by omega) (fun c2 => ?_) (fun c2 => ?_)
      · exact absurd c2 (by omega)
      · refine aw_aload_n dX12_isAncestor_5 rfl ?_
        refine aw_iload_n dX12_isAncestor_6 rfl ?_
        refine aw_invV_r dX12_isAncestor_7 vX12_endOf kX12_88 rfl (KE) ⟨_, (by assumption), _, _, rfl⟩ rfl rfl (by decide) (by decide) (by decide) (Nat.le_of_ble_eq_true rfl) ?_
        refine aw_iload_n dX12_isAncestor_10 rfl ?_
        refine aw_ic_le (tgt := 18) dX12_isAncestor_11 rfl (by omega) (by omega) (fun c11 => ?_) (fun c11 => ?_)
        · exact absurd c11 (by omega)
        · refine aw_iconst dX12_isAncestor_14 ?_
          refine aw_goto (tgt := 19) dX12_isAncestor_15 rfl ?_
          exact aw_zreturn dX12_isAncestor_19 rfl (by omega) (Or.inl rfl) ⟨rfl, rfl⟩
    · rw [show anS T v k = false from decide_eq_false (fun z => q2 z.2)]
      refine Call.of (ls := [(0, vr (some a)), (1, vi (k : Int)), (2, vi (v : Int))]) vX12_isAncestor.1 (Nat.le_of_ble_eq_true rfl) rfl ?_
      refine aw_iload_n dX12_isAncestor_0 rfl ?_
      refine aw_iload_n dX12_isAncestor_1 rfl ?_
      refine aw_ic_ge (tgt := 18) dX12_isAncestor_2 rfl (by omega) (by omega) (fun c2 => ?_) (fun c2 => ?_)
      · exact absurd c2 (by omega)
      · refine aw_aload_n dX12_isAncestor_5 rfl ?_
        refine aw_iload_n dX12_isAncestor_6 rfl ?_
        refine aw_invV_r dX12_isAncestor_7 vX12_endOf kX12_88 rfl (KE) ⟨_, (by assumption), _, _, rfl⟩ rfl rfl (by decide) (by decide) (by decide) (Nat.le_of_ble_eq_true rfl) ?_
        refine aw_iload_n dX12_isAncestor_10 rfl ?_
        refine aw_ic_le (tgt := 18) dX12_isAncestor_11 rfl (by omega) (by omega) (fun c11 => ?_) (fun c11 => ?_)
        · refine aw_iconst dX12_isAncestor_18 ?_
          exact aw_zreturn dX12_isAncestor_19 rfl (by omega) (Or.inl rfl) ⟨rfl, rfl⟩
        · exact absurd c11 (by omega)
  · rw [show anS T v k = false from decide_eq_false (fun z => q1 z.1)]
    refine Call.of (ls := [(0, vr (some a)), (1, vi (k : Int)), (2, vi (v : Int))]) vX12_isAncestor.1 (Nat.le_of_ble_eq_true rfl) rfl ?_
    refine aw_iload_n dX12_isAncestor_0 rfl ?_
    refine aw_iload_n dX12_isAncestor_1 rfl ?_
    refine aw_ic_ge (tgt := 18) dX12_isAncestor_2 rfl (by omega) (by omega) (fun c2 => ?_) (fun c2 => ?_)
    · refine aw_iconst dX12_isAncestor_18 ?_
      exact aw_zreturn dX12_isAncestor_19 rfl (by omega) (Or.inl rfl) ⟨rfl, rfl⟩
    · exact absurd c2 (by omega)
theorem l_lb6 {γ : GG} {a v : Nat} {T : Tr} {h : AH} (hM : shM h a) (hT : gTr (gi h (a + 1)) 0 T) (ho : okTr T) (hv : v < tn T) : ∀ (m : Nat) (l : List Nat) (H : AH), m ≤ v → eqG (SI a) h H → isLi H a l → l ++ (fu (alS T 6 v) m).reverse = (fu (alS T 6 v) v).reverse → AW γ mX12_listBack 3 0 0 4 [(3, vi ((m : Int) - 1)), (0, vr (some a)), (1, vi (v : Int)), (2, vi 6)] [] H (rF (fun h' => isLi h' a (fu (alS T 6 v) v).reverse ∧ eqG (SI a) h h')) := by
  have o9 := ho.o
  have n40 := o9.2.1
  have rg := ho.rg.2 v hv
  intro m
  induction m with
  | zero =>
    intro l H hm hE hL hl
    rw [show fu (alS T 6 v) 0 = [] from rfl, List.reverse_nil, List.append_nil] at hl
    rw [hl] at hL
    refine aw_iload_n dX12_listBack_4 rfl ?_
    refine aw_if_lt (tgt := 105) dX12_listBack_5 rfl (by omega) (fun c5 => ?_) (fun c5 => ?_)
    · exact aw_return dX12_listBack_105 rfl (Or.inl rfl) ⟨rfl, hL, hE⟩
    · exact absurd c5 (by omega)
  | succ m ih =>
    intro l H hm hE hL hl
    rw [show ((m + 1 : Nat) : Int) - 1 = (m : Int) by omega]
    have hm2 : m < tn T := by omega
    have ll : l.length < 40 ∨ (alS T 6 v) m = false := by
      by_cases q0 : (alS T 6 v) m = true
      · left
        have := congrArg List.length hl
        rw [List.length_append, List.length_reverse, List.length_reverse, fu_st q0, List.length_append, List.length_singleton] at this
        have := fu_le (alS T 6 v) v
        omega
      · right; simpa using q0
    have hM1 := hE.sh hM
    have hT1 := tr_k hT hE SI_1
    obtain ⟨hka, -, -⟩ := hM1.q
    have KA := m_isAncestor (γ := γ) hM1 hT1 ho hm2 hv
    have KPv := m_parentOf (γ := γ) (h := H) (n := (v : Int)) hM1 (by omega)
    rw [gTr_p hT1 hv] at KPv
    have KPk := m_parentOf (γ := γ) (h := H) (n := (m : Int)) hM1 (by omega)
    rw [gTr_p hT1 hm2] at KPk
    have rk := ho.rg.2 m hm2
    have KL := fun z : l.length < 40 => m_lists (γ := γ) (x := m) hM1 hL z
    have o5 := o9.2.2.2.2.1 v (by omega) hv
    by_cases q : (m : Int) = tpa T v
    · have hs : (alS T 6 v) m = true := by show decide ((m : Int) = tpa T v) = true; exact decide_eq_true q
      have KL := KL (by rcases ll with z | z; exact z; rw [hs] at z; cases z)
      have hs := fu_st hs
      refine aw_iload_n dX12_listBack_4 rfl ?_
      refine aw_if_lt (tgt := 105) dX12_listBack_5 rfl (by omega) (fun c5 => ?_) (fun c5 => ?_)
      · exact absurd c5 (by omega)
      · refine aw_aload_n dX12_listBack_8 rfl ?_
        refine aw_iload_n dX12_listBack_9 rfl ?_
        refine aw_iload_n dX12_listBack_10 rfl ?_
        refine aw_invV_r dX12_listBack_11 vX12_isAncestor kX12_128 rfl (KA) ⟨_, (by assumption), _, _, rfl⟩ rfl rfl (by decide) (by decide) (by decide) (Nat.le_of_ble_eq_true rfl) ?_
        refine aw_istore (ls1 := [(4, _), (3, _), (0, _), (1, _), (2, _)]) dX12_listBack_14 (by decide) rfl ?_
        refine aw_iload_n dX12_listBack_16 rfl ?_
        refine aw_bipush dX12_listBack_17 rfl ?_
        refine aw_ic_ne (tgt := 39) dX12_listBack_19 rfl (by omega) (by omega) (fun c19 => ?_) (fun c19 => ?_)
        · exact absurd c19 (by omega)
        · refine aw_iload_n dX12_listBack_22 rfl ?_
          refine aw_aload_n dX12_listBack_23 rfl ?_
          refine aw_iload_n dX12_listBack_24 rfl ?_
          refine aw_invV_r dX12_listBack_25 vX12_parentOf kX12_73 rfl (KPv) ⟨_, (by assumption), _, _, rfl⟩ rfl rfl (by decide) (by decide) (by decide) (Nat.le_of_ble_eq_true rfl) ?_
          refine aw_ic_ne (tgt := 35) dX12_listBack_28 rfl (by omega) (by omega) (fun c28 => ?_) (fun c28 => ?_)
          · exact absurd c28 (by omega)
          · refine aw_iconst dX12_listBack_31 ?_
            refine aw_goto (tgt := 87) dX12_listBack_32 rfl ?_
            refine aw_istore (ls1 := [(5, _), (4, _), (3, _), (0, _), (1, _), (2, _)]) dX12_listBack_87 (by decide) rfl ?_
            refine aw_iload dX12_listBack_89 rfl ?_
            refine aw_if_eq (tgt := 99) dX12_listBack_91 rfl (by omega) (fun c91 => ?_) (fun c91 => ?_)
            · exact absurd c91 (by omega)
            · refine aw_aload_n dX12_listBack_94 rfl ?_
              refine aw_iload_n dX12_listBack_95 rfl ?_
              refine aw_invV_f dX12_listBack_96 vX12_lists kX12_121 rfl (KL) ⟨_, (by assumption), _, _, rfl⟩ rfl rfl (by decide) (by decide) (by decide) (Nat.le_of_ble_eq_true rfl) (fun H1 hP9 => ?_)
              obtain ⟨L1, E1⟩ := hP9
              refine aw_iinc (k9 := 2) (ls1 := [(3, _), (5, _), (4, _), (0, _), (1, _), (2, _)]) dX12_listBack_99 rfl (by decide) rfl ?_
              refine aw_goto (tgt := 4) dX12_listBack_102 rfl ?_
              refine aw_sub [0, 3, 4, 5] rfl ?_
              exact ih (l ++ [m]) H1 (by omega) (hE.tr E1) L1 (by rw [← hl, hs]; simp)
    · have hs : (alS T 6 v) m = false := by show decide ((m : Int) = tpa T v) = false; exact decide_eq_false q
      have hs := fu_sf hs
      refine aw_iload_n dX12_listBack_4 rfl ?_
      refine aw_if_lt (tgt := 105) dX12_listBack_5 rfl (by omega) (fun c5 => ?_) (fun c5 => ?_)
      · exact absurd c5 (by omega)
      · refine aw_aload_n dX12_listBack_8 rfl ?_
        refine aw_iload_n dX12_listBack_9 rfl ?_
        refine aw_iload_n dX12_listBack_10 rfl ?_
        refine aw_invV_r dX12_listBack_11 vX12_isAncestor kX12_128 rfl (KA) ⟨_, (by assumption), _, _, rfl⟩ rfl rfl (by decide) (by decide) (by decide) (Nat.le_of_ble_eq_true rfl) ?_
        refine aw_istore (ls1 := [(4, _), (3, _), (0, _), (1, _), (2, _)]) dX12_listBack_14 (by decide) rfl ?_
        refine aw_iload_n dX12_listBack_16 rfl ?_
        refine aw_bipush dX12_listBack_17 rfl ?_
        refine aw_ic_ne (tgt := 39) dX12_listBack_19 rfl (by omega) (by omega) (fun c19 => ?_) (fun c19 => ?_)
        · exact absurd c19 (by omega)
        · refine aw_iload_n dX12_listBack_22 rfl ?_
          refine aw_aload_n dX12_listBack_23 rfl ?_
          refine aw_iload_n dX12_listBack_24 rfl ?_
          refine aw_invV_r dX12_listBack_25 vX12_parentOf kX12_73 rfl (KPv) ⟨_, (by assumption), _, _, rfl⟩ rfl rfl (by decide) (by decide) (by decide) (Nat.le_of_ble_eq_true rfl) ?_
          refine aw_ic_ne (tgt := 35) dX12_listBack_28 rfl (by omega) (by omega) (fun c28 => ?_) (fun c28 => ?_)
          · refine aw_iconst dX12_listBack_35 ?_
            refine aw_goto (tgt := 87) dX12_listBack_36 rfl ?_
            refine aw_istore (ls1 := [(5, _), (4, _), (3, _), (0, _), (1, _), (2, _)]) dX12_listBack_87 (by decide) rfl ?_
            refine aw_iload dX12_listBack_89 rfl ?_
            refine aw_if_eq (tgt := 99) dX12_listBack_91 rfl (by omega) (fun c91 => ?_) (fun c91 => ?_)
            · refine aw_iinc (k9 := 2) (ls1 := [(3, _), (5, _), (4, _), (0, _), (1, _), (2, _)]) dX12_listBack_99 rfl (by decide) rfl ?_
              refine aw_goto (tgt := 4) dX12_listBack_102 rfl ?_
              refine aw_sub [0, 3, 4, 5] rfl ?_
              exact ih l H (by omega) hE hL (by rw [← hl, hs])
            · exact absurd c91 (by omega)
          · exact absurd c28 (by omega)
theorem l_lb7 {γ : GG} {a v : Nat} {T : Tr} {h : AH} (hM : shM h a) (hT : gTr (gi h (a + 1)) 0 T) (ho : okTr T) (hv : v < tn T) : ∀ (m : Nat) (l : List Nat) (H : AH), m ≤ v → eqG (SI a) h H → isLi H a l → l ++ (fu (alS T 7 v) m).reverse = (fu (alS T 7 v) v).reverse → AW γ mX12_listBack 3 0 0 4 [(3, vi ((m : Int) - 1)), (0, vr (some a)), (1, vi (v : Int)), (2, vi 7)] [] H (rF (fun h' => isLi h' a (fu (alS T 7 v) v).reverse ∧ eqG (SI a) h h')) := by
  have o9 := ho.o
  have n40 := o9.2.1
  have rg := ho.rg.2 v hv
  intro m
  induction m with
  | zero =>
    intro l H hm hE hL hl
    rw [show fu (alS T 7 v) 0 = [] from rfl, List.reverse_nil, List.append_nil] at hl
    rw [hl] at hL
    refine aw_iload_n dX12_listBack_4 rfl ?_
    refine aw_if_lt (tgt := 105) dX12_listBack_5 rfl (by omega) (fun c5 => ?_) (fun c5 => ?_)
    · exact aw_return dX12_listBack_105 rfl (Or.inl rfl) ⟨rfl, hL, hE⟩
    · exact absurd c5 (by omega)
  | succ m ih =>
    intro l H hm hE hL hl
    rw [show ((m + 1 : Nat) : Int) - 1 = (m : Int) by omega]
    have hm2 : m < tn T := by omega
    have ll : l.length < 40 ∨ (alS T 7 v) m = false := by
      by_cases q0 : (alS T 7 v) m = true
      · left
        have := congrArg List.length hl
        rw [List.length_append, List.length_reverse, List.length_reverse, fu_st q0, List.length_append, List.length_singleton] at this
        have := fu_le (alS T 7 v) v
        omega
      · right; simpa using q0
    have hM1 := hE.sh hM
    have hT1 := tr_k hT hE SI_1
    obtain ⟨hka, -, -⟩ := hM1.q
    have KA := m_isAncestor (γ := γ) hM1 hT1 ho hm2 hv
    have KPv := m_parentOf (γ := γ) (h := H) (n := (v : Int)) hM1 (by omega)
    rw [gTr_p hT1 hv] at KPv
    have KPk := m_parentOf (γ := γ) (h := H) (n := (m : Int)) hM1 (by omega)
    rw [gTr_p hT1 hm2] at KPk
    have rk := ho.rg.2 m hm2
    have KL := fun z : l.length < 40 => m_lists (γ := γ) (x := m) hM1 hL z
    by_cases q : anS T v m = true
    · rw [q] at KA
      have KA : Call γ mX12_isAncestor 2 0 0 [vr (some a), vi (m : Int), vi (v : Int)] H (rV (vi 1) H) := KA
      have hs : (alS T 7 v) m = true := by exact q
      have KL := KL (by rcases ll with z | z; exact z; rw [hs] at z; cases z)
      have hs := fu_st hs
      refine aw_iload_n dX12_listBack_4 rfl ?_
      refine aw_if_lt (tgt := 105) dX12_listBack_5 rfl (by omega) (fun c5 => ?_) (fun c5 => ?_)
      · exact absurd c5 (by omega)
      · refine aw_aload_n dX12_listBack_8 rfl ?_
        refine aw_iload_n dX12_listBack_9 rfl ?_
        refine aw_iload_n dX12_listBack_10 rfl ?_
        refine aw_invV_r dX12_listBack_11 vX12_isAncestor kX12_128 rfl (KA) ⟨_, (by assumption), _, _, rfl⟩ rfl rfl (by decide) (by decide) (by decide) (Nat.le_of_ble_eq_true rfl) ?_
        refine aw_istore (ls1 := [(4, _), (3, _), (0, _), (1, _), (2, _)]) dX12_listBack_14 (by decide) rfl ?_
        refine aw_iload_n dX12_listBack_16 rfl ?_
        refine aw_bipush dX12_listBack_17 rfl ?_
        refine aw_ic_ne (tgt := 39) dX12_listBack_19 rfl (by omega) (by omega) (fun c19 => ?_) (fun c19 => ?_)
        · refine aw_iload_n dX12_listBack_39 rfl ?_
          refine aw_bipush dX12_listBack_40 rfl ?_
          refine aw_ic_ne (tgt := 50) dX12_listBack_42 rfl (by omega) (by omega) (fun c42 => ?_) (fun c42 => ?_)
          · exact absurd c42 (by omega)
          · refine aw_iload dX12_listBack_45 rfl ?_
            refine aw_goto (tgt := 87) dX12_listBack_47 rfl ?_
            refine aw_istore (ls1 := [(5, _), (4, _), (3, _), (0, _), (1, _), (2, _)]) dX12_listBack_87 (by decide) rfl ?_
            refine aw_iload dX12_listBack_89 rfl ?_
            refine aw_if_eq (tgt := 99) dX12_listBack_91 rfl (by omega) (fun c91 => ?_) (fun c91 => ?_)
            · exact absurd c91 (by omega)
            · refine aw_aload_n dX12_listBack_94 rfl ?_
              refine aw_iload_n dX12_listBack_95 rfl ?_
              refine aw_invV_f dX12_listBack_96 vX12_lists kX12_121 rfl (KL) ⟨_, (by assumption), _, _, rfl⟩ rfl rfl (by decide) (by decide) (by decide) (Nat.le_of_ble_eq_true rfl) (fun H1 hP9 => ?_)
              obtain ⟨L1, E1⟩ := hP9
              refine aw_iinc (k9 := 2) (ls1 := [(3, _), (5, _), (4, _), (0, _), (1, _), (2, _)]) dX12_listBack_99 rfl (by decide) rfl ?_
              refine aw_goto (tgt := 4) dX12_listBack_102 rfl ?_
              refine aw_sub [0, 3, 4, 5] rfl ?_
              exact ih (l ++ [m]) H1 (by omega) (hE.tr E1) L1 (by rw [← hl, hs]; simp)
        · exact absurd c19 (by omega)
    · have q : anS T v m = false := by simpa using q
      rw [q] at KA
      have KA : Call γ mX12_isAncestor 2 0 0 [vr (some a), vi (m : Int), vi (v : Int)] H (rV (vi 0) H) := KA
      have hs : (alS T 7 v) m = false := by exact q
      have hs := fu_sf hs
      refine aw_iload_n dX12_listBack_4 rfl ?_
      refine aw_if_lt (tgt := 105) dX12_listBack_5 rfl (by omega) (fun c5 => ?_) (fun c5 => ?_)
      · exact absurd c5 (by omega)
      · refine aw_aload_n dX12_listBack_8 rfl ?_
        refine aw_iload_n dX12_listBack_9 rfl ?_
        refine aw_iload_n dX12_listBack_10 rfl ?_
        refine aw_invV_r dX12_listBack_11 vX12_isAncestor kX12_128 rfl (KA) ⟨_, (by assumption), _, _, rfl⟩ rfl rfl (by decide) (by decide) (by decide) (Nat.le_of_ble_eq_true rfl) ?_
        refine aw_istore (ls1 := [(4, _), (3, _), (0, _), (1, _), (2, _)]) dX12_listBack_14 (by decide) rfl ?_
        refine aw_iload_n dX12_listBack_16 rfl ?_
        refine aw_bipush dX12_listBack_17 rfl ?_
        refine aw_ic_ne (tgt := 39) dX12_listBack_19 rfl (by omega) (by omega) (fun c19 => ?_) (fun c19 => ?_)
        · refine aw_iload_n dX12_listBack_39 rfl ?_
          refine aw_bipush dX12_listBack_40 rfl ?_
          refine aw_ic_ne (tgt := 50) dX12_listBack_42 rfl (by omega) (by omega) (fun c42 => ?_) (fun c42 => ?_)
          · exact absurd c42 (by omega)
          · refine aw_iload dX12_listBack_45 rfl ?_
            refine aw_goto (tgt := 87) dX12_listBack_47 rfl ?_
            refine aw_istore (ls1 := [(5, _), (4, _), (3, _), (0, _), (1, _), (2, _)]) dX12_listBack_87 (by decide) rfl ?_
            refine aw_iload dX12_listBack_89 rfl ?_
            refine aw_if_eq (tgt := 99) dX12_listBack_91 rfl (by omega) (fun c91 => ?_) (fun c91 => ?_)
            · refine aw_iinc (k9 := 2) (ls1 := [(3, _), (5, _), (4, _), (0, _), (1, _), (2, _)]) dX12_listBack_99 rfl (by decide) rfl ?_
              refine aw_goto (tgt := 4) dX12_listBack_102 rfl ?_
              refine aw_sub [0, 3, 4, 5] rfl ?_
              exact ih l H (by omega) hE hL (by rw [← hl, hs])
            · exact absurd c91 (by omega)
        · exact absurd c19 (by omega)
theorem l_lb8 {γ : GG} {a v : Nat} {T : Tr} {h : AH} (hM : shM h a) (hT : gTr (gi h (a + 1)) 0 T) (ho : okTr T) (hv : v < tn T) : ∀ (m : Nat) (l : List Nat) (H : AH), m ≤ v → eqG (SI a) h H → isLi H a l → l ++ (fu (alS T 8 v) m).reverse = (fu (alS T 8 v) v).reverse → AW γ mX12_listBack 3 0 0 4 [(3, vi ((m : Int) - 1)), (0, vr (some a)), (1, vi (v : Int)), (2, vi 8)] [] H (rF (fun h' => isLi h' a (fu (alS T 8 v) v).reverse ∧ eqG (SI a) h h')) := by
  have o9 := ho.o
  have n40 := o9.2.1
  have rg := ho.rg.2 v hv
  intro m
  induction m with
  | zero =>
    intro l H hm hE hL hl
    rw [show fu (alS T 8 v) 0 = [] from rfl, List.reverse_nil, List.append_nil] at hl
    rw [hl] at hL
    refine aw_iload_n dX12_listBack_4 rfl ?_
    refine aw_if_lt (tgt := 105) dX12_listBack_5 rfl (by omega) (fun c5 => ?_) (fun c5 => ?_)
    · exact aw_return dX12_listBack_105 rfl (Or.inl rfl) ⟨rfl, hL, hE⟩
    · exact absurd c5 (by omega)
  | succ m ih =>
    intro l H hm hE hL hl
    rw [show ((m + 1 : Nat) : Int) - 1 = (m : Int) by omega]
    have hm2 : m < tn T := by omega
    have ll : l.length < 40 ∨ (alS T 8 v) m = false := by
      by_cases q0 : (alS T 8 v) m = true
      · left
        have := congrArg List.length hl
        rw [List.length_append, List.length_reverse, List.length_reverse, fu_st q0, List.length_append, List.length_singleton] at this
        have := fu_le (alS T 8 v) v
        omega
      · right; simpa using q0
    have hM1 := hE.sh hM
    have hT1 := tr_k hT hE SI_1
    obtain ⟨hka, -, -⟩ := hM1.q
    have KA := m_isAncestor (γ := γ) hM1 hT1 ho hm2 hv
    have KPv := m_parentOf (γ := γ) (h := H) (n := (v : Int)) hM1 (by omega)
    rw [gTr_p hT1 hv] at KPv
    have KPk := m_parentOf (γ := γ) (h := H) (n := (m : Int)) hM1 (by omega)
    rw [gTr_p hT1 hm2] at KPk
    have rk := ho.rg.2 m hm2
    have KL := fun z : l.length < 40 => m_lists (γ := γ) (x := m) hM1 hL z
    have o5 := o9.2.2.2.2.1 v (by omega) hv
    by_cases q : tpa T m = tpa T v
    · have hs : (alS T 8 v) m = true := by show (decide (0 ≤ tpa T v) && decide (m < tn T ∧ tpa T m = tpa T v) && (decide (0 ≤ m) && decide (m < v))) = true; rw [decide_eq_true (by omega : 0 ≤ tpa T v), decide_eq_true (⟨by omega, q⟩ : m < tn T ∧ tpa T m = tpa T v), decide_eq_true (Nat.zero_le m), decide_eq_true (by omega : m < v)]; rfl
      have KL := KL (by rcases ll with z | z; exact z; rw [hs] at z; cases z)
      have hs := fu_st hs
      refine aw_iload_n dX12_listBack_4 rfl ?_
      refine aw_if_lt (tgt := 105) dX12_listBack_5 rfl (by omega) (fun c5 => ?_) (fun c5 => ?_)
      · exact absurd c5 (by omega)
      · refine aw_aload_n dX12_listBack_8 rfl ?_
        refine aw_iload_n dX12_listBack_9 rfl ?_
        refine aw_iload_n dX12_listBack_10 rfl ?_
        refine aw_invV_r dX12_listBack_11 vX12_isAncestor kX12_128 rfl (KA) ⟨_, (by assumption), _, _, rfl⟩ rfl rfl (by decide) (by decide) (by decide) (Nat.le_of_ble_eq_true rfl) ?_
        refine aw_istore (ls1 := [(4, _), (3, _), (0, _), (1, _), (2, _)]) dX12_listBack_14 (by decide) rfl ?_
        refine aw_iload_n dX12_listBack_16 rfl ?_
        refine aw_bipush dX12_listBack_17 rfl ?_
        refine aw_ic_ne (tgt := 39) dX12_listBack_19 rfl (by omega) (by omega) (fun c19 => ?_) (fun c19 => ?_)
        · refine aw_iload_n dX12_listBack_39 rfl ?_
          refine aw_bipush dX12_listBack_40 rfl ?_
          refine aw_ic_ne (tgt := 50) dX12_listBack_42 rfl (by omega) (by omega) (fun c42 => ?_) (fun c42 => ?_)
          · refine aw_iload_n dX12_listBack_50 rfl ?_
            refine aw_bipush dX12_listBack_51 rfl ?_
            refine aw_ic_ne (tgt := 77) dX12_listBack_53 rfl (by omega) (by omega) (fun c53 => ?_) (fun c53 => ?_)
            · exact absurd c53 (by omega)
            · refine aw_aload_n dX12_listBack_56 rfl ?_
              refine aw_iload_n dX12_listBack_57 rfl ?_
              refine aw_invV_r dX12_listBack_58 vX12_parentOf kX12_73 rfl (KPk) ⟨_, (by assumption), _, _, rfl⟩ rfl rfl (by decide) (by decide) (by decide) (Nat.le_of_ble_eq_true rfl) ?_
              refine aw_aload_n dX12_listBack_61 rfl ?_
              refine aw_iload_n dX12_listBack_62 rfl ?_
              refine aw_invV_r dX12_listBack_63 vX12_parentOf kX12_73 rfl (KPv) ⟨_, (by assumption), _, _, rfl⟩ rfl rfl (by decide) (by decide) (by decide) (Nat.le_of_ble_eq_true rfl) ?_
              refine aw_ic_ne (tgt := 73) dX12_listBack_66 rfl (by omega) (by omega) (fun c66 => ?_) (fun c66 => ?_)
              · exact absurd c66 (by omega)
              · refine aw_iconst dX12_listBack_69 ?_
                refine aw_goto (tgt := 87) dX12_listBack_70 rfl ?_
                refine aw_istore (ls1 := [(5, _), (4, _), (3, _), (0, _), (1, _), (2, _)]) dX12_listBack_87 (by decide) rfl ?_
                refine aw_iload dX12_listBack_89 rfl ?_
                refine aw_if_eq (tgt := 99) dX12_listBack_91 rfl (by omega) (fun c91 => ?_) (fun c91 => ?_)
                · exact absurd c91 (by omega)
                · refine aw_aload_n dX12_listBack_94 rfl ?_
                  refine aw_iload_n dX12_listBack_95 rfl ?_
                  refine aw_invV_f dX12_listBack_96 vX12_lists kX12_121 rfl (KL) ⟨_, (by assumption), _, _, rfl⟩ rfl rfl (by decide) (by decide) (by decide) (Nat.le_of_ble_eq_true rfl) (fun H1 hP9 => ?_)
                  obtain ⟨L1, E1⟩ := hP9
                  refine aw_iinc (k9 := 2) (ls1 := [(3, _), (5, _), (4, _), (0, _), (1, _), (2, _)]) dX12_listBack_99 rfl (by decide) rfl ?_
                  refine aw_goto (tgt := 4) dX12_listBack_102 rfl ?_
                  refine aw_sub [0, 3, 4, 5] rfl ?_
                  exact ih (l ++ [m]) H1 (by omega) (hE.tr E1) L1 (by rw [← hl, hs]; simp)
          · exact absurd c42 (by omega)
        · exact absurd c19 (by omega)
    · have hs : (alS T 8 v) m = false := by show (decide (0 ≤ tpa T v) && decide (m < tn T ∧ tpa T m = tpa T v) && (decide (0 ≤ m) && decide (m < v))) = false; rw [decide_eq_false (fun z => q z.2 : ¬ (m < tn T ∧ tpa T m = tpa T v))]; simp
      have hs := fu_sf hs
      refine aw_iload_n dX12_listBack_4 rfl ?_
      refine aw_if_lt (tgt := 105) dX12_listBack_5 rfl (by omega) (fun c5 => ?_) (fun c5 => ?_)
      · exact absurd c5 (by omega)
      · refine aw_aload_n dX12_listBack_8 rfl ?_
        refine aw_iload_n dX12_listBack_9 rfl ?_
        refine aw_iload_n dX12_listBack_10 rfl ?_
        refine aw_invV_r dX12_listBack_11 vX12_isAncestor kX12_128 rfl (KA) ⟨_, (by assumption), _, _, rfl⟩ rfl rfl (by decide) (by decide) (by decide) (Nat.le_of_ble_eq_true rfl) ?_
        refine aw_istore (ls1 := [(4, _), (3, _), (0, _), (1, _), (2, _)]) dX12_listBack_14 (by decide) rfl ?_
        refine aw_iload_n dX12_listBack_16 rfl ?_
        refine aw_bipush dX12_listBack_17 rfl ?_
        refine aw_ic_ne (tgt := 39) dX12_listBack_19 rfl (by omega) (by omega) (fun c19 => ?_) (fun c19 => ?_)
        · refine aw_iload_n dX12_listBack_39 rfl ?_
          refine aw_bipush dX12_listBack_40 rfl ?_
          refine aw_ic_ne (tgt := 50) dX12_listBack_42 rfl (by omega) (by omega) (fun c42 => ?_) (fun c42 => ?_)
          · refine aw_iload_n dX12_listBack_50 rfl ?_
            refine aw_bipush dX12_listBack_51 rfl ?_
            refine aw_ic_ne (tgt := 77) dX12_listBack_53 rfl (by omega) (by omega) (fun c53 => ?_) (fun c53 => ?_)
            · exact absurd c53 (by omega)
            · refine aw_aload_n dX12_listBack_56 rfl ?_
              refine aw_iload_n dX12_listBack_57 rfl ?_
              refine aw_invV_r dX12_listBack_58 vX12_parentOf kX12_73 rfl (KPk) ⟨_, (by assumption), _, _, rfl⟩ rfl rfl (by decide) (by decide) (by decide) (Nat.le_of_ble_eq_true rfl) ?_
              refine aw_aload_n dX12_listBack_61 rfl ?_
              refine aw_iload_n dX12_listBack_62 rfl ?_
              refine aw_invV_r dX12_listBack_63 vX12_parentOf kX12_73 rfl (KPv) ⟨_, (by assumption), _, _, rfl⟩ rfl rfl (by decide) (by decide) (by decide) (Nat.le_of_ble_eq_true rfl) ?_
              refine aw_ic_ne (tgt := 73) dX12_listBack_66 rfl (by omega) (by omega) (fun c66 => ?_) (fun c66 => ?_)
              · refine aw_iconst dX12_listBack_73 ?_
                refine aw_goto (tgt := 87) dX12_listBack_74 rfl ?_
                refine aw_istore (ls1 := [(5, _), (4, _), (3, _), (0, _), (1, _), (2, _)]) dX12_listBack_87 (by decide) rfl ?_
                refine aw_iload dX12_listBack_89 rfl ?_
                refine aw_if_eq (tgt := 99) dX12_listBack_91 rfl (by omega) (fun c91 => ?_) (fun c91 => ?_)
                · refine aw_iinc (k9 := 2) (ls1 := [(3, _), (5, _), (4, _), (0, _), (1, _), (2, _)]) dX12_listBack_99 rfl (by decide) rfl ?_
                  refine aw_goto (tgt := 4) dX12_listBack_102 rfl ?_
                  refine aw_sub [0, 3, 4, 5] rfl ?_
                  exact ih l H (by omega) hE hL (by rw [← hl, hs])
                · exact absurd c91 (by omega)
              · exact absurd c66 (by omega)
          · exact absurd c42 (by omega)
        · exact absurd c19 (by omega)
theorem l_lb9 {γ : GG} {a v : Nat} {T : Tr} {h : AH} (hM : shM h a) (hT : gTr (gi h (a + 1)) 0 T) (ho : okTr T) (hv : v < tn T) : ∀ (m : Nat) (l : List Nat) (H : AH), m ≤ v → eqG (SI a) h H → isLi H a l → l ++ (fu (alS T 9 v) m).reverse = (fu (alS T 9 v) v).reverse → AW γ mX12_listBack 3 0 0 4 [(3, vi ((m : Int) - 1)), (0, vr (some a)), (1, vi (v : Int)), (2, vi 9)] [] H (rF (fun h' => isLi h' a (fu (alS T 9 v) v).reverse ∧ eqG (SI a) h h')) := by
  have o9 := ho.o
  have n40 := o9.2.1
  have rg := ho.rg.2 v hv
  intro m
  induction m with
  | zero =>
    intro l H hm hE hL hl
    rw [show fu (alS T 9 v) 0 = [] from rfl, List.reverse_nil, List.append_nil] at hl
    rw [hl] at hL
    refine aw_iload_n dX12_listBack_4 rfl ?_
    refine aw_if_lt (tgt := 105) dX12_listBack_5 rfl (by omega) (fun c5 => ?_) (fun c5 => ?_)
    · exact aw_return dX12_listBack_105 rfl (Or.inl rfl) ⟨rfl, hL, hE⟩
    · exact absurd c5 (by omega)
  | succ m ih =>
    intro l H hm hE hL hl
    rw [show ((m + 1 : Nat) : Int) - 1 = (m : Int) by omega]
    have hm2 : m < tn T := by omega
    have ll : l.length < 40 ∨ (alS T 9 v) m = false := by
      by_cases q0 : (alS T 9 v) m = true
      · left
        have := congrArg List.length hl
        rw [List.length_append, List.length_reverse, List.length_reverse, fu_st q0, List.length_append, List.length_singleton] at this
        have := fu_le (alS T 9 v) v
        omega
      · right; simpa using q0
    have hM1 := hE.sh hM
    have hT1 := tr_k hT hE SI_1
    obtain ⟨hka, -, -⟩ := hM1.q
    have KA := m_isAncestor (γ := γ) hM1 hT1 ho hm2 hv
    have KPv := m_parentOf (γ := γ) (h := H) (n := (v : Int)) hM1 (by omega)
    rw [gTr_p hT1 hv] at KPv
    have KPk := m_parentOf (γ := γ) (h := H) (n := (m : Int)) hM1 (by omega)
    rw [gTr_p hT1 hm2] at KPk
    have rk := ho.rg.2 m hm2
    have KL := fun z : l.length < 40 => m_lists (γ := γ) (x := m) hM1 hL z
    by_cases q : anS T v m = true
    · rw [q] at KA
      have KA : Call γ mX12_isAncestor 2 0 0 [vr (some a), vi (m : Int), vi (v : Int)] H (rV (vi 1) H) := KA
      have hs : (alS T 9 v) m = false := by show ((decide (0 ≤ m) && decide (m < v)) && !anS T v m) = false; rw [q]; simp
      have hs := fu_sf hs
      refine aw_iload_n dX12_listBack_4 rfl ?_
      refine aw_if_lt (tgt := 105) dX12_listBack_5 rfl (by omega) (fun c5 => ?_) (fun c5 => ?_)
      · exact absurd c5 (by omega)
      · refine aw_aload_n dX12_listBack_8 rfl ?_
        refine aw_iload_n dX12_listBack_9 rfl ?_
        refine aw_iload_n dX12_listBack_10 rfl ?_
        refine aw_invV_r dX12_listBack_11 vX12_isAncestor kX12_128 rfl (KA) ⟨_, (by assumption), _, _, rfl⟩ rfl rfl (by decide) (by decide) (by decide) (Nat.le_of_ble_eq_true rfl) ?_
        refine aw_istore (ls1 := [(4, _), (3, _), (0, _), (1, _), (2, _)]) dX12_listBack_14 (by decide) rfl ?_
        refine aw_iload_n dX12_listBack_16 rfl ?_
        refine aw_bipush dX12_listBack_17 rfl ?_
        refine aw_ic_ne (tgt := 39) dX12_listBack_19 rfl (by omega) (by omega) (fun c19 => ?_) (fun c19 => ?_)
        · refine aw_iload_n dX12_listBack_39 rfl ?_
          refine aw_bipush dX12_listBack_40 rfl ?_
          refine aw_ic_ne (tgt := 50) dX12_listBack_42 rfl (by omega) (by omega) (fun c42 => ?_) (fun c42 => ?_)
          · refine aw_iload_n dX12_listBack_50 rfl ?_
            refine aw_bipush dX12_listBack_51 rfl ?_
            refine aw_ic_ne (tgt := 77) dX12_listBack_53 rfl (by omega) (by omega) (fun c53 => ?_) (fun c53 => ?_)
            · refine aw_iload dX12_listBack_77 rfl ?_
              refine aw_if_ne (tgt := 86) dX12_listBack_79 rfl (by omega) (fun c79 => ?_) (fun c79 => ?_)
              · refine aw_iconst dX12_listBack_86 ?_
                refine aw_istore (ls1 := [(5, _), (4, _), (3, _), (0, _), (1, _), (2, _)]) dX12_listBack_87 (by decide) rfl ?_
                refine aw_iload dX12_listBack_89 rfl ?_
                refine aw_if_eq (tgt := 99) dX12_listBack_91 rfl (by omega) (fun c91 => ?_) (fun c91 => ?_)
                · refine aw_iinc (k9 := 2) (ls1 := [(3, _), (5, _), (4, _), (0, _), (1, _), (2, _)]) dX12_listBack_99 rfl (by decide) rfl ?_
                  refine aw_goto (tgt := 4) dX12_listBack_102 rfl ?_
                  refine aw_sub [0, 3, 4, 5] rfl ?_
                  exact ih l H (by omega) hE hL (by rw [← hl, hs])
                · exact absurd c91 (by omega)
              · exact absurd c79 (by omega)
            · exact absurd c53 (by omega)
          · exact absurd c42 (by omega)
        · exact absurd c19 (by omega)
    · have q : anS T v m = false := by simpa using q
      rw [q] at KA
      have KA : Call γ mX12_isAncestor 2 0 0 [vr (some a), vi (m : Int), vi (v : Int)] H (rV (vi 0) H) := KA
      have hs : (alS T 9 v) m = true := by show ((decide (0 ≤ m) && decide (m < v)) && !anS T v m) = true; rw [decide_eq_true (Nat.zero_le m), decide_eq_true (by omega : m < v), q]; rfl
      have KL := KL (by rcases ll with z | z; exact z; rw [hs] at z; cases z)
      have hs := fu_st hs
      refine aw_iload_n dX12_listBack_4 rfl ?_
      refine aw_if_lt (tgt := 105) dX12_listBack_5 rfl (by omega) (fun c5 => ?_) (fun c5 => ?_)
      · exact absurd c5 (by omega)
      · refine aw_aload_n dX12_listBack_8 rfl ?_
        refine aw_iload_n dX12_listBack_9 rfl ?_
        refine aw_iload_n dX12_listBack_10 rfl ?_
        refine aw_invV_r dX12_listBack_11 vX12_isAncestor kX12_128 rfl (KA) ⟨_, (by assumption), _, _, rfl⟩ rfl rfl (by decide) (by decide) (by decide) (Nat.le_of_ble_eq_true rfl) ?_
        refine aw_istore (ls1 := [(4, _), (3, _), (0, _), (1, _), (2, _)]) dX12_listBack_14 (by decide) rfl ?_
        refine aw_iload_n dX12_listBack_16 rfl ?_
        refine aw_bipush dX12_listBack_17 rfl ?_
        refine aw_ic_ne (tgt := 39) dX12_listBack_19 rfl (by omega) (by omega) (fun c19 => ?_) (fun c19 => ?_)
        · refine aw_iload_n dX12_listBack_39 rfl ?_
          refine aw_bipush dX12_listBack_40 rfl ?_
          refine aw_ic_ne (tgt := 50) dX12_listBack_42 rfl (by omega) (by omega) (fun c42 => ?_) (fun c42 => ?_)
          · refine aw_iload_n dX12_listBack_50 rfl ?_
            refine aw_bipush dX12_listBack_51 rfl ?_
            refine aw_ic_ne (tgt := 77) dX12_listBack_53 rfl (by omega) (by omega) (fun c53 => ?_) (fun c53 => ?_)
            · refine aw_iload dX12_listBack_77 rfl ?_
              refine aw_if_ne (tgt := 86) dX12_listBack_79 rfl (by omega) (fun c79 => ?_) (fun c79 => ?_)
              · exact absurd c79 (by omega)
              · refine aw_iconst dX12_listBack_82 ?_
                refine aw_goto (tgt := 87) dX12_listBack_83 rfl ?_
                refine aw_istore (ls1 := [(5, _), (4, _), (3, _), (0, _), (1, _), (2, _)]) dX12_listBack_87 (by decide) rfl ?_
                refine aw_iload dX12_listBack_89 rfl ?_
                refine aw_if_eq (tgt := 99) dX12_listBack_91 rfl (by omega) (fun c91 => ?_) (fun c91 => ?_)
                · exact absurd c91 (by omega)
                · refine aw_aload_n dX12_listBack_94 rfl ?_
                  refine aw_iload_n dX12_listBack_95 rfl ?_
                  refine aw_invV_f dX12_listBack_96 vX12_lists kX12_121 rfl (KL) ⟨_, (by assumption), _, _, rfl⟩ rfl rfl (by decide) (by decide) (by decide) (Nat.le_of_ble_eq_true rfl) (fun H1 hP9 => ?_)
                  obtain ⟨L1, E1⟩ := hP9
                  refine aw_iinc (k9 := 2) (ls1 := [(3, _), (5, _), (4, _), (0, _), (1, _), (2, _)]) dX12_listBack_99 rfl (by decide) rfl ?_
                  refine aw_goto (tgt := 4) dX12_listBack_102 rfl ?_
                  refine aw_sub [0, 3, 4, 5] rfl ?_
                  exact ih (l ++ [m]) H1 (by omega) (hE.tr E1) L1 (by rw [← hl, hs]; simp)
            · exact absurd c53 (by omega)
          · exact absurd c42 (by omega)
        · exact absurd c19 (by omega)
theorem m_listBack {γ : GG} {h : AH} {a v ax : Nat} {T : Tr} (hM : shM h a) (hT : gTr (gi h (a + 1)) 0 T) (ho : okTr T) (hv : v < tn T) (hx : 6 ≤ ax ∧ ax ≤ 9) (hL : isLi h a []) : Call γ mX12_listBack 3 0 0 [vr (some a), vi (v : Int), vi (ax : Int)] h (rF (fun h' => isLi h' a (fu (alS T ax v) v).reverse ∧ eqG (SI a) h h')) := by
  obtain ⟨hka, -, -⟩ := hM.q
  have n40 := ho.2.1
  have hax : ax = 6 ∨ ax = 7 ∨ ax = 8 ∨ ax = 9 := by omega
  rcases hax with rfl | rfl | rfl | rfl
  · refine Call.of (ls := [(0, vr (some a)), (1, vi (v : Int)), (2, vi ((6 : Nat) : Int))]) vX12_listBack.1 (Nat.le_of_ble_eq_true rfl) rfl ?_
    refine aw_iload_n dX12_listBack_0 rfl ?_
    refine aw_iconst dX12_listBack_1 ?_
    refine aw_isub dX12_listBack_2 ?_
    refine aw_istore_n (ls1 := [(3, _), (0, _), (1, _), (2, _)]) dX12_listBack_3 (by decide) rfl ?_
    refine aw_sub [0, 1, 2, 3] rfl ?_
    exact l_lb6 hM hT ho hv v [] h (Nat.le_refl _) eqG.rf hL (List.nil_append _)
  · refine Call.of (ls := [(0, vr (some a)), (1, vi (v : Int)), (2, vi ((7 : Nat) : Int))]) vX12_listBack.1 (Nat.le_of_ble_eq_true rfl) rfl ?_
    refine aw_iload_n dX12_listBack_0 rfl ?_
    refine aw_iconst dX12_listBack_1 ?_
    refine aw_isub dX12_listBack_2 ?_
    refine aw_istore_n (ls1 := [(3, _), (0, _), (1, _), (2, _)]) dX12_listBack_3 (by decide) rfl ?_
    refine aw_sub [0, 1, 2, 3] rfl ?_
    exact l_lb7 hM hT ho hv v [] h (Nat.le_refl _) eqG.rf hL (List.nil_append _)
  · refine Call.of (ls := [(0, vr (some a)), (1, vi (v : Int)), (2, vi ((8 : Nat) : Int))]) vX12_listBack.1 (Nat.le_of_ble_eq_true rfl) rfl ?_
    refine aw_iload_n dX12_listBack_0 rfl ?_
    refine aw_iconst dX12_listBack_1 ?_
    refine aw_isub dX12_listBack_2 ?_
    refine aw_istore_n (ls1 := [(3, _), (0, _), (1, _), (2, _)]) dX12_listBack_3 (by decide) rfl ?_
    refine aw_sub [0, 1, 2, 3] rfl ?_
    exact l_lb8 hM hT ho hv v [] h (Nat.le_refl _) eqG.rf hL (List.nil_append _)
  · refine Call.of (ls := [(0, vr (some a)), (1, vi (v : Int)), (2, vi ((9 : Nat) : Int))]) vX12_listBack.1 (Nat.le_of_ble_eq_true rfl) rfl ?_
    refine aw_iload_n dX12_listBack_0 rfl ?_
    refine aw_iconst dX12_listBack_1 ?_
    refine aw_isub dX12_listBack_2 ?_
    refine aw_istore_n (ls1 := [(3, _), (0, _), (1, _), (2, _)]) dX12_listBack_3 (by decide) rfl ?_
    refine aw_sub [0, 1, 2, 3] rfl ?_
    exact l_lb9 hM hT ho hv v [] h (Nat.le_refl _) eqG.rf hL (List.nil_append _)
