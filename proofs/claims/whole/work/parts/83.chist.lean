/-! ===== History ===== -/
def shHi (h : AH) (v : Nat) : Prop := kd h v = some (.inl 1) ∧ gr h v 0 = some (v + 1) ∧ kd h (v + 1) = some (.inr (6, 4)) ∧ ∀ k : Nat, k < 4 → gr h (v + 1) k = some (v + 2 + 308 * k) ∧ shSt h (v + 2 + 308 * k)
/-- the ring: the state to come stands in slot x -/
def rgH (h : AH) (v x : Nat) (U : List St) : Prop := x < 4 ∧ U.length ≤ 4 ∧ ∀ (i : Nat) (S : St), U[i]? = some S → isSt h (v + 2 + 308 * ((x + 4 - U.length + i) % 4)) S
def isHi (h : AH) (v : Nat) (U : List St) : Prop := shHi h v ∧ gi h v 2 = U.length ∧ ∃ x : Nat, gi h v 1 = x ∧ rgH h v x U
theorem shHi.eq {h h' : AH} {v : Nat} (hs : shHi h v) (e : ∀ b, v ≤ b → b < v + 1234 → eqA h h' b) : shHi h' v := by
  obtain ⟨h1, h2, h3, h4⟩ := hs
  refine ⟨(e v (by omega) (by omega)).1.trans h1, ((e v (by omega) (by omega)).2 0).2.2.trans h2, (e (v + 1) (by omega) (by omega)).1.trans h3, fun k hk => ?_⟩
  obtain ⟨a1, a2⟩ := h4 k hk
  exact ⟨((e (v + 1) (by omega) (by omega)).2 k).2.2.trans a1, a2.eq (fun b b1 b2 => e b (by omega) (by omega))⟩
theorem rgH.eq {h h' : AH} {v x : Nat} {U : List St} (hs : rgH h v x U) (e : ∀ b, v + 2 ≤ b → b < v + 1234 → eqA h h' b) : rgH h' v x U := by
  obtain ⟨h1, h2, h3⟩ := hs
  refine ⟨h1, h2, fun i S hi => ?_⟩
  have := Nat.mod_lt (x + 4 - U.length + i) (show 0 < 4 by decide)
  exact (h3 i S hi).eq (fun b b1 b2 => e b (by omega) (by omega))
theorem isHi.eq {h h' : AH} {v : Nat} {U : List St} (hs : isHi h v U) (e : ∀ b, v ≤ b → b < v + 1234 → eqA h h' b) : isHi h' v U := by
  obtain ⟨h1, h2, x, h3, h4⟩ := hs
  exact ⟨h1.eq e, ((e v (by omega) (by omega)).2 2).1.trans h2, x, ((e v (by omega) (by omega)).2 1).1.trans h3, h4.eq (fun b b1 b2 => e b (by omega) b2)⟩
theorem shHi.wi {h : AH} {v : Nat} {j z : Int} (hs : shHi h v) : shHi (si h v j z) v := by
  obtain ⟨h1, h2, h3, h4⟩ := hs
  refine ⟨h1, h2, h3, fun k hk => ?_⟩
  obtain ⟨a1, a2⟩ := h4 k hk
  exact ⟨a1, a2.eq (fun b b1 b2 => eqA.si (by omega))⟩
theorem rgH.wi {h : AH} {v x : Nat} {j z : Int} {U : List St} (hs : rgH h v x U) : rgH (si h v j z) v x U := hs.eq (fun b b1 b2 => eqA.si (by omega))
theorem shHi.st {h h' : AH} {v k : Nat} (hs : shHi h v) (hk : k < 4) (hS : shSt h' (v + 2 + 308 * k)) (e : eqO h h' (v + 2 + 308 * k) (v + 2 + 308 * k + 308)) : shHi h' v := by
  obtain ⟨h1, h2, h3, h4⟩ := hs
  refine ⟨(e.2 v (by omega)).1.trans h1, ((e.2 v (by omega)).2 0).2.2.trans h2, (e.2 (v + 1) (by omega)).1.trans h3, fun j hj => ?_⟩
  obtain ⟨a1, a2⟩ := h4 j hj
  refine ⟨((e.2 (v + 1) (by omega)).2 j).2.2.trans a1, ?_⟩
  by_cases q : j = k
  · subst q; exact hS
  · exact a2.eq (fun b b1 b2 => e.2 b (by omega))
theorem psh_len (U : List St) (S : St) (h : U.length ≤ 4) : (psh U S).length = min (U.length + 1) 4 := by
  unfold psh
  rw [List.length_append]
  split
  · rw [List.length_drop, List.length_singleton]; omega
  · rw [List.length_singleton]; omega
theorem psh_at {U : List St} {S S' : St} {i : Nat} (h : (psh U S)[i]? = some S') (hl : U.length ≤ 4) : (i + 1 = (psh U S).length ∧ S' = S) ∨ (i + 1 < (psh U S).length ∧ U[i + (U.length + 1 - (psh U S).length)]? = some S') := by
  have L := psh_len U S hl
  have hi : i < (psh U S).length := by
    by_cases z : i < (psh U S).length
    · exact z
    · rw [List.getElem?_eq_none (by omega)] at h; cases h
  by_cases q : U.length = 4
  · have e : psh U S = U.drop 1 ++ [S] := by unfold psh; rw [if_pos q]
    rw [e] at h
    by_cases z : i < 3
    · right
      rw [List.getElem?_append_left (by rw [List.length_drop]; omega), List.getElem?_drop] at h
      refine ⟨by omega, ?_⟩
      rw [show i + (U.length + 1 - (psh U S).length) = 1 + i by omega]
      exact h
    · left
      rw [List.getElem?_append_right (by rw [List.length_drop]; omega), List.length_drop, show i - (U.length - 1) = 0 by omega] at h
      simp at h
      exact ⟨by omega, h.symm⟩
  · have e : psh U S = U ++ [S] := by unfold psh; rw [if_neg q]
    rw [e] at h
    by_cases z : i < U.length
    · right
      rw [List.getElem?_append_left z] at h
      refine ⟨by omega, ?_⟩
      rw [show i + (U.length + 1 - (psh U S).length) = i by omega]
      exact h
    · left
      rw [List.getElem?_append_right (by omega), show i - U.length = 0 by omega] at h
      simp at h
      exact ⟨by omega, h.symm⟩
theorem rgH.pu {h h' : AH} {v x : Nat} {U : List St} {S : St} (hs : rgH h v x U) (hS : isSt h' (v + 2 + 308 * x) S) (e : eqO h h' (v + 2 + 308 * x) (v + 2 + 308 * x + 308)) : rgH h' v ((x + 1) % 4) (psh U S) := by
  obtain ⟨h1, h2, h3⟩ := hs
  have L := psh_len U S h2
  refine ⟨Nat.mod_lt _ (by decide), by omega, fun i S' hi => ?_⟩
  rcases psh_at hi h2 with ⟨a1, a2⟩ | ⟨a1, a2⟩
  · subst a2
    rw [show ((x + 1) % 4 + 4 - (psh U S').length + i) % 4 = x by omega]
    exact hS
  · have b := h3 _ _ a2
    have c : ((x + 1) % 4 + 4 - (psh U S).length + i) % 4 = (x + 4 - U.length + (i + (U.length + 1 - (psh U S).length))) % 4 := by omega
    rw [c]
    have d : (x + 4 - U.length + (i + (U.length + 1 - (psh U S).length))) % 4 ≠ x := by omega
    have f := Nat.mod_lt (x + 4 - U.length + (i + (U.length + 1 - (psh U S).length))) (show 0 < 4 by decide)
    exact b.eq (fun y y1 y2 => e.2 y (by omega))
theorem c_push {γ : GG} {v s : Nat} {S : St} {U : List St} {h : AH} (hH : isHi h v U) (hS : isSt h s S) (hn : tn S.1 ≤ 40) (hab : s + 308 ≤ v ∨ v + 1234 ≤ s) : Call γ mX2_push 6 0 0 [vr (some v), vr (some s)] h (rF (fun h' => isHi h' v (psh U S) ∧ eqO h h' v (v + 1234))) := by
  obtain ⟨hh, hl, x, hx, hr⟩ := hH
  have hh' := hh
  obtain ⟨h1, h2, h3, h4⟩ := hh'
  have hr' := hr
  obtain ⟨x4, l4, -⟩ := hr'
  have L := psh_len U S l4
  obtain ⟨g1, g2⟩ := h4 x x4
  have CS := c_stcopy (γ := γ) g2 hS hn (by omega)
  obtain ⟨g3, -⟩ := g2
  refine Call.of (ls := [(0, vr (some v)), (1, vr (some s))]) vX2_push.1 (Nat.le_of_ble_eq_true rfl) rfl ?_
  refine aw_aload_n dX2_push_0 rfl ?_
  refine aw_getr' (j := 0) dX2_push_1 fX2_11 rfl (by assumption) rfl (by assumption) ?_
  refine aw_aload_n dX2_push_4 rfl ?_
  refine aw_geti' (j := 1) dX2_push_5 fX2_17 rfl (by assumption) rfl hx ?_
  refine aw_aald6' dX2_push_8 (by assumption) (by omega) (by first | decide | omega) g1 ?_
  refine aw_aload_n dX2_push_9 rfl ?_
  refine aw_invV_f dX2_push_10 vX7_copyFrom kX2_25 rfl (CS) ⟨_, (by assumption), _, _, rfl⟩ rfl rfl (by decide) (by decide) (by decide) (Nat.le_of_ble_eq_true rfl) (fun H1 hP9 => ?_)
  obtain ⟨S1, E1⟩ := hP9
  have hh1 := hh.st x4 S1.1 E1
  have hr1 := hr.pu S1 E1
  have hx1 := ((E1.2 v (by omega)).2 1).1.trans hx
  have hl1 := ((E1.2 v (by omega)).2 2).1.trans hl
  have E2 : eqO h H1 v (v + 1234) := E1.mono (by omega) (by omega)
  have hh1' := hh1
  obtain ⟨h1, h2, h3, h4⟩ := hh1'
  refine aw_aload_n dX2_push_13 rfl ?_
  refine aw_aload_n dX2_push_14 rfl ?_
  refine aw_geti' (j := 1) dX2_push_15 fX2_17 rfl (by assumption) rfl hx1 ?_
  refine aw_iconst dX2_push_18 ?_
  refine aw_iadd dX2_push_19 ?_
  refine aw_iconst dX2_push_20 ?_
  refine aw_irem dX2_push_21 (by omega) (by omega) ?_
  refine aw_puti' (j := 1) rfl dX2_push_22 fX2_17 (by assumption) rfl ?_
  rw [show ((x : Int) + 1) % 4 = (((x + 1) % 4 : Nat) : Int) by omega]
  refine aw_aload_n dX2_push_25 rfl ?_
  refine aw_aload_n dX2_push_26 rfl ?_
  refine aw_geti' (j := 2) dX2_push_27 fX2_21 rfl (by assumption) rfl ((gi_ne (Or.inr (by omega))).trans hl1) ?_
  refine aw_iconst dX2_push_30 ?_
  refine aw_iadd dX2_push_31 ?_
  refine aw_iconst dX2_push_32 ?_
  refine aw_min dX2_push_33 uX2_29 (by omega) (by omega) (by decide) (Nat.le_of_ble_eq_true rfl) ?_
  rw [show min ((U.length : Int) + 1) 4 = ((psh U S).length : Int) by omega]
  refine aw_puti' (j := 2) rfl dX2_push_36 fX2_21 (by assumption) rfl ?_
  exact aw_return dX2_push_39 rfl (Or.inl rfl) ⟨rfl, ⟨hh1.wi.wi, gi_at rfl rfl, (x + 1) % 4, (gi_ne (Or.inr (by omega))).trans (gi_at rfl rfl), hr1.wi.wi⟩, (E2.tr (eqO.si (by omega) (by omega))).tr (eqO.si (by omega) (by omega))⟩
theorem rgH.pop {h : AH} {v x : Nat} {U : List St} {S : St} (hs : rgH h v x (U ++ [S])) : isSt h (v + 2 + 308 * ((x + 3) % 4)) S ∧ rgH h v ((x + 3) % 4) U := by
  obtain ⟨h1, h2, h3⟩ := hs
  rw [List.length_append, List.length_singleton] at h2 h3
  refine ⟨?_, Nat.mod_lt _ (by decide), by omega, fun i S' hi => ?_⟩
  · have := h3 U.length S (by simp)
    rw [show (x + 4 - (U.length + 1) + U.length) % 4 = (x + 3) % 4 by omega] at this
    exact this
  · have hi2 : i < U.length := by
      by_cases z : i < U.length
      · exact z
      · rw [List.getElem?_eq_none (by omega)] at hi; cases hi
    have := h3 i S' (by rw [List.getElem?_append_left hi2]; exact hi)
    rw [show (x + 4 - (U.length + 1) + i) % 4 = ((x + 3) % 4 + 4 - U.length + i) % 4 by omega] at this
    exact this
theorem c_popTo {γ : GG} {v s : Nat} {S : St} {U : List St} {h : AH} (hH : isHi h v (U ++ [S])) (hS : shSt h s) (hn : tn S.1 ≤ 40) (hab : s + 308 ≤ v ∨ v + 1234 ≤ s) : Call γ mX2_popTo 6 0 0 [vr (some v), vr (some s)] h (rF (fun h' => isHi h' v U ∧ isSt h' s S ∧ nx h' = nx h ∧ ∀ b, (b < v ∨ v + 1234 ≤ b) → (b < s ∨ s + 308 ≤ b) → eqA h h' b)) := by
  obtain ⟨hh, hl, x, hx, hr⟩ := hH
  obtain ⟨P1, P2⟩ := hr.pop
  have x4 := hr.1
  have l4 := hr.2.1
  rw [List.length_append, List.length_singleton] at hl l4
  have y4 := Nat.mod_lt (x + 3) (show 0 < 4 by decide)
  generalize hy : (x + 3) % 4 = y at P1 P2 y4
  have EW : ∀ a b : Int, eqO h (si (si h v 1 a) v 2 b) v (v + 1) := fun a b => (eqO.si (by omega) (by omega)).tr (eqO.si (by omega) (by omega))
  have hh2 : shHi (si (si h v 1 (y : Int)) v 2 (U.length : Int)) v := hh.wi.wi
  have hh' := hh
  obtain ⟨h1, h2, h3, h4⟩ := hh'
  obtain ⟨g1, -⟩ := h4 y y4
  have CS := c_stcopy (γ := γ) (h := si (si h v 1 (y : Int)) v 2 (U.length : Int)) (s := s) (b := v + 2 + 308 * y) (S := S) (hS.eq (fun b b1 b2 => (EW _ _).2 b (by omega))) (P1.eq (fun b b1 b2 => (EW _ _).2 b (by omega))) hn (by omega)
  have hk := hS.1
  refine Call.of (ls := [(0, vr (some v)), (1, vr (some s))]) vX2_popTo.1 (Nat.le_of_ble_eq_true rfl) rfl ?_
  refine aw_aload_n dX2_popTo_0 rfl ?_
  refine aw_aload_n dX2_popTo_1 rfl ?_
  refine aw_geti' (j := 1) dX2_popTo_2 fX2_17 rfl (by assumption) rfl hx ?_
  refine aw_iconst dX2_popTo_5 ?_
  refine aw_iadd dX2_popTo_6 ?_
  refine aw_iconst dX2_popTo_7 ?_
  refine aw_isub dX2_popTo_8 ?_
  refine aw_iconst dX2_popTo_9 ?_
  refine aw_irem dX2_popTo_10 (by omega) (by omega) ?_
  rw [show ((x : Int) + 4 - 1) % 4 = (y : Int) by omega]
  refine aw_puti' (j := 1) rfl dX2_popTo_11 fX2_17 (by assumption) rfl ?_
  refine aw_aload_n dX2_popTo_14 rfl ?_
  refine aw_dup dX2_popTo_15 rfl ?_
  refine aw_geti' (j := 2) dX2_popTo_16 fX2_21 rfl (by assumption) rfl ((gi_ne (Or.inr (by omega))).trans hl) ?_
  refine aw_iconst dX2_popTo_19 ?_
  refine aw_isub dX2_popTo_20 ?_
  rw [show ((U.length + 1 : Nat) : Int) - 1 = (U.length : Int) by omega]
  refine aw_puti' (j := 2) rfl dX2_popTo_21 fX2_21 (by assumption) rfl ?_
  refine aw_aload_n dX2_popTo_24 rfl ?_
  refine aw_aload_n dX2_popTo_25 rfl ?_
  refine aw_getr' (j := 0) dX2_popTo_26 fX2_11 rfl (by assumption) rfl (by assumption) ?_
  refine aw_aload_n dX2_popTo_29 rfl ?_
  refine aw_geti' (j := 1) dX2_popTo_30 fX2_17 rfl (by assumption) rfl ((gi_ne (Or.inr (by omega))).trans (gi_at rfl rfl)) ?_
  refine aw_aald6' dX2_popTo_33 (by assumption) (by omega) (by first | decide | omega) g1 ?_
  refine aw_invV_f dX2_popTo_34 vX7_copyFrom kX2_25 rfl (CS) ⟨_, (by assumption), _, _, rfl⟩ rfl rfl (by decide) (by decide) (by decide) (Nat.le_of_ble_eq_true rfl) (fun H1 hP9 => ?_)
  obtain ⟨S1, E1⟩ := hP9
  exact aw_return dX2_popTo_37 rfl (Or.inl rfl) ⟨rfl, ⟨hh2.eq (fun b b1 b2 => E1.2 b (by omega)), ((E1.2 v (by omega)).2 2).1.trans (gi_at rfl rfl), y, ((E1.2 v (by omega)).2 1).1.trans ((gi_ne (Or.inr (by omega))).trans (gi_at rfl rfl)), (P2.wi.wi).eq (fun b b1 b2 => E1.2 b (by omega))⟩, S1, E1.1, fun b b1 b2 => ((EW _ _).2 b (by omega)).tr (E1.2 b (by omega))⟩
