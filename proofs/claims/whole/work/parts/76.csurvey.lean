/-! ===== Tree: survey ===== -/
/-- the same heap but for the ints and longs of some cells -/
def eqT (S : Nat → Prop) (h h' : AH) : Prop := nx h' = nx h ∧ ∀ b, kd h' b = kd h b ∧ (∀ j, gr h' b j = gr h b j) ∧ (¬ S b → ∀ j, gi h' b j = gi h b j ∧ gl h' b j = gl h b j)
theorem eqT.rf {S : Nat → Prop} {h : AH} : eqT S h h := ⟨rfl, fun _ => ⟨rfl, fun _ => rfl, fun _ _ => ⟨rfl, rfl⟩⟩⟩
theorem eqT.tr {S : Nat → Prop} {h h1 h2 : AH} (e1 : eqT S h h1) (e2 : eqT S h1 h2) : eqT S h h2 := ⟨e2.1.trans e1.1, fun b => ⟨(e2.2 b).1.trans (e1.2 b).1, fun j => ((e2.2 b).2.1 j).trans ((e1.2 b).2.1 j), fun q j => ⟨((e2.2 b).2.2 q j).1.trans ((e1.2 b).2.2 q j).1, ((e2.2 b).2.2 q j).2.trans ((e1.2 b).2.2 q j).2⟩⟩⟩
theorem eqT.mono {S S' : Nat → Prop} {h h' : AH} (e : eqT S h h') (hs : ∀ b, S b → S' b) : eqT S' h h' := ⟨e.1, fun b => ⟨(e.2 b).1, (e.2 b).2.1, fun q => (e.2 b).2.2 (fun z => q (hs b z))⟩⟩
theorem eqT.wi {S : Nat → Prop} {h : AH} {a : Nat} {j v : Int} (hs : S a) : eqT S h (si h a j v) := ⟨rfl, fun b => ⟨rfl, fun _ => rfl, fun q k => ⟨gi_ne (Or.inl (fun z => q (by rw [z]; exact hs))), rfl⟩⟩⟩
theorem eqT.wl {S : Nat → Prop} {h : AH} {a : Nat} {j : Int} {v : Int64} (hs : S a) : eqT S h (sl h a j v) := ⟨rfl, fun b => ⟨rfl, fun _ => rfl, fun q k => ⟨rfl, gl_ne (Or.inl (fun z => q (by rw [z]; exact hs)))⟩⟩⟩
theorem eqT.eqA {S : Nat → Prop} {h h' : AH} {b : Nat} (e : eqT S h h') (hb : ¬ S b) : eqA h h' b := ⟨(e.2 b).1, fun j => ⟨((e.2 b).2.2 hb j).1, ((e.2 b).2.2 hb j).2, (e.2 b).2.1 j⟩⟩
theorem eqT.eqO {S : Nat → Prop} {h h' : AH} {lo hi : Nat} (e : eqT S h h') (hs : ∀ b, S b → lo ≤ b ∧ b < hi) : eqO h h' lo hi := ⟨e.1, fun b hb => e.eqA (fun z => by have := hs b z; omega)⟩
theorem eqT.shTr {S : Nat → Prop} {h h' : AH} {t : Nat} (e : eqT S h h') (hS : shTr h t) : shTr h' t := by
  obtain ⟨hk, ⟨r1, k1⟩, ⟨r2, k2⟩, ⟨r3, k3⟩, ⟨r4, k4⟩, ⟨r5, k5⟩, ⟨r6, k6⟩, ⟨r7, k7⟩, ⟨r8, k8⟩, ⟨r9, k9⟩⟩ := hS
  exact ⟨(e.2 t).1.trans hk, ⟨((e.2 t).2.1 1).trans r1, (e.2 (t + 1)).1.trans k1⟩, ⟨((e.2 t).2.1 2).trans r2, (e.2 (t + 2)).1.trans k2⟩, ⟨((e.2 t).2.1 3).trans r3, (e.2 (t + 3)).1.trans k3⟩, ⟨((e.2 t).2.1 4).trans r4, (e.2 (t + 4)).1.trans k4⟩, ⟨((e.2 t).2.1 5).trans r5, (e.2 (t + 5)).1.trans k5⟩, ⟨((e.2 t).2.1 6).trans r6, (e.2 (t + 6)).1.trans k6⟩, ⟨((e.2 t).2.1 7).trans r7, (e.2 (t + 7)).1.trans k7⟩, ⟨((e.2 t).2.1 8).trans r8, (e.2 (t + 8)).1.trans k8⟩, ⟨((e.2 t).2.1 9).trans r9, (e.2 (t + 9)).1.trans k9⟩⟩
def SV9 (t : Nat) : Nat → Prop := fun b => t + 4 ≤ b ∧ b ≤ t + 6
def sv1 (h : AH) (t : Nat) (T : Tr) (k : Nat) : Prop := ∀ j, j < k → gi h (t + 4) j = j ∧ gl h (t + 5) j = S9 (fun c => decide (c < k ∧ tpa T c = j)) ∧ gl h (t + 6) j = S9 (anS T j)
theorem anS_0 (T : Tr) : S9 (anS T 0) = 0 := by
  rw [S9_0]
  exact S9_cong (fun k _ => by unfold anS; simp)
theorem ch_new {T : Tr} (ho : okTr T) {k : Nat} (hk : k < tn T) : S9 (fun c => decide (c < k + 1 ∧ tpa T c = (k : Int))) = 0 := by
  rw [S9_0]
  refine S9_cong (fun c _ => decide_eq_false ?_)
  rintro ⟨c1, c2⟩
  obtain ⟨o1, o2, o3, o4, o5, o6⟩ := ho.o
  by_cases z : c = 0
  · subst z; omega
  · have := o5 c (by omega) (by omega); omega
theorem ch_same {T : Tr} {k j : Nat} (hj : tpa T k ≠ (j : Int)) : S9 (fun c => decide (c < k ∧ tpa T c = (j : Int))) = S9 (fun c => decide (c < k + 1 ∧ tpa T c = (j : Int))) := by
  refine S9_cong (fun c _ => decide_eq_decide.mpr ⟨fun z => ⟨by omega, z.2⟩, fun z => ⟨?_, z.2⟩⟩)
  have : c ≠ k := fun y => hj (y ▸ z.2)
  omega
theorem ch_one {T : Tr} {k p : Nat} (hk : k < 40) (hp : tpa T k = (p : Int)) : S9 (fun c => decide (c < k ∧ tpa T c = (p : Int))) ||| lN (2 ^ k) = S9 (fun c => decide (c < k + 1 ∧ tpa T c = (p : Int))) := by
  rw [S9_one hk, S9_or]
  refine S9_cong (fun c _ => ?_)
  by_cases q : c = k
  · subst q; simp [hp]
  · by_cases q2 : c < k
    · simp [q, q2, show c < k + 1 by omega]
    · simp [q, q2, show ¬ c < k + 1 by omega]
theorem an_one {T : Tr} (ho : okTr T) {k p : Nat} (hk1 : 1 ≤ k) (hk : k < tn T) (hp : tpa T k = (p : Int)) (h40 : p < 40) : S9 (anS T p) ||| lN (2 ^ p) = S9 (anS T k) := by
  rw [S9_one h40, S9_or]
  exact S9_cong (fun u _ => (an_step ho hk1 hk hp u).symm)
theorem l_sv1 {γ : GG} {t n : Nat} {T : Tr} {h : AH} {Q : AR → AH → Prop} (ho : okTr T) (hn : n = tn T) (hS : shTr h t) (hpa : ∀ k, k < n → gi h (t + 3) k = tpa T k) (h00 : gl h (t + 6) 0 = 0) (kk : ∀ H, eqT (SV9 t) h H → sv1 H t T n → AW γ mX10_survey 1 0 0 71 [(0, vr (some t)), (1, vi (n : Int))] [] H Q) : ∀ (m k : Nat) (H : AH), k + m = n → eqT (SV9 t) h H → gl H (t + 6) 0 = 0 → sv1 H t T k → AW γ mX10_survey 1 0 0 2 [(2, vi (k : Int)), (0, vr (some t)), (1, vi (n : Int))] [] H Q := by
  have n40 : tn T ≤ 40 := ho.2.1
  obtain ⟨o1, o2, o3, o4, o5, o6⟩ := ho.o
  intro m
  induction m with
  | zero =>
    intro k H hkm hE hz hI
    obtain rfl : k = n := by omega
    refine aw_iload_n dX10_survey_2 rfl ?_
    refine aw_iload_n dX10_survey_3 rfl ?_
    refine aw_ic_ge (tgt := 71) dX10_survey_4 rfl (by omega) (by omega) (fun c4 => ?_) (fun c4 => ?_)
    · refine aw_sub [1, 2] rfl ?_
      exact kk H hE hI
    · exact absurd c4 (by omega)
  | succ m ih =>
    intro k H hkm hE hz hI
    have hp := ((hE.2 (t + 3)).2.2 (by unfold SV9; omega) k).1.trans (hpa k (by omega))
    obtain ⟨hk, ⟨r1, k1⟩, ⟨r2, k2⟩, ⟨r3, k3⟩, ⟨r4, k4⟩, ⟨r5, k5⟩, ⟨r6, k6⟩, ⟨r7, k7⟩, ⟨r8, k8⟩, ⟨r9, k9⟩⟩ := hE.shTr hS
    by_cases q : k = 0
    · subst q
      have hpn : tpa T 0 = -1 := by omega
      rw [hpn] at hp
      have I := ih 1 (sl (si H (t + 4) 0 0) (t + 5) 0 0) (by omega) ((hE.tr (eqT.wi (by unfold SV9; omega))).tr (eqT.wl (by unfold SV9; omega))) ((gl_ne (Or.inl (by omega))).trans hz) (fun j hj => by
        obtain rfl : j = 0 := by omega
        refine ⟨gi_at rfl rfl, ?_, ?_⟩
        · exact (gl_at rfl rfl).trans (ch_new ho (k := 0) (by omega)).symm
        · exact ((gl_ne (Or.inl (by omega))).trans hz).trans (anS_0 T).symm)
      refine aw_iload_n dX10_survey_2 rfl ?_
      refine aw_iload_n dX10_survey_3 rfl ?_
      refine aw_ic_ge (tgt := 71) dX10_survey_4 rfl (by omega) (by omega) (fun c4 => ?_) (fun c4 => ?_)
      · exact absurd c4 (by omega)
      · refine aw_aload_n dX10_survey_7 rfl ?_
        refine aw_getr' (j := 4) dX10_survey_8 fX10_25 rfl (by assumption) rfl (by assumption) ?_
        refine aw_iload_n dX10_survey_11 rfl ?_
        refine aw_iload_n dX10_survey_12 rfl ?_
        refine aw_iast dX10_survey_13 (by assumption) (by omega) (by first | decide | omega) ?_
        refine aw_aload_n dX10_survey_14 rfl ?_
        refine aw_getr' (j := 5) dX10_survey_15 fX10_28 rfl (by assumption) rfl (by assumption) ?_
        refine aw_iload_n dX10_survey_18 rfl ?_
        refine aw_lconst (v := 0) dX10_survey_19 rfl ?_
        refine aw_last dX10_survey_20 (by assumption) (by omega) (by first | decide | omega) ?_
        refine aw_aload_n dX10_survey_21 rfl ?_
        refine aw_getr' (j := 3) dX10_survey_22 fX10_22 rfl (by assumption) rfl (by assumption) ?_
        refine aw_iload_n dX10_survey_25 rfl ?_
        refine aw_iald' dX10_survey_26 (by assumption) (by omega) (by first | decide | omega) ((gi_ne (Or.inl (by omega))).trans hp) ?_
        refine aw_istore_n (ls1 := [(3, _), (2, _), (0, _), (1, _)]) dX10_survey_27 (by decide) rfl ?_
        refine aw_iload_n dX10_survey_28 rfl ?_
        refine aw_if_lt (tgt := 65) dX10_survey_29 rfl (by omega) (fun c29 => ?_) (fun c29 => ?_)
        · refine aw_iinc (k9 := 1) (ls1 := [(2, _), (3, _), (0, _), (1, _)]) dX10_survey_65 rfl (by decide) rfl ?_
          refine aw_goto (tgt := 2) dX10_survey_68 rfl ?_
          refine aw_sub [0, 2, 3] rfl ?_
          exact I
        · exact absurd c29 (by omega)
    · obtain ⟨p, hp2⟩ := Int.eq_ofNat_of_zero_le (o5 k (by omega) (by omega)).1
      have hpk := (o5 k (by omega) (by omega)).2
      have hp3 : p < k := by omega
      have hp2 : tpa T k = (p : Int) := hp2
      rw [hp2] at hp
      obtain ⟨i1, i2, i3⟩ := hI p hp3
      have I := ih (k + 1) (sl (sl (sl (si H (t + 4) k k) (t + 5) k 0) (t + 5) p (S9 (fun c => decide (c < k + 1 ∧ tpa T c = (p : Int))))) (t + 6) k (S9 (anS T k))) (by omega) ((((hE.tr (eqT.wi (by unfold SV9; omega))).tr (eqT.wl (by unfold SV9; omega))).tr (eqT.wl (by unfold SV9; omega))).tr (eqT.wl (by unfold SV9; omega))) ((gl_ne (Or.inr (by omega))).trans ((gl_ne (Or.inl (by omega))).trans ((gl_ne (Or.inl (by omega))).trans hz))) (fun j hj => by
        by_cases z : j = k
        · subst z
          refine ⟨gi_at rfl rfl, ?_, gl_at rfl rfl⟩
          exact (gl_ne (Or.inl (by omega))).trans ((gl_ne (Or.inr (by omega))).trans ((gl_at rfl rfl).trans (ch_new ho (by omega)).symm))
        · obtain ⟨j1, j2, j3⟩ := hI j (by omega)
          refine ⟨(gi_ne (Or.inr (by omega))).trans j1, ?_, (gl_ne (Or.inr (by omega))).trans ((gl_ne (Or.inl (by omega))).trans ((gl_ne (Or.inl (by omega))).trans j3))⟩
          refine (gl_ne (Or.inl (by omega))).trans ?_
          by_cases y : j = p
          · subst y
            exact gl_at rfl rfl
          · exact (gl_ne (Or.inr (by omega))).trans ((gl_ne (Or.inr (by omega))).trans (j2.trans (ch_same (by omega)))))
      refine aw_iload_n dX10_survey_2 rfl ?_
      refine aw_iload_n dX10_survey_3 rfl ?_
      refine aw_ic_ge (tgt := 71) dX10_survey_4 rfl (by omega) (by omega) (fun c4 => ?_) (fun c4 => ?_)
      · exact absurd c4 (by omega)
      · refine aw_aload_n dX10_survey_7 rfl ?_
        refine aw_getr' (j := 4) dX10_survey_8 fX10_25 rfl (by assumption) rfl (by assumption) ?_
        refine aw_iload_n dX10_survey_11 rfl ?_
        refine aw_iload_n dX10_survey_12 rfl ?_
        refine aw_iast dX10_survey_13 (by assumption) (by omega) (by first | decide | omega) ?_
        refine aw_aload_n dX10_survey_14 rfl ?_
        refine aw_getr' (j := 5) dX10_survey_15 fX10_28 rfl (by assumption) rfl (by assumption) ?_
        refine aw_iload_n dX10_survey_18 rfl ?_
        refine aw_lconst (v := 0) dX10_survey_19 rfl ?_
        refine aw_last dX10_survey_20 (by assumption) (by omega) (by first | decide | omega) ?_
        refine aw_aload_n dX10_survey_21 rfl ?_
        refine aw_getr' (j := 3) dX10_survey_22 fX10_22 rfl (by assumption) rfl (by assumption) ?_
        refine aw_iload_n dX10_survey_25 rfl ?_
        refine aw_iald' dX10_survey_26 (by assumption) (by omega) (by first | decide | omega) ((gi_ne (Or.inl (by omega))).trans hp) ?_
        refine aw_istore_n (ls1 := [(3, _), (2, _), (0, _), (1, _)]) dX10_survey_27 (by decide) rfl ?_
        refine aw_iload_n dX10_survey_28 rfl ?_
        refine aw_if_lt (tgt := 65) dX10_survey_29 rfl (by omega) (fun c29 => ?_) (fun c29 => ?_)
        · exact absurd c29 (by omega)
        · refine aw_iload_n dX10_survey_32 rfl ?_
          refine aw_iload_n dX10_survey_33 rfl ?_
          refine aw_ic_ge (tgt := 65) dX10_survey_34 rfl (by omega) (by omega) (fun c34 => ?_) (fun c34 => ?_)
          · exact absurd c34 (by omega)
          · refine aw_aload_n dX10_survey_37 rfl ?_
            refine aw_getr' (j := 5) dX10_survey_38 fX10_28 rfl (by assumption) rfl (by assumption) ?_
            refine aw_iload_n dX10_survey_41 rfl ?_
            refine aw_dup2 dX10_survey_42 rfl rfl ?_
            refine aw_lald' dX10_survey_43 (by assumption) (by omega) (by first | decide | omega) rfl ?_
            refine aw_lconst (v := 1) dX10_survey_44 rfl ?_
            refine aw_iload_n dX10_survey_45 rfl ?_
            refine aw_lshl (v := lN (2 ^ k)) dX10_survey_46 (sh1 (by omega) rfl) ?_
            refine aw_lor dX10_survey_47 ?_
            rw [show gl (sl (si H (t + 4) k k) (t + 5) k 0) (t + 5) p ||| lN (2 ^ k) = S9 (fun c => decide (c < k + 1 ∧ tpa T c = (p : Int))) from by rw [gl_ne (Or.inr (by omega)), show gl (si H (t + 4) k k) (t + 5) p = _ from i2]; exact ch_one (by omega) hp2]
            refine aw_last dX10_survey_48 (by assumption) (by omega) (by first | decide | omega) ?_
            refine aw_aload_n dX10_survey_49 rfl ?_
            refine aw_getr' (j := 6) dX10_survey_50 fX10_32 rfl (by assumption) rfl (by assumption) ?_
            refine aw_iload_n dX10_survey_53 rfl ?_
            refine aw_aload_n dX10_survey_54 rfl ?_
            refine aw_getr' (j := 6) dX10_survey_55 fX10_32 rfl (by assumption) rfl (by assumption) ?_
            refine aw_iload_n dX10_survey_58 rfl ?_
            refine aw_lald' dX10_survey_59 (by assumption) (by omega) (by first | decide | omega) rfl ?_
            refine aw_lconst (v := 1) dX10_survey_60 rfl ?_
            refine aw_iload_n dX10_survey_61 rfl ?_
            refine aw_lshl (v := lN (2 ^ p)) dX10_survey_62 (sh1 (by omega) rfl) ?_
            refine aw_lor dX10_survey_63 ?_
            rw [show gl (sl (sl (si H (t + 4) k k) (t + 5) k 0) (t + 5) p (S9 (fun c => decide (c < k + 1 ∧ tpa T c = (p : Int))))) (t + 6) p ||| lN (2 ^ p) = S9 (anS T k) from by rw [gl_ne (Or.inl (by omega)), gl_ne (Or.inl (by omega)), show gl (si H (t + 4) k k) (t + 6) p = _ from i3]; exact an_one ho (by omega) (by omega) hp2 (by omega)]
            refine aw_last dX10_survey_64 (by assumption) (by omega) (by first | decide | omega) ?_
            refine aw_iinc (k9 := 1) (ls1 := [(2, _), (3, _), (0, _), (1, _)]) dX10_survey_65 rfl (by decide) rfl ?_
            refine aw_goto (tgt := 2) dX10_survey_68 rfl ?_
            refine aw_sub [0, 2, 3] rfl ?_
            exact I
def sv2 (h : AH) (t : Nat) (T : Tr) (k : Nat) : Prop := ∀ j, j < tn T → gi h (t + 4) j = lsV T k j
theorem l_sv2 {γ : GG} {t n : Nat} {T : Tr} {h : AH} (ho : okTr T) (hn : n = tn T) (hS : shTr h t) (hpa : ∀ k, k < n → gi h (t + 3) k = tpa T k) : ∀ (k : Nat) (H : AH), k < n → eqT (fun b => b = t + 4) h H → sv2 H t T k → AW γ mX10_survey 1 0 0 75 [(2, vi (k : Int)), (0, vr (some t)), (1, vi (n : Int))] [] H (rF (fun h' => eqT (fun b => b = t + 4) h h' ∧ sv2 h' t T 0)) := by
  have n40 : tn T ≤ 40 := ho.2.1
  obtain ⟨o1, o2, o3, o4, o5, o6⟩ := ho.o
  intro k
  induction k with
  | zero =>
    intro H hkn hE hI
    refine aw_iload_n dX10_survey_75 rfl ?_
    refine aw_if_le (tgt := 122) dX10_survey_76 rfl (by omega) (fun c76 => ?_) (fun c76 => ?_)
    · exact aw_return dX10_survey_122 rfl (Or.inl rfl) ⟨rfl, hE, hI⟩
    · exact absurd c76 (by omega)
  | succ k ih =>
    intro H hkn hE hI
    have hp := ((hE.2 (t + 3)).2.2 (by omega) ((k + 1 : Nat) : Int)).1.trans (hpa (k + 1) (by omega))
    obtain ⟨hk, ⟨r1, k1⟩, ⟨r2, k2⟩, ⟨r3, k3⟩, ⟨r4, k4⟩, ⟨r5, k5⟩, ⟨r6, k6⟩, ⟨r7, k7⟩, ⟨r8, k8⟩, ⟨r9, k9⟩⟩ := hE.shTr hS
    obtain ⟨p, hp2⟩ := Int.eq_ofNat_of_zero_le (o5 (k + 1) (by omega) (by omega)).1
    have hpk := (o5 (k + 1) (by omega) (by omega)).2
    have hp2 : tpa T (k + 1) = (p : Int) := hp2
    have hp3 : p < k + 1 := by omega
    rw [hp2] at hp
    have i1 := hI p (by omega)
    have i2 := hI (k + 1) (by omega)
    have b1 : -1 ≤ lsV T (k + 1) p ∧ lsV T (k + 1) p ≤ 40 := by
      unfold lsV
      have := (endT_spec (T := T) (v := p) (by omega)).2.1
      split <;> omega
    have b2 : -1 ≤ lsV T (k + 1) (k + 1) ∧ lsV T (k + 1) (k + 1) ≤ 40 := by
      unfold lsV
      have := (endT_spec (T := T) (v := k + 1) (by omega)).2.1
      split <;> omega
    have I := ih (si H (t + 4) p (max (lsV T (k + 1) p) (lsV T (k + 1) (k + 1)))) (by omega) (hE.tr (eqT.wi rfl)) (fun j hj => by
      by_cases z : j = p
      · subst z
        exact (gi_at rfl rfl).trans (lsV_p ho (k := k + 1) (by omega) (by omega) hp2).symm
      · exact ((gi_ne (Or.inr (by omega))).trans (hI j hj)).trans (lsV_ne (k := k + 1) (by omega) hp2 z).symm)
    refine aw_iload_n dX10_survey_75 rfl ?_
    refine aw_if_le (tgt := 122) dX10_survey_76 rfl (by omega) (fun c76 => ?_) (fun c76 => ?_)
    · exact absurd c76 (by omega)
    · refine aw_aload_n dX10_survey_79 rfl ?_
      refine aw_getr' (j := 3) dX10_survey_80 fX10_22 rfl (by assumption) rfl (by assumption) ?_
      refine aw_iload_n dX10_survey_83 rfl ?_
      refine aw_iald' dX10_survey_84 (by assumption) (by omega) (by first | decide | omega) hp ?_
      refine aw_istore_n (ls1 := [(3, _), (2, _), (0, _), (1, _)]) dX10_survey_85 (by decide) rfl ?_
      refine aw_iload_n dX10_survey_86 rfl ?_
      refine aw_if_lt (tgt := 116) dX10_survey_87 rfl (by omega) (fun c87 => ?_) (fun c87 => ?_)
      · exact absurd c87 (by omega)
      · refine aw_iload_n dX10_survey_90 rfl ?_
        refine aw_iload_n dX10_survey_91 rfl ?_
        refine aw_ic_ge (tgt := 116) dX10_survey_92 rfl (by omega) (by omega) (fun c92 => ?_) (fun c92 => ?_)
        · exact absurd c92 (by omega)
        · refine aw_aload_n dX10_survey_95 rfl ?_
          refine aw_getr' (j := 4) dX10_survey_96 fX10_25 rfl (by assumption) rfl (by assumption) ?_
          refine aw_iload_n dX10_survey_99 rfl ?_
          refine aw_aload_n dX10_survey_100 rfl ?_
          refine aw_getr' (j := 4) dX10_survey_101 fX10_25 rfl (by assumption) rfl (by assumption) ?_
          refine aw_iload_n dX10_survey_104 rfl ?_
          refine aw_iald' dX10_survey_105 (by assumption) (by omega) (by first | decide | omega) i1 ?_
          refine aw_aload_n dX10_survey_106 rfl ?_
          refine aw_getr' (j := 4) dX10_survey_107 fX10_25 rfl (by assumption) rfl (by assumption) ?_
          refine aw_iload_n dX10_survey_110 rfl ?_
          refine aw_iald' dX10_survey_111 (by assumption) (by omega) (by first | decide | omega) i2 ?_
          refine aw_max dX10_survey_112 uX10_66 (by omega) (by omega) (by decide) (Nat.le_of_ble_eq_true rfl) ?_
          refine aw_iast dX10_survey_115 (by assumption) (by omega) (by first | decide | omega) ?_
          refine aw_iinc (k9 := 1) (ls1 := [(2, _), (3, _), (0, _), (1, _)]) dX10_survey_116 rfl (by decide) rfl ?_
          rw [show ((k + 1 : Nat) : Int) + -1 = (k : Int) by omega]
          refine aw_goto (tgt := 75) dX10_survey_119 rfl ?_
          refine aw_sub [0, 2, 3] rfl ?_
          exact I
/-- survey: what follows from the parents -/
theorem c_survey {γ : GG} {t n : Nat} {T : Tr} {h : AH} (ho : okTr T) (hn : n = tn T) (hS : shTr h t) (hpa : ∀ k, k < n → gi h (t + 3) k = tpa T k) (h00 : gl h (t + 6) 0 = 0) : Call γ mX10_survey 1 0 0 [vr (some t), vi (n : Int)] h (rF (fun h' => eqT (SV9 t) h h' ∧ ∀ k, k < n → gi h' (t + 4) k = (endT T k : Int) - 1 ∧ gl h' (t + 5) k = S9 (chS T k) ∧ gl h' (t + 6) k = S9 (anS T k))) := by
  have n40 : tn T ≤ 40 := ho.2.1
  have o1 : 1 ≤ tn T := ho.1
  have L := l_sv1 (γ := γ) (Q := rF (fun h' => eqT (SV9 t) h h' ∧ ∀ k, k < n → gi h' (t + 4) k = (endT T k : Int) - 1 ∧ gl h' (t + 5) k = S9 (chS T k) ∧ gl h' (t + 6) k = S9 (anS T k))) ho hn hS hpa h00 (fun H hE hI => by
    have hS1 := hE.shTr hS
    have L2 := l_sv2 (γ := γ) (h := H) ho hn hS1 (fun k hk => ((hE.2 (t + 3)).2.2 (by unfold SV9; omega) k).1.trans (hpa k hk)) (n - 1) H (by omega) eqT.rf (fun j hj => by
      rw [lsV_top (by omega)]
      exact (hI j (by omega)).1)
    have L3 : AW γ mX10_survey 1 0 0 75 [(2, vi ((n - 1 : Nat) : Int)), (0, vr (some t)), (1, vi (n : Int))] [] H (rF (fun h' => eqT (SV9 t) h h' ∧ ∀ k, k < n → gi h' (t + 4) k = (endT T k : Int) - 1 ∧ gl h' (t + 5) k = S9 (chS T k) ∧ gl h' (t + 6) k = S9 (anS T k))) := aw_mono (Q' := rF (fun h' => eqT (fun b => b = t + 4) H h' ∧ sv2 h' t T 0)) (fun r h' hq => by
      obtain ⟨q1, q2, q3⟩ := hq
      refine ⟨q1, hE.tr (q2.mono (fun b hb => by unfold SV9; omega)), fun k hk => ⟨(q3 k (by omega)).trans (lsV_0 ho (by omega)), ?_, ?_⟩⟩
      · rw [((q2.2 (t + 5)).2.2 (by omega) k).2, (hI k hk).2.1]
        exact S9_cong (fun c _ => by unfold chS; rw [hn])
      · rw [((q2.2 (t + 6)).2.2 (by omega) k).2]
        exact (hI k hk).2.2) L2
    rw [show ((n - 1 : Nat) : Int) = (n : Int) - 1 by omega] at L3
    refine aw_iload_n dX10_survey_71 rfl ?_
    refine aw_iconst dX10_survey_72 ?_
    refine aw_isub dX10_survey_73 ?_
    refine aw_istore_n (ls1 := [(2, _), (0, _), (1, _)]) dX10_survey_74 (by decide) rfl ?_
    refine aw_sub [0, 1, 2] rfl ?_
    exact L3) n 0 h (by omega) eqT.rf h00 (fun j hj => absurd hj (by omega))
  refine Call.of (ls := [(0, vr (some t)), (1, vi (n : Int))]) vX10_survey.1 (Nat.le_of_ble_eq_true rfl) rfl ?_
  refine aw_iconst dX10_survey_0 ?_
  refine aw_istore_n (ls1 := [(2, _), (0, _), (1, _)]) dX10_survey_1 (by decide) rfl ?_
  refine aw_sub [0, 1, 2] rfl ?_
  exact L
