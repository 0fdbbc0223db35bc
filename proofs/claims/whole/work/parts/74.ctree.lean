/-! ===== Tree: its cells, what is read of it ===== -/
def shTr (h : AH) (t : Nat) : Prop := kd h t = some (.inl 9) ∧ (gr h t 1 = some (t + 1) ∧ kd h (t + 1) = some (.inr (1, 40))) ∧ (gr h t 2 = some (t + 2) ∧ kd h (t + 2) = some (.inr (1, 40))) ∧ (gr h t 3 = some (t + 3) ∧ kd h (t + 3) = some (.inr (1, 40))) ∧ (gr h t 4 = some (t + 4) ∧ kd h (t + 4) = some (.inr (1, 40))) ∧ (gr h t 5 = some (t + 5) ∧ kd h (t + 5) = some (.inr (2, 40))) ∧ (gr h t 6 = some (t + 6) ∧ kd h (t + 6) = some (.inr (2, 40))) ∧ (gr h t 7 = some (t + 7) ∧ kd h (t + 7) = some (.inr (1, 40))) ∧ (gr h t 8 = some (t + 8) ∧ kd h (t + 8) = some (.inr (1, 40))) ∧ (gr h t 9 = some (t + 9) ∧ kd h (t + 9) = some (.inr (1, 40)))
def chS (T : Tr) (v : Int) : Nat → Bool := fun k => decide (k < tn T ∧ tpa T k = v)
def anS (T : Tr) (v : Nat) : Nat → Bool := fun k => decide (k < v ∧ v < endT T k)
def isTr (h : AH) (t : Nat) (T : Tr) : Prop := shTr h t ∧ gi h t 0 = tn T ∧ ∀ k, k < tn T → gi h (t + 1) k = tnm T k ∧ gi h (t + 2) k = tvl T k ∧ gi h (t + 3) k = tpa T k ∧ gi h (t + 4) k = (endT T k : Int) - 1 ∧ gl h (t + 5) k = S9 (chS T k) ∧ gl h (t + 6) k = S9 (anS T k)
theorem shTr.eq {h h' : AH} {t : Nat} (hS : shTr h t) (e : ∀ b, t ≤ b → b < t + 10 → eqA h h' b) : shTr h' t := by
  obtain ⟨hk, ⟨r1, k1⟩, ⟨r2, k2⟩, ⟨r3, k3⟩, ⟨r4, k4⟩, ⟨r5, k5⟩, ⟨r6, k6⟩, ⟨r7, k7⟩, ⟨r8, k8⟩, ⟨r9, k9⟩⟩ := hS
  exact ⟨(e t (by omega) (by omega)).1.trans hk, ⟨((e t (by omega) (by omega)).2 1).2.2.trans r1, (e (t + 1) (by omega) (by omega)).1.trans k1⟩, ⟨((e t (by omega) (by omega)).2 2).2.2.trans r2, (e (t + 2) (by omega) (by omega)).1.trans k2⟩, ⟨((e t (by omega) (by omega)).2 3).2.2.trans r3, (e (t + 3) (by omega) (by omega)).1.trans k3⟩, ⟨((e t (by omega) (by omega)).2 4).2.2.trans r4, (e (t + 4) (by omega) (by omega)).1.trans k4⟩, ⟨((e t (by omega) (by omega)).2 5).2.2.trans r5, (e (t + 5) (by omega) (by omega)).1.trans k5⟩, ⟨((e t (by omega) (by omega)).2 6).2.2.trans r6, (e (t + 6) (by omega) (by omega)).1.trans k6⟩, ⟨((e t (by omega) (by omega)).2 7).2.2.trans r7, (e (t + 7) (by omega) (by omega)).1.trans k7⟩, ⟨((e t (by omega) (by omega)).2 8).2.2.trans r8, (e (t + 8) (by omega) (by omega)).1.trans k8⟩, ⟨((e t (by omega) (by omega)).2 9).2.2.trans r9, (e (t + 9) (by omega) (by omega)).1.trans k9⟩⟩
theorem isTr.eq {h h' : AH} {t : Nat} {T : Tr} (hT : isTr h t T) (e : ∀ b, t ≤ b → b < t + 10 → eqA h h' b) : isTr h' t T := by
  obtain ⟨h1, h2, h3⟩ := hT
  refine ⟨h1.eq e, ((e t (by omega) (by omega)).2 0).1.trans h2, fun k hk => ?_⟩
  obtain ⟨a1, a2, a3, a4, a5, a6⟩ := h3 k hk
  exact ⟨((e (t + 1) (by omega) (by omega)).2 k).1.trans a1, ((e (t + 2) (by omega) (by omega)).2 k).1.trans a2, ((e (t + 3) (by omega) (by omega)).2 k).1.trans a3, ((e (t + 4) (by omega) (by omega)).2 k).1.trans a4, ((e (t + 5) (by omega) (by omega)).2 k).2.1.trans a5, ((e (t + 6) (by omega) (by omega)).2 k).2.1.trans a6⟩
def sbS (T : Tr) (v : Nat) : Nat → Bool := fun k => decide (0 ≤ tpa T v) && chS T (tpa T v) k
/-- the nodes of an axis -/
def alS (T : Tr) (ax : Int) (v : Nat) : Nat → Bool :=
  if ax = 0 then chS T v else if ax = 1 then (fun k => decide (k = v)) else if ax = 2 then rgS (v + 1) (endT T v) else if ax = 3 then rgS v (endT T v) else if ax = 4 then (fun k => sbS T v k && rgS (v + 1) (tn T) k) else if ax = 5 then rgS (endT T v) (tn T) else if ax = 6 then (fun k => decide ((k : Int) = tpa T v)) else if ax = 7 then anS T v else if ax = 8 then (fun k => sbS T v k && rgS 0 v k) else (fun k => rgS 0 v k && !anS T v k)
def lim (p : Nat → Bool) (n : Nat) : Nat → Bool := fun k => decide (k < n) && p k
theorem lim_0 (p : Nat → Bool) : S9 (lim p 0) = 0 := by rw [S9_0]; exact S9_cong (fun k _ => by simp [lim])
theorem lim_t {p : Nat → Bool} {n : Nat} (hn : n < 40) (h : p n = true) : S9 (lim p n) ||| lN (2 ^ n) = S9 (lim p (n + 1)) := by
  rw [S9_one hn, S9_or]
  refine S9_cong (fun k _ => ?_)
  unfold lim
  by_cases q : k = n
  · subst q; simp [h]
  · by_cases q2 : k < n
    · simp [q, q2, show k < n + 1 by omega]
    · simp [q, q2, show ¬ k < n + 1 by omega]
theorem lim_f {p : Nat → Bool} {n : Nat} (h : p n = false) : S9 (lim p n) = S9 (lim p (n + 1)) := by
  refine S9_cong (fun k _ => ?_)
  unfold lim
  by_cases q : k = n
  · subst q; simp [h]
  · by_cases q2 : k < n
    · simp [q2, show k < n + 1 by omega]
    · simp [q2, show ¬ k < n + 1 by omega]
theorem c_siblings {γ : GG} {h : AH} {t : Nat} {T : Tr} {v : Nat} (hT : isTr h t T) (ho : okTr T) (hv : v < tn T) : Call γ mX10_siblings 0 0 0 [vr (some t), vi (v : Int)] h (rV (vl (S9 (sbS T v))) h) := by
  obtain ⟨hS, h0, hc⟩ := hT
  obtain ⟨hk, ⟨r1, k1⟩, ⟨r2, k2⟩, ⟨r3, k3⟩, ⟨r4, k4⟩, ⟨r5, k5⟩, ⟨r6, k6⟩, ⟨r7, k7⟩, ⟨r8, k8⟩, ⟨r9, k9⟩⟩ := hS
  obtain ⟨a1, a2, a3, a4, a5, a6⟩ := hc v hv
  obtain ⟨o1, o2, o3, o4, o5, o6⟩ := ho.o
  have rg := ho.rg.2 v hv
  by_cases q : 0 ≤ tpa T v
  · obtain ⟨p, hp⟩ := Int.eq_ofNat_of_zero_le q
    have hpv : p < tn T := by
      by_cases z : v = 0
      · subst z; omega
      · have := o5 v (by omega) hv; omega
    have b5 := (hc p hpv).2.2.2.2.1
    have e : S9 (chS T p) = S9 (sbS T v) := S9_cong (fun k _ => by unfold sbS; rw [hp]; simp)
    rw [← e]
    refine Call.of (ls := [(0, vr (some t)), (1, vi (v : Int))]) vX10_siblings.1 (Nat.le_of_ble_eq_true rfl) rfl ?_
    refine aw_aload_n dX10_siblings_0 rfl ?_
    refine aw_getr' (j := 3) dX10_siblings_1 fX10_22 rfl (by assumption) rfl (by assumption) ?_
    refine aw_iload_n dX10_siblings_4 rfl ?_
    refine aw_iald' dX10_siblings_5 (by assumption) (by omega) (by first | decide | omega) (a3.trans hp) ?_
    refine aw_istore_n (ls1 := [(2, _), (0, _), (1, _)]) dX10_siblings_6 (by decide) rfl ?_
    refine aw_iload_n dX10_siblings_7 rfl ?_
    refine aw_if_lt (tgt := 26) dX10_siblings_8 rfl (by omega) (fun c8 => ?_) (fun c8 => ?_)
    · exact absurd c8 (by omega)
    · refine aw_iload_n dX10_siblings_11 rfl ?_
      refine aw_bipush dX10_siblings_12 rfl ?_
      refine aw_ic_ge (tgt := 26) dX10_siblings_14 rfl (by omega) (by omega) (fun c14 => ?_) (fun c14 => ?_)
      · exact absurd c14 (by omega)
      · refine aw_aload_n dX10_siblings_17 rfl ?_
        refine aw_getr' (j := 5) dX10_siblings_18 fX10_28 rfl (by assumption) rfl (by assumption) ?_
        refine aw_iload_n dX10_siblings_21 rfl ?_
        refine aw_lald' dX10_siblings_22 (by assumption) (by omega) (by first | decide | omega) b5 ?_
        refine aw_goto (tgt := 27) dX10_siblings_23 rfl ?_
        exact aw_lreturn dX10_siblings_27 rfl (Or.inl rfl) ⟨rfl, rfl⟩
  · have e : S9 (sbS T v) = 0 := by
      rw [S9_0]
      refine S9_cong (fun k _ => ?_)
      unfold sbS
      simp [q]
    rw [e]
    refine Call.of (ls := [(0, vr (some t)), (1, vi (v : Int))]) vX10_siblings.1 (Nat.le_of_ble_eq_true rfl) rfl ?_
    refine aw_aload_n dX10_siblings_0 rfl ?_
    refine aw_getr' (j := 3) dX10_siblings_1 fX10_22 rfl (by assumption) rfl (by assumption) ?_
    refine aw_iload_n dX10_siblings_4 rfl ?_
    refine aw_iald' dX10_siblings_5 (by assumption) (by omega) (by first | decide | omega) a3 ?_
    refine aw_istore_n (ls1 := [(2, _), (0, _), (1, _)]) dX10_siblings_6 (by decide) rfl ?_
    refine aw_iload_n dX10_siblings_7 rfl ?_
    refine aw_if_lt (tgt := 26) dX10_siblings_8 rfl (by omega) (fun c8 => ?_) (fun c8 => ?_)
    · refine aw_lconst (v := 0) dX10_siblings_26 rfl ?_
      exact aw_lreturn dX10_siblings_27 rfl (Or.inl rfl) ⟨rfl, rfl⟩
    · exact absurd c8 (by omega)
theorem anS_lt {T : Tr} {v k : Nat} (h : anS T v k = true) : k < v := by unfold anS at h; simp at h; exact h.1
theorem c_along {γ : GG} {h : AH} {t : Nat} {T : Tr} {v ax : Nat} (hT : isTr h t T) (ho : okTr T) (hv : v < tn T) (hx : ax ≤ 9) : Call γ mX10_along 1 0 0 [vr (some t), vi (ax : Int), vi (v : Int)] h (rV (vl (S9 (alS T (ax : Int) v))) h) := by
  have KS := c_siblings (γ := γ) hT ho hv
  obtain ⟨hS, h0, hc⟩ := hT
  obtain ⟨hk, ⟨r1, k1⟩, ⟨r2, k2⟩, ⟨r3, k3⟩, ⟨r4, k4⟩, ⟨r5, k5⟩, ⟨r6, k6⟩, ⟨r7, k7⟩, ⟨r8, k8⟩, ⟨r9, k9⟩⟩ := hS
  obtain ⟨a1, a2, a3, a4, a5, a6⟩ := hc v hv
  obtain ⟨o1, o2, o3, o4, o5, o6⟩ := ho.o
  have rg := ho.rg.2 v hv
  obtain ⟨n1, n2, n3, n4⟩ := endT_spec hv
  have e1 : (endT T v : Int) - 1 + 1 = ((endT T v : Nat) : Int) := by omega
  have e2 : (v : Int) + 1 = ((v + 1 : Nat) : Int) := by omega
  refine Call.of (ls := [(0, vr (some t)), (1, vi (ax : Int)), (2, vi (v : Int))]) vX10_along.1 (Nat.le_of_ble_eq_true rfl) rfl ?_
  refine aw_iload_n dX10_along_0 rfl ?_
  match ax, hx with
  | 0, _ =>
    refine aw_tableIn (off := 51) (tgt := 52) dX10_along_1 (by omega) (by decide) (by decide) rfl rfl ?_
    refine aw_aload_n dX10_along_52 rfl ?_
    refine aw_getr' (j := 5) dX10_along_53 fX10_28 rfl (by assumption) rfl (by assumption) ?_
    refine aw_iload_n dX10_along_56 rfl ?_
    refine aw_lald' dX10_along_57 (by assumption) (by omega) (by first | decide | omega) a5 ?_
    exact aw_lreturn dX10_along_58 rfl (Or.inl rfl) ⟨by rfl, rfl⟩
  | 1, _ =>
    refine aw_tableIn (off := 58) (tgt := 59) dX10_along_1 (by omega) (by decide) (by decide) rfl rfl ?_
    refine aw_lconst (v := 1) dX10_along_59 rfl ?_
    refine aw_iload_n dX10_along_60 rfl ?_
    refine aw_lshl (v := lN (2 ^ v)) dX10_along_61 (sh1 (by omega) rfl) ?_
    rw [S9_one (show v < 40 by omega)]
    exact aw_lreturn dX10_along_62 rfl (Or.inl rfl) ⟨by rfl, rfl⟩
  | 2, _ =>
    refine aw_tableIn (off := 62) (tgt := 63) dX10_along_1 (by omega) (by decide) (by decide) rfl rfl ?_
    refine aw_iload_n dX10_along_63 rfl ?_
    refine aw_iconst dX10_along_64 ?_
    refine aw_iadd dX10_along_65 ?_
    rw [e2]
    refine aw_aload_n dX10_along_66 rfl ?_
    refine aw_getr' (j := 4) dX10_along_67 fX10_25 rfl (by assumption) rfl (by assumption) ?_
    refine aw_iload_n dX10_along_70 rfl ?_
    refine aw_iald' dX10_along_71 (by assumption) (by omega) (by first | decide | omega) a4 ?_
    refine aw_iconst dX10_along_72 ?_
    refine aw_iadd dX10_along_73 ?_
    rw [e1]
    refine aw_invS_r dX10_along_74 sX10_range kX10_77 rfl (c_range (by omega) (by omega)) rfl rfl (by decide) (by decide) (by decide) (Nat.le_of_ble_eq_true rfl) ?_
    exact aw_lreturn dX10_along_77 rfl (Or.inl rfl) ⟨by rfl, rfl⟩
  | 3, _ =>
    refine aw_tableIn (off := 77) (tgt := 78) dX10_along_1 (by omega) (by decide) (by decide) rfl rfl ?_
    refine aw_iload_n dX10_along_78 rfl ?_
    refine aw_aload_n dX10_along_79 rfl ?_
    refine aw_getr' (j := 4) dX10_along_80 fX10_25 rfl (by assumption) rfl (by assumption) ?_
    refine aw_iload_n dX10_along_83 rfl ?_
    refine aw_iald' dX10_along_84 (by assumption) (by omega) (by first | decide | omega) a4 ?_
    refine aw_iconst dX10_along_85 ?_
    refine aw_iadd dX10_along_86 ?_
    rw [e1]
    refine aw_invS_r dX10_along_87 sX10_range kX10_77 rfl (c_range (by omega) (by omega)) rfl rfl (by decide) (by decide) (by decide) (Nat.le_of_ble_eq_true rfl) ?_
    exact aw_lreturn dX10_along_90 rfl (Or.inl rfl) ⟨by rfl, rfl⟩
  | 4, _ =>
    refine aw_tableIn (off := 90) (tgt := 91) dX10_along_1 (by omega) (by decide) (by decide) rfl rfl ?_
    refine aw_aload_n dX10_along_91 rfl ?_
    refine aw_iload_n dX10_along_92 rfl ?_
    refine aw_invV_r dX10_along_93 vX10_siblings kX10_81 rfl (KS) ⟨_, (by assumption), _, _, rfl⟩ rfl rfl (by decide) (by decide) (by decide) (Nat.le_of_ble_eq_true rfl) ?_
    refine aw_iload_n dX10_along_96 rfl ?_
    refine aw_iconst dX10_along_97 ?_
    refine aw_iadd dX10_along_98 ?_
    rw [e2]
    refine aw_aload_n dX10_along_99 rfl ?_
    refine aw_geti' (j := 0) dX10_along_100 fX10_9 rfl (by assumption) rfl h0 ?_
    refine aw_invS_r dX10_along_103 sX10_range kX10_77 rfl (c_range (by omega) (by omega)) rfl rfl (by decide) (by decide) (by decide) (Nat.le_of_ble_eq_true rfl) ?_
    refine aw_land dX10_along_106 ?_
    rw [S9_and]
    exact aw_lreturn dX10_along_107 rfl (Or.inl rfl) ⟨by rfl, rfl⟩
  | 5, _ =>
    refine aw_tableIn (off := 107) (tgt := 108) dX10_along_1 (by omega) (by decide) (by decide) rfl rfl ?_
    refine aw_aload_n dX10_along_108 rfl ?_
    refine aw_getr' (j := 4) dX10_along_109 fX10_25 rfl (by assumption) rfl (by assumption) ?_
    refine aw_iload_n dX10_along_112 rfl ?_
    refine aw_iald' dX10_along_113 (by assumption) (by omega) (by first | decide | omega) a4 ?_
    refine aw_iconst dX10_along_114 ?_
    refine aw_iadd dX10_along_115 ?_
    rw [e1]
    refine aw_aload_n dX10_along_116 rfl ?_
    refine aw_geti' (j := 0) dX10_along_117 fX10_9 rfl (by assumption) rfl h0 ?_
    refine aw_invS_r dX10_along_120 sX10_range kX10_77 rfl (c_range (by omega) (by omega)) rfl rfl (by decide) (by decide) (by decide) (Nat.le_of_ble_eq_true rfl) ?_
    exact aw_lreturn dX10_along_123 rfl (Or.inl rfl) ⟨by rfl, rfl⟩
  | 6, _ =>
    refine aw_tableIn (off := 123) (tgt := 124) dX10_along_1 (by omega) (by decide) (by decide) rfl rfl ?_
    by_cases q : 0 ≤ tpa T v
    · obtain ⟨p, hp⟩ := Int.eq_ofNat_of_zero_le q
      have hpv : p < tn T := by
        by_cases z : v = 0
        · subst z; omega
        · have := o5 v (by omega) hv; omega
      have e : S9 (fun k => decide (k = p)) = S9 (alS T ((6 : Nat) : Int) v) := S9_cong (fun k _ => by
        show decide (k = p) = decide ((k : Int) = tpa T v)
        rw [hp]
        exact decide_eq_decide.mpr (by omega))
      rw [← e]
      refine aw_aload_n dX10_along_124 rfl ?_
      refine aw_getr' (j := 3) dX10_along_125 fX10_22 rfl (by assumption) rfl (by assumption) ?_
      refine aw_iload_n dX10_along_128 rfl ?_
      refine aw_iald' dX10_along_129 (by assumption) (by omega) (by first | decide | omega) (a3.trans hp) ?_
      refine aw_if_lt (tgt := 144) dX10_along_130 rfl (by omega) (fun c130 => ?_) (fun c130 => ?_)
      · exact absurd c130 (by omega)
      · refine aw_lconst (v := 1) dX10_along_133 rfl ?_
        refine aw_aload_n dX10_along_134 rfl ?_
        refine aw_getr' (j := 3) dX10_along_135 fX10_22 rfl (by assumption) rfl (by assumption) ?_
        refine aw_iload_n dX10_along_138 rfl ?_
        refine aw_iald' dX10_along_139 (by assumption) (by omega) (by first | decide | omega) (a3.trans hp) ?_
        refine aw_lshl (v := lN (2 ^ p)) dX10_along_140 (sh1 (by omega) rfl) ?_
        rw [S9_one (show p < 40 by omega)]
        refine aw_goto (tgt := 145) dX10_along_141 rfl ?_
        exact aw_lreturn dX10_along_145 rfl (Or.inl rfl) ⟨rfl, rfl⟩
    · have e : S9 (alS T ((6 : Nat) : Int) v) = 0 := by
        rw [S9_0]
        refine S9_cong (fun k _ => ?_)
        show decide ((k : Int) = tpa T v) = false
        exact decide_eq_false (by omega)
      rw [e]
      refine aw_aload_n dX10_along_124 rfl ?_
      refine aw_getr' (j := 3) dX10_along_125 fX10_22 rfl (by assumption) rfl (by assumption) ?_
      refine aw_iload_n dX10_along_128 rfl ?_
      refine aw_iald' dX10_along_129 (by assumption) (by omega) (by first | decide | omega) a3 ?_
      refine aw_if_lt (tgt := 144) dX10_along_130 rfl (by omega) (fun c130 => ?_) (fun c130 => ?_)
      · refine aw_lconst (v := 0) dX10_along_144 rfl ?_
        exact aw_lreturn dX10_along_145 rfl (Or.inl rfl) ⟨rfl, rfl⟩
      · exact absurd c130 (by omega)
  | 7, _ =>
    refine aw_tableIn (off := 145) (tgt := 146) dX10_along_1 (by omega) (by decide) (by decide) rfl rfl ?_
    refine aw_aload_n dX10_along_146 rfl ?_
    refine aw_getr' (j := 6) dX10_along_147 fX10_32 rfl (by assumption) rfl (by assumption) ?_
    refine aw_iload_n dX10_along_150 rfl ?_
    refine aw_lald' dX10_along_151 (by assumption) (by omega) (by first | decide | omega) a6 ?_
    exact aw_lreturn dX10_along_152 rfl (Or.inl rfl) ⟨by rfl, rfl⟩
  | 8, _ =>
    refine aw_tableIn (off := 152) (tgt := 153) dX10_along_1 (by omega) (by decide) (by decide) rfl rfl ?_
    refine aw_aload_n dX10_along_153 rfl ?_
    refine aw_iload_n dX10_along_154 rfl ?_
    refine aw_invV_r dX10_along_155 vX10_siblings kX10_81 rfl (KS) ⟨_, (by assumption), _, _, rfl⟩ rfl rfl (by decide) (by decide) (by decide) (Nat.le_of_ble_eq_true rfl) ?_
    refine aw_iconst dX10_along_158 ?_
    refine aw_iload_n dX10_along_159 rfl ?_
    refine aw_invS_r dX10_along_160 sX10_range kX10_77 rfl (c_range (b := 0) (by omega) (by omega)) rfl rfl (by decide) (by decide) (by decide) (Nat.le_of_ble_eq_true rfl) ?_
    refine aw_land dX10_along_163 ?_
    rw [S9_and]
    exact aw_lreturn dX10_along_164 rfl (Or.inl rfl) ⟨by rfl, rfl⟩
  | 9, _ =>
    refine aw_tableOut (tgt := 165) dX10_along_1 (by omega) (Or.inr (by decide)) rfl ?_
    refine aw_iconst dX10_along_165 ?_
    refine aw_iload_n dX10_along_166 rfl ?_
    refine aw_invS_r dX10_along_167 sX10_range kX10_77 rfl (c_range (b := 0) (by omega) (by omega)) rfl rfl (by decide) (by decide) (by decide) (Nat.le_of_ble_eq_true rfl) ?_
    refine aw_aload_n dX10_along_170 rfl ?_
    refine aw_getr' (j := 6) dX10_along_171 fX10_32 rfl (by assumption) rfl (by assumption) ?_
    refine aw_iload_n dX10_along_174 rfl ?_
    refine aw_lald' dX10_along_175 (by assumption) (by omega) (by first | decide | omega) a6 ?_
    refine aw_ldc2 dX10_along_176 qX10_85 ?_
    refine aw_lxor dX10_along_179 ?_
    refine aw_land dX10_along_180 ?_
    rw [S9_not]
    exact aw_lreturn dX10_along_181 rfl (Or.inl rfl) ⟨by rfl, rfl⟩
  | n + 10, hx => exact absurd hx (by omega)
def telT (T : Tr) (v : Nat) (k : Int) : Int := if k = 0 then tnm T v else if k = 1 then tvl T v else if k = 2 then tpa T v else if k = 3 then (fb_ct (chS T v) 40 : Nat) else if k = 4 then (endT T v : Int) - 1 - v else (fb_ct (anS T v) 40 : Nat)
theorem c_tell {γ : GG} {h : AH} {t : Nat} {T : Tr} {v k : Nat} (hT : isTr h t T) (hv : v < tn T) (hn : tn T ≤ 40) (hx : k ≤ 5) : Call γ mX10_tell 1 0 0 [vr (some t), vi (v : Int), vi (k : Int)] h (rV (vi (telT T v (k : Int))) h) := by
  obtain ⟨hS, h0, hc⟩ := hT
  obtain ⟨hk, ⟨r1, k1⟩, ⟨r2, k2⟩, ⟨r3, k3⟩, ⟨r4, k4⟩, ⟨r5, k5⟩, ⟨r6, k6⟩, ⟨r7, k7⟩, ⟨r8, k8⟩, ⟨r9, k9⟩⟩ := hS
  obtain ⟨a1, a2, a3, a4, a5, a6⟩ := hc v hv
  refine Call.of (ls := [(0, vr (some t)), (1, vi (v : Int)), (2, vi (k : Int))]) vX10_tell.1 (Nat.le_of_ble_eq_true rfl) rfl ?_
  refine aw_iload_n dX10_tell_0 rfl ?_
  match k, hx with
  | 0, _ =>
    refine aw_tableIn (off := 35) (tgt := 36) dX10_tell_1 (by omega) (by decide) (by decide) rfl rfl ?_
    refine aw_aload_n dX10_tell_36 rfl ?_
    refine aw_getr' (j := 1) dX10_tell_37 fX10_15 rfl (by assumption) rfl (by assumption) ?_
    refine aw_iload_n dX10_tell_40 rfl ?_
    refine aw_iald' dX10_tell_41 (by assumption) (by omega) (by first | decide | omega) a1 ?_
    exact aw_ireturn dX10_tell_42 rfl (Or.inl rfl) ⟨by rfl, rfl⟩
  | 1, _ =>
    refine aw_tableIn (off := 42) (tgt := 43) dX10_tell_1 (by omega) (by decide) (by decide) rfl rfl ?_
    refine aw_aload_n dX10_tell_43 rfl ?_
    refine aw_getr' (j := 2) dX10_tell_44 fX10_19 rfl (by assumption) rfl (by assumption) ?_
    refine aw_iload_n dX10_tell_47 rfl ?_
    refine aw_iald' dX10_tell_48 (by assumption) (by omega) (by first | decide | omega) a2 ?_
    exact aw_ireturn dX10_tell_49 rfl (Or.inl rfl) ⟨by rfl, rfl⟩
  | 2, _ =>
    refine aw_tableIn (off := 49) (tgt := 50) dX10_tell_1 (by omega) (by decide) (by decide) rfl rfl ?_
    refine aw_aload_n dX10_tell_50 rfl ?_
    refine aw_getr' (j := 3) dX10_tell_51 fX10_22 rfl (by assumption) rfl (by assumption) ?_
    refine aw_iload_n dX10_tell_54 rfl ?_
    refine aw_iald' dX10_tell_55 (by assumption) (by omega) (by first | decide | omega) a3 ?_
    exact aw_ireturn dX10_tell_56 rfl (Or.inl rfl) ⟨by rfl, rfl⟩
  | 3, _ =>
    refine aw_tableIn (off := 56) (tgt := 57) dX10_tell_1 (by omega) (by decide) (by decide) rfl rfl ?_
    refine aw_aload_n dX10_tell_57 rfl ?_
    refine aw_getr' (j := 5) dX10_tell_58 fX10_28 rfl (by assumption) rfl (by assumption) ?_
    refine aw_iload_n dX10_tell_61 rfl ?_
    refine aw_lald' dX10_tell_62 (by assumption) (by omega) (by first | decide | omega) a5 ?_
    refine aw_invS_r dX10_tell_63 sJ13_bitCount_95d88 kX10_71 rfl (c_bcS _) rfl rfl (by decide) (by decide) (by decide) (Nat.le_of_ble_eq_true rfl) ?_
    exact aw_ireturn dX10_tell_66 rfl (Or.inl rfl) ⟨by rfl, rfl⟩
  | 4, _ =>
    refine aw_tableIn (off := 66) (tgt := 67) dX10_tell_1 (by omega) (by decide) (by decide) rfl rfl ?_
    refine aw_aload_n dX10_tell_67 rfl ?_
    refine aw_getr' (j := 4) dX10_tell_68 fX10_25 rfl (by assumption) rfl (by assumption) ?_
    refine aw_iload_n dX10_tell_71 rfl ?_
    refine aw_iald' dX10_tell_72 (by assumption) (by omega) (by first | decide | omega) a4 ?_
    refine aw_iload_n dX10_tell_73 rfl ?_
    refine aw_isub dX10_tell_74 ?_
    exact aw_ireturn dX10_tell_75 rfl (Or.inl rfl) ⟨by rfl, rfl⟩
  | 5, _ =>
    refine aw_tableOut (tgt := 76) dX10_tell_1 (by omega) (Or.inr (by decide)) rfl ?_
    refine aw_aload_n dX10_tell_76 rfl ?_
    refine aw_getr' (j := 6) dX10_tell_77 fX10_32 rfl (by assumption) rfl (by assumption) ?_
    refine aw_iload_n dX10_tell_80 rfl ?_
    refine aw_lald' dX10_tell_81 (by assumption) (by omega) (by first | decide | omega) a6 ?_
    refine aw_invS_r dX10_tell_82 sJ13_bitCount_95d88 kX10_71 rfl (c_bcS _) rfl rfl (by decide) (by decide) (by decide) (Nat.le_of_ble_eq_true rfl) ?_
    exact aw_ireturn dX10_tell_85 rfl (Or.inl rfl) ⟨by rfl, rfl⟩
  | n + 6, hx => exact absurd hx (by omega)
theorem l_passing {γ : GG} {h : AH} {t : Nat} {T : Tr} {x : Int} (hT : isTr h t T) (ho : okTr T) (hx : 0 ≤ x ∧ x ≤ 9) : ∀ (m k : Nat), k + m = tn T → AW γ mX10_passing 1 0 0 20 [(4, vi (k : Int)), (2, vl (S9 (lim (fun j => decide (tnm T j = x)) k))), (0, vr (some t)), (1, vi x)] [] h (rV (vl (S9 (lim (fun j => decide (tnm T j = x)) (tn T)))) h) := by
  obtain ⟨hS, h0, hc⟩ := hT
  obtain ⟨hk, ⟨r1, k1⟩, ⟨r2, k2⟩, ⟨r3, k3⟩, ⟨r4, k4⟩, ⟨r5, k5⟩, ⟨r6, k6⟩, ⟨r7, k7⟩, ⟨r8, k8⟩, ⟨r9, k9⟩⟩ := hS
  obtain ⟨o1, o2, o3, o4, o5, o6⟩ := ho.o
  intro m
  induction m with
  | zero =>
    intro k hkm
    rw [show tn T = k by omega] at h0 ⊢
    refine aw_iload dX10_passing_20 rfl ?_
    refine aw_aload_n dX10_passing_22 rfl ?_
    refine aw_geti' (j := 0) dX10_passing_23 fX10_9 rfl (by assumption) rfl h0 ?_
    refine aw_ic_ge (tgt := 53) dX10_passing_26 rfl (by omega) (by omega) (fun c26 => ?_) (fun c26 => ?_)
    · refine aw_lload_n dX10_passing_53 rfl ?_
      exact aw_lreturn dX10_passing_54 rfl (Or.inl rfl) ⟨rfl, rfl⟩
    · exact absurd c26 (by omega)
  | succ m ih =>
    intro k hkm
    have cc := hc k (by omega)
    have oo := o3 k (by omega)
    have I := ih (k + 1) (by omega)
    by_cases q : tnm T k = x
    · rw [← lim_t (p := fun j => decide (tnm T j = x)) (show k < 40 by omega) (by simp [q])] at I
      refine aw_iload dX10_passing_20 rfl ?_
      refine aw_aload_n dX10_passing_22 rfl ?_
      refine aw_geti' (j := 0) dX10_passing_23 fX10_9 rfl (by assumption) rfl h0 ?_
      refine aw_ic_ge (tgt := 53) dX10_passing_26 rfl (by omega) (by omega) (fun c26 => ?_) (fun c26 => ?_)
      · exact absurd c26 (by omega)
      · refine aw_aload_n dX10_passing_29 rfl ?_
        refine aw_getr' (j := 1) dX10_passing_30 fX10_15 rfl (by assumption) rfl (by assumption) ?_
        refine aw_iload dX10_passing_33 rfl ?_
        refine aw_iald' dX10_passing_35 (by assumption) (by omega) (by first | decide | omega) cc.1 ?_
        refine aw_iload_n dX10_passing_36 rfl ?_
        refine aw_ic_ne (tgt := 47) dX10_passing_37 rfl (by omega) (by omega) (fun c37 => ?_) (fun c37 => ?_)
        · exact absurd c37 (by omega)
        · refine aw_lload_n dX10_passing_40 rfl ?_
          refine aw_lconst (v := 1) dX10_passing_41 rfl ?_
          refine aw_iload dX10_passing_42 rfl ?_
          refine aw_lshl (v := lN (2 ^ k)) dX10_passing_44 (sh1 (by omega) rfl) ?_
          refine aw_lor dX10_passing_45 ?_
          refine aw_lstore_n (ls1 := [(2, _), (4, _), (0, _), (1, _)]) dX10_passing_46 (by decide) rfl ?_
          refine aw_iinc (k9 := 1) (ls1 := [(4, _), (2, _), (0, _), (1, _)]) dX10_passing_47 rfl (by decide) rfl ?_
          refine aw_goto (tgt := 20) dX10_passing_50 rfl ?_
          refine aw_sub [0, 1, 2, 3] rfl ?_
          exact I
    · rw [← lim_f (p := fun j => decide (tnm T j = x)) (by simp [q])] at I
      refine aw_iload dX10_passing_20 rfl ?_
      refine aw_aload_n dX10_passing_22 rfl ?_
      refine aw_geti' (j := 0) dX10_passing_23 fX10_9 rfl (by assumption) rfl h0 ?_
      refine aw_ic_ge (tgt := 53) dX10_passing_26 rfl (by omega) (by omega) (fun c26 => ?_) (fun c26 => ?_)
      · exact absurd c26 (by omega)
      · refine aw_aload_n dX10_passing_29 rfl ?_
        refine aw_getr' (j := 1) dX10_passing_30 fX10_15 rfl (by assumption) rfl (by assumption) ?_
        refine aw_iload dX10_passing_33 rfl ?_
        refine aw_iald' dX10_passing_35 (by assumption) (by omega) (by first | decide | omega) cc.1 ?_
        refine aw_iload_n dX10_passing_36 rfl ?_
        refine aw_ic_ne (tgt := 47) dX10_passing_37 rfl (by omega) (by omega) (fun c37 => ?_) (fun c37 => ?_)
        · refine aw_iinc (k9 := 0) (ls1 := [(4, _), (2, _), (0, _), (1, _)]) dX10_passing_47 rfl (by decide) rfl ?_
          refine aw_goto (tgt := 20) dX10_passing_50 rfl ?_
          refine aw_sub [0, 1, 2, 3] rfl ?_
          exact I
        · exact absurd c37 (by omega)
def psS (T : Tr) (x : Int) : Nat → Bool := fun k => decide (k < tn T) && (decide (x = 8) || decide (tnm T k = x))
theorem c_passing {γ : GG} {h : AH} {t : Nat} {T : Tr} {x : Int} (hT : isTr h t T) (ho : okTr T) (hx : 0 ≤ x ∧ x ≤ 8) : Call γ mX10_passing 1 0 0 [vr (some t), vi x] h (rV (vl (S9 (psS T x))) h) := by
  have h0' := hT.2.1
  have n40 := ho.2.1
  have n40 : tn T ≤ 40 := n40
  have hk : kd h t = some (.inl 9) := hT.1.1
  by_cases q : x = 8
  · have e : S9 (rgS 0 (tn T)) = S9 (psS T x) := S9_cong (fun k _ => by unfold rgS psS; simp [q])
    rw [← e]
    refine Call.of (ls := [(0, vr (some t)), (1, vi x)]) vX10_passing.1 (Nat.le_of_ble_eq_true rfl) rfl ?_
    refine aw_iload_n dX10_passing_0 rfl ?_
    refine aw_bipush dX10_passing_1 rfl ?_
    refine aw_ic_ne (tgt := 15) dX10_passing_3 rfl (by omega) (by omega) (fun c3 => ?_) (fun c3 => ?_)
    · exact absurd c3 (by omega)
    · refine aw_iconst dX10_passing_6 ?_
      refine aw_aload_n dX10_passing_7 rfl ?_
      refine aw_geti' (j := 0) dX10_passing_8 fX10_9 rfl (by assumption) rfl h0' ?_
      refine aw_invS_r dX10_passing_11 sX10_range kX10_77 rfl (c_range (b := 0) (by omega) (by omega)) rfl rfl (by decide) (by decide) (by decide) (Nat.le_of_ble_eq_true rfl) ?_
      exact aw_lreturn dX10_passing_14 rfl (Or.inl rfl) ⟨rfl, rfl⟩
  · have e : S9 (lim (fun j => decide (tnm T j = x)) (tn T)) = S9 (psS T x) := S9_cong (fun k _ => by unfold lim psS; simp [q])
    rw [← e]
    have L := l_passing (γ := γ) (x := x) hT ho (by omega) (tn T) 0 (by omega)
    rw [lim_0] at L
    refine Call.of (ls := [(0, vr (some t)), (1, vi x)]) vX10_passing.1 (Nat.le_of_ble_eq_true rfl) rfl ?_
    refine aw_iload_n dX10_passing_0 rfl ?_
    refine aw_bipush dX10_passing_1 rfl ?_
    refine aw_ic_ne (tgt := 15) dX10_passing_3 rfl (by omega) (by omega) (fun c3 => ?_) (fun c3 => ?_)
    · refine aw_lconst (v := 0) dX10_passing_15 rfl ?_
      refine aw_lstore_n (ls1 := [(2, _), (0, _), (1, _)]) dX10_passing_16 (by decide) rfl ?_
      refine aw_iconst dX10_passing_17 ?_
      refine aw_istore (ls1 := [(4, _), (2, _), (0, _), (1, _)]) dX10_passing_18 (by decide) rfl ?_
      refine aw_sub [0, 1, 2, 3] rfl ?_
      exact L
    · exact absurd c3 (by omega)
theorem l_valued {γ : GG} {h : AH} {t : Nat} {T : Tr} {x : Int} (hT : isTr h t T) (ho : okTr T) (hx : 0 ≤ x ∧ x ≤ 9) : ∀ (m k : Nat), k + m = tn T → AW γ mX10_valued 0 0 0 5 [(4, vi (k : Int)), (2, vl (S9 (lim (fun j => decide (tvl T j = x)) k))), (0, vr (some t)), (1, vi x)] [] h (rV (vl (S9 (lim (fun j => decide (tvl T j = x)) (tn T)))) h) := by
  obtain ⟨hS, h0, hc⟩ := hT
  obtain ⟨hk, ⟨r1, k1⟩, ⟨r2, k2⟩, ⟨r3, k3⟩, ⟨r4, k4⟩, ⟨r5, k5⟩, ⟨r6, k6⟩, ⟨r7, k7⟩, ⟨r8, k8⟩, ⟨r9, k9⟩⟩ := hS
  obtain ⟨o1, o2, o3, o4, o5, o6⟩ := ho.o
  intro m
  induction m with
  | zero =>
    intro k hkm
    rw [show tn T = k by omega] at h0 ⊢
    refine aw_iload dX10_valued_5 rfl ?_
    refine aw_aload_n dX10_valued_7 rfl ?_
    refine aw_geti' (j := 0) dX10_valued_8 fX10_9 rfl (by assumption) rfl h0 ?_
    refine aw_ic_ge (tgt := 38) dX10_valued_11 rfl (by omega) (by omega) (fun c11 => ?_) (fun c11 => ?_)
    · refine aw_lload_n dX10_valued_38 rfl ?_
      exact aw_lreturn dX10_valued_39 rfl (Or.inl rfl) ⟨rfl, rfl⟩
    · exact absurd c11 (by omega)
  | succ m ih =>
    intro k hkm
    have cc := hc k (by omega)
    have oo := o3 k (by omega)
    have I := ih (k + 1) (by omega)
    by_cases q : tvl T k = x
    · rw [← lim_t (p := fun j => decide (tvl T j = x)) (show k < 40 by omega) (by simp [q])] at I
      refine aw_iload dX10_valued_5 rfl ?_
      refine aw_aload_n dX10_valued_7 rfl ?_
      refine aw_geti' (j := 0) dX10_valued_8 fX10_9 rfl (by assumption) rfl h0 ?_
      refine aw_ic_ge (tgt := 38) dX10_valued_11 rfl (by omega) (by omega) (fun c11 => ?_) (fun c11 => ?_)
      · exact absurd c11 (by omega)
      · refine aw_aload_n dX10_valued_14 rfl ?_
        refine aw_getr' (j := 2) dX10_valued_15 fX10_19 rfl (by assumption) rfl (by assumption) ?_
        refine aw_iload dX10_valued_18 rfl ?_
        refine aw_iald' dX10_valued_20 (by assumption) (by omega) (by first | decide | omega) cc.2.1 ?_
        refine aw_iload_n dX10_valued_21 rfl ?_
        refine aw_ic_ne (tgt := 32) dX10_valued_22 rfl (by omega) (by omega) (fun c22 => ?_) (fun c22 => ?_)
        · exact absurd c22 (by omega)
        · refine aw_lload_n dX10_valued_25 rfl ?_
          refine aw_lconst (v := 1) dX10_valued_26 rfl ?_
          refine aw_iload dX10_valued_27 rfl ?_
          refine aw_lshl (v := lN (2 ^ k)) dX10_valued_29 (sh1 (by omega) rfl) ?_
          refine aw_lor dX10_valued_30 ?_
          refine aw_lstore_n (ls1 := [(2, _), (4, _), (0, _), (1, _)]) dX10_valued_31 (by decide) rfl ?_
          refine aw_iinc (k9 := 1) (ls1 := [(4, _), (2, _), (0, _), (1, _)]) dX10_valued_32 rfl (by decide) rfl ?_
          refine aw_goto (tgt := 5) dX10_valued_35 rfl ?_
          refine aw_sub [0, 1, 2, 3] rfl ?_
          exact I
    · rw [← lim_f (p := fun j => decide (tvl T j = x)) (by simp [q])] at I
      refine aw_iload dX10_valued_5 rfl ?_
      refine aw_aload_n dX10_valued_7 rfl ?_
      refine aw_geti' (j := 0) dX10_valued_8 fX10_9 rfl (by assumption) rfl h0 ?_
      refine aw_ic_ge (tgt := 38) dX10_valued_11 rfl (by omega) (by omega) (fun c11 => ?_) (fun c11 => ?_)
      · exact absurd c11 (by omega)
      · refine aw_aload_n dX10_valued_14 rfl ?_
        refine aw_getr' (j := 2) dX10_valued_15 fX10_19 rfl (by assumption) rfl (by assumption) ?_
        refine aw_iload dX10_valued_18 rfl ?_
        refine aw_iald' dX10_valued_20 (by assumption) (by omega) (by first | decide | omega) cc.2.1 ?_
        refine aw_iload_n dX10_valued_21 rfl ?_
        refine aw_ic_ne (tgt := 32) dX10_valued_22 rfl (by omega) (by omega) (fun c22 => ?_) (fun c22 => ?_)
        · refine aw_iinc (k9 := 0) (ls1 := [(4, _), (2, _), (0, _), (1, _)]) dX10_valued_32 rfl (by decide) rfl ?_
          refine aw_goto (tgt := 5) dX10_valued_35 rfl ?_
          refine aw_sub [0, 1, 2, 3] rfl ?_
          exact I
        · exact absurd c22 (by omega)
theorem c_valued {γ : GG} {h : AH} {t : Nat} {T : Tr} {x : Int} (hT : isTr h t T) (ho : okTr T) (hx : 0 ≤ x ∧ x ≤ 9) : Call γ mX10_valued 0 0 0 [vr (some t), vi x] h (rV (vl (S9 (lim (fun j => decide (tvl T j = x)) (tn T)))) h) := by
  have L := l_valued (γ := γ) (x := x) hT ho hx (tn T) 0 (by omega)
  rw [lim_0] at L
  refine Call.of (ls := [(0, vr (some t)), (1, vi x)]) vX10_valued.1 (Nat.le_of_ble_eq_true rfl) rfl ?_
  refine aw_lconst (v := 0) dX10_valued_0 rfl ?_
  refine aw_lstore_n (ls1 := [(2, _), (0, _), (1, _)]) dX10_valued_1 (by decide) rfl ?_
  refine aw_iconst dX10_valued_2 ?_
  refine aw_istore (ls1 := [(4, _), (2, _), (0, _), (1, _)]) dX10_valued_3 (by decide) rfl ?_
  refine aw_sub [0, 1, 2, 3] rfl ?_
  exact L
