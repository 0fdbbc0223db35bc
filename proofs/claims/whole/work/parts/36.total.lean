/-! ===== Rewriter.total ===== -/
def sumU (u : Nat → Int) : Nat → Int
  | 0 => 0
  | k + 1 => sumU u k + u (k + 1)
theorem l_tot {γ : GG} {h : AH} {o : Nat} {u : Nat → Int} (hU : isU h o u) : ∀ (m k : Nat), k + m = 9 → AW γ mX6_total 0 0 0 4 [(0, vr (some o)), (1, vi (sumU u k)), (2, vi ((k : Int) + 1))] [] h (rV (vi (sumU u 9)) h) := by
  obtain ⟨uk, ur, uk1, uv⟩ := hU
  intro m
  induction m with
  | zero =>
    intro k hkm
    rw [show k = 9 by omega]
    refine aw_iload_n dX6_total_4 rfl ?_
    refine aw_bipush dX6_total_5 rfl ?_
    refine aw_ic_gt (tgt := 25) dX6_total_7 rfl (by omega) (by omega) (fun c7 => ?_) (fun c7 => ?_)
    · refine aw_iload_n dX6_total_25 rfl ?_
      exact aw_ireturn dX6_total_26 rfl (Or.inl rfl) ⟨rfl, rfl⟩
    · exact absurd c7 (by omega)
  | succ m ih =>
    intro k hkm
    have ih' := ih (k + 1) (by omega)
    rw [show ((k + 1 : Nat) : Int) = (k : Int) + 1 by omega] at ih'
    have g1 : gi h (o + 1) ((k : Int) + 1) = u (k + 1) := by
      have := uv (k + 1) (by omega) (by omega)
      rwa [show ((k + 1 : Nat) : Int) = (k : Int) + 1 by omega] at this
    refine aw_iload_n dX6_total_4 rfl ?_
    refine aw_bipush dX6_total_5 rfl ?_
    refine aw_ic_gt (tgt := 25) dX6_total_7 rfl (by omega) (by omega) (fun c7 => ?_) (fun c7 => ?_)
    · exact absurd c7 (by omega)
    · refine aw_iload_n dX6_total_10 rfl ?_
      refine aw_aload_n dX6_total_11 rfl ?_
      refine aw_getr' (j := 0) dX6_total_12 fX6_9 rfl (by assumption) rfl (by assumption) ?_
      refine aw_iload_n dX6_total_15 rfl ?_
      refine aw_iald' dX6_total_16 (by assumption) (by omega) (by first | decide | omega) g1 ?_
      refine aw_iadd dX6_total_17 ?_
      refine aw_istore_n (ls1 := [(1, _), (0, _), (2, _)]) dX6_total_18 (by decide) rfl ?_
      refine aw_iinc (k9 := 2) (ls1 := [(2, _), (1, _), (0, _)]) dX6_total_19 rfl (by decide) rfl ?_
      refine aw_goto (tgt := 4) dX6_total_22 rfl ?_
      refine aw_sub [2, 1, 0] rfl ?_
      exact ih'
theorem c_tot {γ : GG} {h : AH} {o : Nat} {u : Nat → Int} (hU : isU h o u) : Call γ mX6_total 0 0 0 [vr (some o)] h (rV (vi (sumU u 9)) h) := by
  have K := l_tot (γ := γ) hU 9 0 (by omega)
  refine Call.of (ls := [(0, vr (some o))]) vX6_total.1 (Nat.le_of_ble_eq_true rfl) rfl ?_
  refine aw_iconst dX6_total_0 ?_
  refine aw_istore_n (ls1 := [(1, _), (0, _)]) dX6_total_1 (by decide) rfl ?_
  refine aw_iconst dX6_total_2 ?_
  refine aw_istore_n (ls1 := [(2, _), (1, _), (0, _)]) dX6_total_3 (by decide) rfl ?_
  refine aw_sub [2, 1, 0] rfl ?_
  exact K
