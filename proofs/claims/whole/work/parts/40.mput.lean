/-! ===== the model: put and take ===== -/
def mHere (h : AH) (a : Nat) : Int := if gi h a 11 < gi h a 10 then gi h (a + 6) (gi h a 11) else -1
theorem m_takes {γ : GG} {h : AH} {a : Nat} {c : Int} (hM : shM h a) (hl : 0 ≤ gi h a 11 ∧ gi h a 11 ≤ 400 ∧ 0 ≤ gi h a 10 ∧ gi h a 10 ≤ 400) (hc : -2147483648 ≤ c ∧ c ≤ 2147483647) (hb : -2147483648 ≤ mHere h a ∧ mHere h a ≤ 2147483647) : Call γ mX12_takes 1 0 0 [vr (some a), vi c] h (rV (vi (if mHere h a = c then 1 else 0)) (si h a 11 (gi h a 11 + (if mHere h a = c then 1 else 0)))) := by
  have K := m_here (γ := γ) hM hl
  change Call γ mX12_here 0 0 0 [vr (some a)] h (rV (vi (mHere h a)) h) at K
  obtain ⟨hk, ⟨rm, km⟩, ⟨rv, kv⟩, ⟨rx, kx⟩, ⟨rb, kb⟩, ⟨rl, kl⟩, ⟨rs, ks⟩, ⟨rq, kq⟩, ⟨ro, ko⟩, ⟨rz, kz⟩, ⟨rf, kf⟩, ⟨rt, kt⟩, ⟨rn, kn⟩, ⟨rF, kF⟩, ⟨rT, kT⟩, ⟨rS, kS⟩, ⟨rE, kE⟩, ⟨ru, ku⟩⟩ := hM
  by_cases q : mHere h a = c
  · rw [if_pos q]
    refine Call.of (ls := [(0, vr (some a)), (1, vi c)]) vX12_takes.1 (Nat.le_of_ble_eq_true rfl) rfl ?_
    refine aw_aload_n dX12_takes_0 rfl ?_
    refine aw_invV_r dX12_takes_1 vX12_here kX12_137 rfl (K) ⟨_, (by assumption), _, _, rfl⟩ rfl rfl (by decide) (by decide) (by decide) (Nat.le_of_ble_eq_true rfl) ?_
    refine aw_iload_n dX12_takes_4 rfl ?_
    refine aw_ic_ne (tgt := 12) dX12_takes_5 rfl (by omega) (by omega) (fun c5 => ?_) (fun c5 => ?_)
    · exact absurd c5 (by omega)
    · refine aw_iconst dX12_takes_8 ?_
      refine aw_goto (tgt := 13) dX12_takes_9 rfl ?_
      refine aw_istore_n (ls1 := [(2, _), (0, _), (1, _)]) dX12_takes_13 (by decide) rfl ?_
      refine aw_aload_n dX12_takes_14 rfl ?_
      refine aw_dup dX12_takes_15 rfl ?_
      refine aw_geti' (j := 11) dX12_takes_16 fX12_131 rfl (by assumption) rfl rfl ?_
      refine aw_iload_n dX12_takes_19 rfl ?_
      refine aw_if_eq (tgt := 27) dX12_takes_20 rfl (by omega) (fun c20 => ?_) (fun c20 => ?_)
      · exact absurd c20 (by omega)
      · refine aw_iconst dX12_takes_23 ?_
        refine aw_goto (tgt := 28) dX12_takes_24 rfl ?_
        refine aw_iadd dX12_takes_28 ?_
        refine aw_puti' (j := 11) rfl dX12_takes_29 fX12_131 (by assumption) rfl ?_
        refine aw_iload_n dX12_takes_32 rfl ?_
        exact aw_zreturn dX12_takes_33 rfl (by omega) (Or.inl rfl) ⟨rfl, rfl⟩
  · rw [if_neg q]
    refine Call.of (ls := [(0, vr (some a)), (1, vi c)]) vX12_takes.1 (Nat.le_of_ble_eq_true rfl) rfl ?_
    refine aw_aload_n dX12_takes_0 rfl ?_
    refine aw_invV_r dX12_takes_1 vX12_here kX12_137 rfl (K) ⟨_, (by assumption), _, _, rfl⟩ rfl rfl (by decide) (by decide) (by decide) (Nat.le_of_ble_eq_true rfl) ?_
    refine aw_iload_n dX12_takes_4 rfl ?_
    refine aw_ic_ne (tgt := 12) dX12_takes_5 rfl (by omega) (by omega) (fun c5 => ?_) (fun c5 => ?_)
    · refine aw_iconst dX12_takes_12 ?_
      refine aw_istore_n (ls1 := [(2, _), (0, _), (1, _)]) dX12_takes_13 (by decide) rfl ?_
      refine aw_aload_n dX12_takes_14 rfl ?_
      refine aw_dup dX12_takes_15 rfl ?_
      refine aw_geti' (j := 11) dX12_takes_16 fX12_131 rfl (by assumption) rfl rfl ?_
      refine aw_iload_n dX12_takes_19 rfl ?_
      refine aw_if_eq (tgt := 27) dX12_takes_20 rfl (by omega) (fun c20 => ?_) (fun c20 => ?_)
      · refine aw_iconst dX12_takes_27 ?_
        refine aw_iadd dX12_takes_28 ?_
        refine aw_puti' (j := 11) rfl dX12_takes_29 fX12_131 (by assumption) rfl ?_
        refine aw_iload_n dX12_takes_32 rfl ?_
        exact aw_zreturn dX12_takes_33 rfl (by omega) (Or.inl rfl) ⟨rfl, rfl⟩
      · exact absurd c20 (by omega)
    · exact absurd c5 (by omega)
def mput (a : Nat) (h : AH) (c : Int) : AH := si (si h (a + 8) (gi h a 14) c) a 14 (gi h a 14 + 1)
def mputs (a : Nat) (h : AH) (l : List Int) : AH := l.foldl (mput a) h
theorem mputs_app (a : Nat) (h : AH) (l m : List Int) : mputs a h (l ++ m) = mputs a (mputs a h l) m := List.foldl_append
theorem mputs_one (a : Nat) (h : AH) (c : Int) : mputs a h [c] = mput a h c := rfl
theorem gi_mputs_len (a : Nat) : ∀ (l : List Int) (h : AH), gi (mputs a h l) a 14 = gi h a 14 + l.length := by
  intro l
  induction l with
  | nil => intro h; simp [mputs]
  | cons c l ih =>
    intro h
    show gi (mputs a (mput a h c) l) a 14 = _
    rw [ih]
    show gi (si _ a 14 _) a 14 + _ = _
    rw [gi_at rfl rfl]
    simp
    omega
