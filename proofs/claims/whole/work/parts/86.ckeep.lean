/-! ===== Evaluator: keep ===== -/
def agF (T : Tr) (s : TS) (g : Nat → Bool) (f n k : Nat) : Bool := g k && allN (fun m => hoO T s.1.1 (cAt s.2 (f + m)) g k) n
def kpR (T : Tr) (s : TS) (g : Nat → Bool) (i n k : Nat) : Bool := anyN (fun j => (cAt s.2 (9 * i + 3 * j)).isSome && agF T s g (9 * i + 3 * j) 3 k) n
theorem ag_s (T : Tr) (s : TS) (g : Nat → Bool) (f m : Nat) : S9 (agF T s g f m) &&& S9 (fun j => g j && hoO T s.1.1 (cAt s.2 (f + m)) g j) = S9 (agF T s g f (m + 1)) := by
  rw [S9_and]
  refine S9_cong (fun k _ => ?_)
  unfold agF
  simp only [allN]
  cases g k <;> simp
theorem ag_0 (T : Tr) (s : TS) (g : Nat → Bool) (f : Nat) : S9 g = S9 (agF T s g f 0) := S9_cong (fun k _ => by unfold agF; simp [allN])
theorem kp_t {T : Tr} {s : TS} {g : Nat → Bool} {i j : Nat} (hc : (cAt s.2 (9 * i + 3 * j)).isSome = true) : S9 (kpR T s g i j) ||| S9 (agF T s g (9 * i + 3 * j) 3) = S9 (kpR T s g i (j + 1)) := by
  rw [S9_or]
  refine S9_cong (fun k _ => ?_)
  unfold kpR
  simp only [anyN]
  rw [hc, Bool.true_and]
theorem kp_f {T : Tr} {s : TS} {g : Nat → Bool} {i j : Nat} (hc : cAt s.2 (9 * i + 3 * j) = none) : S9 (kpR T s g i j) = S9 (kpR T s g i (j + 1)) := by
  refine S9_cong (fun k _ => ?_)
  unfold kpR
  simp only [anyN]
  rw [hc]
  simp
theorem kp_0 (T : Tr) (s : TS) (g : Nat → Bool) (i : Nat) : S9 (kpR T s g i 0) = 0 := by
  rw [S9_0]
  exact S9_cong (fun k _ => rfl)
theorem l_k40 {γ : GG} {h : AH} {e a i : Nat} {T : Tr} {s : TS} {g : Nat → Bool} {f q : Nat} {z : Int64} {Q : AR → AH → Prop} (hE : shE h e) (hS : isS h a s) (hs : okS s) (hA : ∀ k c, cAt s.2 k = some c → gl h (e + 2) k = S9 (nfS T c)) (hf : f + 2 < 27) (kk : AW γ mX1_keep 3 0 0 68 [(9, vl (S9 (agF T s g f 3))), (8, vi (f : Int)), (7, vi (q : Int)), (5, vl z), (0, vr (some e)), (1, vr (some a)), (2, vi (i : Int)), (3, vl (S9 g))] [] h Q) : ∀ (n m : Nat), m + n = 3 → AW γ mX1_keep 3 0 0 40 [(11, vi ((f + m : Nat) : Int)), (9, vl (S9 (agF T s g f m))), (8, vi (f : Int)), (7, vi (q : Int)), (5, vl z), (0, vr (some e)), (1, vr (some a)), (2, vi (i : Int)), (3, vl (S9 g))] [] h Q := by
  intro n
  induction n with
  | zero =>
    intro m hm
    obtain rfl : m = 3 := by omega
    refine aw_iload dX1_keep_40 rfl ?_
    refine aw_iload dX1_keep_42 rfl ?_
    refine aw_iconst dX1_keep_44 ?_
    refine aw_iadd dX1_keep_45 ?_
    refine aw_ic_ge (tgt := 68) dX1_keep_46 rfl (by omega) (by omega) (fun c46 => ?_) (fun c46 => ?_)
    · refine aw_sub [1, 2, 3, 4, 5, 6, 7, 8] rfl ?_
      exact kk
    · exact absurd c46 (by omega)
  | succ n ih =>
    intro m hm
    have CH := c_holding (γ := γ) (k := f + m) (g := g) (T := T) hE hS hs (by omega) (fun c hc => hA _ c hc)
    have k0 := hE.1
    have I := ih (m + 1) (by omega)
    refine aw_iload dX1_keep_40 rfl ?_
    refine aw_iload dX1_keep_42 rfl ?_
    refine aw_iconst dX1_keep_44 ?_
    refine aw_iadd dX1_keep_45 ?_
    refine aw_ic_ge (tgt := 68) dX1_keep_46 rfl (by omega) (by omega) (fun c46 => ?_) (fun c46 => ?_)
    · exact absurd c46 (by omega)
    · refine aw_lload dX1_keep_49 rfl ?_
      refine aw_aload_n dX1_keep_51 rfl ?_
      refine aw_aload_n dX1_keep_52 rfl ?_
      refine aw_iload dX1_keep_53 rfl ?_
      refine aw_lload_n dX1_keep_55 rfl ?_
      refine aw_invV_r dX1_keep_56 vX1_holding kX1_124 rfl (CH) ⟨_, (by assumption), _, _, rfl⟩ rfl rfl (by decide) (by decide) (by decide) (Nat.le_of_ble_eq_true rfl) ?_
      refine aw_land dX1_keep_59 ?_
      rw [ag_s]
      refine aw_lstore (ls1 := [(9, _), (11, _), (8, _), (7, _), (5, _), (0, _), (1, _), (2, _), (3, _)]) dX1_keep_60 (by decide) rfl ?_
      refine aw_iinc (k9 := 1) (ls1 := [(11, _), (9, _), (8, _), (7, _), (5, _), (0, _), (1, _), (2, _), (3, _)]) dX1_keep_62 rfl (by decide) rfl ?_
      rw [show ((f + m : Nat) : Int) + 1 = ((f + (m + 1) : Nat) : Int) by omega]
      refine aw_goto (tgt := 40) dX1_keep_65 rfl ?_
      refine aw_sub [0, 1, 2, 3, 4, 5, 6, 7, 8] rfl ?_
      exact I
theorem l_k17 {γ : GG} {h : AH} {e a i : Nat} {T : Tr} {s : TS} {g : Nat → Bool} (hE : shE h e) (hS : isS h a s) (hs : okS s) (hA : ∀ k c, cAt s.2 k = some c → gl h (e + 2) k = S9 (nfS T c)) (hi : i < 3) : ∀ (n j : Nat), j + n = 3 → AW γ mX1_keep 3 0 0 17 [(8, vi ((9 * i + 3 * j : Nat) : Int)), (7, vi ((9 * i + 9 : Nat) : Int)), (5, vl (S9 (kpR T s g i j))), (0, vr (some e)), (1, vr (some a)), (2, vi (i : Int)), (3, vl (S9 g))] [] h (rV (vl (S9 (kpR T s g i 3))) h) := by
  intro n
  induction n with
  | zero =>
    intro j hj
    obtain rfl : j = 3 := by omega
    refine aw_iload dX1_keep_17 rfl ?_
    refine aw_iload dX1_keep_19 rfl ?_
    refine aw_ic_ge (tgt := 81) dX1_keep_21 rfl (by omega) (by omega) (fun c21 => ?_) (fun c21 => ?_)
    · refine aw_lload dX1_keep_81 rfl ?_
      exact aw_lreturn dX1_keep_83 rfl (Or.inl rfl) ⟨rfl, rfl⟩
    · exact absurd c21 (by omega)
  | succ n ih =>
    intro j hj
    obtain ⟨hSh, s0, s1, s2, s3⟩ := hS
    have CC := c_cAt (γ := γ) (k := ((9 * i + 3 * j : Nat) : Int)) hSh (by omega)
    rw [if_pos (by omega), s3 _ (by omega), slotv_so] at CC
    have hS : isS h a s := ⟨hSh, s0, s1, s2, s3⟩
    have ka := hSh.1
    have I := ih (j + 1) (by omega)
    cases hc : cAt s.2 (9 * i + 3 * j) with
    | none =>
      rw [hc] at CC
      have CC : Call γ mX8_conditionAt 0 0 0 [vr (some a), vi ((9 * i + 3 * j : Nat) : Int)] h (rV (vi 0) h) := CC
      rw [← kp_f hc] at I
      refine aw_iload dX1_keep_17 rfl ?_
      refine aw_iload dX1_keep_19 rfl ?_
      refine aw_ic_ge (tgt := 81) dX1_keep_21 rfl (by omega) (by omega) (fun c21 => ?_) (fun c21 => ?_)
      · exact absurd c21 (by omega)
      · refine aw_aload_n dX1_keep_24 rfl ?_
        refine aw_iload dX1_keep_25 rfl ?_
        refine aw_invV_r dX1_keep_27 vX8_conditionAt kX1_121 rfl (CC) ⟨_, (by assumption), _, _, rfl⟩ rfl rfl (by decide) (by decide) (by decide) (Nat.le_of_ble_eq_true rfl) ?_
        refine aw_if_eq (tgt := 75) dX1_keep_30 rfl (by omega) (fun c30 => ?_) (fun c30 => ?_)
        · refine aw_iinc (k9 := 0) (ls1 := [(8, _), (7, _), (5, _), (0, _), (1, _), (2, _), (3, _)]) dX1_keep_75 rfl (by decide) rfl ?_
          rw [show ((9 * i + 3 * j : Nat) : Int) + 3 = ((9 * i + 3 * (j + 1) : Nat) : Int) by omega]
          refine aw_goto (tgt := 17) dX1_keep_78 rfl ?_
          refine aw_sub [0, 1, 2, 3, 4, 5, 6] rfl ?_
          exact I
        · exact absurd c30 (by omega)
    | some c =>
      rw [hc] at CC
      have CC : Call γ mX8_conditionAt 0 0 0 [vr (some a), vi ((9 * i + 3 * j : Nat) : Int)] h (rV (vi (pk c)) h) := CC
      have bd := pk_bd (cAt_ok hs.2.2 hc).1
      rw [← kp_t (by rw [hc]; rfl)] at I
      have L := l_k40 (γ := γ) (i := i) (T := T) (g := g) (f := 9 * i + 3 * j) (q := 9 * i + 9) (z := S9 (kpR T s g i j)) (Q := rV (vl (S9 (kpR T s g i 3))) h) hE hS hs hA (by omega) (by
        refine aw_lload dX1_keep_68 rfl ?_
        refine aw_lload dX1_keep_70 rfl ?_
        refine aw_lor dX1_keep_72 ?_
        refine aw_lstore (ls1 := [(5, _), (9, _), (8, _), (7, _), (0, _), (1, _), (2, _), (3, _)]) dX1_keep_73 (by decide) rfl ?_
        refine aw_iinc (k9 := 2) (ls1 := [(8, _), (5, _), (9, _), (7, _), (0, _), (1, _), (2, _), (3, _)]) dX1_keep_75 rfl (by decide) rfl ?_
        rw [show ((9 * i + 3 * j : Nat) : Int) + 3 = ((9 * i + 3 * (j + 1) : Nat) : Int) by omega]
        refine aw_goto (tgt := 17) dX1_keep_78 rfl ?_
        refine aw_sub [0, 3, 1, 4, 5, 6, 7] rfl ?_
        exact I) 3 0 (by omega)
      rw [← ag_0] at L
      refine aw_iload dX1_keep_17 rfl ?_
      refine aw_iload dX1_keep_19 rfl ?_
      refine aw_ic_ge (tgt := 81) dX1_keep_21 rfl (by omega) (by omega) (fun c21 => ?_) (fun c21 => ?_)
      · exact absurd c21 (by omega)
      · refine aw_aload_n dX1_keep_24 rfl ?_
        refine aw_iload dX1_keep_25 rfl ?_
        refine aw_invV_r dX1_keep_27 vX8_conditionAt kX1_121 rfl (CC) ⟨_, (by assumption), _, _, rfl⟩ rfl rfl (by decide) (by decide) (by decide) (Nat.le_of_ble_eq_true rfl) ?_
        refine aw_if_eq (tgt := 75) dX1_keep_30 rfl (by omega) (fun c30 => ?_) (fun c30 => ?_)
        · exact absurd c30 (by omega)
        · refine aw_lload_n dX1_keep_33 rfl ?_
          refine aw_lstore (ls1 := [(9, _), (8, _), (7, _), (5, _), (0, _), (1, _), (2, _), (3, _)]) dX1_keep_34 (by decide) rfl ?_
          refine aw_iload dX1_keep_36 rfl ?_
          refine aw_istore (ls1 := [(11, _), (9, _), (8, _), (7, _), (5, _), (0, _), (1, _), (2, _), (3, _)]) dX1_keep_38 (by decide) rfl ?_
          refine aw_sub [0, 1, 2, 3, 4, 5, 6, 7, 8] rfl ?_
          exact L
theorem c_keep {γ : GG} {h : AH} {e a i : Nat} {T : Tr} {s : TS} {g : Nat → Bool} (hE : shE h e) (hS : isS h a s) (hs : okS s) (hA : ∀ k c, cAt s.2 k = some c → gl h (e + 2) k = S9 (nfS T c)) (hi : i < 3) : Call γ mX1_keep 3 0 0 [vr (some e), vr (some a), vi (i : Int), vl (S9 g)] h (rV (vl (S9 (kpR T s g i 3))) h) := by
  have L := l_k17 (γ := γ) (T := T) (g := g) hE hS hs hA hi 3 0 (by omega)
  rw [kp_0] at L
  refine Call.of (ls := [(0, vr (some e)), (1, vr (some a)), (2, vi (i : Int)), (3, vl (S9 g))]) vX1_keep.1 (Nat.le_of_ble_eq_true rfl) rfl ?_
  refine aw_lconst (v := 0) dX1_keep_0 rfl ?_
  refine aw_lstore (ls1 := [(5, _), (0, _), (1, _), (2, _), (3, _)]) dX1_keep_1 (by decide) rfl ?_
  refine aw_iload_n dX1_keep_3 rfl ?_
  refine aw_iconst dX1_keep_4 ?_
  refine aw_iadd dX1_keep_5 ?_
  refine aw_bipush dX1_keep_6 rfl ?_
  refine aw_imul dX1_keep_8 ?_
  rw [show ((i : Int) + 1) * 9 = ((9 * i + 9 : Nat) : Int) by omega]
  refine aw_istore (ls1 := [(7, _), (5, _), (0, _), (1, _), (2, _), (3, _)]) dX1_keep_9 (by decide) rfl ?_
  refine aw_iload_n dX1_keep_11 rfl ?_
  refine aw_bipush dX1_keep_12 rfl ?_
  refine aw_imul dX1_keep_14 ?_
  rw [show (i : Int) * 9 = ((9 * i + 3 * 0 : Nat) : Int) by omega]
  refine aw_istore (ls1 := [(8, _), (7, _), (5, _), (0, _), (1, _), (2, _), (3, _)]) dX1_keep_15 (by decide) rfl ?_
  refine aw_sub [0, 1, 2, 3, 4, 5, 6] rfl ?_
  exact L
