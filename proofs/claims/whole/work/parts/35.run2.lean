/-! ===== Rewriter.run, further ===== -/
def rwT (t : TT) : TT := (t.1, (rwF 1000 t.2).2)
def rwC (t : TT) : List Int := (rwF 1000 t.2).1
def runP : Nat → Nat → TQ → (Nat → Int) → TQ × (Nat → Int)
  | 0, _, q, u => (q, u)
  | m + 1, k, q, u => match q[k]? with
    | none => (q, u)
    | some t => runP m (k + 1) (q.set k (rwT t)) (addU (rwC t) u)
def rmD : Nat → TQ → (Nat → Int) → TQ × (Nat → Int)
  | 0, q, u => (q, u)
  | p + 1, q, u => match q[p + 1]? with
    | none => (q, u)
    | some t => if (q.take (p + 1)).any (fun x => t_dT x t) = true then rmD p (q.eraseIdx (p + 1)) (inc u 9) else rmD p q u
def rwQ (q : TQ) : TQ × (Nat → Int) := rmD ((runP q.length 0 q (fun _ => 0)).1.length - 1) (runP q.length 0 q (fun _ => 0)).1 (runP q.length 0 q (fun _ => 0)).2
theorem runP_len : ∀ (m k : Nat) (q : TQ) (u : Nat → Int), (runP m k q u).1.length = q.length := by
  intro m
  induction m with
  | zero => intro k q u; rfl
  | succ m ih =>
    intro k q u
    simp only [runP]
    cases q[k]? with
    | none => rfl
    | some t => dsimp only; rw [ih, List.length_set]
theorem okQ_er {q : TQ} (ho : okQ q) {i : Nat} (hi : i < q.length) : okQ (q.eraseIdx i) := by
  have := List.length_eraseIdx_of_lt hi
  exact ⟨by have := ho.1; omega, fun x hx => ho.2 x (List.mem_of_mem_eraseIdx hx)⟩
theorem l_run2 {γ : GG} {h : AH} {o b : Nat} {π : Nat → Nat} {Q : AR → AH → Prop} (hob : b + 74 ≤ o ∨ o + 2 ≤ b) : ∀ (m k : Nat) (H : AH) (u : Nat → Int) (ρ : Nat → Nat → Nat) (q : TQ), k + m = q.length → isU H o u → isQ H b π ρ q → okQ q → fr2 h H b o → (∀ (H' : AH) (ρ' : Nat → Nat → Nat), isU H' o (runP m k q u).2 → isQ H' b π ρ' (runP m k q u).1 → okQ (runP m k q u).1 → fr2 h H' b o → AW γ mX6_run 6 0 0 81 [(0, vr (some o)), (1, vr (some b))] [] H' Q) → AW γ mX6_run 6 0 0 10 [(0, vr (some o)), (1, vr (some b)), (2, vi (k : Int))] [] H Q := by
  intro m
  induction m with
  | zero =>
    intro k H u ρ q hkm hU hQ ho hF kk
    have K := kk H ρ hU hQ ho hF
    obtain ⟨⟨hk, hr, hk1, hπ, hrf, hst⟩, h0, hl4, hss⟩ := hQ
    refine aw_iload_n dX6_run_10 rfl ?_
    refine aw_aload_n dX6_run_11 rfl ?_
    refine aw_geti' (j := 0) dX6_run_12 fX6_21 rfl (by assumption) rfl h0 ?_
    refine aw_ic_ge (tgt := 81) dX6_run_15 rfl (by omega) (by omega) (fun c15 => ?_) (fun c15 => ?_)
    · refine aw_sub [0, 1] rfl ?_
      exact K
    · exact absurd c15 (by omega)
  | succ m ih =>
    intro k H u ρ q hkm hU hQ ho hF kk
    obtain ⟨t, ht⟩ : ∃ t, q[k]? = some t := ⟨_, List.getElem?_eq_getElem (by omega)⟩
    have hw := ho.2 t (List.mem_of_getElem? ht)
    have hmu := mu_le hw
    simp only [runP, ht] at kk
    have K := l_run1 (γ := γ) (h := h) (Q := Q) (k := k) hob 1000 0 H u ρ q t (by omega) (by omega) hU hQ ho ht hF (fun H' ρ' a1 a2 a3 a4 => by
      have ih' := ih (k + 1) H' _ ρ' _ (by rw [List.length_set]; omega) a1 a2 a3 a4 kk
      refine aw_iinc (k9 := 2) (ls1 := [(2, _), (0, _), (1, _)]) dX6_run_75 rfl (by decide) rfl ?_
      refine aw_goto (tgt := 10) dX6_run_78 rfl ?_
      refine aw_sub [1, 2, 0] rfl ?_
      exact ih')
    obtain ⟨⟨hk, hr, hk1, hπ, hrf, hst⟩, h0, hl4, hss⟩ := hQ
    refine aw_iload_n dX6_run_10 rfl ?_
    refine aw_aload_n dX6_run_11 rfl ?_
    refine aw_geti' (j := 0) dX6_run_12 fX6_21 rfl (by assumption) rfl h0 ?_
    refine aw_ic_ge (tgt := 81) dX6_run_15 rfl (by omega) (by omega) (fun c15 => ?_) (fun c15 => ?_)
    · exact absurd c15 (by omega)
    · refine aw_iconst dX6_run_18 ?_
      refine aw_istore_n (ls1 := [(3, _), (0, _), (1, _), (2, _)]) dX6_run_19 (by decide) rfl ?_
      refine aw_iconst dX6_run_20 ?_
      refine aw_istore (ls1 := [(4, _), (3, _), (0, _), (1, _), (2, _)]) dX6_run_21 (by decide) rfl ?_
      refine aw_sub [2, 3, 4, 1, 0] rfl ?_
      exact K
theorem l_run3 {γ : GG} {h : AH} {o b : Nat} (hob : b + 74 ≤ o ∨ o + 2 ≤ b) : ∀ (p : Nat) (H : AH) (u : Nat → Int) (π : Nat → Nat) (ρ : Nat → Nat → Nat) (q : TQ), p < q.length → isU H o u → isQ H b π ρ q → okQ q → fr2 h H b o → AW γ mX6_run 6 0 0 88 [(0, vr (some o)), (1, vr (some b)), (2, vi (p : Int))] [] H (rF (fun h' => ∃ π' ρ', isU h' o (rmD p q u).2 ∧ isQ h' b π' ρ' (rmD p q u).1 ∧ okQ (rmD p q u).1 ∧ fr2 h h' b o)) := by
  intro p
  induction p with
  | zero =>
    intro H u π ρ q hp hU hQ ho hF
    refine aw_iload_n dX6_run_88 rfl ?_
    refine aw_if_le (tgt := 122) dX6_run_89 rfl (by decide) (fun c89 => ?_) (fun c89 => ?_)
    · exact aw_return dX6_run_122 rfl (Or.inl rfl) ⟨rfl, π, ρ, hU, hQ, ho, hF⟩
    · exact absurd c89 (by omega)
  | succ p ih =>
    intro H u π ρ q hp hU hQ ho hF
    obtain ⟨t, ht⟩ : ∃ t, q[p + 1]? = some t := ⟨_, List.getElem?_eq_getElem hp⟩
    have hl4' := ho.1
    have K := c_qrep (γ := γ) hQ hp ht ho
    by_cases q9 : (q.take (p + 1)).any (fun x => t_dT x t) = true
    · rw [if_pos q9] at K
      simp only [rmD, ht]
      rw [if_pos q9]
      have K2 := c_qrm (γ := γ) hQ hp
      obtain ⟨d1, d2⟩ := isQ_rm hQ hp
      have hle := List.length_eraseIdx_of_lt hp
      generalize hRmQ H b (p + 1) (q.length - 1) (b + 2 + 18 * π (p + 1)) = H1 at K2 d1 d2
      have hU1 := hU.eq (d2.2 o (by omega)) (d2.2 (o + 1) (by omega))
      have hne : ∀ c, c ≠ o + 1 → eqA H1 (si H1 (o + 1) 9 (gi H1 (o + 1) 9 + 1)) c := fun c hc => eqA.si (fun z => hc z)
      have ih' := ih (si H1 (o + 1) 9 (gi H1 (o + 1) 9 + 1)) (inc u 9) _ ρ (q.eraseIdx (p + 1)) (by omega) (hU1.inc rfl (by omega) rfl) (d1.eq (fun c c1 c2 => hne c (by omega))) (okQ_er ho hp) ((hF.q d2 (by omega)).u)
      rw [show (p : Int) = ((p + 1 : Nat) : Int) + -1 by omega] at ih'
      have kb := hQ.1.1
      obtain ⟨uk, ur, uk1, uv⟩ := hU1
      refine aw_iload_n dX6_run_88 rfl ?_
      refine aw_if_le (tgt := 122) dX6_run_89 rfl (by omega) (fun c89 => ?_) (fun c89 => ?_)
      · exact absurd c89 (by omega)
      · refine aw_aload_n dX6_run_92 rfl ?_
        refine aw_iload_n dX6_run_93 rfl ?_
        refine aw_invV_r dX6_run_94 vX5_isRepeated kX6_35 rfl (K) ⟨_, (by assumption), _, _, rfl⟩ rfl rfl (by decide) (by decide) (by decide) (Nat.le_of_ble_eq_true rfl) ?_
        refine aw_if_eq (tgt := 116) dX6_run_97 rfl (by omega) (fun c97 => ?_) (fun c97 => ?_)
        · exact absurd c97 (by omega)
        · refine aw_aload_n dX6_run_100 rfl ?_
          refine aw_iload_n dX6_run_101 rfl ?_
          refine aw_invV_n dX6_run_102 vX5_removePath kX6_39 rfl (K2) ⟨_, (by assumption), _, _, rfl⟩ rfl rfl (by decide) (by decide) (by decide) (Nat.le_of_ble_eq_true rfl) ?_
          refine aw_aload_n dX6_run_105 rfl ?_
          refine aw_getr' (j := 0) dX6_run_106 fX6_9 rfl (by assumption) rfl (by assumption) ?_
          refine aw_bipush dX6_run_109 rfl ?_
          refine aw_dup2 dX6_run_111 rfl rfl ?_
          refine aw_iald' dX6_run_112 (by assumption) (by omega) (by first | decide | omega) rfl ?_
          refine aw_iconst dX6_run_113 ?_
          refine aw_iadd dX6_run_114 ?_
          refine aw_iast dX6_run_115 (by assumption) (by omega) (by first | decide | omega) ?_
          refine aw_iinc (k9 := 2) (ls1 := [(2, _), (0, _), (1, _)]) dX6_run_116 rfl (by decide) rfl ?_
          refine aw_goto (tgt := 88) dX6_run_119 rfl ?_
          refine aw_sub [1, 2, 0] rfl ?_
          exact ih'
    · rw [if_neg q9] at K
      simp only [rmD, ht]
      rw [if_neg q9]
      have ih' := ih H u π ρ q (by omega) hU hQ ho hF
      rw [show (p : Int) = ((p + 1 : Nat) : Int) + -1 by omega] at ih'
      have kb := hQ.1.1
      refine aw_iload_n dX6_run_88 rfl ?_
      refine aw_if_le (tgt := 122) dX6_run_89 rfl (by omega) (fun c89 => ?_) (fun c89 => ?_)
      · exact absurd c89 (by omega)
      · refine aw_aload_n dX6_run_92 rfl ?_
        refine aw_iload_n dX6_run_93 rfl ?_
        refine aw_invV_r dX6_run_94 vX5_isRepeated kX6_35 rfl (K) ⟨_, (by assumption), _, _, rfl⟩ rfl rfl (by decide) (by decide) (by decide) (Nat.le_of_ble_eq_true rfl) ?_
        refine aw_if_eq (tgt := 116) dX6_run_97 rfl (by omega) (fun c97 => ?_) (fun c97 => ?_)
        · refine aw_iinc (k9 := 2) (ls1 := [(2, _), (0, _), (1, _)]) dX6_run_116 rfl (by decide) rfl ?_
          refine aw_goto (tgt := 88) dX6_run_119 rfl ?_
          refine aw_sub [1, 2, 0] rfl ?_
          exact ih'
        · exact absurd c97 (by omega)
theorem c_run {γ : GG} {h : AH} {o b : Nat} {π : Nat → Nat} {ρ : Nat → Nat → Nat} {q : TQ} {u0 : Nat → Int} (hob : b + 74 ≤ o ∨ o + 2 ≤ b) (hU : isU h o u0) (hQ : isQ h b π ρ q) (ho : okQ q) (hl : 1 ≤ q.length) : Call γ mX6_run 6 0 0 [vr (some o), vr (some b)] h (rF (fun h' => ∃ π' ρ', isU h' o (rwQ q).2 ∧ isQ h' b π' ρ' (rwQ q).1 ∧ okQ (rwQ q).1 ∧ fr2 h h' b o)) := by
  have hne : ∀ c, c ≠ o + 1 → eqA h (fillI h (o + 1) 10 0) c := fun c hc => eqA.fillI (fun z => hc z)
  have hU1 : isU (fillI h (o + 1) 10 0) o (fun _ => 0) := ⟨hU.1, hU.2.1, hU.2.2.1, fun j h1 h2 => by rw [gi_fillI, if_pos ⟨rfl, by omega, by omega⟩]⟩
  have K := l_run2 (γ := γ) (h := h) (Q := rF (fun h' => ∃ π' ρ', isU h' o (rwQ q).2 ∧ isQ h' b π' ρ' (rwQ q).1 ∧ okQ (rwQ q).1 ∧ fr2 h h' b o)) hob q.length 0 _ _ ρ q (by omega) hU1 (hQ.eq (fun c c1 c2 => hne c (by omega))) ho ⟨rfl, fun c h1 h2 => hne c h2⟩ (fun H' ρ' a1 a2 a3 a4 => by
    have hlen := runP_len q.length 0 q (fun _ => 0)
    have K3 := l_run3 (γ := γ) (h := h) hob ((runP q.length 0 q (fun _ => 0)).1.length - 1) H' _ π ρ' _ (by omega) a1 a2 a3 a4
    have g0 := a2.2.1
    have k0 := a2.1.1
    have e1 : ((runP q.length 0 q (fun _ => 0)).1.length : Int) - 1 = (((runP q.length 0 q (fun _ => 0)).1.length - 1 : Nat) : Int) := by omega
    refine aw_aload_n dX6_run_81 rfl ?_
    refine aw_geti' (j := 0) dX6_run_82 fX6_21 rfl (by assumption) rfl g0 ?_
    refine aw_iconst dX6_run_85 ?_
    refine aw_isub dX6_run_86 ?_
    rw [e1]
    refine aw_istore_n (ls1 := [(2, _), (0, _), (1, _)]) dX6_run_87 (by decide) rfl ?_
    refine aw_sub [1, 2, 0] rfl ?_
    exact K3)
  obtain ⟨uk, ur, uk1, uv⟩ := hU
  refine Call.of (ls := [(0, vr (some o)), (1, vr (some b))]) vX6_run.1 (Nat.le_of_ble_eq_true rfl) rfl ?_
  refine aw_aload_n dX6_run_0 rfl ?_
  refine aw_getr' (j := 0) dX6_run_1 fX6_9 rfl (by assumption) rfl (by assumption) ?_
  refine aw_iconst dX6_run_4 ?_
  refine aw_invS_n dX6_run_5 sJ7_fill_53178 kX6_15 rfl (c_J7_fill (h := _) (b := o + 1) (z := 0) (n := 10) (by exact uk1) (by decide)) rfl rfl (by decide) (by decide) (by decide) (Nat.le_of_ble_eq_true rfl) ?_
  refine aw_iconst dX6_run_8 ?_
  refine aw_istore_n (ls1 := [(2, _), (0, _), (1, _)]) dX6_run_9 (by decide) rfl ?_
  refine aw_sub [1, 2, 0] rfl ?_
  exact K
