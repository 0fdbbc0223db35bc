/-! ===== Rewriter.run ===== -/
def isU (h : AH) (o : Nat) (u : Nat → Int) : Prop := kd h o = some (.inl 5) ∧ gr h o 0 = some (o + 1) ∧ kd h (o + 1) = some (.inr (1, 10)) ∧ ∀ j : Nat, 1 ≤ j → j < 10 → gi h (o + 1) j = u j
theorem isU.eq {h h' : AH} {o : Nat} {u : Nat → Int} (hU : isU h o u) (e0 : eqA h h' o) (e1 : eqA h h' (o + 1)) : isU h' o u := ⟨e0.1.trans hU.1, ((e0.2 0).2.2).trans hU.2.1, e1.1.trans hU.2.2.1, fun j h1 h2 => ((e1.2 j).1).trans (hU.2.2.2 j h1 h2)⟩
def inc (u : Nat → Int) (n : Nat) : Nat → Int := fun j => if j = n then u j + 1 else u j
def addU : List Int → (Nat → Int) → (Nat → Int)
  | [], u => u
  | n :: r, u => addU r (inc u n.toNat)
theorem isU.inc {h : AH} {o n : Nat} {u : Nat → Int} {x z : Int} (hU : isU h o u) (hx : x = n) (hn : 1 ≤ n ∧ n < 10) (hz : z = gi h (o + 1) x + 1) : isU (si h (o + 1) x z) o (inc u n) := by
  refine ⟨hU.1, hU.2.1, hU.2.2.1, fun j h1 h2 => ?_⟩
  show gi (si h (o + 1) x z) (o + 1) j = if j = n then u j + 1 else u j
  by_cases q : j = n
  · rw [gi_at rfl (by omega), if_pos q, hz, hx, ← q, hU.2.2.2 j h1 h2]
  · rw [gi_ne (Or.inr (by omega)), if_neg q]; exact hU.2.2.2 j h1 h2
theorem isU.zero {h : AH} {o : Nat} {u : Nat → Int} {z : Int} (hU : isU h o u) : isU (si h (o + 1) 0 z) o u := by
  refine ⟨hU.1, hU.2.1, hU.2.2.1, fun j h1 h2 => ?_⟩
  rw [gi_ne (Or.inr (by omega))]; exact hU.2.2.2 j h1 h2
/-- all is as it was but the query's cells and the uses -/
def fr2 (h h' : AH) (b o : Nat) : Prop := nx h' = nx h ∧ ∀ c, (c < b ∨ b + 74 ≤ c) → c ≠ o + 1 → eqA h h' c
theorem fr2.rf {h : AH} {b o : Nat} : fr2 h h b o := ⟨rfl, fun _ _ _ => eqA.rf⟩
theorem fr2.q {h h1 h2 : AH} {b o lo hi : Nat} (e : fr2 h h1 b o) (e2 : eqO h1 h2 lo hi) (hl : b ≤ lo ∧ hi ≤ b + 74) : fr2 h h2 b o := ⟨e2.1.trans e.1, fun c h1 h2 => (e.2 c h1 h2).tr (e2.2 c (by omega))⟩
theorem fr2.u {h h1 : AH} {b o : Nat} {x z : Int} (e : fr2 h h1 b o) : fr2 h (si h1 (o + 1) x z) b o := ⟨e.1, fun c h1 h2 => (e.2 c h1 h2).tr (eqA.si (fun z => h2 z))⟩
theorem okQ_set {q : TQ} (ho : okQ q) {k : Nat} {t : TT} (hw : okW t) : okQ (q.set k t) := by
  refine ⟨by rw [List.length_set]; exact ho.1, fun x hx => ?_⟩
  rcases List.mem_or_eq_of_mem_set hx with hx | rfl
  · exact ho.2 x hx
  · exact hw
theorem w_run0 {γ : GG} {o b : Nat} {Q : AR → AH → Prop} {H : AH} {k i : Nat} (hi : i ≤ 1000) (kk : AW γ mX6_run 6 0 0 75 [(0, vr (some o)), (1, vr (some b)), (2, vi (k : Int))] [] H Q) : AW γ mX6_run 6 0 0 23 [(0, vr (some o)), (1, vr (some b)), (2, vi (k : Int)), (3, vi 0), (4, vi (i : Int))] [] H Q := by
  refine aw_iload dX6_run_23 rfl ?_
  refine aw_sipush dX6_run_25 rfl ?_
  refine aw_ic_ge (tgt := 75) dX6_run_28 rfl (by omega) (by omega) (fun c28 => ?_) (fun c28 => ?_)
  · refine aw_sub [0, 1, 2] rfl ?_
    exact kk
  · refine aw_iload_n dX6_run_31 rfl ?_
    refine aw_if_eq (tgt := 75) dX6_run_32 rfl (by omega) (fun c32 => ?_) (fun c32 => ?_)
    · refine aw_sub [0, 1, 2] rfl ?_
      exact kk
    · exact absurd c32 (by omega)
theorem l_run1 {γ : GG} {h : AH} {o b : Nat} {π : Nat → Nat} {Q : AR → AH → Prop} {k : Nat} (hob : b + 74 ≤ o ∨ o + 2 ≤ b) : ∀ (f i : Nat) (H : AH) (u : Nat → Int) (ρ : Nat → Nat → Nat) (q : TQ) (t : TT), i + f = 1000 → muL t.2 < f → isU H o u → isQ H b π ρ q → okQ q → q[k]? = some t → fr2 h H b o → (∀ (H' : AH) (ρ' : Nat → Nat → Nat), isU H' o (addU (rwF f t.2).1 u) → isQ H' b π ρ' (q.set k (t.1, (rwF f t.2).2)) → okQ (q.set k (t.1, (rwF f t.2).2)) → fr2 h H' b o → AW γ mX6_run 6 0 0 75 [(0, vr (some o)), (1, vr (some b)), (2, vi (k : Int))] [] H' Q) → AW γ mX6_run 6 0 0 23 [(0, vr (some o)), (1, vr (some b)), (2, vi (k : Int)), (3, vi 1), (4, vi (i : Int))] [] H Q := by
  intro f
  induction f with
  | zero => intro i H u ρ q t _ hm; exact absurd hm (by omega)
  | succ f ih =>
    intro i H u ρ q t hif hm hU hQ ho ht hF kk
    have hU0 := hU
    have hQ0 := hQ
    have lk := (List.getElem?_eq_some_iff.mp ht).1
    have hw := ho.2 t (List.mem_of_getElem? ht)
    obtain ⟨uk, ur, uk1, uv⟩ := hU
    obtain ⟨⟨hk, hr, hk1, hπ, hrf, hst⟩, h0, hl4, hss⟩ := hQ
    have p1 := hπ.1 k (by omega)
    have hP := hss k t ht
    have s1 := hP.1.1
    have K := c_uR (γ := γ) (o := o) uk hP hw
    cases e : uR t.2 with
    | none =>
      rw [e] at K
      simp only [rwF, e] at kk
      have e9 : q.set k (t.1, t.2) = q := set_same ht
      rw [e9] at kk
      have hne : ∀ c, c ≠ o + 1 → eqA H (si H (o + 1) 0 (gi H (o + 1) 0 + 1)) c := fun c hc => eqA.si (fun z => hc z)
      have K75 := kk (si H (o + 1) 0 (gi H (o + 1) 0 + 1)) ρ hU0.zero (hQ0.eq (fun c c1 c2 => hne c (by omega))) ho hF.u
      have K23 := w_run0 (γ := γ) (o := o) (b := b) (k := k) (i := i + 1) (by omega) K75
      refine aw_iload dX6_run_23 rfl ?_
      refine aw_sipush dX6_run_25 rfl ?_
      refine aw_ic_ge (tgt := 75) dX6_run_28 rfl (by omega) (by omega) (fun c28 => ?_) (fun c28 => ?_)
      · exact absurd c28 (by omega)
      · refine aw_iload_n dX6_run_31 rfl ?_
        refine aw_if_eq (tgt := 75) dX6_run_32 rfl (by omega) (fun c32 => ?_) (fun c32 => ?_)
        · exact absurd c32 (by omega)
        · refine aw_aload_n dX6_run_35 rfl ?_
          refine aw_aload_n dX6_run_36 rfl ?_
          refine aw_getr' (j := 1) dX6_run_37 fX6_27 rfl (by assumption) rfl (by assumption) ?_
          refine aw_iload_n dX6_run_40 rfl ?_
          refine aw_aald4' dX6_run_41 (by assumption) (by omega) (by first | decide | omega) (hrf k (by omega)) ?_
          refine aw_invV_r dX6_run_42 vX6_useFirstRule kX6_31 rfl (K) ⟨_, (by assumption), _, _, rfl⟩ rfl rfl (by decide) (by decide) (by decide) (Nat.le_of_ble_eq_true rfl) ?_
          refine aw_istore (ls1 := [(5, _), (0, _), (1, _), (2, _), (3, _), (4, _)]) dX6_run_45 (by decide) rfl ?_
          refine aw_aload_n dX6_run_47 rfl ?_
          refine aw_getr' (j := 0) dX6_run_48 fX6_9 rfl (by assumption) rfl (by assumption) ?_
          refine aw_iload dX6_run_51 rfl ?_
          refine aw_dup2 dX6_run_53 rfl rfl ?_
          refine aw_iald' dX6_run_54 (by assumption) (by omega) (by first | decide | omega) rfl ?_
          refine aw_iconst dX6_run_55 ?_
          refine aw_iadd dX6_run_56 ?_
          refine aw_iast dX6_run_57 (by assumption) (by omega) (by first | decide | omega) ?_
          refine aw_iload dX6_run_58 rfl ?_
          refine aw_if_le (tgt := 67) dX6_run_60 rfl (by omega) (fun c60 => ?_) (fun c60 => ?_)
          · refine aw_iconst dX6_run_67 ?_
            refine aw_istore_n (ls1 := [(3, _), (5, _), (0, _), (1, _), (2, _), (4, _)]) dX6_run_68 (by decide) rfl ?_
            refine aw_iinc (k9 := 5) (ls1 := [(4, _), (3, _), (5, _), (0, _), (1, _), (2, _)]) dX6_run_69 rfl (by decide) rfl ?_
            refine aw_goto (tgt := 23) dX6_run_72 rfl ?_
            refine aw_sub [3, 4, 5, 1, 0] rfl ?_
            exact K23
          · exact absurd c60 (by omega)
    | some x =>
      rw [e] at K
      simp only [rwF, e] at kk
      obtain ⟨m1, m2, m3⟩ := mu_uR e
      refine aw_iload dX6_run_23 rfl ?_
      refine aw_sipush dX6_run_25 rfl ?_
      refine aw_ic_ge (tgt := 75) dX6_run_28 rfl (by omega) (by omega) (fun c28 => ?_) (fun c28 => ?_)
      · exact absurd c28 (by omega)
      · refine aw_iload_n dX6_run_31 rfl ?_
        refine aw_if_eq (tgt := 75) dX6_run_32 rfl (by omega) (fun c32 => ?_) (fun c32 => ?_)
        · exact absurd c32 (by omega)
        · refine aw_aload_n dX6_run_35 rfl ?_
          refine aw_aload_n dX6_run_36 rfl ?_
          refine aw_getr' (j := 1) dX6_run_37 fX6_27 rfl (by assumption) rfl (by assumption) ?_
          refine aw_iload_n dX6_run_40 rfl ?_
          refine aw_aald4' dX6_run_41 (by assumption) (by omega) (by first | decide | omega) (hrf k (by omega)) ?_
          refine aw_invV_e dX6_run_42 vX6_useFirstRule kX6_31 rfl (K) ⟨_, (by assumption), _, _, rfl⟩ rfl rfl (by decide) (by decide) (by decide) (Nat.le_of_ble_eq_true rfl) (fun H1 hP9 => ?_)
          obtain ⟨⟨π1, e1⟩, e2, e3⟩ := hP9
          have z0 := e3.2 o (by omega)
          have z1 := e3.2 (o + 1) (by omega)
          have hU1 := hU0.eq z0 z1
          have hU1' := hU1
          have hQ1 := hQ0.set lk e1 e3
          obtain ⟨uk', ur', uk1', uv'⟩ := hU1'
          refine aw_istore (ls1 := [(5, _), (0, _), (1, _), (2, _), (3, _), (4, _)]) dX6_run_45 (by decide) rfl ?_
          refine aw_aload_n dX6_run_47 rfl ?_
          refine aw_getr' (j := 0) dX6_run_48 fX6_9 rfl (by assumption) rfl (by assumption) ?_
          refine aw_iload dX6_run_51 rfl ?_
          refine aw_dup2 dX6_run_53 rfl rfl ?_
          refine aw_iald' dX6_run_54 (by assumption) (by omega) (by first | decide | omega) rfl ?_
          refine aw_iconst dX6_run_55 ?_
          refine aw_iadd dX6_run_56 ?_
          refine aw_iast dX6_run_57 (by assumption) (by omega) (by first | decide | omega) ?_
          refine aw_iload dX6_run_58 rfl ?_
          refine aw_if_le (tgt := 67) dX6_run_60 rfl (by omega) (fun c60 => ?_) (fun c60 => ?_)
          · exact absurd c60 (by omega)
          · refine aw_iconst dX6_run_63 ?_
            refine aw_goto (tgt := 68) dX6_run_64 rfl ?_
            refine aw_istore_n (ls1 := [(3, _), (5, _), (0, _), (1, _), (2, _), (4, _)]) dX6_run_68 (by decide) rfl ?_
            refine aw_iinc (k9 := 5) (ls1 := [(4, _), (3, _), (5, _), (0, _), (1, _), (2, _)]) dX6_run_69 rfl (by decide) rfl ?_
            refine aw_goto (tgt := 23) dX6_run_72 rfl ?_
            refine aw_sub [3, 4, 5, 1, 0] rfl ?_
            have hne : ∀ c, c ≠ o + 1 → eqA H1 (si H1 (o + 1) x.1 (gi H1 (o + 1) x.1 + 1)) c := fun c hc => eqA.si (fun z => hc z)
            refine ih (i + 1) _ (inc u x.1.toNat) _ (q.set k (t.1, x.2)) (t.1, x.2) (by omega) (by show muL x.2 < f; omega) (hU1.inc (by omega) (by omega) rfl) (hQ1.eq (fun c c1 c2 => hne c (by omega))) (okQ_set ho e2) (List.getElem?_set_self lk) ((hF.q e3 (by omega)).u) (fun H' ρ' a1 a2 a3 a4 => ?_)
            rw [List.set_set] at a2 a3
            exact kk H' ρ' a1 a2 a3 a4
