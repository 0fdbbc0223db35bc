/-! ===== the model: writing ===== -/
/-- room for what is to be put -/
def gM (h : AH) (a : Nat) (l : List Int) : Prop := shM h a ∧ 0 ≤ gi h a 14 ∧ gi h a 14 + l.length ≤ 1000
theorem gi14 (h : AH) (a : Nat) (c : Int) : gi (mput a h c) a 14 = gi h a 14 + 1 := by unfold mput; exact gi_at rfl rfl
theorem gM.cs {h : AH} {a : Nat} {c : Int} {l : List Int} (g : gM h a (c :: l)) : gM (mput a h c) a l := by
  obtain ⟨g1, g2, g3⟩ := g
  simp only [List.length_cons] at g3
  exact ⟨g1, by rw [gi14]; omega, by rw [gi14]; omega⟩
theorem gM.lf {h : AH} {a : Nat} {l m : List Int} (g : gM h a (l ++ m)) : gM h a l := by
  obtain ⟨g1, g2, g3⟩ := g
  simp only [List.length_append] at g3
  exact ⟨g1, g2, by omega⟩
theorem shM_mputs {a : Nat} : ∀ (l : List Int) (h : AH), shM h a → shM (mputs a h l) a := by
  intro l
  induction l with
  | nil => intro h g; exact g
  | cons c l ih => intro h g; exact ih (mput a h c) g
theorem gM.ap {h : AH} {a : Nat} {l m : List Int} (g : gM h a (l ++ m)) : gM (mputs a h l) a m := by
  obtain ⟨g1, g2, g3⟩ := g
  simp only [List.length_append] at g3
  exact ⟨shM_mputs l h g1, by rw [gi_mputs_len]; omega, by rw [gi_mputs_len]; omega⟩
theorem gi_mput_o {h : AH} {a b : Nat} {c j : Int} (h1 : b ≠ a + 8) (h2 : b = a → j ≠ 14) : gi (mput a h c) b j = gi h b j := by
  unfold mput
  rw [gi_ne (by by_cases q : b = a; exact Or.inr (h2 q); exact Or.inl q), gi_ne (Or.inl h1)]
theorem gi_mputs_o {a b : Nat} {j : Int} (h1 : b ≠ a + 8) (h2 : b = a → j ≠ 14) : ∀ (l : List Int) (h : AH), gi (mputs a h l) b j = gi h b j := by
  intro l
  induction l with
  | nil => intro h; rfl
  | cons c l ih => intro h; exact (ih (mput a h c)).trans (gi_mput_o h1 h2)
theorem gi7p (h : AH) (a : Nat) (c : Int) : gi (mput a h c) (a + 7) = gi h (a + 7) := by funext j; exact gi_mput_o (by omega) (fun q => by omega)
theorem gi7s (h : AH) (a : Nat) (l : List Int) : gi (mputs a h l) (a + 7) = gi h (a + 7) := by funext j; exact gi_mputs_o (by omega) (fun q => by omega) l h
theorem gM.q {h : AH} {a : Nat} {l : List Int} (g : gM h a l) : kd h a = some (.inl 11) ∧ gr h a 12 = some (a + 7) ∧ kd h (a + 7) = some (.inr (1, 6537)) := by
  obtain ⟨⟨hk, -, -, -, -, -, -, hq, -⟩, -⟩ := g
  exact ⟨hk, hq.1, hq.2⟩
theorem jr_head {z : Int} {k : Nat} {x : List Int} {r : List (List Int)} : jr z (decide (k = 0)) (x :: r) = (if k = 0 then [] else [z]) ++ (x ++ jr z false r) := by
  by_cases q : k = 0
  · simp [jr, q]
  · simp [jr, q]
theorem drop_hd {α : Type} {l r : List α} {k : Nat} {x : α} (h : l.drop k = x :: r) : l[k]? = some x ∧ l.drop (k + 1) = r ∧ k < l.length := by
  have hx : l[k]? = some x := by rw [← List.head?_drop, h]; rfl
  exact ⟨hx, by rw [← List.drop_drop, h]; rfl, lt_of_get hx⟩
theorem dec1 (k : Nat) : decide (k + 1 = 0) = false := by simp
theorem m_putM {γ : GG} {h : AH} {a : Nat} {v : Int} {l : List Int} (g : gM h a (v :: l)) : Call γ mX12_put 0 0 0 [vr (some a), vi v] h (rN (mput a h v)) := by
  obtain ⟨g1, g2, g3⟩ := g
  simp only [List.length_cons] at g3
  exact m_put g1 (by omega)
theorem m_testM {γ : GG} {h : AH} {a : Nat} {x : Int × Int} {l : List Int} (hx : okT x) (g : gM h a (wTest x ++ l)) : Call γ mX12_putTest 1 0 0 [vr (some a), vi x.1, vi x.2] h (rN (mputs a h (wTest x))) := by
  obtain ⟨g1, g2, g3⟩ := g
  simp only [List.length_append] at g3
  exact m_putTest hx g1 (by omega)
theorem l_mc81 {γ : GG} {a : Nat} {b : Int} {c : TC} (hc : okC c) (hb : 1 ≤ b ∧ b + 7 ≤ 6537) : ∀ (r : List (Int × Int)) (k : Nat) (h : AH), k ≤ c.2.2.2.length → c.2.2.2.drop k = r → gM h a (jr 47 (decide (k = 0)) (r.map wTest)) → gC (gi h (a + 7)) b c → AW γ mX12_putCondition 2 0 0 81 [(3, vi (k : Int)), (0, vr (some a)), (1, vi b)] [] h (rN (mputs a h (jr 47 (decide (k = 0)) (r.map wTest)))) := by
  have hs3 := okC_sh hc
  intro r
  induction r with
  | nil =>
    intro k h hkl hd g hg
    obtain ⟨hka, rq, kq⟩ := g.q
    have hk := List.drop_eq_nil_iff.mp hd
    have g3 := hg.2.2.2.1
    refine aw_iload_n dX12_putCondition_81 rfl ?_
    refine aw_aload_n dX12_putCondition_82 rfl ?_
    refine aw_getr' (j := 12) dX12_putCondition_83 fX12_28 rfl (by assumption) rfl (by assumption) ?_
    refine aw_iload_n dX12_putCondition_86 rfl ?_
    refine aw_iconst dX12_putCondition_87 ?_
    refine aw_iadd dX12_putCondition_88 ?_
    refine aw_iald' dX12_putCondition_89 (by assumption) (by omega) (by first | decide | omega) g3 ?_
    refine aw_ic_ge (tgt := 139) dX12_putCondition_90 rfl (by omega) (by omega) (fun c90 => ?_) (fun c90 => ?_)
    · exact aw_return dX12_putCondition_139 rfl (Or.inl rfl) ⟨rfl, rfl⟩
    · exact absurd c90 (by omega)
  | cons x r ih =>
    intro k h hkl hd g hg
    obtain ⟨hx, hdr, hlt⟩ := drop_hd hd
    have hxo : okT x := by
      rcases hc with q | q | q | q
      · rw [q.2.2.2] at hlt; simp at hlt
      · rw [q.2.2] at hlt; simp at hlt
      · rw [q.2.2.2] at hlt; simp at hlt
      · exact q.2.2.2.2 x (List.mem_of_getElem? hx)
    rw [List.map_cons, jr_head] at g ⊢
    have R : ∀ h', gM h' a (wTest x ++ jr 47 false (r.map wTest)) → gC (gi h' (a + 7)) b c → AW γ mX12_putCondition 2 0 0 103 [(3, vi (k : Int)), (0, vr (some a)), (1, vi b)] [] h' (rN (mputs a h' (wTest x ++ jr 47 false (r.map wTest)))) := by
      intro h' g' hg'
      obtain ⟨hka, rq, kq⟩ := g'.q
      have e4 := hg'.2.2.2.2 k x hx
      obtain ⟨o1, o2, o3, o4⟩ := hxo
      have d1 : (10 * x.1 + x.2) / 10 = x.1 := by omega
      have d2 : (10 * x.1 + x.2) % 10 = x.2 := by omega
      have KT := m_testM (γ := γ) ⟨o1, o2, o3, o4⟩ g'
      have I := ih (k + 1) (mputs a h' (wTest x)) (by omega) hdr (by rw [dec1]; exact g'.ap) (by rw [gi7s]; exact hg')
      rw [dec1, ← mputs_app] at I
      refine aw_aload_n dX12_putCondition_103 rfl ?_
      refine aw_aload_n dX12_putCondition_104 rfl ?_
      refine aw_getr' (j := 12) dX12_putCondition_105 fX12_28 rfl (by assumption) rfl (by assumption) ?_
      refine aw_iload_n dX12_putCondition_108 rfl ?_
      refine aw_iconst dX12_putCondition_109 ?_
      refine aw_iadd dX12_putCondition_110 ?_
      refine aw_iload_n dX12_putCondition_111 rfl ?_
      refine aw_iadd dX12_putCondition_112 ?_
      refine aw_iald' dX12_putCondition_113 (by assumption) (by omega) (by first | decide | omega) e4 ?_
      refine aw_bipush dX12_putCondition_114 rfl ?_
      refine aw_idiv dX12_putCondition_116 (by omega) (by omega) ?_
      rw [d1]
      refine aw_aload_n dX12_putCondition_117 rfl ?_
      refine aw_getr' (j := 12) dX12_putCondition_118 fX12_28 rfl (by assumption) rfl (by assumption) ?_
      refine aw_iload_n dX12_putCondition_121 rfl ?_
      refine aw_iconst dX12_putCondition_122 ?_
      refine aw_iadd dX12_putCondition_123 ?_
      refine aw_iload_n dX12_putCondition_124 rfl ?_
      refine aw_iadd dX12_putCondition_125 ?_
      refine aw_iald' dX12_putCondition_126 (by assumption) (by omega) (by first | decide | omega) e4 ?_
      refine aw_bipush dX12_putCondition_127 rfl ?_
      refine aw_irem dX12_putCondition_129 (by omega) (by omega) ?_
      rw [d2]
      refine aw_invV_n dX12_putCondition_130 vX12_putTest kX12_195 rfl (KT) ⟨_, (by assumption), _, _, rfl⟩ rfl rfl (by decide) (by decide) (by decide) (Nat.le_of_ble_eq_true rfl) ?_
      refine aw_iinc (k9 := 0) (ls1 := [(3, _), (0, _), (1, _)]) dX12_putCondition_133 rfl (by decide) rfl ?_
      refine aw_goto (tgt := 81) dX12_putCondition_136 rfl ?_
      exact I
    obtain ⟨hka, rq, kq⟩ := g.q
    have g3 := hg.2.2.2.1
    by_cases q0 : k = 0
    · rw [if_pos q0] at g ⊢
      refine aw_iload_n dX12_putCondition_81 rfl ?_
      refine aw_aload_n dX12_putCondition_82 rfl ?_
      refine aw_getr' (j := 12) dX12_putCondition_83 fX12_28 rfl (by assumption) rfl (by assumption) ?_
      refine aw_iload_n dX12_putCondition_86 rfl ?_
      refine aw_iconst dX12_putCondition_87 ?_
      refine aw_iadd dX12_putCondition_88 ?_
      refine aw_iald' dX12_putCondition_89 (by assumption) (by omega) (by first | decide | omega) g3 ?_
      refine aw_ic_ge (tgt := 139) dX12_putCondition_90 rfl (by omega) (by omega) (fun c90 => ?_) (fun c90 => ?_)
      · exact absurd c90 (by omega)
      · refine aw_iload_n dX12_putCondition_93 rfl ?_
        refine aw_if_le (tgt := 103) dX12_putCondition_94 rfl (by omega) (fun c94 => ?_) (fun c94 => ?_)
        · exact R h g hg
        · exact absurd c94 (by omega)
    · rw [if_neg q0] at g ⊢
      have KP := m_putM (γ := γ) g
      refine aw_iload_n dX12_putCondition_81 rfl ?_
      refine aw_aload_n dX12_putCondition_82 rfl ?_
      refine aw_getr' (j := 12) dX12_putCondition_83 fX12_28 rfl (by assumption) rfl (by assumption) ?_
      refine aw_iload_n dX12_putCondition_86 rfl ?_
      refine aw_iconst dX12_putCondition_87 ?_
      refine aw_iadd dX12_putCondition_88 ?_
      refine aw_iald' dX12_putCondition_89 (by assumption) (by omega) (by first | decide | omega) g3 ?_
      refine aw_ic_ge (tgt := 139) dX12_putCondition_90 rfl (by omega) (by omega) (fun c90 => ?_) (fun c90 => ?_)
      · exact absurd c90 (by omega)
      · refine aw_iload_n dX12_putCondition_93 rfl ?_
        refine aw_if_le (tgt := 103) dX12_putCondition_94 rfl (by omega) (fun c94 => ?_) (fun c94 => ?_)
        · exact absurd c94 (by omega)
        · refine aw_aload_n dX12_putCondition_97 rfl ?_
          refine aw_bipush dX12_putCondition_98 rfl ?_
          refine aw_invV_n dX12_putCondition_100 vX12_put kX12_192 rfl (KP) ⟨_, (by assumption), _, _, rfl⟩ rfl rfl (by decide) (by decide) (by decide) (Nat.le_of_ble_eq_true rfl) ?_
          exact R (mput a h 47) g.cs (by rw [gi7p]; exact hg)
theorem l_mc55 {γ : GG} {h : AH} {a : Nat} {b : Int} {c : TC} (hc : okC c) (hb : 1 ≤ b ∧ b + 7 ≤ 6537) (g : gM h a (wC2 c)) (hg : gC (gi h (a + 7)) b c) : AW γ mX12_putCondition 2 0 0 55 [(2, vi c.2.1), (0, vr (some a)), (1, vi b)] [] h (rN (mputs a h (wC2 c))) := by
  obtain ⟨hka, rq, kq⟩ := g.q
  have k1 := okC_k hc
  have g2 := hg.2.2.1
  by_cases q : c.2.1 = 0 ∨ c.2.1 = 2
  · have e : wC2 c = (48 + c.2.2.1) :: jr 47 (decide (0 = 0)) (c.2.2.2.map wTest) := by unfold wC2; rw [if_pos q]; rfl
    rw [e] at g ⊢
    have KP := m_putM (γ := γ) g
    have L := l_mc81 (γ := γ) hc hb c.2.2.2 0 (mput a h (48 + c.2.2.1)) (Nat.zero_le _) rfl g.cs (by rw [gi7p]; exact hg)
    by_cases q2 : c.2.1 = 0
    · skip
      refine aw_iload_n dX12_putCondition_55 rfl ?_
      refine aw_if_eq (tgt := 64) dX12_putCondition_56 rfl (by omega) (fun c56 => ?_) (fun c56 => ?_)
      · refine aw_aload_n dX12_putCondition_64 rfl ?_
        refine aw_bipush dX12_putCondition_65 rfl ?_
        refine aw_aload_n dX12_putCondition_67 rfl ?_
        refine aw_getr' (j := 12) dX12_putCondition_68 fX12_28 rfl (by assumption) rfl (by assumption) ?_
        refine aw_iload_n dX12_putCondition_71 rfl ?_
        refine aw_iconst dX12_putCondition_72 ?_
        refine aw_iadd dX12_putCondition_73 ?_
        refine aw_iald' dX12_putCondition_74 (by assumption) (by omega) (by first | decide | omega) g2 ?_
        refine aw_iadd dX12_putCondition_75 ?_
        refine aw_invV_n dX12_putCondition_76 vX12_put kX12_192 rfl (KP) ⟨_, (by assumption), _, _, rfl⟩ rfl rfl (by decide) (by decide) (by decide) (Nat.le_of_ble_eq_true rfl) ?_
        refine aw_iconst dX12_putCondition_79 ?_
        refine aw_istore_n (ls1 := [(3, _), (2, _), (0, _), (1, _)]) dX12_putCondition_80 (by decide) rfl ?_
        refine aw_sub [0, 2, 3] rfl ?_
        exact L
      · exact absurd c56 (by omega)
    · skip
      refine aw_iload_n dX12_putCondition_55 rfl ?_
      refine aw_if_eq (tgt := 64) dX12_putCondition_56 rfl (by omega) (fun c56 => ?_) (fun c56 => ?_)
      · exact absurd c56 (by omega)
      · refine aw_iload_n dX12_putCondition_59 rfl ?_
        refine aw_iconst dX12_putCondition_60 ?_
        refine aw_ic_ne (tgt := 79) dX12_putCondition_61 rfl (by omega) (by omega) (fun c61 => ?_) (fun c61 => ?_)
        · exact absurd c61 (by omega)
        · refine aw_aload_n dX12_putCondition_64 rfl ?_
          refine aw_bipush dX12_putCondition_65 rfl ?_
          refine aw_aload_n dX12_putCondition_67 rfl ?_
          refine aw_getr' (j := 12) dX12_putCondition_68 fX12_28 rfl (by assumption) rfl (by assumption) ?_
          refine aw_iload_n dX12_putCondition_71 rfl ?_
          refine aw_iconst dX12_putCondition_72 ?_
          refine aw_iadd dX12_putCondition_73 ?_
          refine aw_iald' dX12_putCondition_74 (by assumption) (by omega) (by first | decide | omega) g2 ?_
          refine aw_iadd dX12_putCondition_75 ?_
          refine aw_invV_n dX12_putCondition_76 vX12_put kX12_192 rfl (KP) ⟨_, (by assumption), _, _, rfl⟩ rfl rfl (by decide) (by decide) (by decide) (Nat.le_of_ble_eq_true rfl) ?_
          refine aw_iconst dX12_putCondition_79 ?_
          refine aw_istore_n (ls1 := [(3, _), (2, _), (0, _), (1, _)]) dX12_putCondition_80 (by decide) rfl ?_
          refine aw_sub [0, 2, 3] rfl ?_
          exact L
  · have e : wC2 c = jr 47 (decide (0 = 0)) (c.2.2.2.map wTest) := by unfold wC2; rw [if_neg q]; rfl
    rw [e] at g ⊢
    have L := l_mc81 (γ := γ) hc hb c.2.2.2 0 h (Nat.zero_le _) rfl g hg
    refine aw_iload_n dX12_putCondition_55 rfl ?_
    refine aw_if_eq (tgt := 64) dX12_putCondition_56 rfl (by omega) (fun c56 => ?_) (fun c56 => ?_)
    · exact absurd c56 (by omega)
    · refine aw_iload_n dX12_putCondition_59 rfl ?_
      refine aw_iconst dX12_putCondition_60 ?_
      refine aw_ic_ne (tgt := 79) dX12_putCondition_61 rfl (by omega) (by omega) (fun c61 => ?_) (fun c61 => ?_)
      · refine aw_iconst dX12_putCondition_79 ?_
        refine aw_istore_n (ls1 := [(3, _), (2, _), (0, _), (1, _)]) dX12_putCondition_80 (by decide) rfl ?_
        refine aw_sub [0, 2, 3] rfl ?_
        exact L
      · exact absurd c61 (by omega)
theorem l_mc16 {γ : GG} {h : AH} {a : Nat} {b : Int} {c : TC} (hc : okC c) (hb : 1 ≤ b ∧ b + 7 ≤ 6537) (g : gM h a (wC1 c)) (hg : gC (gi h (a + 7)) b c) : AW γ mX12_putCondition 2 0 0 16 [(0, vr (some a)), (1, vi b)] [] h (rN (mputs a h (wC1 c))) := by
  obtain ⟨hka, rq, kq⟩ := g.q
  have k1 := okC_k hc
  have g1 := hg.2.1
  by_cases q : c.2.1 = 0
  · have e : wC1 c = wC2 c := by unfold wC1; rw [if_pos q]; rfl
    rw [e] at g ⊢
    have L := l_mc55 (γ := γ) hc hb g hg
    refine aw_aload_n dX12_putCondition_16 rfl ?_
    refine aw_getr' (j := 12) dX12_putCondition_17 fX12_28 rfl (by assumption) rfl (by assumption) ?_
    refine aw_iload_n dX12_putCondition_20 rfl ?_
    refine aw_iconst dX12_putCondition_21 ?_
    refine aw_iadd dX12_putCondition_22 ?_
    refine aw_iald' dX12_putCondition_23 (by assumption) (by omega) (by first | decide | omega) g1 ?_
    refine aw_istore_n (ls1 := [(2, _), (0, _), (1, _)]) dX12_putCondition_24 (by decide) rfl ?_
    refine aw_iload_n dX12_putCondition_25 rfl ?_
    refine aw_if_eq (tgt := 55) dX12_putCondition_26 rfl (by omega) (fun c26 => ?_) (fun c26 => ?_)
    · refine aw_sub [0, 1, 2] rfl ?_
      exact L
    · exact absurd c26 (by omega)
  · have e : wC1 c = (if c.2.1 = 1 then 36 else if c.2.1 = 2 then 61 else 63) :: wC2 c := by unfold wC1; rw [if_neg q]; rfl
    rw [e] at g ⊢
    have L := l_mc55 (γ := γ) hc hb g.cs (by rw [gi7p]; exact hg)
    have KP := m_putM (γ := γ) g
    by_cases q1 : c.2.1 = 1
    · rw [if_pos q1] at KP L ⊢
      refine aw_aload_n dX12_putCondition_16 rfl ?_
      refine aw_getr' (j := 12) dX12_putCondition_17 fX12_28 rfl (by assumption) rfl (by assumption) ?_
      refine aw_iload_n dX12_putCondition_20 rfl ?_
      refine aw_iconst dX12_putCondition_21 ?_
      refine aw_iadd dX12_putCondition_22 ?_
      refine aw_iald' dX12_putCondition_23 (by assumption) (by omega) (by first | decide | omega) g1 ?_
      refine aw_istore_n (ls1 := [(2, _), (0, _), (1, _)]) dX12_putCondition_24 (by decide) rfl ?_
      refine aw_iload_n dX12_putCondition_25 rfl ?_
      refine aw_if_eq (tgt := 55) dX12_putCondition_26 rfl (by omega) (fun c26 => ?_) (fun c26 => ?_)
      · exact absurd c26 (by omega)
      · refine aw_aload_n dX12_putCondition_29 rfl ?_
        refine aw_iload_n dX12_putCondition_30 rfl ?_
        refine aw_iconst dX12_putCondition_31 ?_
        refine aw_ic_ne (tgt := 40) dX12_putCondition_32 rfl (by omega) (by omega) (fun c32 => ?_) (fun c32 => ?_)
        · exact absurd c32 (by omega)
        · refine aw_bipush dX12_putCondition_35 rfl ?_
          refine aw_goto (tgt := 52) dX12_putCondition_37 rfl ?_
          refine aw_invV_n dX12_putCondition_52 vX12_put kX12_192 rfl (KP) ⟨_, (by assumption), _, _, rfl⟩ rfl rfl (by decide) (by decide) (by decide) (Nat.le_of_ble_eq_true rfl) ?_
          refine aw_sub [0, 1, 2] rfl ?_
          exact L
    · rw [if_neg q1] at KP L ⊢
      by_cases q2 : c.2.1 = 2
      · rw [if_pos q2] at KP L ⊢
        refine aw_aload_n dX12_putCondition_16 rfl ?_
        refine aw_getr' (j := 12) dX12_putCondition_17 fX12_28 rfl (by assumption) rfl (by assumption) ?_
        refine aw_iload_n dX12_putCondition_20 rfl ?_
        refine aw_iconst dX12_putCondition_21 ?_
        refine aw_iadd dX12_putCondition_22 ?_
        refine aw_iald' dX12_putCondition_23 (by assumption) (by omega) (by first | decide | omega) g1 ?_
        refine aw_istore_n (ls1 := [(2, _), (0, _), (1, _)]) dX12_putCondition_24 (by decide) rfl ?_
        refine aw_iload_n dX12_putCondition_25 rfl ?_
        refine aw_if_eq (tgt := 55) dX12_putCondition_26 rfl (by omega) (fun c26 => ?_) (fun c26 => ?_)
        · exact absurd c26 (by omega)
        · refine aw_aload_n dX12_putCondition_29 rfl ?_
          refine aw_iload_n dX12_putCondition_30 rfl ?_
          refine aw_iconst dX12_putCondition_31 ?_
          refine aw_ic_ne (tgt := 40) dX12_putCondition_32 rfl (by omega) (by omega) (fun c32 => ?_) (fun c32 => ?_)
          · refine aw_iload_n dX12_putCondition_40 rfl ?_
            refine aw_iconst dX12_putCondition_41 ?_
            refine aw_ic_ne (tgt := 50) dX12_putCondition_42 rfl (by omega) (by omega) (fun c42 => ?_) (fun c42 => ?_)
            · exact absurd c42 (by omega)
            · refine aw_bipush dX12_putCondition_45 rfl ?_
              refine aw_goto (tgt := 52) dX12_putCondition_47 rfl ?_
              refine aw_invV_n dX12_putCondition_52 vX12_put kX12_192 rfl (KP) ⟨_, (by assumption), _, _, rfl⟩ rfl rfl (by decide) (by decide) (by decide) (Nat.le_of_ble_eq_true rfl) ?_
              refine aw_sub [0, 1, 2] rfl ?_
              exact L
          · exact absurd c32 (by omega)
      · rw [if_neg q2] at KP L ⊢
        refine aw_aload_n dX12_putCondition_16 rfl ?_
        refine aw_getr' (j := 12) dX12_putCondition_17 fX12_28 rfl (by assumption) rfl (by assumption) ?_
        refine aw_iload_n dX12_putCondition_20 rfl ?_
        refine aw_iconst dX12_putCondition_21 ?_
        refine aw_iadd dX12_putCondition_22 ?_
        refine aw_iald' dX12_putCondition_23 (by assumption) (by omega) (by first | decide | omega) g1 ?_
        refine aw_istore_n (ls1 := [(2, _), (0, _), (1, _)]) dX12_putCondition_24 (by decide) rfl ?_
        refine aw_iload_n dX12_putCondition_25 rfl ?_
        refine aw_if_eq (tgt := 55) dX12_putCondition_26 rfl (by omega) (fun c26 => ?_) (fun c26 => ?_)
        · exact absurd c26 (by omega)
        · refine aw_aload_n dX12_putCondition_29 rfl ?_
          refine aw_iload_n dX12_putCondition_30 rfl ?_
          refine aw_iconst dX12_putCondition_31 ?_
          refine aw_ic_ne (tgt := 40) dX12_putCondition_32 rfl (by omega) (by omega) (fun c32 => ?_) (fun c32 => ?_)
          · refine aw_iload_n dX12_putCondition_40 rfl ?_
            refine aw_iconst dX12_putCondition_41 ?_
            refine aw_ic_ne (tgt := 50) dX12_putCondition_42 rfl (by omega) (by omega) (fun c42 => ?_) (fun c42 => ?_)
            · refine aw_bipush dX12_putCondition_50 rfl ?_
              refine aw_invV_n dX12_putCondition_52 vX12_put kX12_192 rfl (KP) ⟨_, (by assumption), _, _, rfl⟩ rfl rfl (by decide) (by decide) (by decide) (Nat.le_of_ble_eq_true rfl) ?_
              refine aw_sub [0, 1, 2] rfl ?_
              exact L
            · exact absurd c42 (by omega)
          · exact absurd c32 (by omega)
theorem m_putCondition {γ : GG} {h : AH} {a : Nat} {b : Int} {c : TC} (hc : okC c) (hb : 1 ≤ b ∧ b + 7 ≤ 6537) {l : List Int} (g : gM h a (wCond c ++ l)) (hg : gC (gi h (a + 7)) b c) : Call γ mX12_putCondition 2 0 0 [vr (some a), vi b] h (rN (mputs a h (wCond c))) := by
  obtain ⟨hka, rq, kq⟩ := g.q
  have g := g.lf
  have g0 := hg.1
  rw [wc_eq] at g ⊢
  by_cases q : c.1 = true
  · rw [if_pos q] at g ⊢
    rw [q] at g0
    have KP := m_putM (γ := γ) (v := 45) g
    have L := l_mc16 (γ := γ) hc hb (h := mput a h 45) (gM.cs (c := 45) g) (by rw [gi7p]; exact hg)
    refine Call.of (ls := [(0, vr (some a)), (1, vi b)]) vX12_putCondition.1 (Nat.le_of_ble_eq_true rfl) rfl ?_
    refine aw_aload_n dX12_putCondition_0 rfl ?_
    refine aw_getr' (j := 12) dX12_putCondition_1 fX12_28 rfl (by assumption) rfl (by assumption) ?_
    refine aw_iload_n dX12_putCondition_4 rfl ?_
    refine aw_iald' dX12_putCondition_5 (by assumption) (by omega) (by first | decide | omega) (g0.trans (by rfl : bI true = 1)) ?_
    refine aw_iconst dX12_putCondition_6 ?_
    refine aw_ic_ne (tgt := 16) dX12_putCondition_7 rfl (by omega) (by omega) (fun c7 => ?_) (fun c7 => ?_)
    · exact absurd c7 (by omega)
    · refine aw_aload_n dX12_putCondition_10 rfl ?_
      refine aw_bipush dX12_putCondition_11 rfl ?_
      refine aw_invV_n dX12_putCondition_13 vX12_put kX12_192 rfl (KP) ⟨_, (by assumption), _, _, rfl⟩ rfl rfl (by decide) (by decide) (by decide) (Nat.le_of_ble_eq_true rfl) ?_
      exact L
  · rw [if_neg q] at g ⊢
    rw [show c.1 = false by simpa using q] at g0
    have L := l_mc16 (γ := γ) hc hb (h := h) g hg
    refine Call.of (ls := [(0, vr (some a)), (1, vi b)]) vX12_putCondition.1 (Nat.le_of_ble_eq_true rfl) rfl ?_
    refine aw_aload_n dX12_putCondition_0 rfl ?_
    refine aw_getr' (j := 12) dX12_putCondition_1 fX12_28 rfl (by assumption) rfl (by assumption) ?_
    refine aw_iload_n dX12_putCondition_4 rfl ?_
    refine aw_iald' dX12_putCondition_5 (by assumption) (by omega) (by first | decide | omega) (g0.trans (by rfl : bI false = 0)) ?_
    refine aw_iconst dX12_putCondition_6 ?_
    refine aw_ic_ne (tgt := 16) dX12_putCondition_7 rfl (by omega) (by omega) (fun c7 => ?_) (fun c7 => ?_)
    · exact L
    · exact absurd c7 (by omega)
