/-! ===== Step.writeTo ===== -/
theorem app2 {a b c d : List Int} (h1 : a = b) (h2 : c = d) : a ++ c = b ++ d := by rw [h1, h2]
def cat9 (f : Nat → List Int) : Nat → List Int
  | 0 => []
  | n + 1 => cat9 f n ++ f n
theorem cat9_add (f : Nat → List Int) (a : Nat) : ∀ b, cat9 f (a + b) = cat9 f a ++ cat9 (fun k => f (a + k)) b := by
  intro b
  induction b with
  | zero => simp [cat9]
  | succ b ih => rw [show a + (b + 1) = (a + b) + 1 by omega]; simp only [cat9, ih, List.append_assoc]
theorem cat9_cong {f g : Nat → List Int} : ∀ {n : Nat}, (∀ k, k < n → f k = g k) → cat9 f n = cat9 g n := by
  intro n
  induction n with
  | zero => intro _; rfl
  | succ n ih => intro h; simp only [cat9, ih (fun k hk => h k (by omega)), h n (by omega)]
theorem cat9_le (f : Nat → List Int) {k n : Nat} (h : k < n) : (cat9 f k).length + (f k).length ≤ (cat9 f n).length := by
  obtain ⟨m, rfl⟩ : ∃ m, n = (k + 1) + m := ⟨n - (k + 1), by omega⟩
  rw [cat9_add]
  simp only [cat9, List.length_append]
  omega
def pA1 (m : Nat) : List Int := if m = 0 then [91] else []
def pA4 (m : Nat) : List Int := if m = 0 then [] else [if m % 3 = 0 then 43 else 44]
def pA2 (c : Option TC) (m : Nat) : List Int := match c with
  | none => []
  | some c => pA4 m ++ wCond c
def pA3 (m : Nat) : List Int := if m = 8 then [93] else []
def pcA (c : Option TC) (m : Nat) : List Int := pA1 m ++ (pA2 c m ++ pA3 m)
theorem alt_cat {a : TA} (h : okA a) {j : Nat} (hj : j < 3) : cat9 (fun k => pcA (a[k]?) (3 * j + k)) 3 = (if j = 0 then [91] else [43]) ++ (wAlt a ++ (if j = 2 then [93] else [])) := by
  have hl := h.1
  have hl2 := h.2.1
  rcases (show j = 0 ∨ j = 1 ∨ j = 2 by omega) with rfl | rfl | rfl <;> (
    match a, hl, hl2 with
    | [x], _, _ => simp [cat9, pcA, pA1, pA2, pA3, pA4, wAlt, jn]
    | [x, y], _, _ => simp [cat9, pcA, pA1, pA2, pA3, pA4, wAlt, jn]
    | [x, y, z], _, _ => simp [cat9, pcA, pA1, pA2, pA3, pA4, wAlt, jn])
theorem non_cat {j : Nat} (hj : 1 ≤ j) (hj3 : j < 3) : cat9 (fun k => pcA none (3 * j + k)) 3 = (if j = 2 then [93] else []) := by
  rcases (show j = 1 ∨ j = 2 by omega) with rfl | rfl <;> simp [cat9, pcA, pA1, pA2, pA3]
theorem pred_cat {p : TP} (h : okP p) : cat9 (fun m => pcA (aAt p m) m) 9 = wPred p := by
  have e : cat9 (fun m => pcA (aAt p m) m) 9 = cat9 (fun k => pcA ((p[0]?).bind fun a => a[k]?) (3 * 0 + k)) 3 ++ (cat9 (fun k => pcA ((p[1]?).bind fun a => a[k]?) (3 * 1 + k)) 3 ++ cat9 (fun k => pcA ((p[2]?).bind fun a => a[k]?) (3 * 2 + k)) 3) := by
    rw [show (9 : Nat) = 3 + (3 + 3) from rfl, cat9_add, cat9_add]
    have q : ∀ j, j < 3 → cat9 (fun k => pcA (aAt p (3 * j + k)) (3 * j + k)) 3 = cat9 (fun k => pcA ((p[j]?).bind fun a => a[k]?) (3 * j + k)) 3 := fun j hj => cat9_cong fun k hk => by
      unfold aAt
      rw [show (3 * j + k) / 3 = j by omega, show (3 * j + k) % 3 = k by omega]
    rw [← q 0 (by omega), ← q 1 (by omega), ← q 2 (by omega)]
    refine app2 (cat9_cong fun k _ => by rw [show 3 * 0 + k = k by omega]) (app2 rfl (cat9_cong fun k _ => by rw [show 3 + (3 + k) = 3 * 2 + k by omega]))
  rw [e]
  have hl := h.1
  have hl2 := h.2.1
  have ho := h.2.2
  match p, hl, hl2, ho with
  | [a], _, _, ho =>
    have h0 := alt_cat (ho a (by simp)) (j := 0) (by omega)
    show cat9 (fun k => pcA (a[k]?) (3 * 0 + k)) 3 ++ (cat9 (fun k => pcA none (3 * 1 + k)) 3 ++ cat9 (fun k => pcA none (3 * 2 + k)) 3) = _
    rw [h0, non_cat (by omega) (by omega), non_cat (by omega) (by omega)]
    simp [wPred, jn]
  | [a, b], _, _, ho =>
    have h0 := alt_cat (ho a (by simp)) (j := 0) (by omega)
    have h1 := alt_cat (ho b (by simp)) (j := 1) (by omega)
    show cat9 (fun k => pcA (a[k]?) (3 * 0 + k)) 3 ++ (cat9 (fun k => pcA (b[k]?) (3 * 1 + k)) 3 ++ cat9 (fun k => pcA none (3 * 2 + k)) 3) = _
    rw [h0, h1, non_cat (by omega) (by omega)]
    simp [wPred, jn]
  | [a, b, c], _, _, ho =>
    have h0 := alt_cat (ho a (by simp)) (j := 0) (by omega)
    have h1 := alt_cat (ho b (by simp)) (j := 1) (by omega)
    have h2 := alt_cat (ho c (by simp)) (j := 2) (by omega)
    show cat9 (fun k => pcA (a[k]?) (3 * 0 + k)) 3 ++ (cat9 (fun k => pcA (b[k]?) (3 * 1 + k)) 3 ++ cat9 (fun k => pcA (c[k]?) (3 * 2 + k)) 3) = _
    rw [h0, h1, h2]
    simp [wPred, jn]
def pcS (ps : List TP) (k : Nat) : List Int := pcA (cAt ps k) (k % 9)
theorem step_cat : ∀ (ps : List TP), (∀ p ∈ ps, okP p) → cat9 (pcS ps) (9 * ps.length) = ps.flatMap wPred := by
  intro ps
  induction ps with
  | nil => intro _; rfl
  | cons p ps ih =>
    intro h
    rw [List.length_cons, show 9 * (ps.length + 1) = 9 + 9 * ps.length by omega, cat9_add, List.flatMap_cons, ← ih (fun q hq => h q (List.mem_cons_of_mem _ hq)), ← pred_cat (h p List.mem_cons_self)]
    refine app2 ?_ ?_
    · exact cat9_cong fun k hk => by
        unfold pcS
        rw [cAt_cons', if_pos hk, show k % 9 = k by omega]
    · exact cat9_cong fun k hk => by
        unfold pcS
        rw [cAt_cons', if_neg (by omega), show 9 + k - 9 = k by omega, show (9 + k) % 9 = k % 9 by omega]
theorem isS_tputs {h : AH} {a o : Nat} {s : TS} (hS : isS h a s) (hab : a + 2 ≤ o ∨ o + 2 ≤ a) (l : List Int) : isS (tputs o h l) a s := hS.eq (eqA_tputs (by omega) l h) (eqA_tputs (by omega) l h)
theorem w_86 {γ : GG} {H : AH} {a o n : Nat} {s : TS} {Q : AR → AH → Prop} (hS : isS H a s) (hs : okS s) (hT : isTx H o n) (hn : n ≤ 1024) (hab : a + 2 ≤ o ∨ o + 2 ≤ a) {k : Nat} (hk : k < 27) (hl : 0 ≤ gi H o 1 ∧ gi H o 1 + (pA3 (k % 9)).length ≤ n) (kk : AW γ mX8_writeTo 6 0 0 14 [(0, vr (some a)), (1, vr (some o)), (2, vi ((k : Int) + 1))] [] (tputs o H (pA3 (k % 9))) Q) : AW γ mX8_writeTo 6 0 0 86 [(0, vr (some a)), (1, vr (some o)), (2, vi (k : Int)), (3, vi ((k : Int) % 9))] [] H Q := by
  have hS0 := hS
  obtain ⟨⟨hka, hr, hk1⟩, h0, h1, h2, h3⟩ := hS
  have hT0 := hT
  obtain ⟨hkT, hrT, hk1T⟩ := hT
  by_cases q : k % 9 = 8
  · rw [show pA3 (k % 9) = [93] by rw [q]; rfl] at kk hl
    have hl2 : gi H o 1 + 1 ≤ n := hl.2
    refine aw_iload_n dX8_writeTo_86 rfl ?_
    refine aw_bipush dX8_writeTo_87 rfl ?_
    refine aw_ic_ne (tgt := 98) dX8_writeTo_89 rfl (by omega) (by omega) (fun c89 => ?_) (fun c89 => ?_)
    · exact absurd c89 (by omega)
    · refine aw_aload_n dX8_writeTo_92 rfl ?_
      refine aw_bipush dX8_writeTo_93 rfl ?_
      refine aw_invV_n dX8_writeTo_95 vX9_put kX8_67 rfl (c_put hT0 hn (by omega) (by omega)) ⟨_, (by assumption), _, _, rfl⟩ rfl rfl (by decide) (by decide) (by decide) (Nat.le_of_ble_eq_true rfl) ?_
      refine aw_iinc (k9 := 2) (ls1 := [(2, _), (0, _), (1, _), (3, _)]) dX8_writeTo_98 rfl (by decide) rfl ?_
      refine aw_goto (tgt := 14) dX8_writeTo_101 rfl ?_
      refine aw_sub [1, 2, 0] rfl ?_
      exact kk
  · rw [show pA3 (k % 9) = [] by unfold pA3; rw [if_neg q]] at kk
    refine aw_iload_n dX8_writeTo_86 rfl ?_
    refine aw_bipush dX8_writeTo_87 rfl ?_
    refine aw_ic_ne (tgt := 98) dX8_writeTo_89 rfl (by omega) (by omega) (fun c89 => ?_) (fun c89 => ?_)
    · refine aw_iinc (k9 := 2) (ls1 := [(2, _), (0, _), (1, _), (3, _)]) dX8_writeTo_98 rfl (by decide) rfl ?_
      refine aw_goto (tgt := 14) dX8_writeTo_101 rfl ?_
      refine aw_sub [1, 2, 0] rfl ?_
      exact kk
    · exact absurd c89 (by omega)
theorem w_46 {γ : GG} {H : AH} {a o n : Nat} {s : TS} {Q : AR → AH → Prop} (hS : isS H a s) (hs : okS s) (hT : isTx H o n) (hn : n ≤ 1024) (hab : a + 2 ≤ o ∨ o + 2 ≤ a) {k : Nat} (hk : k < 27) (hl : 0 ≤ gi H o 1 ∧ gi H o 1 + (pA2 (cAt s.2 k) (k % 9)).length ≤ n) (kk : AW γ mX8_writeTo 6 0 0 86 [(0, vr (some a)), (1, vr (some o)), (2, vi (k : Int)), (3, vi ((k : Int) % 9))] [] (tputs o H (pA2 (cAt s.2 k) (k % 9))) Q) : AW γ mX8_writeTo 6 0 0 46 [(0, vr (some a)), (1, vr (some o)), (2, vi (k : Int)), (3, vi ((k : Int) % 9))] [] H Q := by
  have hS0 := hS
  obtain ⟨⟨hka, hr, hk1⟩, h0, h1, h2, h3⟩ := hS
  have hT0 := hT
  obtain ⟨hkT, hrT, hk1T⟩ := hT
  have hb := slotv_bd hs.2.2 k
  cases hc : cAt s.2 k with
  | none =>
    have es : slotv s.2 k = 0 := (slot_nz hs.2.2 k).mpr hc
    rw [hc] at kk
    refine aw_aload_n dX8_writeTo_46 rfl ?_
    refine aw_getr' (j := 3) dX8_writeTo_47 fX8_21 rfl (by assumption) rfl (by assumption) ?_
    refine aw_iload_n dX8_writeTo_50 rfl ?_
    refine aw_iald' dX8_writeTo_51 (by assumption) (by omega) (by first | decide | omega) (h3 k hk) ?_
    refine aw_if_eq (tgt := 86) dX8_writeTo_52 rfl (by omega) (fun c52 => ?_) (fun c52 => ?_)
    · exact kk
    · exact absurd c52 (by omega)
  | some c =>
    have es : slotv s.2 k = pk c := by rw [slotv_so, hc]; rfl
    have oc := (cAt_ok hs.2.2 hc).1
    have hpk := pk_bd oc
    rw [hc] at kk hl
    by_cases q0 : k % 9 = 0
    · rw [show pA2 (some c) (k % 9) = wCond c by rw [q0]; rfl] at kk hl
      refine aw_aload_n dX8_writeTo_46 rfl ?_
      refine aw_getr' (j := 3) dX8_writeTo_47 fX8_21 rfl (by first | assumption | exact hka | exact hk1 | exact hkT) rfl (by first | assumption | exact hr) ?_
      refine aw_iload_n dX8_writeTo_50 rfl ?_
      refine aw_iald' dX8_writeTo_51 (by first | assumption | exact hka | exact hk1 | exact hkT) (by omega) (by first | decide | omega) (z := pk c) (by first | exact (h3 k hk).trans es | (unfold tput; rw [gi_ne (Or.inl (by omega)), gi_ne (Or.inl (by omega))]; exact (h3 k hk).trans es)) ?_
      refine aw_if_eq (tgt := 86) dX8_writeTo_52 rfl (by omega) (fun c52 => ?_) (fun c52 => ?_)
      · exact absurd c52 (by omega)
      · refine aw_iload_n dX8_writeTo_55 rfl ?_
        refine aw_if_le (tgt := 76) dX8_writeTo_56 rfl (by omega) (fun c56 => ?_) (fun c56 => ?_)
        · refine aw_aload_n dX8_writeTo_76 rfl ?_
          refine aw_aload_n dX8_writeTo_77 rfl ?_
          refine aw_getr' (j := 3) dX8_writeTo_78 fX8_21 rfl (by first | assumption | exact hka | exact hk1 | exact hkT) rfl (by first | assumption | exact hr) ?_
          refine aw_iload_n dX8_writeTo_81 rfl ?_
          refine aw_iald' dX8_writeTo_82 (by first | assumption | exact hka | exact hk1 | exact hkT) (by omega) (by first | decide | omega) (z := pk c) (by first | exact (h3 k hk).trans es | (unfold tput; rw [gi_ne (Or.inl (by omega)), gi_ne (Or.inl (by omega))]; exact (h3 k hk).trans es)) ?_
          refine aw_invS_n dX8_writeTo_83 sX0_writeTo kX8_70 rfl (c_cwriteTo oc hn hT0 hl) rfl rfl (by decide) (by decide) (by decide) (Nat.le_of_ble_eq_true rfl) ?_
          exact kk
        · exact absurd c56 (by omega)
    · by_cases q3 : k % 3 = 0
      · rw [show pA2 (some c) (k % 9) = 43 :: wCond c by simp [pA2, pA4, q0]; omega] at kk hl
        rw [List.length_cons] at hl
        refine aw_aload_n dX8_writeTo_46 rfl ?_
        refine aw_getr' (j := 3) dX8_writeTo_47 fX8_21 rfl (by first | assumption | exact hka | exact hk1 | exact hkT) rfl (by first | assumption | exact hr) ?_
        refine aw_iload_n dX8_writeTo_50 rfl ?_
        refine aw_iald' dX8_writeTo_51 (by first | assumption | exact hka | exact hk1 | exact hkT) (by omega) (by first | decide | omega) (z := pk c) (by first | exact (h3 k hk).trans es | (unfold tput; rw [gi_ne (Or.inl (by omega)), gi_ne (Or.inl (by omega))]; exact (h3 k hk).trans es)) ?_
        refine aw_if_eq (tgt := 86) dX8_writeTo_52 rfl (by omega) (fun c52 => ?_) (fun c52 => ?_)
        · exact absurd c52 (by omega)
        · refine aw_iload_n dX8_writeTo_55 rfl ?_
          refine aw_if_le (tgt := 76) dX8_writeTo_56 rfl (by omega) (fun c56 => ?_) (fun c56 => ?_)
          · exact absurd c56 (by omega)
          · refine aw_aload_n dX8_writeTo_59 rfl ?_
            refine aw_iload_n dX8_writeTo_60 rfl ?_
            refine aw_iconst dX8_writeTo_61 ?_
            refine aw_irem dX8_writeTo_62 (by omega) (by omega) ?_
            refine aw_if_ne (tgt := 71) dX8_writeTo_63 rfl (by omega) (fun c63 => ?_) (fun c63 => ?_)
            · exact absurd c63 (by omega)
            · refine aw_bipush dX8_writeTo_66 rfl ?_
              refine aw_goto (tgt := 73) dX8_writeTo_68 rfl ?_
              refine aw_invV_n dX8_writeTo_73 vX9_put kX8_67 rfl (c_put hT0 hn (by omega) (by omega)) ⟨_, (by first | assumption | exact hka | exact hk1 | exact hkT), _, _, rfl⟩ rfl rfl (by decide) (by decide) (by decide) (Nat.le_of_ble_eq_true rfl) ?_
              refine aw_aload_n dX8_writeTo_76 rfl ?_
              refine aw_aload_n dX8_writeTo_77 rfl ?_
              refine aw_getr' (j := 3) dX8_writeTo_78 fX8_21 rfl (by first | assumption | exact hka | exact hk1 | exact hkT) rfl (by first | assumption | exact hr) ?_
              refine aw_iload_n dX8_writeTo_81 rfl ?_
              refine aw_iald' dX8_writeTo_82 (by first | assumption | exact hka | exact hk1 | exact hkT) (by omega) (by first | decide | omega) (z := pk c) (by first | exact (h3 k hk).trans es | (unfold tput; rw [gi_ne (Or.inl (by omega)), gi_ne (Or.inl (by omega))]; exact (h3 k hk).trans es)) ?_
              refine aw_invS_n dX8_writeTo_83 sX0_writeTo kX8_70 rfl (c_cwriteTo oc hn (isTx_tputs [43] _ hT0) (by have := gi_tputs_len o [43] H; rw [show gi (tput o H 43) o 1 = gi H o 1 + 1 from this]; omega)) rfl rfl (by decide) (by decide) (by decide) (Nat.le_of_ble_eq_true rfl) ?_
              exact kk
      · rw [show pA2 (some c) (k % 9) = 44 :: wCond c by simp [pA2, pA4, q0]; omega] at kk hl
        rw [List.length_cons] at hl
        refine aw_aload_n dX8_writeTo_46 rfl ?_
        refine aw_getr' (j := 3) dX8_writeTo_47 fX8_21 rfl (by first | assumption | exact hka | exact hk1 | exact hkT) rfl (by first | assumption | exact hr) ?_
        refine aw_iload_n dX8_writeTo_50 rfl ?_
        refine aw_iald' dX8_writeTo_51 (by first | assumption | exact hka | exact hk1 | exact hkT) (by omega) (by first | decide | omega) (z := pk c) (by first | exact (h3 k hk).trans es | (unfold tput; rw [gi_ne (Or.inl (by omega)), gi_ne (Or.inl (by omega))]; exact (h3 k hk).trans es)) ?_
        refine aw_if_eq (tgt := 86) dX8_writeTo_52 rfl (by omega) (fun c52 => ?_) (fun c52 => ?_)
        · exact absurd c52 (by omega)
        · refine aw_iload_n dX8_writeTo_55 rfl ?_
          refine aw_if_le (tgt := 76) dX8_writeTo_56 rfl (by omega) (fun c56 => ?_) (fun c56 => ?_)
          · exact absurd c56 (by omega)
          · refine aw_aload_n dX8_writeTo_59 rfl ?_
            refine aw_iload_n dX8_writeTo_60 rfl ?_
            refine aw_iconst dX8_writeTo_61 ?_
            refine aw_irem dX8_writeTo_62 (by omega) (by omega) ?_
            refine aw_if_ne (tgt := 71) dX8_writeTo_63 rfl (by omega) (fun c63 => ?_) (fun c63 => ?_)
            · refine aw_bipush dX8_writeTo_71 rfl ?_
              refine aw_invV_n dX8_writeTo_73 vX9_put kX8_67 rfl (c_put hT0 hn (by omega) (by omega)) ⟨_, (by first | assumption | exact hka | exact hk1 | exact hkT), _, _, rfl⟩ rfl rfl (by decide) (by decide) (by decide) (Nat.le_of_ble_eq_true rfl) ?_
              refine aw_aload_n dX8_writeTo_76 rfl ?_
              refine aw_aload_n dX8_writeTo_77 rfl ?_
              refine aw_getr' (j := 3) dX8_writeTo_78 fX8_21 rfl (by first | assumption | exact hka | exact hk1 | exact hkT) rfl (by first | assumption | exact hr) ?_
              refine aw_iload_n dX8_writeTo_81 rfl ?_
              refine aw_iald' dX8_writeTo_82 (by first | assumption | exact hka | exact hk1 | exact hkT) (by omega) (by first | decide | omega) (z := pk c) (by first | exact (h3 k hk).trans es | (unfold tput; rw [gi_ne (Or.inl (by omega)), gi_ne (Or.inl (by omega))]; exact (h3 k hk).trans es)) ?_
              refine aw_invS_n dX8_writeTo_83 sX0_writeTo kX8_70 rfl (c_cwriteTo oc hn (isTx_tputs [44] _ hT0) (by have := gi_tputs_len o [44] H; rw [show gi (tput o H 44) o 1 = gi H o 1 + 1 from this]; omega)) rfl rfl (by decide) (by decide) (by decide) (Nat.le_of_ble_eq_true rfl) ?_
              exact kk
            · exact absurd c63 (by omega)
theorem w_31 {γ : GG} {H : AH} {a o n : Nat} {s : TS} {Q : AR → AH → Prop} (hS : isS H a s) (hs : okS s) (hT : isTx H o n) (hn : n ≤ 1024) (hab : a + 2 ≤ o ∨ o + 2 ≤ a) {k : Nat} (hk : k < 27) (hl : 0 ≤ gi H o 1 ∧ gi H o 1 + (pcS s.2 k).length ≤ n) (kk : AW γ mX8_writeTo 6 0 0 14 [(0, vr (some a)), (1, vr (some o)), (2, vi ((k : Int) + 1))] [] (tputs o H (pcS s.2 k)) Q) : AW γ mX8_writeTo 6 0 0 31 [(0, vr (some a)), (1, vr (some o)), (2, vi (k : Int))] [] H Q := by
  unfold pcS pcA at hl kk
  simp only [List.length_append] at hl
  rw [tputs_app, tputs_app] at kk
  have n1 := gi_tputs_len o (pA1 (k % 9)) H
  have n2 := gi_tputs_len o (pA2 (cAt s.2 k) (k % 9)) (tputs o H (pA1 (k % 9)))
  have k86 := w_86 (isS_tputs (isS_tputs hS hab (pA1 (k % 9))) hab (pA2 (cAt s.2 k) (k % 9))) hs (isTx_tputs _ _ (isTx_tputs _ _ hT)) hn hab hk (by omega) kk
  have k46 := w_46 (isS_tputs hS hab (pA1 (k % 9))) hs (isTx_tputs _ _ hT) hn hab hk (by omega) k86
  have hS0 := hS
  obtain ⟨⟨hka, hr, hk1⟩, h0, h1, h2, h3⟩ := hS
  have hT0 := hT
  obtain ⟨hkT, hrT, hk1T⟩ := hT
  by_cases q : k % 9 = 0
  · rw [show pA1 (k % 9) = [91] by rw [q]; rfl] at k46 hl
    have hl2 : gi H o 1 + 1 ≤ n := by have := hl.2; simp only [List.length_singleton] at this; omega
    refine aw_iload_n dX8_writeTo_31 rfl ?_
    refine aw_bipush dX8_writeTo_32 rfl ?_
    refine aw_irem dX8_writeTo_34 (by omega) (by omega) ?_
    refine aw_istore_n (ls1 := [(3, _), (0, _), (1, _), (2, _)]) dX8_writeTo_35 (by decide) rfl ?_
    refine aw_iload_n dX8_writeTo_36 rfl ?_
    refine aw_if_ne (tgt := 46) dX8_writeTo_37 rfl (by omega) (fun c37 => ?_) (fun c37 => ?_)
    · exact absurd c37 (by omega)
    · refine aw_aload_n dX8_writeTo_40 rfl ?_
      refine aw_bipush dX8_writeTo_41 rfl ?_
      refine aw_invV_n dX8_writeTo_43 vX9_put kX8_67 rfl (c_put hT0 hn (by omega) (by omega)) ⟨_, (by assumption), _, _, rfl⟩ rfl rfl (by decide) (by decide) (by decide) (Nat.le_of_ble_eq_true rfl) ?_
      refine aw_sub [1, 2, 3, 0] rfl ?_
      exact k46
  · rw [show pA1 (k % 9) = [] by unfold pA1; rw [if_neg q]] at k46
    refine aw_iload_n dX8_writeTo_31 rfl ?_
    refine aw_bipush dX8_writeTo_32 rfl ?_
    refine aw_irem dX8_writeTo_34 (by omega) (by omega) ?_
    refine aw_istore_n (ls1 := [(3, _), (0, _), (1, _), (2, _)]) dX8_writeTo_35 (by decide) rfl ?_
    refine aw_iload_n dX8_writeTo_36 rfl ?_
    refine aw_if_ne (tgt := 46) dX8_writeTo_37 rfl (by omega) (fun c37 => ?_) (fun c37 => ?_)
    · refine aw_sub [1, 2, 3, 0] rfl ?_
      exact k46
    · exact absurd c37 (by omega)
theorem l_swr {γ : GG} {h : AH} {a o n : Nat} {s : TS} (hS : isS h a s) (hs : okS s) (hT : isTx h o n) (hn : n ≤ 1024) (hab : a + 2 ≤ o ∨ o + 2 ≤ a) (hl : 0 ≤ gi h o 1 ∧ gi h o 1 + (wStep s).length ≤ n) : ∀ (m k : Nat), k + m = 9 * s.2.length → AW γ mX8_writeTo 6 0 0 14 [(0, vr (some a)), (1, vr (some o)), (2, vi (k : Int))] [] (tputs o h (wTest s.1 ++ cat9 (pcS s.2) k)) (rN (tputs o h (wStep s))) := by
  have hl3 := hs.2.1
  have ec := step_cat s.2 hs.2.2
  unfold wStep at hl ⊢
  rw [← ec] at hl ⊢
  intro m
  induction m with
  | zero =>
    intro k hkm
    have e : k = 9 * s.2.length := by omega
    rw [← e]
    obtain ⟨⟨hka, hr, hk1⟩, h0, h1, h2, h3⟩ := isS_tputs hS hab (wTest s.1 ++ cat9 (pcS s.2) k)
    refine aw_iload_n dX8_writeTo_14 rfl ?_
    refine aw_aload_n dX8_writeTo_15 rfl ?_
    refine aw_geti' (j := 2) dX8_writeTo_16 fX8_18 rfl (by assumption) rfl h2 ?_
    refine aw_bipush dX8_writeTo_19 rfl ?_
    refine aw_imul dX8_writeTo_21 ?_
    refine aw_ic_ge (tgt := 104) dX8_writeTo_22 rfl (by omega) (by omega) (fun c22 => ?_) (fun c22 => ?_)
    · exact aw_return dX8_writeTo_104 rfl (Or.inl rfl) ⟨rfl, rfl⟩
    · exact absurd c22 (by omega)
  | succ m ih =>
    intro k hkm
    have ih' := ih (k + 1) (by omega)
    simp only [cat9] at ih'
    rw [← List.append_assoc, tputs_app] at ih'
    have hle := cat9_le (pcS s.2) (k := k) (n := 9 * s.2.length) (by omega)
    have n1 := gi_tputs_len o (wTest s.1 ++ cat9 (pcS s.2) k) h
    simp only [List.length_append] at hl n1
    have K := w_31 (isS_tputs hS hab (wTest s.1 ++ cat9 (pcS s.2) k)) hs (isTx_tputs _ _ hT) hn hab (k := k) (by omega) (by omega) ih'
    obtain ⟨⟨hka, hr, hk1⟩, h0, h1, h2, h3⟩ := isS_tputs hS hab (wTest s.1 ++ cat9 (pcS s.2) k)
    refine aw_iload_n dX8_writeTo_14 rfl ?_
    refine aw_aload_n dX8_writeTo_15 rfl ?_
    refine aw_geti' (j := 2) dX8_writeTo_16 fX8_18 rfl (by assumption) rfl h2 ?_
    refine aw_bipush dX8_writeTo_19 rfl ?_
    refine aw_imul dX8_writeTo_21 ?_
    refine aw_ic_ge (tgt := 104) dX8_writeTo_22 rfl (by omega) (by omega) (fun c22 => ?_) (fun c22 => ?_)
    · exact absurd c22 (by omega)
    · refine aw_iload_n dX8_writeTo_25 rfl ?_
      refine aw_bipush dX8_writeTo_26 rfl ?_
      refine aw_ic_ge (tgt := 104) dX8_writeTo_28 rfl (by omega) (by omega) (fun c28 => ?_) (fun c28 => ?_)
      · exact absurd c28 (by omega)
      · exact K
theorem c_swr {γ : GG} {h : AH} {a o n : Nat} {s : TS} (hS : isS h a s) (hs : okS s) (hT : isTx h o n) (hn : n ≤ 1024) (hab : a + 2 ≤ o ∨ o + 2 ≤ a) (hl : 0 ≤ gi h o 1 ∧ gi h o 1 + (wStep s).length ≤ n) : Call γ mX8_writeTo 6 0 0 [vr (some a), vr (some o)] h (rN (tputs o h (wStep s))) := by
  have K := l_swr (γ := γ) hS hs hT hn hab hl (9 * s.2.length) 0 (by omega)
  simp only [cat9, List.append_nil] at K
  have hl1 : gi h o 1 + (wTest s.1).length ≤ n := by have := hl.2; unfold wStep at this; rw [List.length_append] at this; omega
  have K1 := c_putTest (γ := γ) hT hn hs.1 ⟨hl.1, hl1⟩
  obtain ⟨⟨hka, hr, hk1⟩, h0, h1, h2, h3⟩ := hS
  obtain ⟨hkT, hrT, hk1T⟩ := hT
  refine Call.of (ls := [(0, vr (some a)), (1, vr (some o))]) vX8_writeTo.1 (Nat.le_of_ble_eq_true rfl) rfl ?_
  refine aw_aload_n dX8_writeTo_0 rfl ?_
  refine aw_aload_n dX8_writeTo_1 rfl ?_
  refine aw_geti' (j := 0) dX8_writeTo_2 fX8_9 rfl (by assumption) rfl h0 ?_
  refine aw_aload_n dX8_writeTo_5 rfl ?_
  refine aw_geti' (j := 1) dX8_writeTo_6 fX8_15 rfl (by assumption) rfl h1 ?_
  refine aw_invV_n dX8_writeTo_9 vX9_putTest kX8_61 rfl (K1) ⟨_, (by assumption), _, _, rfl⟩ rfl rfl (by decide) (by decide) (by decide) (Nat.le_of_ble_eq_true rfl) ?_
  refine aw_iconst dX8_writeTo_12 ?_
  refine aw_istore_n (ls1 := [(2, _), (0, _), (1, _)]) dX8_writeTo_13 (by decide) rfl ?_
  refine aw_sub [1, 2, 0] rfl ?_
  exact K
