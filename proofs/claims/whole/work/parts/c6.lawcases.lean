/-! the law: what it reads of its script; what it keeps from call to call -/
theorem ap_fg {Pp : State → Prop} {γ : GG} {M : MD} {d kc ks pc : Nat} {ls : List (Nat × AV)} {st : List AV} {h : AH} {Q : AR → AH → Prop} (k : AP Pp γ M d kc ks pc ls st (fg h) Q) : AP Pp γ M d kc ks pc ls st h Q := by
  intro p l e R s m args below meth c D E Zn mc ms H locs cells slots lsM N9 F V
  exact k p l e R s m args below meth c D E Zn mc ms H locs cells slots lsM N9 F ⟨V.1, V.2.1, V.2.2.1, V.2.2.2.1, V.2.2.2.2.1, ⟨fun n hn => absurd hn (by show ¬ (none : Option Nat) = some n; exact nofun), fun _ => rfl⟩⟩
theorem ap_less {Pp : State → Prop} {γ : GG} {M : MD} {d kc ks pc : Nat} {ls : List (Nat × AV)} {st : List AV} {h : AH} {Q : AR → AH → Prop} {kc' ks' : Nat} (hn : nx h = none) (h1 : kc' ≤ kc) (h2 : ks' ≤ ks) (k : AP Pp γ M d kc' ks' pc ls st h Q) : AP Pp γ M d kc ks pc ls st h Q := by
  intro p l e R s m args below meth c D E Zn mc ms H locs cells slots lsM N9 F V
  have v1 := V.1
  have v2 := V.2.1
  exact k p l e R s m args below meth c D E Zn mc ms H locs cells slots lsM N9 F ⟨by omega, by omega, V.2.2.1, V.2.2.2.1, V.2.2.2.2.1, ⟨fun n q => absurd (hn.symm.trans q) nofun, fun _ => hn⟩⟩
theorem ap_slen {Pp : State → Prop} {γ : GG} {M : MD} {d kc ks pc : Nat} {ls : List (Nat × AV)} {st : List AV} {h : AH} {Q : AR → AH → Prop} {b L : Nat} {zs : Nat → Int} (hP : ∀ s, Pp s → va_X b L (fun k => Int32.ofInt (zs k)) s s.heap) (hb9 : b < γ.1) (hd : decode M.2.1 pc = .ok (.arraylength, 1)) (kk : AP Pp γ M d kc ks (pc + 1) ls (vi (L : Int) :: st) h Q) : AP Pp γ M d kc ks pc ls (vr (some b) :: st) h Q := by
  intro p l e R s m args below meth c D E Zn mc ms H locs cells slots lsM N9 F V
  obtain ⟨hx, hb, hr, hml, hown, hlocks, hname, htab, htr, hG, hfr, hlo, hmc, hms, hK, hsz⟩ := id F
  obtain ⟨hc1, hc2, hR, hS, hl, hN⟩ := id V
  exact va_slen hx hb (hP s N9) (Nat.lt_of_lt_of_le hb9 hsz) (Nat.not_le.mpr hb9) hS hd (kk p l e R s m args below meth c D E Zn mc ms H locs cells slots lsM N9 F V)
theorem ap_sld {Pp : State → Prop} {γ : GG} {M : MD} {d kc ks pc : Nat} {ls : List (Nat × AV)} {st : List AV} {h : AH} {Q : AR → AH → Prop} {b L : Nat} {zs : Nat → Int} {j : Int} {v : Int} (hP : ∀ s, Pp s → va_X b L (fun k => Int32.ofInt (zs k)) s s.heap) (hb9 : b < γ.1) (hL : L ≤ 2560) (hd : decode M.2.1 pc = .ok (.iaload, 1)) (hj : 0 ≤ j ∧ j < L) (hv : zs j.toNat = v) (kk : AP Pp γ M d kc ks (pc + 1) ls (vi v :: st) h Q) : AP Pp γ M d kc ks pc ls (vi j :: vr (some b) :: st) h Q := by
  intro p l e R s m args below meth c D E Zn mc ms H locs cells slots lsM N9 F V
  obtain ⟨hx, hb, hr, hml, hown, hlocks, hname, htab, htr, hG, hfr, hlo, hmc, hms, hK, hsz⟩ := id F
  obtain ⟨hc1, hc2, hR, hS, hl, hN⟩ := id V
  obtain ⟨g1, g2⟩ := i32_clamp hj.1 hj.2 (by omega)
  have g3 : (Int32.ofInt j).toNatClampNeg = j.toNat := by omega
  refine va_sld hx hb (hP s N9) (Nat.lt_of_lt_of_le hb9 hsz) (Nat.not_le.mpr hb9) hS g1 hd ?_
  rw [g3, hv]
  exact kk p l e R s m args below meth c D E Zn mc ms H locs cells slots lsM N9 F V
def mL_law : MD := (yL_law, cL_law, 7, ret, [])
theorem isMd.fr {h h' : AH} {a : Nat} {S : St} {U : List St} {tx : List Nat} (hm : isMd h a S U tx) (e : ∀ b, a ≤ b → b < a + 18 → eqA h h' b) : isMd h' a S U tx := by
  obtain ⟨h1, h2, h3, h4, h5, h6, h7, h8, h9, h10, h11⟩ := hm
  have e0 : ∀ j, gi h' a j = gi h a j := fun j => ((e a (by omega) (by omega)).2 j).1
  have e1 : gi h' (a + 1) = gi h (a + 1) := funext fun j => ((e (a + 1) (by omega) (by omega)).2 j).1
  have e2 : gi h' (a + 2) = gi h (a + 2) := funext fun j => ((e (a + 2) (by omega) (by omega)).2 j).1
  have e3 : gi h' (a + 3) = gi h (a + 3) := funext fun j => ((e (a + 3) (by omega) (by omega)).2 j).1
  refine ⟨h1.eq (fun c q1 q2 => (e c q1 q2).1) (fun j => ((e a (by omega) (by omega)).2 j).2.2), ?_, h3, (e0 2).trans h4, h5, h6, ?_, (e0 4).trans h8, h9, h10, ?_⟩
  · rw [e1]; exact h2
  · rw [e2]; exact h7
  · rw [e3]; exact h11
/-- between two calls: the class's object and the model agree on the state; the cell for a value -/
def Lw9 (h : AH) (c : Nat) (F : FS) : Prop := isCl h c F ∧ isF h (c + 1704) F ∧ kd h (c + 1722) = some (.inr (2, 1)) ∧ nx h = none
/-- after the class's call: the model is as it was -/
theorem Lw9.w {h h' : AH} {c : Nat} {F : FS} {q : Int × Int × FS} (hI : Lw9 h c F) (r : isCl h' c q.2.2 ∧ nx h' = none ∧ (q.1 = 0 → gl h' (c + 1722) 0 = i6 q.2.1) ∧ kd h' (c + 1722) = kd h (c + 1722) ∧ ∀ b, (b < c ∨ c + 1704 ≤ b) → b ≠ c + 1722 → eqA h h' b) : isF h' (c + 1704) F ∧ kd h' (c + 1722) = some (.inr (2, 1)) :=
  ⟨isMd.fr hI.2.1 (fun b b1 b2 => r.2.2.2.2 b (by omega) (by omega)), r.2.2.2.1.trans hI.2.2.1⟩
/-- after the model's call -/
theorem Lw9.m {h h' : AH} {c : Nat} {F1 F' : FS} (h1 : isCl h c F1) (h2 : nx h = none) (h3 : kd h (c + 1722) = some (.inr (2, 1))) (e : eqO h h' (c + 1704) (c + 1722)) (hm : isF h' (c + 1704) F') (hF : F1 = F') : Lw9 h' c F' :=
  ⟨hF ▸ h1.eq (fun b b1 b2 => e.2 b (by omega)), hm, ((e.2 (c + 1722) (by omega)).1).trans h3, e.1.trans h2⟩
theorem SAo {h h' : AH} {a : Nat} (e : eqG (SA a) h h') : eqO h h' a (a + 18) := eqG_O e (fun b j hs => by unfold SA at hs; omega)
abbrev lL (i : Int) (b c : Nat) : List (Nat × AV) := [(4, vi i), (0, vr (some b)), (1, vr (some c)), (2, vr (some (c + 1704))), (3, vr (some (c + 1722)))]
/-- what a case of the law's switch is told -/
def LC (Pp : State → Prop) (γ : GG) (b L c : Nat) (zs : Nat → Int) (i : Int) : Prop := (∀ s, Pp s → Nc9 s) ∧ (∀ s, Pp s → va_X b L (fun k => Int32.ofInt (zs k)) s s.heap) ∧ b < γ.1 ∧ L ≤ 2560 ∧ (0 ≤ i ∧ i + 5 ≤ L) ∧ ∀ k, -2147483648 ≤ zs k ∧ zs k ≤ 2147483647
theorem k_addNode {Pp : State → Prop} {γ : GG} {b L c : Nat} {zs : Nat → Int} {i : Int} {kc ks : Nat} {h : AH} {F : FS} {Q : AR → AH → Prop} (hC : LC Pp γ b L c zs i) (hI : Lw9 h c F) (hkc : 1 ≤ kc) (hks : 6 ≤ ks) (kk : ∀ (h' : AH) (F' : FS), Lw9 h' c F' → AP Pp γ mL_law 14 (kc - 1) (ks - 6) 1544 (lL i b c) [] h' Q) : AP Pp γ mL_law 14 kc ks 144 (lL i b c) [] h Q := by
  obtain ⟨hNc, hX, hb, hL, hi, hz⟩ := hC
  refine ap_aload_n dL_law_144 rfl ?_
  refine ap_aload_n dL_law_145 rfl ?_
  refine ap_iload dL_law_146 rfl ?_
  refine ap_iconst dL_law_148 ?_
  refine ap_iadd dL_law_149 ?_
  refine ap_sld hX hb hL dL_law_150 ⟨by omega, by omega⟩ rfl ?_
  refine ap_aload_n dL_law_151 rfl ?_
  refine ap_iload dL_law_152 rfl ?_
  refine ap_iconst dL_law_154 ?_
  refine ap_iadd dL_law_155 ?_
  refine ap_sld hX hb hL dL_law_156 ⟨by omega, by omega⟩ rfl ?_
  refine ap_aload_n dL_law_157 rfl ?_
  refine ap_iload dL_law_158 rfl ?_
  refine ap_iconst dL_law_160 ?_
  refine ap_iadd dL_law_161 ?_
  refine ap_sld hX hb hL dL_law_162 ⟨by omega, by omega⟩ rfl ?_
  refine ap_aload_n dL_law_163 rfl ?_
  refine ap_invSH (st := []) (as := [vr (some c), vi (zs (i + 1).toNat), vi (zs (i + 2).toNat), vi (zs (i + 3).toNat), vr (some (c + 1722))]) hNc dL_law_164 sL_addNode kL_86 rfl (w_addNode (γ := γ) hI.1 hI.2.2.2 hI.2.2.1 (Or.inr (by omega)) (hz _) (hz _) (hz _)) rfl rfl (by decide) hkc hks (Nat.le_of_ble_eq_true rfl) (fun h1 r1 => ?_)
  obtain ⟨hm1, hk1⟩ := Lw9.w hI r1
  obtain ⟨g1, g2, g3, -, -⟩ := r1
  have hm := m_addNode (γ := γ) hm1 (hz (i + 1).toNat) (hz (i + 2).toNat) (hz (i + 3).toNat)
  have cd : 0 ≤ (opAdd F (zs (i + 1).toNat) (zs (i + 2).toNat) (zs (i + 3).toNat)).1 ∧ (opAdd F (zs (i + 1).toNat) (zs (i + 2).toNat) (zs (i + 3).toNat)).1 ≤ 3 := by
    rcases cd_addNode (F := F) (p := zs (i + 1).toNat) (x := zs (i + 2).toNat) (y := zs (i + 3).toNat) with z | z | z | z <;> omega
  generalize opAdd F (zs (i + 1).toNat) (zs (i + 2).toNat) (zs (i + 3).toNat) = op9 at g1 g3 hm cd ⊢
  obtain ⟨k9, v9, F9⟩ := op9
  dsimp only at g1 g3 cd ⊢
  refine ap_istore (ls1 := (5, vi k9) :: lL i b c) dL_law_167 (by decide) rfl ?_
  refine ap_aload_n dL_law_169 rfl ?_
  refine ap_aload_n dL_law_170 rfl ?_
  refine ap_iload dL_law_171 rfl ?_
  refine ap_iconst dL_law_173 ?_
  refine ap_iadd dL_law_174 ?_
  refine ap_sld hX hb hL dL_law_175 ⟨by omega, by omega⟩ rfl ?_
  refine ap_aload_n dL_law_176 rfl ?_
  refine ap_iload dL_law_177 rfl ?_
  refine ap_iconst dL_law_179 ?_
  refine ap_iadd dL_law_180 ?_
  refine ap_sld hX hb hL dL_law_181 ⟨by omega, by omega⟩ rfl ?_
  refine ap_aload_n dL_law_182 rfl ?_
  refine ap_iload dL_law_183 rfl ?_
  refine ap_iconst dL_law_185 ?_
  refine ap_iadd dL_law_186 ?_
  refine ap_sld hX hb hL dL_law_187 ⟨by omega, by omega⟩ rfl ?_
  refine ap_invV_e (st := []) (as := [vi (zs (i + 1).toNat), vi (zs (i + 2).toNat), vi (zs (i + 3).toNat)]) dL_law_188 vX12_addNode kL_91 rfl hm ⟨_, hm1.1.1, _, _, rfl⟩ rfl rfl (by decide) (Nat.zero_le _) (Nat.zero_le _) (Nat.le_of_ble_eq_true rfl) (fun h2 q2 => ?_)
  obtain ⟨f1, f2, f3⟩ := q2
  dsimp only at f1 f2
  have f4 := SAo f3
  have hI2 : Lw9 h2 c F9 := Lw9.m g1 g2 hk1 f4 f1 rfl
  have g4 : k9 = 0 → gl h2 (c + 1722) 0 = i6 v9 := fun z => ((f4.2 (c + 1722) (by omega)).2 0).2.1.trans (g3 z)
  refine ap_istore (ls1 := (6, vi v9) :: (5, vi k9) :: lL i b c) dL_law_191 (by decide) rfl ?_
  refine ap_aload_n dL_law_193 rfl ?_
  refine ap_invV_r (st := []) (as := []) dL_law_194 vX12_thrown kL_92 rfl (m_thrown (γ := γ) f1.1.1) ⟨_, f1.1.1, _, _, rfl⟩ rfl rfl (by decide) (Nat.zero_le _) (Nat.zero_le _) (Nat.le_of_ble_eq_true rfl) ?_
  rw [f2]
  refine ap_iload dL_law_197 rfl ?_
  refine ap_ic_eq (tgt := 204) dL_law_199 (by decide) ⟨by omega, by omega⟩ ⟨by omega, by omega⟩ (fun _ => ?_) (fun z => absurd rfl z)
  refine ap_iload dL_law_204 rfl ?_
  have kend : AP Pp γ mL_law 14 (kc - 1 - 0 - 0) (ks - 6 - 0 - 0) 221 ((6, vi v9) :: (5, vi k9) :: lL i b c) [] h2 Q := ap_goto (tgt := 1544) dL_law_221 (by decide) (ap_sub [2, 3, 4, 5, 6] rfl (kk h2 F9 hI2))
  refine ap_if_ne (tgt := 221) dL_law_206 (by decide) ⟨by omega, by omega⟩ (fun _ => kend) (fun z => ?_)
  have z0 : k9 = 0 := Classical.not_not.mp z
  refine ap_aload_n dL_law_209 rfl ?_
  refine ap_iconst dL_law_210 ?_
  refine ap_lald dL_law_211 hI2.2.2.1 ⟨by omega, by omega⟩ (by omega) ?_
  rw [g4 z0]
  refine ap_iload dL_law_212 rfl ?_
  refine ap_i2l dL_law_214 rfl ?_
  refine ap_lcmp dL_law_215 (fun _ => ?_) (fun z9 z1 z2 => absurd rfl z2)
  exact ap_if_eq (tgt := 221) dL_law_216 (by decide) ⟨by omega, by omega⟩ (fun _ => kend) (fun z => absurd rfl z)
theorem k_removeNode {Pp : State → Prop} {γ : GG} {b L c : Nat} {zs : Nat → Int} {i : Int} {kc ks : Nat} {h : AH} {F : FS} {Q : AR → AH → Prop} (hC : LC Pp γ b L c zs i) (hI : Lw9 h c F) (hkc : 1 ≤ kc) (hks : 6 ≤ ks) (kk : ∀ (h' : AH) (F' : FS), Lw9 h' c F' → AP Pp γ mL_law 14 (kc - 1) (ks - 6) 1544 (lL i b c) [] h' Q) : AP Pp γ mL_law 14 kc ks 224 (lL i b c) [] h Q := by
  obtain ⟨hNc, hX, hb, hL, hi, hz⟩ := hC
  refine ap_aload_n dL_law_224 rfl ?_
  refine ap_aload_n dL_law_225 rfl ?_
  refine ap_iload dL_law_226 rfl ?_
  refine ap_iconst dL_law_228 ?_
  refine ap_iadd dL_law_229 ?_
  refine ap_sld hX hb hL dL_law_230 ⟨by omega, by omega⟩ rfl ?_
  refine ap_aload_n dL_law_231 rfl ?_
  refine ap_invSH (st := []) (as := [vr (some c), vi (zs (i + 1).toNat), vr (some (c + 1722))]) hNc dL_law_232 sL_removeNode kL_95 rfl (w_removeNode (γ := γ) hI.1 hI.2.2.2 hI.2.2.1 (Or.inr (by omega)) (hz _)) rfl rfl (by decide) hkc hks (Nat.le_of_ble_eq_true rfl) (fun h1 r1 => ?_)
  obtain ⟨hm1, hk1⟩ := Lw9.w hI r1
  obtain ⟨g1, g2, g3, -, -⟩ := r1
  have hm := m_removeNode (γ := γ) hm1 (hz (i + 1).toNat)
  have cd : 0 ≤ (opRem F (zs (i + 1).toNat)).1 ∧ (opRem F (zs (i + 1).toNat)).1 ≤ 2 := by
    rcases cd_removeNode (F := F) (p := zs (i + 1).toNat) with z | z | z <;> omega
  generalize opRem F (zs (i + 1).toNat) = op9 at g1 g3 hm cd ⊢
  obtain ⟨k9, v9, F9⟩ := op9
  dsimp only at g1 g3 cd ⊢
  refine ap_istore (ls1 := (5, vi k9) :: lL i b c) dL_law_235 (by decide) rfl ?_
  refine ap_aload_n dL_law_237 rfl ?_
  refine ap_aload_n dL_law_238 rfl ?_
  refine ap_iload dL_law_239 rfl ?_
  refine ap_iconst dL_law_241 ?_
  refine ap_iadd dL_law_242 ?_
  refine ap_sld hX hb hL dL_law_243 ⟨by omega, by omega⟩ rfl ?_
  refine ap_invV_e (st := []) (as := [vi (zs (i + 1).toNat)]) dL_law_244 vX12_removeNode kL_98 rfl hm ⟨_, hm1.1.1, _, _, rfl⟩ rfl rfl (by decide) (Nat.zero_le _) (Nat.zero_le _) (Nat.le_of_ble_eq_true rfl) (fun h2 q2 => ?_)
  obtain ⟨f1, f2, f3⟩ := q2
  dsimp only at f1 f2
  have f4 := SAo f3
  have hI2 : Lw9 h2 c F9 := Lw9.m g1 g2 hk1 f4 f1 rfl
  have g4 : k9 = 0 → gl h2 (c + 1722) 0 = i6 v9 := fun z => ((f4.2 (c + 1722) (by omega)).2 0).2.1.trans (g3 z)
  refine ap_istore (ls1 := (6, vi v9) :: (5, vi k9) :: lL i b c) dL_law_247 (by decide) rfl ?_
  refine ap_aload_n dL_law_249 rfl ?_
  refine ap_invV_r (st := []) (as := []) dL_law_250 vX12_thrown kL_92 rfl (m_thrown (γ := γ) f1.1.1) ⟨_, f1.1.1, _, _, rfl⟩ rfl rfl (by decide) (Nat.zero_le _) (Nat.zero_le _) (Nat.le_of_ble_eq_true rfl) ?_
  rw [f2]
  refine ap_iload dL_law_253 rfl ?_
  refine ap_ic_eq (tgt := 260) dL_law_255 (by decide) ⟨by omega, by omega⟩ ⟨by omega, by omega⟩ (fun _ => ?_) (fun z => absurd rfl z)
  refine ap_iload dL_law_260 rfl ?_
  have kend : AP Pp γ mL_law 14 (kc - 1 - 0 - 0) (ks - 6 - 0 - 0) 277 ((6, vi v9) :: (5, vi k9) :: lL i b c) [] h2 Q := ap_goto (tgt := 1544) dL_law_277 (by decide) (ap_sub [2, 3, 4, 5, 6] rfl (kk h2 F9 hI2))
  refine ap_if_ne (tgt := 277) dL_law_262 (by decide) ⟨by omega, by omega⟩ (fun _ => kend) (fun z => ?_)
  have z0 : k9 = 0 := Classical.not_not.mp z
  refine ap_aload_n dL_law_265 rfl ?_
  refine ap_iconst dL_law_266 ?_
  refine ap_lald dL_law_267 hI2.2.2.1 ⟨by omega, by omega⟩ (by omega) ?_
  rw [g4 z0]
  refine ap_iload dL_law_268 rfl ?_
  refine ap_i2l dL_law_270 rfl ?_
  refine ap_lcmp dL_law_271 (fun _ => ?_) (fun z9 z1 z2 => absurd rfl z2)
  exact ap_if_eq (tgt := 277) dL_law_272 (by decide) ⟨by omega, by omega⟩ (fun _ => kend) (fun z => absurd rfl z)
theorem k_moveNode {Pp : State → Prop} {γ : GG} {b L c : Nat} {zs : Nat → Int} {i : Int} {kc ks : Nat} {h : AH} {F : FS} {Q : AR → AH → Prop} (hC : LC Pp γ b L c zs i) (hI : Lw9 h c F) (hkc : 1 ≤ kc) (hks : 6 ≤ ks) (kk : ∀ (h' : AH) (F' : FS), Lw9 h' c F' → AP Pp γ mL_law 14 (kc - 1) (ks - 6) 1544 (lL i b c) [] h' Q) : AP Pp γ mL_law 14 kc ks 280 (lL i b c) [] h Q := by
  obtain ⟨hNc, hX, hb, hL, hi, hz⟩ := hC
  refine ap_aload_n dL_law_280 rfl ?_
  refine ap_aload_n dL_law_281 rfl ?_
  refine ap_iload dL_law_282 rfl ?_
  refine ap_iconst dL_law_284 ?_
  refine ap_iadd dL_law_285 ?_
  refine ap_sld hX hb hL dL_law_286 ⟨by omega, by omega⟩ rfl ?_
  refine ap_aload_n dL_law_287 rfl ?_
  refine ap_iload dL_law_288 rfl ?_
  refine ap_iconst dL_law_290 ?_
  refine ap_iadd dL_law_291 ?_
  refine ap_sld hX hb hL dL_law_292 ⟨by omega, by omega⟩ rfl ?_
  refine ap_aload_n dL_law_293 rfl ?_
  refine ap_invSH (st := []) (as := [vr (some c), vi (zs (i + 1).toNat), vi (zs (i + 2).toNat), vr (some (c + 1722))]) hNc dL_law_294 sL_moveNode kL_99 rfl (w_moveNode (γ := γ) hI.1 hI.2.2.2 hI.2.2.1 (Or.inr (by omega)) (hz _) (hz _)) rfl rfl (by decide) hkc hks (Nat.le_of_ble_eq_true rfl) (fun h1 r1 => ?_)
  obtain ⟨hm1, hk1⟩ := Lw9.w hI r1
  obtain ⟨g1, g2, g3, -, -⟩ := r1
  have hm := m_moveNode (γ := γ) hm1 (hz (i + 1).toNat) (hz (i + 2).toNat)
  have cd : 0 ≤ (opMov F (zs (i + 1).toNat) (zs (i + 2).toNat)).1 ∧ (opMov F (zs (i + 1).toNat) (zs (i + 2).toNat)).1 ≤ 2 := by
    rcases cd_moveNode (F := F) (v := zs (i + 1).toNat) (p := zs (i + 2).toNat) with z | z | z <;> omega
  generalize opMov F (zs (i + 1).toNat) (zs (i + 2).toNat) = op9 at g1 g3 hm cd ⊢
  obtain ⟨k9, v9, F9⟩ := op9
  dsimp only at g1 g3 cd ⊢
  refine ap_istore (ls1 := (5, vi k9) :: lL i b c) dL_law_297 (by decide) rfl ?_
  refine ap_aload_n dL_law_299 rfl ?_
  refine ap_aload_n dL_law_300 rfl ?_
  refine ap_iload dL_law_301 rfl ?_
  refine ap_iconst dL_law_303 ?_
  refine ap_iadd dL_law_304 ?_
  refine ap_sld hX hb hL dL_law_305 ⟨by omega, by omega⟩ rfl ?_
  refine ap_aload_n dL_law_306 rfl ?_
  refine ap_iload dL_law_307 rfl ?_
  refine ap_iconst dL_law_309 ?_
  refine ap_iadd dL_law_310 ?_
  refine ap_sld hX hb hL dL_law_311 ⟨by omega, by omega⟩ rfl ?_
  refine ap_invV_e (st := []) (as := [vi (zs (i + 1).toNat), vi (zs (i + 2).toNat)]) dL_law_312 vX12_moveNode kL_102 rfl hm ⟨_, hm1.1.1, _, _, rfl⟩ rfl rfl (by decide) (Nat.zero_le _) (Nat.zero_le _) (Nat.le_of_ble_eq_true rfl) (fun h2 q2 => ?_)
  obtain ⟨f1, f2, f3⟩ := q2
  dsimp only at f1 f2
  have f4 := SAo f3
  have hI2 : Lw9 h2 c F9 := Lw9.m g1 g2 hk1 f4 f1 rfl
  have g4 : k9 = 0 → gl h2 (c + 1722) 0 = i6 v9 := fun z => ((f4.2 (c + 1722) (by omega)).2 0).2.1.trans (g3 z)
  refine ap_istore (ls1 := (6, vi v9) :: (5, vi k9) :: lL i b c) dL_law_315 (by decide) rfl ?_
  refine ap_aload_n dL_law_317 rfl ?_
  refine ap_invV_r (st := []) (as := []) dL_law_318 vX12_thrown kL_92 rfl (m_thrown (γ := γ) f1.1.1) ⟨_, f1.1.1, _, _, rfl⟩ rfl rfl (by decide) (Nat.zero_le _) (Nat.zero_le _) (Nat.le_of_ble_eq_true rfl) ?_
  rw [f2]
  refine ap_iload dL_law_321 rfl ?_
  refine ap_ic_eq (tgt := 328) dL_law_323 (by decide) ⟨by omega, by omega⟩ ⟨by omega, by omega⟩ (fun _ => ?_) (fun z => absurd rfl z)
  refine ap_iload dL_law_328 rfl ?_
  have kend : AP Pp γ mL_law 14 (kc - 1 - 0 - 0) (ks - 6 - 0 - 0) 345 ((6, vi v9) :: (5, vi k9) :: lL i b c) [] h2 Q := ap_goto (tgt := 1544) dL_law_345 (by decide) (ap_sub [2, 3, 4, 5, 6] rfl (kk h2 F9 hI2))
  refine ap_if_ne (tgt := 345) dL_law_330 (by decide) ⟨by omega, by omega⟩ (fun _ => kend) (fun z => ?_)
  have z0 : k9 = 0 := Classical.not_not.mp z
  refine ap_aload_n dL_law_333 rfl ?_
  refine ap_iconst dL_law_334 ?_
  refine ap_lald dL_law_335 hI2.2.2.1 ⟨by omega, by omega⟩ (by omega) ?_
  rw [g4 z0]
  refine ap_iload dL_law_336 rfl ?_
  refine ap_i2l dL_law_338 rfl ?_
  refine ap_lcmp dL_law_339 (fun _ => ?_) (fun z9 z1 z2 => absurd rfl z2)
  exact ap_if_eq (tgt := 345) dL_law_340 (by decide) ⟨by omega, by omega⟩ (fun _ => kend) (fun z => absurd rfl z)
theorem k_setNode {Pp : State → Prop} {γ : GG} {b L c : Nat} {zs : Nat → Int} {i : Int} {kc ks : Nat} {h : AH} {F : FS} {Q : AR → AH → Prop} (hC : LC Pp γ b L c zs i) (hI : Lw9 h c F) (hkc : 1 ≤ kc) (hks : 6 ≤ ks) (kk : ∀ (h' : AH) (F' : FS), Lw9 h' c F' → AP Pp γ mL_law 14 (kc - 1) (ks - 6) 1544 (lL i b c) [] h' Q) : AP Pp γ mL_law 14 kc ks 348 (lL i b c) [] h Q := by
  obtain ⟨hNc, hX, hb, hL, hi, hz⟩ := hC
  refine ap_aload_n dL_law_348 rfl ?_
  refine ap_aload_n dL_law_349 rfl ?_
  refine ap_iload dL_law_350 rfl ?_
  refine ap_iconst dL_law_352 ?_
  refine ap_iadd dL_law_353 ?_
  refine ap_sld hX hb hL dL_law_354 ⟨by omega, by omega⟩ rfl ?_
  refine ap_aload_n dL_law_355 rfl ?_
  refine ap_iload dL_law_356 rfl ?_
  refine ap_iconst dL_law_358 ?_
  refine ap_iadd dL_law_359 ?_
  refine ap_sld hX hb hL dL_law_360 ⟨by omega, by omega⟩ rfl ?_
  refine ap_aload_n dL_law_361 rfl ?_
  refine ap_iload dL_law_362 rfl ?_
  refine ap_iconst dL_law_364 ?_
  refine ap_iadd dL_law_365 ?_
  refine ap_sld hX hb hL dL_law_366 ⟨by omega, by omega⟩ rfl ?_
  refine ap_aload_n dL_law_367 rfl ?_
  refine ap_invSH (st := []) (as := [vr (some c), vi (zs (i + 1).toNat), vi (zs (i + 2).toNat), vi (zs (i + 3).toNat), vr (some (c + 1722))]) hNc dL_law_368 sL_setNode kL_103 rfl (w_setNode (γ := γ) hI.1 hI.2.2.2 hI.2.2.1 (Or.inr (by omega)) (hz _) (hz _) (hz _)) rfl rfl (by decide) hkc hks (Nat.le_of_ble_eq_true rfl) (fun h1 r1 => ?_)
  obtain ⟨hm1, hk1⟩ := Lw9.w hI r1
  obtain ⟨g1, g2, g3, -, -⟩ := r1
  have hm := m_setNode (γ := γ) hm1 (hz (i + 1).toNat) (hz (i + 2).toNat) (hz (i + 3).toNat)
  have cd : 0 ≤ (opSet F (zs (i + 1).toNat) (zs (i + 2).toNat) (zs (i + 3).toNat)).1 ∧ (opSet F (zs (i + 1).toNat) (zs (i + 2).toNat) (zs (i + 3).toNat)).1 ≤ 2 := by
    rcases cd_setNode (F := F) (v := zs (i + 1).toNat) (x := zs (i + 2).toNat) (y := zs (i + 3).toNat) with z | z | z <;> omega
  generalize opSet F (zs (i + 1).toNat) (zs (i + 2).toNat) (zs (i + 3).toNat) = op9 at g1 g3 hm cd ⊢
  obtain ⟨k9, v9, F9⟩ := op9
  dsimp only at g1 g3 cd ⊢
  refine ap_istore (ls1 := (5, vi k9) :: lL i b c) dL_law_371 (by decide) rfl ?_
  refine ap_aload_n dL_law_373 rfl ?_
  refine ap_aload_n dL_law_374 rfl ?_
  refine ap_iload dL_law_375 rfl ?_
  refine ap_iconst dL_law_377 ?_
  refine ap_iadd dL_law_378 ?_
  refine ap_sld hX hb hL dL_law_379 ⟨by omega, by omega⟩ rfl ?_
  refine ap_aload_n dL_law_380 rfl ?_
  refine ap_iload dL_law_381 rfl ?_
  refine ap_iconst dL_law_383 ?_
  refine ap_iadd dL_law_384 ?_
  refine ap_sld hX hb hL dL_law_385 ⟨by omega, by omega⟩ rfl ?_
  refine ap_aload_n dL_law_386 rfl ?_
  refine ap_iload dL_law_387 rfl ?_
  refine ap_iconst dL_law_389 ?_
  refine ap_iadd dL_law_390 ?_
  refine ap_sld hX hb hL dL_law_391 ⟨by omega, by omega⟩ rfl ?_
  refine ap_invV_e (st := []) (as := [vi (zs (i + 1).toNat), vi (zs (i + 2).toNat), vi (zs (i + 3).toNat)]) dL_law_392 vX12_setNode kL_105 rfl hm ⟨_, hm1.1.1, _, _, rfl⟩ rfl rfl (by decide) (Nat.zero_le _) (Nat.zero_le _) (Nat.le_of_ble_eq_true rfl) (fun h2 q2 => ?_)
  obtain ⟨f1, f2, f3⟩ := q2
  dsimp only at f1 f2
  have f4 := SAo f3
  have hI2 : Lw9 h2 c F9 := Lw9.m g1 g2 hk1 f4 f1 rfl
  have g4 : k9 = 0 → gl h2 (c + 1722) 0 = i6 v9 := fun z => ((f4.2 (c + 1722) (by omega)).2 0).2.1.trans (g3 z)
  refine ap_istore (ls1 := (6, vi v9) :: (5, vi k9) :: lL i b c) dL_law_395 (by decide) rfl ?_
  refine ap_aload_n dL_law_397 rfl ?_
  refine ap_invV_r (st := []) (as := []) dL_law_398 vX12_thrown kL_92 rfl (m_thrown (γ := γ) f1.1.1) ⟨_, f1.1.1, _, _, rfl⟩ rfl rfl (by decide) (Nat.zero_le _) (Nat.zero_le _) (Nat.le_of_ble_eq_true rfl) ?_
  rw [f2]
  refine ap_iload dL_law_401 rfl ?_
  refine ap_ic_eq (tgt := 408) dL_law_403 (by decide) ⟨by omega, by omega⟩ ⟨by omega, by omega⟩ (fun _ => ?_) (fun z => absurd rfl z)
  refine ap_iload dL_law_408 rfl ?_
  have kend : AP Pp γ mL_law 14 (kc - 1 - 0 - 0) (ks - 6 - 0 - 0) 425 ((6, vi v9) :: (5, vi k9) :: lL i b c) [] h2 Q := ap_goto (tgt := 1544) dL_law_425 (by decide) (ap_sub [2, 3, 4, 5, 6] rfl (kk h2 F9 hI2))
  refine ap_if_ne (tgt := 425) dL_law_410 (by decide) ⟨by omega, by omega⟩ (fun _ => kend) (fun z => ?_)
  have z0 : k9 = 0 := Classical.not_not.mp z
  refine ap_aload_n dL_law_413 rfl ?_
  refine ap_iconst dL_law_414 ?_
  refine ap_lald dL_law_415 hI2.2.2.1 ⟨by omega, by omega⟩ (by omega) ?_
  rw [g4 z0]
  refine ap_iload dL_law_416 rfl ?_
  refine ap_i2l dL_law_418 rfl ?_
  refine ap_lcmp dL_law_419 (fun _ => ?_) (fun z9 z1 z2 => absurd rfl z2)
  exact ap_if_eq (tgt := 425) dL_law_420 (by decide) ⟨by omega, by omega⟩ (fun _ => kend) (fun z => absurd rfl z)
theorem k_nodes {Pp : State → Prop} {γ : GG} {b L c : Nat} {zs : Nat → Int} {i : Int} {kc ks : Nat} {h : AH} {F : FS} {Q : AR → AH → Prop} (hC : LC Pp γ b L c zs i) (hI : Lw9 h c F) (hkc : 1 ≤ kc) (hks : 6 ≤ ks) (kk : ∀ (h' : AH) (F' : FS), Lw9 h' c F' → AP Pp γ mL_law 14 (kc - 1) (ks - 6) 1544 (lL i b c) [] h' Q) : AP Pp γ mL_law 14 kc ks 428 (lL i b c) [] h Q := by
  obtain ⟨hNc, hX, hb, hL, hi, hz⟩ := hC
  have hv : -2147483648 ≤ (opNds F).2.1 ∧ (opNds F).2.1 ≤ 2147483647 := by
    have : tn F.1.1 ≤ 40 := hI.1.2.2.2.2.2.1.1.2.1
    show -2147483648 ≤ (tn F.1.1 : Int) ∧ (tn F.1.1 : Int) ≤ 2147483647
    omega
  refine ap_aload_n dL_law_428 rfl ?_
  refine ap_invV (st := []) dL_law_429 vX11_nodes kL_106 rfl (c_nodes (γ := γ) hI.1) ⟨_, hI.1.1.1, _, _, rfl⟩ (as := []) (as' := []) rfl rfl (by decide) (Nat.zero_le _) (Nat.zero_le _) (Nat.le_of_ble_eq_true rfl) (fun v9 h1 q9 => ?_) (fun X h1 q9 => absurd q9.1 (by rw [if_pos (show (opNds F).1 = 0 from rfl)]; exact nofun))
  obtain ⟨e9, g1, g2⟩ := q9
  rw [if_pos (show (opNds F).1 = 0 from rfl)] at e9
  cases e9
  have hm1 : isF h1 (c + 1704) F := isMd.fr hI.2.1 (fun b b1 b2 => g2.2 b (by omega))
  have hk1 : kd h1 (c + 1722) = some (.inr (2, 1)) := ((g2.2 _ (by omega)).1).trans hI.2.2.1
  refine ap_aload_n dL_law_432 rfl ?_
  refine ap_invV_e (as := []) dL_law_433 vX12_nodes kL_109 rfl (m_nodes (γ := γ) hm1) ⟨_, hm1.1.1, _, _, rfl⟩ rfl rfl (by decide) (Nat.zero_le _) (Nat.zero_le _) (Nat.le_of_ble_eq_true rfl) (fun h2 q2 => ?_)
  obtain ⟨f1, f2, f3⟩ := q2
  have hI2 := Lw9.m g1 (g2.1.trans hI.2.2.2) hk1 (SAo f3) f1 rfl
  refine ap_ic_eq (tgt := 1544) dL_law_436 (by decide) hv hv (fun _ => ?_) (fun z => absurd rfl z)
  exact ap_less hI2.2.2.2 (by omega) (by omega) (kk h2 _ hI2)
theorem k_node {Pp : State → Prop} {γ : GG} {b L c : Nat} {zs : Nat → Int} {i : Int} {kc ks : Nat} {h : AH} {F : FS} {Q : AR → AH → Prop} (hC : LC Pp γ b L c zs i) (hI : Lw9 h c F) (hkc : 1 ≤ kc) (hks : 6 ≤ ks) (kk : ∀ (h' : AH) (F' : FS), Lw9 h' c F' → AP Pp γ mL_law 14 (kc - 1) (ks - 6) 1544 (lL i b c) [] h' Q) : AP Pp γ mL_law 14 kc ks 441 (lL i b c) [] h Q := by
  obtain ⟨hNc, hX, hb, hL, hi, hz⟩ := hC
  refine ap_aload_n dL_law_441 rfl ?_
  refine ap_aload_n dL_law_442 rfl ?_
  refine ap_iload dL_law_443 rfl ?_
  refine ap_iconst dL_law_445 ?_
  refine ap_iadd dL_law_446 ?_
  refine ap_sld hX hb hL dL_law_447 ⟨by omega, by omega⟩ rfl ?_
  refine ap_aload_n dL_law_448 rfl ?_
  refine ap_iload dL_law_449 rfl ?_
  refine ap_iconst dL_law_451 ?_
  refine ap_iadd dL_law_452 ?_
  refine ap_sld hX hb hL dL_law_453 ⟨by omega, by omega⟩ rfl ?_
  refine ap_aload_n dL_law_454 rfl ?_
  refine ap_invSH (st := []) (as := [vr (some c), vi (zs (i + 1).toNat), vi (zs (i + 2).toNat), vr (some (c + 1722))]) hNc dL_law_455 sL_node kL_110 rfl (w_node (γ := γ) hI.1 hI.2.2.2 hI.2.2.1 (Or.inr (by omega)) (hz _) (hz _)) rfl rfl (by decide) hkc hks (Nat.le_of_ble_eq_true rfl) (fun h1 r1 => ?_)
  obtain ⟨hm1, hk1⟩ := Lw9.w hI r1
  obtain ⟨g1, g2, g3, -, -⟩ := r1
  have hm := m_node (γ := γ) hm1 (hz (i + 1).toNat) (hz (i + 2).toNat)
  have cd : 0 ≤ (opNod F (zs (i + 1).toNat) (zs (i + 2).toNat)).1 ∧ (opNod F (zs (i + 1).toNat) (zs (i + 2).toNat)).1 ≤ 2 := by
    rcases cd_node (F := F) (v := zs (i + 1).toNat) (x := zs (i + 2).toNat) with z | z | z <;> omega
  generalize opNod F (zs (i + 1).toNat) (zs (i + 2).toNat) = op9 at g1 g3 hm cd ⊢
  obtain ⟨k9, v9, F9⟩ := op9
  dsimp only at g1 g3 cd ⊢
  refine ap_istore (ls1 := (5, vi k9) :: lL i b c) dL_law_458 (by decide) rfl ?_
  refine ap_aload_n dL_law_460 rfl ?_
  refine ap_aload_n dL_law_461 rfl ?_
  refine ap_iload dL_law_462 rfl ?_
  refine ap_iconst dL_law_464 ?_
  refine ap_iadd dL_law_465 ?_
  refine ap_sld hX hb hL dL_law_466 ⟨by omega, by omega⟩ rfl ?_
  refine ap_aload_n dL_law_467 rfl ?_
  refine ap_iload dL_law_468 rfl ?_
  refine ap_iconst dL_law_470 ?_
  refine ap_iadd dL_law_471 ?_
  refine ap_sld hX hb hL dL_law_472 ⟨by omega, by omega⟩ rfl ?_
  refine ap_invV_e (st := []) (as := [vi (zs (i + 1).toNat), vi (zs (i + 2).toNat)]) dL_law_473 vX12_node kL_112 rfl hm ⟨_, hm1.1.1, _, _, rfl⟩ rfl rfl (by decide) (Nat.zero_le _) (Nat.zero_le _) (Nat.le_of_ble_eq_true rfl) (fun h2 q2 => ?_)
  obtain ⟨f1, f2, f3⟩ := q2
  dsimp only at f1 f2
  have f4 := SAo f3
  have hI2 : Lw9 h2 c F9 := Lw9.m g1 g2 hk1 f4 f1 rfl
  have g4 : k9 = 0 → gl h2 (c + 1722) 0 = i6 v9 := fun z => ((f4.2 (c + 1722) (by omega)).2 0).2.1.trans (g3 z)
  refine ap_istore (ls1 := (6, vi v9) :: (5, vi k9) :: lL i b c) dL_law_476 (by decide) rfl ?_
  refine ap_aload_n dL_law_478 rfl ?_
  refine ap_invV_r (st := []) (as := []) dL_law_479 vX12_thrown kL_92 rfl (m_thrown (γ := γ) f1.1.1) ⟨_, f1.1.1, _, _, rfl⟩ rfl rfl (by decide) (Nat.zero_le _) (Nat.zero_le _) (Nat.le_of_ble_eq_true rfl) ?_
  rw [f2]
  refine ap_iload dL_law_482 rfl ?_
  refine ap_ic_eq (tgt := 489) dL_law_484 (by decide) ⟨by omega, by omega⟩ ⟨by omega, by omega⟩ (fun _ => ?_) (fun z => absurd rfl z)
  refine ap_iload dL_law_489 rfl ?_
  have kend : AP Pp γ mL_law 14 (kc - 1 - 0 - 0) (ks - 6 - 0 - 0) 506 ((6, vi v9) :: (5, vi k9) :: lL i b c) [] h2 Q := ap_goto (tgt := 1544) dL_law_506 (by decide) (ap_sub [2, 3, 4, 5, 6] rfl (kk h2 F9 hI2))
  refine ap_if_ne (tgt := 506) dL_law_491 (by decide) ⟨by omega, by omega⟩ (fun _ => kend) (fun z => ?_)
  have z0 : k9 = 0 := Classical.not_not.mp z
  refine ap_aload_n dL_law_494 rfl ?_
  refine ap_iconst dL_law_495 ?_
  refine ap_lald dL_law_496 hI2.2.2.1 ⟨by omega, by omega⟩ (by omega) ?_
  rw [g4 z0]
  refine ap_iload dL_law_497 rfl ?_
  refine ap_i2l dL_law_499 rfl ?_
  refine ap_lcmp dL_law_500 (fun _ => ?_) (fun z9 z1 z2 => absurd rfl z2)
  exact ap_if_eq (tgt := 506) dL_law_501 (by decide) ⟨by omega, by omega⟩ (fun _ => kend) (fun z => absurd rfl z)
theorem k_axis {Pp : State → Prop} {γ : GG} {b L c : Nat} {zs : Nat → Int} {i : Int} {kc ks : Nat} {h : AH} {F : FS} {Q : AR → AH → Prop} (hC : LC Pp γ b L c zs i) (hI : Lw9 h c F) (hkc : 1 ≤ kc) (hks : 6 ≤ ks) (kk : ∀ (h' : AH) (F' : FS), Lw9 h' c F' → AP Pp γ mL_law 14 (kc - 1) (ks - 6) 1544 (lL i b c) [] h' Q) : AP Pp γ mL_law 14 kc ks 509 (lL i b c) [] h Q := by
  obtain ⟨hNc, hX, hb, hL, hi, hz⟩ := hC
  refine ap_aload_n dL_law_509 rfl ?_
  refine ap_aload_n dL_law_510 rfl ?_
  refine ap_iload dL_law_511 rfl ?_
  refine ap_iconst dL_law_513 ?_
  refine ap_iadd dL_law_514 ?_
  refine ap_sld hX hb hL dL_law_515 ⟨by omega, by omega⟩ rfl ?_
  refine ap_aload_n dL_law_516 rfl ?_
  refine ap_iload dL_law_517 rfl ?_
  refine ap_iconst dL_law_519 ?_
  refine ap_iadd dL_law_520 ?_
  refine ap_sld hX hb hL dL_law_521 ⟨by omega, by omega⟩ rfl ?_
  refine ap_aload_n dL_law_522 rfl ?_
  refine ap_iload dL_law_523 rfl ?_
  refine ap_iconst dL_law_525 ?_
  refine ap_iadd dL_law_526 ?_
  refine ap_sld hX hb hL dL_law_527 ⟨by omega, by omega⟩ rfl ?_
  refine ap_aload_n dL_law_528 rfl ?_
  refine ap_invSH (st := []) (as := [vr (some c), vi (zs (i + 1).toNat), vi (zs (i + 2).toNat), vi (zs (i + 3).toNat), vr (some (c + 1722))]) hNc dL_law_529 sL_axis kL_113 rfl (w_axis (γ := γ) hI.1 hI.2.2.2 hI.2.2.1 (Or.inr (by omega)) (hz _) (hz _) (hz _)) rfl rfl (by decide) hkc hks (Nat.le_of_ble_eq_true rfl) (fun h1 r1 => ?_)
  obtain ⟨hm1, hk1⟩ := Lw9.w hI r1
  obtain ⟨g1, g2, g3, -, -⟩ := r1
  have hm := m_axis (γ := γ) hm1 (hz (i + 1).toNat) (hz (i + 2).toNat) (hz (i + 3).toNat)
  have cd : 0 ≤ (opAxi F (zs (i + 1).toNat) (zs (i + 2).toNat) (zs (i + 3).toNat)).1 ∧ (opAxi F (zs (i + 1).toNat) (zs (i + 2).toNat) (zs (i + 3).toNat)).1 ≤ 2 := by
    rcases cd_axis (F := F) (v := zs (i + 1).toNat) (x := zs (i + 2).toNat) (i := zs (i + 3).toNat) with z | z | z <;> omega
  generalize opAxi F (zs (i + 1).toNat) (zs (i + 2).toNat) (zs (i + 3).toNat) = op9 at g1 g3 hm cd ⊢
  obtain ⟨k9, v9, F9⟩ := op9
  dsimp only at g1 g3 cd ⊢
  refine ap_istore (ls1 := (5, vi k9) :: lL i b c) dL_law_532 (by decide) rfl ?_
  refine ap_aload_n dL_law_534 rfl ?_
  refine ap_aload_n dL_law_535 rfl ?_
  refine ap_iload dL_law_536 rfl ?_
  refine ap_iconst dL_law_538 ?_
  refine ap_iadd dL_law_539 ?_
  refine ap_sld hX hb hL dL_law_540 ⟨by omega, by omega⟩ rfl ?_
  refine ap_aload_n dL_law_541 rfl ?_
  refine ap_iload dL_law_542 rfl ?_
  refine ap_iconst dL_law_544 ?_
  refine ap_iadd dL_law_545 ?_
  refine ap_sld hX hb hL dL_law_546 ⟨by omega, by omega⟩ rfl ?_
  refine ap_aload_n dL_law_547 rfl ?_
  refine ap_iload dL_law_548 rfl ?_
  refine ap_iconst dL_law_550 ?_
  refine ap_iadd dL_law_551 ?_
  refine ap_sld hX hb hL dL_law_552 ⟨by omega, by omega⟩ rfl ?_
  refine ap_invV_e (st := []) (as := [vi (zs (i + 1).toNat), vi (zs (i + 2).toNat), vi (zs (i + 3).toNat)]) dL_law_553 vX12_axis kL_115 rfl hm ⟨_, hm1.1.1, _, _, rfl⟩ rfl rfl (by decide) (Nat.zero_le _) (Nat.zero_le _) (Nat.le_of_ble_eq_true rfl) (fun h2 q2 => ?_)
  obtain ⟨f1, f2, f3⟩ := q2
  dsimp only at f1 f2
  have f4 := SAo f3
  have hI2 : Lw9 h2 c F9 := Lw9.m g1 g2 hk1 f4 f1 rfl
  have g4 : k9 = 0 → gl h2 (c + 1722) 0 = i6 v9 := fun z => ((f4.2 (c + 1722) (by omega)).2 0).2.1.trans (g3 z)
  refine ap_istore (ls1 := (6, vi v9) :: (5, vi k9) :: lL i b c) dL_law_556 (by decide) rfl ?_
  refine ap_aload_n dL_law_558 rfl ?_
  refine ap_invV_r (st := []) (as := []) dL_law_559 vX12_thrown kL_92 rfl (m_thrown (γ := γ) f1.1.1) ⟨_, f1.1.1, _, _, rfl⟩ rfl rfl (by decide) (Nat.zero_le _) (Nat.zero_le _) (Nat.le_of_ble_eq_true rfl) ?_
  rw [f2]
  refine ap_iload dL_law_562 rfl ?_
  refine ap_ic_eq (tgt := 569) dL_law_564 (by decide) ⟨by omega, by omega⟩ ⟨by omega, by omega⟩ (fun _ => ?_) (fun z => absurd rfl z)
  refine ap_iload dL_law_569 rfl ?_
  have kend : AP Pp γ mL_law 14 (kc - 1 - 0 - 0) (ks - 6 - 0 - 0) 586 ((6, vi v9) :: (5, vi k9) :: lL i b c) [] h2 Q := ap_goto (tgt := 1544) dL_law_586 (by decide) (ap_sub [2, 3, 4, 5, 6] rfl (kk h2 F9 hI2))
  refine ap_if_ne (tgt := 586) dL_law_571 (by decide) ⟨by omega, by omega⟩ (fun _ => kend) (fun z => ?_)
  have z0 : k9 = 0 := Classical.not_not.mp z
  refine ap_aload_n dL_law_574 rfl ?_
  refine ap_iconst dL_law_575 ?_
  refine ap_lald dL_law_576 hI2.2.2.1 ⟨by omega, by omega⟩ (by omega) ?_
  rw [g4 z0]
  refine ap_iload dL_law_577 rfl ?_
  refine ap_i2l dL_law_579 rfl ?_
  refine ap_lcmp dL_law_580 (fun _ => ?_) (fun z9 z1 z2 => absurd rfl z2)
  exact ap_if_eq (tgt := 586) dL_law_581 (by decide) ⟨by omega, by omega⟩ (fun _ => kend) (fun z => absurd rfl z)
theorem k_type {Pp : State → Prop} {γ : GG} {b L c : Nat} {zs : Nat → Int} {i : Int} {kc ks : Nat} {h : AH} {F : FS} {Q : AR → AH → Prop} (hC : LC Pp γ b L c zs i) (hI : Lw9 h c F) (hkc : 1 ≤ kc) (hks : 6 ≤ ks) (kk : ∀ (h' : AH) (F' : FS), Lw9 h' c F' → AP Pp γ mL_law 14 (kc - 1) (ks - 6) 1544 (lL i b c) [] h' Q) : AP Pp γ mL_law 14 kc ks 589 (lL i b c) [] h Q := by
  obtain ⟨hNc, hX, hb, hL, hi, hz⟩ := hC
  refine ap_aload_n dL_law_589 rfl ?_
  refine ap_aload_n dL_law_590 rfl ?_
  refine ap_iload dL_law_591 rfl ?_
  refine ap_iconst dL_law_593 ?_
  refine ap_iadd dL_law_594 ?_
  refine ap_sld hX hb hL dL_law_595 ⟨by omega, by omega⟩ rfl ?_
  refine ap_aload_n dL_law_596 rfl ?_
  refine ap_invSH (st := []) (as := [vr (some c), vi (zs (i + 1).toNat), vr (some (c + 1722))]) hNc dL_law_597 sL_type kL_116 rfl (w_type (γ := γ) hI.1 hI.2.2.2 hI.2.2.1 (Or.inr (by omega)) (hz _)) rfl rfl (by decide) hkc hks (Nat.le_of_ble_eq_true rfl) (fun h1 r1 => ?_)
  obtain ⟨hm1, hk1⟩ := Lw9.w hI r1
  obtain ⟨g1, g2, g3, -, -⟩ := r1
  have hm := m_type (γ := γ) hm1 (hz (i + 1).toNat)
  have cd : 0 ≤ (opTyp F (zs (i + 1).toNat)).1 ∧ (opTyp F (zs (i + 1).toNat)).1 ≤ 2 := by
    rcases cd_type (F := F) (x := zs (i + 1).toNat) with z | z | z <;> omega
  generalize opTyp F (zs (i + 1).toNat) = op9 at g1 g3 hm cd ⊢
  obtain ⟨k9, v9, F9⟩ := op9
  dsimp only at g1 g3 cd ⊢
  refine ap_istore (ls1 := (5, vi k9) :: lL i b c) dL_law_600 (by decide) rfl ?_
  refine ap_aload_n dL_law_602 rfl ?_
  refine ap_aload_n dL_law_603 rfl ?_
  refine ap_iload dL_law_604 rfl ?_
  refine ap_iconst dL_law_606 ?_
  refine ap_iadd dL_law_607 ?_
  refine ap_sld hX hb hL dL_law_608 ⟨by omega, by omega⟩ rfl ?_
  refine ap_invV_e (st := []) (as := [vi (zs (i + 1).toNat)]) dL_law_609 vX12_type kL_118 rfl hm ⟨_, hm1.1.1, _, _, rfl⟩ rfl rfl (by decide) (Nat.zero_le _) (Nat.zero_le _) (Nat.le_of_ble_eq_true rfl) (fun h2 q2 => ?_)
  obtain ⟨f1, f2, f3⟩ := q2
  dsimp only at f1 f2
  have f4 := SAo f3
  have hI2 : Lw9 h2 c F9 := Lw9.m g1 g2 hk1 f4 f1 rfl
  have g4 : k9 = 0 → gl h2 (c + 1722) 0 = i6 v9 := fun z => ((f4.2 (c + 1722) (by omega)).2 0).2.1.trans (g3 z)
  refine ap_istore (ls1 := (6, vi v9) :: (5, vi k9) :: lL i b c) dL_law_612 (by decide) rfl ?_
  refine ap_aload_n dL_law_614 rfl ?_
  refine ap_invV_r (st := []) (as := []) dL_law_615 vX12_thrown kL_92 rfl (m_thrown (γ := γ) f1.1.1) ⟨_, f1.1.1, _, _, rfl⟩ rfl rfl (by decide) (Nat.zero_le _) (Nat.zero_le _) (Nat.le_of_ble_eq_true rfl) ?_
  rw [f2]
  refine ap_iload dL_law_618 rfl ?_
  refine ap_ic_eq (tgt := 625) dL_law_620 (by decide) ⟨by omega, by omega⟩ ⟨by omega, by omega⟩ (fun _ => ?_) (fun z => absurd rfl z)
  refine ap_iload dL_law_625 rfl ?_
  have kend : AP Pp γ mL_law 14 (kc - 1 - 0 - 0) (ks - 6 - 0 - 0) 642 ((6, vi v9) :: (5, vi k9) :: lL i b c) [] h2 Q := ap_goto (tgt := 1544) dL_law_642 (by decide) (ap_sub [2, 3, 4, 5, 6] rfl (kk h2 F9 hI2))
  refine ap_if_ne (tgt := 642) dL_law_627 (by decide) ⟨by omega, by omega⟩ (fun _ => kend) (fun z => ?_)
  have z0 : k9 = 0 := Classical.not_not.mp z
  refine ap_aload_n dL_law_630 rfl ?_
  refine ap_iconst dL_law_631 ?_
  refine ap_lald dL_law_632 hI2.2.2.1 ⟨by omega, by omega⟩ (by omega) ?_
  rw [g4 z0]
  refine ap_iload dL_law_633 rfl ?_
  refine ap_i2l dL_law_635 rfl ?_
  refine ap_lcmp dL_law_636 (fun _ => ?_) (fun z9 z1 z2 => absurd rfl z2)
  exact ap_if_eq (tgt := 642) dL_law_637 (by decide) ⟨by omega, by omega⟩ (fun _ => kend) (fun z => absurd rfl z)
theorem k_clearText {Pp : State → Prop} {γ : GG} {b L c : Nat} {zs : Nat → Int} {i : Int} {kc ks : Nat} {h : AH} {F : FS} {Q : AR → AH → Prop} (hC : LC Pp γ b L c zs i) (hI : Lw9 h c F) (hkc : 1 ≤ kc) (hks : 6 ≤ ks) (kk : ∀ (h' : AH) (F' : FS), Lw9 h' c F' → AP Pp γ mL_law 14 (kc - 1) (ks - 6) 1544 (lL i b c) [] h' Q) : AP Pp γ mL_law 14 kc ks 645 (lL i b c) [] h Q := by
  obtain ⟨hNc, hX, hb, hL, hi, hz⟩ := hC
  have hv : -2147483648 ≤ (opClr F).2.1 ∧ (opClr F).2.1 ≤ 2147483647 := by
    have := hI.1.2.2.2.2.2.2.2.2.1
    show -2147483648 ≤ (F.2.2.length : Int) ∧ (F.2.2.length : Int) ≤ 2147483647
    omega
  refine ap_aload_n dL_law_645 rfl ?_
  refine ap_invV (st := []) dL_law_646 vX11_clearText kL_119 rfl (c_clearText (γ := γ) hI.1) ⟨_, hI.1.1.1, _, _, rfl⟩ (as := []) (as' := []) rfl rfl (by decide) (Nat.zero_le _) (Nat.zero_le _) (Nat.le_of_ble_eq_true rfl) (fun v9 h1 q9 => ?_) (fun X h1 q9 => absurd q9.1 (by rw [if_pos (show (opClr F).1 = 0 from rfl)]; exact nofun))
  obtain ⟨e9, g1, g2⟩ := q9
  rw [if_pos (show (opClr F).1 = 0 from rfl)] at e9
  cases e9
  have hm1 : isF h1 (c + 1704) F := isMd.fr hI.2.1 (fun b b1 b2 => g2.2 b (by omega))
  have hk1 : kd h1 (c + 1722) = some (.inr (2, 1)) := ((g2.2 _ (by omega)).1).trans hI.2.2.1
  refine ap_aload_n dL_law_649 rfl ?_
  refine ap_invV_e (as := []) dL_law_650 vX12_clearText kL_122 rfl (m_clearText (γ := γ) hm1) ⟨_, hm1.1.1, _, _, rfl⟩ rfl rfl (by decide) (Nat.zero_le _) (Nat.zero_le _) (Nat.le_of_ble_eq_true rfl) (fun h2 q2 => ?_)
  obtain ⟨f1, f2, f3⟩ := q2
  have hI2 := Lw9.m g1 (g2.1.trans hI.2.2.2) hk1 (SAo f3) f1 rfl
  refine ap_ic_eq (tgt := 1544) dL_law_653 (by decide) hv hv (fun _ => ?_) (fun z => absurd rfl z)
  exact ap_less hI2.2.2.2 (by omega) (by omega) (kk h2 _ hI2)
theorem k_read {Pp : State → Prop} {γ : GG} {b L c : Nat} {zs : Nat → Int} {i : Int} {kc ks : Nat} {h : AH} {F : FS} {Q : AR → AH → Prop} (hC : LC Pp γ b L c zs i) (hI : Lw9 h c F) (hkc : 1 ≤ kc) (hks : 6 ≤ ks) (kk : ∀ (h' : AH) (F' : FS), Lw9 h' c F' → AP Pp γ mL_law 14 (kc - 1) (ks - 6) 1544 (lL i b c) [] h' Q) : AP Pp γ mL_law 14 kc ks 658 (lL i b c) [] h Q := by
  obtain ⟨hNc, hX, hb, hL, hi, hz⟩ := hC
  refine ap_aload_n dL_law_658 rfl ?_
  refine ap_aload_n dL_law_659 rfl ?_
  refine ap_iload dL_law_660 rfl ?_
  refine ap_iconst dL_law_662 ?_
  refine ap_iadd dL_law_663 ?_
  refine ap_sld hX hb hL dL_law_664 ⟨by omega, by omega⟩ rfl ?_
  refine ap_aload_n dL_law_665 rfl ?_
  refine ap_invSH (st := []) (as := [vr (some c), vi (zs (i + 1).toNat), vr (some (c + 1722))]) hNc dL_law_666 sL_read kL_123 rfl (w_read (γ := γ) hI.1 hI.2.2.2 hI.2.2.1 (Or.inr (by omega)) (hz _)) rfl rfl (by decide) hkc hks (Nat.le_of_ble_eq_true rfl) (fun h1 r1 => ?_)
  obtain ⟨hm1, hk1⟩ := Lw9.w hI r1
  obtain ⟨g1, g2, g3, -, -⟩ := r1
  have hm := m_read (γ := γ) hm1 (hz (i + 1).toNat)
  have cd : 0 ≤ (opRd F (zs (i + 1).toNat)).1 ∧ (opRd F (zs (i + 1).toNat)).1 ≤ 1 := by
    rcases cd_read (F := F) (p := zs (i + 1).toNat) with z | z <;> omega
  generalize opRd F (zs (i + 1).toNat) = op9 at g1 g3 hm cd ⊢
  obtain ⟨k9, v9, F9⟩ := op9
  dsimp only at g1 g3 cd ⊢
  refine ap_istore (ls1 := (5, vi k9) :: lL i b c) dL_law_669 (by decide) rfl ?_
  refine ap_aload_n dL_law_671 rfl ?_
  refine ap_aload_n dL_law_672 rfl ?_
  refine ap_iload dL_law_673 rfl ?_
  refine ap_iconst dL_law_675 ?_
  refine ap_iadd dL_law_676 ?_
  refine ap_sld hX hb hL dL_law_677 ⟨by omega, by omega⟩ rfl ?_
  refine ap_invV_e (st := []) (as := [vi (zs (i + 1).toNat)]) dL_law_678 vX12_read kL_125 rfl hm ⟨_, hm1.1.1, _, _, rfl⟩ rfl rfl (by decide) (Nat.zero_le _) (Nat.zero_le _) (Nat.le_of_ble_eq_true rfl) (fun h2 q2 => ?_)
  obtain ⟨f1, f2, f3⟩ := q2
  dsimp only at f1 f2
  have f4 := SAo f3
  have hI2 : Lw9 h2 c F9 := Lw9.m g1 g2 hk1 f4 f1 rfl
  have g4 : k9 = 0 → gl h2 (c + 1722) 0 = i6 v9 := fun z => ((f4.2 (c + 1722) (by omega)).2 0).2.1.trans (g3 z)
  refine ap_istore (ls1 := (6, vi v9) :: (5, vi k9) :: lL i b c) dL_law_681 (by decide) rfl ?_
  refine ap_aload_n dL_law_683 rfl ?_
  refine ap_invV_r (st := []) (as := []) dL_law_684 vX12_thrown kL_92 rfl (m_thrown (γ := γ) f1.1.1) ⟨_, f1.1.1, _, _, rfl⟩ rfl rfl (by decide) (Nat.zero_le _) (Nat.zero_le _) (Nat.le_of_ble_eq_true rfl) ?_
  rw [f2]
  refine ap_iload dL_law_687 rfl ?_
  refine ap_ic_eq (tgt := 694) dL_law_689 (by decide) ⟨by omega, by omega⟩ ⟨by omega, by omega⟩ (fun _ => ?_) (fun z => absurd rfl z)
  refine ap_iload dL_law_694 rfl ?_
  have kend : AP Pp γ mL_law 14 (kc - 1 - 0 - 0) (ks - 6 - 0 - 0) 711 ((6, vi v9) :: (5, vi k9) :: lL i b c) [] h2 Q := ap_goto (tgt := 1544) dL_law_711 (by decide) (ap_sub [2, 3, 4, 5, 6] rfl (kk h2 F9 hI2))
  refine ap_if_ne (tgt := 711) dL_law_696 (by decide) ⟨by omega, by omega⟩ (fun _ => kend) (fun z => ?_)
  have z0 : k9 = 0 := Classical.not_not.mp z
  refine ap_aload_n dL_law_699 rfl ?_
  refine ap_iconst dL_law_700 ?_
  refine ap_lald dL_law_701 hI2.2.2.1 ⟨by omega, by omega⟩ (by omega) ?_
  rw [g4 z0]
  refine ap_iload dL_law_702 rfl ?_
  refine ap_i2l dL_law_704 rfl ?_
  refine ap_lcmp dL_law_705 (fun _ => ?_) (fun z9 z1 z2 => absurd rfl z2)
  exact ap_if_eq (tgt := 711) dL_law_706 (by decide) ⟨by omega, by omega⟩ (fun _ => kend) (fun z => absurd rfl z)
theorem k_written {Pp : State → Prop} {γ : GG} {b L c : Nat} {zs : Nat → Int} {i : Int} {kc ks : Nat} {h : AH} {F : FS} {Q : AR → AH → Prop} (hC : LC Pp γ b L c zs i) (hI : Lw9 h c F) (hkc : 1 ≤ kc) (hks : 6 ≤ ks) (kk : ∀ (h' : AH) (F' : FS), Lw9 h' c F' → AP Pp γ mL_law 14 (kc - 1) (ks - 6) 1544 (lL i b c) [] h' Q) : AP Pp γ mL_law 14 kc ks 714 (lL i b c) [] h Q := by
  obtain ⟨hNc, hX, hb, hL, hi, hz⟩ := hC
  refine ap_aload_n dL_law_714 rfl ?_
  refine ap_aload_n dL_law_715 rfl ?_
  refine ap_iload dL_law_716 rfl ?_
  refine ap_iconst dL_law_718 ?_
  refine ap_iadd dL_law_719 ?_
  refine ap_sld hX hb hL dL_law_720 ⟨by omega, by omega⟩ rfl ?_
  refine ap_aload_n dL_law_721 rfl ?_
  refine ap_iload dL_law_722 rfl ?_
  refine ap_iconst dL_law_724 ?_
  refine ap_iadd dL_law_725 ?_
  refine ap_sld hX hb hL dL_law_726 ⟨by omega, by omega⟩ rfl ?_
  refine ap_aload_n dL_law_727 rfl ?_
  refine ap_invSH (st := []) (as := [vr (some c), vi (zs (i + 1).toNat), vi (zs (i + 2).toNat), vr (some (c + 1722))]) hNc dL_law_728 sL_written kL_126 rfl (w_written (γ := γ) hI.1 hI.2.2.2 hI.2.2.1 (Or.inr (by omega)) (hz _) (hz _)) rfl rfl (by decide) hkc hks (Nat.le_of_ble_eq_true rfl) (fun h1 r1 => ?_)
  obtain ⟨hm1, hk1⟩ := Lw9.w hI r1
  obtain ⟨g1, g2, g3, -, -⟩ := r1
  have hm := m_written (γ := γ) hm1 (hz (i + 1).toNat) (hz (i + 2).toNat)
  have cd : 0 ≤ (opWri F (zs (i + 1).toNat) (zs (i + 2).toNat)).1 ∧ (opWri F (zs (i + 1).toNat) (zs (i + 2).toNat)).1 ≤ 3 := by
    rcases cd_written (F := F) (p := zs (i + 1).toNat) (i := zs (i + 2).toNat) with z | z | z | z <;> omega
  generalize opWri F (zs (i + 1).toNat) (zs (i + 2).toNat) = op9 at g1 g3 hm cd ⊢
  obtain ⟨k9, v9, F9⟩ := op9
  dsimp only at g1 g3 cd ⊢
  refine ap_istore (ls1 := (5, vi k9) :: lL i b c) dL_law_731 (by decide) rfl ?_
  refine ap_aload_n dL_law_733 rfl ?_
  refine ap_aload_n dL_law_734 rfl ?_
  refine ap_iload dL_law_735 rfl ?_
  refine ap_iconst dL_law_737 ?_
  refine ap_iadd dL_law_738 ?_
  refine ap_sld hX hb hL dL_law_739 ⟨by omega, by omega⟩ rfl ?_
  refine ap_aload_n dL_law_740 rfl ?_
  refine ap_iload dL_law_741 rfl ?_
  refine ap_iconst dL_law_743 ?_
  refine ap_iadd dL_law_744 ?_
  refine ap_sld hX hb hL dL_law_745 ⟨by omega, by omega⟩ rfl ?_
  refine ap_invV_e (st := []) (as := [vi (zs (i + 1).toNat), vi (zs (i + 2).toNat)]) dL_law_746 vX12_written kL_128 rfl hm ⟨_, hm1.1.1, _, _, rfl⟩ rfl rfl (by decide) (Nat.zero_le _) (Nat.zero_le _) (Nat.le_of_ble_eq_true rfl) (fun h2 q2 => ?_)
  obtain ⟨f1, f2, f3⟩ := q2
  dsimp only at f1 f2
  have f4 := SAo f3
  have hI2 : Lw9 h2 c F9 := Lw9.m g1 g2 hk1 f4 f1 rfl
  have g4 : k9 = 0 → gl h2 (c + 1722) 0 = i6 v9 := fun z => ((f4.2 (c + 1722) (by omega)).2 0).2.1.trans (g3 z)
  refine ap_istore (ls1 := (6, vi v9) :: (5, vi k9) :: lL i b c) dL_law_749 (by decide) rfl ?_
  refine ap_aload_n dL_law_751 rfl ?_
  refine ap_invV_r (st := []) (as := []) dL_law_752 vX12_thrown kL_92 rfl (m_thrown (γ := γ) f1.1.1) ⟨_, f1.1.1, _, _, rfl⟩ rfl rfl (by decide) (Nat.zero_le _) (Nat.zero_le _) (Nat.le_of_ble_eq_true rfl) ?_
  rw [f2]
  refine ap_iload dL_law_755 rfl ?_
  refine ap_ic_eq (tgt := 762) dL_law_757 (by decide) ⟨by omega, by omega⟩ ⟨by omega, by omega⟩ (fun _ => ?_) (fun z => absurd rfl z)
  refine ap_iload dL_law_762 rfl ?_
  have kend : AP Pp γ mL_law 14 (kc - 1 - 0 - 0) (ks - 6 - 0 - 0) 779 ((6, vi v9) :: (5, vi k9) :: lL i b c) [] h2 Q := ap_goto (tgt := 1544) dL_law_779 (by decide) (ap_sub [2, 3, 4, 5, 6] rfl (kk h2 F9 hI2))
  refine ap_if_ne (tgt := 779) dL_law_764 (by decide) ⟨by omega, by omega⟩ (fun _ => kend) (fun z => ?_)
  have z0 : k9 = 0 := Classical.not_not.mp z
  refine ap_aload_n dL_law_767 rfl ?_
  refine ap_iconst dL_law_768 ?_
  refine ap_lald dL_law_769 hI2.2.2.1 ⟨by omega, by omega⟩ (by omega) ?_
  rw [g4 z0]
  refine ap_iload dL_law_770 rfl ?_
  refine ap_i2l dL_law_772 rfl ?_
  refine ap_lcmp dL_law_773 (fun _ => ?_) (fun z9 z1 z2 => absurd rfl z2)
  exact ap_if_eq (tgt := 779) dL_law_774 (by decide) ⟨by omega, by omega⟩ (fun _ => kend) (fun z => absurd rfl z)
theorem k_size {Pp : State → Prop} {γ : GG} {b L c : Nat} {zs : Nat → Int} {i : Int} {kc ks : Nat} {h : AH} {F : FS} {Q : AR → AH → Prop} (hC : LC Pp γ b L c zs i) (hI : Lw9 h c F) (hkc : 1 ≤ kc) (hks : 6 ≤ ks) (kk : ∀ (h' : AH) (F' : FS), Lw9 h' c F' → AP Pp γ mL_law 14 (kc - 1) (ks - 6) 1544 (lL i b c) [] h' Q) : AP Pp γ mL_law 14 kc ks 782 (lL i b c) [] h Q := by
  obtain ⟨hNc, hX, hb, hL, hi, hz⟩ := hC
  refine ap_aload_n dL_law_782 rfl ?_
  refine ap_aload_n dL_law_783 rfl ?_
  refine ap_iload dL_law_784 rfl ?_
  refine ap_iconst dL_law_786 ?_
  refine ap_iadd dL_law_787 ?_
  refine ap_sld hX hb hL dL_law_788 ⟨by omega, by omega⟩ rfl ?_
  refine ap_aload_n dL_law_789 rfl ?_
  refine ap_iload dL_law_790 rfl ?_
  refine ap_iconst dL_law_792 ?_
  refine ap_iadd dL_law_793 ?_
  refine ap_sld hX hb hL dL_law_794 ⟨by omega, by omega⟩ rfl ?_
  refine ap_aload_n dL_law_795 rfl ?_
  refine ap_invSH (st := []) (as := [vr (some c), vi (zs (i + 1).toNat), vi (zs (i + 2).toNat), vr (some (c + 1722))]) hNc dL_law_796 sL_size kL_129 rfl (w_size (γ := γ) hI.1 hI.2.2.2 hI.2.2.1 (Or.inr (by omega)) (hz _) (hz _)) rfl rfl (by decide) hkc hks (Nat.le_of_ble_eq_true rfl) (fun h1 r1 => ?_)
  obtain ⟨hm1, hk1⟩ := Lw9.w hI r1
  obtain ⟨g1, g2, g3, -, -⟩ := r1
  have hm := m_size (γ := γ) hm1 (hz (i + 1).toNat) (hz (i + 2).toNat)
  have cd : 0 ≤ (opSiz F (zs (i + 1).toNat) (zs (i + 2).toNat)).1 ∧ (opSiz F (zs (i + 1).toNat) (zs (i + 2).toNat)).1 ≤ 3 := by
    rcases cd_size (F := F) (p := zs (i + 1).toNat) (x := zs (i + 2).toNat) with z | z | z | z <;> omega
  generalize opSiz F (zs (i + 1).toNat) (zs (i + 2).toNat) = op9 at g1 g3 hm cd ⊢
  obtain ⟨k9, v9, F9⟩ := op9
  dsimp only at g1 g3 cd ⊢
  refine ap_istore (ls1 := (5, vi k9) :: lL i b c) dL_law_799 (by decide) rfl ?_
  refine ap_aload_n dL_law_801 rfl ?_
  refine ap_aload_n dL_law_802 rfl ?_
  refine ap_iload dL_law_803 rfl ?_
  refine ap_iconst dL_law_805 ?_
  refine ap_iadd dL_law_806 ?_
  refine ap_sld hX hb hL dL_law_807 ⟨by omega, by omega⟩ rfl ?_
  refine ap_aload_n dL_law_808 rfl ?_
  refine ap_iload dL_law_809 rfl ?_
  refine ap_iconst dL_law_811 ?_
  refine ap_iadd dL_law_812 ?_
  refine ap_sld hX hb hL dL_law_813 ⟨by omega, by omega⟩ rfl ?_
  refine ap_invV_e (st := []) (as := [vi (zs (i + 1).toNat), vi (zs (i + 2).toNat)]) dL_law_814 vX12_size kL_131 rfl hm ⟨_, hm1.1.1, _, _, rfl⟩ rfl rfl (by decide) (Nat.zero_le _) (Nat.zero_le _) (Nat.le_of_ble_eq_true rfl) (fun h2 q2 => ?_)
  obtain ⟨f1, f2, f3⟩ := q2
  dsimp only at f1 f2
  have f4 := SAo f3
  have hI2 : Lw9 h2 c F9 := Lw9.m g1 g2 hk1 f4 f1 rfl
  have g4 : k9 = 0 → gl h2 (c + 1722) 0 = i6 v9 := fun z => ((f4.2 (c + 1722) (by omega)).2 0).2.1.trans (g3 z)
  refine ap_istore (ls1 := (6, vi v9) :: (5, vi k9) :: lL i b c) dL_law_817 (by decide) rfl ?_
  refine ap_aload_n dL_law_819 rfl ?_
  refine ap_invV_r (st := []) (as := []) dL_law_820 vX12_thrown kL_92 rfl (m_thrown (γ := γ) f1.1.1) ⟨_, f1.1.1, _, _, rfl⟩ rfl rfl (by decide) (Nat.zero_le _) (Nat.zero_le _) (Nat.le_of_ble_eq_true rfl) ?_
  rw [f2]
  refine ap_iload dL_law_823 rfl ?_
  refine ap_ic_eq (tgt := 830) dL_law_825 (by decide) ⟨by omega, by omega⟩ ⟨by omega, by omega⟩ (fun _ => ?_) (fun z => absurd rfl z)
  refine ap_iload dL_law_830 rfl ?_
  have kend : AP Pp γ mL_law 14 (kc - 1 - 0 - 0) (ks - 6 - 0 - 0) 847 ((6, vi v9) :: (5, vi k9) :: lL i b c) [] h2 Q := ap_goto (tgt := 1544) dL_law_847 (by decide) (ap_sub [2, 3, 4, 5, 6] rfl (kk h2 F9 hI2))
  refine ap_if_ne (tgt := 847) dL_law_832 (by decide) ⟨by omega, by omega⟩ (fun _ => kend) (fun z => ?_)
  have z0 : k9 = 0 := Classical.not_not.mp z
  refine ap_aload_n dL_law_835 rfl ?_
  refine ap_iconst dL_law_836 ?_
  refine ap_lald dL_law_837 hI2.2.2.1 ⟨by omega, by omega⟩ (by omega) ?_
  rw [g4 z0]
  refine ap_iload dL_law_838 rfl ?_
  refine ap_i2l dL_law_840 rfl ?_
  refine ap_lcmp dL_law_841 (fun _ => ?_) (fun z9 z1 z2 => absurd rfl z2)
  exact ap_if_eq (tgt := 847) dL_law_842 (by decide) ⟨by omega, by omega⟩ (fun _ => kend) (fun z => absurd rfl z)
theorem k_unite {Pp : State → Prop} {γ : GG} {b L c : Nat} {zs : Nat → Int} {i : Int} {kc ks : Nat} {h : AH} {F : FS} {Q : AR → AH → Prop} (hC : LC Pp γ b L c zs i) (hI : Lw9 h c F) (hkc : 1 ≤ kc) (hks : 6 ≤ ks) (kk : ∀ (h' : AH) (F' : FS), Lw9 h' c F' → AP Pp γ mL_law 14 (kc - 1) (ks - 6) 1544 (lL i b c) [] h' Q) : AP Pp γ mL_law 14 kc ks 850 (lL i b c) [] h Q := by
  obtain ⟨hNc, hX, hb, hL, hi, hz⟩ := hC
  refine ap_aload_n dL_law_850 rfl ?_
  refine ap_aload_n dL_law_851 rfl ?_
  refine ap_iload dL_law_852 rfl ?_
  refine ap_iconst dL_law_854 ?_
  refine ap_iadd dL_law_855 ?_
  refine ap_sld hX hb hL dL_law_856 ⟨by omega, by omega⟩ rfl ?_
  refine ap_aload_n dL_law_857 rfl ?_
  refine ap_iload dL_law_858 rfl ?_
  refine ap_iconst dL_law_860 ?_
  refine ap_iadd dL_law_861 ?_
  refine ap_sld hX hb hL dL_law_862 ⟨by omega, by omega⟩ rfl ?_
  refine ap_aload_n dL_law_863 rfl ?_
  refine ap_iload dL_law_864 rfl ?_
  refine ap_iconst dL_law_866 ?_
  refine ap_iadd dL_law_867 ?_
  refine ap_sld hX hb hL dL_law_868 ⟨by omega, by omega⟩ rfl ?_
  refine ap_aload_n dL_law_869 rfl ?_
  refine ap_invSH (st := []) (as := [vr (some c), vi (zs (i + 1).toNat), vi (zs (i + 2).toNat), vi (zs (i + 3).toNat), vr (some (c + 1722))]) hNc dL_law_870 sL_unite kL_132 rfl (w_unite (γ := γ) hI.1 hI.2.2.2 hI.2.2.1 (Or.inr (by omega)) (hz _) (hz _) (hz _)) rfl rfl (by decide) hkc hks (Nat.le_of_ble_eq_true rfl) (fun h1 r1 => ?_)
  obtain ⟨hm1, hk1⟩ := Lw9.w hI r1
  obtain ⟨g1, g2, g3, -, -⟩ := r1
  have hm := m_unite (γ := γ) hm1 (hz (i + 1).toNat) (hz (i + 2).toNat) (hz (i + 3).toNat)
  have cd : 0 ≤ (opUni F (zs (i + 1).toNat) (zs (i + 2).toNat) (zs (i + 3).toNat)).1 ∧ (opUni F (zs (i + 1).toNat) (zs (i + 2).toNat) (zs (i + 3).toNat)).1 ≤ 2 := by
    rcases cd_unite (F := F) (p := zs (i + 1).toNat) (r := zs (i + 2).toNat) (s := zs (i + 3).toNat) with z | z | z <;> omega
  generalize opUni F (zs (i + 1).toNat) (zs (i + 2).toNat) (zs (i + 3).toNat) = op9 at g1 g3 hm cd ⊢
  obtain ⟨k9, v9, F9⟩ := op9
  dsimp only at g1 g3 cd ⊢
  refine ap_istore (ls1 := (5, vi k9) :: lL i b c) dL_law_873 (by decide) rfl ?_
  refine ap_aload_n dL_law_875 rfl ?_
  refine ap_aload_n dL_law_876 rfl ?_
  refine ap_iload dL_law_877 rfl ?_
  refine ap_iconst dL_law_879 ?_
  refine ap_iadd dL_law_880 ?_
  refine ap_sld hX hb hL dL_law_881 ⟨by omega, by omega⟩ rfl ?_
  refine ap_aload_n dL_law_882 rfl ?_
  refine ap_iload dL_law_883 rfl ?_
  refine ap_iconst dL_law_885 ?_
  refine ap_iadd dL_law_886 ?_
  refine ap_sld hX hb hL dL_law_887 ⟨by omega, by omega⟩ rfl ?_
  refine ap_aload_n dL_law_888 rfl ?_
  refine ap_iload dL_law_889 rfl ?_
  refine ap_iconst dL_law_891 ?_
  refine ap_iadd dL_law_892 ?_
  refine ap_sld hX hb hL dL_law_893 ⟨by omega, by omega⟩ rfl ?_
  refine ap_invV_e (st := []) (as := [vi (zs (i + 1).toNat), vi (zs (i + 2).toNat), vi (zs (i + 3).toNat)]) dL_law_894 vX12_unite kL_134 rfl hm ⟨_, hm1.1.1, _, _, rfl⟩ rfl rfl (by decide) (Nat.zero_le _) (Nat.zero_le _) (Nat.le_of_ble_eq_true rfl) (fun h2 q2 => ?_)
  obtain ⟨f1, f2, f3⟩ := q2
  dsimp only at f1 f2
  have f4 := SAo f3
  have hI2 : Lw9 h2 c F9 := Lw9.m g1 g2 hk1 f4 f1 rfl
  have g4 : k9 = 0 → gl h2 (c + 1722) 0 = i6 v9 := fun z => ((f4.2 (c + 1722) (by omega)).2 0).2.1.trans (g3 z)
  refine ap_istore (ls1 := (6, vi v9) :: (5, vi k9) :: lL i b c) dL_law_897 (by decide) rfl ?_
  refine ap_aload_n dL_law_899 rfl ?_
  refine ap_invV_r (st := []) (as := []) dL_law_900 vX12_thrown kL_92 rfl (m_thrown (γ := γ) f1.1.1) ⟨_, f1.1.1, _, _, rfl⟩ rfl rfl (by decide) (Nat.zero_le _) (Nat.zero_le _) (Nat.le_of_ble_eq_true rfl) ?_
  rw [f2]
  refine ap_iload dL_law_903 rfl ?_
  refine ap_ic_eq (tgt := 910) dL_law_905 (by decide) ⟨by omega, by omega⟩ ⟨by omega, by omega⟩ (fun _ => ?_) (fun z => absurd rfl z)
  refine ap_iload dL_law_910 rfl ?_
  have kend : AP Pp γ mL_law 14 (kc - 1 - 0 - 0) (ks - 6 - 0 - 0) 927 ((6, vi v9) :: (5, vi k9) :: lL i b c) [] h2 Q := ap_goto (tgt := 1544) dL_law_927 (by decide) (ap_sub [2, 3, 4, 5, 6] rfl (kk h2 F9 hI2))
  refine ap_if_ne (tgt := 927) dL_law_912 (by decide) ⟨by omega, by omega⟩ (fun _ => kend) (fun z => ?_)
  have z0 : k9 = 0 := Classical.not_not.mp z
  refine ap_aload_n dL_law_915 rfl ?_
  refine ap_iconst dL_law_916 ?_
  refine ap_lald dL_law_917 hI2.2.2.1 ⟨by omega, by omega⟩ (by omega) ?_
  rw [g4 z0]
  refine ap_iload dL_law_918 rfl ?_
  refine ap_i2l dL_law_920 rfl ?_
  refine ap_lcmp dL_law_921 (fun _ => ?_) (fun z9 z1 z2 => absurd rfl z2)
  exact ap_if_eq (tgt := 927) dL_law_922 (by decide) ⟨by omega, by omega⟩ (fun _ => kend) (fun z => absurd rfl z)
theorem k_drop {Pp : State → Prop} {γ : GG} {b L c : Nat} {zs : Nat → Int} {i : Int} {kc ks : Nat} {h : AH} {F : FS} {Q : AR → AH → Prop} (hC : LC Pp γ b L c zs i) (hI : Lw9 h c F) (hkc : 1 ≤ kc) (hks : 6 ≤ ks) (kk : ∀ (h' : AH) (F' : FS), Lw9 h' c F' → AP Pp γ mL_law 14 (kc - 1) (ks - 6) 1544 (lL i b c) [] h' Q) : AP Pp γ mL_law 14 kc ks 930 (lL i b c) [] h Q := by
  obtain ⟨hNc, hX, hb, hL, hi, hz⟩ := hC
  refine ap_aload_n dL_law_930 rfl ?_
  refine ap_aload_n dL_law_931 rfl ?_
  refine ap_iload dL_law_932 rfl ?_
  refine ap_iconst dL_law_934 ?_
  refine ap_iadd dL_law_935 ?_
  refine ap_sld hX hb hL dL_law_936 ⟨by omega, by omega⟩ rfl ?_
  refine ap_aload_n dL_law_937 rfl ?_
  refine ap_invSH (st := []) (as := [vr (some c), vi (zs (i + 1).toNat), vr (some (c + 1722))]) hNc dL_law_938 sL_drop kL_135 rfl (w_drop (γ := γ) hI.1 hI.2.2.2 hI.2.2.1 (Or.inr (by omega)) (hz _)) rfl rfl (by decide) hkc hks (Nat.le_of_ble_eq_true rfl) (fun h1 r1 => ?_)
  obtain ⟨hm1, hk1⟩ := Lw9.w hI r1
  obtain ⟨g1, g2, g3, -, -⟩ := r1
  have hm := m_drop (γ := γ) hm1 (hz (i + 1).toNat)
  have cd : 0 ≤ (opDrp F (zs (i + 1).toNat)).1 ∧ (opDrp F (zs (i + 1).toNat)).1 ≤ 1 := by
    rcases cd_drop (F := F) (p := zs (i + 1).toNat) with z | z <;> omega
  generalize opDrp F (zs (i + 1).toNat) = op9 at g1 g3 hm cd ⊢
  obtain ⟨k9, v9, F9⟩ := op9
  dsimp only at g1 g3 cd ⊢
  refine ap_istore (ls1 := (5, vi k9) :: lL i b c) dL_law_941 (by decide) rfl ?_
  refine ap_aload_n dL_law_943 rfl ?_
  refine ap_aload_n dL_law_944 rfl ?_
  refine ap_iload dL_law_945 rfl ?_
  refine ap_iconst dL_law_947 ?_
  refine ap_iadd dL_law_948 ?_
  refine ap_sld hX hb hL dL_law_949 ⟨by omega, by omega⟩ rfl ?_
  refine ap_invV_e (st := []) (as := [vi (zs (i + 1).toNat)]) dL_law_950 vX12_drop kL_137 rfl hm ⟨_, hm1.1.1, _, _, rfl⟩ rfl rfl (by decide) (Nat.zero_le _) (Nat.zero_le _) (Nat.le_of_ble_eq_true rfl) (fun h2 q2 => ?_)
  obtain ⟨f1, f2, f3⟩ := q2
  dsimp only at f1 f2
  have f4 := SAo f3
  have hI2 : Lw9 h2 c F9 := Lw9.m g1 g2 hk1 f4 f1 rfl
  have g4 : k9 = 0 → gl h2 (c + 1722) 0 = i6 v9 := fun z => ((f4.2 (c + 1722) (by omega)).2 0).2.1.trans (g3 z)
  refine ap_istore (ls1 := (6, vi v9) :: (5, vi k9) :: lL i b c) dL_law_953 (by decide) rfl ?_
  refine ap_aload_n dL_law_955 rfl ?_
  refine ap_invV_r (st := []) (as := []) dL_law_956 vX12_thrown kL_92 rfl (m_thrown (γ := γ) f1.1.1) ⟨_, f1.1.1, _, _, rfl⟩ rfl rfl (by decide) (Nat.zero_le _) (Nat.zero_le _) (Nat.le_of_ble_eq_true rfl) ?_
  rw [f2]
  refine ap_iload dL_law_959 rfl ?_
  refine ap_ic_eq (tgt := 966) dL_law_961 (by decide) ⟨by omega, by omega⟩ ⟨by omega, by omega⟩ (fun _ => ?_) (fun z => absurd rfl z)
  refine ap_iload dL_law_966 rfl ?_
  have kend : AP Pp γ mL_law 14 (kc - 1 - 0 - 0) (ks - 6 - 0 - 0) 983 ((6, vi v9) :: (5, vi k9) :: lL i b c) [] h2 Q := ap_goto (tgt := 1544) dL_law_983 (by decide) (ap_sub [2, 3, 4, 5, 6] rfl (kk h2 F9 hI2))
  refine ap_if_ne (tgt := 983) dL_law_968 (by decide) ⟨by omega, by omega⟩ (fun _ => kend) (fun z => ?_)
  have z0 : k9 = 0 := Classical.not_not.mp z
  refine ap_aload_n dL_law_971 rfl ?_
  refine ap_iconst dL_law_972 ?_
  refine ap_lald dL_law_973 hI2.2.2.1 ⟨by omega, by omega⟩ (by omega) ?_
  rw [g4 z0]
  refine ap_iload dL_law_974 rfl ?_
  refine ap_i2l dL_law_976 rfl ?_
  refine ap_lcmp dL_law_977 (fun _ => ?_) (fun z9 z1 z2 => absurd rfl z2)
  exact ap_if_eq (tgt := 983) dL_law_978 (by decide) ⟨by omega, by omega⟩ (fun _ => kend) (fun z => absurd rfl z)
theorem k_count {Pp : State → Prop} {γ : GG} {b L c : Nat} {zs : Nat → Int} {i : Int} {kc ks : Nat} {h : AH} {F : FS} {Q : AR → AH → Prop} (hC : LC Pp γ b L c zs i) (hI : Lw9 h c F) (hkc : 1 ≤ kc) (hks : 6 ≤ ks) (kk : ∀ (h' : AH) (F' : FS), Lw9 h' c F' → AP Pp γ mL_law 14 (kc - 1) (ks - 6) 1544 (lL i b c) [] h' Q) : AP Pp γ mL_law 14 kc ks 986 (lL i b c) [] h Q := by
  obtain ⟨hNc, hX, hb, hL, hi, hz⟩ := hC
  refine ap_aload_n dL_law_986 rfl ?_
  refine ap_aload_n dL_law_987 rfl ?_
  refine ap_iload dL_law_988 rfl ?_
  refine ap_iconst dL_law_990 ?_
  refine ap_iadd dL_law_991 ?_
  refine ap_sld hX hb hL dL_law_992 ⟨by omega, by omega⟩ rfl ?_
  refine ap_aload_n dL_law_993 rfl ?_
  refine ap_iload dL_law_994 rfl ?_
  refine ap_iconst dL_law_996 ?_
  refine ap_iadd dL_law_997 ?_
  refine ap_sld hX hb hL dL_law_998 ⟨by omega, by omega⟩ rfl ?_
  refine ap_aload_n dL_law_999 rfl ?_
  refine ap_invSH (st := []) (as := [vr (some c), vi (zs (i + 1).toNat), vi (zs (i + 2).toNat), vr (some (c + 1722))]) hNc dL_law_1000 sL_count kL_138 rfl (w_count (γ := γ) hI.1 hI.2.2.2 hI.2.2.1 (Or.inr (by omega)) (hz _) (hz _)) rfl rfl (by decide) hkc hks (Nat.le_of_ble_eq_true rfl) (fun h1 r1 => ?_)
  obtain ⟨hm1, hk1⟩ := Lw9.w hI r1
  obtain ⟨g1, g2, g3, -, -⟩ := r1
  have hm := m_count (γ := γ) hm1 (hz (i + 1).toNat) (hz (i + 2).toNat)
  have cd : 0 ≤ (opCnt F (zs (i + 1).toNat) (zs (i + 2).toNat)).1 ∧ (opCnt F (zs (i + 1).toNat) (zs (i + 2).toNat)).1 ≤ 2 := by
    rcases cd_count (F := F) (p := zs (i + 1).toNat) (v := zs (i + 2).toNat) with z | z | z <;> omega
  generalize opCnt F (zs (i + 1).toNat) (zs (i + 2).toNat) = op9 at g1 g3 hm cd ⊢
  obtain ⟨k9, v9, F9⟩ := op9
  dsimp only at g1 g3 cd ⊢
  refine ap_istore (ls1 := (5, vi k9) :: lL i b c) dL_law_1003 (by decide) rfl ?_
  refine ap_aload_n dL_law_1005 rfl ?_
  refine ap_aload_n dL_law_1006 rfl ?_
  refine ap_iload dL_law_1007 rfl ?_
  refine ap_iconst dL_law_1009 ?_
  refine ap_iadd dL_law_1010 ?_
  refine ap_sld hX hb hL dL_law_1011 ⟨by omega, by omega⟩ rfl ?_
  refine ap_aload_n dL_law_1012 rfl ?_
  refine ap_iload dL_law_1013 rfl ?_
  refine ap_iconst dL_law_1015 ?_
  refine ap_iadd dL_law_1016 ?_
  refine ap_sld hX hb hL dL_law_1017 ⟨by omega, by omega⟩ rfl ?_
  refine ap_invV_e (st := []) (as := [vi (zs (i + 1).toNat), vi (zs (i + 2).toNat)]) dL_law_1018 vX12_count kL_140 rfl hm ⟨_, hm1.1.1, _, _, rfl⟩ rfl rfl (by decide) (Nat.zero_le _) (Nat.zero_le _) (Nat.le_of_ble_eq_true rfl) (fun h2 q2 => ?_)
  obtain ⟨f1, f2, f3⟩ := q2
  dsimp only at f1 f2
  have f4 := SAo f3
  have hI2 : Lw9 h2 c F9 := Lw9.m g1 g2 hk1 f4 f1 rfl
  have g4 : k9 = 0 → gl h2 (c + 1722) 0 = i6 v9 := fun z => ((f4.2 (c + 1722) (by omega)).2 0).2.1.trans (g3 z)
  refine ap_istore (ls1 := (6, vi v9) :: (5, vi k9) :: lL i b c) dL_law_1021 (by decide) rfl ?_
  refine ap_aload_n dL_law_1023 rfl ?_
  refine ap_invV_r (st := []) (as := []) dL_law_1024 vX12_thrown kL_92 rfl (m_thrown (γ := γ) f1.1.1) ⟨_, f1.1.1, _, _, rfl⟩ rfl rfl (by decide) (Nat.zero_le _) (Nat.zero_le _) (Nat.le_of_ble_eq_true rfl) ?_
  rw [f2]
  refine ap_iload dL_law_1027 rfl ?_
  refine ap_ic_eq (tgt := 1034) dL_law_1029 (by decide) ⟨by omega, by omega⟩ ⟨by omega, by omega⟩ (fun _ => ?_) (fun z => absurd rfl z)
  refine ap_iload dL_law_1034 rfl ?_
  have kend : AP Pp γ mL_law 14 (kc - 1 - 0 - 0) (ks - 6 - 0 - 0) 1051 ((6, vi v9) :: (5, vi k9) :: lL i b c) [] h2 Q := ap_goto (tgt := 1544) dL_law_1051 (by decide) (ap_sub [2, 3, 4, 5, 6] rfl (kk h2 F9 hI2))
  refine ap_if_ne (tgt := 1051) dL_law_1036 (by decide) ⟨by omega, by omega⟩ (fun _ => kend) (fun z => ?_)
  have z0 : k9 = 0 := Classical.not_not.mp z
  refine ap_aload_n dL_law_1039 rfl ?_
  refine ap_iconst dL_law_1040 ?_
  refine ap_lald dL_law_1041 hI2.2.2.1 ⟨by omega, by omega⟩ (by omega) ?_
  rw [g4 z0]
  refine ap_iload dL_law_1042 rfl ?_
  refine ap_i2l dL_law_1044 rfl ?_
  refine ap_lcmp dL_law_1045 (fun _ => ?_) (fun z9 z1 z2 => absurd rfl z2)
  exact ap_if_eq (tgt := 1051) dL_law_1046 (by decide) ⟨by omega, by omega⟩ (fun _ => kend) (fun z => absurd rfl z)
theorem k_selected {Pp : State → Prop} {γ : GG} {b L c : Nat} {zs : Nat → Int} {i : Int} {kc ks : Nat} {h : AH} {F : FS} {Q : AR → AH → Prop} (hC : LC Pp γ b L c zs i) (hI : Lw9 h c F) (hkc : 1 ≤ kc) (hks : 6 ≤ ks) (kk : ∀ (h' : AH) (F' : FS), Lw9 h' c F' → AP Pp γ mL_law 14 (kc - 1) (ks - 6) 1544 (lL i b c) [] h' Q) : AP Pp γ mL_law 14 kc ks 1054 (lL i b c) [] h Q := by
  obtain ⟨hNc, hX, hb, hL, hi, hz⟩ := hC
  refine ap_aload_n dL_law_1054 rfl ?_
  refine ap_aload_n dL_law_1055 rfl ?_
  refine ap_iload dL_law_1056 rfl ?_
  refine ap_iconst dL_law_1058 ?_
  refine ap_iadd dL_law_1059 ?_
  refine ap_sld hX hb hL dL_law_1060 ⟨by omega, by omega⟩ rfl ?_
  refine ap_aload_n dL_law_1061 rfl ?_
  refine ap_iload dL_law_1062 rfl ?_
  refine ap_iconst dL_law_1064 ?_
  refine ap_iadd dL_law_1065 ?_
  refine ap_sld hX hb hL dL_law_1066 ⟨by omega, by omega⟩ rfl ?_
  refine ap_aload_n dL_law_1067 rfl ?_
  refine ap_iload dL_law_1068 rfl ?_
  refine ap_iconst dL_law_1070 ?_
  refine ap_iadd dL_law_1071 ?_
  refine ap_sld hX hb hL dL_law_1072 ⟨by omega, by omega⟩ rfl ?_
  refine ap_aload_n dL_law_1073 rfl ?_
  refine ap_invSH (st := []) (as := [vr (some c), vi (zs (i + 1).toNat), vi (zs (i + 2).toNat), vi (zs (i + 3).toNat), vr (some (c + 1722))]) hNc dL_law_1074 sL_selected kL_141 rfl (w_selected (γ := γ) hI.1 hI.2.2.2 hI.2.2.1 (Or.inr (by omega)) (hz _) (hz _) (hz _)) rfl rfl (by decide) hkc hks (Nat.le_of_ble_eq_true rfl) (fun h1 r1 => ?_)
  obtain ⟨hm1, hk1⟩ := Lw9.w hI r1
  obtain ⟨g1, g2, g3, -, -⟩ := r1
  have hm := m_selected (γ := γ) hm1 (hz (i + 1).toNat) (hz (i + 2).toNat) (hz (i + 3).toNat)
  have cd : 0 ≤ (opSel F (zs (i + 1).toNat) (zs (i + 2).toNat) (zs (i + 3).toNat)).1 ∧ (opSel F (zs (i + 1).toNat) (zs (i + 2).toNat) (zs (i + 3).toNat)).1 ≤ 3 := by
    rcases cd_selected (F := F) (p := zs (i + 1).toNat) (v := zs (i + 2).toNat) (i := zs (i + 3).toNat) with z | z | z | z <;> omega
  generalize opSel F (zs (i + 1).toNat) (zs (i + 2).toNat) (zs (i + 3).toNat) = op9 at g1 g3 hm cd ⊢
  obtain ⟨k9, v9, F9⟩ := op9
  dsimp only at g1 g3 cd ⊢
  refine ap_istore (ls1 := (5, vi k9) :: lL i b c) dL_law_1077 (by decide) rfl ?_
  refine ap_aload_n dL_law_1079 rfl ?_
  refine ap_aload_n dL_law_1080 rfl ?_
  refine ap_iload dL_law_1081 rfl ?_
  refine ap_iconst dL_law_1083 ?_
  refine ap_iadd dL_law_1084 ?_
  refine ap_sld hX hb hL dL_law_1085 ⟨by omega, by omega⟩ rfl ?_
  refine ap_aload_n dL_law_1086 rfl ?_
  refine ap_iload dL_law_1087 rfl ?_
  refine ap_iconst dL_law_1089 ?_
  refine ap_iadd dL_law_1090 ?_
  refine ap_sld hX hb hL dL_law_1091 ⟨by omega, by omega⟩ rfl ?_
  refine ap_aload_n dL_law_1092 rfl ?_
  refine ap_iload dL_law_1093 rfl ?_
  refine ap_iconst dL_law_1095 ?_
  refine ap_iadd dL_law_1096 ?_
  refine ap_sld hX hb hL dL_law_1097 ⟨by omega, by omega⟩ rfl ?_
  refine ap_invV_e (st := []) (as := [vi (zs (i + 1).toNat), vi (zs (i + 2).toNat), vi (zs (i + 3).toNat)]) dL_law_1098 vX12_selected kL_143 rfl hm ⟨_, hm1.1.1, _, _, rfl⟩ rfl rfl (by decide) (Nat.zero_le _) (Nat.zero_le _) (Nat.le_of_ble_eq_true rfl) (fun h2 q2 => ?_)
  obtain ⟨f1, f2, f3⟩ := q2
  dsimp only at f1 f2
  have f4 := SAo f3
  have hI2 : Lw9 h2 c F9 := Lw9.m g1 g2 hk1 f4 f1 rfl
  have g4 : k9 = 0 → gl h2 (c + 1722) 0 = i6 v9 := fun z => ((f4.2 (c + 1722) (by omega)).2 0).2.1.trans (g3 z)
  refine ap_istore (ls1 := (6, vi v9) :: (5, vi k9) :: lL i b c) dL_law_1101 (by decide) rfl ?_
  refine ap_aload_n dL_law_1103 rfl ?_
  refine ap_invV_r (st := []) (as := []) dL_law_1104 vX12_thrown kL_92 rfl (m_thrown (γ := γ) f1.1.1) ⟨_, f1.1.1, _, _, rfl⟩ rfl rfl (by decide) (Nat.zero_le _) (Nat.zero_le _) (Nat.le_of_ble_eq_true rfl) ?_
  rw [f2]
  refine ap_iload dL_law_1107 rfl ?_
  refine ap_ic_eq (tgt := 1114) dL_law_1109 (by decide) ⟨by omega, by omega⟩ ⟨by omega, by omega⟩ (fun _ => ?_) (fun z => absurd rfl z)
  refine ap_iload dL_law_1114 rfl ?_
  have kend : AP Pp γ mL_law 14 (kc - 1 - 0 - 0) (ks - 6 - 0 - 0) 1131 ((6, vi v9) :: (5, vi k9) :: lL i b c) [] h2 Q := ap_goto (tgt := 1544) dL_law_1131 (by decide) (ap_sub [2, 3, 4, 5, 6] rfl (kk h2 F9 hI2))
  refine ap_if_ne (tgt := 1131) dL_law_1116 (by decide) ⟨by omega, by omega⟩ (fun _ => kend) (fun z => ?_)
  have z0 : k9 = 0 := Classical.not_not.mp z
  refine ap_aload_n dL_law_1119 rfl ?_
  refine ap_iconst dL_law_1120 ?_
  refine ap_lald dL_law_1121 hI2.2.2.1 ⟨by omega, by omega⟩ (by omega) ?_
  rw [g4 z0]
  refine ap_iload dL_law_1122 rfl ?_
  refine ap_i2l dL_law_1124 rfl ?_
  refine ap_lcmp dL_law_1125 (fun _ => ?_) (fun z9 z1 z2 => absurd rfl z2)
  exact ap_if_eq (tgt := 1131) dL_law_1126 (by decide) ⟨by omega, by omega⟩ (fun _ => kend) (fun z => absurd rfl z)
theorem k_sum {Pp : State → Prop} {γ : GG} {b L c : Nat} {zs : Nat → Int} {i : Int} {kc ks : Nat} {h : AH} {F : FS} {Q : AR → AH → Prop} (hC : LC Pp γ b L c zs i) (hI : Lw9 h c F) (hkc : 1 ≤ kc) (hks : 6 ≤ ks) (kk : ∀ (h' : AH) (F' : FS), Lw9 h' c F' → AP Pp γ mL_law 14 (kc - 1) (ks - 6) 1544 (lL i b c) [] h' Q) : AP Pp γ mL_law 14 kc ks 1134 (lL i b c) [] h Q := by
  obtain ⟨hNc, hX, hb, hL, hi, hz⟩ := hC
  refine ap_aload_n dL_law_1134 rfl ?_
  refine ap_aload_n dL_law_1135 rfl ?_
  refine ap_iload dL_law_1136 rfl ?_
  refine ap_iconst dL_law_1138 ?_
  refine ap_iadd dL_law_1139 ?_
  refine ap_sld hX hb hL dL_law_1140 ⟨by omega, by omega⟩ rfl ?_
  refine ap_aload_n dL_law_1141 rfl ?_
  refine ap_iload dL_law_1142 rfl ?_
  refine ap_iconst dL_law_1144 ?_
  refine ap_iadd dL_law_1145 ?_
  refine ap_sld hX hb hL dL_law_1146 ⟨by omega, by omega⟩ rfl ?_
  refine ap_aload_n dL_law_1147 rfl ?_
  refine ap_invSH (st := []) (as := [vr (some c), vi (zs (i + 1).toNat), vi (zs (i + 2).toNat), vr (some (c + 1722))]) hNc dL_law_1148 sL_sum kL_144 rfl (w_sum (γ := γ) hI.1 hI.2.2.2 hI.2.2.1 (Or.inr (by omega)) (hz _) (hz _)) rfl rfl (by decide) hkc hks (Nat.le_of_ble_eq_true rfl) (fun h1 r1 => ?_)
  obtain ⟨hm1, hk1⟩ := Lw9.w hI r1
  obtain ⟨g1, g2, g3, -, -⟩ := r1
  have hm := m_sum (γ := γ) hm1 (hz (i + 1).toNat) (hz (i + 2).toNat)
  have cd : 0 ≤ (opSum F (zs (i + 1).toNat) (zs (i + 2).toNat)).1 ∧ (opSum F (zs (i + 1).toNat) (zs (i + 2).toNat)).1 ≤ 2 := by
    rcases cd_sum (F := F) (p := zs (i + 1).toNat) (v := zs (i + 2).toNat) with z | z | z <;> omega
  generalize opSum F (zs (i + 1).toNat) (zs (i + 2).toNat) = op9 at g1 g3 hm cd ⊢
  obtain ⟨k9, v9, F9⟩ := op9
  dsimp only at g1 g3 cd ⊢
  refine ap_istore (ls1 := (5, vi k9) :: lL i b c) dL_law_1151 (by decide) rfl ?_
  refine ap_aload_n dL_law_1153 rfl ?_
  refine ap_aload_n dL_law_1154 rfl ?_
  refine ap_iload dL_law_1155 rfl ?_
  refine ap_iconst dL_law_1157 ?_
  refine ap_iadd dL_law_1158 ?_
  refine ap_sld hX hb hL dL_law_1159 ⟨by omega, by omega⟩ rfl ?_
  refine ap_aload_n dL_law_1160 rfl ?_
  refine ap_iload dL_law_1161 rfl ?_
  refine ap_iconst dL_law_1163 ?_
  refine ap_iadd dL_law_1164 ?_
  refine ap_sld hX hb hL dL_law_1165 ⟨by omega, by omega⟩ rfl ?_
  refine ap_invV_e (st := []) (as := [vi (zs (i + 1).toNat), vi (zs (i + 2).toNat)]) dL_law_1166 vX12_sum kL_146 rfl hm ⟨_, hm1.1.1, _, _, rfl⟩ rfl rfl (by decide) (Nat.zero_le _) (Nat.zero_le _) (Nat.le_of_ble_eq_true rfl) (fun h2 q2 => ?_)
  obtain ⟨f1, f2, f3⟩ := q2
  dsimp only at f1 f2
  have f4 := SAo f3
  have hI2 : Lw9 h2 c F9 := Lw9.m g1 g2 hk1 f4 f1 rfl
  have g4 : k9 = 0 → gl h2 (c + 1722) 0 = i6 v9 := fun z => ((f4.2 (c + 1722) (by omega)).2 0).2.1.trans (g3 z)
  refine ap_istore (ls1 := (6, vi v9) :: (5, vi k9) :: lL i b c) dL_law_1169 (by decide) rfl ?_
  refine ap_aload_n dL_law_1171 rfl ?_
  refine ap_invV_r (st := []) (as := []) dL_law_1172 vX12_thrown kL_92 rfl (m_thrown (γ := γ) f1.1.1) ⟨_, f1.1.1, _, _, rfl⟩ rfl rfl (by decide) (Nat.zero_le _) (Nat.zero_le _) (Nat.le_of_ble_eq_true rfl) ?_
  rw [f2]
  refine ap_iload dL_law_1175 rfl ?_
  refine ap_ic_eq (tgt := 1182) dL_law_1177 (by decide) ⟨by omega, by omega⟩ ⟨by omega, by omega⟩ (fun _ => ?_) (fun z => absurd rfl z)
  refine ap_iload dL_law_1182 rfl ?_
  have kend : AP Pp γ mL_law 14 (kc - 1 - 0 - 0) (ks - 6 - 0 - 0) 1199 ((6, vi v9) :: (5, vi k9) :: lL i b c) [] h2 Q := ap_goto (tgt := 1544) dL_law_1199 (by decide) (ap_sub [2, 3, 4, 5, 6] rfl (kk h2 F9 hI2))
  refine ap_if_ne (tgt := 1199) dL_law_1184 (by decide) ⟨by omega, by omega⟩ (fun _ => kend) (fun z => ?_)
  have z0 : k9 = 0 := Classical.not_not.mp z
  refine ap_aload_n dL_law_1187 rfl ?_
  refine ap_iconst dL_law_1188 ?_
  refine ap_lald dL_law_1189 hI2.2.2.1 ⟨by omega, by omega⟩ (by omega) ?_
  rw [g4 z0]
  refine ap_iload dL_law_1190 rfl ?_
  refine ap_i2l dL_law_1192 rfl ?_
  refine ap_lcmp dL_law_1193 (fun _ => ?_) (fun z9 z1 z2 => absurd rfl z2)
  exact ap_if_eq (tgt := 1199) dL_law_1194 (by decide) ⟨by omega, by omega⟩ (fun _ => kend) (fun z => absurd rfl z)
theorem k_given {Pp : State → Prop} {γ : GG} {b L c : Nat} {zs : Nat → Int} {i : Int} {kc ks : Nat} {h : AH} {F : FS} {Q : AR → AH → Prop} (hC : LC Pp γ b L c zs i) (hI : Lw9 h c F) (hkc : 1 ≤ kc) (hks : 6 ≤ ks) (kk : ∀ (h' : AH) (F' : FS), Lw9 h' c F' → AP Pp γ mL_law 14 (kc - 1) (ks - 6) 1544 (lL i b c) [] h' Q) : AP Pp γ mL_law 14 kc ks 1202 (lL i b c) [] h Q := by
  obtain ⟨hNc, hX, hb, hL, hi, hz⟩ := hC
  refine ap_aload_n dL_law_1202 rfl ?_
  refine ap_aload_n dL_law_1203 rfl ?_
  refine ap_iload dL_law_1204 rfl ?_
  refine ap_iconst dL_law_1206 ?_
  refine ap_iadd dL_law_1207 ?_
  refine ap_sld hX hb hL dL_law_1208 ⟨by omega, by omega⟩ rfl ?_
  refine ap_aload_n dL_law_1209 rfl ?_
  refine ap_iload dL_law_1210 rfl ?_
  refine ap_iconst dL_law_1212 ?_
  refine ap_iadd dL_law_1213 ?_
  refine ap_sld hX hb hL dL_law_1214 ⟨by omega, by omega⟩ rfl ?_
  refine ap_aload_n dL_law_1215 rfl ?_
  refine ap_iload dL_law_1216 rfl ?_
  refine ap_iconst dL_law_1218 ?_
  refine ap_iadd dL_law_1219 ?_
  refine ap_sld hX hb hL dL_law_1220 ⟨by omega, by omega⟩ rfl ?_
  refine ap_aload_n dL_law_1221 rfl ?_
  refine ap_iload dL_law_1222 rfl ?_
  refine ap_iconst dL_law_1224 ?_
  refine ap_iadd dL_law_1225 ?_
  refine ap_sld hX hb hL dL_law_1226 ⟨by omega, by omega⟩ rfl ?_
  refine ap_aload_n dL_law_1227 rfl ?_
  refine ap_invSH (st := []) (as := [vr (some c), vi (zs (i + 1).toNat), vi (zs (i + 2).toNat), vi (zs (i + 3).toNat), vi (zs (i + 4).toNat), vr (some (c + 1722))]) hNc dL_law_1228 sL_given kL_147 rfl (w_given (γ := γ) hI.1 hI.2.2.2 hI.2.2.1 (Or.inr (by omega)) (hz _) (hz _) (hz _) (hz _)) rfl rfl (by decide) hkc hks (Nat.le_of_ble_eq_true rfl) (fun h1 r1 => ?_)
  obtain ⟨hm1, hk1⟩ := Lw9.w hI r1
  obtain ⟨g1, g2, g3, -, -⟩ := r1
  have hm := m_given (γ := γ) hm1 (hz (i + 1).toNat) (hz (i + 2).toNat) (hz (i + 3).toNat) (hz (i + 4).toNat)
  have cd : 0 ≤ (opGiv F (zs (i + 1).toNat) (zs (i + 2).toNat) (zs (i + 3).toNat) (zs (i + 4).toNat)).1 ∧ (opGiv F (zs (i + 1).toNat) (zs (i + 2).toNat) (zs (i + 3).toNat) (zs (i + 4).toNat)).1 ≤ 3 := by
    rcases cd_given (F := F) (p := zs (i + 1).toNat) (pa := zs (i + 2).toNat) (st := zs (i + 3).toNat) (v := zs (i + 4).toNat) with z | z | z | z <;> omega
  generalize opGiv F (zs (i + 1).toNat) (zs (i + 2).toNat) (zs (i + 3).toNat) (zs (i + 4).toNat) = op9 at g1 g3 hm cd ⊢
  obtain ⟨k9, v9, F9⟩ := op9
  dsimp only at g1 g3 cd ⊢
  refine ap_istore (ls1 := (5, vi k9) :: lL i b c) dL_law_1231 (by decide) rfl ?_
  refine ap_aload_n dL_law_1233 rfl ?_
  refine ap_aload_n dL_law_1234 rfl ?_
  refine ap_iload dL_law_1235 rfl ?_
  refine ap_iconst dL_law_1237 ?_
  refine ap_iadd dL_law_1238 ?_
  refine ap_sld hX hb hL dL_law_1239 ⟨by omega, by omega⟩ rfl ?_
  refine ap_aload_n dL_law_1240 rfl ?_
  refine ap_iload dL_law_1241 rfl ?_
  refine ap_iconst dL_law_1243 ?_
  refine ap_iadd dL_law_1244 ?_
  refine ap_sld hX hb hL dL_law_1245 ⟨by omega, by omega⟩ rfl ?_
  refine ap_aload_n dL_law_1246 rfl ?_
  refine ap_iload dL_law_1247 rfl ?_
  refine ap_iconst dL_law_1249 ?_
  refine ap_iadd dL_law_1250 ?_
  refine ap_sld hX hb hL dL_law_1251 ⟨by omega, by omega⟩ rfl ?_
  refine ap_aload_n dL_law_1252 rfl ?_
  refine ap_iload dL_law_1253 rfl ?_
  refine ap_iconst dL_law_1255 ?_
  refine ap_iadd dL_law_1256 ?_
  refine ap_sld hX hb hL dL_law_1257 ⟨by omega, by omega⟩ rfl ?_
  refine ap_invV_e (st := []) (as := [vi (zs (i + 1).toNat), vi (zs (i + 2).toNat), vi (zs (i + 3).toNat), vi (zs (i + 4).toNat)]) dL_law_1258 vX12_given kL_150 rfl hm ⟨_, hm1.1.1, _, _, rfl⟩ rfl rfl (by decide) (Nat.zero_le _) (Nat.zero_le _) (Nat.le_of_ble_eq_true rfl) (fun h2 q2 => ?_)
  obtain ⟨f1, f2, f3⟩ := q2
  dsimp only at f1 f2
  have f4 := SAo f3
  have hI2 : Lw9 h2 c F9 := Lw9.m g1 g2 hk1 f4 f1 rfl
  have g4 : k9 = 0 → gl h2 (c + 1722) 0 = i6 v9 := fun z => ((f4.2 (c + 1722) (by omega)).2 0).2.1.trans (g3 z)
  refine ap_istore (ls1 := (6, vi v9) :: (5, vi k9) :: lL i b c) dL_law_1261 (by decide) rfl ?_
  refine ap_aload_n dL_law_1263 rfl ?_
  refine ap_invV_r (st := []) (as := []) dL_law_1264 vX12_thrown kL_92 rfl (m_thrown (γ := γ) f1.1.1) ⟨_, f1.1.1, _, _, rfl⟩ rfl rfl (by decide) (Nat.zero_le _) (Nat.zero_le _) (Nat.le_of_ble_eq_true rfl) ?_
  rw [f2]
  refine ap_iload dL_law_1267 rfl ?_
  refine ap_ic_eq (tgt := 1274) dL_law_1269 (by decide) ⟨by omega, by omega⟩ ⟨by omega, by omega⟩ (fun _ => ?_) (fun z => absurd rfl z)
  refine ap_iload dL_law_1274 rfl ?_
  have kend : AP Pp γ mL_law 14 (kc - 1 - 0 - 0) (ks - 6 - 0 - 0) 1291 ((6, vi v9) :: (5, vi k9) :: lL i b c) [] h2 Q := ap_goto (tgt := 1544) dL_law_1291 (by decide) (ap_sub [2, 3, 4, 5, 6] rfl (kk h2 F9 hI2))
  refine ap_if_ne (tgt := 1291) dL_law_1276 (by decide) ⟨by omega, by omega⟩ (fun _ => kend) (fun z => ?_)
  have z0 : k9 = 0 := Classical.not_not.mp z
  refine ap_aload_n dL_law_1279 rfl ?_
  refine ap_iconst dL_law_1280 ?_
  refine ap_lald dL_law_1281 hI2.2.2.1 ⟨by omega, by omega⟩ (by omega) ?_
  rw [g4 z0]
  refine ap_iload dL_law_1282 rfl ?_
  refine ap_i2l dL_law_1284 rfl ?_
  refine ap_lcmp dL_law_1285 (fun _ => ?_) (fun z9 z1 z2 => absurd rfl z2)
  exact ap_if_eq (tgt := 1291) dL_law_1286 (by decide) ⟨by omega, by omega⟩ (fun _ => kend) (fun z => absurd rfl z)
theorem k_differences {Pp : State → Prop} {γ : GG} {b L c : Nat} {zs : Nat → Int} {i : Int} {kc ks : Nat} {h : AH} {F : FS} {Q : AR → AH → Prop} (hC : LC Pp γ b L c zs i) (hI : Lw9 h c F) (hkc : 1 ≤ kc) (hks : 6 ≤ ks) (kk : ∀ (h' : AH) (F' : FS), Lw9 h' c F' → AP Pp γ mL_law 14 (kc - 1) (ks - 6) 1544 (lL i b c) [] h' Q) : AP Pp γ mL_law 14 kc ks 1294 (lL i b c) [] h Q := by
  obtain ⟨hNc, hX, hb, hL, hi, hz⟩ := hC
  refine ap_aload_n dL_law_1294 rfl ?_
  refine ap_aload_n dL_law_1295 rfl ?_
  refine ap_iload dL_law_1296 rfl ?_
  refine ap_iconst dL_law_1298 ?_
  refine ap_iadd dL_law_1299 ?_
  refine ap_sld hX hb hL dL_law_1300 ⟨by omega, by omega⟩ rfl ?_
  refine ap_aload_n dL_law_1301 rfl ?_
  refine ap_iload dL_law_1302 rfl ?_
  refine ap_iconst dL_law_1304 ?_
  refine ap_iadd dL_law_1305 ?_
  refine ap_sld hX hb hL dL_law_1306 ⟨by omega, by omega⟩ rfl ?_
  refine ap_aload_n dL_law_1307 rfl ?_
  refine ap_invSH (st := []) (as := [vr (some c), vi (zs (i + 1).toNat), vi (zs (i + 2).toNat), vr (some (c + 1722))]) hNc dL_law_1308 sL_differences kL_151 rfl (w_differences (γ := γ) hI.1 hI.2.2.2 hI.2.2.1 (Or.inr (by omega)) (hz _) (hz _)) rfl rfl (by decide) hkc hks (Nat.le_of_ble_eq_true rfl) (fun h1 r1 => ?_)
  obtain ⟨hm1, hk1⟩ := Lw9.w hI r1
  obtain ⟨g1, g2, g3, -, -⟩ := r1
  have hm := m_differences (γ := γ) hm1 (hz (i + 1).toNat) (hz (i + 2).toNat)
  have cd : 0 ≤ (opDif F (zs (i + 1).toNat) (zs (i + 2).toNat)).1 ∧ (opDif F (zs (i + 1).toNat) (zs (i + 2).toNat)).1 ≤ 2 := by
    rcases cd_differences (F := F) (p := zs (i + 1).toNat) (r := zs (i + 2).toNat) with z | z | z <;> omega
  generalize opDif F (zs (i + 1).toNat) (zs (i + 2).toNat) = op9 at g1 g3 hm cd ⊢
  obtain ⟨k9, v9, F9⟩ := op9
  dsimp only at g1 g3 cd ⊢
  refine ap_istore (ls1 := (5, vi k9) :: lL i b c) dL_law_1311 (by decide) rfl ?_
  refine ap_aload_n dL_law_1313 rfl ?_
  refine ap_aload_n dL_law_1314 rfl ?_
  refine ap_iload dL_law_1315 rfl ?_
  refine ap_iconst dL_law_1317 ?_
  refine ap_iadd dL_law_1318 ?_
  refine ap_sld hX hb hL dL_law_1319 ⟨by omega, by omega⟩ rfl ?_
  refine ap_aload_n dL_law_1320 rfl ?_
  refine ap_iload dL_law_1321 rfl ?_
  refine ap_iconst dL_law_1323 ?_
  refine ap_iadd dL_law_1324 ?_
  refine ap_sld hX hb hL dL_law_1325 ⟨by omega, by omega⟩ rfl ?_
  refine ap_invV_e (st := []) (as := [vi (zs (i + 1).toNat), vi (zs (i + 2).toNat)]) dL_law_1326 vX12_differences kL_153 rfl hm ⟨_, hm1.1.1, _, _, rfl⟩ rfl rfl (by decide) (Nat.zero_le _) (Nat.zero_le _) (Nat.le_of_ble_eq_true rfl) (fun h2 q2 => ?_)
  obtain ⟨f1, f2, f3⟩ := q2
  dsimp only at f1 f2
  have f4 := SAo f3
  have hI2 : Lw9 h2 c F9 := Lw9.m g1 g2 hk1 f4 f1 rfl
  have g4 : k9 = 0 → gl h2 (c + 1722) 0 = i6 v9 := fun z => ((f4.2 (c + 1722) (by omega)).2 0).2.1.trans (g3 z)
  refine ap_istore (ls1 := (6, vi v9) :: (5, vi k9) :: lL i b c) dL_law_1329 (by decide) rfl ?_
  refine ap_aload_n dL_law_1331 rfl ?_
  refine ap_invV_r (st := []) (as := []) dL_law_1332 vX12_thrown kL_92 rfl (m_thrown (γ := γ) f1.1.1) ⟨_, f1.1.1, _, _, rfl⟩ rfl rfl (by decide) (Nat.zero_le _) (Nat.zero_le _) (Nat.le_of_ble_eq_true rfl) ?_
  rw [f2]
  refine ap_iload dL_law_1335 rfl ?_
  refine ap_ic_eq (tgt := 1342) dL_law_1337 (by decide) ⟨by omega, by omega⟩ ⟨by omega, by omega⟩ (fun _ => ?_) (fun z => absurd rfl z)
  refine ap_iload dL_law_1342 rfl ?_
  have kend : AP Pp γ mL_law 14 (kc - 1 - 0 - 0) (ks - 6 - 0 - 0) 1359 ((6, vi v9) :: (5, vi k9) :: lL i b c) [] h2 Q := ap_goto (tgt := 1544) dL_law_1359 (by decide) (ap_sub [2, 3, 4, 5, 6] rfl (kk h2 F9 hI2))
  refine ap_if_ne (tgt := 1359) dL_law_1344 (by decide) ⟨by omega, by omega⟩ (fun _ => kend) (fun z => ?_)
  have z0 : k9 = 0 := Classical.not_not.mp z
  refine ap_aload_n dL_law_1347 rfl ?_
  refine ap_iconst dL_law_1348 ?_
  refine ap_lald dL_law_1349 hI2.2.2.1 ⟨by omega, by omega⟩ (by omega) ?_
  rw [g4 z0]
  refine ap_iload dL_law_1350 rfl ?_
  refine ap_i2l dL_law_1352 rfl ?_
  refine ap_lcmp dL_law_1353 (fun _ => ?_) (fun z9 z1 z2 => absurd rfl z2)
  exact ap_if_eq (tgt := 1359) dL_law_1354 (by decide) ⟨by omega, by omega⟩ (fun _ => kend) (fun z => absurd rfl z)
theorem k_rewrite {Pp : State → Prop} {γ : GG} {b L c : Nat} {zs : Nat → Int} {i : Int} {kc ks : Nat} {h : AH} {F : FS} {Q : AR → AH → Prop} (hC : LC Pp γ b L c zs i) (hI : Lw9 h c F) (hkc : 1 ≤ kc) (hks : 6 ≤ ks) (kk : ∀ (h' : AH) (F' : FS), Lw9 h' c F' → AP Pp γ mL_law 14 (kc - 1) (ks - 6) 1544 (lL i b c) [] h' Q) : AP Pp γ mL_law 14 kc ks 1362 (lL i b c) [] h Q := by
  obtain ⟨hNc, hX, hb, hL, hi, hz⟩ := hC
  refine ap_aload_n dL_law_1362 rfl ?_
  refine ap_aload_n dL_law_1363 rfl ?_
  refine ap_iload dL_law_1364 rfl ?_
  refine ap_iconst dL_law_1366 ?_
  refine ap_iadd dL_law_1367 ?_
  refine ap_sld hX hb hL dL_law_1368 ⟨by omega, by omega⟩ rfl ?_
  refine ap_aload_n dL_law_1369 rfl ?_
  refine ap_invSH (st := []) (as := [vr (some c), vi (zs (i + 1).toNat), vr (some (c + 1722))]) hNc dL_law_1370 sL_rewrite kL_154 rfl (w_rewrite (γ := γ) hI.1 hI.2.2.2 hI.2.2.1 (Or.inr (by omega)) (hz _)) rfl rfl (by decide) hkc hks (Nat.le_of_ble_eq_true rfl) (fun h1 r1 => ?_)
  obtain ⟨hm1, hk1⟩ := Lw9.w hI r1
  obtain ⟨g1, g2, g3, -, -⟩ := r1
  have hm := m_rewrite (γ := γ) hm1 (hz (i + 1).toNat)
  have cd : 0 ≤ (opRew F (zs (i + 1).toNat)).1 ∧ (opRew F (zs (i + 1).toNat)).1 ≤ 2 := by
    rcases cd_rewrite (F := F) (p := zs (i + 1).toNat) with z | z | z <;> omega
  generalize opRew F (zs (i + 1).toNat) = op9 at g1 g3 hm cd ⊢
  obtain ⟨k9, v9, F9⟩ := op9
  dsimp only at g1 g3 cd ⊢
  refine ap_istore (ls1 := (5, vi k9) :: lL i b c) dL_law_1373 (by decide) rfl ?_
  refine ap_aload_n dL_law_1375 rfl ?_
  refine ap_aload_n dL_law_1376 rfl ?_
  refine ap_iload dL_law_1377 rfl ?_
  refine ap_iconst dL_law_1379 ?_
  refine ap_iadd dL_law_1380 ?_
  refine ap_sld hX hb hL dL_law_1381 ⟨by omega, by omega⟩ rfl ?_
  refine ap_invV_e (st := []) (as := [vi (zs (i + 1).toNat)]) dL_law_1382 vX12_rewrite kL_156 rfl hm ⟨_, hm1.1.1, _, _, rfl⟩ rfl rfl (by decide) (Nat.zero_le _) (Nat.zero_le _) (Nat.le_of_ble_eq_true rfl) (fun h2 q2 => ?_)
  obtain ⟨f1, f2, f3⟩ := q2
  dsimp only at f1 f2
  have f4 := SAo f3
  have hI2 : Lw9 h2 c F9 := Lw9.m g1 g2 hk1 f4 f1 rfl
  have g4 : k9 = 0 → gl h2 (c + 1722) 0 = i6 v9 := fun z => ((f4.2 (c + 1722) (by omega)).2 0).2.1.trans (g3 z)
  refine ap_istore (ls1 := (6, vi v9) :: (5, vi k9) :: lL i b c) dL_law_1385 (by decide) rfl ?_
  refine ap_aload_n dL_law_1387 rfl ?_
  refine ap_invV_r (st := []) (as := []) dL_law_1388 vX12_thrown kL_92 rfl (m_thrown (γ := γ) f1.1.1) ⟨_, f1.1.1, _, _, rfl⟩ rfl rfl (by decide) (Nat.zero_le _) (Nat.zero_le _) (Nat.le_of_ble_eq_true rfl) ?_
  rw [f2]
  refine ap_iload dL_law_1391 rfl ?_
  refine ap_ic_eq (tgt := 1398) dL_law_1393 (by decide) ⟨by omega, by omega⟩ ⟨by omega, by omega⟩ (fun _ => ?_) (fun z => absurd rfl z)
  refine ap_iload dL_law_1398 rfl ?_
  have kend : AP Pp γ mL_law 14 (kc - 1 - 0 - 0) (ks - 6 - 0 - 0) 1415 ((6, vi v9) :: (5, vi k9) :: lL i b c) [] h2 Q := ap_goto (tgt := 1544) dL_law_1415 (by decide) (ap_sub [2, 3, 4, 5, 6] rfl (kk h2 F9 hI2))
  refine ap_if_ne (tgt := 1415) dL_law_1400 (by decide) ⟨by omega, by omega⟩ (fun _ => kend) (fun z => ?_)
  have z0 : k9 = 0 := Classical.not_not.mp z
  refine ap_aload_n dL_law_1403 rfl ?_
  refine ap_iconst dL_law_1404 ?_
  refine ap_lald dL_law_1405 hI2.2.2.1 ⟨by omega, by omega⟩ (by omega) ?_
  rw [g4 z0]
  refine ap_iload dL_law_1406 rfl ?_
  refine ap_i2l dL_law_1408 rfl ?_
  refine ap_lcmp dL_law_1409 (fun _ => ?_) (fun z9 z1 z2 => absurd rfl z2)
  exact ap_if_eq (tgt := 1415) dL_law_1410 (by decide) ⟨by omega, by omega⟩ (fun _ => kend) (fun z => absurd rfl z)
theorem k_uses {Pp : State → Prop} {γ : GG} {b L c : Nat} {zs : Nat → Int} {i : Int} {kc ks : Nat} {h : AH} {F : FS} {Q : AR → AH → Prop} (hC : LC Pp γ b L c zs i) (hI : Lw9 h c F) (hkc : 1 ≤ kc) (hks : 6 ≤ ks) (kk : ∀ (h' : AH) (F' : FS), Lw9 h' c F' → AP Pp γ mL_law 14 (kc - 1) (ks - 6) 1544 (lL i b c) [] h' Q) : AP Pp γ mL_law 14 kc ks 1418 (lL i b c) [] h Q := by
  obtain ⟨hNc, hX, hb, hL, hi, hz⟩ := hC
  refine ap_aload_n dL_law_1418 rfl ?_
  refine ap_aload_n dL_law_1419 rfl ?_
  refine ap_iload dL_law_1420 rfl ?_
  refine ap_iconst dL_law_1422 ?_
  refine ap_iadd dL_law_1423 ?_
  refine ap_sld hX hb hL dL_law_1424 ⟨by omega, by omega⟩ rfl ?_
  refine ap_aload_n dL_law_1425 rfl ?_
  refine ap_iload dL_law_1426 rfl ?_
  refine ap_iconst dL_law_1428 ?_
  refine ap_iadd dL_law_1429 ?_
  refine ap_sld hX hb hL dL_law_1430 ⟨by omega, by omega⟩ rfl ?_
  refine ap_aload_n dL_law_1431 rfl ?_
  refine ap_invSH (st := []) (as := [vr (some c), vi (zs (i + 1).toNat), vi (zs (i + 2).toNat), vr (some (c + 1722))]) hNc dL_law_1432 sL_uses kL_157 rfl (w_uses (γ := γ) hI.1 hI.2.2.2 hI.2.2.1 (Or.inr (by omega)) (hz _) (hz _)) rfl rfl (by decide) hkc hks (Nat.le_of_ble_eq_true rfl) (fun h1 r1 => ?_)
  obtain ⟨hm1, hk1⟩ := Lw9.w hI r1
  obtain ⟨g1, g2, g3, -, -⟩ := r1
  have hm := m_uses (γ := γ) hm1 (hz (i + 1).toNat) (hz (i + 2).toNat)
  have cd : 0 ≤ (opUse F (zs (i + 1).toNat) (zs (i + 2).toNat)).1 ∧ (opUse F (zs (i + 1).toNat) (zs (i + 2).toNat)).1 ≤ 3 := by
    rcases cd_uses (F := F) (p := zs (i + 1).toNat) (r := zs (i + 2).toNat) with z | z | z | z <;> omega
  generalize opUse F (zs (i + 1).toNat) (zs (i + 2).toNat) = op9 at g1 g3 hm cd ⊢
  obtain ⟨k9, v9, F9⟩ := op9
  dsimp only at g1 g3 cd ⊢
  refine ap_istore (ls1 := (5, vi k9) :: lL i b c) dL_law_1435 (by decide) rfl ?_
  refine ap_aload_n dL_law_1437 rfl ?_
  refine ap_aload_n dL_law_1438 rfl ?_
  refine ap_iload dL_law_1439 rfl ?_
  refine ap_iconst dL_law_1441 ?_
  refine ap_iadd dL_law_1442 ?_
  refine ap_sld hX hb hL dL_law_1443 ⟨by omega, by omega⟩ rfl ?_
  refine ap_aload_n dL_law_1444 rfl ?_
  refine ap_iload dL_law_1445 rfl ?_
  refine ap_iconst dL_law_1447 ?_
  refine ap_iadd dL_law_1448 ?_
  refine ap_sld hX hb hL dL_law_1449 ⟨by omega, by omega⟩ rfl ?_
  refine ap_invV_e (st := []) (as := [vi (zs (i + 1).toNat), vi (zs (i + 2).toNat)]) dL_law_1450 vX12_uses kL_159 rfl hm ⟨_, hm1.1.1, _, _, rfl⟩ rfl rfl (by decide) (Nat.zero_le _) (Nat.zero_le _) (Nat.le_of_ble_eq_true rfl) (fun h2 q2 => ?_)
  obtain ⟨f1, f2, f3⟩ := q2
  dsimp only at f1 f2
  have f4 := SAo f3
  have hI2 : Lw9 h2 c F9 := Lw9.m g1 g2 hk1 f4 f1 rfl
  have g4 : k9 = 0 → gl h2 (c + 1722) 0 = i6 v9 := fun z => ((f4.2 (c + 1722) (by omega)).2 0).2.1.trans (g3 z)
  refine ap_istore (ls1 := (6, vi v9) :: (5, vi k9) :: lL i b c) dL_law_1453 (by decide) rfl ?_
  refine ap_aload_n dL_law_1455 rfl ?_
  refine ap_invV_r (st := []) (as := []) dL_law_1456 vX12_thrown kL_92 rfl (m_thrown (γ := γ) f1.1.1) ⟨_, f1.1.1, _, _, rfl⟩ rfl rfl (by decide) (Nat.zero_le _) (Nat.zero_le _) (Nat.le_of_ble_eq_true rfl) ?_
  rw [f2]
  refine ap_iload dL_law_1459 rfl ?_
  refine ap_ic_eq (tgt := 1466) dL_law_1461 (by decide) ⟨by omega, by omega⟩ ⟨by omega, by omega⟩ (fun _ => ?_) (fun z => absurd rfl z)
  refine ap_iload dL_law_1466 rfl ?_
  have kend : AP Pp γ mL_law 14 (kc - 1 - 0 - 0) (ks - 6 - 0 - 0) 1483 ((6, vi v9) :: (5, vi k9) :: lL i b c) [] h2 Q := ap_goto (tgt := 1544) dL_law_1483 (by decide) (ap_sub [2, 3, 4, 5, 6] rfl (kk h2 F9 hI2))
  refine ap_if_ne (tgt := 1483) dL_law_1468 (by decide) ⟨by omega, by omega⟩ (fun _ => kend) (fun z => ?_)
  have z0 : k9 = 0 := Classical.not_not.mp z
  refine ap_aload_n dL_law_1471 rfl ?_
  refine ap_iconst dL_law_1472 ?_
  refine ap_lald dL_law_1473 hI2.2.2.1 ⟨by omega, by omega⟩ (by omega) ?_
  rw [g4 z0]
  refine ap_iload dL_law_1474 rfl ?_
  refine ap_i2l dL_law_1476 rfl ?_
  refine ap_lcmp dL_law_1477 (fun _ => ?_) (fun z9 z1 z2 => absurd rfl z2)
  exact ap_if_eq (tgt := 1483) dL_law_1478 (by decide) ⟨by omega, by omega⟩ (fun _ => kend) (fun z => absurd rfl z)
theorem k_undo {Pp : State → Prop} {γ : GG} {b L c : Nat} {zs : Nat → Int} {i : Int} {kc ks : Nat} {h : AH} {F : FS} {Q : AR → AH → Prop} (hC : LC Pp γ b L c zs i) (hI : Lw9 h c F) (hkc : 1 ≤ kc) (hks : 6 ≤ ks) (kk : ∀ (h' : AH) (F' : FS), Lw9 h' c F' → AP Pp γ mL_law 14 (kc - 1) (ks - 6) 1544 (lL i b c) [] h' Q) : AP Pp γ mL_law 14 kc ks 1486 (lL i b c) [] h Q := by
  obtain ⟨hNc, hX, hb, hL, hi, hz⟩ := hC
  refine ap_aload_n dL_law_1486 rfl ?_
  refine ap_aload_n dL_law_1487 rfl ?_
  refine ap_invSH (st := []) (as := [vr (some c), vr (some (c + 1722))]) hNc dL_law_1488 sL_undo kL_160 rfl (w_undo (γ := γ) hI.1 hI.2.2.2 hI.2.2.1 (Or.inr (by omega))) rfl rfl (by decide) hkc hks (Nat.le_of_ble_eq_true rfl) (fun h1 r1 => ?_)
  obtain ⟨hm1, hk1⟩ := Lw9.w hI r1
  obtain ⟨g1, g2, g3, -, -⟩ := r1
  have hm := m_undo (γ := γ) hm1
  have cd : 0 ≤ (opUnd F).1 ∧ (opUnd F).1 ≤ 1 := by
    rcases cd_undo (F := F) with z | z <;> omega
  generalize opUnd F = op9 at g1 g3 hm cd ⊢
  obtain ⟨k9, v9, F9⟩ := op9
  dsimp only at g1 g3 cd ⊢
  refine ap_istore (ls1 := (5, vi k9) :: lL i b c) dL_law_1491 (by decide) rfl ?_
  refine ap_aload_n dL_law_1493 rfl ?_
  refine ap_invV_e (st := []) (as := []) dL_law_1494 vX12_undo kL_163 rfl hm ⟨_, hm1.1.1, _, _, rfl⟩ rfl rfl (by decide) (Nat.zero_le _) (Nat.zero_le _) (Nat.le_of_ble_eq_true rfl) (fun h2 q2 => ?_)
  obtain ⟨f1, f2, f3⟩ := q2
  dsimp only at f1 f2
  have f4 := SAo f3
  have hI2 : Lw9 h2 c F9 := Lw9.m g1 g2 hk1 f4 f1 rfl
  have g4 : k9 = 0 → gl h2 (c + 1722) 0 = i6 v9 := fun z => ((f4.2 (c + 1722) (by omega)).2 0).2.1.trans (g3 z)
  refine ap_istore (ls1 := (6, vi v9) :: (5, vi k9) :: lL i b c) dL_law_1497 (by decide) rfl ?_
  refine ap_aload_n dL_law_1499 rfl ?_
  refine ap_invV_r (st := []) (as := []) dL_law_1500 vX12_thrown kL_92 rfl (m_thrown (γ := γ) f1.1.1) ⟨_, f1.1.1, _, _, rfl⟩ rfl rfl (by decide) (Nat.zero_le _) (Nat.zero_le _) (Nat.le_of_ble_eq_true rfl) ?_
  rw [f2]
  refine ap_iload dL_law_1503 rfl ?_
  refine ap_ic_eq (tgt := 1510) dL_law_1505 (by decide) ⟨by omega, by omega⟩ ⟨by omega, by omega⟩ (fun _ => ?_) (fun z => absurd rfl z)
  refine ap_iload dL_law_1510 rfl ?_
  have kend : AP Pp γ mL_law 14 (kc - 1 - 0 - 0) (ks - 6 - 0 - 0) 1527 ((6, vi v9) :: (5, vi k9) :: lL i b c) [] h2 Q := ap_goto (tgt := 1544) dL_law_1527 (by decide) (ap_sub [2, 3, 4, 5, 6] rfl (kk h2 F9 hI2))
  refine ap_if_ne (tgt := 1527) dL_law_1512 (by decide) ⟨by omega, by omega⟩ (fun _ => kend) (fun z => ?_)
  have z0 : k9 = 0 := Classical.not_not.mp z
  refine ap_aload_n dL_law_1515 rfl ?_
  refine ap_iconst dL_law_1516 ?_
  refine ap_lald dL_law_1517 hI2.2.2.1 ⟨by omega, by omega⟩ (by omega) ?_
  rw [g4 z0]
  refine ap_iload dL_law_1518 rfl ?_
  refine ap_i2l dL_law_1520 rfl ?_
  refine ap_lcmp dL_law_1521 (fun _ => ?_) (fun z9 z1 z2 => absurd rfl z2)
  exact ap_if_eq (tgt := 1527) dL_law_1522 (by decide) ⟨by omega, by omega⟩ (fun _ => kend) (fun z => absurd rfl z)
theorem k_digest {Pp : State → Prop} {γ : GG} {b L c : Nat} {zs : Nat → Int} {i : Int} {kc ks : Nat} {h : AH} {F : FS} {Q : AR → AH → Prop} (hC : LC Pp γ b L c zs i) (hI : Lw9 h c F) (hkc : 1 ≤ kc) (hks : 6 ≤ ks) (kk : ∀ (h' : AH) (F' : FS), Lw9 h' c F' → AP Pp γ mL_law 14 (kc - 1) (ks - 6) 1544 (lL i b c) [] h' Q) : AP Pp γ mL_law 14 kc ks 1530 (lL i b c) [] h Q := by
  obtain ⟨hNc, hX, hb, hL, hi, hz⟩ := hC
  refine ap_aload_n dL_law_1530 rfl ?_
  refine ap_invV_e (as := []) dL_law_1531 vX11_digest kL_164 rfl (c_digest (γ := γ) hI.1) ⟨_, hI.1.1.1, _, _, rfl⟩ rfl rfl (by decide) (Nat.zero_le _) (Nat.zero_le _) (Nat.le_of_ble_eq_true rfl) (fun h1 q1 => ?_)
  obtain ⟨g1, g2⟩ := q1
  have hm1 : isF h1 (c + 1704) F := isMd.fr hI.2.1 (fun b b1 b2 => g2.2 b (by omega))
  have hk1 : kd h1 (c + 1722) = some (.inr (2, 1)) := ((g2.2 _ (by omega)).1).trans hI.2.2.1
  refine ap_aload_n dL_law_1534 rfl ?_
  refine ap_invV_e (as := []) dL_law_1535 vX12_digest kL_168 rfl (m_digest (γ := γ) hm1) ⟨_, hm1.1.1, _, _, rfl⟩ rfl rfl (by decide) (Nat.zero_le _) (Nat.zero_le _) (Nat.le_of_ble_eq_true rfl) (fun h2 q2 => ?_)
  obtain ⟨f1, f2, f3⟩ := q2
  have hI2 := Lw9.m g1 (g2.1.trans hI.2.2.2) hk1 f3 f1 rfl
  refine ap_lcmp dL_law_1538 (fun _ => ?_) (fun z z1 z2 => absurd rfl z2)
  refine ap_if_eq (tgt := 1544) dL_law_1539 (by decide) ⟨by omega, by omega⟩ (fun _ => ?_) (fun z => absurd rfl z)
  exact ap_less hI2.2.2.2 (by omega) (by omega) (kk h2 _ hI2)
