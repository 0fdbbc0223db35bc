/-! ===== sets of nodes as numbers ===== -/
def mk9 (f : Nat → Bool) : Nat → Nat
  | 0 => 0
  | n + 1 => mk9 f n + (if f n = true then 2 ^ n else 0)
theorem mk9_lt (f : Nat → Bool) : ∀ n, mk9 f n < 2 ^ n := by
  intro n
  induction n with
  | zero => exact Nat.one_pos
  | succ n ih =>
    simp only [mk9, Nat.pow_succ]
    split <;> omega
theorem mk9_tb (f : Nat → Bool) : ∀ (n k : Nat), (mk9 f n).testBit k = (decide (k < n) && f k) := by
  intro n
  induction n with
  | zero => intro k; simp [mk9]
  | succ n ih =>
    intro k
    have hl := mk9_lt f n
    simp only [mk9]
    by_cases q : f n = true
    · rw [if_pos q, show mk9 f n + 2 ^ n = 2 ^ n * 1 + mk9 f n by omega, Nat.testBit_two_pow_mul_add 1 hl]
      by_cases q2 : k < n
      · rw [if_pos q2, ih]
        simp [q2, show k < n + 1 by omega]
      · rw [if_neg q2]
        by_cases q3 : k = n
        · subst q3
          simp [q]
        · have : (1 : Nat).testBit (k - n) = false := Nat.testBit_lt_two_pow (by have : 2 ^ 1 ≤ 2 ^ (k - n) := Nat.pow_le_pow_right (by decide) (by omega); omega)
          rw [this]
          simp [show ¬ k < n + 1 by omega]
    · rw [if_neg q, Nat.add_zero, ih]
      by_cases q3 : k = n
      · subst q3
        have : f k = false := by simpa using q
        simp [this]
      · by_cases q2 : k < n
        · simp [q2, show k < n + 1 by omega]
        · simp [q2, show ¬ k < n + 1 by omega]
def mkS (f : Nat → Bool) : Nat := mk9 f 40
theorem mkS_lt (f : Nat → Bool) : mkS f < 1099511627776 := mk9_lt f 40
theorem mkS_tb (f : Nat → Bool) (k : Nat) : (mkS f).testBit k = (decide (k < 40) && f k) := mk9_tb f 40 k
theorem mkS_of {m : Nat} {f : Nat → Bool} (h : m < 1099511627776) (e : ∀ k, k < 40 → m.testBit k = f k) : m = mkS f := by
  apply Nat.eq_of_testBit_eq
  intro k
  rw [mkS_tb]
  by_cases q : k < 40
  · rw [e k q]; simp [q]
  · rw [Nat.testBit_lt_two_pow (show m < 2 ^ k from Nat.lt_of_lt_of_le h (Nat.pow_le_pow_right (n := 2) (i := 40) (by decide) (by omega)))]
    simp [q]
/-- a set of nodes as the class has it -/
def S9 (f : Nat → Bool) : Int64 := lN (mkS f)
theorem mkS_cong {f g : Nat → Bool} (h : ∀ k, k < 40 → f k = g k) : mkS f = mkS g := mkS_of (mkS_lt f) (fun k hk => by rw [mkS_tb, h k hk]; simp [hk])
theorem S9_cong {f g : Nat → Bool} (h : ∀ k, k < 40 → f k = g k) : S9 f = S9 g := by unfold S9; rw [mkS_cong h]
theorem lN_inj {a b : Nat} (ha : a < 2 ^ 64) (hb : b < 2 ^ 64) (h : lN a = lN b) : a = b := by
  have := congrArg (fun x => x.toBitVec.toNat) h
  simp only [wb_tn ha, wb_tn hb] at this
  exact this
theorem S9_inj {f g : Nat → Bool} (h : S9 f = S9 g) : ∀ k, k < 40 → f k = g k := by
  have a1 := mkS_lt f
  have a2 := mkS_lt g
  have e := lN_inj (by omega) (by omega) h
  intro k hk
  have b1 := mkS_tb f k
  have b2 := mkS_tb g k
  rw [e, b2] at b1
  simpa [hk] using b1.symm
theorem S9_or (f g : Nat → Bool) : S9 f ||| S9 g = S9 (fun k => f k || g k) := by
  have a1 := mkS_lt f
  have a2 := mkS_lt g
  unfold S9
  rw [wb_or (by omega) (by omega), mkS_of (f := fun k => f k || g k) (Nat.or_lt_two_pow (n := 40) a1 a2) (fun k hk => by rw [Nat.testBit_or, mkS_tb, mkS_tb]; simp [hk])]
theorem S9_and (f g : Nat → Bool) : S9 f &&& S9 g = S9 (fun k => f k && g k) := by
  have a1 := mkS_lt f
  have a2 := mkS_lt g
  unfold S9
  rw [wb_and (by omega) (by omega), mkS_of (f := fun k => f k && g k) (Nat.and_lt_two_pow (n := 40) _ a2) (fun k hk => by rw [Nat.testBit_and, mkS_tb, mkS_tb]; simp [hk])]
theorem S9_0 : (0 : Int64) = S9 (fun _ => false) := by decide +kernel
theorem pow40 {k : Nat} (hk : k < 40) : 2 ^ k < 1099511627776 := Nat.pow_lt_pow_right (a := 2) (m := k) (n := 40) (by decide) hk
theorem S9_one {k : Nat} (hk : k < 40) : lN (2 ^ k) = S9 (fun j => decide (j = k)) := by
  unfold S9
  rw [← mkS_of (f := fun j => decide (j = k)) (pow40 hk) (fun j hj => by rw [Nat.testBit_two_pow]; exact decide_eq_decide.mpr ⟨Eq.symm, Eq.symm⟩)]
theorem lN_sb9 {a b : Nat} (h : b ≤ a) : lN a - lN b = lN (a - b) := by
  apply wb_inj
  rw [Int64.toBitVec_sub, wb_tb, wb_tb, wb_tb]
  apply BitVec.eq_of_toNat_eq
  rw [BitVec.toNat_sub, BitVec.toNat_ofNat, BitVec.toNat_ofNat, BitVec.toNat_ofNat]
  omega
theorem lN_ad9 (a b : Nat) : lN a + lN b = lN (a + b) := by
  apply wb_inj
  rw [Int64.toBitVec_add, wb_tb, wb_tb, wb_tb]
  apply BitVec.eq_of_toNat_eq
  rw [BitVec.toNat_add, BitVec.toNat_ofNat, BitVec.toNat_ofNat, BitVec.toNat_ofNat]
  omega
theorem rng_tb {b e k : Nat} (h : b ≤ e) : (2 ^ e - 2 ^ b).testBit k = (decide (b ≤ k) && decide (k < e)) := by
  have e1 : 2 ^ e - 2 ^ b = 2 ^ b * (2 ^ (e - b) - 1) + 0 := by
    rw [Nat.mul_sub, ← Nat.pow_add, show b + (e - b) = e by omega]
    omega
  rw [e1, Nat.testBit_two_pow_mul_add _ (Nat.two_pow_pos b)]
  by_cases q : k < b
  · rw [if_pos q]
    simp [show ¬ b ≤ k by omega]
  · rw [if_neg q, Nat.testBit_two_pow_sub_one]
    have : decide (k - b < e - b) = decide (k < e) := by by_cases z : k < e <;> simp [z] <;> omega
    rw [this]
    simp [show b ≤ k by omega]
theorem S9_rng {b e : Nat} (h : b ≤ e) (he : e ≤ 40) : lN (2 ^ e) - lN (2 ^ b) = S9 (fun k => decide (b ≤ k) && decide (k < e)) := by
  have h1 : 2 ^ b ≤ 2 ^ e := Nat.pow_le_pow_right (by decide) h
  have h2 : 2 ^ e ≤ 2 ^ 40 := Nat.pow_le_pow_right (by decide) he
  have h3 := Nat.two_pow_pos b
  rw [lN_sb9 h1]
  unfold S9
  rw [← mkS_of (f := fun k => decide (b ≤ k) && decide (k < e)) (by omega) (fun k _ => rng_tb h)]
/-- without the sets' nodes -/
theorem S9_not (f g : Nat → Bool) : S9 g &&& (S9 f ^^^ (-1)) = S9 (fun k => g k && !f k) := by
  have a1 := mkS_lt f
  have a2 := mkS_lt g
  have ex : S9 f ^^^ (-1) = lN (2 ^ 64 - (mkS f + 1)) := by
    apply wb_inj
    unfold S9
    rw [Int64.toBitVec_xor, wb_tb, wb_tb]
    apply BitVec.eq_of_getLsbD_eq
    intro i hi
    rw [BitVec.getLsbD_xor, BitVec.getLsbD_ofNat, BitVec.getLsbD_ofNat, Nat.testBit_two_pow_sub_succ (by omega)]
    have : ((-1 : Int64).toBitVec).getLsbD i = true := by
      show (BitVec.ofInt 64 (-1)).getLsbD i = true
      rw [show BitVec.ofInt 64 (-1) = BitVec.allOnes 64 by decide +kernel, BitVec.getLsbD_allOnes]
      simp [hi]
    rw [this]
    simp [hi]
  rw [ex]
  unfold S9
  rw [wb_and (by omega) (by omega), mkS_of (f := fun k => g k && !f k) (Nat.lt_of_le_of_lt Nat.and_le_left a2) (fun k hk => by
    rw [Nat.testBit_and, mkS_tb, Nat.testBit_two_pow_sub_succ (by omega), mkS_tb]
    simp [hk, show k < 64 by omega])]
theorem tb_pred {n i : Nat} (hi : n.testBit i = true) (h : ∀ j, j < i → n.testBit j = false) (j : Nat) : (n - 1).testBit j = if j < i then true else if j = i then false else n.testBit j := by
  have e0 : n % 2 ^ (i + 1) = 2 ^ i := by
    apply Nat.eq_of_testBit_eq
    intro k
    rw [Nat.testBit_mod_two_pow, Nat.testBit_two_pow]
    by_cases q : k = i
    · subst q; simp [hi]
    · by_cases q2 : k < i
      · simp [h k q2, Ne.symm q]
      · simp [show ¬ k < i + 1 by omega, Ne.symm q]
  have e1 : n = 2 ^ (i + 1) * (n / 2 ^ (i + 1)) + 2 ^ i := by
    have := Nat.div_add_mod n (2 ^ (i + 1))
    omega
  have hp := Nat.two_pow_pos i
  have e2 : n - 1 = 2 ^ (i + 1) * (n / 2 ^ (i + 1)) + (2 ^ i - 1) := by omega
  have hl : 2 ^ i - 1 < 2 ^ (i + 1) := by rw [Nat.pow_succ]; omega
  have hl2 : 2 ^ i < 2 ^ (i + 1) := by rw [Nat.pow_succ]; omega
  rw [e2, Nat.testBit_two_pow_mul_add _ hl]
  by_cases q : j < i
  · rw [if_pos (by omega), if_pos q, Nat.testBit_two_pow_sub_one]
    simp [q]
  · rw [if_neg q]
    by_cases q2 : j = i
    · subst q2
      rw [if_pos (by omega), if_pos rfl, Nat.testBit_two_pow_sub_one]
      simp
    · rw [if_neg (by omega), if_neg q2]
      conv => rhs; rw [e1]
      rw [Nat.testBit_two_pow_mul_add _ hl2, if_neg (by omega)]
/-- the first node of a set -/
def fst9 (f : Nat → Bool) (i : Nat) : Prop := i < 40 ∧ f i = true ∧ ∀ j, j < i → f j = false
theorem fst9_tb {f : Nat → Bool} {i : Nat} (h : fst9 f i) : (mkS f).testBit i = true ∧ ∀ j, j < i → (mkS f).testBit j = false := by
  obtain ⟨h1, h2, h3⟩ := h
  refine ⟨by rw [mkS_tb, h2]; simp [h1], fun j hj => by rw [mkS_tb, h3 j hj]; simp⟩
theorem fst9_pos {f : Nat → Bool} {i : Nat} (h : fst9 f i) : 1 ≤ mkS f := by
  have := (fst9_tb h).1
  have := Nat.ge_two_pow_of_testBit this
  have := Nat.two_pow_pos i
  omega
theorem S9_pop {f : Nat → Bool} {i : Nat} (h : fst9 f i) : S9 f &&& (S9 f - 1) = S9 (fun k => f k && decide (k ≠ i)) := by
  have a1 := mkS_lt f
  have hp := fst9_pos h
  obtain ⟨t1, t2⟩ := fst9_tb h
  have e1 : S9 f - 1 = lN (mkS f - 1) := lN_sb9 (a := mkS f) (b := 1) hp
  rw [e1]
  unfold S9
  rw [wb_and (by omega) (by omega), mkS_of (f := fun k => f k && decide (k ≠ i)) (Nat.lt_of_le_of_lt Nat.and_le_left a1) (fun k hk => by
    rw [Nat.testBit_and, tb_pred t1 t2, mkS_tb]
    by_cases q : k < i
    · rw [if_pos q, h.2.2 k q]; simp
    · rw [if_neg q]
      by_cases q2 : k = i
      · rw [if_pos q2]; simp [q2]
      · rw [if_neg q2]; cases f k <;> simp [q2, hk])]
theorem S9_low {f : Nat → Bool} {i : Nat} (h : fst9 f i) : S9 f &&& (-(S9 f)) = S9 (fun k => decide (k = i)) := by
  have a1 := mkS_lt f
  have hp := fst9_pos h
  obtain ⟨t1, t2⟩ := fst9_tb h
  have e1 : -(S9 f) = lN (2 ^ 64 - (mkS f - 1 + 1)) := by
    apply wb_inj
    unfold S9
    rw [Int64.toBitVec_neg, wb_tb, wb_tb]
    apply BitVec.eq_of_toNat_eq
    rw [BitVec.toNat_neg, BitVec.toNat_ofNat, BitVec.toNat_ofNat]
    omega
  rw [e1]
  unfold S9
  rw [wb_and (by omega) (by omega), mkS_of (f := fun k => decide (k = i)) (Nat.lt_of_le_of_lt Nat.and_le_left a1) (fun k hk => by
    rw [Nat.testBit_and, Nat.testBit_two_pow_sub_succ (by omega), tb_pred t1 t2, mkS_tb]
    by_cases q : k < i
    · rw [if_pos q, h.2.2 k q]; simp [show k ≠ i by omega]
    · rw [if_neg q]
      by_cases q2 : k = i
      · rw [if_pos q2, q2, h.2.1]; simp [show i < 64 by have := h.1; omega, h.1]
      · rw [if_neg q2]
        cases f k <;> simp [q2, hk, show k < 64 by omega])]
theorem S9_pos {f : Nat → Bool} {i : Nat} (h : fst9 f i) : (S9 f &&& (-(S9 f))) - 1 = S9 (fun k => decide (k < i)) := by
  rw [S9_low h, ← S9_one h.1]
  have hp := Nat.two_pow_pos i
  have e1 : lN (2 ^ i) - 1 = lN (2 ^ i - 1) := lN_sb9 (a := 2 ^ i) (b := 1) hp
  rw [e1]
  unfold S9
  rw [← mkS_of (f := fun k => decide (k < i)) (by have := pow40 h.1; omega) (fun k _ => Nat.testBit_two_pow_sub_one i k)]
theorem S9_z : S9 (fun _ => false) &&& (S9 (fun _ => false) - 1) = S9 (fun _ => false) := by decide +kernel
theorem S9_zl : S9 (fun _ => false) &&& (-(S9 (fun _ => false))) = S9 (fun _ => false) := by decide +kernel
/-! how many bits -/
def b1 (b : Nat) : Nat := b - (b / 2 &&& 85)
def b2 (b : Nat) : Nat := (b1 b &&& 51) + (b1 b / 4 &&& 51)
theorem bt_1 : ∀ b, b < 256 → (b / 2 &&& 85) ≤ b ∧ ((b / 2 + 128) &&& 85) = (b / 2 &&& 85) := by decide +kernel
theorem bt_2 : ∀ b, b < 256 → ∀ t, t < 4 → ((b1 b / 4 + 64 * t) &&& 51) = (b1 b / 4 &&& 51) := by decide +kernel
theorem bt_3 : ∀ b, b < 256 → b2 b % 16 ≤ 4 ∧ b2 b / 16 ≤ 4 ∧ (b2 b + b2 b / 16) % 16 = fb_ct (fun k => b.testBit k) 8 ∧ (b1 b &&& 51) + (b1 b / 4 &&& 51) < 256 := by decide +kernel
theorem and_add9 {a m x y : Nat} (ha : a < 256) (hm : m < 256) : (a + 256 * x) &&& (m + 256 * y) = (a &&& m) + 256 * (x &&& y) := by
  have h1 : ((a + 256 * x) &&& (m + 256 * y)) / 2 ^ 8 = x &&& y := by
    rw [Nat.and_div_two_pow, show (a + 256 * x) / 2 ^ 8 = x by omega, show (m + 256 * y) / 2 ^ 8 = y by omega]
  have h2 : ((a + 256 * x) &&& (m + 256 * y)) % 2 ^ 8 = a &&& m := by
    rw [Nat.and_mod_two_pow, show (a + 256 * x) % 2 ^ 8 = a by omega, show (m + 256 * y) % 2 ^ 8 = m by omega]
  have := Nat.div_add_mod ((a + 256 * x) &&& (m + 256 * y)) (2 ^ 8)
  rw [h1, h2] at this
  omega
theorem and5 {a0 a1 a2 a3 a4 m M M1 M2 M3 M4 M5 : Nat} (h0 : a0 < 256) (h1 : a1 < 256) (h2 : a2 < 256) (h3 : a3 < 256) (h4 : a4 < 256) (hm : m < 256) (e : M = m + 256 * M1) (e1 : M1 = m + 256 * M2) (e2 : M2 = m + 256 * M3) (e3 : M3 = m + 256 * M4) (e4 : M4 = m + 256 * M5) : (a0 + 256 * (a1 + 256 * (a2 + 256 * (a3 + 256 * a4)))) &&& M = (a0 &&& m) + 256 * ((a1 &&& m) + 256 * ((a2 &&& m) + 256 * ((a3 &&& m) + 256 * (a4 &&& m)))) := by
  have l : a4 &&& (m + 256 * M5) = a4 &&& m := by
    have := and_add9 (x := 0) (y := M5) h4 hm
    rw [Nat.zero_and] at this
    exact this
  rw [e, and_add9 h0 hm, e1, and_add9 h1 hm, e2, and_add9 h2 hm, e3, and_add9 h3 hm, e4, l]
def p1 (n : Nat) : Nat := n - (n / 2 &&& 6148914691236517205)
def p2 (n : Nat) : Nat := (n &&& 3689348814741910323) + (n / 4 &&& 3689348814741910323)
def p3 (n : Nat) : Nat := (n + n / 16) &&& 1085102592571150095
theorem and5_5 {a0 a1 a2 a3 a4 : Nat} (h0 : a0 < 256) (h1 : a1 < 256) (h2 : a2 < 256) (h3 : a3 < 256) (h4 : a4 < 256) : (a0 + 256 * (a1 + 256 * (a2 + 256 * (a3 + 256 * a4)))) &&& 6148914691236517205 = (a0 &&& 85) + 256 * ((a1 &&& 85) + 256 * ((a2 &&& 85) + 256 * ((a3 &&& 85) + 256 * (a4 &&& 85)))) := and5 (M1 := 24019198012642645) (M2 := 93824992236885) (M3 := 366503875925) (M4 := 1431655765) (M5 := 5592405) h0 h1 h2 h3 h4 (by decide) (by decide) (by decide) (by decide) (by decide) (by decide)
theorem and5_3 {a0 a1 a2 a3 a4 : Nat} (h0 : a0 < 256) (h1 : a1 < 256) (h2 : a2 < 256) (h3 : a3 < 256) (h4 : a4 < 256) : (a0 + 256 * (a1 + 256 * (a2 + 256 * (a3 + 256 * a4)))) &&& 3689348814741910323 = (a0 &&& 51) + 256 * ((a1 &&& 51) + 256 * ((a2 &&& 51) + 256 * ((a3 &&& 51) + 256 * (a4 &&& 51)))) := and5 (M1 := 14411518807585587) (M2 := 56294995342131) (M3 := 219902325555) (M4 := 858993459) (M5 := 3355443) h0 h1 h2 h3 h4 (by decide) (by decide) (by decide) (by decide) (by decide) (by decide)
theorem and5_f {a0 a1 a2 a3 a4 : Nat} (h0 : a0 < 256) (h1 : a1 < 256) (h2 : a2 < 256) (h3 : a3 < 256) (h4 : a4 < 256) : (a0 + 256 * (a1 + 256 * (a2 + 256 * (a3 + 256 * a4)))) &&& 1085102592571150095 = (a0 &&& 15) + 256 * ((a1 &&& 15) + 256 * ((a2 &&& 15) + 256 * ((a3 &&& 15) + 256 * (a4 &&& 15)))) := and5 (M1 := 4238682002231055) (M2 := 16557351571215) (M3 := 64677154575) (M4 := 252645135) (M5 := 986895) h0 h1 h2 h3 h4 (by decide) (by decide) (by decide) (by decide) (by decide) (by decide)
theorem b1_lt (b : Nat) (h : b < 256) : b1 b < 256 := by unfold b1; omega
theorem p1_b {a0 a1 a2 a3 a4 : Nat} (h0 : a0 < 256) (h1 : a1 < 256) (h2 : a2 < 256) (h3 : a3 < 256) (h4 : a4 < 256) : p1 (a0 + 256 * (a1 + 256 * (a2 + 256 * (a3 + 256 * a4)))) = b1 a0 + 256 * (b1 a1 + 256 * (b1 a2 + 256 * (b1 a3 + 256 * b1 a4))) := by
  have e : (a0 + 256 * (a1 + 256 * (a2 + 256 * (a3 + 256 * a4)))) / 2 = (a0 / 2 + 128 * (a1 % 2)) + 256 * ((a1 / 2 + 128 * (a2 % 2)) + 256 * ((a2 / 2 + 128 * (a3 % 2)) + 256 * ((a3 / 2 + 128 * (a4 % 2)) + 256 * (a4 / 2)))) := by omega
  unfold p1
  rw [e, and5_5 (by omega) (by omega) (by omega) (by omega) (by omega)]
  have k : ∀ a b, a < 256 → ((a / 2 + 128 * (b % 2)) &&& 85) = (a / 2 &&& 85) := fun a b ha => by
    have hb : b % 2 = 0 ∨ b % 2 = 1 := by omega
    rcases hb with hb | hb
    · rw [hb]; rfl
    · rw [hb]; exact (bt_1 a ha).2
  rw [k a0 a1 h0, k a1 a2 h1, k a2 a3 h2, k a3 a4 h3]
  have c0 := (bt_1 a0 h0).1
  have c1 := (bt_1 a1 h1).1
  have c2 := (bt_1 a2 h2).1
  have c3 := (bt_1 a3 h3).1
  have c4 := (bt_1 a4 h4).1
  unfold b1
  omega
theorem p2_b {a0 a1 a2 a3 a4 : Nat} (h0 : a0 < 256) (h1 : a1 < 256) (h2 : a2 < 256) (h3 : a3 < 256) (h4 : a4 < 256) : p2 (b1 a0 + 256 * (b1 a1 + 256 * (b1 a2 + 256 * (b1 a3 + 256 * b1 a4)))) = b2 a0 + 256 * (b2 a1 + 256 * (b2 a2 + 256 * (b2 a3 + 256 * b2 a4))) := by
  have l0 := b1_lt a0 h0
  have l1 := b1_lt a1 h1
  have l2 := b1_lt a2 h2
  have l3 := b1_lt a3 h3
  have l4 := b1_lt a4 h4
  have e : (b1 a0 + 256 * (b1 a1 + 256 * (b1 a2 + 256 * (b1 a3 + 256 * b1 a4)))) / 4 = (b1 a0 / 4 + 64 * (b1 a1 % 4)) + 256 * ((b1 a1 / 4 + 64 * (b1 a2 % 4)) + 256 * ((b1 a2 / 4 + 64 * (b1 a3 % 4)) + 256 * ((b1 a3 / 4 + 64 * (b1 a4 % 4)) + 256 * (b1 a4 / 4)))) := by omega
  unfold p2
  rw [e, and5_3 l0 l1 l2 l3 l4, and5_3 (by omega) (by omega) (by omega) (by omega) (by omega)]
  rw [bt_2 a0 h0 _ (by omega), bt_2 a1 h1 _ (by omega), bt_2 a2 h2 _ (by omega), bt_2 a3 h3 _ (by omega)]
  unfold b2
  omega
theorem p3_b {a0 a1 a2 a3 a4 : Nat} (h0 : a0 < 256) (h1 : a1 < 256) (h2 : a2 < 256) (h3 : a3 < 256) (h4 : a4 < 256) : p3 (b2 a0 + 256 * (b2 a1 + 256 * (b2 a2 + 256 * (b2 a3 + 256 * b2 a4)))) = fb_ct (fun k => a0.testBit k) 8 + 256 * (fb_ct (fun k => a1.testBit k) 8 + 256 * (fb_ct (fun k => a2.testBit k) 8 + 256 * (fb_ct (fun k => a3.testBit k) 8 + 256 * fb_ct (fun k => a4.testBit k) 8))) := by
  obtain ⟨u0, v0, w0, -⟩ := bt_3 a0 h0
  obtain ⟨u1, v1, w1, -⟩ := bt_3 a1 h1
  obtain ⟨u2, v2, w2, -⟩ := bt_3 a2 h2
  obtain ⟨u3, v3, w3, -⟩ := bt_3 a3 h3
  obtain ⟨u4, v4, w4, -⟩ := bt_3 a4 h4
  have e : (b2 a0 + 256 * (b2 a1 + 256 * (b2 a2 + 256 * (b2 a3 + 256 * b2 a4)))) + (b2 a0 + 256 * (b2 a1 + 256 * (b2 a2 + 256 * (b2 a3 + 256 * b2 a4)))) / 16 = (b2 a0 + b2 a0 / 16 + 16 * (b2 a1 % 16)) + 256 * ((b2 a1 + b2 a1 / 16 + 16 * (b2 a2 % 16)) + 256 * ((b2 a2 + b2 a2 / 16 + 16 * (b2 a3 % 16)) + 256 * ((b2 a3 + b2 a3 / 16 + 16 * (b2 a4 % 16)) + 256 * (b2 a4 + b2 a4 / 16)))) := by omega
  unfold p3
  rw [e, and5_f (by omega) (by omega) (by omega) (by omega) (by omega)]
  have k : ∀ x : Nat, (x &&& 15) = x % 16 := fun x => Nat.and_two_pow_sub_one_eq_mod x 4
  rw [k, k, k, k, k, ← w0, ← w1, ← w2, ← w3, ← w4]
  omega
/-- the number of nodes of a set, as Long.bitCount comes to it -/
theorem pc_40 {n : Nat} (h : n < 1099511627776) : ∃ z, z = p3 (p2 (p1 n)) ∧ z < 1099511627776 ∧ (z + z / 256 + (z + z / 256) / 65536 + (z + z / 256 + (z + z / 256) / 65536) / 4294967296) % 128 = fb_ct (fun k => n.testBit k) 40 := by
  have e : n = n % 256 + 256 * (n / 256 % 256 + 256 * (n / 65536 % 256 + 256 * (n / 16777216 % 256 + 256 * (n / 4294967296)))) := by omega
  have z1 := p1_b (a0 := n % 256) (a1 := n / 256 % 256) (a2 := n / 65536 % 256) (a3 := n / 16777216 % 256) (a4 := n / 4294967296) (by omega) (by omega) (by omega) (by omega) (by omega)
  have z2 := p2_b (a0 := n % 256) (a1 := n / 256 % 256) (a2 := n / 65536 % 256) (a3 := n / 16777216 % 256) (a4 := n / 4294967296) (by omega) (by omega) (by omega) (by omega) (by omega)
  have z3 := p3_b (a0 := n % 256) (a1 := n / 256 % 256) (a2 := n / 65536 % 256) (a3 := n / 16777216 % 256) (a4 := n / 4294967296) (by omega) (by omega) (by omega) (by omega) (by omega)
  rw [← e] at z1
  rw [← z1] at z2
  rw [← z2] at z3
  have cs : fb_ct (fun k => n.testBit k) 40 = fb_ct (fun k => (n % 256).testBit k) 8 + (fb_ct (fun k => (n / 256 % 256).testBit k) 8 + (fb_ct (fun k => (n / 65536 % 256).testBit k) 8 + (fb_ct (fun k => (n / 16777216 % 256).testBit k) 8 + fb_ct (fun k => (n / 4294967296).testBit k) 8))) := by
    have s : ∀ (m j : Nat), fb_ct (fun k => m.testBit k) (8 + j) = fb_ct (fun k => (m % 256).testBit k) 8 + fb_ct (fun k => (m / 256).testBit k) j := fun m j => by
      rw [fb_ct_split]
      congr 1
      · exact fb_ct_cong (fun k hk => by rw [show 256 = 2 ^ 8 from rfl, Nat.testBit_mod_two_pow]; simp [hk])
      · exact fb_ct_cong (fun k hk => by rw [show 256 = 2 ^ 8 from rfl, Nat.testBit_div_two_pow, Nat.add_comm])
    rw [s n 32, s (n / 256) 24, s (n / 256 / 256) 16, s (n / 256 / 256 / 256) 8]
    rw [show n / 256 / 256 = n / 65536 by omega, show n / 65536 / 256 = n / 16777216 by omega, show n / 16777216 / 256 = n / 4294967296 by omega]
  have q0 := fb_ct_le (fun k => (n % 256).testBit k) 8
  have q1 := fb_ct_le (fun k => (n / 256 % 256).testBit k) 8
  have q2 := fb_ct_le (fun k => (n / 65536 % 256).testBit k) 8
  have q3 := fb_ct_le (fun k => (n / 16777216 % 256).testBit k) 8
  have q4 := fb_ct_le (fun k => (n / 4294967296).testBit k) 8
  rw [cs]
  refine ⟨_, z3.symm, by omega, ?_⟩
  generalize fb_ct (fun k => (n % 256).testBit k) 8 = c0 at *
  generalize fb_ct (fun k => (n / 256 % 256).testBit k) 8 = c1 at *
  generalize fb_ct (fun k => (n / 65536 % 256).testBit k) 8 = c2 at *
  generalize fb_ct (fun k => (n / 16777216 % 256).testBit k) 8 = c3 at *
  generalize fb_ct (fun k => (n / 4294967296).testBit k) 8 = c4 at *
  clear z1 z2 z3 cs e h
  have f1 : (c0 + 256 * (c1 + 256 * (c2 + 256 * (c3 + 256 * c4)))) / 256 = c1 + 256 * (c2 + 256 * (c3 + 256 * c4)) := by omega
  rw [f1]
  have f2 : (c0 + 256 * (c1 + 256 * (c2 + 256 * (c3 + 256 * c4))) + (c1 + 256 * (c2 + 256 * (c3 + 256 * c4)))) / 65536 = (c2 + c3) + 256 * ((c3 + c4) + 256 * c4) := by omega
  rw [f2]
  have f3 : (c0 + 256 * (c1 + 256 * (c2 + 256 * (c3 + 256 * c4))) + (c1 + 256 * (c2 + 256 * (c3 + 256 * c4))) + ((c2 + c3) + 256 * ((c3 + c4) + 256 * c4))) / 4294967296 = c4 := by omega
  rw [f3]
  omega
