/-! bits of 24 hours: counted, the lowest one -/
def cntB (Q : Nat → Bool) (n : Nat) : Nat := (List.range n).countP Q
theorem cntB_s (Q : Nat → Bool) (n : Nat) : cntB Q (n + 1) = cntB Q n + cond (Q n) 1 0 := by
  unfold cntB
  rw [List.range_succ, List.countP_append, List.countP_cons, List.countP_nil]
  cases Q n <;> rfl
theorem and_sp {lo m0 : Nat} (hi m1 : Nat) (h1 : lo < 256) (h2 : m0 < 256) : (lo + 256 * hi) &&& (m0 + 256 * m1) = (lo &&& m0) + 256 * (hi &&& m1) := by
  have h3 : lo &&& m0 < 256 := Nat.and_lt_two_pow (n := 8) _ h2
  apply Nat.eq_of_testBit_eq
  intro i
  have e : ∀ a b, b < 256 → (b + 256 * a).testBit i = if i < 8 then b.testBit i else a.testBit (i - 8) := fun a b hb => by
    rw [Nat.add_comm]
    exact Nat.testBit_two_pow_mul_add (i := 8) a (b := b) hb i
  rw [Nat.testBit_and, e _ _ h1, e _ _ h2, e _ _ h3]
  split <;> rw [Nat.testBit_and]
theorem and_top {lo m0 : Nat} (m1 : Nat) (h1 : lo < 256) (h2 : m0 < 256) : lo &&& (m0 + 256 * m1) = lo &&& m0 := by
  have := and_sp 0 m1 h1 h2
  rw [Nat.mul_zero, Nat.add_zero, Nat.zero_and, Nat.mul_zero, Nat.add_zero] at this
  exact this
theorem u1 : ∀ u, u < 128 → ∀ t, t < 2 → (u + 128 * t) &&& 85 = u &&& 85 := by decide +kernel
theorem u2 : ∀ u, u < 64 → ∀ t, t < 4 → (u + 64 * t) &&& 51 = u &&& 51 := by decide +kernel
theorem u3 : ∀ u, u < 16 → ∀ t, t < 16 → (u + 16 * t) &&& 15 = u := by decide +kernel
def q1 (a : Nat) : Nat := a - ((a / 2) &&& 85)
def q2 (a : Nat) : Nat := (a &&& 51) + ((a / 4) &&& 51)
theorem q1_le : ∀ a, a < 256 → ((a / 2) &&& 85) ≤ a := by decide +kernel
theorem q12 : ∀ a, a < 256 → q1 a < 256 ∧ q2 (q1 a) < 72 ∧ q2 (q1 a) % 16 < 5 ∧ (q2 (q1 a) + q2 (q1 a) / 16) % 16 = pcN a := by decide +kernel
theorem s_u1 : ((1 : Int32).toUInt32 &&& Int32.toUInt32 31).toBitVec % 32 = 1 := by decide
theorem bc_fin {a b c : Nat} (ha : a < 9) (hb : b < 9) (hc : c < 9) : (nI (a + b + 256 * (b + c) + 65536 * c) + ush (nI (a + b + 256 * (b + c) + 65536 * c)) 16) &&& 63 = nI (a + b + c) := by
  have e : ush (nI (a + b + 256 * (b + c) + 65536 * c)) 16 = nI c := by
    unfold ush
    rw [pk_ushrN (by omega) 16 16 (by decide)]
    congr 1
    omega
  rw [e, nI_add, pk_andN (by omega) 6 (by decide)]
  congr 1
  omega
theorem bc_n {a b c : Nat} (ha : a < 256) (hb : b < 256) (hc : c < 256) : f_J6_bitCount_0f7a4 (nI (a + 256 * b + 65536 * c)) = some (nI (pcN a + pcN b + pcN c)) := by
  have x1 := q12 a ha
  have x2 := q12 b hb
  have x3 := q12 c hc
  have y1 := q1_le a ha
  have y2 := q1_le b hb
  have y3 := q1_le c hc
  have p1 := pcN_8 a ha
  have p2 := pcN_8 b hb
  have p3 := pcN_8 c hc
  have us : ∀ (n k : Nat) (s : Int32), n < 2 ^ 32 → ((s.toUInt32 &&& Int32.toUInt32 31).toBitVec % 32).toNat = k → ush (nI n) s = nI (n / 2 ^ k) := fun n k s hn hs => by
    unfold ush; exact pk_ushrN hn s k hs
  have m5 : (1431655765 : Int32) = nI (85 + 256 * (85 + 256 * (85 + 256 * 85))) := by decide
  have m3 : (858993459 : Int32) = nI (51 + 256 * (51 + 256 * (51 + 256 * 51))) := by decide
  have mf : (252645135 : Int32) = nI (15 + 256 * (15 + 256 * (15 + 256 * 15))) := by decide
  -- step 1
  have e1 : (a + 256 * b + 65536 * c) / 2 = (a / 2 + 128 * (b % 2)) + 256 * ((b / 2 + 128 * (c % 2)) + 256 * (c / 2)) := by omega
  have e2 : ((a + 256 * b + 65536 * c) / 2) &&& (85 + 256 * (85 + 256 * (85 + 256 * 85))) = (a / 2 &&& 85) + 256 * ((b / 2 &&& 85) + 256 * (c / 2 &&& 85)) := by
    rw [e1, and_sp _ _ (by omega) (by omega), and_sp _ _ (by omega) (by omega), u1 _ (by omega) _ (by omega), u1 _ (by omega) _ (by omega), and_top _ (by omega) (by omega)]
  have s1 : nI (a + 256 * b + 65536 * c) - (ush (nI (a + 256 * b + 65536 * c)) 1 &&& 1431655765) = nI (q1 a + 256 * q1 b + 65536 * q1 c) := by
    rw [us _ 1 1 (by omega) (by decide), m5, nx_and, show 2 ^ 1 = 2 from rfl, e2, pk_sub (by omega)]
    congr 1
    unfold q1
    omega
  -- step 2
  obtain ⟨A, hA⟩ : ∃ A, A = q1 a := ⟨_, rfl⟩
  obtain ⟨B, hB⟩ : ∃ B, B = q1 b := ⟨_, rfl⟩
  obtain ⟨D, hD⟩ : ∃ D, D = q1 c := ⟨_, rfl⟩
  rw [← hA] at x1 s1
  rw [← hB] at x2 s1
  rw [← hD] at x3 s1
  have f1 : (A + 256 * B + 65536 * D) &&& (51 + 256 * (51 + 256 * (51 + 256 * 51))) = (A &&& 51) + 256 * ((B &&& 51) + 256 * (D &&& 51)) := by
    rw [show A + 256 * B + 65536 * D = A + 256 * (B + 256 * D) by omega, and_sp _ _ (by omega) (by omega), and_sp _ _ (by omega) (by omega), and_top _ (by omega) (by omega)]
  have f2 : ((A + 256 * B + 65536 * D) / 4) &&& (51 + 256 * (51 + 256 * (51 + 256 * 51))) = (A / 4 &&& 51) + 256 * ((B / 4 &&& 51) + 256 * (D / 4 &&& 51)) := by
    rw [show (A + 256 * B + 65536 * D) / 4 = (A / 4 + 64 * (B % 4)) + 256 * ((B / 4 + 64 * (D % 4)) + 256 * (D / 4)) by omega, and_sp _ _ (by omega) (by omega), and_sp _ _ (by omega) (by omega), u2 _ (by omega) _ (by omega), u2 _ (by omega) _ (by omega), and_top _ (by omega) (by omega)]
  have s2 : (nI (A + 256 * B + 65536 * D) &&& 858993459) + (ush (nI (A + 256 * B + 65536 * D)) 2 &&& 858993459) = nI (q2 A + 256 * q2 B + 65536 * q2 D) := by
    rw [us _ 2 2 (by omega) (by decide), m3, nx_and, nx_and, show 2 ^ 2 = 4 from rfl, f1, f2, nI_add]
    congr 1
    unfold q2
    omega
  obtain ⟨E, hE⟩ : ∃ E, E = q2 A := ⟨_, rfl⟩
  obtain ⟨F, hF⟩ : ∃ F, F = q2 B := ⟨_, rfl⟩
  obtain ⟨G, hG⟩ : ∃ G, G = q2 D := ⟨_, rfl⟩
  rw [← hE] at x1 s2
  rw [← hF] at x2 s2
  rw [← hG] at x3 s2
  -- step 3
  have g1 : (E + 256 * F + 65536 * G + (E + 256 * F + 65536 * G) / 16) &&& (15 + 256 * (15 + 256 * (15 + 256 * 15))) = pcN a + 256 * (pcN b + 256 * pcN c) := by
    rw [show E + 256 * F + 65536 * G + (E + 256 * F + 65536 * G) / 16 = ((E + E / 16) % 16 + 16 * ((E + E / 16) / 16 + F % 16)) + 256 * (((F + F / 16) % 16 + 16 * ((F + F / 16) / 16 + G % 16)) + 256 * ((G + G / 16) % 16 + 16 * ((G + G / 16) / 16))) by omega, and_sp _ _ (by omega) (by omega), and_sp _ _ (by omega) (by omega), u3 _ (by omega) _ (by omega), u3 _ (by omega) _ (by omega), x1.2.2.2, x2.2.2.2, and_top _ (by omega) (by omega), u3 _ (by omega) _ (by omega), x3.2.2.2]
  have s3 : (nI (E + 256 * F + 65536 * G) + ush (nI (E + 256 * F + 65536 * G)) 4) &&& 252645135 = nI (pcN a + 256 * pcN b + 65536 * pcN c) := by
    rw [us _ 4 4 (by omega) (by decide), mf, nI_add, nx_and, show 2 ^ 4 = 16 from rfl, g1]
    congr 1
    omega
  have s4 : nI (pcN a + 256 * pcN b + 65536 * pcN c) + ush (nI (pcN a + 256 * pcN b + 65536 * pcN c)) 8 = nI (pcN a + pcN b + 256 * (pcN b + pcN c) + 65536 * pcN c) := by
    rw [us _ 8 8 (by omega) (by decide), nI_add, show (2 : Nat) ^ 8 = 256 from rfl]
    congr 1
    omega
  have s5 : (nI (pcN a + pcN b + 256 * (pcN b + pcN c) + 65536 * pcN c) + ush (nI (pcN a + pcN b + 256 * (pcN b + pcN c) + 65536 * pcN c)) 16) &&& 63 = nI (pcN a + pcN b + pcN c) := bc_fin p1 p2 p3
  unfold f_J6_bitCount_0f7a4 b_J6_bitCount_0f7a4
  rw [s1, s2, s3, s4, s5]
theorem pcN_mod (x k : Nat) : pcN (x / 2 ^ k % 256) = (List.range 8).countP fun j => x.testBit (j + k) := by
  unfold pcN
  refine List.countP_congr fun j hj => ?_
  have hj := List.mem_range.mp hj
  rw [show 256 = 2 ^ 8 from rfl, Nat.testBit_mod_two_pow, Nat.testBit_div_two_pow]
  simp [hj]
/-- Integer.bitCount of a set of hours -/
theorem bc_24 (v : Int32) (h : ∀ j, 24 ≤ j → j < 32 → bt v j = false) : f_J6_bitCount_0f7a4 v = some (nI (cntB (bt v) 24)) := by
  obtain ⟨x, hx, rfl⟩ := wb_of32 v
  have hx24 : x < 2 ^ 24 := by
    refine Nat.lt_pow_two_of_testBit x fun i hi => ?_
    by_cases h32 : i < 32
    · rw [← bt_nI h32]; exact h i hi h32
    · exact Nat.testBit_lt_two_pow (Nat.lt_of_lt_of_le hx (Nat.pow_le_pow_right (by decide) (by omega)))
  have e := bc_n (a := x / 2 ^ 0 % 256) (b := x / 2 ^ 8 % 256) (c := x / 2 ^ 16 % 256) (by omega) (by omega) (by omega)
  rw [show x / 2 ^ 0 % 256 + 256 * (x / 2 ^ 8 % 256) + 65536 * (x / 2 ^ 16 % 256) = x by omega, pcN_mod, pcN_mod, pcN_mod] at e
  rw [e]
  congr 2
  unfold cntB
  rw [show List.range 24 = List.range 8 ++ ((List.range 8).map (· + 8) ++ (List.range 8).map (· + 16)) by decide, List.countP_append, List.countP_append, List.countP_map, List.countP_map, Nat.add_assoc]
  congr 1
  · refine List.countP_congr fun j hj => ?_
    have hj := List.mem_range.mp hj
    rw [bt_nI (by omega), Nat.add_zero]
  · congr 1
    · refine List.countP_congr fun j hj => ?_
      have hj := List.mem_range.mp hj
      show _ ↔ bt (nI x) (j + 8) = true
      rw [bt_nI (by omega)]
    · refine List.countP_congr fun j hj => ?_
      have hj := List.mem_range.mp hj
      show _ ↔ bt (nI x) (j + 16) = true
      rw [bt_nI (by omega)]
def tzR (y : Int32) : Option Int32 := if 0 < y then (if y ≤ 65536 then b_J6_numberOfTrailingZeros_0f7a4_34 y 1 else b_J6_numberOfTrailingZeros_0f7a4_34 (ush y 16) (1 + 16)) else some (y &&& 32)
theorem tzR_k : ∀ k, k < 24 → tzR (nI (2 ^ k - 1)) = some (nI k) := by decide +kernel
theorem tz_ (v : Int32) : f_J6_numberOfTrailingZeros_0f7a4 v = tzR ((v ^^^ (-1)) &&& (v - 1)) := rfl
/-- Integer.numberOfTrailingZeros -/
theorem tz_24 (v : Int32) {k : Nat} (hk : k < 24) (h1 : bt v k = true) (h2 : ∀ j, j < k → bt v j = false) : f_J6_numberOfTrailingZeros_0f7a4 v = some (nI k) := by
  obtain ⟨x, hx, rfl⟩ := wb_of32 v
  rw [bt_nI (by omega)] at h1
  have h2' : ∀ j, j < k → x.testBit j = false := fun j hj => by rw [← bt_nI (by omega)]; exact h2 j hj
  have hmod : x % 2 ^ k = 0 := by
    apply Nat.eq_of_testBit_eq
    intro i
    rw [Nat.testBit_mod_two_pow, Nat.zero_testBit]
    by_cases hi : i < k
    · rw [h2' i hi, Bool.and_false]
    · simp [hi]
  have hodd : x / 2 ^ k % 2 = 1 := by
    have := h1
    rw [Nat.testBit_eq_decide_div_mod_eq] at this
    simpa using this
  obtain ⟨m, hm⟩ : ∃ m, x = 2 ^ k * (2 * m + 1) := ⟨x / 2 ^ k / 2, by
    have e1 := Nat.div_add_mod x (2 ^ k)
    have e2 : x / 2 ^ k = 2 * (x / 2 ^ k / 2) + 1 := by omega
    rw [hmod, Nat.add_zero] at e1
    rw [← e2]; exact e1.symm⟩
  have hp : 0 < 2 ^ k := Nat.two_pow_pos k
  have hx1 : x - 1 = 2 ^ k * (2 * m) + (2 ^ k - 1) := by rw [hm, Nat.mul_add, Nat.mul_one]; omega
  have hx0 : 1 ≤ x := by rw [hm]; exact Nat.mul_pos hp (by omega)
  have key : (nI x ^^^ (-1)) &&& (nI x - 1) = nI (2 ^ k - 1) := by
    have e0 : nI x - 1 = nI (x - 1) := by rw [← nI_1', pk_sub hx0]
    rw [e0]
    refine b_ext fun j hj => ?_
    rw [b_and, bt_not _ hj, bt_nI hj, bt_nI hj, bt_nI hj, hx1, Nat.testBit_two_pow_sub_one, Nat.testBit_two_pow_mul_add _ (by omega), hm]
    have e3 : (2 ^ k * (2 * m + 1)).testBit j = (decide (k ≤ j) && (2 * m + 1).testBit (j - k)) := by rw [Nat.testBit_two_pow_mul]
    rw [e3]
    by_cases q : j < k
    · rw [if_pos q, Nat.testBit_two_pow_sub_one]; simp [q]
    · rw [if_neg q]
      by_cases q2 : j = k
      · subst q2; simp
      · have e4 : j - k = (j - k - 1) + 1 := by omega
        rw [e4, Nat.testBit_succ, Nat.testBit_succ, show (2 * m + 1) / 2 = m by omega, show 2 * m / 2 = m by omega]
        simp [q]
  rw [tz_, key]
  exact tzR_k k hk
