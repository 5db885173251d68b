theorem and256 {a b m M : Nat} (ha : a < 256) (hm : m < 256) : (a + 256 * b) &&& (m + 256 * M) = (a &&& m) + 256 * (b &&& M) := by
  have h1 := Nat.and_mod_two_pow (a := a + 256 * b) (b := m + 256 * M) (n := 8)
  have h2 := Nat.and_div_two_pow (a := a + 256 * b) (b := m + 256 * M) (n := 8)
  rw [show 2 ^ 8 = 256 from rfl] at h1 h2
  rw [show (a + 256 * b) % 256 = a by omega, show (m + 256 * M) % 256 = m by omega] at h1
  rw [show (a + 256 * b) / 256 = b by omega, show (m + 256 * M) / 256 = M by omega] at h2
  have h3 := Nat.div_add_mod ((a + 256 * b) &&& (m + 256 * M)) 256
  omega
/-- four bytes as one number -/
def b4 (a b c d : Nat) : Nat := a + 256 * (b + 256 * (c + 256 * d))
theorem and_b4 {a b c d m n o q Z : Nat} (ha : a < 256) (hb : b < 256) (hc : c < 256) (hd : d < 256) (hm : m < 256) (hn : n < 256) (ho : o < 256) (hq : q < 256) : b4 a b c d &&& (m + 256 * (n + 256 * (o + 256 * (q + 256 * Z)))) = b4 (a &&& m) (b &&& n) (c &&& o) (d &&& q) := by
  unfold b4
  rw [and256 ha hm, and256 hb hn, and256 hc ho]
  have := and256 (a := d) (b := 0) (m := q) (M := Z) hd hq
  rw [Nat.mul_zero, Nat.add_zero, Nat.zero_and, Nat.mul_zero, Nat.add_zero] at this
  rw [this]
def u1 (b : Nat) : Nat := b - ((b / 2) &&& 85)
def u2 (b : Nat) : Nat := (u1 b &&& 51) + ((u1 b / 4) &&& 51)
def u3 (b : Nat) : Nat := (u2 b + u2 b / 16) &&& 15
theorem byte_1 : ∀ b, b < 256 → ∀ t, t < 2 → (b / 2 + 128 * t) &&& 85 = (b / 2) &&& 85 := by decide +kernel
theorem byte_1b : ∀ b, b < 256 → (b / 2) &&& 85 ≤ b := by decide +kernel
theorem byte_2 : ∀ u, u < 256 → ∀ t, t < 4 → (u / 4 + 64 * t) &&& 51 = (u / 4) &&& 51 := by decide +kernel
theorem byte_2b : ∀ b, b < 256 → u2 b ≤ 68 ∧ u2 b / 16 ≤ 4 ∧ u2 b % 16 ≤ 4 := by decide +kernel
theorem byte_3 : ∀ v, v < 69 → ∀ t, t < 5 → (v + (v / 16 + 16 * t)) &&& 15 = (v + v / 16) &&& 15 := by decide +kernel
theorem byte_4 : ∀ b, b < 256 → u3 b ≤ 8 := by decide +kernel
theorem b4_half (a b c d : Nat) : b4 a b c d / 2 = b4 (a / 2 + 128 * (b % 2)) (b / 2 + 128 * (c % 2)) (c / 2 + 128 * (d % 2)) (d / 2) := by unfold b4; omega
theorem b4_quart (a b c d : Nat) : b4 a b c d / 4 = b4 (a / 4 + 64 * (b % 4)) (b / 4 + 64 * (c % 4)) (c / 4 + 64 * (d % 4)) (d / 4) := by unfold b4; omega
theorem b4_16 (a b c d : Nat) : b4 a b c d / 16 = b4 (a / 16 + 16 * (b % 16)) (b / 16 + 16 * (c % 16)) (c / 16 + 16 * (d % 16)) (d / 16) := by unfold b4; omega
theorem b4_add (a b c d a' b' c' d' : Nat) : b4 a b c d + b4 a' b' c' d' = b4 (a + a') (b + b') (c + c') (d + d') := by unfold b4; omega
theorem b4_sub {a b c d a' b' c' d' : Nat} (h1 : a' ≤ a) (h2 : b' ≤ b) (h3 : c' ≤ c) (h4 : d' ≤ d) : b4 a b c d - b4 a' b' c' d' = b4 (a - a') (b - b') (c - c') (d - d') := by unfold b4; omega
theorem u1_lt {b : Nat} (h : b < 256) : u1 b < 256 := by unfold u1; omega
theorem st_1 {a b c d : Nat} (ha : a < 256) (hb : b < 256) (hc : c < 256) (hd : d < 256) : b4 a b c d - ((b4 a b c d / 2) &&& 6148914691236517205) = b4 (u1 a) (u1 b) (u1 c) (u1 d) := by
  rw [b4_half, show 6148914691236517205 = 85 + 256 * (85 + 256 * (85 + 256 * (85 + 256 * 1431655765))) from rfl, and_b4 (by omega) (by omega) (by omega) (by omega) (by decide) (by decide) (by decide) (by decide)]
  rw [byte_1 a ha _ (Nat.mod_lt _ (by decide)), byte_1 b hb _ (Nat.mod_lt _ (by decide)), byte_1 c hc _ (Nat.mod_lt _ (by decide))]
  exact b4_sub (byte_1b a ha) (byte_1b b hb) (byte_1b c hc) (byte_1b d hd)
theorem st_2 {a b c d : Nat} (ha : a < 256) (hb : b < 256) (hc : c < 256) (hd : d < 256) : (b4 (u1 a) (u1 b) (u1 c) (u1 d) &&& 3689348814741910323) + ((b4 (u1 a) (u1 b) (u1 c) (u1 d) / 4) &&& 3689348814741910323) = b4 (u2 a) (u2 b) (u2 c) (u2 d) := by
  have h1 := u1_lt ha
  have h2 := u1_lt hb
  have h3 := u1_lt hc
  have h4 := u1_lt hd
  rw [b4_quart, show 3689348814741910323 = 51 + 256 * (51 + 256 * (51 + 256 * (51 + 256 * 858993459))) from rfl, and_b4 (by omega) (by omega) (by omega) (by omega) (by decide) (by decide) (by decide) (by decide), and_b4 (by omega) (by omega) (by omega) (by omega) (by decide) (by decide) (by decide) (by decide)]
  rw [byte_2 _ h1 _ (Nat.mod_lt _ (by decide)), byte_2 _ h2 _ (Nat.mod_lt _ (by decide)), byte_2 _ h3 _ (Nat.mod_lt _ (by decide)), b4_add]
  rfl
theorem st_3 {a b c d : Nat} (ha : a < 256) (hb : b < 256) (hc : c < 256) (hd : d < 256) : (b4 (u2 a) (u2 b) (u2 c) (u2 d) + b4 (u2 a) (u2 b) (u2 c) (u2 d) / 16) &&& 1085102592571150095 = b4 (u3 a) (u3 b) (u3 c) (u3 d) := by
  have h1 := byte_2b a ha
  have h2 := byte_2b b hb
  have h3 := byte_2b c hc
  have h4 := byte_2b d hd
  rw [b4_16, b4_add, show 1085102592571150095 = 15 + 256 * (15 + 256 * (15 + 256 * (15 + 256 * 252645135))) from rfl, and_b4 (by omega) (by omega) (by omega) (by omega) (by decide) (by decide) (by decide) (by decide)]
  rw [byte_3 _ (by omega) _ (by omega), byte_3 _ (by omega) _ (by omega), byte_3 _ (by omega) _ (by omega)]
  rfl
theorem st_4 {a b c d : Nat} (ha : a ≤ 8) (hb : b ≤ 8) (hc : c ≤ 8) (hd : d ≤ 8) {x4 x5 x6 : Nat} (h4 : x4 = b4 a b c d + b4 a b c d / 256) (h5 : x5 = x4 + x4 / 65536) (h6 : x6 = x5 + x5 / 4294967296) : x6 % 128 = a + b + c + d ∧ x6 < 4294967296 := by
  unfold b4 at h4
  have e1 : (a + 256 * (b + 256 * (c + 256 * d))) / 256 = b + 256 * (c + 256 * d) := by omega
  rw [e1] at h4
  have e2 : x4 / 65536 = (c + d) + 256 * d := by omega
  rw [e2] at h5
  have e3 : x5 / 4294967296 = 0 := by omega
  rw [e3] at h6
  omega
