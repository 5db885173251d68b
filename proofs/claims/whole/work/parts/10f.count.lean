theorem l_tn {n : Nat} (h : n < 2 ^ 64) : (lN n).toBitVec.toNat = n := Nat.mod_eq_of_lt h
theorem l_and {a b : Nat} (ha : a < 2 ^ 64) (hb : b < 2 ^ 64) : lN a &&& lN b = lN (a &&& b) := by
  apply Int64.toBitVec_inj.mp
  apply BitVec.eq_of_toNat_eq
  rw [Int64.toBitVec_and, BitVec.toNat_and, l_tn ha, l_tn hb, l_tn (Nat.lt_of_le_of_lt Nat.and_le_left ha)]
theorem l_ushr (x : Int64) (s : Int32) (k : Nat) (hs : ((s.toInt64.toUInt64 &&& Int64.toUInt64 63).toBitVec % 64).toNat = k) : (x.toUInt64 >>> (s.toInt64.toUInt64 &&& Int64.toUInt64 63)).toInt64.toBitVec.toNat = x.toBitVec.toNat / 2 ^ k := by
  have e : (x.toUInt64 >>> (s.toInt64.toUInt64 &&& Int64.toUInt64 63)).toInt64.toBitVec = x.toBitVec >>> k := by
    rw [← hs]
    exact UInt64.toBitVec_shiftRight _ _
  rw [e, BitVec.toNat_ushiftRight, Nat.shiftRight_eq_div_pow]
theorem l_ushrN {n : Nat} (hn : n < 2 ^ 64) (s : Int32) (k : Nat) (hs : ((s.toInt64.toUInt64 &&& Int64.toUInt64 63).toBitVec % 64).toNat = k) : ((lN n).toUInt64 >>> (s.toInt64.toUInt64 &&& Int64.toUInt64 63)).toInt64 = lN (n / 2 ^ k) := by
  apply Int64.toBitVec_inj.mp
  apply BitVec.eq_of_toNat_eq
  rw [l_ushr _ s k hs, l_tn hn, l_tn (Nat.lt_of_le_of_lt (Nat.div_le_self _ _) hn)]
theorem b4_lt {a b c d : Nat} (ha : a < 256) (hb : b < 256) (hc : c < 256) (hd : d < 256) : b4 a b c d < 4294967296 := by unfold b4; omega
theorem u2_lt {b : Nat} (h : b < 256) : u2 b < 256 := by have := byte_2b b h; omega
theorem bc1_b4 {a b c d : Nat} (ha : a < 256) (hb : b < 256) (hc : c < 256) (hd : d < 256) : bc1 (lN (b4 a b c d)) = lN (b4 (u1 a) (u1 b) (u1 c) (u1 d)) := by
  have h := b4_lt ha hb hc hd
  unfold bc1
  rw [l_ushrN (by omega) 1 1 (by decide), show (6148914691236517205 : Int64) = lN 6148914691236517205 from rfl, show (2 : Nat) ^ 1 = 2 from rfl, l_and (by omega) (by decide), lN_sub (Nat.le_trans Nat.and_le_left (Nat.div_le_self _ _)), st_1 ha hb hc hd]
theorem bc2_b4 {a b c d : Nat} (ha : a < 256) (hb : b < 256) (hc : c < 256) (hd : d < 256) : bc2 (lN (b4 (u1 a) (u1 b) (u1 c) (u1 d))) = lN (b4 (u2 a) (u2 b) (u2 c) (u2 d)) := by
  have h := b4_lt (u1_lt ha) (u1_lt hb) (u1_lt hc) (u1_lt hd)
  unfold bc2
  rw [l_ushrN (by omega) 2 2 (by decide), show (3689348814741910323 : Int64) = lN 3689348814741910323 from rfl, show (2 : Nat) ^ 2 = 4 from rfl, l_and (by omega) (by decide), l_and (by omega) (by decide), lN_add, st_2 ha hb hc hd]
theorem bc3_b4 {a b c d : Nat} (ha : a < 256) (hb : b < 256) (hc : c < 256) (hd : d < 256) : bc3 (lN (b4 (u2 a) (u2 b) (u2 c) (u2 d))) = lN (b4 (u3 a) (u3 b) (u3 c) (u3 d)) := by
  have h := b4_lt (u2_lt ha) (u2_lt hb) (u2_lt hc) (u2_lt hd)
  unfold bc3
  rw [l_ushrN (by omega) 4 4 (by decide), show (1085102592571150095 : Int64) = lN 1085102592571150095 from rfl, show (2 : Nat) ^ 4 = 16 from rfl, lN_add, l_and (by omega) (by decide), st_3 ha hb hc hd]
theorem bcF_b4 {a b c d : Nat} (ha : a < 256) (hb : b < 256) (hc : c < 256) (hd : d < 256) : bcF (lN (b4 a b c d)) = nI (u3 a + u3 b + u3 c + u3 d) := by
  have h1 := byte_4 a ha
  have h2 := byte_4 b hb
  have h3 := byte_4 c hc
  have h4 := byte_4 d hd
  have hz := b4_lt (a := u3 a) (b := u3 b) (c := u3 c) (d := u3 d) (by omega) (by omega) (by omega) (by omega)
  unfold bcF
  rw [bc1_b4 ha hb hc hd, bc2_b4 ha hb hc hd, bc3_b4 ha hb hc hd]
  obtain ⟨m1, m2⟩ := st_4 h1 h2 h3 h4 rfl rfl rfl
  unfold bc4
  rw [l_ushrN (by omega) 8 8 (by decide), show (2 : Nat) ^ 8 = 256 from rfl, lN_add]
  generalize h5 : b4 (u3 a) (u3 b) (u3 c) (u3 d) + b4 (u3 a) (u3 b) (u3 c) (u3 d) / 256 = x4 at m1 m2 ⊢
  unfold bc5
  rw [l_ushrN (by omega) 16 16 (by decide), show (2 : Nat) ^ 16 = 65536 from rfl, lN_add]
  generalize h6 : x4 + x4 / 65536 = x5 at m1 m2 ⊢
  unfold bc6
  rw [l_ushrN (by omega) 32 32 (by decide), show (2 : Nat) ^ 32 = 4294967296 from rfl, lN_add, lN_i, pk_andN (m := 127) m2 7 (by decide), show (2 : Nat) ^ 7 = 128 from rfl, m1]
theorem u3_bits : ∀ b, b < 256 → u3 b = b % 2 + b / 2 % 2 + b / 4 % 2 + b / 8 % 2 + b / 16 % 2 + b / 32 % 2 + b / 64 % 2 + b / 128 := by decide +kernel
theorem u3_of (g0 : Nat) (h0 : g0 < 2) (g1 : Nat) (h1 : g1 < 2) (g2 : Nat) (h2 : g2 < 2) (g3 : Nat) (h3 : g3 < 2) (g4 : Nat) (h4 : g4 < 2) (g5 : Nat) (h5 : g5 < 2) (g6 : Nat) (h6 : g6 < 2) (g7 : Nat) (h7 : g7 < 2) : u3 (g0 + 2 * g1 + 4 * g2 + 8 * g3 + 16 * g4 + 32 * g5 + 64 * g6 + 128 * g7) = g0 + g1 + g2 + g3 + g4 + g5 + g6 + g7 := by
  rw [u3_bits _ (by omega)]
  generalize hb : g0 + 2 * g1 + 4 * g2 + 8 * g3 + 16 * g4 + 32 * g5 + 64 * g6 + 128 * g7 = b
  have e0 : b % 2 = g0 := by omega
  have e1 : b / 2 % 2 = g1 := by omega
  have e2 : b / 4 % 2 = g2 := by omega
  have e3 : b / 8 % 2 = g3 := by omega
  have e4 : b / 16 % 2 = g4 := by omega
  have e5 : b / 32 % 2 = g5 := by omega
  have e6 : b / 64 % 2 = g6 := by omega
  have e7 : b / 128 = g7 := by omega
  rw [e0, e1, e2, e3, e4, e5, e6, e7]
/-- a set of flags as a number, and how many there are -/
def bsN (g : Nat → Nat) : Nat → Nat
  | 0 => 0
  | k + 1 => bsN g k + g k * 2 ^ k
def cnN (g : Nat → Nat) : Nat → Nat
  | 0 => 0
  | k + 1 => cnN g k + g k
theorem bsN_lt {g : Nat → Nat} (hg : ∀ k, g k < 2) : ∀ k, bsN g k < 2 ^ k
  | 0 => Nat.one_pos
  | k + 1 => by
    have h := bsN_lt hg k
    have h2 := hg k
    show bsN g k + g k * 2 ^ k < 2 ^ (k + 1)
    rw [Nat.pow_succ]
    have h3 : g k * 2 ^ k ≤ 1 * 2 ^ k := Nat.mul_le_mul_right _ (by omega)
    omega
theorem bsN_cut {g : Nat → Nat} (n : Nat) : ∀ m, n ≤ m → bsN (fun i => if i < n then g i else 0) m = bsN g n ∧ cnN (fun i => if i < n then g i else 0) m = cnN g n := by
  have key : ∀ k, k ≤ n → bsN (fun i => if i < n then g i else 0) k = bsN g k ∧ cnN (fun i => if i < n then g i else 0) k = cnN g k := by
    intro k
    induction k with
    | zero => exact fun _ => ⟨rfl, rfl⟩
    | succ k ih =>
      intro h
      obtain ⟨h1, h2⟩ := ih (by omega)
      constructor
      · show bsN _ k + (if k < n then g k else 0) * 2 ^ k = bsN g k + g k * 2 ^ k
        rw [h1, if_pos (by omega)]
      · show cnN _ k + (if k < n then g k else 0) = cnN g k + g k
        rw [h2, if_pos (by omega)]
  intro m
  induction m with
  | zero => exact fun h => key 0 (by omega) |>.imp (fun e => by rw [e, show n = 0 by omega]) (fun e => by rw [e, show n = 0 by omega])
  | succ m ih =>
    intro h
    by_cases c : n = m + 1
    · subst c; exact key _ (Nat.le_refl _)
    · obtain ⟨h1, h2⟩ := ih (by omega)
      constructor
      · show bsN _ m + (if m < n then g m else 0) * 2 ^ m = bsN g n
        rw [h1, if_neg (by omega), Nat.zero_mul, Nat.add_zero]
      · show cnN _ m + (if m < n then g m else 0) = cnN g n
        rw [h2, if_neg (by omega), Nat.add_zero]
theorem bcF_32 {g : Nat → Nat} (hg : ∀ k, g k < 2) : bcF (lN (bsN g 32)) = nI (cnN g 32) := by
  have y : ∀ o, g o + 2 * g (o + 1) + 4 * g (o + 2) + 8 * g (o + 3) + 16 * g (o + 4) + 32 * g (o + 5) + 64 * g (o + 6) + 128 * g (o + 7) < 256 := fun o => by
    have h0 := hg o
    have h1 := hg (o + 1)
    have h2 := hg (o + 2)
    have h3 := hg (o + 3)
    have h4 := hg (o + 4)
    have h5 := hg (o + 5)
    have h6 := hg (o + 6)
    have h7 := hg (o + 7)
    omega
  have z : ∀ o, u3 (g o + 2 * g (o + 1) + 4 * g (o + 2) + 8 * g (o + 3) + 16 * g (o + 4) + 32 * g (o + 5) + 64 * g (o + 6) + 128 * g (o + 7)) = g o + g (o + 1) + g (o + 2) + g (o + 3) + g (o + 4) + g (o + 5) + g (o + 6) + g (o + 7) := fun o => u3_of _ (hg _) _ (hg _) _ (hg _) _ (hg _) _ (hg _) _ (hg _) _ (hg _) _ (hg _)
  have e := bcF_b4 (y 0) (y 8) (y 16) (y 24)
  rw [z 0, z 8, z 16, z 24] at e
  have e1 : bsN g 32 = b4 (g 0 + 2 * g (0 + 1) + 4 * g (0 + 2) + 8 * g (0 + 3) + 16 * g (0 + 4) + 32 * g (0 + 5) + 64 * g (0 + 6) + 128 * g (0 + 7)) (g 8 + 2 * g (8 + 1) + 4 * g (8 + 2) + 8 * g (8 + 3) + 16 * g (8 + 4) + 32 * g (8 + 5) + 64 * g (8 + 6) + 128 * g (8 + 7)) (g 16 + 2 * g (16 + 1) + 4 * g (16 + 2) + 8 * g (16 + 3) + 16 * g (16 + 4) + 32 * g (16 + 5) + 64 * g (16 + 6) + 128 * g (16 + 7)) (g 24 + 2 * g (24 + 1) + 4 * g (24 + 2) + 8 * g (24 + 3) + 16 * g (24 + 4) + 32 * g (24 + 5) + 64 * g (24 + 6) + 128 * g (24 + 7)) := by
    unfold b4
    simp only [bsN, Nat.reducePow, Nat.reduceAdd, Nat.mul_one, Nat.zero_add]
    omega
  have e2 : cnN g 32 = g 0 + g (0 + 1) + g (0 + 2) + g (0 + 3) + g (0 + 4) + g (0 + 5) + g (0 + 6) + g (0 + 7) + (g 8 + g (8 + 1) + g (8 + 2) + g (8 + 3) + g (8 + 4) + g (8 + 5) + g (8 + 6) + g (8 + 7)) + (g 16 + g (16 + 1) + g (16 + 2) + g (16 + 3) + g (16 + 4) + g (16 + 5) + g (16 + 6) + g (16 + 7)) + (g 24 + g (24 + 1) + g (24 + 2) + g (24 + 3) + g (24 + 4) + g (24 + 5) + g (24 + 6) + g (24 + 7)) := by
    simp only [cnN, Nat.reduceAdd, Nat.zero_add]
    omega
  rw [e1, e2]
  exact e
theorem bcF_n {g : Nat → Nat} (hg : ∀ k, g k < 2) {n : Nat} (hn : n ≤ 32) : bcF (lN (bsN g n)) = nI (cnN g n) := by
  obtain ⟨h1, h2⟩ := bsN_cut (g := g) n 32 hn
  rw [← h1, ← h2]
  refine bcF_32 (fun k => ?_)
  show (if k < n then g k else 0) < 2
  split
  · exact hg k
  · decide
theorem sh_1 : ∀ k, k < 32 → (1 : Int64) <<< ((nI k).toInt64 &&& 63) = lN (2 ^ k) := by decide +kernel
theorem l_or {s k : Nat} (hk : k < 32) (hs : s < 2 ^ k) : lN s ||| lN (2 ^ k) = lN (s + 2 ^ k) := by
  have h2 : 2 ^ k ≤ 2 ^ 32 := Nat.pow_le_pow_right (by decide) (by omega)
  have h3 : (2 : Nat) ^ 32 < 2 ^ 63 := by decide
  apply Int64.toBitVec_inj.mp
  apply BitVec.eq_of_toNat_eq
  rw [Int64.toBitVec_or, BitVec.toNat_or, l_tn (by omega), l_tn (by omega), l_tn (by omega)]
  have h := Nat.two_pow_add_eq_or_of_lt hs 1
  rw [Nat.mul_one] at h
  rw [Nat.or_comm, ← h, Nat.add_comm]
def sfN (f : Nat → Int32) (w : Int32) (k : Nat) : Nat := if r_X5_isSo f k w = 0 then 0 else 1
theorem sfN_lt {f : Nat → Int32} {w : Int32} (k : Nat) : sfN f w k < 2 := by
  unfold sfN
  split <;> decide
theorem pl_bs {f : Nat → Int32} {w : Int32} : ∀ k, k ≤ 32 → plS f w k = lN (bsN (sfN f w) k)
  | 0, _ => rfl
  | k + 1, h => by
    show ((plS f w k) ||| ((if (r_X5_isSo f k w) = 0 then 0 else (1 <<< ((nI k).toInt64 &&& 63))) : Int64)) = lN (bsN (sfN f w) k + sfN f w k * 2 ^ k)
    rw [pl_bs k (by omega)]
    unfold sfN
    by_cases c : r_X5_isSo f k w = 0
    · rw [if_pos c, if_pos c, or0, Nat.zero_mul, Nat.add_zero]
    · rw [if_neg c, if_neg c, sh_1 k (by omega), Nat.one_mul]
      exact l_or (by omega) (bsN_lt sfN_lt k)
theorem mn_cn {f : Nat → Int32} {w : Int32} : ∀ k, mnS f w k = nI (cnN (sfN f w) k)
  | 0 => nI_0.symm
  | k + 1 => by
    show (mnS f w k) + (if (r_X5_isSo f k w) = 0 then 0 else 1) = nI (cnN (sfN f w) k + sfN f w k)
    rw [mn_cn k]
    unfold sfN
    by_cases c : r_X5_isSo f k w = 0
    · rw [if_pos c, if_pos c, Nat.add_zero, Int32.add_zero]
    · rw [if_neg c, if_neg c]
      exact nI_1 _
theorem cnN_le {g : Nat → Nat} (hg : ∀ k, g k < 2) : ∀ k, cnN g k ≤ k
  | 0 => Nat.le_refl _
  | k + 1 => by
    have h := cnN_le hg k
    have h2 := hg k
    show cnN g k + g k ≤ k + 1
    omega
theorem Rel.many {f : Nat → Int32} {n : Nat} {d : Nat → Nat → Int32} (R : Rel f n d) {w : Int32} (hw : w = 0 ∨ w = 1 ∨ w = 2 ∨ w = 3 ∨ w = 4 ∨ w = 5) : bcF (stS (d 0) (d 1) (d 2) (d 3) (d 4) (d 5) (d 6) (d 7) (d 8) w n) = mnS f w n := by
  rw [R.places hw n R.1.2.2, pl_bs n R.1.2.2, mn_cn n]
  exact bcF_n sfN_lt R.1.2.2
