theorem lx (x : Int64) : x = lN x.toBitVec.toNat := by
  apply Int64.toBitVec_inj.mp
  apply BitVec.eq_of_toNat_eq
  rw [l_tn x.toBitVec.isLt]
/-- the q-th character of a number -/
def bt (X q : Nat) : Nat := X / 2 ^ (8 * q) % 256
theorem bt_lt (X q : Nat) : bt X q < 256 := Nat.mod_lt _ (by decide)
theorem sh_k : ∀ q, q < 8 → (((nI (8 * q)).toInt64.toUInt64 &&& Int64.toUInt64 63).toBitVec % 64).toNat = 8 * q := by decide +kernel
theorem sh_q {X : Nat} (hX : X < 2 ^ 64) {q : Nat} (hq : q < 8) : ((lN X).toUInt64 >>> ((nI (8 * q)).toInt64.toUInt64 &&& Int64.toUInt64 63)).toInt64 = lN (X / 2 ^ (8 * q)) := l_ushrN hX _ _ (sh_k q hq)
theorem sh_8 {X : Nat} (hX : X < 2 ^ 64) : ((lN X).toUInt64 >>> ((8 : Int32).toInt64.toUInt64 &&& Int64.toUInt64 63)).toInt64 = lN (X / 2 ^ 8) := l_ushrN hX 8 8 (by decide)
theorem l_255 {X : Nat} (hX : X < 2 ^ 64) : lN X &&& 255 = lN (X % 256) := by
  rw [show (255 : Int64) = lN 255 from rfl, l_and hX (by decide)]
  exact congrArg lN (Nat.and_two_pow_sub_one_eq_mod X 8)
theorem div_lt64 {X : Nat} (hX : X < 2 ^ 64) (k : Nat) : X / k < 2 ^ 64 := Nat.lt_of_le_of_lt (Nat.div_le_self _ _) hX
theorem by_q {X : Nat} (hX : X < 2 ^ 64) {q : Nat} (hq : q < 8) : (((lN X).toUInt64 >>> ((nI (8 * q)).toInt64.toUInt64 &&& Int64.toUInt64 63)).toInt64 &&& 255).toInt32 = nI (bt X q) := by
  rw [sh_q hX hq, l_255 (div_lt64 hX _), lN_i]
  rfl
theorem in_by {b : Nat} (hb : b < 256) : (r_X5_in (nI b) 33 126 = 0 ∧ ¬ (33 ≤ b ∧ b ≤ 126)) ∨ (¬ r_X5_in (nI b) 33 126 = 0 ∧ 33 ≤ b ∧ b ≤ 126) := by
  unfold r_X5_in
  rcases Nat.lt_or_ge b 33 with c | c
  · left
    rw [if_pos (show nI b < 33 from nI_lt (b := 33) c (by decide))]
    exact ⟨rfl, by omega⟩
  · rw [if_neg (show ¬ nI b < 33 from nI_nlt (b := 33) c (by omega))]
    rcases Nat.lt_or_ge 126 b with z | z
    · left
      rw [if_pos (show 126 < nI b from nI_lt (a := 126) z (by omega))]
      exact ⟨rfl, by omega⟩
    · right
      rw [if_neg (show ¬ 126 < nI b from nI_nlt (a := 126) (by omega) (by omega))]
      exact ⟨by decide, c, z⟩
theorem lg_0 {Y : Nat} (hY : Y < 2 ^ 64) : lg_cmp (lN Y) 0 = 0 ↔ Y = 0 := by
  rw [lg_cmp_eq]
  constructor
  · intro e
    have e2 := congrArg (fun x : Int64 => x.toBitVec.toNat) e
    have e3 : (lN Y).toBitVec.toNat = 0 := e2
    rw [l_tn hY] at e3
    exact e3
  · intro e
    rw [e]
    rfl
theorem lg_33 {b : Nat} (hb : b < 256) : lg_cmp (lN b) 33 < 0 ↔ b < 33 := by
  rw [lg_cmp_lt, show (33 : Int64) = lN 33 from rfl]
  exact lN_lt (by omega) (by decide)
theorem lg_126 {b : Nat} (hb : b < 256) : lg_cmp (lN b) 126 ≤ 0 ↔ b ≤ 126 := by
  rw [lg_cmp_le, show (126 : Int64) = lN 126 from rfl]
  exact lN_le (by omega) (by decide)
theorem pt_bad {x : Int64} : ∀ (f m q : Nat), (ptI x f m 1 q).2.1 = 1
  | 0, _, _ => rfl
  | f + 1, m, q => by
    rw [ptI_s]
    simp only [n1_0, ↓reduceIte]
    repeat' split
    all_goals first | rfl | exact pt_bad f _ _
theorem n8 {q : Nat} (h : q < 8) : ¬ 8 ≤ (nI q) := nI_ge (b := 8) h (by decide)
theorem pt_zero {X : Nat} (hX : X < 2 ^ 64) : ∀ (f m q : Nat), q + f = 8 → 1 ≤ q → X / 2 ^ (8 * q) = 0 → (ptI (lN X) f m 0 q).1 = m ∧ (ptI (lN X) f m 0 q).2.1 = 0
  | 0, _, _, _, _, _ => ⟨rfl, rfl⟩
  | f + 1, m, q, hq, h1, hz => by
    rw [ptI_s, if_neg (n8 (by omega)), if_neg (nI_nle (by omega) (by omega)), sh_q hX (by omega), if_pos ((lg_0 (div_lt64 hX _)).mpr hz), if_pos nI_0]
    refine pt_zero hX f m (q + 1) (by omega) (by omega) ?_
    rw [show 8 * (q + 1) = 8 * q + 8 by omega, Nat.pow_add, ← Nat.div_div_eq_div_mul, hz, Nat.zero_div]
theorem nx8 (X q : Nat) : X / 2 ^ (8 * q) / 2 ^ 8 = X / 2 ^ (8 * (q + 1)) := by rw [show 8 * (q + 1) = 8 * q + 8 by omega, Nat.pow_add, Nat.div_div_eq_div_mul]
theorem pt_eq {X : Nat} (hX : X < 2 ^ 64) : ∀ (f q : Nat), q + f = 8 → 1 ≤ q →
    ((ptI (lN X) f q 0 q).2.1 = 1 ∧ lnI f (lN (X / 2 ^ (8 * q))) q q = 0) ∨
    (∃ m, q ≤ m ∧ m ≤ 8 ∧ (ptI (lN X) f q 0 q).1 = m ∧ (ptI (lN X) f q 0 q).2.1 = 0 ∧ lnI f (lN (X / 2 ^ (8 * q))) q q = m ∧ ∀ t, q ≤ t → t < m → 33 ≤ bt X t ∧ bt X t ≤ 126)
  | 0, q, hq, h1 => Or.inr ⟨q, Nat.le_refl _, by omega, rfl, rfl, rfl, fun t h2 h3 => by omega⟩
  | f + 1, q, hq, h1 => by
    have hY := div_lt64 hX (2 ^ (8 * q))
    rw [ptI_s, lnI_s, if_neg (n8 (by omega)), if_neg (n8 (by omega)), if_neg (nI_nle (by omega) (by omega)), by_q hX (by omega), sh_q hX (by omega), if_pos nI_0, if_pos nI_0]
    by_cases z : X / 2 ^ (8 * q) = 0
    · right
      rw [if_pos ((lg_0 hY).mpr z), if_pos ((lg_0 hY).mpr z)]
      have hz2 : X / 2 ^ (8 * (q + 1)) = 0 := by rw [← nx8, z, Nat.zero_div]
      obtain ⟨a, b⟩ := pt_zero hX f q (q + 1) (by omega) (by omega) hz2
      exact ⟨q, Nat.le_refl _, by omega, a, b, rfl, fun t h2 h3 => by omega⟩
    · rw [if_neg (fun e => z ((lg_0 hY).mp e)), if_neg (fun e => z ((lg_0 hY).mp e)), l_255 hY, sh_8 hY, nx8, show X / 2 ^ (8 * q) % 256 = bt X q from rfl]
      have hb := bt_lt X q
      rcases in_by hb with ⟨i1, i2⟩ | ⟨i1, i2, i3⟩
      · left
        rw [if_pos i1]
        refine ⟨pt_bad _ _ _, ?_⟩
        rcases Nat.lt_or_ge (bt X q) 33 with c | c
        · rw [if_pos ((lg_33 hb).mpr c)]
        · rw [if_neg (fun e => absurd ((lg_33 hb).mp e) (by omega)), if_neg (fun e => absurd ((lg_126 hb).mp e) (by omega))]
      · rw [if_neg i1, if_neg (fun e => absurd ((lg_33 hb).mp e) (by omega)), if_pos ((lg_126 hb).mpr i3)]
        rcases pt_eq hX f (q + 1) (by omega) (by omega) with k | ⟨m, m1, m2, m3, m4, m5, m6⟩
        · exact Or.inl k
        · refine Or.inr ⟨m, by omega, m2, m3, m4, m5, fun t h2 h3 => ?_⟩
          by_cases e : t = q
          · subst e; exact ⟨i2, i3⟩
          · exact m6 t (by omega) h3
theorem put_len {X : Nat} (hX : X < 2 ^ 64) : ((ptI (lN X) 8 0 0 0).2.1 = 1 ∧ lnF (lN X) = 0) ∨ (∃ m, 1 ≤ m ∧ m ≤ 8 ∧ (ptI (lN X) 8 0 0 0).1 = m ∧ (ptI (lN X) 8 0 0 0).2.1 = 0 ∧ lnF (lN X) = m ∧ ∀ t, t < m → 33 ≤ bt X t ∧ bt X t ≤ 126) := by
  unfold lnF
  have hb := bt_lt X 0
  have b0 : bt X 0 = X % 256 := by unfold bt; rw [Nat.mul_zero, Nat.pow_zero, Nat.div_one]
  rw [ptI_s, lnI_s, if_neg (n8 (by decide)), if_neg (n8 (by decide)), if_pos (show nI 0 ≤ 0 by decide), by_q hX (by decide), if_pos nI_0, l_255 hX, sh_8 hX, ← b0]
  by_cases z : X = 0
  · left
    subst z
    rw [if_pos ((lg_0 hX).mpr rfl), if_pos (by decide)]
    exact ⟨pt_bad _ _ _, rfl⟩
  · rw [if_neg (fun e => z ((lg_0 hX).mp e))]
    rcases in_by hb with ⟨i1, i2⟩ | ⟨i1, i2, i3⟩
    · left
      rw [if_pos i1]
      refine ⟨pt_bad _ _ _, ?_⟩
      rcases Nat.lt_or_ge (bt X 0) 33 with c | c
      · rw [if_pos ((lg_33 hb).mpr c)]
      · rw [if_neg (fun e => absurd ((lg_33 hb).mp e) (by omega)), if_neg (fun e => absurd ((lg_126 hb).mp e) (by omega))]
    · rw [if_neg i1, if_neg (fun e => absurd ((lg_33 hb).mp e) (by omega)), if_pos ((lg_126 hb).mpr i3)]
      rcases pt_eq hX 7 1 rfl (Nat.le_refl _) with k | ⟨m, m1, m2, m3, m4, m5, m6⟩
      · exact Or.inl k
      · refine Or.inr ⟨m, m1, m2, m3, m4, m5, fun t h3 => ?_⟩
        by_cases e : t = 0
        · subst e; exact ⟨i2, i3⟩
        · exact m6 t (by omega) h3
theorem nar_b {b : Nat} (hb : b < 256) : vp_nar .char (((nI b).toUInt32 % 65536).toInt32) = nI b := by
  rw [pk_vc, pk_char, pk_tn (by omega), Nat.mod_eq_of_lt (by omega)]
theorem ap_eq {X : Nat} (hX : X < 2 ^ 64) : ∀ (i f L : Nat) (vS : Nat → Int32), i < 8 → i + 1 ≤ f → L + i + 1 ≤ 80 →
    (apI (lN X) f (nI i) L vS).2.1 = L + i + 1 ∧ ∀ j, (apI (lN X) f (nI i) L vS).2.2 j = if L ≤ j ∧ j < L + i + 1 then nI (bt X (L + i - j)) else vS j := by
  intro i
  induction i with
  | zero =>
    intro f L vS hi hf hL
    obtain ⟨f, rfl⟩ : ∃ z, f = z + 1 := ⟨f - 1, by omega⟩
    rw [apI_s, if_neg (nI_pos (by decide)), if_neg (show ¬ 80 ≤ nI L from nI_ge (b := 80) (by omega) (by decide)), show (8 : Int32) = nI 8 from rfl, pk_mul, by_q hX (by decide), nar_b (bt_lt _ _)]
    have e : ∀ (z : Nat) (V : Nat → Int32), apI (lN X) z ((nI 0) + (-1)) (L + 1) V = ((nI 0) + (-1), L + 1, V) := fun z V => by
      cases z with
      | zero => rfl
      | succ z => rw [apI_s, if_pos (by decide)]
    rw [e]
    refine ⟨rfl, fun j => ?_⟩
    show upd vS L (nI (bt X 0)) j = _
    by_cases c : j = L
    · subst c
      rw [pk_us, if_pos (by omega), show j + 0 - j = 0 by omega]
    · rw [pk_un c, if_neg (by omega)]
  | succ i ih =>
    intro f L vS hi hf hL
    obtain ⟨f, rfl⟩ : ∃ z, f = z + 1 := ⟨f - 1, by omega⟩
    rw [apI_s, if_neg (nI_pos (by omega)), if_neg (show ¬ 80 ≤ nI L from nI_ge (b := 80) (by omega) (by decide)), show (8 : Int32) = nI 8 from rfl, pk_mul, by_q hX (by omega), nar_b (bt_lt _ _), pk_m1]
    obtain ⟨a, b⟩ := ih f (L + 1) (upd vS L (nI (bt X (i + 1)))) (by omega) (by omega) (by omega)
    refine ⟨by rw [a]; omega, fun j => ?_⟩
    rw [b j]
    by_cases c : j = L
    · subst c
      rw [if_neg (by omega), pk_us, if_pos (by omega), show j + (i + 1) - j = i + 1 by omega]
    · rw [pk_un c]
      by_cases d : L + 1 ≤ j ∧ j < L + 1 + i + 1
      · rw [if_pos d, if_pos (by omega), show L + 1 + i - j = L + (i + 1) - j by omega]
      · rw [if_neg d, if_neg (by omega)]
theorem pj_eq {X m ln : Nat} (hX : X < 2 ^ 64) (hm : (ptI (lN X) 8 0 0 0).1 = m) (hm8 : m ≤ 8) : ∀ (f q : Nat) (vS : Nat → Int32), q + f = 8 → q ≤ m →
    ∀ j, (ptJ ln (lN X) f q vS).2 j = if ln ≤ j ∧ j < ln + m - q then nI (bt X (ln + m - 1 - j)) else vS j
  | 0, q, vS, hq, hqm, j => by
    show vS j = _
    rw [if_neg (by omega)]
  | f + 1, q, vS, hq, hqm, j => by
    rw [ptJ_s, hm]
    by_cases c : m ≤ q
    · rw [if_pos (nI_le c (by omega)), if_neg (by omega)]
    · rw [if_neg (nI_ge (by omega) (by omega)), by_q hX (by omega), pj_eq hX hm hm8 f (q + 1) _ (by omega) (by omega) j]
      by_cases d : j = ln + m - 1 - q
      · subst d
        rw [if_neg (by omega), pk_us, if_pos (by omega), show ln + m - 1 - (ln + m - 1 - q) = q by omega]
      · rw [pk_un d]
        by_cases e : ln ≤ j ∧ j < ln + m - (q + 1)
        · rw [if_pos e, if_pos (by omega)]
        · rw [if_neg e, if_neg (by omega)]
/-- put: the answers, the lengths, the pads -/
theorem P_put {fP cS : Nat → Int32} {ln : Nat} (h : PadR fP cS ln) (x : Int64) : r_X2_append cS ln x = r_X5_put ln x ∧ n_X2_append_0_1 cS ln x = n_X5_put_0_7 ln x ∧ PadR (n_X5_put_1 fP ln x) (n_X2_append_1 cS ln x) (n_X5_put_0_7 ln x) := by
  have hln := h.1
  have hX : x.toBitVec.toNat < 2 ^ 64 := x.toBitVec.isLt
  rw [lx x]
  generalize x.toBitVec.toNat = X at hX
  unfold r_X2_append r_X5_put n_X2_append_0_1 n_X5_put_0_7 n_X5_put_1 n_X2_append_1
  rcases put_len hX with ⟨b1, b2⟩ | ⟨m, m1, m2, m3, m4, m5, m6⟩
  · simp only [b1, b2, if_pos nI_0, if_neg n1_0]
    exact ⟨trivial, trivial, h⟩
  · have z0 : ¬ nI m = 0 := nI_ne0 (by omega) (by omega)
    simp only [m4, m5, m3, if_neg z0, if_pos nI_0]
    rcases Nat.lt_or_ge 80 (ln + m) with c | c
    · have c1 : ¬ nI (ln + m) ≤ 80 := nI_ge (a := 80) c (by omega)
      simp only [if_neg c1]
      exact ⟨trivial, trivial, h⟩
    · have c1 : nI (ln + m) ≤ 80 := nI_le (b := 80) c (by decide)
      have e1 : (nI m) - 1 = nI (m - 1) := pk_sub (a := m) (b := 1) m1
      obtain ⟨a1, a2⟩ := ap_eq hX (m - 1) (80 - ln) ln cS (by omega) (by omega) (by omega)
      have p1 := pj_eq (ln := ln) hX m3 m2 8 0 fP rfl (Nat.zero_le _)
      simp only [if_pos c1, e1, a1]
      refine ⟨congrArg nI (by omega), by omega, c, fun j hj => ?_⟩
      rw [a2 j, p1 j]
      by_cases d : ln ≤ j
      · rw [if_pos (by omega), if_pos (by omega), show ln + (m - 1) - j = ln + m - 1 - j by omega]
        obtain ⟨g1, g2⟩ := m6 (ln + m - 1 - j) (by omega)
        exact ⟨rfl, _, g1, g2, rfl⟩
      · rw [if_neg (by omega), if_neg (by omega)]
        exact h.2 j (by omega)
