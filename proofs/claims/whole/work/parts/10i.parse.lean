/-- the two pads hold the same signs -/
def PadR (fP cS : Nat → Int32) (ln : Nat) : Prop := ln ≤ 80 ∧ ∀ i, i < ln → cS i = fP i ∧ ∃ c, 33 ≤ c ∧ c ≤ 126 ∧ fP i = nI c
theorem sg_eqs {fP cS : Nat → Int32} {ln : Nat} (h : PadR fP cS ln) (p : Nat) (hp : p ≤ 80) : r_X2_signAt cS ln p = r_X5_sign fP ln p ∧ ∃ c, c < 127 ∧ r_X5_sign fP ln p = nI c ∧ (ln ≤ p → c = 0) ∧ (p < ln → fP p = nI c) := by
  have hl := h.1
  unfold r_X2_signAt r_X5_sign
  rcases Nat.lt_or_ge p ln with c | c
  · have c1 : ¬ (nI ln) ≤ (nI p) := nI_ge c (by omega)
    obtain ⟨e, k, k1, k2, e2⟩ := h.2 p c
    rw [if_neg c1, if_neg c1]
    exact ⟨e, k, by omega, e2, fun q => absurd q (by omega), fun _ => e2⟩
  · have c1 : (nI ln) ≤ (nI p) := nI_le c (by omega)
    rw [if_pos c1, if_pos c1]
    exact ⟨rfl, 0, by decide, nI_0.symm, fun _ => rfl, fun q => absurd q (by omega)⟩
theorem i48 {c : Nat} (h : c < 127) : (nI c) - 48 < 0 ↔ c < 48 := by
  have e : ((nI c) - 48 < 0) ↔ c < 48 := by
    rcases Nat.lt_or_ge c 48 with k | k
    · exact ⟨fun _ => k, fun _ => pk_sneg (a := c) (b := 48) (by decide) k⟩
    · have e1 : (nI c) - 48 = nI (c - 48) := pk_sub (a := c) (b := 48) k
      rw [e1]
      exact ⟨fun q => absurd q (nI_pos (by omega)), fun q => absurd q (by omega)⟩
  exact e
theorem s48 {c : Nat} (h : 48 ≤ c) : (nI c) - 48 = nI (c - 48) := pk_sub (a := c) (b := 48) h
/-- a digit, read by both -/
theorem dig_eq {fP cS : Nat → Int32} {ln p m : Nat} {xm xh : Int32} (h : PadR fP cS ln) (hp : p ≤ 80) (hm : m ≤ 9) (hxm : xm = nI m) (hxh : xh = nI (48 + m)) :
    (∃ k, k ≤ m ∧ r_X2_scanDigit cS ln p xm = nI k ∧ n_X2_scanDigit_0_2 cS ln p xm = p + 1 ∧ n_X5_sign_0_8 fP ln p 0 48 xh = p + 1 ∧ n_X5_sign_0_9 fP ln p 0 48 xh = 0 ∧ (r_X5_sign fP ln p) - 48 = nI k ∧ p < ln) ∨
    (r_X2_scanDigit cS ln p xm = -1 ∧ n_X2_scanDigit_0_2 cS ln p xm = p ∧ n_X5_sign_0_8 fP ln p 0 48 xh = p ∧ n_X5_sign_0_9 fP ln p 0 48 xh = 1) := by
  obtain ⟨e, c, hc, ec, c0, -⟩ := sg_eqs h p hp
  have e2 : (if (nI ln) ≤ (nI p) then (0 : Int32) else (fP p)) = nI c := ec
  unfold r_X2_scanDigit n_X2_scanDigit_0_2 n_X5_sign_0_8 n_X5_sign_0_9
  rw [e, e2, ec, if_pos nI_0, if_pos nI_0]
  unfold r_X5_in
  subst hxm
  subst hxh
  rcases Nat.lt_or_ge c 48 with k | k
  · have a1 := (i48 hc).mpr k
    have a2 : (nI c) < 48 := nI_lt (b := 48) k (by decide)
    right
    rw [if_pos a1, if_pos a1, if_pos a2, if_pos rfl, if_pos rfl]
    exact ⟨rfl, rfl, rfl, rfl⟩
  · have a1 : ¬ (nI c) - 48 < 0 := fun q => absurd ((i48 hc).mp q) (by omega)
    have a2 : ¬ (nI c) < 48 := nI_nlt (b := 48) k (by omega)
    rw [if_neg a1, if_neg a1, if_neg a2, s48 k]
    rcases Nat.lt_or_ge (48 + m) c with z | z
    · right
      have b1 : ¬ nI (c - 48) ≤ nI m := nI_ge (by omega) (by omega)
      have b2 : nI (48 + m) < nI c := nI_lt z (by omega)
      rw [if_neg b1, if_neg b1, if_pos b2, if_pos rfl, if_pos rfl]
      exact ⟨rfl, rfl, rfl, rfl⟩
    · left
      have b1 : nI (c - 48) ≤ nI m := nI_le (by omega) (by omega)
      have b2 : ¬ nI (48 + m) < nI c := nI_nlt z (by omega)
      rw [if_pos b1, if_pos b1, if_neg b2, if_neg i10, if_neg i10]
      exact ⟨c - 48, by omega, rfl, rfl, rfl, rfl, rfl, by
        rcases Nat.lt_or_ge p ln with y | y
        · exact y
        · have := c0 y; omega⟩
theorem sig_eq {fP cS : Nat → Int32} {ln p x : Nat} {xc : Int32} (h : PadR fP cS ln) (hp : p ≤ 80) (hx0 : 0 < x) (hx : x < 127) (hxc : xc = nI x) :
    (r_X2_scanSign cS ln p xc = 1 ∧ n_X2_scanSign_0_2 cS ln p xc = p + 1 ∧ n_X5_sign_0_8 fP ln p 0 xc xc = p + 1 ∧ n_X5_sign_0_9 fP ln p 0 xc xc = 0 ∧ p < ln) ∨
    (r_X2_scanSign cS ln p xc = 0 ∧ n_X2_scanSign_0_2 cS ln p xc = p ∧ n_X5_sign_0_8 fP ln p 0 xc xc = p ∧ n_X5_sign_0_9 fP ln p 0 xc xc = 1) := by
  obtain ⟨e, c, hc, ec, c0, -⟩ := sg_eqs h p hp
  have e2 : (if (nI ln) ≤ (nI p) then (0 : Int32) else (fP p)) = nI c := ec
  unfold r_X2_scanSign n_X2_scanSign_0_2 n_X5_sign_0_8 n_X5_sign_0_9
  rw [e, e2, ec, if_pos nI_0, if_pos nI_0]
  unfold r_X5_in
  subst hxc
  by_cases k : c = x
  · subst k
    left
    have kk : (if nI c < nI c then (0 : Int32) else (if nI c < nI c then 0 else 1)) = 1 := by
      rw [if_neg (show ¬ nI c < nI c from Int32.lt_irrefl), if_neg (show ¬ nI c < nI c from Int32.lt_irrefl)]
    rw [if_pos rfl, if_pos rfl, kk, if_neg i10, if_neg i10]
    exact ⟨rfl, rfl, rfl, rfl, by
      rcases Nat.lt_or_ge p ln with y | y
      · exact y
      · have := c0 y; omega⟩
  · right
    have k2 : ¬ nI c = nI x := fun q => k ((nI_eq (by omega) (by omega)).mp q)
    have k3 : (if nI c < nI x then (0 : Int32) else if nI x < nI c then 0 else 1) = 0 := by
      rcases Nat.lt_or_ge c x with z | z
      · rw [if_pos (nI_lt z (by omega))]
      · rw [if_neg (nI_nlt z (by omega)), if_pos (nI_lt (by omega) (by omega))]
    rw [if_neg k2, if_neg k2, k3, if_pos rfl, if_pos rfl]
    exact ⟨rfl, rfl, rfl, rfl⟩
theorem n1_0 : ¬ (nI 1) = 0 := by decide
/-- in a wrong text the reference's reading stands still -/
theorem sg_w {fP : Nat → Int32} {ln p : Nat} {xl xh : Int32} : n_X5_sign_0_8 fP ln p 1 xl xh = p ∧ n_X5_sign_0_9 fP ln p 1 xl xh = 1 := by
  unfold n_X5_sign_0_8 n_X5_sign_0_9
  rw [if_neg n1_0, if_neg n1_0]
  exact ⟨rfl, rfl⟩
theorem nm_w {fP : Nat → Int32} {ln q p : Nat} {v : Int32} : ∀ f, (nmI fP ln f v q p 1).2.2.1 = p ∧ (nmI fP ln f v q p 1).2.2.2 = 1
  | 0 => ⟨rfl, rfl⟩
  | f + 1 => by
    rw [nmI_s, if_neg n1_0]
    split
    · exact ⟨rfl, rfl⟩
    · split <;> exact ⟨rfl, rfl⟩
theorem num_w {fP : Nat → Int32} {ln p : Nat} : n_X5_number_0_8 fP ln p 1 = p ∧ n_X5_number_0_9 fP ln p 1 = 1 := by
  obtain ⟨a, b⟩ := sg_w (fP := fP) (ln := ln) (p := p) (xl := 48) (xh := 57)
  unfold n_X5_number_0_8 n_X5_number_0_9
  rw [a, b]
  exact nm_w 3
theorem nmnu {fP cS : Nat → Int32} {ln : Nat} (h : PadR fP cS ln) : ∀ (f P v q p : Nat), q + f = 4 → P * 10 ^ f = 1000 → (v = 0 ∨ P ≤ v) → v < 10 * P → p ≤ ln →
    ∃ v' p', v' ≤ 9999 ∧ nuI cS ln (f + 1) (nI v) p = (nI v', p') ∧ (nmI fP ln f (nI v) q p 0).1 = nI v' ∧ (nmI fP ln f (nI v) q p 0).2.2.1 = p' ∧ (nmI fP ln f (nI v) q p 0).2.2.2 = 0 ∧ p ≤ p' ∧ p' ≤ ln := by
  have hln := h.1
  intro f
  induction f with
  | zero =>
    intro P v q p hq hP hv hv2 hp
    have hP1 : P = 1000 := by simpa using hP
    subst hP1
    refine ⟨v, p, by omega, ?_, rfl, rfl, rfl, Nat.le_refl _, hp⟩
    obtain ⟨e, c, hc, ec, -⟩ := sg_eqs h p (by omega)
    rw [nuI_s, e, ec]
    by_cases k : v = 0
    · subst k
      rw [nI_0, if_pos (Int32.le_refl _)]
    · rw [if_neg (nI_nle (by omega) (by omega))]
      rcases Nat.lt_or_ge c 48 with z | z
      · rw [if_pos ((i48 hc).mpr z)]
      · rw [if_neg (fun q => absurd ((i48 hc).mp q) (by omega)), s48 z]
        rcases Nat.lt_or_ge 57 c with y | y
        · rw [if_pos (show (9 : Int32) < nI (c - 48) from nI_lt (a := 9) (by omega) (by omega))]
        · rw [if_neg (show ¬ (9 : Int32) < nI (c - 48) from nI_nlt (a := 9) (by omega) (by omega))]
          have e3 : (10 * (nI v)) + nI (c - 48) = nI (10 * v + (c - 48)) := by
            rw [show (10 : Int32) = nI 10 from rfl, pk_mul, nI_add]
          rw [e3, if_neg (show ¬ nI (10 * v + (c - 48)) ≤ 9999 from nI_ge (a := 9999) (by omega) (by omega))]
  | succ f ih =>
    intro P v q p hq hP hv hv2 hp
    have hP10 : 10 * P * 10 ^ f = 1000 := by rw [← hP, Nat.pow_succ]; simp only [Nat.mul_comm, Nat.mul_left_comm, Nat.mul_assoc]
    have hPle : 10 * P ≤ 1000 := by rw [← hP10]; exact Nat.le_mul_of_pos_right _ (Nat.pow_pos (by decide))
    obtain ⟨e, c, hc, ec, c0, c1⟩ := sg_eqs h p (by omega)
    rw [nuI_s, nmI_s, e, ec, if_neg (show ¬ 4 ≤ nI q from nI_ge (a := q) (b := 4) (by omega) (by decide)), if_pos nI_0]
    by_cases k : v = 0
    · subst k
      rw [nI_0, if_pos (Int32.le_refl _), if_pos (Int32.le_refl _)]
      exact ⟨0, p, by omega, by rw [nI_0], nI_0.symm, rfl, rfl, Nat.le_refl _, hp⟩
    · rw [if_neg (nI_nle (by omega) (by omega)), if_neg (nI_nle (by omega) (by omega))]
      rcases Nat.lt_or_ge p ln with y | y
      · have ef := c1 y
        rw [if_neg (nI_ge (a := p) (b := ln) y (by omega)), ef]
        have sgE : n_X5_sign_0_8 fP ln p 0 48 57 = (if r_X5_in (nI c) 48 57 = 0 then p else p + 1) ∧ n_X5_sign_0_9 fP ln p 0 48 57 = (if r_X5_in (nI c) 48 57 = 0 then 1 else 0) := by
          unfold n_X5_sign_0_8 n_X5_sign_0_9
          rw [if_pos nI_0, if_pos nI_0, if_neg (nI_ge (a := p) (b := ln) y (by omega)), ef]
          exact ⟨rfl, rfl⟩
        rcases Nat.lt_or_ge c 48 with z | z
        · have a2 : r_X5_in (nI c) 48 57 = 0 := by unfold r_X5_in; rw [if_pos (show nI c < 48 from nI_lt (b := 48) z (by decide))]
          rw [if_pos ((i48 hc).mpr z), if_pos a2]
          exact ⟨v, p, by omega, rfl, rfl, rfl, rfl, Nat.le_refl _, hp⟩
        · have a1 : ¬ (nI c) < 48 := nI_nlt (b := 48) z (by omega)
          rw [if_neg (fun q => absurd ((i48 hc).mp q) (by omega)), s48 z]
          rcases Nat.lt_or_ge 57 c with x | x
          · have a2 : r_X5_in (nI c) 48 57 = 0 := by unfold r_X5_in; rw [if_neg a1, if_pos (show (57 : Int32) < nI c from nI_lt (a := 57) x (by omega))]
            rw [if_pos (show (9 : Int32) < nI (c - 48) from nI_lt (a := 9) (by omega) (by omega)), if_pos a2]
            exact ⟨v, p, by omega, rfl, rfl, rfl, rfl, Nat.le_refl _, hp⟩
          · have a2 : ¬ r_X5_in (nI c) 48 57 = 0 := by unfold r_X5_in; rw [if_neg a1, if_neg (show ¬ (57 : Int32) < nI c from nI_nlt (a := 57) (by omega) (by omega))]; decide
            rw [if_neg (show ¬ (9 : Int32) < nI (c - 48) from nI_nlt (a := 9) (by omega) (by omega)), if_neg a2, sgE.1, sgE.2, if_neg a2, if_neg a2]
            have e3 : (10 * (nI v)) + nI (c - 48) = nI (10 * v + (c - 48)) := by
              rw [show (10 : Int32) = nI 10 from rfl, pk_mul, nI_add]
            have e4 : ((10 * (nI v)) + nI c) - 48 = nI (10 * v + (c - 48)) := by
              rw [show (10 : Int32) = nI 10 from rfl, pk_mul, nI_add, show (48 : Int32) = nI 48 from rfl, pk_sub (by omega)]
              exact congrArg nI (by omega)
            rw [e3, e4, if_pos (show nI (10 * v + (c - 48)) ≤ 9999 from nI_le (b := 9999) (by omega) (by decide))]
            obtain ⟨v', p', h1, h2, h3, h4, h5, h6, h7⟩ := ih (10 * P) (10 * v + (c - 48)) (q + 1) (p + 1) (by omega) hP10 (by omega) (by omega) (by omega)
            exact ⟨v', p', h1, h2, h3, h4, h5, by omega, h7⟩
      · have hcz := c0 y
        subst hcz
        rw [if_pos (nI_le (a := ln) (b := p) y (by omega)), if_pos ((i48 (c := 0) (by decide)).mpr (by decide))]
        exact ⟨v, p, by omega, rfl, rfl, rfl, rfl, Nat.le_refl _, hp⟩
/-- a number, read by both -/
theorem num_eq {fP cS : Nat → Int32} {ln p : Nat} (h : PadR fP cS ln) (hp : p ≤ 80) :
    (∃ v p', v ≤ 9999 ∧ nuR cS ln p = (nI v, p') ∧ r_X5_number fP ln p 0 = nI v ∧ n_X5_number_0_8 fP ln p 0 = p' ∧ n_X5_number_0_9 fP ln p 0 = 0 ∧ p + 1 ≤ p' ∧ p' ≤ ln) ∨
    (nuR cS ln p = (-1, p) ∧ n_X5_number_0_8 fP ln p 0 = p ∧ n_X5_number_0_9 fP ln p 0 = 1) := by
  have hln := h.1
  unfold nuR r_X5_number n_X5_number_0_8 n_X5_number_0_9
  rcases dig_eq h hp (m := 9) (xm := 9) (xh := 57) (by decide) rfl rfl with ⟨k, hk, e1, e2, e3, e4, e5, hpl⟩ | ⟨e1, e2, e3, e4⟩
  · left
    rw [e1, e2, e3, e4, e5]
    obtain ⟨v', p', h1, h2, h3, h4, h5, h6, h7⟩ := nmnu h 3 1 k 1 (p + 1) rfl rfl (by omega) (by omega) (by omega)
    exact ⟨v', p', h1, h2, h3, h4, h5, by omega, h7⟩
  · right
    rw [e1, e2, e3, e4]
    refine ⟨?_, (nm_w 3).1, (nm_w 3).2⟩
    rw [nuI_s, if_pos (by decide)]
