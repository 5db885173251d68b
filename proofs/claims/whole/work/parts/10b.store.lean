theorem lay_off {f : Nat → Int32} {sg at_ j : Nat} {d s : Int32} {i : Nat} (ha : at_ < 32) (h : i < 40 + 160 * sg ∨ 40 + 160 * sg + 160 ≤ i) : n_X5_lay_1 f sg at_ j d s i = f i := by
  unfold n_X5_lay_1
  rw [pk_un (by omega), pk_un (by omega), pk_un (by omega), pk_un (by omega), pk_un (by omega)]
theorem lay_Ls {f a r e s : Nat → Int32} {sg at_ j : Nat} {x d s' : Int32} (hL : ∀ q, q < 32 → Ls f a r e s sg q) (hx : f (8 + j) = x) (hx0 : ¬ x = 0) : ∀ q, q < 32 → Ls (n_X5_lay_1 f sg at_ j d s') (upd a at_ (nI j)) (upd r at_ x) (upd e at_ d) (upd s at_ s') sg q := by
  intro q hq
  by_cases c : q = at_
  · subst c
    left
    unfold n_X5_lay_1
    refine ⟨?_, ?_, ?_, ?_, ?_, ?_⟩
    · rw [pk_un (by omega), pk_un (by omega), pk_un (by omega), pk_un (by omega), pk_us]
    · rw [pk_us]; exact hx0
    · rw [pk_us, pk_un (by omega), pk_un (by omega), pk_un (by omega), pk_us]
    · rw [pk_us, pk_un (by omega), pk_un (by omega), pk_us, hx]
    · rw [pk_us, pk_un (by omega), pk_us]
    · rw [pk_us, pk_us]
  · refine Ls_cong (hL q hq) (fun i hi => ?_) (pk_un c) (pk_un c) (pk_un c) (pk_un c)
    unfold n_X5_lay_1
    rw [pk_un (by omega), pk_un (by omega), pk_un (by omega), pk_un (by omega), pk_un (by omega)]
theorem wrM_off {S : Nat → Int32} {sg j : Nat} {xd xs : Int32} {i : Nat} (hj : j < 32) (h : i < 40 + 160 * sg ∨ 40 + 160 * sg + 160 ≤ i) (h1 : ¬ i = 1 + sg) : wrM S sg j xd xs i = S i := by
  unfold wrM
  split
  · exact pk_un h1
  · split
    · exact pk_un h1
    · rw [lay_off hj h]; exact pk_un h1
theorem wrB_off {S : Nat → Int32} {sg j k : Nat} {xd xs : Int32} {i : Nat} (hj : j < 32) (hk : k < 32) (h : i < 40 + 160 * sg ∨ 40 + 160 * sg + 160 ≤ i) (h1 : ¬ i = 1 + sg) : wrB S sg j k xd xs i = S i := by
  have m := wrM_off (S := S) (xd := xd) (xs := xs) hj h h1
  unfold wrB
  split
  · rw [lay_off hk h]; exact m
  · split
    · rw [lay_off hk h]; exact m
    · exact m
theorem wrM_w {S : Nat → Int32} {sg j : Nat} {xd xs : Int32} (hj : j < 32) (hs : sg < 2) : wrM S sg j xd xs (1 + sg) = 0 := by
  unfold wrM
  split
  · exact pk_us
  · split
    · exact pk_us
    · rw [lay_off hj (by omega)]; exact pk_us
theorem wrB_w {S : Nat → Int32} {sg j k : Nat} {xd xs : Int32} (hj : j < 32) (hk : k < 32) (hs : sg < 2) : wrB S sg j k xd xs (1 + sg) = 0 := by
  have m := wrM_w (S := S) (xd := xd) (xs := xs) hj hs
  unfold wrB
  split
  · rw [lay_off hk (by omega)]; exact m
  · split
    · rw [lay_off hk (by omega)]; exact m
    · exact m
/-- a block arrives at a side: the same in the reference's row and in the four arrays -/
theorem rcv {S a r e s : Nat → Int32} {sg j k : Nat} {x xd : Int32} (hs : sg < 2) (hj : j < 32) (hL : ∀ q, q < 32 → Ls S a r e s sg q) (hx : S (8 + j) = x) (hx0 : ¬ x = 0) (hrot : (if 9999 ≤ xd then (0 : Int32) else (xd + 1)) = ((xd + 1) - (xd + 1) / 10000 * 10000)) : ∀ q, q < 32 → Ls (wrB S sg j k xd (sumF (nI j) x xd)) (n_X3_receive_1 a (S (1 + sg)) j k) (n_X3_receive_2 r (S (1 + sg)) j k x) (n_X3_receive_3 e (S (1 + sg)) j k xd) (n_X3_receive_4 s (S (1 + sg)) j k x xd) sg q := by
  have L1 : ∀ q, q < 32 → Ls (upd S (1 + sg) 0) a r e s sg q := fun q hq => Ls_cong (hL q hq) (fun i hi => pk_un (by omega)) rfl rfl rfl rfl
  have x1 : (upd S (1 + sg) 0) (8 + j) = x := (pk_un (by omega)).trans hx
  unfold wrB wrM n_X3_receive_1 n_X3_receive_2 n_X3_receive_3 n_X3_receive_4
  by_cases c1 : S (1 + sg) = 1
  · have n2 : ¬ S (1 + sg) = 2 := by rw [c1]; decide
    have n3 : ¬ S (1 + sg) = 3 := by rw [c1]; decide
    simp only [if_pos c1, if_neg n2, if_neg n3]
    exact L1
  · by_cases c2 : S (1 + sg) = 2
    · simp only [if_neg c1, if_pos c2]
      exact lay_Ls L1 x1 hx0
    · by_cases c3 : S (1 + sg) = 3
      · have n4 : ¬ S (1 + sg) = 4 := by rw [c3]; decide
        simp only [if_neg c1, if_neg c2, if_pos c3, if_neg n4]
        exact lay_Ls (lay_Ls L1 x1 hx0) ((lay_off hj (by omega)).trans x1) hx0
      · by_cases c4 : S (1 + sg) = 4
        · simp only [if_neg c1, if_neg c2, if_neg c3, if_pos c4]
          rw [hrot]
          exact lay_Ls L1 x1 hx0
        · simp only [if_neg c1, if_neg c2, if_neg c3, if_neg c4]
          exact lay_Ls L1 x1 hx0
theorem rot_eq {xd : Int32} (h0 : ¬ xd < 0) (h1 : xd ≤ 9999) : (if 9999 ≤ xd then (0 : Int32) else (xd + 1)) = ((xd + 1) - (xd + 1) / 10000 * 10000) := by
  obtain ⟨k, hk, rfl⟩ := nI_of h0
  have k1 : k ≤ 9999 := (nI_leI (a := k) (b := 9999) (by omega) (by omega)).mp h1
  have e1 : (nI k) + 1 = nI (k + 1) := nI_add k 1
  rw [e1]
  have e2 : (nI (k + 1)) - (nI (k + 1)) / 10000 * 10000 = nI ((k + 1) % 10000) := pk_rem (a := k + 1) (d := 10000) (by omega) (by omega) (by omega)
  rw [e2]
  by_cases c : 9999 ≤ (nI k)
  · have : 9999 ≤ k := (nI_leI (a := 9999) (b := k) (by omega) (by omega)).mp c
    rw [if_pos c, show k = 9999 by omega]
    rfl
  · have : ¬ 9999 ≤ k := fun z => c (nI_le (a := 9999) z (by omega))
    rw [if_neg c, Nat.mod_eq_of_lt (by omega)]
theorem wf_ok {f : Nat → Int32} {j : Nat} {xd : Int32} (hr : 0 ≤ f (8 + j) ∧ f (8 + j) ≤ 999) (h : r_X5_writeFault_in f j xd = 0) : ¬ xd < 0 ∧ xd ≤ 9999 ∧ (f (8 + j)) + 1 ≤ 999 ∧ ¬ (f (8 + j)) + 1 = 0 ∧ 0 ≤ (f (8 + j)) + 1 := by
  unfold r_X5_writeFault_in at h
  by_cases c : r_X5_in xd 0 9999 = 0
  · rw [if_pos c] at h
    exact absurd h (by decide)
  · rw [if_neg c] at h
    by_cases c2 : f (8 + j) = 999
    · rw [if_pos c2] at h
      exact absurd h (by decide)
    · have hn : ¬ f (8 + j) < 0 := fun z => Int32.lt_irrefl (Int32.lt_of_lt_of_le z hr.1)
      obtain ⟨k, hk, e⟩ := nI_of hn
      have k1 : k ≤ 999 := (nI_leI (a := k) (b := 999) (by omega) (by omega)).mp (by rw [← e]; exact hr.2)
      have k2 : ¬ k = 999 := fun z => c2 (by rw [e, z]; rfl)
      have e1 : (f (8 + j)) + 1 = nI (k + 1) := by rw [e]; exact nI_add k 1
      have a := c
      unfold r_X5_in at a
      have b1 : ¬ xd < 0 := fun z => a (if_pos z)
      rw [if_neg b1] at a
      have b2 : ¬ 9999 < xd := fun z => a (if_pos z)
      refine ⟨b1, Int32.not_lt.mp b2, ?_, ?_, ?_⟩
      · rw [e1]; exact nI_le (b := 999) (by omega) (by omega)
      · rw [e1]; intro z
        have := (nI_eq (a := k + 1) (b := 0) (by omega) (by omega)).mp z
        omega
      · rw [e1]; exact nI_le (a := 0) (by omega) (by omega)
theorem Rel.store {f : Nat → Int32} {n : Nat} {d : Nat → Nat → Int32} (R : Rel f n d) {j : Nat} {xd : Int32} (hj : j < n) (hF : r_X5_writeFault_in f j xd = 0) : Rel (wrF f j (nxP j n) xd) n (D_X0_store_in n d j xd) ∧ r_X0_store_in (d 0) j xd = wrF f j (nxP j n) xd (8 + j) := by
  obtain ⟨⟨a1, a2, a3⟩, b, c, r, l0, l1, w⟩ := R
  have hj32 : j < 32 := by omega
  have hk : nxP j n < 32 := by have := nxP_ltn hj; omega
  obtain ⟨o1, o2, o3, o4, o5⟩ := wf_ok (r j hj32) hF
  have cj := c j hj32
  have o3' : (d 0 j) + 1 ≤ 999 := by rw [cj]; exact o3
  generalize hkk : nxP j n = k at hk
  -- the row on its way
  generalize hS : upd (upd f (8 + j) ((f (8 + j)) + 1)) 3 ((f 3) + 1) = S
  have sl : ∀ i, ¬ i = 3 → ¬ i = 8 + j → S i = f i := fun i h1 h2 => by rw [← hS, pk_un h1, pk_un h2]
  have s3 : S 3 = f 3 + 1 := by rw [← hS, pk_us]
  have s8 : S (8 + j) = f (8 + j) + 1 := by rw [← hS, pk_un (by omega), pk_us]
  have L0 : ∀ q, q < 32 → Ls S (d 1) (d 2) (d 3) (d 4) 0 q := fun q hq => Ls_cong (l0 q hq) (fun i hi => sl _ (by omega) (by omega)) rfl rfl rfl rfl
  have L1 : ∀ q, q < 32 → Ls S (d 5) (d 6) (d 7) (d 8) 1 q := fun q hq => Ls_cong (l1 q hq) (fun i hi => sl _ (by omega) (by omega)) rfl rfl rfl rfl
  have hrot := rot_eq o1 o2
  generalize hF1 : wrB S 0 j k xd (sumF (nI j) ((f (8 + j)) + 1) xd) = F1
  have f1o : ∀ i, (i < 40 + 160 * 0 ∨ 40 + 160 * 0 + 160 ≤ i) → ¬ i = 1 → F1 i = S i := fun i h1 h2 => by rw [← hF1]; exact wrB_off hj32 hk h1 (by omega)
  have f1w : F1 1 = 0 := by rw [← hF1]; exact wrB_w (sg := 0) hj32 hk (by decide)
  have M0 := rcv (sg := 0) (k := k) (by decide) hj32 L0 s8 o4 hrot
  rw [hF1] at M0
  have M1 : ∀ q, q < 32 → Ls F1 (d 5) (d 6) (d 7) (d 8) 1 q := fun q hq => Ls_cong (L1 q hq) (fun i hi => f1o _ (by omega) (by omega)) rfl rfl rfl rfl
  generalize hF2 : wrB F1 1 j k xd (sumF (nI j) ((f (8 + j)) + 1) xd) = F2
  have f2o : ∀ i, (i < 40 + 160 * 1 ∨ 40 + 160 * 1 + 160 ≤ i) → ¬ i = 2 → F2 i = F1 i := fun i h1 h2 => by rw [← hF2]; exact wrB_off hj32 hk h1 (by omega)
  have f2w : F2 2 = 0 := by rw [← hF2]; exact wrB_w (sg := 1) hj32 hk (by decide)
  have N1 := rcv (sg := 1) (k := k) (by decide) hj32 M1 ((f1o _ (by omega) (by omega)).trans s8) o4 hrot
  rw [hF2] at N1
  have N0 : ∀ q, q < 32 → Ls F2 (n_X3_receive_1 (d 1) (S (1 + 0)) j k) (n_X3_receive_2 (d 2) (S (1 + 0)) j k ((f (8 + j)) + 1)) (n_X3_receive_3 (d 3) (S (1 + 0)) j k xd) (n_X3_receive_4 (d 4) (S (1 + 0)) j k ((f (8 + j)) + 1) xd) 0 q := fun q hq => Ls_cong (M0 q hq) (fun i hi => f2o _ (by omega) (by omega)) rfl rfl rfl rfl
  have hW : wrF f j k xd = F2 := by
    rw [← hF2, ← hF1, ← hS]
    rfl
  rw [hW]
  have w0 : d 9 1 = S (1 + 0) := (b 1 (by decide) (by decide)).trans (sl 1 (by decide) (by omega)).symm
  have w1 : d 9 2 = F1 (1 + 1) := (b 2 (by decide) (by decide)).trans ((sl 2 (by decide) (by omega)).symm.trans (f1o 2 (by omega) (by decide)).symm)
  have low : ∀ i, i < 40 → ¬ i = 1 → ¬ i = 2 → F2 i = S i := fun i h0 h1 h2 => (f2o i (by omega) h2).trans (f1o i (by omega) h1)
  refine ⟨⟨⟨?_, a2, a3⟩, ?_, ?_, ?_, ?_, ?_, ?_⟩, ?_⟩
  · rw [low 0 (by decide) (by decide) (by decide), sl 0 (by decide) (by omega)]; exact a1
  · intro q h1 h2
    rcases (show q = 1 ∨ q = 2 ∨ q = 3 ∨ q = 4 ∨ q = 5 ∨ q = 6 ∨ q = 7 by omega) with rfl | rfl | rfl | rfl | rfl | rfl | rfl
    · show n_X0_store_in_2_4 (d 0) (d 9 1) j xd = F2 1
      unfold n_X0_store_in_2_4
      rw [if_neg o1, if_pos o2, if_pos o3', f2o 1 (by omega) (by decide), f1w]
    · show n_X0_store_in_3_4 (d 0) (d 9 2) j xd = F2 2
      unfold n_X0_store_in_3_4
      rw [if_neg o1, if_pos o2, if_pos o3', f2w]
    · show n_X0_store_in_0_4 (d 0) (d 9 3) j xd = F2 3
      unfold n_X0_store_in_0_4
      rw [if_neg o1, if_pos o2, if_pos o3', low 3 (by decide) (by decide) (by decide), s3, b 3 (by decide) (by decide)]
    · show d 9 4 = F2 4
      rw [low 4 (by decide) (by decide) (by decide), sl 4 (by decide) (by omega)]; exact b 4 (by decide) (by decide)
    · show d 9 5 = F2 5
      rw [low 5 (by decide) (by decide) (by decide), sl 5 (by decide) (by omega)]; exact b 5 (by decide) (by decide)
    · show d 9 6 = F2 6
      rw [low 6 (by decide) (by decide) (by decide), sl 6 (by decide) (by omega)]; exact b 6 (by decide) (by decide)
    · show d 9 7 = F2 7
      rw [low 7 (by decide) (by decide) (by decide), sl 7 (by decide) (by omega)]; exact b 7 (by decide) (by decide)
  · intro q hq
    show n_X0_store_in_1 (d 0) j xd q = F2 (8 + q)
    unfold n_X0_store_in_1
    rw [if_neg o1, if_pos o2, if_pos o3', low (8 + q) (by omega) (by omega) (by omega)]
    by_cases e : q = j
    · subst e
      rw [pk_us, s8, cj]
    · rw [pk_un e, sl _ (by omega) (by omega)]; exact c q hq
  · intro q hq
    rw [low (8 + q) (by omega) (by omega) (by omega)]
    by_cases e : q = j
    · subst e
      rw [s8]; exact ⟨o5, o3⟩
    · rw [sl _ (by omega) (by omega)]; exact r q hq
  · intro q hq
    show Ls F2 (n_X0_store_in_4 n (d 0) (d 1) (d 9 1) j xd) (n_X0_store_in_5 n (d 0) (d 2) (d 9 1) j xd) (n_X0_store_in_6 n (d 0) (d 3) (d 9 1) j xd) (n_X0_store_in_7 n (d 0) (d 4) (d 9 1) j xd) 0 q
    unfold n_X0_store_in_4 n_X0_store_in_5 n_X0_store_in_6 n_X0_store_in_7
    simp only [if_neg o1, if_pos o2, if_pos o3']
    rw [hkk, w0, cj]
    exact N0 q hq
  · intro q hq
    show Ls F2 (n_X0_store_in_8 n (d 0) (d 5) (d 9 2) j xd) (n_X0_store_in_9 n (d 0) (d 6) (d 9 2) j xd) (n_X0_store_in_10 n (d 0) (d 7) (d 9 2) j xd) (n_X0_store_in_11 n (d 0) (d 8) (d 9 2) j xd) 1 q
    unfold n_X0_store_in_8 n_X0_store_in_9 n_X0_store_in_10 n_X0_store_in_11
    simp only [if_neg o1, if_pos o2, if_pos o3']
    rw [hkk, w1, cj]
    exact N1 q hq
  · rw [f2o 1 (by omega) (by decide), f1w, f2w]; decide
  · unfold r_X0_store_in
    rw [if_neg o1, if_pos o2, if_pos o3', low (8 + j) (by omega) (by omega) (by omega), s8, cj]
