theorem take_eq {f a r e s : Nat → Int32} {sg j : Nat} (h : Ls f a r e s sg j) : r_X3_take r j = f (40 + 160 * sg + 5 * j + 0) := by
  unfold r_X3_take r_X3_lies
  rcases h with ⟨h1, h2, -⟩ | ⟨h1, h2⟩
  · rw [if_neg h2, if_neg i10, h1]
  · rw [if_pos h2, if_pos rfl, h1]
theorem wipe_Ls {f a r e s : Nat → Int32} {sg j : Nat} (hL : ∀ q, q < 32 → Ls f a r e s sg q) : ∀ q, q < 32 → Ls (upd f (40 + 160 * sg + 5 * j + 0) 0) a (n_X3_take_2 r j) e s sg q := by
  intro q hq
  unfold n_X3_take_2
  by_cases c : q = j
  · subst c
    right
    refine ⟨pk_us, ?_⟩
    by_cases z : r_X3_lies r q = 0
    · rw [if_pos z]
      unfold r_X3_lies at z
      by_cases y : r q = 0
      · exact y
      · rw [if_neg y] at z
        exact absurd z (by decide)
    · rw [if_neg z]
      exact pk_us
  · refine Ls_cong (hL q hq) (fun i hi => pk_un (by omega)) rfl ?_ rfl rfl
    split
    · rfl
    · exact pk_un c
theorem Rel.wipe0 {f : Nat → Int32} {n : Nat} {d : Nat → Nat → Int32} (R : Rel f n d) {j : Nat} (hj : j < 32) : Rel (upd f (40 + 160 * 0 + 5 * j + 0) 0) n (D_X0_empty_0 n d j) := by
  obtain ⟨⟨a1, a2, a3⟩, b, c, r, l0, l1, w⟩ := R
  refine ⟨⟨(pk_un (by omega)).trans a1, a2, a3⟩, seven ?_ ?_ ?_ ?_ ?_ ?_ ?_, fun q hq => ?_, fun q hq => ?_, wipe_Ls l0, fun q hq => ?_, ?_⟩
  · exact (b 1 (by decide) (by decide)).trans (pk_un (by omega)).symm
  · exact (b 2 (by decide) (by decide)).trans (pk_un (by omega)).symm
  · exact (b 3 (by decide) (by decide)).trans (pk_un (by omega)).symm
  · exact (b 4 (by decide) (by decide)).trans (pk_un (by omega)).symm
  · exact (b 5 (by decide) (by decide)).trans (pk_un (by omega)).symm
  · exact (b 6 (by decide) (by decide)).trans (pk_un (by omega)).symm
  · exact (b 7 (by decide) (by decide)).trans (pk_un (by omega)).symm
  · exact (c q hq).trans (pk_un (by omega)).symm
  · rw [pk_un (by omega)]; exact r q hq
  · exact Ls_cong (l1 q hq) (fun i hi => pk_un (by omega)) rfl rfl rfl rfl
  · rw [pk_un (by omega), pk_un (by omega)]; exact w
theorem Rel.wipe1 {f : Nat → Int32} {n : Nat} {d : Nat → Nat → Int32} (R : Rel f n d) {j : Nat} (hj : j < 32) : Rel (upd f (40 + 160 * 1 + 5 * j + 0) 0) n (D_X0_empty_1 n d j) := by
  obtain ⟨⟨a1, a2, a3⟩, b, c, r, l0, l1, w⟩ := R
  refine ⟨⟨(pk_un (by omega)).trans a1, a2, a3⟩, seven ?_ ?_ ?_ ?_ ?_ ?_ ?_, fun q hq => ?_, fun q hq => ?_, fun q hq => ?_, wipe_Ls l1, ?_⟩
  · exact (b 1 (by decide) (by decide)).trans (pk_un (by omega)).symm
  · exact (b 2 (by decide) (by decide)).trans (pk_un (by omega)).symm
  · exact (b 3 (by decide) (by decide)).trans (pk_un (by omega)).symm
  · exact (b 4 (by decide) (by decide)).trans (pk_un (by omega)).symm
  · exact (b 5 (by decide) (by decide)).trans (pk_un (by omega)).symm
  · exact (b 6 (by decide) (by decide)).trans (pk_un (by omega)).symm
  · exact (b 7 (by decide) (by decide)).trans (pk_un (by omega)).symm
  · exact (c q hq).trans (pk_un (by omega)).symm
  · rw [pk_un (by omega)]; exact r q hq
  · exact Ls_cong (l0 q hq) (fun i hi => pk_un (by omega)) rfl rfl rfl rfl
  · rw [pk_un (by omega), pk_un (by omega)]; exact w
theorem bel_lies {f a r e s : Nat → Int32} {sg j : Nat} (h : Ls f a r e s sg j) (hb : ¬ r_X5_isBelieved f sg j = 0) : ¬ r_X3_lies r j = 0 := by
  rcases h with ⟨h1, h2, -⟩ | ⟨h1, h2⟩
  · unfold r_X3_lies
    rw [if_neg h2]
    decide
  · exfalso
    apply hb
    unfold r_X5_isBelieved r_X5_reason
    rw [if_pos h1, if_neg i10]
    split <;> rfl
theorem copy_Ls {f f' a r e s a2 r2 e2 s2 : Nat → Int32} {sg s0 j : Nat} (hL : ∀ q, q < 32 → Ls f a r e s sg q) (h2 : Ls f a2 r2 e2 s2 s0 j) (hl : ¬ r_X3_lies r2 j = 0) (hc : ∀ i, i < 5 → f' (40 + 160 * sg + 5 * j + i) = f (40 + 160 * s0 + 5 * j + i)) (ho : ∀ q i, q < 32 → i < 5 → ¬ q = j → f' (40 + 160 * sg + 5 * q + i) = f (40 + 160 * sg + 5 * q + i)) : ∀ q, q < 32 → Ls f' (n_X3_copyBlock_1 a a2 r2 j) (n_X3_copyBlock_2 r r2 j) (n_X3_copyBlock_3 e r2 e2 j) (n_X3_copyBlock_4 s r2 s2 j) sg q := by
  intro q hq
  unfold n_X3_copyBlock_1 n_X3_copyBlock_2 n_X3_copyBlock_3 n_X3_copyBlock_4
  simp only [if_neg hl]
  by_cases c : q = j
  · subst c
    rcases h2 with ⟨h1, h2, h3, h4, h5, h6⟩ | ⟨h1, h2⟩
    · left
      rw [hc 0 (by decide), hc 1 (by decide), hc 2 (by decide), hc 3 (by decide), hc 4 (by decide), pk_us, pk_us, pk_us, pk_us]
      exact ⟨h1, h2, h3, h4, h5, h6⟩
    · exfalso
      apply hl
      unfold r_X3_lies
      rw [if_pos h2]
  · exact Ls_cong (hL q hq) (fun i hi => ho q i hq hi c) (pk_un c) (pk_un c) (pk_un c) (pk_un c)
theorem Rel.mendD {f : Nat → Int32} {n : Nat} {d : Nat → Nat → Int32} (R : Rel f n d) {j : Nat} (hj : j < 32) : Rel (n_X5_mends_1 f j) n (repD d j) ∧ r_X0_repair_in (d 0) (d 1) (d 2) (d 3) (d 4) (d 5) (d 6) (d 7) (d 8) j = r_X5_mends f j ∧ repD d j 9 7 = d 9 7 + (if (r_X5_mends f j) ≤ 0 then 0 else 1) := by
  have R0 := R
  have bd := R.bel_d hj
  have bm := R.bel_m hj
  obtain ⟨⟨a1, a2, a3⟩, b, c, r, l0, l1, w⟩ := R
  have e7 : repD d j 9 7 = n_X0_repair_in_0_8 (d 0) (d 1) (d 2) (d 3) (d 4) (d 5) (d 6) (d 7) (d 8) (d 9 7) j := rfl
  rw [e7]
  unfold r_X0_repair_in r_X5_mends r_X5_canMend n_X0_repair_in_0_8
  rw [bd, bm]
  by_cases c0 : r_X5_isBelieved f 0 j = r_X5_isBelieved f 1 j
  · refine ⟨?_, ?_, ?_⟩
    · unfold n_X5_mends_1 r_X5_canMend
      rw [if_pos c0, if_pos rfl]
      refine R0.cong (fun _ _ => rfl) (nine ?_ ?_ ?_ ?_ ?_ ?_ ?_ ?_ ?_) (seven rfl rfl rfl rfl rfl rfl ?_)
      · intro q _; rfl
      · intro q _; show n_X0_repair_in_4 _ _ _ _ _ _ _ _ _ _ _ = _; unfold n_X0_repair_in_4; rw [bd, bm, if_pos c0]
      · intro q _; show n_X0_repair_in_5 _ _ _ _ _ _ _ _ _ _ _ = _; unfold n_X0_repair_in_5; rw [bd, bm, if_pos c0]
      · intro q _; show n_X0_repair_in_6 _ _ _ _ _ _ _ _ _ _ _ = _; unfold n_X0_repair_in_6; rw [bd, bm, if_pos c0]
      · intro q _; show n_X0_repair_in_7 _ _ _ _ _ _ _ _ _ _ _ = _; unfold n_X0_repair_in_7; rw [bd, bm, if_pos c0]
      · intro q _; show n_X0_repair_in_8 _ _ _ _ _ _ _ _ _ _ _ = _; unfold n_X0_repair_in_8; rw [bd, bm, if_pos c0]
      · intro q _; show n_X0_repair_in_9 _ _ _ _ _ _ _ _ _ _ _ = _; unfold n_X0_repair_in_9; rw [bd, bm, if_pos c0]
      · intro q _; show n_X0_repair_in_10 _ _ _ _ _ _ _ _ _ _ _ = _; unfold n_X0_repair_in_10; rw [bd, bm, if_pos c0]
      · intro q _; show n_X0_repair_in_11 _ _ _ _ _ _ _ _ _ _ _ = _; unfold n_X0_repair_in_11; rw [bd, bm, if_pos c0]
      · rw [e7]; unfold n_X0_repair_in_0_8; rw [bd, bm, if_pos c0]
    · rw [if_pos c0, if_pos c0, if_pos rfl]
    · rw [if_pos c0, if_pos c0, if_pos rfl, if_pos (by decide)]
      simp
  · by_cases c1 : r_X5_isBelieved f 0 j = 0
    · have c2 : ¬ r_X5_isBelieved f 1 j = 0 := fun z => c0 (c1.trans z.symm)
      have hf : n_X5_mends_1 f j = (upd (upd (upd (upd (upd (upd f (40 + 160 * 0 + 5 * j + 0) (f (40 + 160 * 1 + 5 * j + 0))) (40 + 160 * 0 + 5 * j + 1) (f (40 + 160 * 1 + 5 * j + 1))) (40 + 160 * 0 + 5 * j + 2) (f (40 + 160 * 1 + 5 * j + 2))) (40 + 160 * 0 + 5 * j + 3) (f (40 + 160 * 1 + 5 * j + 3))) (40 + 160 * 0 + 5 * j + 4) (f (40 + 160 * 1 + 5 * j + 4))) 7 ((f 7) + 1)) := by
        unfold n_X5_mends_1 r_X5_canMend
        rw [if_neg c0, if_neg i10, if_pos c1]
      have off : ∀ i, ¬ i = 7 → (i < 40 + 160 * 0 + 5 * j ∨ 40 + 160 * 0 + 5 * j + 5 ≤ i) → n_X5_mends_1 f j i = f i := fun i h7 h => by
        rw [hf, pk_un h7, pk_un (by omega), pk_un (by omega), pk_un (by omega), pk_un (by omega), pk_un (by omega)]
      have cp : ∀ i, i < 5 → n_X5_mends_1 f j (40 + 160 * 0 + 5 * j + i) = f (40 + 160 * 1 + 5 * j + i) := fun i hi => by
        rcases (show i = 0 ∨ i = 1 ∨ i = 2 ∨ i = 3 ∨ i = 4 by omega) with rfl | rfl | rfl | rfl | rfl
        · rw [hf, pk_un (by omega), pk_un (by omega), pk_un (by omega), pk_un (by omega), pk_un (by omega), pk_us]
        · rw [hf, pk_un (by omega), pk_un (by omega), pk_un (by omega), pk_un (by omega), pk_us]
        · rw [hf, pk_un (by omega), pk_un (by omega), pk_un (by omega), pk_us]
        · rw [hf, pk_un (by omega), pk_un (by omega), pk_us]
        · rw [hf, pk_un (by omega), pk_us]
      have f7 : n_X5_mends_1 f j 7 = f 7 + 1 := by rw [hf, pk_us]
      have L := copy_Ls (f' := n_X5_mends_1 f j) (j := j) (s0 := 1) l0 (l1 j hj) (bel_lies (l1 j hj) c2) cp (fun q i hq hi hne => off _ (by omega) (by omega))
      refine ⟨⟨⟨(off 0 (by decide) (by omega)).trans a1, a2, a3⟩, seven ?_ ?_ ?_ ?_ ?_ ?_ ?_, fun q hq => ?_, fun q hq => ?_, fun q hq => ?_, fun q hq => ?_, ?_⟩, ?_, ?_⟩
      · exact (b 1 (by decide) (by decide)).trans (off 1 (by decide) (by omega)).symm
      · exact (b 2 (by decide) (by decide)).trans (off 2 (by decide) (by omega)).symm
      · exact (b 3 (by decide) (by decide)).trans (off 3 (by decide) (by omega)).symm
      · exact (b 4 (by decide) (by decide)).trans (off 4 (by decide) (by omega)).symm
      · exact (b 5 (by decide) (by decide)).trans (off 5 (by decide) (by omega)).symm
      · exact (b 6 (by decide) (by decide)).trans (off 6 (by decide) (by omega)).symm
      · rw [e7, f7]; unfold n_X0_repair_in_0_8; rw [bd, bm, if_neg c0, b 7 (by decide) (by decide)]
      · exact (c q hq).trans (off (8 + q) (by omega) (by omega)).symm
      · rw [off (8 + q) (by omega) (by omega)]; exact r q hq
      · show Ls _ (n_X0_repair_in_4 _ _ _ _ _ _ _ _ _ _) (n_X0_repair_in_5 _ _ _ _ _ _ _ _ _ _) (n_X0_repair_in_6 _ _ _ _ _ _ _ _ _ _) (n_X0_repair_in_7 _ _ _ _ _ _ _ _ _ _) 0 q
        unfold n_X0_repair_in_4 n_X0_repair_in_5 n_X0_repair_in_6 n_X0_repair_in_7
        rw [bd, bm, if_neg c0, if_neg c0, if_neg c0, if_neg c0, if_pos c1, if_pos c1, if_pos c1, if_pos c1]
        exact L q hq
      · show Ls _ (n_X0_repair_in_8 _ _ _ _ _ _ _ _ _ _) (n_X0_repair_in_9 _ _ _ _ _ _ _ _ _ _) (n_X0_repair_in_10 _ _ _ _ _ _ _ _ _ _) (n_X0_repair_in_11 _ _ _ _ _ _ _ _ _ _) 1 q
        unfold n_X0_repair_in_8 n_X0_repair_in_9 n_X0_repair_in_10 n_X0_repair_in_11
        rw [bd, bm, if_neg c0, if_neg c0, if_neg c0, if_neg c0, if_pos c1, if_pos c1, if_pos c1, if_pos c1]
        exact Ls_cong (l1 q hq) (fun i hi => off _ (by omega) (by omega)) rfl rfl rfl rfl
      · rw [off 1 (by decide) (by omega), off 2 (by decide) (by omega)]; exact w
      · rw [if_neg c0, if_neg c0, if_neg i10, if_pos c1]
      · rw [if_neg c0, if_neg c0, if_neg i10, if_pos c1, if_neg (by decide)]
    · have hf : n_X5_mends_1 f j = (upd (upd (upd (upd (upd (upd f (40 + 160 * 1 + 5 * j + 0) (f (40 + 160 * 0 + 5 * j + 0))) (40 + 160 * 1 + 5 * j + 1) (f (40 + 160 * 0 + 5 * j + 1))) (40 + 160 * 1 + 5 * j + 2) (f (40 + 160 * 0 + 5 * j + 2))) (40 + 160 * 1 + 5 * j + 3) (f (40 + 160 * 0 + 5 * j + 3))) (40 + 160 * 1 + 5 * j + 4) (f (40 + 160 * 0 + 5 * j + 4))) 7 ((f 7) + 1)) := by
        unfold n_X5_mends_1 r_X5_canMend
        rw [if_neg c0, if_neg i10, if_neg c1]
      have off : ∀ i, ¬ i = 7 → (i < 40 + 160 * 1 + 5 * j ∨ 40 + 160 * 1 + 5 * j + 5 ≤ i) → n_X5_mends_1 f j i = f i := fun i h7 h => by
        rw [hf, pk_un h7, pk_un (by omega), pk_un (by omega), pk_un (by omega), pk_un (by omega), pk_un (by omega)]
      have cp : ∀ i, i < 5 → n_X5_mends_1 f j (40 + 160 * 1 + 5 * j + i) = f (40 + 160 * 0 + 5 * j + i) := fun i hi => by
        rcases (show i = 0 ∨ i = 1 ∨ i = 2 ∨ i = 3 ∨ i = 4 by omega) with rfl | rfl | rfl | rfl | rfl
        · rw [hf, pk_un (by omega), pk_un (by omega), pk_un (by omega), pk_un (by omega), pk_un (by omega), pk_us]
        · rw [hf, pk_un (by omega), pk_un (by omega), pk_un (by omega), pk_un (by omega), pk_us]
        · rw [hf, pk_un (by omega), pk_un (by omega), pk_un (by omega), pk_us]
        · rw [hf, pk_un (by omega), pk_un (by omega), pk_us]
        · rw [hf, pk_un (by omega), pk_us]
      have f7 : n_X5_mends_1 f j 7 = f 7 + 1 := by rw [hf, pk_us]
      have L := copy_Ls (f' := n_X5_mends_1 f j) (j := j) (s0 := 0) l1 (l0 j hj) (bel_lies (l0 j hj) c1) cp (fun q i hq hi hne => off _ (by omega) (by omega))
      refine ⟨⟨⟨(off 0 (by decide) (by omega)).trans a1, a2, a3⟩, seven ?_ ?_ ?_ ?_ ?_ ?_ ?_, fun q hq => ?_, fun q hq => ?_, fun q hq => ?_, fun q hq => ?_, ?_⟩, ?_, ?_⟩
      · exact (b 1 (by decide) (by decide)).trans (off 1 (by decide) (by omega)).symm
      · exact (b 2 (by decide) (by decide)).trans (off 2 (by decide) (by omega)).symm
      · exact (b 3 (by decide) (by decide)).trans (off 3 (by decide) (by omega)).symm
      · exact (b 4 (by decide) (by decide)).trans (off 4 (by decide) (by omega)).symm
      · exact (b 5 (by decide) (by decide)).trans (off 5 (by decide) (by omega)).symm
      · exact (b 6 (by decide) (by decide)).trans (off 6 (by decide) (by omega)).symm
      · rw [e7, f7]; unfold n_X0_repair_in_0_8; rw [bd, bm, if_neg c0, b 7 (by decide) (by decide)]
      · exact (c q hq).trans (off (8 + q) (by omega) (by omega)).symm
      · rw [off (8 + q) (by omega) (by omega)]; exact r q hq
      · show Ls _ (n_X0_repair_in_4 _ _ _ _ _ _ _ _ _ _) (n_X0_repair_in_5 _ _ _ _ _ _ _ _ _ _) (n_X0_repair_in_6 _ _ _ _ _ _ _ _ _ _) (n_X0_repair_in_7 _ _ _ _ _ _ _ _ _ _) 0 q
        unfold n_X0_repair_in_4 n_X0_repair_in_5 n_X0_repair_in_6 n_X0_repair_in_7
        rw [bd, bm, if_neg c0, if_neg c0, if_neg c0, if_neg c0, if_neg c1, if_neg c1, if_neg c1, if_neg c1]
        exact Ls_cong (l0 q hq) (fun i hi => off _ (by omega) (by omega)) rfl rfl rfl rfl
      · show Ls _ (n_X0_repair_in_8 _ _ _ _ _ _ _ _ _ _) (n_X0_repair_in_9 _ _ _ _ _ _ _ _ _ _) (n_X0_repair_in_10 _ _ _ _ _ _ _ _ _ _) (n_X0_repair_in_11 _ _ _ _ _ _ _ _ _ _) 1 q
        unfold n_X0_repair_in_8 n_X0_repair_in_9 n_X0_repair_in_10 n_X0_repair_in_11
        rw [bd, bm, if_neg c0, if_neg c0, if_neg c0, if_neg c0, if_neg c1, if_neg c1, if_neg c1, if_neg c1]
        exact L q hq
      · rw [off 1 (by decide) (by omega), off 2 (by decide) (by omega)]; exact w
      · rw [if_neg c0, if_neg c0, if_neg i10, if_neg c1]
      · rw [if_neg c0, if_neg c0, if_neg i10, if_neg c1, if_neg (by decide)]
theorem Rel.mend {f : Nat → Int32} {n : Nat} {d : Nat → Nat → Int32} (R : Rel f n d) {j : Nat} (hj : j < 32) : Rel (n_X5_mends_1 f j) n (D_X0_repair_in n d j) :=
  (R.mendD hj).1.cong (fun _ _ => rfl) (nine (fun _ _ => rfl) (fun _ _ => rfl) (fun _ _ => rfl) (fun _ _ => rfl) (fun _ _ => rfl) (fun _ _ => rfl) (fun _ _ => rfl) (fun _ _ => rfl) (fun _ _ => rfl)) (seven rfl rfl rfl rfl rfl rfl rfl)
theorem Rel.scrub {f : Nat → Int32} {n : Nat} {d : Nat → Nat → Int32} (R : Rel f n d) : ∀ k, k ≤ 32 → Rel (scI f k) n (repN d k) ∧ repN d k 9 7 = d 9 7 + scN f k
  | 0, _ => ⟨R, by show d 9 7 = d 9 7 + 0; simp⟩
  | k + 1, h => by
    obtain ⟨R1, e⟩ := R.scrub k (by omega)
    obtain ⟨R2, -, e2⟩ := R1.mendD (j := k) (by omega)
    refine ⟨R2, ?_⟩
    show repD (repN d k) k 9 7 = d 9 7 + ((scN f k) + (if (r_X5_mends (scI f k) k) ≤ 0 then 0 else 1))
    rw [e2, e, Int32.add_assoc]
