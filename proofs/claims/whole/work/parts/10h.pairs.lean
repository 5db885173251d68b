theorem HR.spare {fB : Nat → Int32} {hn : Nat → Nat} {hd : Nat → Nat → Nat → Int32} {sp kt : Nat} (h : HR fB hn hd sp kt) (hsp : sp < 7) (hkt : kt ≤ 6) (x : Nat) (y : Nat → Nat → Int32) : HR fB (fup hn sp x) (fup hd sp y) sp kt := by
  intro i hi
  have e3 : HIx sp kt i ≠ sp := by unfold HIx; omega
  rw [fup_n e3, fup_n e3]
  exact h i hi
theorem keep_ok {sp kt : Nat} {r : Int32} (e : r_X4_isError r = 0) (hkt : kt ≤ 6) : n_X1_keep_0_1 sp r = spN sp ∧ n_X1_keep_0_2 kt r = knK kt := by
  unfold n_X1_keep_0_1 n_X1_keep_0_2
  rw [if_pos e, if_pos e, ktN_eq hkt]
  exact ⟨rfl, rfl⟩
theorem keep_er {sp kt : Nat} {r : Int32} (e : ¬ r_X4_isError r = 0) : n_X1_keep_0_1 sp r = sp ∧ n_X1_keep_0_2 kt r = kt := by
  unfold n_X1_keep_0_1 n_X1_keep_0_2
  rw [if_neg e, if_neg e]
  exact ⟨rfl, rfl⟩
theorem knK_le {kt : Nat} (h : kt ≤ 6) : knK kt ≤ 6 := by unfold knK; split <;> omega
/-- what holds behind a call that the history knows -/
def Aft (fS' fB' : Nat → Int32) (kn' n' : Nat) (d' : Nat → Nat → Int32) (hn : Nat → Nat) (hd : Nat → Nat → Nat → Int32) (sp kt n : Nat) (d rv : Nat → Nat → Int32) (r : Int32) : Prop :=
  RelD fS' n' d' ∧ HR fB' (fup hn sp n) (fup hd sp (cpD d rv)) (n_X1_keep_0_1 sp r) (n_X1_keep_0_2 kt r) ∧ kn' = n_X1_keep_0_2 kt r ∧ n_X1_keep_0_1 sp r < 7 ∧ n_X1_keep_0_2 kt r ≤ 6
theorem Aft.ok {fS fB fS' : Nat → Int32} {n' n sp kt : Nat} {d' d rv : Nat → Nat → Int32} {hn : Nat → Nat} {hd : Nat → Nat → Nat → Int32} {r : Int32} (H : HR fB hn hd sp kt) (hsp : sp < 7) (hkt : kt ≤ 6) (R : RelD fS n d) (R' : RelD fS' n' d') (e : r_X4_isError r = 0) : Aft fS' (knB fB fS kt) (knK kt) n' d' hn hd sp kt n d rv r := by
  obtain ⟨e1, e2⟩ := keep_ok (sp := sp) (kt := kt) e hkt
  refine ⟨R', ?_, e2.symm, ?_, ?_⟩
  · rw [e1, e2]; exact H.keep hsp hkt R
  · rw [e1, spN_eq hsp]; omega
  · rw [e2]; exact knK_le hkt
theorem Aft.er {fS fB : Nat → Int32} {n' n sp kt : Nat} {d' d rv : Nat → Nat → Int32} {hn : Nat → Nat} {hd : Nat → Nat → Nat → Int32} {r : Int32} (H : HR fB hn hd sp kt) (hsp : sp < 7) (hkt : kt ≤ 6) (R' : RelD fS n' d') (e : ¬ r_X4_isError r = 0) : Aft fS fB kt n' d' hn hd sp kt n d rv r := by
  obtain ⟨e1, e2⟩ := keep_er (sp := sp) (kt := kt) e
  refine ⟨R', ?_, e2.symm, ?_, ?_⟩
  · rw [e1, e2]; exact H.spare hsp hkt _ _
  · rw [e1]; exact hsp
  · rw [e2]; exact hkt
theorem sub_add (a b : Int32) : (a + b) - a = b := by rw [Int32.add_comm, Int32.add_sub_cancel]
theorem er_1 : ¬ r_X4_isError (-1) = 0 := by decide
theorem er_2 : ¬ r_X4_isError (-2) = 0 := by decide
theorem st_ite {α : Type} {xd z : Int32} (h : xd < 0 ∨ ¬ xd ≤ 9999 ∨ ¬ z ≤ 999) (x y : α) : (if xd < 0 then y else (if xd ≤ 9999 then (if z ≤ 999 then x else y) else y)) = y := by
  by_cases a : xd < 0
  · rw [if_pos a]
  · rw [if_neg a]
    by_cases b : xd ≤ 9999
    · rw [if_pos b]
      by_cases c : z ≤ 999
      · exact absurd h (fun q => q.elim a (fun q => q.elim (fun q => q b) (fun q => q c)))
      · rw [if_neg c]
    · rw [if_neg b]
theorem st_no {f ix : Nat → Int32} {j : Nat} {xd : Int32} (hc : ix j = f (8 + j)) (hr : f (8 + j) ≤ 999) (hF : ¬ r_X5_writeFault_in f j xd = 0) : r_X0_store_in ix j xd = r_X5_writeFault_in f j xd ∧ ¬ 0 ≤ r_X5_writeFault_in f j xd ∧ ¬ r_X4_isError (r_X5_writeFault_in f j xd) = 0 ∧ (xd < 0 ∨ ¬ xd ≤ 9999 ∨ ¬ (ix j) + 1 ≤ 999) := by
  unfold r_X5_writeFault_in r_X5_in at hF ⊢
  unfold r_X0_store_in
  by_cases a : xd < 0
  · rw [if_pos a, if_pos a, if_pos rfl]
    exact ⟨rfl, by decide, by decide, Or.inl a⟩
  · rw [if_neg a] at hF ⊢
    rw [if_neg a]
    by_cases b : (9999 : Int32) < xd
    · have b2 : ¬ xd ≤ 9999 := fun q => Int32.lt_irrefl (Int32.lt_of_lt_of_le b q)
      rw [if_neg b2, if_pos b, if_pos rfl]
      exact ⟨rfl, by decide, by decide, Or.inr (Or.inl b2)⟩
    · rw [if_neg b, if_neg i10] at hF ⊢
      rw [if_pos (Int32.not_lt.mp b)]
      by_cases c : f (8 + j) = 999
      · have c2 : ¬ (ix j) + 1 ≤ 999 := by rw [hc, c]; decide
        rw [if_pos c, if_neg c2]
        exact ⟨rfl, by decide, by decide, Or.inr (Or.inr c2)⟩
      · rw [if_neg c] at hF
        exact absurd rfl hF
theorem Rel.store_no {f : Nat → Int32} {n : Nat} {d : Nat → Nat → Int32} (R : Rel f n d) {j : Nat} {xd : Int32} (h : xd < 0 ∨ ¬ xd ≤ 9999 ∨ ¬ (d 0 j) + 1 ≤ 999) : Rel f n (D_X0_store_in n d j xd) := by
  refine R.cong (fun _ _ => rfl) (nine ?_ ?_ ?_ ?_ ?_ ?_ ?_ ?_ ?_) (seven ?_ ?_ ?_ rfl rfl rfl rfl)
  · intro q _; show n_X0_store_in_1 _ _ _ q = _; unfold n_X0_store_in_1; rw [st_ite h]
  · intro q _; show n_X0_store_in_4 _ _ _ _ _ _ q = _; unfold n_X0_store_in_4; rw [st_ite h]
  · intro q _; show n_X0_store_in_5 _ _ _ _ _ _ q = _; unfold n_X0_store_in_5; rw [st_ite h]
  · intro q _; show n_X0_store_in_6 _ _ _ _ _ _ q = _; unfold n_X0_store_in_6; rw [st_ite h]
  · intro q _; show n_X0_store_in_7 _ _ _ _ _ _ q = _; unfold n_X0_store_in_7; rw [st_ite h]
  · intro q _; show n_X0_store_in_8 _ _ _ _ _ _ q = _; unfold n_X0_store_in_8; rw [st_ite h]
  · intro q _; show n_X0_store_in_9 _ _ _ _ _ _ q = _; unfold n_X0_store_in_9; rw [st_ite h]
  · intro q _; show n_X0_store_in_10 _ _ _ _ _ _ q = _; unfold n_X0_store_in_10; rw [st_ite h]
  · intro q _; show n_X0_store_in_11 _ _ _ _ _ _ q = _; unfold n_X0_store_in_11; rw [st_ite h]
  · show n_X0_store_in_2_4 _ _ _ _ = _; unfold n_X0_store_in_2_4; rw [st_ite h]
  · show n_X0_store_in_3_4 _ _ _ _ = _; unfold n_X0_store_in_3_4; rw [st_ite h]
  · show n_X0_store_in_0_4 _ _ _ _ = _; unfold n_X0_store_in_0_4; rw [st_ite h]
/-- a write, well or not: the answer, the row, whether it is an error -/
theorem Rel.write {f : Nat → Int32} {n : Nat} {d : Nat → Nat → Int32} (R : RelD f n d) {j : Nat} {xd : Int32} (hj : j < n) :
    (r_X5_writeFault_in f j xd = 0 ∧ r_X0_store_in (d 0) j xd = wrF f j (nxP j n) xd (8 + j) ∧ r_X4_isError (r_X0_store_in (d 0) j xd) = 0 ∧ RelD (wrF f j (nxP j n) xd) n (D_X0_store_in n d j xd)) ∨
    (¬ 0 ≤ r_X5_writeFault_in f j xd ∧ r_X0_store_in (d 0) j xd = r_X5_writeFault_in f j xd ∧ ¬ r_X4_isError (r_X0_store_in (d 0) j xd) = 0 ∧ RelD f n (D_X0_store_in n d j xd)) := by
  have h32 : j < 32 := by have := R.1.1.2.2; omega
  have hc := R.1.2.2.1 j h32
  have hr := R.1.2.2.2.1 j h32
  by_cases hF : r_X5_writeFault_in f j xd = 0
  · left
    obtain ⟨R1, e1⟩ := R.1.store hj hF
    obtain ⟨o1, o2, o3, o4, o5⟩ := wf_ok hr hF
    refine ⟨hF, e1, ?_, R1, R.2.lyF h32 o1 o2⟩
    unfold r_X0_store_in
    rw [if_neg o1, if_pos o2, if_pos (by rw [hc]; exact o3), hc]
    exact er_0 o5
  · right
    obtain ⟨e1, e2, e3, e4⟩ := st_no hc hr.2 hF
    exact ⟨e2, e1, by rw [e1]; exact e3, R.1.store_no e4, R.2⟩
theorem fillF_in (f : Nat → Int32) (v : Int32) : ∀ (N i : Nat), i < N → fillF f v N i = v
  | 0, i, h => absurd h (Nat.not_lt_zero _)
  | N + 1, i, h => by
    show upd (fillF f v N) N v i = v
    by_cases c : i = N
    · subst c; exact pk_us
    · rw [pk_un c]; exact fillF_in f v N i (by omega)
theorem RelD.anew {f : Nat → Int32} {n k : Nat} {d : Nat → Nat → Int32} (hk1 : 1 ≤ k) (hk : k ≤ 32) : RelD (upd (fillF f 0 360) 0 (nI k)) k (D_X0_startAnew_in n d k) := by
  have z : ∀ i, 1 ≤ i → i < 360 → upd (fillF f 0 360) 0 (nI k) i = 0 := fun i h1 h2 => by
    rw [pk_un (by omega)]; exact fillF_in f 0 360 i h2
  refine ⟨⟨⟨pk_us, hk1, hk⟩, seven ?_ ?_ ?_ ?_ ?_ ?_ ?_, fun j hj => ?_, fun j hj => ?_, fun j hj => Or.inr ⟨z _ (by omega) (by omega), fillF_in (d 2) 0 32 j hj⟩, fun j hj => Or.inr ⟨z _ (by omega) (by omega), fillF_in (d 6) 0 32 j hj⟩, ?_⟩, fun sg hs j hj => ?_⟩
  · exact (z 1 (by decide) (by decide)).symm
  · exact (z 2 (by decide) (by decide)).symm
  · exact (z 3 (by decide) (by decide)).symm
  · exact (z 4 (by decide) (by decide)).symm
  · exact (z 5 (by decide) (by decide)).symm
  · exact (z 6 (by decide) (by decide)).symm
  · exact (z 7 (by decide) (by decide)).symm
  · rw [z (8 + j) (by omega) (by omega)]; exact fillF_in (d 0) 0 32 j hj
  · rw [z (8 + j) (by omega) (by omega)]; decide
  · rw [z 1 (by decide) (by decide), z 2 (by decide) (by decide)]; decide
  · rw [z _ (by omega) (by omega)]; decide
theorem ex_ite {xk : Int32} (h : xk < 0 ∨ ¬ xk ≤ 4) (x y : Int32) : (if xk < 0 then y else (if xk ≤ 4 then x else y)) = y := by
  by_cases a : xk < 0
  · rw [if_pos a]
  · rw [if_neg a, if_neg (h.resolve_left a)]
theorem in_0b {x lo hi : Int32} (h : x < lo ∨ ¬ x ≤ hi) : r_X5_in x lo hi = 0 := by
  unfold r_X5_in
  by_cases a : x < lo
  · rw [if_pos a]
  · rw [if_neg a, if_pos (Int32.not_le.mp (h.resolve_left a))]
theorem in_1b {x lo hi : Int32} (h1 : ¬ x < lo) (h2 : x ≤ hi) : r_X5_in x lo hi = 1 := by
  unfold r_X5_in
  rw [if_neg h1, if_neg (Int32.not_lt.mpr h2)]
/-- await: the answer, whether it is an error, the row -/
theorem Rel.aw0 {f : Nat → Int32} {n : Nat} {d : Nat → Nat → Int32} (R : RelD f n d) {xk : Int32} :
    (0 ≤ r_X5_awaitFault 0 xk ∧ r_X0_expect_0 (d 9 1) xk = f (1 + 0) ∧ r_X4_isError (r_X0_expect_0 (d 9 1) xk) = 0 ∧ RelD (upd f (1 + 0) xk) n (D_X0_expect_0 n d xk)) ∨
    (¬ 0 ≤ r_X5_awaitFault 0 xk ∧ r_X0_expect_0 (d 9 1) xk = r_X5_awaitFault 0 xk ∧ ¬ r_X4_isError (r_X0_expect_0 (d 9 1) xk) = 0 ∧ RelD f n (D_X0_expect_0 n d xk)) := by
  have b := R.1.2.1 1 (by decide) (by decide)
  have w := R.1.2.2.2.2.2.2
  by_cases h : xk < 0 ∨ ¬ xk ≤ 4
  · right
    have e : r_X5_awaitFault 0 xk = -2 := by
      unfold r_X5_awaitFault
      rw [if_neg (by decide), if_pos (in_0b h)]
    have e2 : r_X0_expect_0 (d 9 1) xk = -2 := by
      unfold r_X0_expect_0
      exact ex_ite h _ _
    rw [e, e2]
    refine ⟨by decide, rfl, by decide, R.1.cong (fun _ _ => rfl) (nine (fun _ _ => rfl) (fun _ _ => rfl) (fun _ _ => rfl) (fun _ _ => rfl) (fun _ _ => rfl) (fun _ _ => rfl) (fun _ _ => rfl) (fun _ _ => rfl) (fun _ _ => rfl)) (seven ?_ rfl rfl rfl rfl rfl rfl), R.2⟩
    show n_X0_expect_0_2_4 _ _ = _
    unfold n_X0_expect_0_2_4
    exact ex_ite h _ _
  · left
    have h0 : ¬ xk < 0 := fun q => h (Or.inl q)
    have h4 : xk ≤ 4 := Decidable.not_not.mp (fun q => h (Or.inr q))
    have e : r_X5_awaitFault 0 xk = 0 := by
      unfold r_X5_awaitFault
      rw [if_neg (by decide), if_neg (by rw [in_1b h0 h4]; decide)]
    have e2 : r_X0_expect_0 (d 9 1) xk = f 1 := by
      unfold r_X0_expect_0
      rw [if_neg h0, if_pos h4, b]
    rw [e, e2]
    exact ⟨by decide, rfl, er_0 w.1.1, R.1.await0 h0 h4, R.2.off (fun a _ b _ => by omega)⟩
theorem Rel.aw1 {f : Nat → Int32} {n : Nat} {d : Nat → Nat → Int32} (R : RelD f n d) {xk : Int32} :
    (0 ≤ r_X5_awaitFault 1 xk ∧ r_X0_expect_1 (d 9 2) xk = f (1 + 1) ∧ r_X4_isError (r_X0_expect_1 (d 9 2) xk) = 0 ∧ RelD (upd f (1 + 1) xk) n (D_X0_expect_1 n d xk)) ∨
    (¬ 0 ≤ r_X5_awaitFault 1 xk ∧ r_X0_expect_1 (d 9 2) xk = r_X5_awaitFault 1 xk ∧ ¬ r_X4_isError (r_X0_expect_1 (d 9 2) xk) = 0 ∧ RelD f n (D_X0_expect_1 n d xk)) := by
  have b := R.1.2.1 2 (by decide) (by decide)
  have w := R.1.2.2.2.2.2.2
  by_cases h : xk < 0 ∨ ¬ xk ≤ 4
  · right
    have e : r_X5_awaitFault 1 xk = -2 := by
      unfold r_X5_awaitFault
      rw [if_neg (by decide), if_pos (in_0b h)]
    have e2 : r_X0_expect_1 (d 9 2) xk = -2 := by
      unfold r_X0_expect_1
      exact ex_ite h _ _
    rw [e, e2]
    refine ⟨by decide, rfl, by decide, R.1.cong (fun _ _ => rfl) (nine (fun _ _ => rfl) (fun _ _ => rfl) (fun _ _ => rfl) (fun _ _ => rfl) (fun _ _ => rfl) (fun _ _ => rfl) (fun _ _ => rfl) (fun _ _ => rfl) (fun _ _ => rfl)) (seven rfl ?_ rfl rfl rfl rfl rfl), R.2⟩
    show n_X0_expect_1_3_4 _ _ = _
    unfold n_X0_expect_1_3_4
    exact ex_ite h _ _
  · left
    have h0 : ¬ xk < 0 := fun q => h (Or.inl q)
    have h4 : xk ≤ 4 := Decidable.not_not.mp (fun q => h (Or.inr q))
    have e : r_X5_awaitFault 1 xk = 0 := by
      unfold r_X5_awaitFault
      rw [if_neg (by decide), if_neg (by rw [in_1b h0 h4]; decide)]
    have e2 : r_X0_expect_1 (d 9 2) xk = f 2 := by
      unfold r_X0_expect_1
      rw [if_neg h0, if_pos h4, b]
    rw [e, e2]
    exact ⟨by decide, rfl, er_0 w.2.1, R.1.await1 h0 h4, R.2.off (fun a _ b _ => by omega)⟩
theorem er_lies {f a r e s : Nat → Int32} {sg j : Nat} (h : Ls f a r e s sg j) : r_X4_isError (f (40 + 160 * sg + 5 * j + 0)) = 0 := by
  rcases h with ⟨h1, -⟩ | ⟨h1, -⟩
  · rw [h1]; decide
  · rw [h1]; decide
theorem RelD.wipe0 {f : Nat → Int32} {n : Nat} {d : Nat → Nat → Int32} (R : RelD f n d) {j : Nat} (hj : j < 32) : r_X3_take (d 2) j = f (40 + 160 * 0 + 5 * j + 0) ∧ r_X4_isError (r_X3_take (d 2) j) = 0 ∧ RelD (upd f (40 + 160 * 0 + 5 * j + 0) 0) n (D_X0_empty_0 n d j) := by
  have e := take_eq (R.1.2.2.2.2.1 j hj)
  exact ⟨e, by rw [e]; exact er_lies (R.1.2.2.2.2.1 j hj), R.1.wipe0 hj, R.2.off (fun a _ b _ => by omega)⟩
theorem RelD.wipe1 {f : Nat → Int32} {n : Nat} {d : Nat → Nat → Int32} (R : RelD f n d) {j : Nat} (hj : j < 32) : r_X3_take (d 6) j = f (40 + 160 * 1 + 5 * j + 0) ∧ r_X4_isError (r_X3_take (d 6) j) = 0 ∧ RelD (upd f (40 + 160 * 1 + 5 * j + 0) 0) n (D_X0_empty_1 n d j) := by
  have e := take_eq (R.1.2.2.2.2.2.1 j hj)
  exact ⟨e, by rw [e]; exact er_lies (R.1.2.2.2.2.2.1 j hj), R.1.wipe1 hj, R.2.off (fun a _ b _ => by omega)⟩
theorem rd_cong {f f' : Nat → Int32} {j : Nat} (h : ∀ i, 8 ≤ i → f' i = f i) : r_X5_readable f' j = r_X5_readable f j := by
  unfold r_X5_readable
  rw [h (8 + j) (by omega), isB_cong h, isB_cong h, h (40 + 160 * 1 + 5 * j + 3) (by omega), h (40 + 160 * 0 + 5 * j + 3) (by omega)]
theorem RelD.read {f : Nat → Int32} {n : Nat} {d : Nat → Nat → Int32} (R : RelD f n d) {j : Nat} (hj : j < 32) : r_X0_fetch_in (d 0) (d 1) (d 2) (d 3) (d 4) (d 5) (d 6) (d 7) (d 8) j = r_X5_readable f j ∧ r_X4_isError (r_X5_readable f j) = 0 ∧ r_X5_readable (n_X5_reads_1 f j) j = r_X5_readable f j ∧ RelD (n_X5_reads_1 f j) n (D_X0_fetch_in n d j) := by
  refine ⟨R.1.read hj, er_rd R.2 hj, rd_cong (fun i hi => ?_), R.1.reads hj, R.2.reads⟩
  unfold n_X5_reads_1
  rw [pk_un (by omega), pk_un (by omega), pk_un (by omega)]
theorem RelD.mend {f : Nat → Int32} {n : Nat} {d : Nat → Nat → Int32} (R : RelD f n d) {j : Nat} (hj : j < 32) : r_X0_repair_in (d 0) (d 1) (d 2) (d 3) (d 4) (d 5) (d 6) (d 7) (d 8) j = r_X5_mends f j ∧ r_X4_isError (r_X5_mends f j) = 0 ∧ RelD (n_X5_mends_1 f j) n (D_X0_repair_in n d j) := by
  refine ⟨(R.1.mendD hj).2.1, ?_, R.1.mend hj, R.2.mends hj⟩
  unfold r_X5_mends
  split
  · decide
  · split <;> decide
theorem scN_nI (f : Nat → Int32) : ∀ k, ∃ m, m ≤ k ∧ scN f k = nI m
  | 0 => ⟨0, Nat.le_refl _, nI_0.symm⟩
  | k + 1 => by
    obtain ⟨m, hm, e⟩ := scN_nI f k
    show ∃ m, m ≤ k + 1 ∧ (scN f k) + (if (r_X5_mends (scI f k) k) ≤ 0 then 0 else 1) = nI m
    rw [e]
    split
    · exact ⟨m, by omega, by rw [Int32.add_zero]⟩
    · exact ⟨m + 1, by omega, nI_1 m⟩
theorem RelD.scrub {f : Nat → Int32} {n : Nat} {d : Nat → Nat → Int32} (R : RelD f n d) : ((repN d n) 9 7) - (d 9 7) = scN f n ∧ r_X4_isError (scN f n) = 0 ∧ RelD (scI f n) n (repN d n) := by
  obtain ⟨R1, e⟩ := R.1.scrub n R.1.1.2.2
  refine ⟨by rw [e]; exact sub_add _ _, ?_, R1, R.2.scrub n R.1.1.2.2⟩
  obtain ⟨m, hm, e2⟩ := scN_nI f n
  have := R.1.1.2.2
  rw [e2]
  exact er_0 (nI_pos' (by omega))
theorem RelD.mn {f : Nat → Int32} {n : Nat} {d : Nat → Nat → Int32} (R : RelD f n d) : r_X4_isError (mnS f 0 n) = 0 := by
  have h := cnN_le (g := sfN f 0) sfN_lt n
  have := R.1.1.2.2
  rw [mn_cn]
  exact er_0 (nI_pos' (by omega))
