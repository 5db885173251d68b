variable {p : Program} {l : Launch} {e : Env} {s : State} {m : MethodId} {below : List Frame} {meth : Method} {c : Code} {D : va_G} {K : Nat → ClassId} {b L i : Nat} {xs : Nat → Int32}
variable {oM : Nat} {aS : Nat} {aA : Nat} {aB : Nat} {aT : Nat} {aV : Nat} {aP : Nat} {oX : Nat} {oh : Nat} {aR : Nat} {oP : Nat} {pS : Nat} {pV : Nat} {pF : Nat} {pE : Nat} {at_ : Nat → Nat} {a0 : Nat → Nat} {a1 : Nat → Nat} {an : Nat → Nat} {ra : Nat → Nat → Nat} {gr : Nat → Option Nat}
theorem size_cases (x : Int32) : (x < 1 ∨ 32 < x) ∨ ∃ k, 1 ≤ k ∧ k ≤ 32 ∧ x = nI k := by
  by_cases c : x < 1 ∨ 32 < x
  · exact Or.inl c
  · right
    have h1 : ¬ x < 1 := fun q => c (Or.inl q)
    have h0 : ¬ x < 0 := fun q => h1 (by rw [Int32.lt_iff_toInt_lt] at q ⊢; exact Int.lt_trans q (by decide))
    obtain ⟨j, hj, rfl⟩ := nI_of2 (M := 32) (n := 32) rfl h0 (Int32.not_lt.mp (fun q => c (Or.inr q)))
    refine ⟨j, ?_, hj, rfl⟩
    rcases Nat.eq_zero_or_pos j with z | z
    · rw [z] at h1; exact absurd (by decide) h1
    · exact z
theorem place_cases {n : Nat} (hn : n ≤ 32) (x : Int32) : (x < 0 ∨ nI n ≤ x) ∨ ∃ j, j < n ∧ x = nI j := by
  rcases pk_ix x (n := n) (by omega) with q | q | ⟨j, hj, e⟩
  · exact Or.inl (Or.inl q)
  · exact Or.inl (Or.inr q)
  · exact Or.inr ⟨j, hj, e⟩
theorem loop_lt {i L : Nat} (hi : i ≤ L) (hL : L ≤ 2048) (h : ¬ ((Int32.ofNat L) - 4) < nI i) : i + 4 ≤ L := by
  have e : ((Int32.ofNat L) - 4).toInt = (L : Int) - 4 := pk_sub_toInt (a := L) (b := 4) (by omega) (by decide)
  rw [Int32.lt_iff_toInt_lt, e, nI_toInt (by omega)] at h
  omega
set_option maxHeartbeats 4000000 in
set_option maxRecDepth 100000 in
theorem law_case (hx : p.tables.exec = Jvm.exec) (hb : c.code = code) (hml : c.maxLocals = 4) (hown : s.vm.findClass RL = some m.cls) (hts : ∀ w ∈ wsL_law, w.before #[Value.ref b] s = true) (hX : va_X b L xs s s.heap) (hbl : b < s.heap.size) (hbd : Bd D K s) (hgr : ∀ k, k < 7 → gr k = some (ra k 0)) (hL : L ≤ 2048) (hi : i + 4 ≤ L) (hKL : ∀ (fS : Nat → Int32) (fA : Nat → Int32) (fB : Nat → Int32) (fT : Nat → Int32) (fV : Nat → Int32) (fP : Nat → Int32) (kn : Nat) (lm : Nat) (rp : Nat) (rq : Nat) (le : Int32) (on : Int32) (tw : Int32) (z0 : Int32) (z1 : Int32) (sp : Nat) (kt : Nat) (ln : Nat) (po : Nat) (od : Nat) (cS : Nat → Int32) (cV : Nat → Int32) (cF : Nat → Int32) (cE : Nat → Int32) (tn : Nat) (td : Nat → Nat → Int32) (n0 : Nat) (e0 : Nat → Nat → Int32) (n1 : Nat) (e1 : Nat → Nat → Int32) (n : Nat) (d : Nat → Nat → Int32) (rN : Nat → Nat) (rD : Nat → Nat → Nat → Int32), LInv fS fB fT fV fP kn lm z0 z1 sp kt ln po od cS cV cF tn n0 e0 n1 e1 n d rN rD → ∀ (H : Heap) (locs : List Loc) (ls : Array Slot), va_P D vwCl ([(oM, .inr (5, [.ref aS, .ref aA, .ref aB, .int (nI kn), .ref aT, .ref aV, .ref aP, .int (nI lm), .int (nI rp), .int (nI rq), .int le, .int on, .int tw])), (aS, .inl (K 0, 360, .inl fS)), (aA, .inl (K 0, 360, .inl fA)), (aB, .inl (K 0, 2160, .inl fB)), (aT, .inl (K 0, 720, .inl fT)), (aV, .inl (K 2, 2, .inl fV)), (aP, .inl (K 0, 80, .inl fP))] ++ ([(oX, .inr (4, [.ref (an 0), .ref (at_ 0), .ref (a0 0), .ref (a1 0), .int z0, .int z1, .ref oh, .ref oP])), (oh, .inr (1, [.ref aR, .int (nI sp), .int (nI kt)])), (aR, .inl (K 3, 7, .inr (.inr (.inr (.inr gr))))), (oP, .inr (2, [.ref pS, .int (nI ln), .int (nI po), .ref pV, .ref pF, .ref pE, .int (nI od)])), (pS, .inl (K 1, 80, .inl cS)), (pV, .inl (K 0, 40, .inl cV)), (pF, .inl (K 0, 40, .inl cF)), (pE, .inl (K 0, 40, .inl cE))] ++ (drW K at_ tn td ++ (drW K a0 n0 e0 ++ (drW K a1 n1 e1 ++ (drW K an n d ++ (drW K (ra sp) (rN sp) (rD sp) ++ (oth K ra rN rD sp)))))))) H → va_D (fun q : Nat => s.heap.size ≤ q) ([(oM, .inr (5, [.ref aS, .ref aA, .ref aB, .int (nI kn), .ref aT, .ref aV, .ref aP, .int (nI lm), .int (nI rp), .int (nI rq), .int le, .int on, .int tw])), (aS, .inl (K 0, 360, .inl fS)), (aA, .inl (K 0, 360, .inl fA)), (aB, .inl (K 0, 2160, .inl fB)), (aT, .inl (K 0, 720, .inl fT)), (aV, .inl (K 2, 2, .inl fV)), (aP, .inl (K 0, 80, .inl fP))] ++ ([(oX, .inr (4, [.ref (an 0), .ref (at_ 0), .ref (a0 0), .ref (a1 0), .int z0, .int z1, .ref oh, .ref oP])), (oh, .inr (1, [.ref aR, .int (nI sp), .int (nI kt)])), (aR, .inl (K 3, 7, .inr (.inr (.inr (.inr gr))))), (oP, .inr (2, [.ref pS, .int (nI ln), .int (nI po), .ref pV, .ref pF, .ref pE, .int (nI od)])), (pS, .inl (K 1, 80, .inl cS)), (pV, .inl (K 0, 40, .inl cV)), (pF, .inl (K 0, 40, .inl cF)), (pE, .inl (K 0, 40, .inl cE))] ++ (drW K at_ tn td ++ (drW K a0 n0 e0 ++ (drW K a1 n1 e1 ++ (drW K an n d ++ (drW K (ra sp) (rN sp) (rD sp) ++ (oth K ra rN rD sp)))))))) → va_S (fun q : Nat => s.heap.size ≤ q) s.heap H locs → lv_has ls 4 [(3, .int (nI (i + 4))), (2, .ref oM), (1, .ref oX), (0, .ref b)] → W p l e room_1 s m #[Value.ref b] below meth c H locs 600000 7302250 (lw_Z below #[Value.ref b] s) (F0 m 18 ls [])) : ∀ (fS : Nat → Int32) (fA : Nat → Int32) (fB : Nat → Int32) (fT : Nat → Int32) (fV : Nat → Int32) (fP : Nat → Int32) (kn : Nat) (lm : Nat) (rp : Nat) (rq : Nat) (le : Int32) (on : Int32) (tw : Int32) (z0 : Int32) (z1 : Int32) (sp : Nat) (kt : Nat) (ln : Nat) (po : Nat) (od : Nat) (cS : Nat → Int32) (cV : Nat → Int32) (cF : Nat → Int32) (cE : Nat → Int32) (tn : Nat) (td : Nat → Nat → Int32) (n0 : Nat) (e0 : Nat → Nat → Int32) (n1 : Nat) (e1 : Nat → Nat → Int32) (n : Nat) (d : Nat → Nat → Int32) (rN : Nat → Nat) (rD : Nat → Nat → Nat → Int32), LInv fS fB fT fV fP kn lm z0 z1 sp kt ln po od cS cV cF tn n0 e0 n1 e1 n d rN rD → ∀ (H : Heap) (locs : List Loc) (ls : Array Slot), va_P D vwCl ([(oM, .inr (5, [.ref aS, .ref aA, .ref aB, .int (nI kn), .ref aT, .ref aV, .ref aP, .int (nI lm), .int (nI rp), .int (nI rq), .int le, .int on, .int tw])), (aS, .inl (K 0, 360, .inl fS)), (aA, .inl (K 0, 360, .inl fA)), (aB, .inl (K 0, 2160, .inl fB)), (aT, .inl (K 0, 720, .inl fT)), (aV, .inl (K 2, 2, .inl fV)), (aP, .inl (K 0, 80, .inl fP))] ++ ([(oX, .inr (4, [.ref (an 0), .ref (at_ 0), .ref (a0 0), .ref (a1 0), .int z0, .int z1, .ref oh, .ref oP])), (oh, .inr (1, [.ref aR, .int (nI sp), .int (nI kt)])), (aR, .inl (K 3, 7, .inr (.inr (.inr (.inr gr))))), (oP, .inr (2, [.ref pS, .int (nI ln), .int (nI po), .ref pV, .ref pF, .ref pE, .int (nI od)])), (pS, .inl (K 1, 80, .inl cS)), (pV, .inl (K 0, 40, .inl cV)), (pF, .inl (K 0, 40, .inl cF)), (pE, .inl (K 0, 40, .inl cE))] ++ (drW K at_ tn td ++ (drW K a0 n0 e0 ++ (drW K a1 n1 e1 ++ (drW K an n d ++ (drW K (ra sp) (rN sp) (rD sp) ++ (oth K ra rN rD sp)))))))) H → va_D (fun q : Nat => s.heap.size ≤ q) ([(oM, .inr (5, [.ref aS, .ref aA, .ref aB, .int (nI kn), .ref aT, .ref aV, .ref aP, .int (nI lm), .int (nI rp), .int (nI rq), .int le, .int on, .int tw])), (aS, .inl (K 0, 360, .inl fS)), (aA, .inl (K 0, 360, .inl fA)), (aB, .inl (K 0, 2160, .inl fB)), (aT, .inl (K 0, 720, .inl fT)), (aV, .inl (K 2, 2, .inl fV)), (aP, .inl (K 0, 80, .inl fP))] ++ ([(oX, .inr (4, [.ref (an 0), .ref (at_ 0), .ref (a0 0), .ref (a1 0), .int z0, .int z1, .ref oh, .ref oP])), (oh, .inr (1, [.ref aR, .int (nI sp), .int (nI kt)])), (aR, .inl (K 3, 7, .inr (.inr (.inr (.inr gr))))), (oP, .inr (2, [.ref pS, .int (nI ln), .int (nI po), .ref pV, .ref pF, .ref pE, .int (nI od)])), (pS, .inl (K 1, 80, .inl cS)), (pV, .inl (K 0, 40, .inl cV)), (pF, .inl (K 0, 40, .inl cF)), (pE, .inl (K 0, 40, .inl cE))] ++ (drW K at_ tn td ++ (drW K a0 n0 e0 ++ (drW K a1 n1 e1 ++ (drW K an n d ++ (drW K (ra sp) (rN sp) (rD sp) ++ (oth K ra rN rD sp)))))))) → va_S (fun q : Nat => s.heap.size ≤ q) s.heap H locs → lv_has ls 4 [(3, .int (nI i)), (2, .ref oM), (1, .ref oX), (0, .ref b)] → W p l e room_1 s m #[Value.ref b] below meth c H locs 600000 7302250 (lw_Z below #[Value.ref b] s) (F0 m 26 ls []) := by
  intro fS fA fB fT fV fP kn lm rp rq le on tw z0 z1 sp kt ln po od cS cV cF cE tn td n0 e0 n1 e1 n d rN rD hI H locs ls hP hD hS hl
  have hbA : ¬ (fun q : Nat => s.heap.size ≤ q) b := Nat.not_le.mpr hbl
  obtain ⟨⟨hR, htn⟩, ⟨hS0, hS1⟩, ⟨hH, hsp, hkt, hkn, hrN⟩, ⟨hPd, hlm⟩, hVF, hpo, hod⟩ := hI
  subst hkn
  subst hlm
  have hI : LInv fS fB fT fV fP kn lm z0 z1 sp kn lm po od cS cV cF tn n0 e0 n1 e1 n d rN rD := ⟨⟨hR, htn⟩, ⟨hS0, hS1⟩, ⟨hH, hsp, hkt, rfl, hrN⟩, ⟨hPd, rfl⟩, hVF, hpo, hod⟩
  have hn := hR.1.1.2.2
  refine lv_aload_n hx hb dL_law_26 rfl (lv_at hl 3 rfl) ?_
  refine lv_iload_n hx hb dL_law_27 rfl (lv_at hl 0 rfl) ?_
  refine va_sld hx hb hX hbl hbA hS (vp_in_nI (by omega) (by omega)) dL_law_28 ?_
  refine lv_bipush (v := 31) hx hb dL_law_29 (by decide) ?_
  refine lv_iand hx hb dL_law_31 ?_
  refine byc (P := ((xs (nI i).toNatClampNeg) &&& 31) = 0) (fun c_0 => ?_) (fun c_0 => ?_)
  · refine lv_tableIn (off := 100) (tgt := 132) hx hb dL_law_32 (by rw [c_0]; decide) (by rw [c_0]; decide) (by rw [c_0]; rfl) (by decide) ?_
    rcases size_cases (xs (nI (i + 1)).toNatClampNeg) with cb | ⟨k, hk1, hk, ek⟩
    · exact lo_resize_no hx hb hml hown hts hX hbl hbd hgr hL hi hKL rfl cb hI H locs ls hP hD hS hl
    · exact lo_resize_in hx hb hml hown hts hX hbl hbd hgr hL hi hKL ek hk1 hk hI H locs ls hP hD hS hl
  refine byc (P := ((xs (nI i).toNatClampNeg) &&& 31) = 1) (fun c_1 => ?_) (fun c_1 => ?_)
  · refine lv_tableIn (off := 123) (tgt := 155) hx hb dL_law_32 (by rw [c_1]; decide) (by rw [c_1]; decide) (by rw [c_1]; rfl) (by decide) ?_
    rcases place_cases hn (xs (nI (i + 1)).toNatClampNeg) with cb | ⟨j, hj, ej⟩
    · exact lo_write_no hx hb hml hown hts hX hbl hbd hgr hL hi hKL rfl rfl cb hI H locs ls hP hD hS hl
    · exact lo_write_in hx hb hml hown hts hX hbl hbd hgr hL hi hKL ej rfl hj hI H locs ls hP hD hS hl
  refine byc (P := ((xs (nI i).toNatClampNeg) &&& 31) = 2) (fun c_2 => ?_) (fun c_2 => ?_)
  · refine lv_tableIn (off := 156) (tgt := 188) hx hb dL_law_32 (by rw [c_2]; decide) (by rw [c_2]; decide) (by rw [c_2]; rfl) (by decide) ?_
    by_cases c0 : (xs (nI (i + 1)).toNatClampNeg) = 0
    · exact lo_await_0 hx hb hml hown hts hX hbl hbd hgr hL hi hKL c0 rfl  hI H locs ls hP hD hS hl
    · by_cases c1 : (xs (nI (i + 1)).toNatClampNeg) = 1
      · exact lo_await_1 hx hb hml hown hts hX hbl hbd hgr hL hi hKL c1 rfl  hI H locs ls hP hD hS hl
      · exact lo_await_no hx hb hml hown hts hX hbl hbd hgr hL hi hKL rfl rfl c0 c1 hI H locs ls hP hD hS hl
  refine byc (P := ((xs (nI i).toNatClampNeg) &&& 31) = 3) (fun c_3 => ?_) (fun c_3 => ?_)
  · refine lv_tableIn (off := 189) (tgt := 221) hx hb dL_law_32 (by rw [c_3]; decide) (by rw [c_3]; decide) (by rw [c_3]; rfl) (by decide) ?_
    by_cases c0 : (xs (nI (i + 1)).toNatClampNeg) = 0
    · rcases place_cases hn (xs (nI (i + 2)).toNatClampNeg) with cb | ⟨j, hj, ej⟩
      · exact lo_wipeOut_0n hx hb hml hown hts hX hbl hbd hgr hL hi hKL c0 rfl cb hI H locs ls hP hD hS hl
      · exact lo_wipeOut_0 hx hb hml hown hts hX hbl hbd hgr hL hi hKL c0 ej hj hI H locs ls hP hD hS hl
    · by_cases c1 : (xs (nI (i + 1)).toNatClampNeg) = 1
      · rcases place_cases hn (xs (nI (i + 2)).toNatClampNeg) with cb | ⟨j, hj, ej⟩
        · exact lo_wipeOut_1n hx hb hml hown hts hX hbl hbd hgr hL hi hKL c1 rfl cb hI H locs ls hP hD hS hl
        · exact lo_wipeOut_1 hx hb hml hown hts hX hbl hbd hgr hL hi hKL c1 ej hj hI H locs ls hP hD hS hl
      · exact lo_wipeOut_no hx hb hml hown hts hX hbl hbd hgr hL hi hKL rfl rfl c0 c1 hI H locs ls hP hD hS hl
  refine byc (P := ((xs (nI i).toNatClampNeg) &&& 31) = 4) (fun c_4 => ?_) (fun c_4 => ?_)
  · refine lv_tableIn (off := 222) (tgt := 254) hx hb dL_law_32 (by rw [c_4]; decide) (by rw [c_4]; decide) (by rw [c_4]; rfl) (by decide) ?_
    rcases place_cases hn (xs (nI (i + 1)).toNatClampNeg) with cb | ⟨j, hj, ej⟩
    · exact lo_read_no hx hb hml hown hts hX hbl hbd hgr hL hi hKL rfl cb hI H locs ls hP hD hS hl
    · exact lo_read_in hx hb hml hown hts hX hbl hbd hgr hL hi hKL ej hj hI H locs ls hP hD hS hl
  refine byc (P := ((xs (nI i).toNatClampNeg) &&& 31) = 5) (fun c_5 => ?_) (fun c_5 => ?_)
  · refine lv_tableIn (off := 245) (tgt := 277) hx hb dL_law_32 (by rw [c_5]; decide) (by rw [c_5]; decide) (by rw [c_5]; rfl) (by decide) ?_
    rcases place_cases hn (xs (nI (i + 1)).toNatClampNeg) with cb | ⟨j, hj, ej⟩
    · exact lo_mend_no hx hb hml hown hts hX hbl hbd hgr hL hi hKL rfl cb hI H locs ls hP hD hS hl
    · exact lo_mend_in hx hb hml hown hts hX hbl hbd hgr hL hi hKL ej hj hI H locs ls hP hD hS hl
  refine byc (P := ((xs (nI i).toNatClampNeg) &&& 31) = 6) (fun c_6 => ?_) (fun c_6 => ?_)
  · refine lv_tableIn (off := 268) (tgt := 300) hx hb dL_law_32 (by rw [c_6]; decide) (by rw [c_6]; decide) (by rw [c_6]; rfl) (by decide) ?_
    exact lo_scrub hx hb hml hown hts hX hbl hbd hgr hL hi hKL   hI H locs ls hP hD hS hl
  refine byc (P := ((xs (nI i).toNatClampNeg) &&& 31) = 7) (fun c_7 => ?_) (fun c_7 => ?_)
  · refine lv_tableIn (off := 281) (tgt := 313) hx hb dL_law_32 (by rw [c_7]; decide) (by rw [c_7]; decide) (by rw [c_7]; rfl) (by decide) ?_
    by_cases c0 : (xs (nI (i + 1)).toNatClampNeg) = 0
    · rcases place_cases hn (xs (nI (i + 2)).toNatClampNeg) with cb | ⟨j, hj, ej⟩
      · exact lo_block_0n hx hb hml hown hts hX hbl hbd hgr hL hi hKL c0 rfl rfl cb hI H locs ls hP hD hS hl
      · exact lo_block_0 hx hb hml hown hts hX hbl hbd hgr hL hi hKL c0 ej rfl hj hI H locs ls hP hD hS hl
    · by_cases c1 : (xs (nI (i + 1)).toNatClampNeg) = 1
      · rcases place_cases hn (xs (nI (i + 2)).toNatClampNeg) with cb | ⟨j, hj, ej⟩
        · exact lo_block_1n hx hb hml hown hts hX hbl hbd hgr hL hi hKL c1 rfl rfl cb hI H locs ls hP hD hS hl
        · exact lo_block_1 hx hb hml hown hts hX hbl hbd hgr hL hi hKL c1 ej rfl hj hI H locs ls hP hD hS hl
      · exact lo_block_no hx hb hml hown hts hX hbl hbd hgr hL hi hKL rfl rfl rfl c0 c1 hI H locs ls hP hD hS hl
  refine byc (P := ((xs (nI i).toNatClampNeg) &&& 31) = 8) (fun c_8 => ?_) (fun c_8 => ?_)
  · refine lv_tableIn (off := 324) (tgt := 356) hx hb dL_law_32 (by rw [c_8]; decide) (by rw [c_8]; decide) (by rw [c_8]; rfl) (by decide) ?_
    rcases place_cases hn (xs (nI (i + 1)).toNatClampNeg) with cb | ⟨j, hj, ej⟩
    · exact lo_round_no hx hb hml hown hts hX hbl hbd hgr hL hi hKL rfl cb hI H locs ls hP hD hS hl
    · exact lo_round_in hx hb hml hown hts hX hbl hbd hgr hL hi hKL ej hj hI H locs ls hP hD hS hl
  refine byc (P := ((xs (nI i).toNatClampNeg) &&& 31) = 9) (fun c_9 => ?_) (fun c_9 => ?_)
  · refine lv_tableIn (off := 347) (tgt := 379) hx hb dL_law_32 (by rw [c_9]; decide) (by rw [c_9]; decide) (by rw [c_9]; rfl) (by decide) ?_
    exact lo_places hx hb hml hown hts hX hbl hbd hgr hL hi hKL rfl  hI H locs ls hP hD hS hl
  refine byc (P := ((xs (nI i).toNatClampNeg) &&& 31) = 10) (fun c_10 => ?_) (fun c_10 => ?_)
  · refine lv_tableIn (off := 371) (tgt := 403) hx hb dL_law_32 (by rw [c_10]; decide) (by rw [c_10]; decide) (by rw [c_10]; rfl) (by decide) ?_
    exact lo_count hx hb hml hown hts hX hbl hbd hgr hL hi hKL rfl  hI H locs ls hP hD hS hl
  refine byc (P := ((xs (nI i).toNatClampNeg) &&& 31) = 11) (fun c_11 => ?_) (fun c_11 => ?_)
  · refine lv_tableIn (off := 394) (tgt := 426) hx hb dL_law_32 (by rw [c_11]; decide) (by rw [c_11]; decide) (by rw [c_11]; rfl) (by decide) ?_
    exact lo_share hx hb hml hown hts hX hbl hbd hgr hL hi hKL   hI H locs ls hP hD hS hl
  refine byc (P := ((xs (nI i).toNatClampNeg) &&& 31) = 12) (fun c_12 => ?_) (fun c_12 => ?_)
  · refine lv_tableIn (off := 407) (tgt := 439) hx hb dL_law_32 (by rw [c_12]; decide) (by rw [c_12]; decide) (by rw [c_12]; rfl) (by decide) ?_
    rcases place_cases hn (xs (nI (i + 1)).toNatClampNeg) with ca | ⟨k, hk, ek⟩
    · rcases place_cases hn (xs (nI (i + 2)).toNatClampNeg) with cb | ⟨j, hj, ej⟩
      · exact lo_would_nn hx hb hml hown hts hX hbl hbd hgr hL hi hKL rfl rfl rfl ca cb hI H locs ls hP hD hS hl
      · exact lo_would_ni hx hb hml hown hts hX hbl hbd hgr hL hi hKL rfl ej rfl ca hj hI H locs ls hP hD hS hl
    · rcases place_cases hn (xs (nI (i + 2)).toNatClampNeg) with cb | ⟨j, hj, ej⟩
      · exact lo_would_in hx hb hml hown hts hX hbl hbd hgr hL hi hKL ek rfl rfl hk cb hI H locs ls hP hD hS hl
      · exact lo_would_ii hx hb hml hown hts hX hbl hbd hgr hL hi hKL ek ej rfl hk hj hI H locs ls hP hD hS hl
  refine byc (P := ((xs (nI i).toNatClampNeg) &&& 31) = 13) (fun c_13 => ?_) (fun c_13 => ?_)
  · refine lv_tableIn (off := 450) (tgt := 482) hx hb dL_law_32 (by rw [c_13]; decide) (by rw [c_13]; decide) (by rw [c_13]; rfl) (by decide) ?_
    rcases place_cases hn (xs (nI (i + 1)).toNatClampNeg) with cb | ⟨j, hj, ej⟩
    · exact lo_losing_no hx hb hml hown hts hX hbl hbd hgr hL hi hKL rfl rfl cb hI H locs ls hP hD hS hl
    · rcases ls_er hR (xd := (xs (nI (i + 2)).toNatClampNeg)) hj with ⟨hF, hE⟩ | ⟨hF, hE⟩
      · exact lo_losing_ok hx hb hml hown hts hX hbl hbd hgr hL hi hKL ej rfl hj hF hE hI H locs ls hP hD hS hl
      · exact lo_losing_er hx hb hml hown hts hX hbl hbd hgr hL hi hKL ej rfl hj hF hE hI H locs ls hP hD hS hl
  refine byc (P := ((xs (nI i).toNatClampNeg) &&& 31) = 14) (fun c_14 => ?_) (fun c_14 => ?_)
  · refine lv_tableIn (off := 483) (tgt := 515) hx hb dL_law_32 (by rw [c_14]; decide) (by rw [c_14]; decide) (by rw [c_14]; rfl) (by decide) ?_
    exact lo_put hx hb hml hown hts hX hbl hbd hgr hL hi hKL rfl rfl  hI H locs ls hP hD hS hl
  refine byc (P := ((xs (nI i).toNatClampNeg) &&& 31) = 15) (fun c_15 => ?_) (fun c_15 => ?_)
  · refine lv_tableIn (off := 536) (tgt := 568) hx hb dL_law_32 (by rw [c_15]; decide) (by rw [c_15]; decide) (by rw [c_15]; rfl) (by decide) ?_
    exact lo_wipe hx hb hml hown hts hX hbl hbd hgr hL hi hKL   hI H locs ls hP hD hS hl
  refine byc (P := ((xs (nI i).toNatClampNeg) &&& 31) = 16) (fun c_16 => ?_) (fun c_16 => ?_)
  · refine lv_tableIn (off := 549) (tgt := 581) hx hb dL_law_32 (by rw [c_16]; decide) (by rw [c_16]; decide) (by rw [c_16]; rfl) (by decide) ?_
    exact lo_fault hx hb hml hown hts hX hbl hbd hgr hL hi hKL   hI H locs ls hP hD hS hl
  refine byc (P := ((xs (nI i).toNatClampNeg) &&& 31) = 17) (fun c_17 => ?_) (fun c_17 => ?_)
  · refine lv_tableIn (off := 562) (tgt := 594) hx hb dL_law_32 (by rw [c_17]; decide) (by rw [c_17]; decide) (by rw [c_17]; rfl) (by decide) ?_
    exact lo_carryOut hx hb hml hown hts hX hbl hbd hgr hL hi hKL   hI H locs ls hP hD hS hl
  refine byc (P := ((xs (nI i).toNatClampNeg) &&& 31) = 18) (fun c_18 => ?_) (fun c_18 => ?_)
  · refine lv_tableIn (off := 575) (tgt := 607) hx hb dL_law_32 (by rw [c_18]; decide) (by rw [c_18]; decide) (by rw [c_18]; rfl) (by decide) ?_
    rcases Nat.eq_zero_or_pos kn with z | z
    · subst z
      exact lo_undo_0 hx hb hml hown hts hX hbl hbd hgr hL hi hKL   hI H locs ls hP hD hS hl
    · exact lo_undo_k hx hb hml hown hts hX hbl hbd hgr hL hi hKL  z hI H locs ls hP hD hS hl
  refine byc (P := ((xs (nI i).toNatClampNeg) &&& 31) = 19) (fun c_19 => ?_) (fun c_19 => ?_)
  · refine lv_tableIn (off := 588) (tgt := 620) hx hb dL_law_32 (by rw [c_19]; decide) (by rw [c_19]; decide) (by rw [c_19]; rfl) (by decide) ?_
    by_cases c0 : (xs (nI (i + 1)).toNatClampNeg) = 0
    · exact lo_save_0 hx hb hml hown hts hX hbl hbd hgr hL hi hKL c0  hI H locs ls hP hD hS hl
    · by_cases c1 : (xs (nI (i + 1)).toNatClampNeg) = 1
      · exact lo_save_1 hx hb hml hown hts hX hbl hbd hgr hL hi hKL c1  hI H locs ls hP hD hS hl
      · exact lo_save_no hx hb hml hown hts hX hbl hbd hgr hL hi hKL rfl c0 c1 hI H locs ls hP hD hS hl
  refine byc (P := ((xs (nI i).toNatClampNeg) &&& 31) = 20) (fun c_20 => ?_) (fun c_20 => ?_)
  · refine lv_tableIn (off := 611) (tgt := 643) hx hb dL_law_32 (by rw [c_20]; decide) (by rw [c_20]; decide) (by rw [c_20]; rfl) (by decide) ?_
    by_cases c0 : (xs (nI (i + 1)).toNatClampNeg) = 0
    · rcases hS0.2.1 with z | z
      · subst z
        exact lo_restore_00 hx hb hml hown hts hX hbl hbd hgr hL hi hKL c0  hI H locs ls hP hD hS hl
      · subst z
        exact lo_restore_01 hx hb hml hown hts hX hbl hbd hgr hL hi hKL c0  hI H locs ls hP hD hS hl
    · by_cases c1 : (xs (nI (i + 1)).toNatClampNeg) = 1
      · rcases hS1.2.1 with z | z
        · subst z
          exact lo_restore_10 hx hb hml hown hts hX hbl hbd hgr hL hi hKL c1  hI H locs ls hP hD hS hl
        · subst z
          exact lo_restore_11 hx hb hml hown hts hX hbl hbd hgr hL hi hKL c1  hI H locs ls hP hD hS hl
      · exact lo_restore_no hx hb hml hown hts hX hbl hbd hgr hL hi hKL rfl c0 c1 hI H locs ls hP hD hS hl
  refine lv_tableOut (tgt := 666) hx hb dL_law_32 (by have g0 := lv_neT (a := 0) c_0 (by decide); have g1 := lv_neT (a := 1) c_1 (by decide); have g2 := lv_neT (a := 2) c_2 (by decide); have g3 := lv_neT (a := 3) c_3 (by decide); have g4 := lv_neT (a := 4) c_4 (by decide); have g5 := lv_neT (a := 5) c_5 (by decide); have g6 := lv_neT (a := 6) c_6 (by decide); have g7 := lv_neT (a := 7) c_7 (by decide); have g8 := lv_neT (a := 8) c_8 (by decide); have g9 := lv_neT (a := 9) c_9 (by decide); have g10 := lv_neT (a := 10) c_10 (by decide); have g11 := lv_neT (a := 11) c_11 (by decide); have g12 := lv_neT (a := 12) c_12 (by decide); have g13 := lv_neT (a := 13) c_13 (by decide); have g14 := lv_neT (a := 14) c_14 (by decide); have g15 := lv_neT (a := 15) c_15 (by decide); have g16 := lv_neT (a := 16) c_16 (by decide); have g17 := lv_neT (a := 17) c_17 (by decide); have g18 := lv_neT (a := 18) c_18 (by decide); have g19 := lv_neT (a := 19) c_19 (by decide); have g20 := lv_neT (a := 20) c_20 (by decide); omega) (by decide) ?_
  refine lv_iinc (v := nI (i + 4)) (lv' := [(3, .int (nI (i + 4))), (2, .ref oM), (1, .ref oX), (0, .ref b)]) hx hb dL_law_666 hl (k := 0) rfl (nI_add i 4) (by decide) rfl (fun ls hl => ?_)
  refine lv_goto (tgt := 18) hx hb dL_law_669 (by decide) ?_
  exact hKL _ _ _ _ _ _ _ _ _ _ _ _ _ _ _ _ _ _ _ _ _ _ _ _ _ _ _ _ _ _ _ _ _ _ hI _ _ _ hP hD hS (lv_sub hl [0, 1, 2, 3] rfl)
set_option maxHeartbeats 4000000 in
set_option maxRecDepth 100000 in
theorem law_loop (hx : p.tables.exec = Jvm.exec) (hb : c.code = code) (hml : c.maxLocals = 4) (hown : s.vm.findClass RL = some m.cls) (hts : ∀ w ∈ wsL_law, w.before #[Value.ref b] s = true) (hX : va_X b L xs s s.heap) (hbl : b < s.heap.size) (hbd : Bd D K s) (hgr : ∀ k, k < 7 → gr k = some (ra k 0)) (hL : L ≤ 2048) (hr : meth.sig.returnType = ret) (hlocks : meth.locks = false) : ∀ (nf i : Nat), L - i < nf → i ≤ L → ∀ (fS : Nat → Int32) (fA : Nat → Int32) (fB : Nat → Int32) (fT : Nat → Int32) (fV : Nat → Int32) (fP : Nat → Int32) (kn : Nat) (lm : Nat) (rp : Nat) (rq : Nat) (le : Int32) (on : Int32) (tw : Int32) (z0 : Int32) (z1 : Int32) (sp : Nat) (kt : Nat) (ln : Nat) (po : Nat) (od : Nat) (cS : Nat → Int32) (cV : Nat → Int32) (cF : Nat → Int32) (cE : Nat → Int32) (tn : Nat) (td : Nat → Nat → Int32) (n0 : Nat) (e0 : Nat → Nat → Int32) (n1 : Nat) (e1 : Nat → Nat → Int32) (n : Nat) (d : Nat → Nat → Int32) (rN : Nat → Nat) (rD : Nat → Nat → Nat → Int32), LInv fS fB fT fV fP kn lm z0 z1 sp kt ln po od cS cV cF tn n0 e0 n1 e1 n d rN rD → ∀ (H : Heap) (locs : List Loc) (ls : Array Slot), va_P D vwCl ([(oM, .inr (5, [.ref aS, .ref aA, .ref aB, .int (nI kn), .ref aT, .ref aV, .ref aP, .int (nI lm), .int (nI rp), .int (nI rq), .int le, .int on, .int tw])), (aS, .inl (K 0, 360, .inl fS)), (aA, .inl (K 0, 360, .inl fA)), (aB, .inl (K 0, 2160, .inl fB)), (aT, .inl (K 0, 720, .inl fT)), (aV, .inl (K 2, 2, .inl fV)), (aP, .inl (K 0, 80, .inl fP))] ++ ([(oX, .inr (4, [.ref (an 0), .ref (at_ 0), .ref (a0 0), .ref (a1 0), .int z0, .int z1, .ref oh, .ref oP])), (oh, .inr (1, [.ref aR, .int (nI sp), .int (nI kt)])), (aR, .inl (K 3, 7, .inr (.inr (.inr (.inr gr))))), (oP, .inr (2, [.ref pS, .int (nI ln), .int (nI po), .ref pV, .ref pF, .ref pE, .int (nI od)])), (pS, .inl (K 1, 80, .inl cS)), (pV, .inl (K 0, 40, .inl cV)), (pF, .inl (K 0, 40, .inl cF)), (pE, .inl (K 0, 40, .inl cE))] ++ (drW K at_ tn td ++ (drW K a0 n0 e0 ++ (drW K a1 n1 e1 ++ (drW K an n d ++ (drW K (ra sp) (rN sp) (rD sp) ++ (oth K ra rN rD sp)))))))) H → va_D (fun q : Nat => s.heap.size ≤ q) ([(oM, .inr (5, [.ref aS, .ref aA, .ref aB, .int (nI kn), .ref aT, .ref aV, .ref aP, .int (nI lm), .int (nI rp), .int (nI rq), .int le, .int on, .int tw])), (aS, .inl (K 0, 360, .inl fS)), (aA, .inl (K 0, 360, .inl fA)), (aB, .inl (K 0, 2160, .inl fB)), (aT, .inl (K 0, 720, .inl fT)), (aV, .inl (K 2, 2, .inl fV)), (aP, .inl (K 0, 80, .inl fP))] ++ ([(oX, .inr (4, [.ref (an 0), .ref (at_ 0), .ref (a0 0), .ref (a1 0), .int z0, .int z1, .ref oh, .ref oP])), (oh, .inr (1, [.ref aR, .int (nI sp), .int (nI kt)])), (aR, .inl (K 3, 7, .inr (.inr (.inr (.inr gr))))), (oP, .inr (2, [.ref pS, .int (nI ln), .int (nI po), .ref pV, .ref pF, .ref pE, .int (nI od)])), (pS, .inl (K 1, 80, .inl cS)), (pV, .inl (K 0, 40, .inl cV)), (pF, .inl (K 0, 40, .inl cF)), (pE, .inl (K 0, 40, .inl cE))] ++ (drW K at_ tn td ++ (drW K a0 n0 e0 ++ (drW K a1 n1 e1 ++ (drW K an n d ++ (drW K (ra sp) (rN sp) (rD sp) ++ (oth K ra rN rD sp)))))))) → va_S (fun q : Nat => s.heap.size ≤ q) s.heap H locs → lv_has ls 4 [(3, .int (nI i)), (2, .ref oM), (1, .ref oX), (0, .ref b)] → W p l e room_1 s m #[Value.ref b] below meth c H locs 600000 7302250 (lw_Z below #[Value.ref b] s) (F0 m 18 ls []) := by
  have hbA : ¬ (fun q : Nat => s.heap.size ≤ q) b := Nat.not_le.mpr hbl
  intro nf
  induction nf with
  | zero =>
    intro i hm
    exact absurd hm (Nat.not_lt_zero _)
  | succ nf ih =>
    intro i hm hi fS fA fB fT fV fP kn lm rp rq le on tw z0 z1 sp kt ln po od cS cV cF cE tn td n0 e0 n1 e1 n d rN rD hI H locs ls hP hD hS hl
    refine lv_iload_n hx hb dL_law_18 rfl (lv_at hl 0 rfl) ?_
    refine lv_aload_n hx hb dL_law_19 rfl (lv_at hl 3 rfl) ?_
    refine va_slen hx hb hX hbl hbA hS dL_law_20 ?_
    refine lv_iconst (v := 4) hx hb dL_law_21 (by decide) ?_
    refine lv_isub hx hb dL_law_22 ?_
    refine lv_icmp_gt (tgt := 672) hx hb dL_law_23 (by decide) (fun c_1 => ?_) (fun c_1 => ?_)
    · refine lv_iconst (v := 1) hx hb dL_law_672 (by decide) ?_
      refine va_forget (fun q hq => hS.2.2 q hq) ?_
      exact lw_ret (d0 := s.drawn) (Drawn.sameBut.refl s.drawn lw_cs) hx hb hr hlocks dL_law_673
    · have h4 := loop_lt hi hL c_1
      exact law_case hx hb hml hown hts hX hbl hbd hgr hL h4 (ih (i + 4) (by omega) h4) fS fA fB fT fV fP kn lm rp rq le on tw z0 z1 sp kt ln po od cS cV cF cE tn td n0 e0 n1 e1 n d rN rD hI H locs ls hP hD hS hl
