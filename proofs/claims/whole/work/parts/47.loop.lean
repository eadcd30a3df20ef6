theorem tbl_k {v : Int32} (h : ¬ (v.toInt < 0 ∨ 35 < v.toInt)) : ∃ k : Nat, k ≤ 35 ∧ v = nI k := by
  refine ⟨v.toInt.toNat, by omega, ?_⟩
  apply Int32.toInt_inj.mp
  rw [nI_toInt (by omega)]
  omega
theorem tbl_lo {k : Nat} (h : k ≤ 35) : ¬ (nI k).toInt < 0 := by rw [nI_toInt (by omega)]; omega
theorem tbl_hi {k : Nat} (h : k ≤ 35) : ¬ 35 < (nI k).toInt := by rw [nI_toInt (by omega)]; omega
theorem tbl_at {k : Nat} {offs : Array Int} {off : Int} (h : k ≤ 35) (ho : offs[k]? = some off) : offs[((nI k).toInt - 0).toNat]? = some off := by
  rw [nI_toInt (by omega), show ((k : Int) - 0).toNat = k by omega]
  exact ho
set_option maxHeartbeats 4000000 in
set_option maxRecDepth 100000 in
/-- the law's loop -/
theorem law_loop {p : Program} {l : Launch} {e : Env} {s : State} {m : MethodId} {below : List Frame} {meth : Method} {c : Code} {b L : Nat} {xs : Nat → Int32} {D : va_G} {A : Nat → Prop} {cA cL : ClassId} {Q : State → Prop} (hl0 : l.stackTraces = false) (F : CallFix p m c cL_law 9 s #[Value.ref b] wsL_law RL) (hXs : va_X b L xs s s.heap) (hbl : b < s.heap.size) (hbA : ¬ A b) (hA : ∀ q, s.heap.size ≤ q → A q) (hK : va_K D vwCl [(cA, .int), (cL, .long)] s) (hXE : XE A s s.heap) (hL : L ≤ 2560) (hret : ∀ (H : Heap) (locs : List Loc) (ls : Array Slot) (cells slots : Nat), cells ≤ 601024 → slots ≤ 7293034 → va_S A s.heap H locs → W p l e room_1 s m #[Value.ref b] below meth c H locs cells slots Q (F0 m 1853 ls [])) {h0 aV aW aR aP aK aL aQ aS m0 bV bW bR bP9 bK bT bC aO : Nat} :
    ∀ (k i nc0 ns0 : Nat), L + 5 ≤ i + 5 * k → i ≤ L → nc0 + 120 * k ≤ 601024 → ns0 + 1100 * k ≤ 7293034 → ∀ (n : Nat) (rg : Int32) (st : Int32) (fV : Nat → Int32) (fW : Nat → Int32) (fR : Nat → Int32) (fP : Nat → Int32) (fK : Nat → Int32) (fL : Nat → Int32) (lv : Int32) (fS : Nat → Int32) (th : Int32) (fT : Nat → Int32) (fC : Nat → Int32) (fO : Nat → Int64), n ≤ 12 → Inv fW fR fP fK n → ∀ (H : Heap) (locs : List Loc), va_P D vwCl [(h0, .inr (1, [.int (nI n), .int rg, .int st, .ref aV, .ref aW, .ref aR, .ref aP, .ref aK, .ref aL, .ref aQ])), (aV, .inl (cA, 12, .inl fV)), (aW, .inl (cA, 12, .inl fW)), (aR, .inl (cA, 12, .inl fR)), (aP, .inl (cA, 12, .inl fP)), (aK, .inl (cA, 12, .inl fK)), (aL, .inl (cA, 12, .inl fL)), (aQ, .inr (0, [.ref aS, .int lv])), (aS, .inl (cA, 12, .inl fS)), (m0, .inr (2, [.int th, .int (nI n), .int rg, .int st, .ref bV, .ref bW, .ref bR, .ref bP9, .ref bK, .ref bT, .ref bC])), (bV, .inl (cA, 12, .inl fV)), (bW, .inl (cA, 12, .inl fW)), (bR, .inl (cA, 12, .inl fR)), (bP9, .inl (cA, 12, .inl fP)), (bK, .inl (cA, 12, .inl fK)), (bT, .inl (cA, 12, .inl fT)), (bC, .inl (cA, 41, .inl fC)), (aO, .inl (cL, 1, .inr (.inl fO)))] H → va_D A [(h0, .inr (1, [.int (nI n), .int rg, .int st, .ref aV, .ref aW, .ref aR, .ref aP, .ref aK, .ref aL, .ref aQ])), (aV, .inl (cA, 12, .inl fV)), (aW, .inl (cA, 12, .inl fW)), (aR, .inl (cA, 12, .inl fR)), (aP, .inl (cA, 12, .inl fP)), (aK, .inl (cA, 12, .inl fK)), (aL, .inl (cA, 12, .inl fL)), (aQ, .inr (0, [.ref aS, .int lv])), (aS, .inl (cA, 12, .inl fS)), (m0, .inr (2, [.int th, .int (nI n), .int rg, .int st, .ref bV, .ref bW, .ref bR, .ref bP9, .ref bK, .ref bT, .ref bC])), (bV, .inl (cA, 12, .inl fV)), (bW, .inl (cA, 12, .inl fW)), (bR, .inl (cA, 12, .inl fR)), (bP9, .inl (cA, 12, .inl fP)), (bK, .inl (cA, 12, .inl fK)), (bT, .inl (cA, 12, .inl fT)), (bC, .inl (cA, 41, .inl fC)), (aO, .inl (cL, 1, .inr (.inl fO)))] → va_S A s.heap H locs → ∀ ls : Array Slot, lv_has ls 9 [(4, .int (nI i)), (3, .ref aO), (2, .ref m0), (1, .ref h0), (0, .ref b)] → W p l e room_1 s m #[Value.ref b] below meth c H locs nc0 ns0 Q (F0 m 23 ls []) := by
  have hx := F.1
  have hb := F.2.1
  intro k
  induction k with
  | zero =>
    intro i nc0 ns0 h1 h2
    exact absurd h1 (by omega)
  | succ k ih =>
    intro i nc0 ns0 hk hiL hnc hns n rg st fV fW fR fP fK fL lv fS th fT fC fO hn hI H locs hP hD hS ls hl
    refine lv_iload hx hb dL_law_23 (lv_at hl 0 rfl) ?_
    refine lv_aload_n hx hb dL_law_25 rfl (lv_at hl 4 rfl) ?_
    refine va_slen hx hb hXs hbl hbA hS dL_law_26 ?_
    refine topi (nI L) rfl ?_
    refine lv_iconst (v := 5) hx hb dL_law_27 (by decide) ?_
    refine lv_isub hx hb dL_law_28 ?_
    refine lv_icmp_gt (tgt := 1853) hx hb dL_law_29 (by decide) (fun c_29 => ?_) (fun c_29 => ?_)
    · exact hret H locs ls nc0 ns0 (by omega) (by omega) hS
    · have hi5 : i + 5 ≤ L := by
        have h9 : ¬ L < i + 5 := fun z => c_29 ((nI_lo (by omega) (by omega)).mpr z)
        omega
      have hend : LE p l e s m below meth c b D A cA cL Q h0 aV aW aR aP aK aL aQ aS m0 bV bW bR bP9 bK bT bC aO i (nc0 + 120) (ns0 + 1100) := by
        intro n rg st fV fW fR fP fK fL lv fS th fT fC fO hn hI H locs hP hD hS ls hl
        refine lv_iinc (v := nI (i + 5)) (lv' := [(4, .int (nI (i + 5))), (3, .ref aO), (2, .ref m0), (1, .ref h0), (0, .ref b)]) hx hb dL_law_1847 hl (k := 0) rfl (nI_add i 5) (by decide) rfl (fun ls hl => ?_)
        refine lv_goto (tgt := 23) hx hb dL_law_1850 (by decide) ?_
        exact ih (i + 5) (nc0 + 120) (ns0 + 1100) (by omega) (by omega) (by omega) (by omega) n rg st fV fW fR fP fK fL lv fS th fT fC fO hn hI H locs hP hD hS ls hl
      refine lv_aload_n hx hb dL_law_32 rfl (lv_at hl 4 rfl) ?_
      refine lv_iload hx hb dL_law_33 (lv_at hl 0 rfl) ?_
      refine va_sld hx hb hXs hbl hbA hS (vp_in_nI (show i < L by omega) (by omega)) dL_law_35 ?_
      refine lv_bipush (v := 63) hx hb dL_law_36 (by decide) ?_
      refine lv_iand hx hb dL_law_38 ?_
      refine lv_topi (fun v hv => ?_)
      rcases Classical.em (v.toInt < 0 ∨ 35 < v.toInt) with ho | ho
      · refine lv_tableOut (tgt := 1847) hx hb dL_law_39 ho (by decide) ?_
        refine W.widen (k := nc0 + 120) (n := ns0 + 1100) (by omega) (by omega) ?_
        exact hend n rg st fV fW fR fP fK fL lv fS th fT fC fO hn hI H locs hP hD hS ls hl
      · obtain ⟨k9, hk9, rfl⟩ := tbl_k ho
        rcases (show k9 = 0 ∨ k9 = 1 ∨ k9 = 2 ∨ k9 = 3 ∨ k9 = 4 ∨ k9 = 5 ∨ k9 = 6 ∨ k9 = 7 ∨ k9 = 8 ∨ k9 = 9 ∨ k9 = 10 ∨ k9 = 11 ∨ k9 = 12 ∨ k9 = 13 ∨ k9 = 14 ∨ k9 = 15 ∨ k9 = 16 ∨ k9 = 17 ∨ k9 = 18 ∨ k9 = 19 ∨ k9 = 20 ∨ k9 = 21 ∨ k9 = 22 ∨ k9 = 23 ∨ k9 = 24 ∨ k9 = 25 ∨ k9 = 26 ∨ k9 = 27 ∨ k9 = 28 ∨ k9 = 29 ∨ k9 = 30 ∨ k9 = 31 ∨ k9 = 32 ∨ k9 = 33 ∨ k9 = 34 ∨ k9 = 35 by omega) with rfl | rfl | rfl | rfl | rfl | rfl | rfl | rfl | rfl | rfl | rfl | rfl | rfl | rfl | rfl | rfl | rfl | rfl | rfl | rfl | rfl | rfl | rfl | rfl | rfl | rfl | rfl | rfl | rfl | rfl | rfl | rfl | rfl | rfl | rfl | rfl
        · refine lv_tableIn (off := 157) (tgt := 196) hx hb dL_law_39 (tbl_lo (by omega)) (tbl_hi (by omega)) (tbl_at (by omega) rfl) (by decide) ?_
          exact law_c0 hl0 F hXs hbl hbA hA hK hXE hL hi5 (by omega) (by omega) hend n rg st fV fW fR fP fK fL lv fS th fT fC fO hn hI hP hD hS hl
        · refine lv_tableIn (off := 249) (tgt := 288) hx hb dL_law_39 (tbl_lo (by omega)) (tbl_hi (by omega)) (tbl_at (by omega) rfl) (by decide) ?_
          exact law_c1 hl0 F hXs hbl hbA hA hK hXE hL hi5 (by omega) (by omega) hend n rg st fV fW fR fP fK fL lv fS th fT fC fO hn hI hP hD hS hl
        · refine lv_tableIn (off := 305) (tgt := 344) hx hb dL_law_39 (tbl_lo (by omega)) (tbl_hi (by omega)) (tbl_at (by omega) rfl) (by decide) ?_
          exact law_c2 hl0 F hXs hbl hbA hA hK hXE hL hi5 (by omega) (by omega) hend n rg st fV fW fR fP fK fL lv fS th fT fC fO hn hI hP hD hS hl
        · refine lv_tableIn (off := 373) (tgt := 412) hx hb dL_law_39 (tbl_lo (by omega)) (tbl_hi (by omega)) (tbl_at (by omega) rfl) (by decide) ?_
          exact law_c3 hl0 F hXs hbl hbA hA hK hXE hL hi5 (by omega) (by omega) hend n rg st fV fW fR fP fK fL lv fS th fT fC fO hn hI hP hD hS hl
        · refine lv_tableIn (off := 441) (tgt := 480) hx hb dL_law_39 (tbl_lo (by omega)) (tbl_hi (by omega)) (tbl_at (by omega) rfl) (by decide) ?_
          exact law_c4 hl0 F hXs hbl hbA hA hK hXE hL hi5 (by omega) (by omega) hend n rg st fV fW fR fP fK fL lv fS th fT fC fO hn hI hP hD hS hl
        · refine lv_tableIn (off := 497) (tgt := 536) hx hb dL_law_39 (tbl_lo (by omega)) (tbl_hi (by omega)) (tbl_at (by omega) rfl) (by decide) ?_
          exact law_c5 hl0 F hXs hbl hbA hA hK hXE hL hi5 (by omega) (by omega) hend n rg st fV fW fR fP fK fL lv fS th fT fC fO hn hI hP hD hS hl
        · refine lv_tableIn (off := 553) (tgt := 592) hx hb dL_law_39 (tbl_lo (by omega)) (tbl_hi (by omega)) (tbl_at (by omega) rfl) (by decide) ?_
          exact law_c6 hl0 F hXs hbl hbA hA hK hXE hL hi5 (by omega) (by omega) hend n rg st fV fW fR fP fK fL lv fS th fT fC fO hn hI hP hD hS hl
        · refine lv_tableIn (off := 566) (tgt := 605) hx hb dL_law_39 (tbl_lo (by omega)) (tbl_hi (by omega)) (tbl_at (by omega) rfl) (by decide) ?_
          exact law_c7 hl0 F hXs hbl hbA hA hK hXE hL hi5 (by omega) (by omega) hend n rg st fV fW fR fP fK fL lv fS th fT fC fO hn hI hP hD hS hl
        · refine lv_tableIn (off := 579) (tgt := 618) hx hb dL_law_39 (tbl_lo (by omega)) (tbl_hi (by omega)) (tbl_at (by omega) rfl) (by decide) ?_
          exact law_c8 hl0 F hXs hbl hbA hA hK hXE hL hi5 (by omega) (by omega) hend n rg st fV fW fR fP fK fL lv fS th fT fC fO hn hI hP hD hS hl
        · refine lv_tableIn (off := 592) (tgt := 631) hx hb dL_law_39 (tbl_lo (by omega)) (tbl_hi (by omega)) (tbl_at (by omega) rfl) (by decide) ?_
          exact law_c9 hl0 F hXs hbl hbA hA hK hXE hL hi5 (by omega) (by omega) hend n rg st fV fW fR fP fK fL lv fS th fT fC fO hn hI hP hD hS hl
        · refine lv_tableIn (off := 648) (tgt := 687) hx hb dL_law_39 (tbl_lo (by omega)) (tbl_hi (by omega)) (tbl_at (by omega) rfl) (by decide) ?_
          exact law_c10 hl0 F hXs hbl hbA hA hK hXE hL hi5 (by omega) (by omega) hend n rg st fV fW fR fP fK fL lv fS th fT fC fO hn hI hP hD hS hl
        · refine lv_tableIn (off := 704) (tgt := 743) hx hb dL_law_39 (tbl_lo (by omega)) (tbl_hi (by omega)) (tbl_at (by omega) rfl) (by decide) ?_
          exact law_c11 hl0 F hXs hbl hbA hA hK hXE hL hi5 (by omega) (by omega) hend n rg st fV fW fR fP fK fL lv fS th fT fC fO hn hI hP hD hS hl
        · refine lv_tableIn (off := 760) (tgt := 799) hx hb dL_law_39 (tbl_lo (by omega)) (tbl_hi (by omega)) (tbl_at (by omega) rfl) (by decide) ?_
          exact law_c12 hl0 F hXs hbl hbA hA hK hXE hL hi5 (by omega) (by omega) hend n rg st fV fW fR fP fK fL lv fS th fT fC fO hn hI hP hD hS hl
        · refine lv_tableIn (off := 816) (tgt := 855) hx hb dL_law_39 (tbl_lo (by omega)) (tbl_hi (by omega)) (tbl_at (by omega) rfl) (by decide) ?_
          exact law_c13 hl0 F hXs hbl hbA hA hK hXE hL hi5 (by omega) (by omega) hend n rg st fV fW fR fP fK fL lv fS th fT fC fO hn hI hP hD hS hl
        · refine lv_tableIn (off := 872) (tgt := 911) hx hb dL_law_39 (tbl_lo (by omega)) (tbl_hi (by omega)) (tbl_at (by omega) rfl) (by decide) ?_
          exact law_c14 hl0 F hXs hbl hbA hA hK hXE hL hi5 (by omega) (by omega) hend n rg st fV fW fR fP fK fL lv fS th fT fC fO hn hI hP hD hS hl
        · refine lv_tableIn (off := 928) (tgt := 967) hx hb dL_law_39 (tbl_lo (by omega)) (tbl_hi (by omega)) (tbl_at (by omega) rfl) (by decide) ?_
          exact law_c15 hl0 F hXs hbl hbA hA hK hXE hL hi5 (by omega) (by omega) hend n rg st fV fW fR fP fK fL lv fS th fT fC fO hn hI hP hD hS hl
        · refine lv_tableIn (off := 941) (tgt := 980) hx hb dL_law_39 (tbl_lo (by omega)) (tbl_hi (by omega)) (tbl_at (by omega) rfl) (by decide) ?_
          exact law_c16 hl0 F hXs hbl hbA hA hK hXE hL hi5 (by omega) (by omega) hend n rg st fV fW fR fP fK fL lv fS th fT fC fO hn hI hP hD hS hl
        · refine lv_tableIn (off := 954) (tgt := 993) hx hb dL_law_39 (tbl_lo (by omega)) (tbl_hi (by omega)) (tbl_at (by omega) rfl) (by decide) ?_
          exact law_c17 hl0 F hXs hbl hbA hA hK hXE hL hi5 (by omega) (by omega) hend n rg st fV fW fR fP fK fL lv fS th fT fC fO hn hI hP hD hS hl
        · refine lv_tableIn (off := 998) (tgt := 1037) hx hb dL_law_39 (tbl_lo (by omega)) (tbl_hi (by omega)) (tbl_at (by omega) rfl) (by decide) ?_
          exact law_c18 hl0 F hXs hbl hbA hA hK hXE hL hi5 (by omega) (by omega) hend n rg st fV fW fR fP fK fL lv fS th fT fC fO hn hI hP hD hS hl
        · refine lv_tableIn (off := 1054) (tgt := 1093) hx hb dL_law_39 (tbl_lo (by omega)) (tbl_hi (by omega)) (tbl_at (by omega) rfl) (by decide) ?_
          exact law_c19 hl0 F hXs hbl hbA hA hK hXE hL hi5 (by omega) (by omega) hend n rg st fV fW fR fP fK fL lv fS th fT fC fO hn hI hP hD hS hl
        · refine lv_tableIn (off := 1110) (tgt := 1149) hx hb dL_law_39 (tbl_lo (by omega)) (tbl_hi (by omega)) (tbl_at (by omega) rfl) (by decide) ?_
          exact law_c20 hl0 F hXs hbl hbA hA hK hXE hL hi5 (by omega) (by omega) hend n rg st fV fW fR fP fK fL lv fS th fT fC fO hn hI hP hD hS hl
        · refine lv_tableIn (off := 1154) (tgt := 1193) hx hb dL_law_39 (tbl_lo (by omega)) (tbl_hi (by omega)) (tbl_at (by omega) rfl) (by decide) ?_
          exact law_c21 hl0 F hXs hbl hbA hA hK hXE hL hi5 (by omega) (by omega) hend n rg st fV fW fR fP fK fL lv fS th fT fC fO hn hI hP hD hS hl
        · refine lv_tableIn (off := 1210) (tgt := 1249) hx hb dL_law_39 (tbl_lo (by omega)) (tbl_hi (by omega)) (tbl_at (by omega) rfl) (by decide) ?_
          exact law_c22 hl0 F hXs hbl hbA hA hK hXE hL hi5 (by omega) (by omega) hend n rg st fV fW fR fP fK fL lv fS th fT fC fO hn hI hP hD hS hl
        · refine lv_tableIn (off := 1223) (tgt := 1262) hx hb dL_law_39 (tbl_lo (by omega)) (tbl_hi (by omega)) (tbl_at (by omega) rfl) (by decide) ?_
          exact law_c23 hl0 F hXs hbl hbA hA hK hXE hL hi5 (by omega) (by omega) hend n rg st fV fW fR fP fK fL lv fS th fT fC fO hn hI hP hD hS hl
        · refine lv_tableIn (off := 1267) (tgt := 1306) hx hb dL_law_39 (tbl_lo (by omega)) (tbl_hi (by omega)) (tbl_at (by omega) rfl) (by decide) ?_
          exact law_c24 hl0 F hXs hbl hbA hA hK hXE hL hi5 (by omega) (by omega) hend n rg st fV fW fR fP fK fL lv fS th fT fC fO hn hI hP hD hS hl
        · refine lv_tableIn (off := 1335) (tgt := 1374) hx hb dL_law_39 (tbl_lo (by omega)) (tbl_hi (by omega)) (tbl_at (by omega) rfl) (by decide) ?_
          exact law_c25 hl0 F hXs hbl hbA hA hK hXE hL hi5 (by omega) (by omega) hend n rg st fV fW fR fP fK fL lv fS th fT fC fO hn hI hP hD hS hl
        · refine lv_tableIn (off := 1403) (tgt := 1442) hx hb dL_law_39 (tbl_lo (by omega)) (tbl_hi (by omega)) (tbl_at (by omega) rfl) (by decide) ?_
          exact law_c26 hl0 F hXs hbl hbA hA hK hXE hL hi5 (by omega) (by omega) hend n rg st fV fW fR fP fK fL lv fS th fT fC fO hn hI hP hD hS hl
        · refine lv_tableIn (off := 1478) (tgt := 1517) hx hb dL_law_39 (tbl_lo (by omega)) (tbl_hi (by omega)) (tbl_at (by omega) rfl) (by decide) ?_
          exact law_c27 hl0 F hXs hbl hbA hA hK hXE hL hi5 (by omega) (by omega) hend n rg st fV fW fR fP fK fL lv fS th fT fC fO hn hI hP hD hS hl
        · refine lv_tableIn (off := 1534) (tgt := 1573) hx hb dL_law_39 (tbl_lo (by omega)) (tbl_hi (by omega)) (tbl_at (by omega) rfl) (by decide) ?_
          exact law_c28 hl0 F hXs hbl hbA hA hK hXE hL hi5 (by omega) (by omega) hend n rg st fV fW fR fP fK fL lv fS th fT fC fO hn hI hP hD hS hl
        · refine lv_tableIn (off := 1547) (tgt := 1586) hx hb dL_law_39 (tbl_lo (by omega)) (tbl_hi (by omega)) (tbl_at (by omega) rfl) (by decide) ?_
          exact law_c29 hl0 F hXs hbl hbA hA hK hXE hL hi5 (by omega) (by omega) hend n rg st fV fW fR fP fK fL lv fS th fT fC fO hn hI hP hD hS hl
        · refine lv_tableIn (off := 1615) (tgt := 1654) hx hb dL_law_39 (tbl_lo (by omega)) (tbl_hi (by omega)) (tbl_at (by omega) rfl) (by decide) ?_
          exact law_c30 hl0 F hXs hbl hbA hA hK hXE hL hi5 (by omega) (by omega) hend n rg st fV fW fR fP fK fL lv fS th fT fC fO hn hI hP hD hS hl
        · refine lv_tableIn (off := 1671) (tgt := 1710) hx hb dL_law_39 (tbl_lo (by omega)) (tbl_hi (by omega)) (tbl_at (by omega) rfl) (by decide) ?_
          exact law_c31 hl0 F hXs hbl hbA hA hK hXE hL hi5 (by omega) (by omega) hend n rg st fV fW fR fP fK fL lv fS th fT fC fO hn hI hP hD hS hl
        · refine lv_tableIn (off := 1684) (tgt := 1723) hx hb dL_law_39 (tbl_lo (by omega)) (tbl_hi (by omega)) (tbl_at (by omega) rfl) (by decide) ?_
          exact law_c32 hl0 F hXs hbl hbA hA hK hXE hL hi5 (by omega) (by omega) hend n rg st fV fW fR fP fK fL lv fS th fT fC fO hn hI hP hD hS hl
        · refine lv_tableIn (off := 1697) (tgt := 1736) hx hb dL_law_39 (tbl_lo (by omega)) (tbl_hi (by omega)) (tbl_at (by omega) rfl) (by decide) ?_
          exact law_c33 hl0 F hXs hbl hbA hA hK hXE hL hi5 (by omega) (by omega) hend n rg st fV fW fR fP fK fL lv fS th fT fC fO hn hI hP hD hS hl
        · refine lv_tableIn (off := 1753) (tgt := 1792) hx hb dL_law_39 (tbl_lo (by omega)) (tbl_hi (by omega)) (tbl_at (by omega) rfl) (by decide) ?_
          exact law_c34 hl0 F hXs hbl hbA hA hK hXE hL hi5 (by omega) (by omega) hend n rg st fV fW fR fP fK fL lv fS th fT fC fO hn hI hP hD hS hl
        · refine lv_tableIn (off := 1794) (tgt := 1833) hx hb dL_law_39 (tbl_lo (by omega)) (tbl_hi (by omega)) (tbl_at (by omega) rfl) (by decide) ?_
          exact law_c35 hl0 F hXs hbl hbA hA hK hXE hL hi5 (by omega) (by omega) hend n rg st fV fW fR fP fK fL lv fS th fT fC fO hn hI hP hD hS hl
theorem str_of {own tx : String} {k : Nat} {args : Array Value} {s : State} (h1 : (Cond.stringRef own k tx).before args s = true) (h2 : (Cond.exactly (.string own k) "java/lang/String").before args s = true) : ∃ a : Nat, vk_R own k tx a s := by
  cases hv : (Term.string own k).eval args s none [] s with
  | none => simp [Cond.before, Cond.holds, Cond.value, hv] at h2
  | some w =>
    cases w with
    | ref a => exact ⟨a, vk_R.of h1 hv⟩
    | null => cases hc : s.vm.findClass "java/lang/String" <;> simp [Cond.before, Cond.holds, Cond.value, hv, hc] at h2
    | _ => simp [Cond.before, Cond.holds, Cond.value, hv] at h2
set_option maxRecDepth 100000 in
theorem sx_58 {args : Array Value} {s : State} (hts : ∀ w ∈ lw_tbl, w.before args s = true) (hs : ∀ c ∈ flatC (Jvm.Cond.and given_1 narrow_1), c.before args s = true) : ∃ a : Nat, vk_R RX1 58 "there are 12 delegates" a s := str_of (hts (.stringRef RX1 58 "there are 12 delegates") (List.mem_append_right _ (List.mem_of_getElem? (i := 381) (by decide +kernel)))) (hs _ (by decide +kernel))
set_option maxRecDepth 100000 in
theorem sx_67 {args : Array Value} {s : State} (hts : ∀ w ∈ lw_tbl, w.before args s = true) (hs : ∀ c ∈ flatC (Jvm.Cond.and given_1 narrow_1), c.before args s = true) : ∃ a : Nat, vk_R RX1 67 "there is no room on that plank" a s := str_of (hts (.stringRef RX1 67 "there is no room on that plank") (List.mem_append_right _ (List.mem_of_getElem? (i := 382) (by decide +kernel)))) (hs _ (by decide +kernel))
set_option maxRecDepth 100000 in
theorem sx_80 {args : Array Value} {s : State} (hts : ∀ w ∈ lw_tbl, w.before args s = true) (hs : ∀ c ∈ flatC (Jvm.Cond.and given_1 narrow_1), c.before args s = true) : ∃ a : Nat, vk_R RX1 80 "this one is not willing to stand there" a s := str_of (hts (.stringRef RX1 80 "this one is not willing to stand there") (List.mem_append_right _ (List.mem_of_getElem? (i := 412) (by decide +kernel)))) (hs _ (by decide +kernel))
set_option maxRecDepth 100000 in
theorem sx_87 {args : Array Value} {s : State} (hts : ∀ w ∈ lw_tbl, w.before args s = true) (hs : ∀ c ∈ flatC (Jvm.Cond.and given_1 narrow_1), c.before args s = true) : ∃ a : Nat, vk_R RX1 87 "the strength is not 1 to 12" a s := str_of (hts (.stringRef RX1 87 "the strength is not 1 to 12") (List.mem_append_right _ (List.mem_of_getElem? (i := 424) (by decide +kernel)))) (hs _ (by decide +kernel))
set_option maxRecDepth 100000 in
theorem sx_121 {args : Array Value} {s : State} (hts : ∀ w ∈ lw_tbl, w.before args s = true) (hs : ∀ c ∈ flatC (Jvm.Cond.and given_1 narrow_1), c.before args s = true) : ∃ a : Nat, vk_R RX1 121 "the village has no delegates" a s := str_of (hts (.stringRef RX1 121 "the village has no delegates") (List.mem_append_right _ (List.mem_of_getElem? (i := 486) (by decide +kernel)))) (hs _ (by decide +kernel))
set_option maxRecDepth 100000 in
theorem sx_130 {args : Array Value} {s : State} (hts : ∀ w ∈ lw_tbl, w.before args s = true) (hs : ∀ c ∈ flatC (Jvm.Cond.and given_1 narrow_1), c.before args s = true) : ∃ a : Nat, vk_R RX1 130 "there are no other delegates" a s := str_of (hts (.stringRef RX1 130 "there are no other delegates") (List.mem_append_right _ (List.mem_of_getElem? (i := 494) (by decide +kernel)))) (hs _ (by decide +kernel))
set_option maxRecDepth 100000 in
theorem sx_234 {args : Array Value} {s : State} (hts : ∀ w ∈ lw_tbl, w.before args s = true) (hs : ∀ c ∈ flatC (Jvm.Cond.and given_1 narrow_1), c.before args s = true) : ∃ a : Nat, vk_R RX1 234 "there is no such delegate" a s := str_of (hts (.stringRef RX1 234 "there is no such delegate") (List.mem_append_right _ (List.mem_of_getElem? (i := 299) (by decide +kernel)))) (hs _ (by decide +kernel))
set_option maxRecDepth 100000 in
theorem sx_237 {args : Array Value} {s : State} (hts : ∀ w ∈ lw_tbl, w.before args s = true) (hs : ∀ c ∈ flatC (Jvm.Cond.and given_1 narrow_1), c.before args s = true) : ∃ a : Nat, vk_R RX1 237 "the village is not 0 to 4" a s := str_of (hts (.stringRef RX1 237 "the village is not 0 to 4") (List.mem_append_right _ (List.mem_of_getElem? (i := 356) (by decide +kernel)))) (hs _ (by decide +kernel))
set_option maxRecDepth 100000 in
theorem sx_239 {args : Array Value} {s : State} (hts : ∀ w ∈ lw_tbl, w.before args s = true) (hs : ∀ c ∈ flatC (Jvm.Cond.and given_1 narrow_1), c.before args s = true) : ∃ a : Nat, vk_R RX1 239 "the plank is not 0 to 40" a s := str_of (hts (.stringRef RX1 239 "the plank is not 0 to 40") (List.mem_append_right _ (List.mem_of_getElem? (i := 360) (by decide +kernel)))) (hs _ (by decide +kernel))
set_option maxRecDepth 100000 in
theorem sx_241 {args : Array Value} {s : State} (hts : ∀ w ∈ lw_tbl, w.before args s = true) (hs : ∀ c ∈ flatC (Jvm.Cond.and given_1 narrow_1), c.before args s = true) : ∃ a : Nat, vk_R RX1 241 "both planks are the same" a s := str_of (hts (.stringRef RX1 241 "both planks are the same") (List.mem_append_right _ (List.mem_of_getElem? (i := 517) (by decide +kernel)))) (hs _ (by decide +kernel))
set_option maxRecDepth 100000 in
theorem sx_243 {args : Array Value} {s : State} (hts : ∀ w ∈ lw_tbl, w.before args s = true) (hs : ∀ c ∈ flatC (Jvm.Cond.and given_1 narrow_1), c.before args s = true) : ∃ a : Nat, vk_R RX1 243 "the reach is not 0 to 20" a s := str_of (hts (.stringRef RX1 243 "the reach is not 0 to 20") (List.mem_append_right _ (List.mem_of_getElem? (i := 373) (by decide +kernel)))) (hs _ (by decide +kernel))
set_option maxRecDepth 100000 in
theorem sx_245 {args : Array Value} {s : State} (hts : ∀ w ∈ lw_tbl, w.before args s = true) (hs : ∀ c ∈ flatC (Jvm.Cond.and given_1 narrow_1), c.before args s = true) : ∃ a : Nat, vk_R RX1 245 "the pace is not 1 to 5" a s := str_of (hts (.stringRef RX1 245 "the pace is not 1 to 5") (List.mem_append_right _ (List.mem_of_getElem? (i := 380) (by decide +kernel)))) (hs _ (by decide +kernel))
set_option maxRecDepth 100000 in
theorem sx_247 {args : Array Value} {s : State} (hts : ∀ w ∈ lw_tbl, w.before args s = true) (hs : ∀ c ∈ flatC (Jvm.Cond.and given_1 narrow_1), c.before args s = true) : ∃ a : Nat, vk_R RX1 247 "the rounds are not 1 to 50" a s := str_of (hts (.stringRef RX1 247 "the rounds are not 1 to 50") (List.mem_append_right _ (List.mem_of_getElem? (i := 435) (by decide +kernel)))) (hs _ (by decide +kernel))
set_option maxRecDepth 100000 in
theorem sx_249 {args : Array Value} {s : State} (hts : ∀ w ∈ lw_tbl, w.before args s = true) (hs : ∀ c ∈ flatC (Jvm.Cond.and given_1 narrow_1), c.before args s = true) : ∃ a : Nat, vk_R RX1 249 "there are no delegates" a s := str_of (hts (.stringRef RX1 249 "there are no delegates") (List.mem_append_right _ (List.mem_of_getElem? (i := 241) (by decide +kernel)))) (hs _ (by decide +kernel))
set_option maxRecDepth 100000 in
theorem xt_start {args : Array Value} {s : State} (hts : ∀ w ∈ lw_tbl, w.before args s = true) (hs : ∀ c ∈ flatC (Jvm.Cond.and given_1 narrow_1), c.before args s = true) : XT s := by
  refine ⟨?_, ?_, ?_, ?_, ?_⟩
  · exact List.forall_mem_cons.mpr ⟨sx_58 hts hs, List.forall_mem_cons.mpr ⟨sx_67 hts hs, List.forall_mem_cons.mpr ⟨sx_80 hts hs, List.forall_mem_cons.mpr ⟨sx_87 hts hs, List.forall_mem_cons.mpr ⟨sx_121 hts hs, List.forall_mem_cons.mpr ⟨sx_130 hts hs, List.forall_mem_cons.mpr ⟨sx_234 hts hs, List.forall_mem_cons.mpr ⟨sx_237 hts hs, List.forall_mem_cons.mpr ⟨sx_239 hts hs, List.forall_mem_cons.mpr ⟨sx_241 hts hs, List.forall_mem_cons.mpr ⟨sx_243 hts hs, List.forall_mem_cons.mpr ⟨sx_245 hts hs, List.forall_mem_cons.mpr ⟨sx_247 hts hs, List.forall_mem_cons.mpr ⟨sx_249 hts hs, List.forall_mem_nil _⟩⟩⟩⟩⟩⟩⟩⟩⟩⟩⟩⟩⟩⟩
  · exact List.forall_mem_cons.mpr ⟨va_Nw.of rfl (hts (.declares (Bundle.initS "java/lang/RuntimeException")) (List.mem_append_right _ (List.mem_of_getElem? (i := 204) (by decide +kernel)))), List.forall_mem_cons.mpr ⟨va_Nw.of rfl (hts (.declares (Bundle.initS "java/lang/Exception")) (List.mem_append_right _ (List.mem_of_getElem? (i := 206) (by decide +kernel)))), List.forall_mem_cons.mpr ⟨va_Nw.of rfl (hts (.declares (Bundle.initS "java/lang/Throwable")) (List.mem_append_right _ (List.mem_of_getElem? (i := 208) (by decide +kernel)))), List.forall_mem_nil _⟩⟩⟩
  · exact List.forall_mem_cons.mpr ⟨va_Nw.of rfl (hts (.castable "java/lang/IllegalStateException" "java/lang/IllegalStateException") (List.mem_append_right _ (List.mem_of_getElem? (i := 202) (by decide +kernel)))), List.forall_mem_cons.mpr ⟨va_Nw.of rfl (hts (.castable "java/lang/IllegalArgumentException" "java/lang/IllegalArgumentException") (List.mem_append_right _ (List.mem_of_getElem? (i := 366) (by decide +kernel)))), List.forall_mem_cons.mpr ⟨va_Nw.of rfl (hts (.castable "java/lang/IndexOutOfBoundsException" "java/lang/IndexOutOfBoundsException") (List.mem_append_right _ (List.mem_of_getElem? (i := 292) (by decide +kernel)))), List.forall_mem_nil _⟩⟩⟩
  · exact List.forall_mem_cons.mpr ⟨va_Nc.of (hs (.not (.castable "java/lang/IllegalStateException" "java/lang/IllegalArgumentException")) (by decide +kernel)), List.forall_mem_cons.mpr ⟨va_Nc.of (hs (.not (.castable "java/lang/IllegalStateException" "java/lang/IndexOutOfBoundsException")) (by decide +kernel)), List.forall_mem_cons.mpr ⟨va_Nc.of (hs (.not (.castable "java/lang/IllegalArgumentException" "java/lang/IllegalStateException")) (by decide +kernel)), List.forall_mem_cons.mpr ⟨va_Nc.of (hs (.not (.castable "java/lang/IllegalArgumentException" "java/lang/IndexOutOfBoundsException")) (by decide +kernel)), List.forall_mem_cons.mpr ⟨va_Nc.of (hs (.not (.castable "java/lang/IndexOutOfBoundsException" "java/lang/IllegalStateException")) (by decide +kernel)), List.forall_mem_cons.mpr ⟨va_Nc.of (hs (.not (.castable "java/lang/IndexOutOfBoundsException" "java/lang/IllegalArgumentException")) (by decide +kernel)), List.forall_mem_nil _⟩⟩⟩⟩⟩⟩
  · exact va_Nw.of rfl (hts (xNe) (List.mem_append_right _ (List.mem_of_getElem? (i := 338) (by decide +kernel))))
set_option maxRecDepth 100000 in
theorem xe_start {args : Array Value} {s : State} (hts : ∀ w ∈ lw_tbl, w.before args s = true) (hs : ∀ c ∈ flatC (Jvm.Cond.and given_1 narrow_1), c.before args s = true) : XE (fun q : Nat => s.heap.size ≤ q) s s.heap :=
  ⟨vx_Zqof (hts (.laysStatic Bundle.tN "UNASSIGNED_STACK" Bundle.steD) (List.mem_append_right _ (List.mem_of_getElem? (i := 227) (by decide +kernel)))) (hts (.initialized Bundle.tN) (List.mem_append_right _ (List.mem_of_getElem? (i := 4) (by decide +kernel)))) (hs (.isRef (.static Bundle.tN "UNASSIGNED_STACK" Bundle.steD)) (by decide +kernel)) (fun a h => Nat.not_le.mpr h), vx_Zqof (hts (.laysStatic Bundle.tN "SUPPRESSED_SENTINEL" Bundle.listD) (List.mem_append_right _ (List.mem_of_getElem? (i := 229) (by decide +kernel)))) (hts (.initialized Bundle.tN) (List.mem_append_right _ (List.mem_of_getElem? (i := 4) (by decide +kernel)))) (hs (.isRef (.static Bundle.tN "SUPPRESSED_SENTINEL" Bundle.listD)) (by decide +kernel)) (fun a h => Nat.not_le.mpr h), xt_start hts hs⟩
