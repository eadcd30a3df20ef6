set_option maxHeartbeats 4000000 in
set_option maxRecDepth 100000 in
theorem c_X1_cutTo (l : Launch) (D : va_G) (x : Int32) (lo : Int32) (hi : Int32)  (sz : Nat) : Met l yX1_cutTo wsX1_cutTo ({ frames := 1, cells := 0, slots := 0, locals := 30 } : Room) (va_Pc [.int x, .int lo, .int hi] (Wd D [] [] sz)) (va_Qi (fun (r : Int32) (_ : Unit) => r = cutTo x lo hi) (fun (_ : Unit) t => We D [] [] (va_A [] sz) t) (va_A [] sz)) 0 0 (va_A [] sz) := by
  refine mk_met [.int x, .int lo, .int hi] (fun A => va_Qi (fun (r : Int32) (_ : Unit) => r = cutTo x lo hi) (fun (_ : Unit) t => We D [] [] A t) A) (by decide) rfl (Nat.le_of_ble_eq_true rfl) ?_
  intro p e s m args below meth c A ls F hr hlocks hname hP hK hD hA hl
  have hx := F.1
  have hb := F.2.1
  have hml := F.2.2.1
  have hown := F.2.2.2.1
  have hts := F.2.2.2.2
  have hS : va_S A s.heap s.heap [] := va_S.rf
  have hl : lv_has ls 3 [(0, .int x), (1, .int lo), (2, .int hi)] := hl
  refine absQ (fun Q hQ => ?_)
  refine lv_iload_n hx hb dX1_cutTo_0 rfl (lv_at hl 1 rfl) ?_
  refine lv_iload_n hx hb dX1_cutTo_1 rfl (lv_at hl 0 rfl) ?_
  refine lv_iload_n hx hb dX1_cutTo_2 rfl (lv_at hl 2 rfl) ?_
  refine va_mmin hx hb (hml.trans hl.1.symm) hown (hts (.methodLink RX1 146 Lib.Math.min.name) (List.mem_of_getElem? (i := 1) rfl)) (hts (.static Lib.Math.min.name) (List.mem_of_getElem? (i := 2) rfl)) (hts (.initialized "java/lang/Math") (List.mem_of_getElem? (i := 3) rfl)) (hts (.code Lib.Math.min.name Lib.Math.min.code 2 (some .int)) (List.mem_of_getElem? (i := 4) rfl)) (Nat.le_of_ble_eq_true rfl) (Nat.le_of_ble_eq_true rfl) (Nat.le_of_ble_eq_true rfl) (Nat.le_of_ble_eq_true rfl) dX1_cutTo_3 ?_
  refine topi (jmin x hi) rfl ?_
  refine va_mmax hx hb (hml.trans hl.1.symm) hown (hts (.methodLink RX1 260 Lib.Math.max.name) (List.mem_of_getElem? (i := 5) rfl)) (hts (.static Lib.Math.max.name) (List.mem_of_getElem? (i := 6) rfl)) (hts (.initialized "java/lang/Math") (List.mem_of_getElem? (i := 3) rfl)) (hts (.code Lib.Math.max.name Lib.Math.max.code 2 (some .int)) (List.mem_of_getElem? (i := 7) rfl)) (Nat.le_of_ble_eq_true rfl) (Nat.le_of_ble_eq_true rfl) (Nat.le_of_ble_eq_true rfl) (Nat.le_of_ble_eq_true rfl) dX1_cutTo_6 ?_
  refine topi (jmax lo (jmin x hi)) rfl ?_
  refine useQ hQ ?_
  exact e_i (v := (jmax lo (jmin x hi))) F hr hlocks hK hP hD hS [] [] () rfl rfl rfl rfl (Nat.le_of_ble_eq_true rfl) (Nat.le_of_ble_eq_true rfl) dX1_cutTo_9
theorem uX1_X1_discontent : ∀ w ∈ u_ws RX1 TX1 10, w ∈ wsX1_discontent := (fun _ h => List.mem_cons_of_mem _ (List.mem_append_right _ h))
set_option maxHeartbeats 4000000 in
set_option maxRecDepth 100000 in
theorem c_X1_discontent (l : Launch) (D : va_G) (cA : ClassId) (h0 : Nat) (n : Nat) (rg : Int32) (st : Int32) (aV : Nat) (aW : Nat) (aR : Nat) (aP : Nat) (aK : Nat) (aL : Nat) (aQ : Nat) (fW : Nat → Int32) (j : Nat) (x : Int32) (hn : n ≤ 12) (hj : j < n) (sz : Nat) : Met l yX1_discontent wsX1_discontent ({ frames := 1, cells := 0, slots := 0, locals := 30 } : Room) (va_Pc [.ref h0, .int (nI j), .int x] (Wd D [(cA, .int)] [(h0, .inr (1, [.int (nI n), .int rg, .int st, .ref aV, .ref aW, .ref aR, .ref aP, .ref aK, .ref aL, .ref aQ])), (aW, .inl (cA, 12, .inl fW))] sz)) (va_Qi (fun (r : Int32) (_ : Unit) => r = jabs (x - fW j)) (fun (_ : Unit) t => We D [(cA, .int)] [(h0, .inr (1, [.int (nI n), .int rg, .int st, .ref aV, .ref aW, .ref aR, .ref aP, .ref aK, .ref aL, .ref aQ])), (aW, .inl (cA, 12, .inl fW))] (va_A [(h0, .inr (1, [.int (nI n), .int rg, .int st, .ref aV, .ref aW, .ref aR, .ref aP, .ref aK, .ref aL, .ref aQ])), (aW, .inl (cA, 12, .inl fW))] sz) t) (va_A [(h0, .inr (1, [.int (nI n), .int rg, .int st, .ref aV, .ref aW, .ref aR, .ref aP, .ref aK, .ref aL, .ref aQ])), (aW, .inl (cA, 12, .inl fW))] sz)) 0 0 (va_A [(h0, .inr (1, [.int (nI n), .int rg, .int st, .ref aV, .ref aW, .ref aR, .ref aP, .ref aK, .ref aL, .ref aQ])), (aW, .inl (cA, 12, .inl fW))] sz) := by
  refine mk_met [.ref h0, .int (nI j), .int x] (fun A => va_Qi (fun (r : Int32) (_ : Unit) => r = jabs (x - fW j)) (fun (_ : Unit) t => We D [(cA, .int)] [(h0, .inr (1, [.int (nI n), .int rg, .int st, .ref aV, .ref aW, .ref aR, .ref aP, .ref aK, .ref aL, .ref aQ])), (aW, .inl (cA, 12, .inl fW))] A t) A) (by decide) rfl (Nat.le_of_ble_eq_true rfl) ?_
  intro p e s m args below meth c A ls F hr hlocks hname hP hK hD hA hl
  have hx := F.1
  have hb := F.2.1
  have hml := F.2.2.1
  have hown := F.2.2.2.1
  have hts := F.2.2.2.2
  have hS : va_S A s.heap s.heap [] := va_S.rf
  have hl : lv_has ls 3 [(0, .ref h0), (1, .int (nI j)), (2, .int x)] := hl
  refine absQ (fun Q hQ => ?_)
  refine lv_iload_n hx hb dX1_discontent_0 rfl (lv_at hl 2 rfl) ?_
  refine lv_aload_n hx hb dX1_discontent_1 rfl (lv_at hl 0 rfl) ?_
  refine va_get (D := D) (ci := 1) (v := .ref aW) (C := RX1) (T := TX1) (N := 10) hx hb hts uX1_X1_discontent hown hK hP 0 rfl rfl 4 (by decide) (hts (.fieldLink RX1 23 "RopeChoices" "wishes" "[I") (List.mem_of_getElem? (i := 1) rfl)) (fun _ h9 => h9) rfl dX1_discontent_2 ?_
  refine lv_iload_n hx hb dX1_discontent_5 rfl (lv_at hl 1 rfl) ?_
  refine a_ld (k := j) hx hb hK hP 1 0 rfl rfl (by omega) (Nat.le_of_ble_eq_true rfl) dX1_discontent_6 ?_
  refine lv_isub hx hb dX1_discontent_7 ?_
  refine va_mabs hx hb (hml.trans hl.1.symm) hown (hts (.methodLink RX1 251 Lib.Math.abs.name) (List.mem_of_getElem? (i := 2) rfl)) (hts (.static Lib.Math.abs.name) (List.mem_of_getElem? (i := 3) rfl)) (hts (.initialized "java/lang/Math") (List.mem_of_getElem? (i := 4) rfl)) (hts (.code Lib.Math.abs.name Lib.Math.abs.code 1 (some .int)) (List.mem_of_getElem? (i := 5) rfl)) (Nat.le_of_ble_eq_true rfl) (Nat.le_of_ble_eq_true rfl) (Nat.le_of_ble_eq_true rfl) (Nat.le_of_ble_eq_true rfl) dX1_discontent_8 ?_
  refine topi (jabs (x - (fW j))) rfl ?_
  refine useQ hQ ?_
  exact e_i (v := (jabs (x - (fW j)))) F hr hlocks hK hP hD hS [0, 1] [0] () rfl rfl rfl rfl (Nat.le_of_ble_eq_true rfl) (Nat.le_of_ble_eq_true rfl) dX1_discontent_11
theorem uX1_X1_isWilling : ∀ w ∈ u_ws RX1 TX1 10, w ∈ wsX1_isWilling := (fun _ h => List.mem_cons_of_mem _ (List.mem_append_right _ h))
set_option maxHeartbeats 4000000 in
set_option maxRecDepth 100000 in
theorem c_X1_isWilling (l : Launch) (D : va_G) (cA : ClassId) (h0 : Nat) (n : Nat) (rg : Int32) (st : Int32) (aV : Nat) (aW : Nat) (aR : Nat) (aP : Nat) (aK : Nat) (aL : Nat) (aQ : Nat) (fW : Nat → Int32) (fR : Nat → Int32) (j : Nat) (x : Int32) (hn : n ≤ 12) (hj : j < n) (sz : Nat) : Met l yX1_isWilling wsX1_isWilling ({ frames := 2, cells := 0, slots := 0, locals := 52 } : Room) (va_Pc [.ref h0, .int (nI j), .int x] (Wd D [(cA, .int)] [(h0, .inr (1, [.int (nI n), .int rg, .int st, .ref aV, .ref aW, .ref aR, .ref aP, .ref aK, .ref aL, .ref aQ])), (aW, .inl (cA, 12, .inl fW)), (aR, .inl (cA, 12, .inl fR))] sz)) (va_Qi (fun (r : Int32) (_ : Unit) => r = bP (jabs (x - fW j) ≤ fR j)) (fun (_ : Unit) t => We D [(cA, .int)] [(h0, .inr (1, [.int (nI n), .int rg, .int st, .ref aV, .ref aW, .ref aR, .ref aP, .ref aK, .ref aL, .ref aQ])), (aW, .inl (cA, 12, .inl fW)), (aR, .inl (cA, 12, .inl fR))] (va_A [(h0, .inr (1, [.int (nI n), .int rg, .int st, .ref aV, .ref aW, .ref aR, .ref aP, .ref aK, .ref aL, .ref aQ])), (aW, .inl (cA, 12, .inl fW)), (aR, .inl (cA, 12, .inl fR))] sz) t) (va_A [(h0, .inr (1, [.int (nI n), .int rg, .int st, .ref aV, .ref aW, .ref aR, .ref aP, .ref aK, .ref aL, .ref aQ])), (aW, .inl (cA, 12, .inl fW)), (aR, .inl (cA, 12, .inl fR))] sz)) 0 0 (va_A [(h0, .inr (1, [.int (nI n), .int rg, .int st, .ref aV, .ref aW, .ref aR, .ref aP, .ref aK, .ref aL, .ref aQ])), (aW, .inl (cA, 12, .inl fW)), (aR, .inl (cA, 12, .inl fR))] sz) := by
  refine mk_met [.ref h0, .int (nI j), .int x] (fun A => va_Qi (fun (r : Int32) (_ : Unit) => r = bP (jabs (x - fW j) ≤ fR j)) (fun (_ : Unit) t => We D [(cA, .int)] [(h0, .inr (1, [.int (nI n), .int rg, .int st, .ref aV, .ref aW, .ref aR, .ref aP, .ref aK, .ref aL, .ref aQ])), (aW, .inl (cA, 12, .inl fW)), (aR, .inl (cA, 12, .inl fR))] A t) A) (by decide) rfl (Nat.le_of_ble_eq_true rfl) ?_
  intro p e s m args below meth c A ls F hr hlocks hname hP hK hD hA hl
  have hx := F.1
  have hb := F.2.1
  have hml := F.2.2.1
  have hown := F.2.2.2.1
  have hts := F.2.2.2.2
  have hS : va_S A s.heap s.heap [] := va_S.rf
  have hl : lv_has ls 3 [(0, .ref h0), (1, .int (nI j)), (2, .int x)] := hl
  refine absQ (fun Q hQ => ?_)
  refine lv_aload_n hx hb dX1_isWilling_0 rfl (lv_at hl 0 rfl) ?_
  refine lv_iload_n hx hb dX1_isWilling_1 rfl (lv_at hl 1 rfl) ?_
  refine lv_iload_n hx hb dX1_isWilling_2 rfl (lv_at hl 2 rfl) ?_
  have hX_1 : Cut D A [(h0, .inr (1, [.int (nI n), .int rg, .int st, .ref aV, .ref aW, .ref aR, .ref aP, .ref aK, .ref aL, .ref aQ])), (aW, .inl (cA, 12, .inl fW)), (aR, .inl (cA, 12, .inl fR))] [(h0, .inr (1, [.int (nI n), .int rg, .int st, .ref aV, .ref aW, .ref aR, .ref aP, .ref aK, .ref aL, .ref aQ])), (aW, .inl (cA, 12, .inl fW))] [(aR, .inl (cA, 12, .inl fR))] [(cA, .int)] [(cA, .int)] [0, 1] [2] [0] := ⟨rfl, rfl, rfl, rfl, by decide, rfl⟩
  refine ki hX_1 hP hD hS hA (kRunV (q := (RX1, TX1, 10)) (As := [.int (nI j), .int x]) (rest := []) F (c_X1_discontent l D cA h0 n rg st aV aW aR aP aK aL aQ fW j x hn hj s.heap.size) (cwV 2 hts gX1_isWilling_X1_discontent rfl rfl rfl (by decide +kernel) ⟨Nat.le_of_ble_eq_true rfl, Nat.le_of_ble_eq_true rfl⟩) hK hP hD hX_1 0 rfl rfl rfl hl.1 rfl (Nat.le_of_ble_eq_true rfl) dX1_isWilling_3 ⟨Nat.le_of_ble_eq_true rfl, Nat.le_of_ble_eq_true rfl⟩) (fun r_2 u_3 H locs hw_4 hP hD hS => ?_)
  have hw_4 : r_2 = jabs (x - fW j) := hw_4
  rw [hw_4]
  have hP : va_P D vwCl [(aR, .inl (cA, 12, .inl fR)), (h0, .inr (1, [.int (nI n), .int rg, .int st, .ref aV, .ref aW, .ref aR, .ref aP, .ref aK, .ref aL, .ref aQ])), (aW, .inl (cA, 12, .inl fW))] H := hP
  have hD : va_D A [(aR, .inl (cA, 12, .inl fR)), (h0, .inr (1, [.int (nI n), .int rg, .int st, .ref aV, .ref aW, .ref aR, .ref aP, .ref aK, .ref aL, .ref aQ])), (aW, .inl (cA, 12, .inl fW))] := hD
  refine lv_aload_n hx hb dX1_isWilling_6 rfl (lv_at hl 0 rfl) ?_
  refine va_get (D := D) (ci := 1) (v := .ref aR) (C := RX1) (T := TX1) (N := 10) hx hb hts uX1_X1_isWilling hown hK hP 1 rfl rfl 5 (by decide) (hts (.fieldLink RX1 26 "RopeChoices" "reaches" "[I") (List.mem_of_getElem? (i := 1) rfl)) (fun _ h9 => h9) rfl dX1_isWilling_7 ?_
  refine lv_iload_n hx hb dX1_isWilling_10 rfl (lv_at hl 1 rfl) ?_
  refine a_ld (k := j) hx hb hK hP 0 0 rfl rfl (by omega) (Nat.le_of_ble_eq_true rfl) dX1_isWilling_11 ?_
  refine lv_icmp_gt (tgt := 19) hx hb dX1_isWilling_12 (by decide) (fun c_12 => ?_) (fun c_12 => ?_)
  · skip
    refine lv_iconst (v := 0) hx hb dX1_isWilling_19 (by decide) ?_
    refine useQ hQ ?_
    exact e_z (v := 0) F hr hlocks hK hP hD hS [1, 2, 0] [0] () (by first | exact Or.inl rfl | exact Or.inr rfl | exact bP_01 _) (bP_f (Int32.not_le.mpr c_12)) rfl rfl rfl (Nat.le_of_ble_eq_true rfl) (Nat.le_of_ble_eq_true rfl) dX1_isWilling_20
  · skip
    refine lv_iconst (v := 1) hx hb dX1_isWilling_15 (by decide) ?_
    refine lv_goto (tgt := 20) hx hb dX1_isWilling_16 (by decide) ?_
    refine useQ hQ ?_
    exact e_z (v := 1) F hr hlocks hK hP hD hS [1, 2, 0] [0] () (by first | exact Or.inl rfl | exact Or.inr rfl | exact bP_01 _) (bP_t (Int32.not_lt.mp c_12)) rfl rfl rfl (Nat.le_of_ble_eq_true rfl) (Nat.le_of_ble_eq_true rfl) dX1_isWilling_20
theorem uX1_X1_crowdOn : ∀ w ∈ u_ws RX1 TX1 10, w ∈ wsX1_crowdOn := (fun _ h => List.mem_cons_of_mem _ (List.mem_append_right _ h))
set_option maxHeartbeats 4000000 in
set_option maxRecDepth 100000 in
theorem c_X1_crowdOn (l : Launch) (D : va_G) (cA : ClassId) (h0 : Nat) (n : Nat) (rg : Int32) (st : Int32) (aV : Nat) (aW : Nat) (aR : Nat) (aP : Nat) (aK : Nat) (aL : Nat) (aQ : Nat) (w : Nat) (fw : Nat → Int32) (x : Int32) (hn : n ≤ 12) (sz : Nat) : Met l yX1_crowdOn wsX1_crowdOn ({ frames := 0, cells := 0, slots := 0, locals := 0 } : Room) (va_Pc [.ref h0, .ref w, .int x] (Wd D [(cA, .int)] [(h0, .inr (1, [.int (nI n), .int rg, .int st, .ref aV, .ref aW, .ref aR, .ref aP, .ref aK, .ref aL, .ref aQ])), (w, .inl (cA, 12, .inl fw))] sz)) (va_Qi (fun (r : Int32) (_ : Unit) => r = crowd fw x n) (fun (_ : Unit) t => We D [(cA, .int)] [(h0, .inr (1, [.int (nI n), .int rg, .int st, .ref aV, .ref aW, .ref aR, .ref aP, .ref aK, .ref aL, .ref aQ])), (w, .inl (cA, 12, .inl fw))] (va_A [(h0, .inr (1, [.int (nI n), .int rg, .int st, .ref aV, .ref aW, .ref aR, .ref aP, .ref aK, .ref aL, .ref aQ])), (w, .inl (cA, 12, .inl fw))] sz) t) (va_A [(h0, .inr (1, [.int (nI n), .int rg, .int st, .ref aV, .ref aW, .ref aR, .ref aP, .ref aK, .ref aL, .ref aQ])), (w, .inl (cA, 12, .inl fw))] sz)) 0 0 (va_A [(h0, .inr (1, [.int (nI n), .int rg, .int st, .ref aV, .ref aW, .ref aR, .ref aP, .ref aK, .ref aL, .ref aQ])), (w, .inl (cA, 12, .inl fw))] sz) := by
  refine mk_met [.ref h0, .ref w, .int x] (fun A => va_Qi (fun (r : Int32) (_ : Unit) => r = crowd fw x n) (fun (_ : Unit) t => We D [(cA, .int)] [(h0, .inr (1, [.int (nI n), .int rg, .int st, .ref aV, .ref aW, .ref aR, .ref aP, .ref aK, .ref aL, .ref aQ])), (w, .inl (cA, 12, .inl fw))] A t) A) (by decide) rfl (Nat.le_of_ble_eq_true rfl) ?_
  intro p e s m args below meth c A ls F hr hlocks hname hP hK hD hA hl
  have hx := F.1
  have hb := F.2.1
  have hml := F.2.2.1
  have hown := F.2.2.2.1
  have hts := F.2.2.2.2
  have hS : va_S A s.heap s.heap [] := va_S.rf
  have hl : lv_has ls 5 [(0, .ref h0), (1, .ref w), (2, .int x)] := hl
  refine absQ (fun Q hQ => ?_)
  refine lv_iconst (v := 0) hx hb dX1_crowdOn_0 (by decide) ?_
  refine lv_istore_n (lv' := [(3, .int 0), (0, .ref h0), (1, .ref w), (2, .int x)]) hx hb dX1_crowdOn_1 rfl hl (by decide) rfl (fun ls hl => ?_)
  refine lv_iconst (v := 0) hx hb dX1_crowdOn_2 (by decide) ?_
  refine lv_istore (lv' := [(4, .int 0), (3, .int 0), (0, .ref h0), (1, .ref w), (2, .int x)]) hx hb dX1_crowdOn_3 hl (by decide) rfl (fun ls hl => ?_)
  have loop5 : ∀ (k : Nat) (i : Nat) (v : Int32), (n < i + k) → (i ≤ n) → (v = crowd fw x i) →  ∀ (H : Heap) (locs : List Loc), va_P D vwCl [(h0, .inr (1, [.int (nI n), .int rg, .int st, .ref aV, .ref aW, .ref aR, .ref aP, .ref aK, .ref aL, .ref aQ])), (w, .inl (cA, 12, .inl fw))] H → va_D A [(h0, .inr (1, [.int (nI n), .int rg, .int st, .ref aV, .ref aW, .ref aR, .ref aP, .ref aK, .ref aL, .ref aQ])), (w, .inl (cA, 12, .inl fw))] → va_S A s.heap H locs → ∀ ls : Array Slot, lv_has ls 5 [(4, .int (nI i)), (3, .int v), (0, .ref h0), (1, .ref w), (2, .int x)] → W p l e ({ frames := 0, cells := 0, slots := 0, locals := 0 } : Room) s m args below meth c H locs 0 0 Q (F0 m 5 ls []) := by
    intro k
    induction k with
    | zero =>
      intro i v hk hi hv
      exact absurd hk (by omega)
    | succ k ih5 =>
      intro i v hk hi hv H locs hP hD hS ls hl
      refine lv_iload hx hb dX1_crowdOn_5 (lv_at hl 0 rfl) ?_
      refine lv_aload_n hx hb dX1_crowdOn_7 rfl (lv_at hl 2 rfl) ?_
      refine va_get (D := D) (ci := 1) (v := .int (nI n)) (C := RX1) (T := TX1) (N := 10) hx hb hts uX1_X1_crowdOn hown hK hP 0 rfl rfl 0 (by decide) (hts (.fieldLink RX1 7 "RopeChoices" "count" "I") (List.mem_of_getElem? (i := 1) rfl)) (fun _ h9 => h9) rfl dX1_crowdOn_8 ?_
      refine lv_icmp_ge (tgt := 31) hx hb dX1_crowdOn_11 (by decide) (fun c_11 => ?_) (fun c_11 => ?_)
      · skip
        have g_11 : n ≤ i := nf_ge_t (by omega) (by omega) c_11
        refine lv_iload_n hx hb dX1_crowdOn_31 rfl (lv_at hl 1 rfl) ?_
        refine useQ hQ ?_
        exact e_i (v := v) F hr hlocks hK hP hD hS [0, 1] [0] () (by rw [hv, show i = n by omega]) rfl rfl rfl (Nat.le_of_ble_eq_true rfl) (Nat.le_of_ble_eq_true rfl) dX1_crowdOn_32
      · skip
        have g_11 : i < n := nf_ge_f (by omega) (by omega) c_11
        refine lv_aload_n hx hb dX1_crowdOn_14 rfl (lv_at hl 3 rfl) ?_
        refine lv_iload hx hb dX1_crowdOn_15 (lv_at hl 0 rfl) ?_
        refine a_ld (k := i) hx hb hK hP 1 0 rfl rfl (by omega) (Nat.le_of_ble_eq_true rfl) dX1_crowdOn_17 ?_
        refine lv_iload_n hx hb dX1_crowdOn_18 rfl (lv_at hl 4 rfl) ?_
        refine lv_icmp_ne (tgt := 25) hx hb dX1_crowdOn_19 (by decide) (fun c_19 => ?_) (fun c_19 => ?_)
        · skip
          refine lv_iinc (v := nI (i + 1)) (lv' := [(4, .int (nI (i + 1))), (3, .int v), (0, .ref h0), (1, .ref w), (2, .int x)]) hx hb dX1_crowdOn_25 hl (k := 0) rfl (nI_1 _) (by decide) rfl (fun ls hl => ?_)
          refine lv_goto (tgt := 5) hx hb dX1_crowdOn_28 (by decide) ?_
          exact ih5 (i + 1) v (by omega) (by omega) (by rw [crowd_s, if_neg c_19, hv]) _ _ (hP.sub [0, 1] rfl) (hD.sub [0, 1] (by decide) rfl) hS ls (lv_sub hl [0, 1, 2, 3, 4] rfl)
        · skip
          refine lv_iinc (v := (v + 1)) (lv' := [(3, .int (v + 1)), (4, .int (nI i)), (0, .ref h0), (1, .ref w), (2, .int x)]) hx hb dX1_crowdOn_22 hl (k := 1) rfl rfl (by decide) rfl (fun ls hl => ?_)
          refine lv_iinc (v := nI (i + 1)) (lv' := [(4, .int (nI (i + 1))), (3, .int (v + 1)), (0, .ref h0), (1, .ref w), (2, .int x)]) hx hb dX1_crowdOn_25 hl (k := 1) rfl (nI_1 _) (by decide) rfl (fun ls hl => ?_)
          refine lv_goto (tgt := 5) hx hb dX1_crowdOn_28 (by decide) ?_
          exact ih5 (i + 1) (v + 1) (by omega) (by omega) (by rw [crowd_s, if_pos c_19, hv]) _ _ (hP.sub [0, 1] rfl) (hD.sub [0, 1] (by decide) rfl) hS ls (lv_sub hl [0, 1, 2, 3, 4] rfl)
  exact loop5 (n + 1) 0 0 (by omega) (Nat.zero_le _) rfl _ _ (hP.sub [0, 1] rfl) (hD.sub [0, 1] (by decide) rfl) hS ls (lv_sub hl [0, 1, 2, 3, 4] rfl)
theorem uX1_X1_hasRoom : ∀ w ∈ u_ws RX1 TX1 10, w ∈ wsX1_hasRoom := (fun _ h => List.mem_cons_of_mem _ (List.mem_append_right _ h))
set_option maxHeartbeats 4000000 in
set_option maxRecDepth 100000 in
theorem c_X1_hasRoom (l : Launch) (D : va_G) (cA : ClassId) (h0 : Nat) (n : Nat) (rg : Int32) (st : Int32) (aV : Nat) (aW : Nat) (aR : Nat) (aP : Nat) (aK : Nat) (aL : Nat) (aQ : Nat) (w : Nat) (fw : Nat → Int32) (x : Int32) (hn : n ≤ 12) (sz : Nat) : Met l yX1_hasRoom wsX1_hasRoom ({ frames := 1, cells := 0, slots := 0, locals := 24 } : Room) (va_Pc [.ref h0, .ref w, .int x] (Wd D [(cA, .int)] [(h0, .inr (1, [.int (nI n), .int rg, .int st, .ref aV, .ref aW, .ref aR, .ref aP, .ref aK, .ref aL, .ref aQ])), (w, .inl (cA, 12, .inl fw))] sz)) (va_Qi (fun (r : Int32) (_ : Unit) => r = bP (crowd fw x n < st)) (fun (_ : Unit) t => We D [(cA, .int)] [(h0, .inr (1, [.int (nI n), .int rg, .int st, .ref aV, .ref aW, .ref aR, .ref aP, .ref aK, .ref aL, .ref aQ])), (w, .inl (cA, 12, .inl fw))] (va_A [(h0, .inr (1, [.int (nI n), .int rg, .int st, .ref aV, .ref aW, .ref aR, .ref aP, .ref aK, .ref aL, .ref aQ])), (w, .inl (cA, 12, .inl fw))] sz) t) (va_A [(h0, .inr (1, [.int (nI n), .int rg, .int st, .ref aV, .ref aW, .ref aR, .ref aP, .ref aK, .ref aL, .ref aQ])), (w, .inl (cA, 12, .inl fw))] sz)) 0 0 (va_A [(h0, .inr (1, [.int (nI n), .int rg, .int st, .ref aV, .ref aW, .ref aR, .ref aP, .ref aK, .ref aL, .ref aQ])), (w, .inl (cA, 12, .inl fw))] sz) := by
  refine mk_met [.ref h0, .ref w, .int x] (fun A => va_Qi (fun (r : Int32) (_ : Unit) => r = bP (crowd fw x n < st)) (fun (_ : Unit) t => We D [(cA, .int)] [(h0, .inr (1, [.int (nI n), .int rg, .int st, .ref aV, .ref aW, .ref aR, .ref aP, .ref aK, .ref aL, .ref aQ])), (w, .inl (cA, 12, .inl fw))] A t) A) (by decide) rfl (Nat.le_of_ble_eq_true rfl) ?_
  intro p e s m args below meth c A ls F hr hlocks hname hP hK hD hA hl
  have hx := F.1
  have hb := F.2.1
  have hml := F.2.2.1
  have hown := F.2.2.2.1
  have hts := F.2.2.2.2
  have hS : va_S A s.heap s.heap [] := va_S.rf
  have hl : lv_has ls 3 [(0, .ref h0), (1, .ref w), (2, .int x)] := hl
  refine absQ (fun Q hQ => ?_)
  refine lv_aload_n hx hb dX1_hasRoom_0 rfl (lv_at hl 0 rfl) ?_
  refine lv_aload_n hx hb dX1_hasRoom_1 rfl (lv_at hl 1 rfl) ?_
  refine lv_iload_n hx hb dX1_hasRoom_2 rfl (lv_at hl 2 rfl) ?_
  have hX_1 : Cut D A [(h0, .inr (1, [.int (nI n), .int rg, .int st, .ref aV, .ref aW, .ref aR, .ref aP, .ref aK, .ref aL, .ref aQ])), (w, .inl (cA, 12, .inl fw))] [(h0, .inr (1, [.int (nI n), .int rg, .int st, .ref aV, .ref aW, .ref aR, .ref aP, .ref aK, .ref aL, .ref aQ])), (w, .inl (cA, 12, .inl fw))] [] [(cA, .int)] [(cA, .int)] [0, 1] [] [0] := ⟨rfl, rfl, rfl, rfl, by decide, rfl⟩
  refine ki hX_1 hP hD hS hA (kRunV (q := (RX1, TX1, 10)) (As := [.ref w, .int x]) (rest := []) F (c_X1_crowdOn l D cA h0 n rg st aV aW aR aP aK aL aQ w fw x hn s.heap.size) (cwV 2 hts gX1_hasRoom_X1_crowdOn rfl rfl rfl (by decide +kernel) ⟨Nat.le_of_ble_eq_true rfl, Nat.le_of_ble_eq_true rfl⟩) hK hP hD hX_1 0 rfl rfl rfl hl.1 rfl (Nat.le_of_ble_eq_true rfl) dX1_hasRoom_3 ⟨Nat.le_of_ble_eq_true rfl, Nat.le_of_ble_eq_true rfl⟩) (fun r_2 u_3 H locs hw_4 hP hD hS => ?_)
  have hw_4 : r_2 = crowd fw x n := hw_4
  rw [hw_4]
  have hP : va_P D vwCl [(h0, .inr (1, [.int (nI n), .int rg, .int st, .ref aV, .ref aW, .ref aR, .ref aP, .ref aK, .ref aL, .ref aQ])), (w, .inl (cA, 12, .inl fw))] H := hP
  have hD : va_D A [(h0, .inr (1, [.int (nI n), .int rg, .int st, .ref aV, .ref aW, .ref aR, .ref aP, .ref aK, .ref aL, .ref aQ])), (w, .inl (cA, 12, .inl fw))] := hD
  refine lv_aload_n hx hb dX1_hasRoom_6 rfl (lv_at hl 0 rfl) ?_
  refine va_get (D := D) (ci := 1) (v := .int st) (C := RX1) (T := TX1) (N := 10) hx hb hts uX1_X1_hasRoom hown hK hP 0 rfl rfl 2 (by decide) (hts (.fieldLink RX1 16 "RopeChoices" "plankStrength" "I") (List.mem_of_getElem? (i := 1) rfl)) (fun _ h9 => h9) rfl dX1_hasRoom_7 ?_
  refine lv_icmp_ge (tgt := 17) hx hb dX1_hasRoom_10 (by decide) (fun c_10 => ?_) (fun c_10 => ?_)
  · skip
    refine lv_iconst (v := 0) hx hb dX1_hasRoom_17 (by decide) ?_
    refine useQ hQ ?_
    exact e_z (v := 0) F hr hlocks hK hP hD hS [0, 1] [0] () (by first | exact Or.inl rfl | exact Or.inr rfl | exact bP_01 _) (bP_f (Int32.not_lt.mpr c_10)) rfl rfl rfl (Nat.le_of_ble_eq_true rfl) (Nat.le_of_ble_eq_true rfl) dX1_hasRoom_18
  · skip
    refine lv_iconst (v := 1) hx hb dX1_hasRoom_13 (by decide) ?_
    refine lv_goto (tgt := 18) hx hb dX1_hasRoom_14 (by decide) ?_
    refine useQ hQ ?_
    exact e_z (v := 1) F hr hlocks hK hP hD hS [0, 1] [0] () (by first | exact Or.inl rfl | exact Or.inr rfl | exact bP_01 _) (bP_t (Int32.not_le.mp c_10)) rfl rfl rfl (Nat.le_of_ble_eq_true rfl) (Nat.le_of_ble_eq_true rfl) dX1_hasRoom_18
theorem uX1_X1_hasPlaceFor : ∀ w ∈ u_ws RX1 TX1 10, w ∈ wsX1_hasPlaceFor := (fun _ h => List.mem_cons_of_mem _ (List.mem_append_right _ h))
set_option maxHeartbeats 4000000 in
set_option maxRecDepth 100000 in
theorem c_X1_hasPlaceFor (l : Launch) (D : va_G) (cA : ClassId) (h0 : Nat) (n : Nat) (rg : Int32) (st : Int32) (aV : Nat) (aW : Nat) (aR : Nat) (aP : Nat) (aK : Nat) (aL : Nat) (aQ : Nat) (fK : Nat → Int32) (j : Nat) (x : Int32) (hn : n ≤ 12) (hj : j < n) (sz : Nat) : Met l yX1_hasPlaceFor wsX1_hasPlaceFor ({ frames := 2, cells := 0, slots := 0, locals := 46 } : Room) (va_Pc [.ref h0, .int (nI j), .int x] (Wd D [(cA, .int)] [(h0, .inr (1, [.int (nI n), .int rg, .int st, .ref aV, .ref aW, .ref aR, .ref aP, .ref aK, .ref aL, .ref aQ])), (aK, .inl (cA, 12, .inl fK))] sz)) (va_Qi (fun (r : Int32) (_ : Unit) => r = bP (fK j = x ∨ crowd fK x n < st)) (fun (_ : Unit) t => We D [(cA, .int)] [(h0, .inr (1, [.int (nI n), .int rg, .int st, .ref aV, .ref aW, .ref aR, .ref aP, .ref aK, .ref aL, .ref aQ])), (aK, .inl (cA, 12, .inl fK))] (va_A [(h0, .inr (1, [.int (nI n), .int rg, .int st, .ref aV, .ref aW, .ref aR, .ref aP, .ref aK, .ref aL, .ref aQ])), (aK, .inl (cA, 12, .inl fK))] sz) t) (va_A [(h0, .inr (1, [.int (nI n), .int rg, .int st, .ref aV, .ref aW, .ref aR, .ref aP, .ref aK, .ref aL, .ref aQ])), (aK, .inl (cA, 12, .inl fK))] sz)) 0 0 (va_A [(h0, .inr (1, [.int (nI n), .int rg, .int st, .ref aV, .ref aW, .ref aR, .ref aP, .ref aK, .ref aL, .ref aQ])), (aK, .inl (cA, 12, .inl fK))] sz) := by
  refine mk_met [.ref h0, .int (nI j), .int x] (fun A => va_Qi (fun (r : Int32) (_ : Unit) => r = bP (fK j = x ∨ crowd fK x n < st)) (fun (_ : Unit) t => We D [(cA, .int)] [(h0, .inr (1, [.int (nI n), .int rg, .int st, .ref aV, .ref aW, .ref aR, .ref aP, .ref aK, .ref aL, .ref aQ])), (aK, .inl (cA, 12, .inl fK))] A t) A) (by decide) rfl (Nat.le_of_ble_eq_true rfl) ?_
  intro p e s m args below meth c A ls F hr hlocks hname hP hK hD hA hl
  have hx := F.1
  have hb := F.2.1
  have hml := F.2.2.1
  have hown := F.2.2.2.1
  have hts := F.2.2.2.2
  have hS : va_S A s.heap s.heap [] := va_S.rf
  have hl : lv_has ls 3 [(0, .ref h0), (1, .int (nI j)), (2, .int x)] := hl
  refine absQ (fun Q hQ => ?_)
  refine lv_aload_n hx hb dX1_hasPlaceFor_0 rfl (lv_at hl 0 rfl) ?_
  refine va_get (D := D) (ci := 1) (v := .ref aK) (C := RX1) (T := TX1) (N := 10) hx hb hts uX1_X1_hasPlaceFor hown hK hP 0 rfl rfl 7 (by decide) (hts (.fieldLink RX1 32 "RopeChoices" "planks" "[I") (List.mem_of_getElem? (i := 1) rfl)) (fun _ h9 => h9) rfl dX1_hasPlaceFor_1 ?_
  refine lv_iload_n hx hb dX1_hasPlaceFor_4 rfl (lv_at hl 1 rfl) ?_
  refine a_ld (k := j) hx hb hK hP 1 0 rfl rfl (by omega) (Nat.le_of_ble_eq_true rfl) dX1_hasPlaceFor_5 ?_
  refine lv_iload_n hx hb dX1_hasPlaceFor_6 rfl (lv_at hl 2 rfl) ?_
  refine lv_icmp_eq (tgt := 22) hx hb dX1_hasPlaceFor_7 (by decide) (fun c_7 => ?_) (fun c_7 => ?_)
  · skip
    refine lv_iconst (v := 1) hx hb dX1_hasPlaceFor_22 (by decide) ?_
    refine lv_goto (tgt := 27) hx hb dX1_hasPlaceFor_23 (by decide) ?_
    refine useQ hQ ?_
    exact e_z (v := 1) F hr hlocks hK hP hD hS [0, 1] [0] () (by first | exact Or.inl rfl | exact Or.inr rfl | exact bP_01 _) (bP_t (Or.inl c_7)) rfl rfl rfl (Nat.le_of_ble_eq_true rfl) (Nat.le_of_ble_eq_true rfl) dX1_hasPlaceFor_27
  · skip
    refine lv_aload_n hx hb dX1_hasPlaceFor_10 rfl (lv_at hl 0 rfl) ?_
    refine lv_aload_n hx hb dX1_hasPlaceFor_11 rfl (lv_at hl 0 rfl) ?_
    refine va_get (D := D) (ci := 1) (v := .ref aK) (C := RX1) (T := TX1) (N := 10) hx hb hts uX1_X1_hasPlaceFor hown hK hP 0 rfl rfl 7 (by decide) (hts (.fieldLink RX1 32 "RopeChoices" "planks" "[I") (List.mem_of_getElem? (i := 1) rfl)) (fun _ h9 => h9) rfl dX1_hasPlaceFor_12 ?_
    refine lv_iload_n hx hb dX1_hasPlaceFor_15 rfl (lv_at hl 2 rfl) ?_
    have hX_1 : Cut D A [(h0, .inr (1, [.int (nI n), .int rg, .int st, .ref aV, .ref aW, .ref aR, .ref aP, .ref aK, .ref aL, .ref aQ])), (aK, .inl (cA, 12, .inl fK))] [(h0, .inr (1, [.int (nI n), .int rg, .int st, .ref aV, .ref aW, .ref aR, .ref aP, .ref aK, .ref aL, .ref aQ])), (aK, .inl (cA, 12, .inl fK))] [] [(cA, .int)] [(cA, .int)] [0, 1] [] [0] := ⟨rfl, rfl, rfl, rfl, by decide, rfl⟩
    refine ki hX_1 hP hD hS hA (kRunV (q := (RX1, TX1, 10)) (As := [.ref aK, .int x]) (rest := []) F (c_X1_hasRoom l D cA h0 n rg st aV aW aR aP aK aL aQ aK fK x hn s.heap.size) (cwV 2 hts gX1_hasPlaceFor_X1_hasRoom rfl rfl rfl (by decide +kernel) ⟨Nat.le_of_ble_eq_true rfl, Nat.le_of_ble_eq_true rfl⟩) hK hP hD hX_1 0 rfl rfl rfl hl.1 rfl (Nat.le_of_ble_eq_true rfl) dX1_hasPlaceFor_16 ⟨Nat.le_of_ble_eq_true rfl, Nat.le_of_ble_eq_true rfl⟩) (fun r_2 u_3 H locs hw_4 hP hD hS => ?_)
    have hw_4 : r_2 = bP (crowd fK x n < st) := hw_4
    rw [hw_4]
    have hP : va_P D vwCl [(h0, .inr (1, [.int (nI n), .int rg, .int st, .ref aV, .ref aW, .ref aR, .ref aP, .ref aK, .ref aL, .ref aQ])), (aK, .inl (cA, 12, .inl fK))] H := hP
    have hD : va_D A [(h0, .inr (1, [.int (nI n), .int rg, .int st, .ref aV, .ref aW, .ref aR, .ref aP, .ref aK, .ref aL, .ref aQ])), (aK, .inl (cA, 12, .inl fK))] := hD
    refine lv_if_eq (tgt := 26) hx hb dX1_hasPlaceFor_19 (by decide) (fun c_19 => ?_) (fun c_19 => ?_)
    · skip
      refine lv_iconst (v := 0) hx hb dX1_hasPlaceFor_26 (by decide) ?_
      refine useQ hQ ?_
      exact e_z (v := 0) F hr hlocks hK hP hD hS [0, 1] [0] () (by first | exact Or.inl rfl | exact Or.inr rfl | exact bP_01 _) (bP_f (fun z => z.elim c_7 (bP_eq c_19))) rfl rfl rfl (Nat.le_of_ble_eq_true rfl) (Nat.le_of_ble_eq_true rfl) dX1_hasPlaceFor_27
    · skip
      refine lv_iconst (v := 1) hx hb dX1_hasPlaceFor_22 (by decide) ?_
      refine lv_goto (tgt := 27) hx hb dX1_hasPlaceFor_23 (by decide) ?_
      refine useQ hQ ?_
      exact e_z (v := 1) F hr hlocks hK hP hD hS [0, 1] [0] () (by first | exact Or.inl rfl | exact Or.inr rfl | exact bP_01 _) (bP_t (Or.inr (bP_ne c_19))) rfl rfl rfl (Nat.le_of_ble_eq_true rfl) (Nat.le_of_ble_eq_true rfl) dX1_hasPlaceFor_27
theorem uX1_X1_nearestWillingPlank : ∀ w ∈ u_ws RX1 TX1 10, w ∈ wsX1_nearestWillingPlank := (fun _ h => List.mem_cons_of_mem _ (List.mem_append_right _ h))
set_option maxHeartbeats 4000000 in
set_option maxRecDepth 100000 in
theorem c_X1_nearestWillingPlank (l : Launch) (D : va_G) (cA : ClassId) (h0 : Nat) (n : Nat) (rg : Int32) (st : Int32) (aV : Nat) (aW : Nat) (aR : Nat) (aP : Nat) (aK : Nat) (aL : Nat) (aQ : Nat) (fW : Nat → Int32) (fR : Nat → Int32) (j : Nat) (mid : Int32) (hn : n ≤ 12) (hj : j < n) (sz : Nat) : Met l yX1_nearestWillingPlank wsX1_nearestWillingPlank ({ frames := 2, cells := 0, slots := 0, locals := 52 } : Room) (va_Pc [.ref h0, .int (nI j), .int mid] (Wd D [(cA, .int)] [(h0, .inr (1, [.int (nI n), .int rg, .int st, .ref aV, .ref aW, .ref aR, .ref aP, .ref aK, .ref aL, .ref aQ])), (aW, .inl (cA, 12, .inl fW)), (aR, .inl (cA, 12, .inl fR))] sz)) (va_Qi (fun (r : Int32) (_ : Unit) => r = nearW (fW j) (fR j) mid) (fun (_ : Unit) t => We D [(cA, .int)] [(h0, .inr (1, [.int (nI n), .int rg, .int st, .ref aV, .ref aW, .ref aR, .ref aP, .ref aK, .ref aL, .ref aQ])), (aW, .inl (cA, 12, .inl fW)), (aR, .inl (cA, 12, .inl fR))] (va_A [(h0, .inr (1, [.int (nI n), .int rg, .int st, .ref aV, .ref aW, .ref aR, .ref aP, .ref aK, .ref aL, .ref aQ])), (aW, .inl (cA, 12, .inl fW)), (aR, .inl (cA, 12, .inl fR))] sz) t) (va_A [(h0, .inr (1, [.int (nI n), .int rg, .int st, .ref aV, .ref aW, .ref aR, .ref aP, .ref aK, .ref aL, .ref aQ])), (aW, .inl (cA, 12, .inl fW)), (aR, .inl (cA, 12, .inl fR))] sz)) 0 0 (va_A [(h0, .inr (1, [.int (nI n), .int rg, .int st, .ref aV, .ref aW, .ref aR, .ref aP, .ref aK, .ref aL, .ref aQ])), (aW, .inl (cA, 12, .inl fW)), (aR, .inl (cA, 12, .inl fR))] sz) := by
  refine mk_met [.ref h0, .int (nI j), .int mid] (fun A => va_Qi (fun (r : Int32) (_ : Unit) => r = nearW (fW j) (fR j) mid) (fun (_ : Unit) t => We D [(cA, .int)] [(h0, .inr (1, [.int (nI n), .int rg, .int st, .ref aV, .ref aW, .ref aR, .ref aP, .ref aK, .ref aL, .ref aQ])), (aW, .inl (cA, 12, .inl fW)), (aR, .inl (cA, 12, .inl fR))] A t) A) (by decide) rfl (Nat.le_of_ble_eq_true rfl) ?_
  intro p e s m args below meth c A ls F hr hlocks hname hP hK hD hA hl
  have hx := F.1
  have hb := F.2.1
  have hml := F.2.2.1
  have hown := F.2.2.2.1
  have hts := F.2.2.2.2
  have hS : va_S A s.heap s.heap [] := va_S.rf
  have hl : lv_has ls 4 [(0, .ref h0), (1, .int (nI j)), (2, .int mid)] := hl
  refine absQ (fun Q hQ => ?_)
  refine lv_aload_n hx hb dX1_nearestWillingPlank_0 rfl (lv_at hl 0 rfl) ?_
  refine va_get (D := D) (ci := 1) (v := .ref aW) (C := RX1) (T := TX1) (N := 10) hx hb hts uX1_X1_nearestWillingPlank hown hK hP 0 rfl rfl 4 (by decide) (hts (.fieldLink RX1 23 "RopeChoices" "wishes" "[I") (List.mem_of_getElem? (i := 1) rfl)) (fun _ h9 => h9) rfl dX1_nearestWillingPlank_1 ?_
  refine lv_iload_n hx hb dX1_nearestWillingPlank_4 rfl (lv_at hl 1 rfl) ?_
  refine a_ld (k := j) hx hb hK hP 1 0 rfl rfl (by omega) (Nat.le_of_ble_eq_true rfl) dX1_nearestWillingPlank_5 ?_
  refine lv_istore_n (lv' := [(3, .int (fW j)), (0, .ref h0), (1, .int (nI j)), (2, .int mid)]) hx hb dX1_nearestWillingPlank_6 rfl hl (by decide) rfl (fun ls hl => ?_)
  refine lv_iload_n hx hb dX1_nearestWillingPlank_7 rfl (lv_at hl 3 rfl) ?_
  refine lv_iload_n hx hb dX1_nearestWillingPlank_8 rfl (lv_at hl 0 rfl) ?_
  refine lv_aload_n hx hb dX1_nearestWillingPlank_9 rfl (lv_at hl 1 rfl) ?_
  refine va_get (D := D) (ci := 1) (v := .ref aR) (C := RX1) (T := TX1) (N := 10) hx hb hts uX1_X1_nearestWillingPlank hown hK hP 0 rfl rfl 5 (by decide) (hts (.fieldLink RX1 26 "RopeChoices" "reaches" "[I") (List.mem_of_getElem? (i := 2) rfl)) (fun _ h9 => h9) rfl dX1_nearestWillingPlank_10 ?_
  refine lv_iload_n hx hb dX1_nearestWillingPlank_13 rfl (lv_at hl 2 rfl) ?_
  refine a_ld (k := j) hx hb hK hP 2 0 rfl rfl (by omega) (Nat.le_of_ble_eq_true rfl) dX1_nearestWillingPlank_14 ?_
  refine lv_isub hx hb dX1_nearestWillingPlank_15 ?_
  refine lv_iload_n hx hb dX1_nearestWillingPlank_16 rfl (lv_at hl 0 rfl) ?_
  refine lv_aload_n hx hb dX1_nearestWillingPlank_17 rfl (lv_at hl 1 rfl) ?_
  refine va_get (D := D) (ci := 1) (v := .ref aR) (C := RX1) (T := TX1) (N := 10) hx hb hts uX1_X1_nearestWillingPlank hown hK hP 0 rfl rfl 5 (by decide) (hts (.fieldLink RX1 26 "RopeChoices" "reaches" "[I") (List.mem_of_getElem? (i := 2) rfl)) (fun _ h9 => h9) rfl dX1_nearestWillingPlank_18 ?_
  refine lv_iload_n hx hb dX1_nearestWillingPlank_21 rfl (lv_at hl 2 rfl) ?_
  refine a_ld (k := j) hx hb hK hP 2 0 rfl rfl (by omega) (Nat.le_of_ble_eq_true rfl) dX1_nearestWillingPlank_22 ?_
  refine lv_iadd hx hb dX1_nearestWillingPlank_23 ?_
  have hX_1 : Cut D A [(h0, .inr (1, [.int (nI n), .int rg, .int st, .ref aV, .ref aW, .ref aR, .ref aP, .ref aK, .ref aL, .ref aQ])), (aW, .inl (cA, 12, .inl fW)), (aR, .inl (cA, 12, .inl fR))] [] [(h0, .inr (1, [.int (nI n), .int rg, .int st, .ref aV, .ref aW, .ref aR, .ref aP, .ref aK, .ref aL, .ref aQ])), (aW, .inl (cA, 12, .inl fW)), (aR, .inl (cA, 12, .inl fR))] [(cA, .int)] [] [] [0, 1, 2] [] := ⟨rfl, rfl, rfl, rfl, by decide, rfl⟩
  refine ki hX_1 hP hD hS hA (kRunS (As := [.int mid, .int ((fW j) - (fR j)), .int ((fW j) + (fR j))]) (rest := []) F (c_X1_cutTo l D mid ((fW j) - (fR j)) ((fW j) + (fR j)) s.heap.size) (va_cwS 3 hts gX1_nearestWillingPlank_X1_cutTo rfl rfl rfl (by decide +kernel) ⟨Nat.le_of_ble_eq_true rfl, Nat.le_of_ble_eq_true rfl⟩) hK hP hD hX_1 rfl hl.1 rfl (Nat.le_of_ble_eq_true rfl) dX1_nearestWillingPlank_24 ⟨Nat.le_of_ble_eq_true rfl, Nat.le_of_ble_eq_true rfl⟩) (fun r_2 u_3 H locs hw_4 hP hD hS => ?_)
  have hw_4 : r_2 = cutTo mid ((fW j) - (fR j)) ((fW j) + (fR j)) := hw_4
  rw [hw_4]
  have hP : va_P D vwCl [(h0, .inr (1, [.int (nI n), .int rg, .int st, .ref aV, .ref aW, .ref aR, .ref aP, .ref aK, .ref aL, .ref aQ])), (aW, .inl (cA, 12, .inl fW)), (aR, .inl (cA, 12, .inl fR))] H := hP
  have hD : va_D A [(h0, .inr (1, [.int (nI n), .int rg, .int st, .ref aV, .ref aW, .ref aR, .ref aP, .ref aK, .ref aL, .ref aQ])), (aW, .inl (cA, 12, .inl fW)), (aR, .inl (cA, 12, .inl fR))] := hD
  refine useQ hQ ?_
  exact e_i (v := cutTo mid ((fW j) - (fR j)) ((fW j) + (fR j))) F hr hlocks hK hP hD hS [0, 1, 2] [0] () rfl rfl rfl rfl (Nat.le_of_ble_eq_true rfl) (Nat.le_of_ble_eq_true rfl) dX1_nearestWillingPlank_27
theorem uX1_X1_stepFrom : ∀ w ∈ u_ws RX1 TX1 10, w ∈ wsX1_stepFrom := (fun _ h => List.mem_cons_of_mem _ (List.mem_append_right _ h))
set_option maxHeartbeats 4000000 in
set_option maxRecDepth 100000 in
theorem c_X1_stepFrom (l : Launch) (D : va_G) (cA : ClassId) (h0 : Nat) (n : Nat) (rg : Int32) (st : Int32) (aV : Nat) (aW : Nat) (aR : Nat) (aP : Nat) (aK : Nat) (aL : Nat) (aQ : Nat) (fW : Nat → Int32) (fR : Nat → Int32) (fP : Nat → Int32) (j : Nat) (fr : Int32) (mid : Int32) (hn : n ≤ 12) (hj : j < n) (sz : Nat) : Met l yX1_stepFrom wsX1_stepFrom ({ frames := 3, cells := 0, slots := 0, locals := 75 } : Room) (va_Pc [.ref h0, .int (nI j), .int fr, .int mid] (Wd D [(cA, .int)] [(h0, .inr (1, [.int (nI n), .int rg, .int st, .ref aV, .ref aW, .ref aR, .ref aP, .ref aK, .ref aL, .ref aQ])), (aW, .inl (cA, 12, .inl fW)), (aR, .inl (cA, 12, .inl fR)), (aP, .inl (cA, 12, .inl fP))] sz)) (va_Qi (fun (r : Int32) (_ : Unit) => r = stepC (fW j) (fR j) (fP j) fr mid) (fun (_ : Unit) t => We D [(cA, .int)] [(h0, .inr (1, [.int (nI n), .int rg, .int st, .ref aV, .ref aW, .ref aR, .ref aP, .ref aK, .ref aL, .ref aQ])), (aW, .inl (cA, 12, .inl fW)), (aR, .inl (cA, 12, .inl fR)), (aP, .inl (cA, 12, .inl fP))] (va_A [(h0, .inr (1, [.int (nI n), .int rg, .int st, .ref aV, .ref aW, .ref aR, .ref aP, .ref aK, .ref aL, .ref aQ])), (aW, .inl (cA, 12, .inl fW)), (aR, .inl (cA, 12, .inl fR)), (aP, .inl (cA, 12, .inl fP))] sz) t) (va_A [(h0, .inr (1, [.int (nI n), .int rg, .int st, .ref aV, .ref aW, .ref aR, .ref aP, .ref aK, .ref aL, .ref aQ])), (aW, .inl (cA, 12, .inl fW)), (aR, .inl (cA, 12, .inl fR)), (aP, .inl (cA, 12, .inl fP))] sz)) 0 0 (va_A [(h0, .inr (1, [.int (nI n), .int rg, .int st, .ref aV, .ref aW, .ref aR, .ref aP, .ref aK, .ref aL, .ref aQ])), (aW, .inl (cA, 12, .inl fW)), (aR, .inl (cA, 12, .inl fR)), (aP, .inl (cA, 12, .inl fP))] sz) := by
  refine mk_met [.ref h0, .int (nI j), .int fr, .int mid] (fun A => va_Qi (fun (r : Int32) (_ : Unit) => r = stepC (fW j) (fR j) (fP j) fr mid) (fun (_ : Unit) t => We D [(cA, .int)] [(h0, .inr (1, [.int (nI n), .int rg, .int st, .ref aV, .ref aW, .ref aR, .ref aP, .ref aK, .ref aL, .ref aQ])), (aW, .inl (cA, 12, .inl fW)), (aR, .inl (cA, 12, .inl fR)), (aP, .inl (cA, 12, .inl fP))] A t) A) (by decide) rfl (Nat.le_of_ble_eq_true rfl) ?_
  intro p e s m args below meth c A ls F hr hlocks hname hP hK hD hA hl
  have hx := F.1
  have hb := F.2.1
  have hml := F.2.2.1
  have hown := F.2.2.2.1
  have hts := F.2.2.2.2
  have hS : va_S A s.heap s.heap [] := va_S.rf
  have hl : lv_has ls 5 [(0, .ref h0), (1, .int (nI j)), (2, .int fr), (3, .int mid)] := hl
  refine absQ (fun Q hQ => ?_)
  refine lv_aload_n hx hb dX1_stepFrom_0 rfl (lv_at hl 0 rfl) ?_
  refine lv_iload_n hx hb dX1_stepFrom_1 rfl (lv_at hl 1 rfl) ?_
  refine lv_iload_n hx hb dX1_stepFrom_2 rfl (lv_at hl 3 rfl) ?_
  have hX_1 : Cut D A [(h0, .inr (1, [.int (nI n), .int rg, .int st, .ref aV, .ref aW, .ref aR, .ref aP, .ref aK, .ref aL, .ref aQ])), (aW, .inl (cA, 12, .inl fW)), (aR, .inl (cA, 12, .inl fR)), (aP, .inl (cA, 12, .inl fP))] [(h0, .inr (1, [.int (nI n), .int rg, .int st, .ref aV, .ref aW, .ref aR, .ref aP, .ref aK, .ref aL, .ref aQ])), (aW, .inl (cA, 12, .inl fW)), (aR, .inl (cA, 12, .inl fR))] [(aP, .inl (cA, 12, .inl fP))] [(cA, .int)] [(cA, .int)] [0, 1, 2] [3] [0] := ⟨rfl, rfl, rfl, rfl, by decide, rfl⟩
  refine ki hX_1 hP hD hS hA (kRunV (q := (RX1, TX1, 10)) (As := [.int (nI j), .int mid]) (rest := []) F (c_X1_nearestWillingPlank l D cA h0 n rg st aV aW aR aP aK aL aQ fW fR j mid hn hj s.heap.size) (cwV 2 hts gX1_stepFrom_X1_nearestWillingPlank rfl rfl rfl (by decide +kernel) ⟨Nat.le_of_ble_eq_true rfl, Nat.le_of_ble_eq_true rfl⟩) hK hP hD hX_1 0 rfl rfl rfl hl.1 rfl (Nat.le_of_ble_eq_true rfl) dX1_stepFrom_3 ⟨Nat.le_of_ble_eq_true rfl, Nat.le_of_ble_eq_true rfl⟩) (fun r_2 u_3 H locs hw_4 hP hD hS => ?_)
  have hw_4 : r_2 = nearW (fW j) (fR j) mid := hw_4
  rw [hw_4]
  have hP : va_P D vwCl [(aP, .inl (cA, 12, .inl fP)), (h0, .inr (1, [.int (nI n), .int rg, .int st, .ref aV, .ref aW, .ref aR, .ref aP, .ref aK, .ref aL, .ref aQ])), (aW, .inl (cA, 12, .inl fW)), (aR, .inl (cA, 12, .inl fR))] H := hP
  have hD : va_D A [(aP, .inl (cA, 12, .inl fP)), (h0, .inr (1, [.int (nI n), .int rg, .int st, .ref aV, .ref aW, .ref aR, .ref aP, .ref aK, .ref aL, .ref aQ])), (aW, .inl (cA, 12, .inl fW)), (aR, .inl (cA, 12, .inl fR))] := hD
  refine lv_istore (lv' := [(4, .int (nearW (fW j) (fR j) mid)), (0, .ref h0), (1, .int (nI j)), (2, .int fr), (3, .int mid)]) hx hb dX1_stepFrom_6 hl (by decide) rfl (fun ls hl => ?_)
  refine lv_iload hx hb dX1_stepFrom_8 (lv_at hl 0 rfl) ?_
  refine lv_iload_n hx hb dX1_stepFrom_10 rfl (lv_at hl 3 rfl) ?_
  refine lv_aload_n hx hb dX1_stepFrom_11 rfl (lv_at hl 1 rfl) ?_
  refine va_get (D := D) (ci := 1) (v := .ref aP) (C := RX1) (T := TX1) (N := 10) hx hb hts uX1_X1_stepFrom hown hK hP 1 rfl rfl 6 (by decide) (hts (.fieldLink RX1 29 "RopeChoices" "paces" "[I") (List.mem_of_getElem? (i := 1) rfl)) (fun _ h9 => h9) rfl dX1_stepFrom_12 ?_
  refine lv_iload_n hx hb dX1_stepFrom_15 rfl (lv_at hl 2 rfl) ?_
  refine a_ld (k := j) hx hb hK hP 0 0 rfl rfl (by omega) (Nat.le_of_ble_eq_true rfl) dX1_stepFrom_16 ?_
  refine lv_isub hx hb dX1_stepFrom_17 ?_
  refine lv_iload_n hx hb dX1_stepFrom_18 rfl (lv_at hl 3 rfl) ?_
  refine lv_aload_n hx hb dX1_stepFrom_19 rfl (lv_at hl 1 rfl) ?_
  refine va_get (D := D) (ci := 1) (v := .ref aP) (C := RX1) (T := TX1) (N := 10) hx hb hts uX1_X1_stepFrom hown hK hP 1 rfl rfl 6 (by decide) (hts (.fieldLink RX1 29 "RopeChoices" "paces" "[I") (List.mem_of_getElem? (i := 1) rfl)) (fun _ h9 => h9) rfl dX1_stepFrom_20 ?_
  refine lv_iload_n hx hb dX1_stepFrom_23 rfl (lv_at hl 2 rfl) ?_
  refine a_ld (k := j) hx hb hK hP 0 0 rfl rfl (by omega) (Nat.le_of_ble_eq_true rfl) dX1_stepFrom_24 ?_
  refine lv_iadd hx hb dX1_stepFrom_25 ?_
  have hX_5 : Cut D A [(aP, .inl (cA, 12, .inl fP)), (h0, .inr (1, [.int (nI n), .int rg, .int st, .ref aV, .ref aW, .ref aR, .ref aP, .ref aK, .ref aL, .ref aQ])), (aW, .inl (cA, 12, .inl fW)), (aR, .inl (cA, 12, .inl fR))] [] [(aP, .inl (cA, 12, .inl fP)), (h0, .inr (1, [.int (nI n), .int rg, .int st, .ref aV, .ref aW, .ref aR, .ref aP, .ref aK, .ref aL, .ref aQ])), (aW, .inl (cA, 12, .inl fW)), (aR, .inl (cA, 12, .inl fR))] [(cA, .int)] [] [] [0, 1, 2, 3] [] := ⟨rfl, rfl, rfl, rfl, by decide, rfl⟩
  refine ki hX_5 hP hD hS hA (kRunS (As := [.int (nearW (fW j) (fR j) mid), .int (fr - (fP j)), .int (fr + (fP j))]) (rest := []) F (c_X1_cutTo l D (nearW (fW j) (fR j) mid) (fr - (fP j)) (fr + (fP j)) H.size) (va_cwS 3 hts gX1_stepFrom_X1_cutTo rfl rfl rfl (by decide +kernel) ⟨Nat.le_of_ble_eq_true rfl, Nat.le_of_ble_eq_true rfl⟩) hK hP hD hX_5 rfl hl.1 rfl (Nat.le_of_ble_eq_true rfl) dX1_stepFrom_26 ⟨Nat.le_of_ble_eq_true rfl, Nat.le_of_ble_eq_true rfl⟩) (fun r_6 u_7 H locs hw_8 hP hD hS => ?_)
  have hw_8 : r_6 = cutTo (nearW (fW j) (fR j) mid) (fr - (fP j)) (fr + (fP j)) := hw_8
  rw [hw_8]
  have hP : va_P D vwCl [(aP, .inl (cA, 12, .inl fP)), (h0, .inr (1, [.int (nI n), .int rg, .int st, .ref aV, .ref aW, .ref aR, .ref aP, .ref aK, .ref aL, .ref aQ])), (aW, .inl (cA, 12, .inl fW)), (aR, .inl (cA, 12, .inl fR))] H := hP
  have hD : va_D A [(aP, .inl (cA, 12, .inl fP)), (h0, .inr (1, [.int (nI n), .int rg, .int st, .ref aV, .ref aW, .ref aR, .ref aP, .ref aK, .ref aL, .ref aQ])), (aW, .inl (cA, 12, .inl fW)), (aR, .inl (cA, 12, .inl fR))] := hD
  refine useQ hQ ?_
  exact e_i (v := cutTo (nearW (fW j) (fR j) mid) (fr - (fP j)) (fr + (fP j))) F hr hlocks hK hP hD hS [1, 2, 3, 0] [0] () rfl rfl rfl rfl (Nat.le_of_ble_eq_true rfl) (Nat.le_of_ble_eq_true rfl) dX1_stepFrom_29
theorem uX1_X1_closeGap : ∀ w ∈ u_ws RX1 TX1 10, w ∈ wsX1_closeGap := (fun _ h => List.mem_cons_of_mem _ (List.mem_append_right _ h))
set_option maxHeartbeats 4000000 in
set_option maxRecDepth 100000 in
theorem c_X1_closeGap (l : Launch) (D : va_G) (cA : ClassId) (h0 : Nat) (n : Nat) (rg : Int32) (st : Int32) (aV : Nat) (aW : Nat) (aR : Nat) (aP : Nat) (aK : Nat) (aL : Nat) (aQ : Nat) (w : Nat) (fw : Nat → Int32) (j : Nat) (hn : n ≤ 12) (hj : j < n) (sz : Nat) : Met l yX1_closeGap wsX1_closeGap ({ frames := 0, cells := 0, slots := 0, locals := 0 } : Room) (va_Pc [.ref h0, .ref w, .int (nI j)] (Wd D [(cA, .int)] [(h0, .inr (1, [.int (nI n), .int rg, .int st, .ref aV, .ref aW, .ref aR, .ref aP, .ref aK, .ref aL, .ref aQ])), (w, .inl (cA, 12, .inl fw))] sz)) (va_Qv (fun (_ : Unit) => True) (fun (_ : Unit) t => We D [(cA, .int)] [(h0, .inr (1, [.int (nI n), .int rg, .int st, .ref aV, .ref aW, .ref aR, .ref aP, .ref aK, .ref aL, .ref aQ])), (w, .inl (cA, 12, .inl (closeF fw j n)))] (va_A [(h0, .inr (1, [.int (nI n), .int rg, .int st, .ref aV, .ref aW, .ref aR, .ref aP, .ref aK, .ref aL, .ref aQ])), (w, .inl (cA, 12, .inl fw))] sz) t) (va_A [(h0, .inr (1, [.int (nI n), .int rg, .int st, .ref aV, .ref aW, .ref aR, .ref aP, .ref aK, .ref aL, .ref aQ])), (w, .inl (cA, 12, .inl fw))] sz)) 0 0 (va_A [(h0, .inr (1, [.int (nI n), .int rg, .int st, .ref aV, .ref aW, .ref aR, .ref aP, .ref aK, .ref aL, .ref aQ])), (w, .inl (cA, 12, .inl fw))] sz) := by
  refine mk_met [.ref h0, .ref w, .int (nI j)] (fun A => va_Qv (fun (_ : Unit) => True) (fun (_ : Unit) t => We D [(cA, .int)] [(h0, .inr (1, [.int (nI n), .int rg, .int st, .ref aV, .ref aW, .ref aR, .ref aP, .ref aK, .ref aL, .ref aQ])), (w, .inl (cA, 12, .inl (closeF fw j n)))] A t) A) (by decide) rfl (Nat.le_of_ble_eq_true rfl) ?_
  intro p e s m args below meth c A ls F hr hlocks hname hP hK hD hA hl
  have hx := F.1
  have hb := F.2.1
  have hml := F.2.2.1
  have hown := F.2.2.2.1
  have hts := F.2.2.2.2
  have hS : va_S A s.heap s.heap [] := va_S.rf
  have hl : lv_has ls 4 [(0, .ref h0), (1, .ref w), (2, .int (nI j))] := hl
  refine absQ (fun Q hQ => ?_)
  refine lv_iload_n hx hb dX1_closeGap_0 rfl (lv_at hl 2 rfl) ?_
  refine lv_istore_n (lv' := [(3, .int (nI j)), (0, .ref h0), (1, .ref w), (2, .int (nI j))]) hx hb dX1_closeGap_1 rfl hl (by decide) rfl (fun ls hl => ?_)
  have loop2 : ∀ (k : Nat) (i : Nat) (g : Nat → Int32), (n < i + k) → (i ≤ n - 1) → (j ≤ i) → (g = closeL fw j i) →  ∀ (H : Heap) (locs : List Loc), va_P D vwCl [(h0, .inr (1, [.int (nI n), .int rg, .int st, .ref aV, .ref aW, .ref aR, .ref aP, .ref aK, .ref aL, .ref aQ])), (w, .inl (cA, 12, .inl g))] H → va_D A [(h0, .inr (1, [.int (nI n), .int rg, .int st, .ref aV, .ref aW, .ref aR, .ref aP, .ref aK, .ref aL, .ref aQ])), (w, .inl (cA, 12, .inl g))] → va_S A s.heap H locs → ∀ ls : Array Slot, lv_has ls 4 [(3, .int (nI i)), (0, .ref h0), (1, .ref w), (2, .int (nI j))] → W p l e ({ frames := 0, cells := 0, slots := 0, locals := 0 } : Room) s m args below meth c H locs 0 0 Q (F0 m 2 ls []) := by
    intro k
    induction k with
    | zero =>
      intro i g hk hi hji hg
      exact absurd hk (by omega)
    | succ k ih2 =>
      intro i g hk hi hji hg H locs hP hD hS ls hl
      refine lv_iload_n hx hb dX1_closeGap_2 rfl (lv_at hl 0 rfl) ?_
      refine lv_aload_n hx hb dX1_closeGap_3 rfl (lv_at hl 1 rfl) ?_
      refine va_get (D := D) (ci := 1) (v := .int (nI n)) (C := RX1) (T := TX1) (N := 10) hx hb hts uX1_X1_closeGap hown hK hP 0 rfl rfl 0 (by decide) (hts (.fieldLink RX1 7 "RopeChoices" "count" "I") (List.mem_of_getElem? (i := 1) rfl)) (fun _ h9 => h9) rfl dX1_closeGap_4 ?_
      refine lv_iconst (v := 1) hx hb dX1_closeGap_7 (by decide) ?_
      refine lv_isub hx hb dX1_closeGap_8 ?_
      refine topi (nI (n - 1)) (nI_m1 (by omega)) ?_
      refine lv_icmp_ge (tgt := 26) hx hb dX1_closeGap_9 (by decide) (fun c_9 => ?_) (fun c_9 => ?_)
      · skip
        have g_9 : n - 1 ≤ i := nf_ge_t (by omega) (by omega) c_9
        have g_9 : n ≤ i + 1 := by omega
        have eq_1 : g = (closeF fw j n) := closeL_end hg g_9 hi
        rw [eq_1] at hP hD
        have hP : va_P D vwCl [(h0, .inr (1, [.int (nI n), .int rg, .int st, .ref aV, .ref aW, .ref aR, .ref aP, .ref aK, .ref aL, .ref aQ])), (w, .inl (cA, 12, .inl (closeF fw j n)))] H := hP
        have hD : va_D A [(h0, .inr (1, [.int (nI n), .int rg, .int st, .ref aV, .ref aW, .ref aR, .ref aP, .ref aK, .ref aL, .ref aQ])), (w, .inl (cA, 12, .inl (closeF fw j n)))] := hD
        refine useQ hQ ?_
        exact e_v F hr hlocks hK hP hD hS [0, 1] [0] () trivial rfl rfl rfl (Nat.le_of_ble_eq_true rfl) (Nat.le_of_ble_eq_true rfl) dX1_closeGap_26
      · skip
        have g_9 : i < n - 1 := nf_ge_f (by omega) (by omega) c_9
        refine lv_aload_n hx hb dX1_closeGap_12 rfl (lv_at hl 2 rfl) ?_
        refine lv_iload_n hx hb dX1_closeGap_13 rfl (lv_at hl 0 rfl) ?_
        refine lv_aload_n hx hb dX1_closeGap_14 rfl (lv_at hl 2 rfl) ?_
        refine lv_iload_n hx hb dX1_closeGap_15 rfl (lv_at hl 0 rfl) ?_
        refine lv_iconst (v := 1) hx hb dX1_closeGap_16 (by decide) ?_
        refine lv_iadd hx hb dX1_closeGap_17 ?_
        refine topi (nI (i + 1)) (nI_1 _) ?_
        refine a_ld (k := i + 1) hx hb hK hP 1 0 rfl rfl (by omega) (Nat.le_of_ble_eq_true rfl) dX1_closeGap_18 ?_
        refine a_st (k := i) hx hb hK hP hD hS 1 0 rfl rfl (by omega) (Nat.le_of_ble_eq_true rfl) dX1_closeGap_19 (fun H locs hP hD hS => ?_)
        have hP : va_P D vwCl [(h0, .inr (1, [.int (nI n), .int rg, .int st, .ref aV, .ref aW, .ref aR, .ref aP, .ref aK, .ref aL, .ref aQ])), (w, .inl (cA, 12, .inl (upd g i (g (i + 1)))))] H := hP
        have hD : va_D A [(h0, .inr (1, [.int (nI n), .int rg, .int st, .ref aV, .ref aW, .ref aR, .ref aP, .ref aK, .ref aL, .ref aQ])), (w, .inl (cA, 12, .inl (upd g i (g (i + 1)))))] := hD
        refine lv_iinc (v := nI (i + 1)) (lv' := [(3, .int (nI (i + 1))), (0, .ref h0), (1, .ref w), (2, .int (nI j))]) hx hb dX1_closeGap_20 hl (k := 0) rfl (nI_1 _) (by decide) rfl (fun ls hl => ?_)
        refine lv_goto (tgt := 2) hx hb dX1_closeGap_23 (by decide) ?_
        exact ih2 (i + 1) (upd g i (g (i + 1))) (by omega) (by omega) (by omega) (closeL_s hg hji) _ _ (hP.sub [0, 1] rfl) (hD.sub [0, 1] (by decide) rfl) hS ls (lv_sub hl [0, 1, 2, 3] rfl)
  exact loop2 (n + 1) j fw (by omega) (by omega) (Nat.le_refl _) (closeL_0 _ _) _ _ (hP.sub [0, 1] rfl) (hD.sub [0, 1] (by decide) rfl) hS ls (lv_sub hl [0, 1, 2, 3] rfl)
