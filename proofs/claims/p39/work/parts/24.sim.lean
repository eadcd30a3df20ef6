theorem uX2_X2_pass : ∀ w ∈ u_ws RX2 TX2 3, w ∈ wsX2_pass := (fun _ h => List.mem_cons_of_mem _ (List.mem_append_right _ h))
set_option maxHeartbeats 4000000 in
set_option maxRecDepth 100000 in
theorem c_X2_pass (l : Launch) (hl0 : l.stackTraces = false) (D : va_G) (cA : ClassId) (cR : ClassId) (sa : Nat) (rg : Int32) (st : Int32) (sd : Nat) (n : Nat) (ad : Nat → Nat) (fV : Nat → Int32) (fW : Nat → Int32) (fR : Nat → Int32) (fP : Nat → Int32) (fK : Nat → Int32) (hn : n ≤ 12) (hV : Inv fW fR fP fK n) (sz : Nat) : Met l yX2_pass wsX2_pass ({ frames := 2, cells := 1, slots := 41, locals := 66 } : Room) (va_Pc [.ref sa] (Wx D [(cA, .int), (cR, .array .int)] ([(sa, .inr (2, [.int rg, .int st, .ref sd])), (sd, .inl (cR, n, .inr (.inr (.inr (.inr (refsF n ad))))))] ++ rowsC cA n ad fV fW fR fP fK) sz)) (va_Qi (fun (r : Int32) (_ : Unit) => r = rndM fW fR fP n st fK) (fun (_ : Unit) t => We D [(cA, .int), (cR, .array .int)] ([(sa, .inr (2, [.int (rg + 1), .int st, .ref sd])), (sd, .inl (cR, n, .inr (.inr (.inr (.inr (refsF n ad))))))] ++ rowsC cA n ad fV fW fR fP (rndF fW fR fP n st fK)) (va_A ([(sa, .inr (2, [.int rg, .int st, .ref sd])), (sd, .inl (cR, n, .inr (.inr (.inr (.inr (refsF n ad))))))] ++ rowsC cA n ad fV fW fR fP fK) sz) t) (va_A ([(sa, .inr (2, [.int rg, .int st, .ref sd])), (sd, .inl (cR, n, .inr (.inr (.inr (.inr (refsF n ad))))))] ++ rowsC cA n ad fV fW fR fP fK) sz)) 1 41 (va_A ([(sa, .inr (2, [.int rg, .int st, .ref sd])), (sd, .inl (cR, n, .inr (.inr (.inr (.inr (refsF n ad))))))] ++ rowsC cA n ad fV fW fR fP fK) sz) := by
  refine mk_z (y := yX2_pass) (ws := wsX2_pass) (tys := [(cA, .int), (cR, .array .int)]) (wc := ([(sa, .inr (2, [.int rg, .int st, .ref sd])), (sd, .inl (cR, n, .inr (.inr (.inr (.inr (refsF n ad))))))] ++ rowsC cA n ad fV fW fR fP fK)) (sz := sz) (mc := 1) (ms := 41) (cc := cX2_pass) (maxL := 5) (ret := (some .int)) [.ref sa] (fun A => va_Qi (fun (r : Int32) (_ : Unit) => r = rndM fW fR fP n st fK) (fun (_ : Unit) t => We D [(cA, .int), (cR, .array .int)] ([(sa, .inr (2, [.int (rg + 1), .int st, .ref sd])), (sd, .inl (cR, n, .inr (.inr (.inr (.inr (refsF n ad))))))] ++ rowsC cA n ad fV fW fR fP (rndF fW fR fP n st fK)) A t) A) (by decide) rfl (Nat.le_of_ble_eq_true rfl) ?_
  intro p e s m args below meth c A ls F hr hlocks hname hP hK hD hXE hA hl
  have hx := F.1
  have hb := F.2.1
  have hml := F.2.2.1
  have hown := F.2.2.2.1
  have hts := F.2.2.2.2
  have hS : va_S A s.heap s.heap [] := va_S.rf
  have hNa := qNa_of hXE
  have hCl := qCl_of hXE
  have hNe := qNe_of hXE
  have hl : lv_has ls 5 [(0, .ref sa)] := hl
  refine absQ (fun Q hQ => ?_)
  have hI0 := hV.K
  refine lv_aload_n hx hb dX2_pass_0 rfl (lv_at hl 0 rfl) ?_
  refine lv_iconst (v := (-1)) hx hb dX2_pass_1 (by decide) ?_
  refine lv_iconst (v := (-1)) hx hb dX2_pass_2 (by decide) ?_
  have hPc : va_P D vwCl ([(sa, .inr (2, [.int rg, .int st, .ref sd])), (sd, .inl (cR, n, .inr (.inr (.inr (.inr (refsF n ad))))))] ++ rowsC cA n ad fV fW fR fP fK) s.heap := hP.part [0, 1] rfl
  have hDc : va_D A ([(sa, .inr (2, [.int rg, .int st, .ref sd])), (sd, .inl (cR, n, .inr (.inr (.inr (.inr (refsF n ad))))))] ++ rowsC cA n ad fV fW fR fP fK) := hD.part [0, 1] (by decide) rfl
  have hFc := zfree hDc hS hA
  refine zi (wc := ([(sa, .inr (2, [.int rg, .int st, .ref sd])), (sd, .inl (cR, n, .inr (.inr (.inr (.inr (refsF n ad))))))] ++ rowsC cA n ad fV fW fR fP fK)) hFc hS (zRunV (q := (RX2, TX2, 3)) (mc := 1) (ms := 41) (As := [.int (-1), .int (-1)]) (rest := []) F (c_X2_median l hl0 D cA cR sa rg st sd n ad fV fW fR fP fK (-1) (-1) hn hI0 (Or.inl rfl) s.heap.size) (cwV 2 hts gX2_pass_X2_median rfl rfl rfl (by decide +kernel) ⟨Nat.le_of_ble_eq_true rfl, Nat.le_of_ble_eq_true rfl⟩) hK hP hPc hDc hS hA hXE [0, 1] rfl 0 rfl rfl rfl hl.1 rfl (Nat.le_of_ble_eq_true rfl) dX2_pass_3 ⟨Nat.le_of_ble_eq_true rfl, Nat.le_of_ble_eq_true rfl⟩) (fun (_ : Unit) => ([(sa, .inr (2, [.int rg, .int st, .ref sd])), (sd, .inl (cR, n, .inr (.inr (.inr (.inr (refsF n ad))))))] ++ rowsC cA n ad fV fW fR fP fK)) (fun u9 H1 a b c => va_joinP (cx := [(sa, .inr (2, [.int rg, .int st, .ref sd])), (sd, .inl (cR, n, .inr (.inr (.inr (.inr (refsF n ad))))))]) (wr := []) hP hD [0, 1] [] rfl rfl (by decide) (by decide) c hFc a b) (fun r_1 u_2 H locs hw_3 hP hD hS => ?_)
  have hw_3 : r_1 = medM fK (selM fV (-1) (-1)) n := hw_3
  rw [hw_3]
  have hP : va_P D vwCl ([(sa, .inr (2, [.int rg, .int st, .ref sd])), (sd, .inl (cR, n, .inr (.inr (.inr (.inr (refsF n ad))))))] ++ rowsC cA n ad fV fW fR fP fK) H := hP
  have hD : va_D A ([(sa, .inr (2, [.int rg, .int st, .ref sd])), (sd, .inl (cR, n, .inr (.inr (.inr (.inr (refsF n ad))))))] ++ rowsC cA n ad fV fW fR fP fK) := hD
  refine lv_istore_n (lv' := [(1, .int (medM fK (selM fV (-1) (-1)) n)), (0, .ref sa)]) hx hb dX2_pass_6 rfl hl (by decide) rfl (fun ls hl => ?_)
  refine lv_iconst (v := 0) hx hb dX2_pass_7 (by decide) ?_
  refine lv_istore_n (lv' := [(2, .int 0), (1, .int (medM fK (selM fV (-1) (-1)) n)), (0, .ref sa)]) hx hb dX2_pass_8 rfl hl (by decide) rfl (fun ls hl => ?_)
  refine lv_iconst (v := 0) hx hb dX2_pass_9 (by decide) ?_
  refine lv_istore_n (lv' := [(3, .int 0), (2, .int 0), (1, .int (medM fK (selM fV (-1) (-1)) n)), (0, .ref sa)]) hx hb dX2_pass_10 rfl hl (by decide) rfl (fun ls hl => ?_)
  have loop11 : ∀ (k : Nat) (i : Nat) (v : Int32) (g : Nat → Int32) (tt : Int32), (n < i + k) → (i ≤ n) → ((g, v) = turns fW fR fP n st fK i) → (n ≠ 0 → tt = midF fK n) → (Inv fW fR fP g n) →  ∀ (H : Heap) (locs : List Loc), va_P D vwCl ([(sa, .inr (2, [.int rg, .int st, .ref sd])), (sd, .inl (cR, n, .inr (.inr (.inr (.inr (refsF n ad))))))] ++ rowsC cA n ad fV fW fR fP g) H → va_D A ([(sa, .inr (2, [.int rg, .int st, .ref sd])), (sd, .inl (cR, n, .inr (.inr (.inr (.inr (refsF n ad))))))] ++ rowsC cA n ad fV fW fR fP g) → va_S A s.heap H locs → ∀ ls : Array Slot, lv_has ls 5 [(3, .int (nI i)), (2, .int v), (1, .int tt), (0, .ref sa)] → W p l e ({ frames := 2, cells := 1, slots := 41, locals := 66 } : Room) s m args below meth c H locs 1 41 Q (F0 m 11 ls []) := by
    intro k
    induction k with
    | zero =>
      intro i v g tt hk hi hT htt hV
      exact absurd hk (by omega)
    | succ k ih11 =>
      intro i v g tt hk hi hT htt hV H locs hP hD hS ls hl
      refine lv_iload_n hx hb dX2_pass_11 rfl (lv_at hl 0 rfl) ?_
      refine lv_aload_n hx hb dX2_pass_12 rfl (lv_at hl 3 rfl) ?_
      refine va_get (D := D) (ci := 2) (v := .ref sd) (C := RX2) (T := TX2) (N := 3) hx hb hts uX2_X2_pass hown hK hP 0 rfl rfl 2 (by decide) (hts (.fieldLink RX2 15 "RopeChoicesLaw$Sim" "delegates" "[[I") (List.mem_of_getElem? (i := 1) rfl)) (fun _ h9 => h9) rfl dX2_pass_13 ?_
      refine va_alen (v := nI n) hx hb hK hP 1 1 rfl rfl rfl dX2_pass_16 ?_
      refine lv_icmp_ge (tgt := 76) hx hb dX2_pass_17 (by decide) (fun c_17 => ?_) (fun c_17 => ?_)
      · skip
        have g_17 : n ≤ i := nf_ge_t (by omega) (by omega) c_17
        rw [show i = n by omega] at hT
        have e9 : g = rndF fW fR fP n st fK := congrArg Prod.fst hT
        have e8 : v = rndM fW fR fP n st fK := congrArg Prod.snd hT
        subst e9
        subst e8
        refine lv_aload_n hx hb dX2_pass_76 rfl (lv_at hl 3 rfl) ?_
        refine lv_dup hx hb dX2_pass_77 rfl ?_
        refine va_get (D := D) (ci := 2) (v := .int rg) (C := RX2) (T := TX2) (N := 3) hx hb hts uX2_X2_pass hown hK hP 0 rfl rfl 0 (by decide) (hts (.fieldLink RX2 35 "RopeChoicesLaw$Sim" "rounds" "I") (List.mem_of_getElem? (i := 3) rfl)) (fun _ h9 => h9) rfl dX2_pass_78 ?_
        refine lv_iconst (v := 1) hx hb dX2_pass_81 (by decide) ?_
        refine lv_iadd hx hb dX2_pass_82 ?_
        refine va_put (D := D) (ci := 2) (v := .int (rg + 1)) (ty := .int) (C := RX2) (T := TX2) (N := 3) hx hb hts uX2_X2_pass tyX2 tyX2_ok nmX2 hown hK hP hD hS 0 rfl rfl 0 (by decide) (hts (.fieldLink RX2 35 "RopeChoicesLaw$Sim" "rounds" "I") (List.mem_of_getElem? (i := 3) rfl)) (fun _ h9 => h9) rfl (by decide +kernel) rfl rfl (Nat.le_of_ble_eq_true rfl) dX2_pass_83 (fun H locs hP hD hS => ?_)
        have hP : va_P D vwCl ([(sa, .inr (2, [.int (rg + 1), .int st, .ref sd])), (sd, .inl (cR, n, .inr (.inr (.inr (.inr (refsF n ad))))))] ++ rowsC cA n ad fV fW fR fP (rndF fW fR fP n st fK)) H := hP
        have hD : va_D A ([(sa, .inr (2, [.int (rg + 1), .int st, .ref sd])), (sd, .inl (cR, n, .inr (.inr (.inr (.inr (refsF n ad))))))] ++ rowsC cA n ad fV fW fR fP (rndF fW fR fP n st fK)) := hD
        refine lv_iload_n hx hb dX2_pass_86 rfl (lv_at hl 1 rfl) ?_
        refine useQ hQ ?_
        exact q_i (v := rndM fW fR fP n st fK) F hr hlocks hK hP hD hS [0, 1] [0, 1] () rfl rfl rfl rfl rfl (Nat.le_of_ble_eq_true rfl) (Nat.le_of_ble_eq_true rfl) dX2_pass_87
      · skip
        have g_17 : i < n := nf_ge_f (by omega) (by omega) c_17
        have hmt := htt (by omega)
        subst hmt
        refine lv_aload_n hx hb dX2_pass_20 rfl (lv_at hl 3 rfl) ?_
        refine lv_iload_n hx hb dX2_pass_21 rfl (lv_at hl 0 rfl) ?_
        refine lv_iload_n hx hb dX2_pass_22 rfl (lv_at hl 2 rfl) ?_
        have hPc : va_P D vwCl ([(sa, .inr (2, [.int rg, .int st, .ref sd])), (sd, .inl (cR, n, .inr (.inr (.inr (.inr (refsF n ad))))))] ++ rowsC cA n ad fV fW fR fP g) H := hP.part [0, 1] rfl
        have hDc : va_D A ([(sa, .inr (2, [.int rg, .int st, .ref sd])), (sd, .inl (cR, n, .inr (.inr (.inr (.inr (refsF n ad))))))] ++ rowsC cA n ad fV fW fR fP g) := hD.part [0, 1] (by decide) rfl
        have hFc := zfree hDc hS hA
        refine zi (wc := ([(sa, .inr (2, [.int rg, .int st, .ref sd])), (sd, .inl (cR, n, .inr (.inr (.inr (.inr (refsF n ad))))))] ++ rowsC cA n ad fV fW fR fP g)) hFc hS (zRunV (q := (RX2, TX2, 3)) (mc := 0) (ms := 0) (As := [.int (nI i), .int (midF fK n)]) (rest := []) F (c_X2_step l hl0 D cA cR sa rg st sd n ad fV fW fR fP g i (midF fK n) hn (by omega) hV (mid_ok hI0 (by omega)) H.size) (cwV 2 hts gX2_pass_X2_step rfl rfl rfl (by decide +kernel) ⟨Nat.le_of_ble_eq_true rfl, Nat.le_of_ble_eq_true rfl⟩) hK hP hPc hDc hS hA hXE [0, 1] rfl 0 rfl rfl rfl hl.1 rfl (Nat.le_of_ble_eq_true rfl) dX2_pass_23 ⟨Nat.le_of_ble_eq_true rfl, Nat.le_of_ble_eq_true rfl⟩) (fun (_ : Unit) => ([(sa, .inr (2, [.int rg, .int st, .ref sd])), (sd, .inl (cR, n, .inr (.inr (.inr (.inr (refsF n ad))))))] ++ rowsC cA n ad fV fW fR fP g)) (fun u9 H1 a b c => va_joinP (cx := [(sa, .inr (2, [.int rg, .int st, .ref sd])), (sd, .inl (cR, n, .inr (.inr (.inr (.inr (refsF n ad))))))]) (wr := []) hP hD [0, 1] [] rfl rfl (by decide) (by decide) c hFc a b) (fun r_4 u_5 H locs hw_6 hP hD hS => ?_)
        have hw_6 : r_4 = stepC (fW i) (fR i) (fP i) (g i) (midF fK n) := hw_6
        rw [hw_6]
        have hP : va_P D vwCl ([(sa, .inr (2, [.int rg, .int st, .ref sd])), (sd, .inl (cR, n, .inr (.inr (.inr (.inr (refsF n ad))))))] ++ rowsC cA n ad fV fW fR fP g) H := hP
        have hD : va_D A ([(sa, .inr (2, [.int rg, .int st, .ref sd])), (sd, .inl (cR, n, .inr (.inr (.inr (.inr (refsF n ad))))))] ++ rowsC cA n ad fV fW fR fP g) := hD
        refine lv_istore (lv' := [(4, .int (stepC (fW i) (fR i) (fP i) (g i) (midF fK n))), (3, .int (nI i)), (2, .int v), (1, .int (midF fK n)), (0, .ref sa)]) hx hb dX2_pass_26 hl (by decide) rfl (fun ls hl => ?_)
        refine lv_iload hx hb dX2_pass_28 (lv_at hl 0 rfl) ?_
        refine lv_aload_n hx hb dX2_pass_30 rfl (lv_at hl 4 rfl) ?_
        refine va_get (D := D) (ci := 2) (v := .ref sd) (C := RX2) (T := TX2) (N := 3) hx hb hts uX2_X2_pass hown hK hP 0 rfl rfl 2 (by decide) (hts (.fieldLink RX2 15 "RopeChoicesLaw$Sim" "delegates" "[[I") (List.mem_of_getElem? (i := 1) rfl)) (fun _ h9 => h9) rfl dX2_pass_31 ?_
        refine lv_iload_n hx hb dX2_pass_34 rfl (lv_at hl 1 rfl) ?_
        refine q_ld hx hb hK hP 1 1 rfl rfl (by omega) (by omega) (refsF_at (by omega)) dX2_pass_35 ?_
        refine lv_iconst (v := 4) hx hb dX2_pass_36 (by decide) ?_
        refine r_ld hx hb hK hP 0 rfl (k := i) (by omega) 4 (by omega) (x := (g i)) rfl dX2_pass_37 ?_
        refine lv_icmp_eq (tgt := 70) hx hb dX2_pass_38 (by decide) (fun c_38 => ?_) (fun c_38 => ?_)
        · skip
          refine lv_iinc (v := nI (i + 1)) (lv' := [(3, .int (nI (i + 1))), (4, .int (stepC (fW i) (fR i) (fP i) (g i) (midF fK n))), (2, .int v), (1, .int (midF fK n)), (0, .ref sa)]) hx hb dX2_pass_70 hl (k := 1) rfl (nI_1 _) (by decide) rfl (fun ls hl => ?_)
          refine lv_goto (tgt := 11) hx hb dX2_pass_73 (by decide) ?_
          exact ih11 (i + 1) v g (midF fK n) (by omega) (by omega) (turns_stay hT (Or.inl c_38)) (fun _ => rfl) hV _ _ (hP.part [0, 1] rfl) (hD.part [0, 1] (by decide) rfl) hS ls (lv_sub hl [0, 2, 3, 4] rfl)
        · skip
          refine lv_aload_n hx hb dX2_pass_41 rfl (lv_at hl 4 rfl) ?_
          refine lv_iload hx hb dX2_pass_42 (lv_at hl 0 rfl) ?_
          have hPc : va_P D vwCl ([(sa, .inr (2, [.int rg, .int st, .ref sd])), (sd, .inl (cR, n, .inr (.inr (.inr (.inr (refsF n ad))))))] ++ rowsC cA n ad fV fW fR fP g) H := hP.part [0, 1] rfl
          have hDc : va_D A ([(sa, .inr (2, [.int rg, .int st, .ref sd])), (sd, .inl (cR, n, .inr (.inr (.inr (.inr (refsF n ad))))))] ++ rowsC cA n ad fV fW fR fP g) := hD.part [0, 1] (by decide) rfl
          have hFc := zfree hDc hS hA
          refine zi (wc := ([(sa, .inr (2, [.int rg, .int st, .ref sd])), (sd, .inl (cR, n, .inr (.inr (.inr (.inr (refsF n ad))))))] ++ rowsC cA n ad fV fW fR fP g)) hFc hS (zRunV (q := (RX2, TX2, 3)) (mc := 0) (ms := 0) (As := [.int (stepC (fW i) (fR i) (fP i) (g i) (midF fK n))]) (rest := []) F (c_X2_on l hl0 D cA cR sa rg st sd n ad fV fW fR fP g (stepC (fW i) (fR i) (fP i) (g i) (midF fK n)) hn H.size) (cwV 1 hts gX2_pass_X2_on rfl rfl rfl (by decide +kernel) ⟨Nat.le_of_ble_eq_true rfl, Nat.le_of_ble_eq_true rfl⟩) hK hP hPc hDc hS hA hXE [0, 1] rfl 0 rfl rfl rfl hl.1 rfl (Nat.le_of_ble_eq_true rfl) dX2_pass_44 ⟨Nat.le_of_ble_eq_true rfl, Nat.le_of_ble_eq_true rfl⟩) (fun (_ : Unit) => ([(sa, .inr (2, [.int rg, .int st, .ref sd])), (sd, .inl (cR, n, .inr (.inr (.inr (.inr (refsF n ad))))))] ++ rowsC cA n ad fV fW fR fP g)) (fun u9 H1 a b c => va_joinP (cx := [(sa, .inr (2, [.int rg, .int st, .ref sd])), (sd, .inl (cR, n, .inr (.inr (.inr (.inr (refsF n ad))))))]) (wr := []) hP hD [0, 1] [] rfl rfl (by decide) (by decide) c hFc a b) (fun r_7 u_8 H locs hw_9 hP hD hS => ?_)
          have hw_9 : r_7 = crowd g (stepC (fW i) (fR i) (fP i) (g i) (midF fK n)) n := hw_9
          rw [hw_9]
          have hP : va_P D vwCl ([(sa, .inr (2, [.int rg, .int st, .ref sd])), (sd, .inl (cR, n, .inr (.inr (.inr (.inr (refsF n ad))))))] ++ rowsC cA n ad fV fW fR fP g) H := hP
          have hD : va_D A ([(sa, .inr (2, [.int rg, .int st, .ref sd])), (sd, .inl (cR, n, .inr (.inr (.inr (.inr (refsF n ad))))))] ++ rowsC cA n ad fV fW fR fP g) := hD
          refine lv_aload_n hx hb dX2_pass_47 rfl (lv_at hl 4 rfl) ?_
          refine va_get (D := D) (ci := 2) (v := .int st) (C := RX2) (T := TX2) (N := 3) hx hb hts uX2_X2_pass hown hK hP 0 rfl rfl 1 (by decide) (hts (.fieldLink RX2 7 "RopeChoicesLaw$Sim" "strength" "I") (List.mem_of_getElem? (i := 2) rfl)) (fun _ h9 => h9) rfl dX2_pass_48 ?_
          refine lv_icmp_lt (tgt := 57) hx hb dX2_pass_51 (by decide) (fun c_51 => ?_) (fun c_51 => ?_)
          · skip
            refine lv_aload_n hx hb dX2_pass_57 rfl (lv_at hl 4 rfl) ?_
            refine va_get (D := D) (ci := 2) (v := .ref sd) (C := RX2) (T := TX2) (N := 3) hx hb hts uX2_X2_pass hown hK hP 0 rfl rfl 2 (by decide) (hts (.fieldLink RX2 15 "RopeChoicesLaw$Sim" "delegates" "[[I") (List.mem_of_getElem? (i := 1) rfl)) (fun _ h9 => h9) rfl dX2_pass_58 ?_
            refine lv_iload_n hx hb dX2_pass_61 rfl (lv_at hl 1 rfl) ?_
            refine q_ld hx hb hK hP 1 1 rfl rfl (by omega) (by omega) (refsF_at (by omega)) dX2_pass_62 ?_
            refine lv_iconst (v := 4) hx hb dX2_pass_63 (by decide) ?_
            refine lv_iload hx hb dX2_pass_64 (lv_at hl 0 rfl) ?_
            refine r_stK hx hb hK hP hD hS 0 rfl (k := i) (by omega) dX2_pass_66 (fun H locs hP hD hS => ?_)
            have hP : va_P D vwCl ([(sa, .inr (2, [.int rg, .int st, .ref sd])), (sd, .inl (cR, n, .inr (.inr (.inr (.inr (refsF n ad))))))] ++ rowsC cA n ad fV fW fR fP (upd g i (stepC (fW i) (fR i) (fP i) (g i) (midF fK n)))) H := hP
            have hD : va_D A ([(sa, .inr (2, [.int rg, .int st, .ref sd])), (sd, .inl (cR, n, .inr (.inr (.inr (.inr (refsF n ad))))))] ++ rowsC cA n ad fV fW fR fP (upd g i (stepC (fW i) (fR i) (fP i) (g i) (midF fK n)))) := hD
            refine lv_iinc (v := (v + 1)) (lv' := [(2, .int (v + 1)), (4, .int (stepC (fW i) (fR i) (fP i) (g i) (midF fK n))), (3, .int (nI i)), (1, .int (midF fK n)), (0, .ref sa)]) hx hb dX2_pass_67 hl (k := 2) rfl rfl (by decide) rfl (fun ls hl => ?_)
            refine lv_iinc (v := nI (i + 1)) (lv' := [(3, .int (nI (i + 1))), (2, .int (v + 1)), (4, .int (stepC (fW i) (fR i) (fP i) (g i) (midF fK n))), (1, .int (midF fK n)), (0, .ref sa)]) hx hb dX2_pass_70 hl (k := 2) rfl (nI_1 _) (by decide) rfl (fun ls hl => ?_)
            refine lv_goto (tgt := 11) hx hb dX2_pass_73 (by decide) ?_
            exact ih11 (i + 1) (v + 1) (upd g i (stepC (fW i) (fR i) (fP i) (g i) (midF fK n))) (midF fK n) (by omega) (by omega) (turns_go hT c_38 c_51) (fun _ => rfl) (inv_K hV (step_eq (hV i (by omega)).1 (hV i (by omega)).2.1 (hV i (by omega)).2.2.1 (hV i (by omega)).2.2.2 (mid_ok hI0 (by omega))).2) _ _ (hP.part [0, 1] rfl) (hD.part [0, 1] (by decide) rfl) hS ls (lv_sub hl [0, 1, 3, 4] rfl)
          · skip
            refine lv_goto (tgt := 70) hx hb dX2_pass_54 (by decide) ?_
            refine lv_iinc (v := nI (i + 1)) (lv' := [(3, .int (nI (i + 1))), (4, .int (stepC (fW i) (fR i) (fP i) (g i) (midF fK n))), (2, .int v), (1, .int (midF fK n)), (0, .ref sa)]) hx hb dX2_pass_70 hl (k := 1) rfl (nI_1 _) (by decide) rfl (fun ls hl => ?_)
            refine lv_goto (tgt := 11) hx hb dX2_pass_73 (by decide) ?_
            exact ih11 (i + 1) v g (midF fK n) (by omega) (by omega) (turns_stay hT (Or.inr c_51)) (fun _ => rfl) hV _ _ (hP.part [0, 1] rfl) (hD.part [0, 1] (by decide) rfl) hS ls (lv_sub hl [0, 2, 3, 4] rfl)
  exact loop11 (n + 1) 0 0 fK (medM fK (selM fV (-1) (-1)) n) (by omega) (Nat.zero_le _) rfl (fun h9 => medM_F1 hn fV h9) hV _ _ (hP.part [0, 1] rfl) (hD.part [0, 1] (by decide) rfl) hS ls (lv_sub hl [0, 1, 2, 3] rfl)
set_option maxHeartbeats 4000000 in
set_option maxRecDepth 100000 in
theorem c_X2_behind (l : Launch) (hl0 : l.stackTraces = false) (D : va_G) (cA : ClassId) (cR : ClassId) (sa : Nat) (rg : Int32) (st : Int32) (sd : Nat) (n : Nat) (ad : Nat → Nat) (fV : Nat → Int32) (fW : Nat → Int32) (fR : Nat → Int32) (fP : Nat → Int32) (fK : Nat → Int32) (rd : Nat) (hn : n ≤ 12) (hV : Inv fW fR fP fK n) (hrd : rd ≤ 50) (sz : Nat) : Met l yX2_behind wsX2_behind ({ frames := 3, cells := 50, slots := 2050, locals := 90 } : Room) (va_Pc [.ref sa, .int (nI rd)] (Wx D [(cA, .int), (cR, .array .int)] ([(sa, .inr (2, [.int rg, .int st, .ref sd])), (sd, .inl (cR, n, .inr (.inr (.inr (.inr (refsF n ad))))))] ++ rowsC cA n ad fV fW fR fP fK) sz)) (va_Qi (fun (r : Int32) (_ : Unit) => r = (rnds fW fR fP n st fK rd).2) (fun (_ : Unit) t => We D [(cA, .int), (cR, .array .int)] ([(sa, .inr (2, [.int (rg + nI rd), .int st, .ref sd])), (sd, .inl (cR, n, .inr (.inr (.inr (.inr (refsF n ad))))))] ++ rowsC cA n ad fV fW fR fP ((rnds fW fR fP n st fK rd).1)) (va_A ([(sa, .inr (2, [.int rg, .int st, .ref sd])), (sd, .inl (cR, n, .inr (.inr (.inr (.inr (refsF n ad))))))] ++ rowsC cA n ad fV fW fR fP fK) sz) t) (va_A ([(sa, .inr (2, [.int rg, .int st, .ref sd])), (sd, .inl (cR, n, .inr (.inr (.inr (.inr (refsF n ad))))))] ++ rowsC cA n ad fV fW fR fP fK) sz)) 50 2050 (va_A ([(sa, .inr (2, [.int rg, .int st, .ref sd])), (sd, .inl (cR, n, .inr (.inr (.inr (.inr (refsF n ad))))))] ++ rowsC cA n ad fV fW fR fP fK) sz) := by
  refine mk_z (y := yX2_behind) (ws := wsX2_behind) (tys := [(cA, .int), (cR, .array .int)]) (wc := ([(sa, .inr (2, [.int rg, .int st, .ref sd])), (sd, .inl (cR, n, .inr (.inr (.inr (.inr (refsF n ad))))))] ++ rowsC cA n ad fV fW fR fP fK)) (sz := sz) (mc := 50) (ms := 2050) (cc := cX2_behind) (maxL := 4) (ret := (some .int)) [.ref sa, .int (nI rd)] (fun A => va_Qi (fun (r : Int32) (_ : Unit) => r = (rnds fW fR fP n st fK rd).2) (fun (_ : Unit) t => We D [(cA, .int), (cR, .array .int)] ([(sa, .inr (2, [.int (rg + nI rd), .int st, .ref sd])), (sd, .inl (cR, n, .inr (.inr (.inr (.inr (refsF n ad))))))] ++ rowsC cA n ad fV fW fR fP ((rnds fW fR fP n st fK rd).1)) A t) A) (by decide) rfl (Nat.le_of_ble_eq_true rfl) ?_
  intro p e s m args below meth c A ls F hr hlocks hname hP hK hD hXE hA hl
  have hx := F.1
  have hb := F.2.1
  have hml := F.2.2.1
  have hown := F.2.2.2.1
  have hts := F.2.2.2.2
  have hS : va_S A s.heap s.heap [] := va_S.rf
  have hNa := qNa_of hXE
  have hCl := qCl_of hXE
  have hNe := qNe_of hXE
  have hl : lv_has ls 4 [(0, .ref sa), (1, .int (nI rd))] := hl
  refine absQ (fun Q hQ => ?_)
  refine lv_iconst (v := 0) hx hb dX2_behind_0 (by decide) ?_
  refine lv_istore_n (lv' := [(2, .int 0), (0, .ref sa), (1, .int (nI rd))]) hx hb dX2_behind_1 rfl hl (by decide) rfl (fun ls hl => ?_)
  refine lv_iconst (v := 0) hx hb dX2_behind_2 (by decide) ?_
  refine lv_istore_n (lv' := [(3, .int 0), (2, .int 0), (0, .ref sa), (1, .int (nI rd))]) hx hb dX2_behind_3 rfl hl (by decide) rfl (fun ls hl => ?_)
  have loop4 : ∀ (k : Nat) (i : Nat) (v : Int32) (g : Nat → Int32) (rr : Int32), (rd < i + k) → (i ≤ rd) → ((g, v) = rnds fW fR fP n st fK i) → (rr = rg + nI i) → (Inv fW fR fP g n) →  ∀ (H : Heap) (locs : List Loc), va_P D vwCl ([(sa, .inr (2, [.int rr, .int st, .ref sd])), (sd, .inl (cR, n, .inr (.inr (.inr (.inr (refsF n ad))))))] ++ rowsC cA n ad fV fW fR fP g) H → va_D A ([(sa, .inr (2, [.int rr, .int st, .ref sd])), (sd, .inl (cR, n, .inr (.inr (.inr (.inr (refsF n ad))))))] ++ rowsC cA n ad fV fW fR fP g) → va_S A s.heap H locs → ∀ ls : Array Slot, lv_has ls 4 [(3, .int (nI i)), (2, .int v), (0, .ref sa), (1, .int (nI rd))] → W p l e ({ frames := 3, cells := 50, slots := 2050, locals := 90 } : Room) s m args below meth c H locs (1 * i) (41 * i) Q (F0 m 4 ls []) := by
    intro k
    induction k with
    | zero =>
      intro i v g rr hk hi hT hr9 hV
      exact absurd hk (by omega)
    | succ k ih4 =>
      intro i v g rr hk hi hT hr9 hV H locs hP hD hS ls hl
      refine lv_iload_n hx hb dX2_behind_4 rfl (lv_at hl 0 rfl) ?_
      refine lv_iload_n hx hb dX2_behind_5 rfl (lv_at hl 3 rfl) ?_
      refine lv_icmp_ge (tgt := 22) hx hb dX2_behind_6 (by decide) (fun c_6 => ?_) (fun c_6 => ?_)
      · skip
        have g_6 : rd ≤ i := nf_ge_t (by omega) (by omega) c_6
        rw [show i = rd by omega] at hT hr9
        have e9 : g = (rnds fW fR fP n st fK rd).1 := congrArg Prod.fst hT
        have e8 : v = (rnds fW fR fP n st fK rd).2 := congrArg Prod.snd hT
        subst e9
        subst e8
        subst hr9
        refine lv_iload_n hx hb dX2_behind_22 rfl (lv_at hl 1 rfl) ?_
        refine useQ hQ ?_
        exact q_i (v := (rnds fW fR fP n st fK rd).2) F hr hlocks hK hP hD hS [0, 1] [0, 1] () rfl rfl rfl rfl rfl (show (1 * i) ≤ 50 by omega) (show (41 * i) ≤ 2050 by omega) dX2_behind_23
      · skip
        have g_6 : i < rd := nf_ge_f (by omega) (by omega) c_6
        refine lv_iload_n hx hb dX2_behind_9 rfl (lv_at hl 1 rfl) ?_
        refine lv_aload_n hx hb dX2_behind_10 rfl (lv_at hl 2 rfl) ?_
        have hPc : va_P D vwCl ([(sa, .inr (2, [.int rr, .int st, .ref sd])), (sd, .inl (cR, n, .inr (.inr (.inr (.inr (refsF n ad))))))] ++ rowsC cA n ad fV fW fR fP g) H := hP.part [0, 1] rfl
        have hDc : va_D A ([(sa, .inr (2, [.int rr, .int st, .ref sd])), (sd, .inl (cR, n, .inr (.inr (.inr (.inr (refsF n ad))))))] ++ rowsC cA n ad fV fW fR fP g) := hD.part [0, 1] (by decide) rfl
        have hFc := zfree hDc hS hA
        refine zi (wc := ([(sa, .inr (2, [.int rr, .int st, .ref sd])), (sd, .inl (cR, n, .inr (.inr (.inr (.inr (refsF n ad))))))] ++ rowsC cA n ad fV fW fR fP g)) hFc hS (zRunV (q := (RX2, TX2, 3)) (mc := 1) (ms := 41) (As := []) (rest := [.int v]) F (c_X2_pass l hl0 D cA cR sa rr st sd n ad fV fW fR fP g hn hV H.size) (cwV 0 hts gX2_behind_X2_pass rfl rfl rfl (by decide +kernel) ⟨Nat.le_of_ble_eq_true rfl, Nat.le_of_ble_eq_true rfl⟩) hK hP hPc hDc hS hA hXE [0, 1] rfl 0 rfl rfl rfl hl.1 rfl (Nat.le_of_ble_eq_true rfl) dX2_behind_11 ⟨show (1 * i) + 1 ≤ 50 by omega, show (41 * i) + 41 ≤ 2050 by omega⟩) (fun (_ : Unit) => ([(sa, .inr (2, [.int (rr + 1), .int st, .ref sd])), (sd, .inl (cR, n, .inr (.inr (.inr (.inr (refsF n ad))))))] ++ rowsC cA n ad fV fW fR fP (rndF fW fR fP n st g))) (fun u9 H1 a b c => va_joinP (cx := [(sa, .inr (2, [.int rr, .int st, .ref sd])), (sd, .inl (cR, n, .inr (.inr (.inr (.inr (refsF n ad))))))]) (wr := []) hP hD [0, 1] [] rfl rfl (by decide) (by decide) c hFc a b) (fun r_1 u_2 H locs hw_3 hP hD hS => ?_)
        have hw_3 : r_1 = rndM fW fR fP n st g := hw_3
        rw [hw_3]
        have hP : va_P D vwCl ([(sa, .inr (2, [.int (rr + 1), .int st, .ref sd])), (sd, .inl (cR, n, .inr (.inr (.inr (.inr (refsF n ad))))))] ++ rowsC cA n ad fV fW fR fP (rndF fW fR fP n st g)) H := hP
        have hD : va_D A ([(sa, .inr (2, [.int (rr + 1), .int st, .ref sd])), (sd, .inl (cR, n, .inr (.inr (.inr (.inr (refsF n ad))))))] ++ rowsC cA n ad fV fW fR fP (rndF fW fR fP n st g)) := hD
        refine lv_iadd hx hb dX2_behind_14 ?_
        refine lv_istore_n (lv' := [(2, .int (v + (rndM fW fR fP n st g))), (3, .int (nI i)), (0, .ref sa), (1, .int (nI rd))]) hx hb dX2_behind_15 rfl hl (by decide) rfl (fun ls hl => ?_)
        refine lv_iinc (v := nI (i + 1)) (lv' := [(3, .int (nI (i + 1))), (2, .int (v + (rndM fW fR fP n st g))), (0, .ref sa), (1, .int (nI rd))]) hx hb dX2_behind_16 hl (k := 1) rfl (nI_1 _) (by decide) rfl (fun ls hl => ?_)
        refine lv_goto (tgt := 4) hx hb dX2_behind_19 (by decide) ?_
        refine W.widen (k := (1 * (i + 1))) (n := (41 * (i + 1))) (by omega) (by omega) ?_
        exact ih4 (i + 1) (v + (rndM fW fR fP n st g)) (rndF fW fR fP n st g) (rr + 1) (by omega) (by omega) (by rw [rnds_s, ← hT]) (by rw [hr9, Int32.add_assoc, nI_1]) (rndF_ok hV) _ _ (hP.part [0, 1] rfl) (hD.part [0, 1] (by decide) rfl) hS ls (lv_sub hl [0, 1, 2, 3] rfl)
  refine W.widen (k := (1 * 0)) (n := (41 * 0)) (by omega) (by omega) ?_
  exact loop4 (rd + 1) 0 0 fK rg (by omega) (Nat.zero_le _) rfl (by rw [show nI 0 = 0 from rfl, Int32.add_zero]) hV _ _ (hP.part [0, 1] rfl) (hD.part [0, 1] (by decide) rfl) hS ls (lv_sub hl [0, 1, 2, 3] rfl)
