theorem uX1_X1_checkDelegate : ∀ w ∈ u_ws RX1 TX1 10, w ∈ wsX1_checkDelegate := (fun _ h => List.mem_cons_of_mem _ (List.mem_append_left _ (List.mem_append_right _ h)))
set_option maxHeartbeats 4000000 in
set_option maxRecDepth 100000 in
theorem c_X1_checkDelegate (l : Launch) (hl0 : l.stackTraces = false) (D : va_G) (cA : ClassId) (h0 : Nat) (n : Nat) (rg : Int32) (st : Int32) (aV : Nat) (aW : Nat) (aR : Nat) (aP : Nat) (aK : Nat) (aL : Nat) (aQ : Nat) (d : Int32) (hn : n ≤ 12) (sz : Nat) : vx_Met l yX1_checkDelegate wsX1_checkDelegate ({ frames := 6, cells := 1, slots := 6, locals := 90 } : Room) (va_Pc [.ref h0, .int d] (Wx D [(cA, .int)] [(h0, .inr (1, [.int (nI n), .int rg, .int st, .ref aV, .ref aW, .ref aR, .ref aP, .ref aK, .ref aL, .ref aQ]))] sz)) (va_Qv (fun (_ : Unit) => okD n d) (fun (_ : Unit) t => We D [(cA, .int)] [(h0, .inr (1, [.int (nI n), .int rg, .int st, .ref aV, .ref aW, .ref aR, .ref aP, .ref aK, .ref aL, .ref aQ]))] (va_A [(h0, .inr (1, [.int (nI n), .int rg, .int st, .ref aV, .ref aW, .ref aR, .ref aP, .ref aK, .ref aL, .ref aQ]))] sz) t) (va_A [(h0, .inr (1, [.int (nI n), .int rg, .int st, .ref aV, .ref aW, .ref aR, .ref aP, .ref aK, .ref aL, .ref aQ]))] sz)) (vx_X (fun (_ : Unit) => True) (fun (E : String) (xx : Unit) t => (E = "java/lang/IndexOutOfBoundsException" ∧ ¬ okD n d) ∧ We D [(cA, .int)] [(h0, .inr (1, [.int (nI n), .int rg, .int st, .ref aV, .ref aW, .ref aR, .ref aP, .ref aK, .ref aL, .ref aQ]))] (va_A [(h0, .inr (1, [.int (nI n), .int rg, .int st, .ref aV, .ref aW, .ref aR, .ref aP, .ref aK, .ref aL, .ref aQ]))] sz) t) (va_A [(h0, .inr (1, [.int (nI n), .int rg, .int st, .ref aV, .ref aW, .ref aR, .ref aP, .ref aK, .ref aL, .ref aQ]))] sz)) 1 6 (va_A [(h0, .inr (1, [.int (nI n), .int rg, .int st, .ref aV, .ref aW, .ref aR, .ref aP, .ref aK, .ref aL, .ref aQ]))] sz) := by
  refine mk_vx [.ref h0, .int d] (fun A => va_Qv (fun (_ : Unit) => okD n d) (fun (_ : Unit) t => We D [(cA, .int)] [(h0, .inr (1, [.int (nI n), .int rg, .int st, .ref aV, .ref aW, .ref aR, .ref aP, .ref aK, .ref aL, .ref aQ]))] A t) A) (fun A => vx_X (fun (_ : Unit) => True) (fun (E : String) (xx : Unit) t => (E = "java/lang/IndexOutOfBoundsException" ∧ ¬ okD n d) ∧ We D [(cA, .int)] [(h0, .inr (1, [.int (nI n), .int rg, .int st, .ref aV, .ref aW, .ref aR, .ref aP, .ref aK, .ref aL, .ref aQ]))] A t) A) (by decide) rfl (Nat.le_of_ble_eq_true rfl) ?_
  intro p e s m args below meth c A ls F hr hlocks hname hno hP hK hD hXE hA hl
  have hx := F.1
  have hb := F.2.1
  have hml := F.2.2.1
  have hown := F.2.2.2.1
  have hts := F.2.2.2.2
  have hS : va_S A s.heap s.heap [] := va_S.rf
  have hl : lv_has ls 2 [(0, .ref h0), (1, .int d)] := hl
  refine absQ (fun Q hQ => ?_)
  refine lv_iload_n hx hb dX1_checkDelegate_0 rfl (lv_at hl 1 rfl) ?_
  refine lv_if_lt (tgt := 12) hx hb dX1_checkDelegate_1 (by decide) (fun c_1 => ?_) (fun c_1 => ?_)
  · skip
    refine useQ hQ ?_
    exact x_throw (cls := "java/lang/IndexOutOfBoundsException") F hl0 hno hlocks hK hP hD hS hXE hl.1 (by decide +kernel) (hts (.classLink RX1 232 "java/lang/IndexOutOfBoundsException") (List.mem_of_getElem? (i := 1) rfl)) (hts (.initialized "java/lang/IndexOutOfBoundsException") (List.mem_of_getElem? (i := 2) rfl)) (xstr_234) (fun w9 h9 => hts w9 ((fun _ h => List.mem_cons_of_mem _ (List.mem_append_right _ h)) w9 h9)) (by decide) xg_iob xo_iob dX1_checkDelegate_12 dX1_checkDelegate_15 dX1_checkDelegate_16 dX1_checkDelegate_18 dX1_checkDelegate_21 (Nat.le_of_ble_eq_true rfl) (Nat.le_of_ble_eq_true rfl) (Nat.le_of_ble_eq_true rfl) (Nat.le_of_ble_eq_true rfl) [0] [0] () (⟨rfl, okD_neg (by omega) c_1⟩) rfl rfl rfl (Nat.le_of_ble_eq_true rfl) (Nat.le_of_ble_eq_true rfl)
  · skip
    refine lv_iload_n hx hb dX1_checkDelegate_4 rfl (lv_at hl 1 rfl) ?_
    refine lv_aload_n hx hb dX1_checkDelegate_5 rfl (lv_at hl 0 rfl) ?_
    refine va_get (D := D) (ci := 1) (v := .int (nI n)) (C := RX1) (T := TX1) (N := 10) hx hb hts uX1_X1_checkDelegate hown hK hP 0 rfl rfl 0 (by decide) (hts (.fieldLink RX1 7 "RopeChoices" "count" "I") (List.mem_of_getElem? (i := 3) rfl)) (fun _ h9 => h9) rfl dX1_checkDelegate_6 ?_
    refine lv_icmp_lt (tgt := 22) hx hb dX1_checkDelegate_9 (by decide) (fun c_9 => ?_) (fun c_9 => ?_)
    · skip
      refine useQ hQ (vx_ret ?_)
      exact e_v F hr hlocks hK hP hD hS [0] [0] () (okD_of (by omega) c_1 c_9) rfl rfl rfl (Nat.le_of_ble_eq_true rfl) (Nat.le_of_ble_eq_true rfl) dX1_checkDelegate_22
    · skip
      refine useQ hQ ?_
      exact x_throw (cls := "java/lang/IndexOutOfBoundsException") F hl0 hno hlocks hK hP hD hS hXE hl.1 (by decide +kernel) (hts (.classLink RX1 232 "java/lang/IndexOutOfBoundsException") (List.mem_of_getElem? (i := 1) rfl)) (hts (.initialized "java/lang/IndexOutOfBoundsException") (List.mem_of_getElem? (i := 2) rfl)) (xstr_234) (fun w9 h9 => hts w9 ((fun _ h => List.mem_cons_of_mem _ (List.mem_append_right _ h)) w9 h9)) (by decide) xg_iob xo_iob dX1_checkDelegate_12 dX1_checkDelegate_15 dX1_checkDelegate_16 dX1_checkDelegate_18 dX1_checkDelegate_21 (Nat.le_of_ble_eq_true rfl) (Nat.le_of_ble_eq_true rfl) (Nat.le_of_ble_eq_true rfl) (Nat.le_of_ble_eq_true rfl) [0] [0] () (⟨rfl, okD_big (by omega) c_9⟩) rfl rfl rfl (Nat.le_of_ble_eq_true rfl) (Nat.le_of_ble_eq_true rfl)
set_option maxHeartbeats 4000000 in
set_option maxRecDepth 100000 in
theorem c_X1_checkVillage (l : Launch) (hl0 : l.stackTraces = false) (D : va_G) (v : Int32)  (sz : Nat) : vx_Met l yX1_checkVillage wsX1_checkVillage ({ frames := 6, cells := 1, slots := 6, locals := 90 } : Room) (va_Pc [.int v] (Wx D [] [] sz)) (va_Qv (fun (_ : Unit) => okD 5 v) (fun (_ : Unit) t => We D [] [] (va_A [] sz) t) (va_A [] sz)) (vx_X (fun (_ : Unit) => True) (fun (E : String) (xx : Unit) t => (E = "java/lang/IndexOutOfBoundsException" ∧ ¬ okD 5 v) ∧ We D [] [] (va_A [] sz) t) (va_A [] sz)) 1 6 (va_A [] sz) := by
  refine mk_vx [.int v] (fun A => va_Qv (fun (_ : Unit) => okD 5 v) (fun (_ : Unit) t => We D [] [] A t) A) (fun A => vx_X (fun (_ : Unit) => True) (fun (E : String) (xx : Unit) t => (E = "java/lang/IndexOutOfBoundsException" ∧ ¬ okD 5 v) ∧ We D [] [] A t) A) (by decide) rfl (Nat.le_of_ble_eq_true rfl) ?_
  intro p e s m args below meth c A ls F hr hlocks hname hno hP hK hD hXE hA hl
  have hx := F.1
  have hb := F.2.1
  have hml := F.2.2.1
  have hown := F.2.2.2.1
  have hts := F.2.2.2.2
  have hS : va_S A s.heap s.heap [] := va_S.rf
  have hl : lv_has ls 1 [(0, .int v)] := hl
  refine absQ (fun Q hQ => ?_)
  refine lv_iload_n hx hb dX1_checkVillage_0 rfl (lv_at hl 0 rfl) ?_
  refine lv_if_lt (tgt := 9) hx hb dX1_checkVillage_1 (by decide) (fun c_1 => ?_) (fun c_1 => ?_)
  · skip
    refine useQ hQ ?_
    exact x_throw (cls := "java/lang/IndexOutOfBoundsException") F hl0 hno hlocks hK hP hD hS hXE hl.1 (by decide +kernel) (hts (.classLink RX1 232 "java/lang/IndexOutOfBoundsException") (List.mem_of_getElem? (i := 1) rfl)) (hts (.initialized "java/lang/IndexOutOfBoundsException") (List.mem_of_getElem? (i := 2) rfl)) (xstr_237) (fun w9 h9 => hts w9 ((fun _ h => List.mem_cons_of_mem _ (List.mem_append_right _ h)) w9 h9)) (by decide) xg_iob xo_iob dX1_checkVillage_9 dX1_checkVillage_12 dX1_checkVillage_13 dX1_checkVillage_15 dX1_checkVillage_18 (Nat.le_of_ble_eq_true rfl) (Nat.le_of_ble_eq_true rfl) (Nat.le_of_ble_eq_true rfl) (Nat.le_of_ble_eq_true rfl) [] [] () (⟨rfl, okD_neg (by omega) c_1⟩) rfl rfl rfl (Nat.le_of_ble_eq_true rfl) (Nat.le_of_ble_eq_true rfl)
  · skip
    refine lv_iload_n hx hb dX1_checkVillage_4 rfl (lv_at hl 0 rfl) ?_
    refine lv_iconst (v := 5) hx hb dX1_checkVillage_5 (by decide) ?_
    refine lv_icmp_lt (tgt := 19) hx hb dX1_checkVillage_6 (by decide) (fun c_6 => ?_) (fun c_6 => ?_)
    · skip
      refine useQ hQ (vx_ret ?_)
      exact e_v F hr hlocks hK hP hD hS [] [] () (okD_of (n := 5) (by omega) c_1 c_6) rfl rfl rfl (Nat.le_of_ble_eq_true rfl) (Nat.le_of_ble_eq_true rfl) dX1_checkVillage_19
    · skip
      refine useQ hQ ?_
      exact x_throw (cls := "java/lang/IndexOutOfBoundsException") F hl0 hno hlocks hK hP hD hS hXE hl.1 (by decide +kernel) (hts (.classLink RX1 232 "java/lang/IndexOutOfBoundsException") (List.mem_of_getElem? (i := 1) rfl)) (hts (.initialized "java/lang/IndexOutOfBoundsException") (List.mem_of_getElem? (i := 2) rfl)) (xstr_237) (fun w9 h9 => hts w9 ((fun _ h => List.mem_cons_of_mem _ (List.mem_append_right _ h)) w9 h9)) (by decide) xg_iob xo_iob dX1_checkVillage_9 dX1_checkVillage_12 dX1_checkVillage_13 dX1_checkVillage_15 dX1_checkVillage_18 (Nat.le_of_ble_eq_true rfl) (Nat.le_of_ble_eq_true rfl) (Nat.le_of_ble_eq_true rfl) (Nat.le_of_ble_eq_true rfl) [] [] () (⟨rfl, okD_big (n := 5) (by omega) c_6⟩) rfl rfl rfl (Nat.le_of_ble_eq_true rfl) (Nat.le_of_ble_eq_true rfl)
set_option maxHeartbeats 4000000 in
set_option maxRecDepth 100000 in
theorem c_X1_checkPlank (l : Launch) (hl0 : l.stackTraces = false) (D : va_G) (x : Int32)  (sz : Nat) : vx_Met l yX1_checkPlank wsX1_checkPlank ({ frames := 6, cells := 1, slots := 6, locals := 90 } : Room) (va_Pc [.int x] (Wx D [] [] sz)) (va_Qv (fun (_ : Unit) => okD 41 x) (fun (_ : Unit) t => We D [] [] (va_A [] sz) t) (va_A [] sz)) (vx_X (fun (_ : Unit) => True) (fun (E : String) (xx : Unit) t => (E = "java/lang/IndexOutOfBoundsException" ∧ ¬ okD 41 x) ∧ We D [] [] (va_A [] sz) t) (va_A [] sz)) 1 6 (va_A [] sz) := by
  refine mk_vx [.int x] (fun A => va_Qv (fun (_ : Unit) => okD 41 x) (fun (_ : Unit) t => We D [] [] A t) A) (fun A => vx_X (fun (_ : Unit) => True) (fun (E : String) (xx : Unit) t => (E = "java/lang/IndexOutOfBoundsException" ∧ ¬ okD 41 x) ∧ We D [] [] A t) A) (by decide) rfl (Nat.le_of_ble_eq_true rfl) ?_
  intro p e s m args below meth c A ls F hr hlocks hname hno hP hK hD hXE hA hl
  have hx := F.1
  have hb := F.2.1
  have hml := F.2.2.1
  have hown := F.2.2.2.1
  have hts := F.2.2.2.2
  have hS : va_S A s.heap s.heap [] := va_S.rf
  have hl : lv_has ls 1 [(0, .int x)] := hl
  refine absQ (fun Q hQ => ?_)
  refine lv_iload_n hx hb dX1_checkPlank_0 rfl (lv_at hl 0 rfl) ?_
  refine lv_if_lt (tgt := 10) hx hb dX1_checkPlank_1 (by decide) (fun c_1 => ?_) (fun c_1 => ?_)
  · skip
    refine useQ hQ ?_
    exact x_throw (cls := "java/lang/IndexOutOfBoundsException") F hl0 hno hlocks hK hP hD hS hXE hl.1 (by decide +kernel) (hts (.classLink RX1 232 "java/lang/IndexOutOfBoundsException") (List.mem_of_getElem? (i := 1) rfl)) (hts (.initialized "java/lang/IndexOutOfBoundsException") (List.mem_of_getElem? (i := 2) rfl)) (xstr_239) (fun w9 h9 => hts w9 ((fun _ h => List.mem_cons_of_mem _ (List.mem_append_right _ h)) w9 h9)) (by decide) xg_iob xo_iob dX1_checkPlank_10 dX1_checkPlank_13 dX1_checkPlank_14 dX1_checkPlank_16 dX1_checkPlank_19 (Nat.le_of_ble_eq_true rfl) (Nat.le_of_ble_eq_true rfl) (Nat.le_of_ble_eq_true rfl) (Nat.le_of_ble_eq_true rfl) [] [] () (⟨rfl, okD_neg (by omega) c_1⟩) rfl rfl rfl (Nat.le_of_ble_eq_true rfl) (Nat.le_of_ble_eq_true rfl)
  · skip
    refine lv_iload_n hx hb dX1_checkPlank_4 rfl (lv_at hl 0 rfl) ?_
    refine lv_bipush (v := 41) hx hb dX1_checkPlank_5 (by decide) ?_
    refine lv_icmp_lt (tgt := 20) hx hb dX1_checkPlank_7 (by decide) (fun c_7 => ?_) (fun c_7 => ?_)
    · skip
      refine useQ hQ (vx_ret ?_)
      exact e_v F hr hlocks hK hP hD hS [] [] () (okD_of (n := 41) (by omega) c_1 c_7) rfl rfl rfl (Nat.le_of_ble_eq_true rfl) (Nat.le_of_ble_eq_true rfl) dX1_checkPlank_20
    · skip
      refine useQ hQ ?_
      exact x_throw (cls := "java/lang/IndexOutOfBoundsException") F hl0 hno hlocks hK hP hD hS hXE hl.1 (by decide +kernel) (hts (.classLink RX1 232 "java/lang/IndexOutOfBoundsException") (List.mem_of_getElem? (i := 1) rfl)) (hts (.initialized "java/lang/IndexOutOfBoundsException") (List.mem_of_getElem? (i := 2) rfl)) (xstr_239) (fun w9 h9 => hts w9 ((fun _ h => List.mem_cons_of_mem _ (List.mem_append_right _ h)) w9 h9)) (by decide) xg_iob xo_iob dX1_checkPlank_10 dX1_checkPlank_13 dX1_checkPlank_14 dX1_checkPlank_16 dX1_checkPlank_19 (Nat.le_of_ble_eq_true rfl) (Nat.le_of_ble_eq_true rfl) (Nat.le_of_ble_eq_true rfl) (Nat.le_of_ble_eq_true rfl) [] [] () (⟨rfl, okD_big (n := 41) (by omega) c_7⟩) rfl rfl rfl (Nat.le_of_ble_eq_true rfl) (Nat.le_of_ble_eq_true rfl)
set_option maxHeartbeats 4000000 in
set_option maxRecDepth 100000 in
theorem c_X1_checkTwoPlanks (l : Launch) (hl0 : l.stackTraces = false) (D : va_G) (x : Int32) (y : Int32)  (sz : Nat) : vx_Met l yX1_checkTwoPlanks wsX1_checkTwoPlanks ({ frames := 7, cells := 3, slots := 18, locals := 110 } : Room) (va_Pc [.int x, .int y] (Wx D [] [] sz)) (va_Qv (fun (_ : Unit) => cd2 (¬ (okD 41 x ∧ okD 41 y)) (x = y) = 0) (fun (_ : Unit) t => We D [] [] (va_A [] sz) t) (va_A [] sz)) (vx_X (fun (_ : Unit) => True) (fun (E : String) (xx : Unit) t => ((E = "java/lang/IndexOutOfBoundsException" ∧ cd2 (¬ (okD 41 x ∧ okD 41 y)) (x = y) = 1) ∨ (E = "java/lang/IllegalArgumentException" ∧ cd2 (¬ (okD 41 x ∧ okD 41 y)) (x = y) = 2)) ∧ We D [] [] (va_A [] sz) t) (va_A [] sz)) 3 18 (va_A [] sz) := by
  refine mk_vx [.int x, .int y] (fun A => va_Qv (fun (_ : Unit) => cd2 (¬ (okD 41 x ∧ okD 41 y)) (x = y) = 0) (fun (_ : Unit) t => We D [] [] A t) A) (fun A => vx_X (fun (_ : Unit) => True) (fun (E : String) (xx : Unit) t => ((E = "java/lang/IndexOutOfBoundsException" ∧ cd2 (¬ (okD 41 x ∧ okD 41 y)) (x = y) = 1) ∨ (E = "java/lang/IllegalArgumentException" ∧ cd2 (¬ (okD 41 x ∧ okD 41 y)) (x = y) = 2)) ∧ We D [] [] A t) A) (by decide) rfl (Nat.le_of_ble_eq_true rfl) ?_
  intro p e s m args below meth c A ls F hr hlocks hname hno hP hK hD hXE hA hl
  have hx := F.1
  have hb := F.2.1
  have hml := F.2.2.1
  have hown := F.2.2.2.1
  have hts := F.2.2.2.2
  have hS : va_S A s.heap s.heap [] := va_S.rf
  have hl : lv_has ls 2 [(0, .int x), (1, .int y)] := hl
  refine absQ (fun Q hQ => ?_)
  refine lv_iload_n hx hb dX1_checkTwoPlanks_0 rfl (lv_at hl 0 rfl) ?_
  have hX_1 : Cut D A [] [] [] [] [] [] [] [] := ⟨rfl, rfl, rfl, rfl, by decide, rfl⟩
  refine xv hX_1 hP hD hS hA (xRunS (As := [.int x]) (rest := []) F (c_X1_checkPlank l hl0 D x s.heap.size) (va_cwS 1 hts gX1_checkTwoPlanks_X1_checkPlank rfl rfl rfl (by decide +kernel) ⟨Nat.le_of_ble_eq_true rfl, Nat.le_of_ble_eq_true rfl⟩) hK hP hD hS hA hXE hX_1 rfl hl.1 rfl (Nat.le_of_ble_eq_true rfl) dX1_checkTwoPlanks_1 ⟨Nat.le_of_ble_eq_true rfl, Nat.le_of_ble_eq_true rfl⟩) (fun E9 ce9 q9 u_3 H locs hw_4 hP hD hS hc9 hv9 hf9 => ?_) (fun u_3 H locs hw_4 hP hD hS => ?_)
  · skip
    have hP : va_P D vwCl [] H := hP
    have hD : va_D A [] := hD
    have hw_4 : E9 = "java/lang/IndexOutOfBoundsException" ∧ ¬ okD 41 x := hw_4
    refine uxQ hQ ?_
    exact x_out hno hlocks hK hP hD hS [] [] () (Or.inl ⟨hw_4.1, cd2_1 (fun z => hw_4.2 z.1)⟩) rfl rfl rfl hc9 hv9 hf9 (Nat.le_of_ble_eq_true rfl) (Nat.le_of_ble_eq_true rfl)
  · skip
    have hw_4 : okD 41 x := hw_4
    have hP : va_P D vwCl [] H := hP
    have hD : va_D A [] := hD
    have h1 := hw_4
    refine lv_iload_n hx hb dX1_checkTwoPlanks_4 rfl (lv_at hl 1 rfl) ?_
    have hX_5 : Cut D A [] [] [] [] [] [] [] [] := ⟨rfl, rfl, rfl, rfl, by decide, rfl⟩
    refine xv hX_5 hP hD hS hA (xRunS (As := [.int y]) (rest := []) F (c_X1_checkPlank l hl0 D y H.size) (va_cwS 1 hts gX1_checkTwoPlanks_X1_checkPlank rfl rfl rfl (by decide +kernel) ⟨Nat.le_of_ble_eq_true rfl, Nat.le_of_ble_eq_true rfl⟩) hK hP hD hS hA hXE hX_5 rfl hl.1 rfl (Nat.le_of_ble_eq_true rfl) dX1_checkTwoPlanks_5 ⟨Nat.le_of_ble_eq_true rfl, Nat.le_of_ble_eq_true rfl⟩) (fun E9 ce9 q9 u_7 H locs hw_8 hP hD hS hc9 hv9 hf9 => ?_) (fun u_7 H locs hw_8 hP hD hS => ?_)
    · skip
      have hP : va_P D vwCl [] H := hP
      have hD : va_D A [] := hD
      have hw_8 : E9 = "java/lang/IndexOutOfBoundsException" ∧ ¬ okD 41 y := hw_8
      refine uxQ hQ ?_
      exact x_out hno hlocks hK hP hD hS [] [] () (Or.inl ⟨hw_8.1, cd2_1 (fun z => hw_8.2 z.2)⟩) rfl rfl rfl hc9 hv9 hf9 (Nat.le_of_ble_eq_true rfl) (Nat.le_of_ble_eq_true rfl)
    · skip
      have hw_8 : okD 41 y := hw_8
      have hP : va_P D vwCl [] H := hP
      have hD : va_D A [] := hD
      have h2 := hw_8
      refine lv_iload_n hx hb dX1_checkTwoPlanks_8 rfl (lv_at hl 0 rfl) ?_
      refine lv_iload_n hx hb dX1_checkTwoPlanks_9 rfl (lv_at hl 1 rfl) ?_
      refine lv_icmp_ne (tgt := 23) hx hb dX1_checkTwoPlanks_10 (by decide) (fun c_10 => ?_) (fun c_10 => ?_)
      · skip
        refine useQ hQ (vx_ret ?_)
        exact e_v F hr hlocks hK hP hD hS [] [] () (cd2_0 (not_not_intro ⟨h1, h2⟩) c_10) rfl rfl rfl (Nat.le_of_ble_eq_true rfl) (Nat.le_of_ble_eq_true rfl) dX1_checkTwoPlanks_23
      · skip
        refine useQ hQ ?_
        exact x_throw (cls := "java/lang/IllegalArgumentException") F hl0 hno hlocks hK hP hD hS hXE hl.1 (by decide +kernel) (hts (.classLink RX1 85 "java/lang/IllegalArgumentException") (List.mem_of_getElem? (i := 1) rfl)) (hts (.initialized "java/lang/IllegalArgumentException") (List.mem_of_getElem? (i := 2) rfl)) (xstr_241) (fun w9 h9 => hts w9 ((fun _ h => List.mem_cons_of_mem _ (List.mem_append_left _ (List.mem_append_right _ h))) w9 h9)) (by decide) xg_iae xo_iae dX1_checkTwoPlanks_13 dX1_checkTwoPlanks_16 dX1_checkTwoPlanks_17 dX1_checkTwoPlanks_19 dX1_checkTwoPlanks_22 (Nat.le_of_ble_eq_true rfl) (Nat.le_of_ble_eq_true rfl) (Nat.le_of_ble_eq_true rfl) (Nat.le_of_ble_eq_true rfl) [] [] () (Or.inr ⟨rfl, cd2_2 (not_not_intro ⟨h1, h2⟩) c_10⟩) rfl rfl rfl (Nat.le_of_ble_eq_true rfl) (Nat.le_of_ble_eq_true rfl)
set_option maxHeartbeats 4000000 in
set_option maxRecDepth 100000 in
theorem c_X1_checkReachAndPace (l : Launch) (hl0 : l.stackTraces = false) (D : va_G) (rr : Int32) (pp : Int32)  (sz : Nat) : vx_Met l yX1_checkReachAndPace wsX1_checkReachAndPace ({ frames := 6, cells := 1, slots := 6, locals := 90 } : Room) (va_Pc [.int rr, .int pp] (Wx D [] [] sz)) (va_Qv (fun (_ : Unit) => okB 0 20 rr ∧ okB 1 5 pp) (fun (_ : Unit) t => We D [] [] (va_A [] sz) t) (va_A [] sz)) (vx_X (fun (_ : Unit) => True) (fun (E : String) (xx : Unit) t => (E = "java/lang/IllegalArgumentException" ∧ ¬ (okB 0 20 rr ∧ okB 1 5 pp)) ∧ We D [] [] (va_A [] sz) t) (va_A [] sz)) 1 6 (va_A [] sz) := by
  refine mk_vx [.int rr, .int pp] (fun A => va_Qv (fun (_ : Unit) => okB 0 20 rr ∧ okB 1 5 pp) (fun (_ : Unit) t => We D [] [] A t) A) (fun A => vx_X (fun (_ : Unit) => True) (fun (E : String) (xx : Unit) t => (E = "java/lang/IllegalArgumentException" ∧ ¬ (okB 0 20 rr ∧ okB 1 5 pp)) ∧ We D [] [] A t) A) (by decide) rfl (Nat.le_of_ble_eq_true rfl) ?_
  intro p e s m args below meth c A ls F hr hlocks hname hno hP hK hD hXE hA hl
  have hx := F.1
  have hb := F.2.1
  have hml := F.2.2.1
  have hown := F.2.2.2.1
  have hts := F.2.2.2.2
  have hS : va_S A s.heap s.heap [] := va_S.rf
  have hl : lv_has ls 2 [(0, .int rr), (1, .int pp)] := hl
  refine absQ (fun Q hQ => ?_)
  refine lv_iload_n hx hb dX1_checkReachAndPace_0 rfl (lv_at hl 0 rfl) ?_
  refine lv_if_lt (tgt := 10) hx hb dX1_checkReachAndPace_1 (by decide) (fun c_1 => ?_) (fun c_1 => ?_)
  · skip
    refine useQ hQ ?_
    exact x_throw (cls := "java/lang/IllegalArgumentException") F hl0 hno hlocks hK hP hD hS hXE hl.1 (by decide +kernel) (hts (.classLink RX1 85 "java/lang/IllegalArgumentException") (List.mem_of_getElem? (i := 1) rfl)) (hts (.initialized "java/lang/IllegalArgumentException") (List.mem_of_getElem? (i := 2) rfl)) (xstr_243) (fun w9 h9 => hts w9 ((fun _ h => List.mem_cons_of_mem _ (List.mem_append_right _ h)) w9 h9)) (by decide) xg_iae xo_iae dX1_checkReachAndPace_10 dX1_checkReachAndPace_13 dX1_checkReachAndPace_14 dX1_checkReachAndPace_16 dX1_checkReachAndPace_19 (Nat.le_of_ble_eq_true rfl) (Nat.le_of_ble_eq_true rfl) (Nat.le_of_ble_eq_true rfl) (Nat.le_of_ble_eq_true rfl) [] [] () (⟨rfl, fun z => okB_lo (lo := 0) (hi := 20) (by omega) c_1 z.1⟩) rfl rfl rfl (Nat.le_of_ble_eq_true rfl) (Nat.le_of_ble_eq_true rfl)
  · skip
    refine lv_iload_n hx hb dX1_checkReachAndPace_4 rfl (lv_at hl 0 rfl) ?_
    refine lv_bipush (v := 20) hx hb dX1_checkReachAndPace_5 (by decide) ?_
    refine lv_icmp_le (tgt := 20) hx hb dX1_checkReachAndPace_7 (by decide) (fun c_7 => ?_) (fun c_7 => ?_)
    · skip
      refine lv_iload_n hx hb dX1_checkReachAndPace_20 rfl (lv_at hl 1 rfl) ?_
      refine lv_iconst (v := 1) hx hb dX1_checkReachAndPace_21 (by decide) ?_
      refine lv_icmp_lt (tgt := 30) hx hb dX1_checkReachAndPace_22 (by decide) (fun c_22 => ?_) (fun c_22 => ?_)
      · skip
        refine useQ hQ ?_
        exact x_throw (cls := "java/lang/IllegalArgumentException") F hl0 hno hlocks hK hP hD hS hXE hl.1 (by decide +kernel) (hts (.classLink RX1 85 "java/lang/IllegalArgumentException") (List.mem_of_getElem? (i := 1) rfl)) (hts (.initialized "java/lang/IllegalArgumentException") (List.mem_of_getElem? (i := 2) rfl)) (xstr_245) (fun w9 h9 => hts w9 ((fun _ h => List.mem_cons_of_mem _ (List.mem_append_right _ h)) w9 h9)) (by decide) xg_iae xo_iae dX1_checkReachAndPace_30 dX1_checkReachAndPace_33 dX1_checkReachAndPace_34 dX1_checkReachAndPace_36 dX1_checkReachAndPace_39 (Nat.le_of_ble_eq_true rfl) (Nat.le_of_ble_eq_true rfl) (Nat.le_of_ble_eq_true rfl) (Nat.le_of_ble_eq_true rfl) [] [] () (⟨rfl, fun z => okB_lo (lo := 1) (hi := 5) (by omega) c_22 z.2⟩) rfl rfl rfl (Nat.le_of_ble_eq_true rfl) (Nat.le_of_ble_eq_true rfl)
      · skip
        refine lv_iload_n hx hb dX1_checkReachAndPace_25 rfl (lv_at hl 1 rfl) ?_
        refine lv_iconst (v := 5) hx hb dX1_checkReachAndPace_26 (by decide) ?_
        refine lv_icmp_le (tgt := 40) hx hb dX1_checkReachAndPace_27 (by decide) (fun c_27 => ?_) (fun c_27 => ?_)
        · skip
          refine useQ hQ (vx_ret ?_)
          exact e_v F hr hlocks hK hP hD hS [] [] () (⟨okB_of (lo := 0) (hi := 20) (by omega) (by omega) c_1 (Int32.not_lt.mpr c_7), okB_of (lo := 1) (hi := 5) (by omega) (by omega) c_22 (Int32.not_lt.mpr c_27)⟩) rfl rfl rfl (Nat.le_of_ble_eq_true rfl) (Nat.le_of_ble_eq_true rfl) dX1_checkReachAndPace_40
        · skip
          refine useQ hQ ?_
          exact x_throw (cls := "java/lang/IllegalArgumentException") F hl0 hno hlocks hK hP hD hS hXE hl.1 (by decide +kernel) (hts (.classLink RX1 85 "java/lang/IllegalArgumentException") (List.mem_of_getElem? (i := 1) rfl)) (hts (.initialized "java/lang/IllegalArgumentException") (List.mem_of_getElem? (i := 2) rfl)) (xstr_245) (fun w9 h9 => hts w9 ((fun _ h => List.mem_cons_of_mem _ (List.mem_append_right _ h)) w9 h9)) (by decide) xg_iae xo_iae dX1_checkReachAndPace_30 dX1_checkReachAndPace_33 dX1_checkReachAndPace_34 dX1_checkReachAndPace_36 dX1_checkReachAndPace_39 (Nat.le_of_ble_eq_true rfl) (Nat.le_of_ble_eq_true rfl) (Nat.le_of_ble_eq_true rfl) (Nat.le_of_ble_eq_true rfl) [] [] () (⟨rfl, fun z => okB_hi (lo := 1) (hi := 5) (by omega) (Int32.not_le.mp c_27) z.2⟩) rfl rfl rfl (Nat.le_of_ble_eq_true rfl) (Nat.le_of_ble_eq_true rfl)
    · skip
      refine useQ hQ ?_
      exact x_throw (cls := "java/lang/IllegalArgumentException") F hl0 hno hlocks hK hP hD hS hXE hl.1 (by decide +kernel) (hts (.classLink RX1 85 "java/lang/IllegalArgumentException") (List.mem_of_getElem? (i := 1) rfl)) (hts (.initialized "java/lang/IllegalArgumentException") (List.mem_of_getElem? (i := 2) rfl)) (xstr_243) (fun w9 h9 => hts w9 ((fun _ h => List.mem_cons_of_mem _ (List.mem_append_right _ h)) w9 h9)) (by decide) xg_iae xo_iae dX1_checkReachAndPace_10 dX1_checkReachAndPace_13 dX1_checkReachAndPace_14 dX1_checkReachAndPace_16 dX1_checkReachAndPace_19 (Nat.le_of_ble_eq_true rfl) (Nat.le_of_ble_eq_true rfl) (Nat.le_of_ble_eq_true rfl) (Nat.le_of_ble_eq_true rfl) [] [] () (⟨rfl, fun z => okB_hi (lo := 0) (hi := 20) (by omega) (Int32.not_le.mp c_7) z.1⟩) rfl rfl rfl (Nat.le_of_ble_eq_true rfl) (Nat.le_of_ble_eq_true rfl)
set_option maxHeartbeats 4000000 in
set_option maxRecDepth 100000 in
theorem c_X1_checkRounds (l : Launch) (hl0 : l.stackTraces = false) (D : va_G) (x : Int32)  (sz : Nat) : vx_Met l yX1_checkRounds wsX1_checkRounds ({ frames := 6, cells := 1, slots := 6, locals := 90 } : Room) (va_Pc [.int x] (Wx D [] [] sz)) (va_Qv (fun (_ : Unit) => okB 1 50 x) (fun (_ : Unit) t => We D [] [] (va_A [] sz) t) (va_A [] sz)) (vx_X (fun (_ : Unit) => True) (fun (E : String) (xx : Unit) t => (E = "java/lang/IllegalArgumentException" ∧ ¬ okB 1 50 x) ∧ We D [] [] (va_A [] sz) t) (va_A [] sz)) 1 6 (va_A [] sz) := by
  refine mk_vx [.int x] (fun A => va_Qv (fun (_ : Unit) => okB 1 50 x) (fun (_ : Unit) t => We D [] [] A t) A) (fun A => vx_X (fun (_ : Unit) => True) (fun (E : String) (xx : Unit) t => (E = "java/lang/IllegalArgumentException" ∧ ¬ okB 1 50 x) ∧ We D [] [] A t) A) (by decide) rfl (Nat.le_of_ble_eq_true rfl) ?_
  intro p e s m args below meth c A ls F hr hlocks hname hno hP hK hD hXE hA hl
  have hx := F.1
  have hb := F.2.1
  have hml := F.2.2.1
  have hown := F.2.2.2.1
  have hts := F.2.2.2.2
  have hS : va_S A s.heap s.heap [] := va_S.rf
  have hl : lv_has ls 1 [(0, .int x)] := hl
  refine absQ (fun Q hQ => ?_)
  refine lv_iload_n hx hb dX1_checkRounds_0 rfl (lv_at hl 0 rfl) ?_
  refine lv_iconst (v := 1) hx hb dX1_checkRounds_1 (by decide) ?_
  refine lv_icmp_lt (tgt := 11) hx hb dX1_checkRounds_2 (by decide) (fun c_2 => ?_) (fun c_2 => ?_)
  · skip
    refine useQ hQ ?_
    exact x_throw (cls := "java/lang/IllegalArgumentException") F hl0 hno hlocks hK hP hD hS hXE hl.1 (by decide +kernel) (hts (.classLink RX1 85 "java/lang/IllegalArgumentException") (List.mem_of_getElem? (i := 1) rfl)) (hts (.initialized "java/lang/IllegalArgumentException") (List.mem_of_getElem? (i := 2) rfl)) (xstr_247) (fun w9 h9 => hts w9 ((fun _ h => List.mem_cons_of_mem _ (List.mem_append_right _ h)) w9 h9)) (by decide) xg_iae xo_iae dX1_checkRounds_11 dX1_checkRounds_14 dX1_checkRounds_15 dX1_checkRounds_17 dX1_checkRounds_20 (Nat.le_of_ble_eq_true rfl) (Nat.le_of_ble_eq_true rfl) (Nat.le_of_ble_eq_true rfl) (Nat.le_of_ble_eq_true rfl) [] [] () (⟨rfl, okB_lo (lo := 1) (hi := 50) (by omega) c_2⟩) rfl rfl rfl (Nat.le_of_ble_eq_true rfl) (Nat.le_of_ble_eq_true rfl)
  · skip
    refine lv_iload_n hx hb dX1_checkRounds_5 rfl (lv_at hl 0 rfl) ?_
    refine lv_bipush (v := 50) hx hb dX1_checkRounds_6 (by decide) ?_
    refine lv_icmp_le (tgt := 21) hx hb dX1_checkRounds_8 (by decide) (fun c_8 => ?_) (fun c_8 => ?_)
    · skip
      refine useQ hQ (vx_ret ?_)
      exact e_v F hr hlocks hK hP hD hS [] [] () (okB_of (lo := 1) (hi := 50) (by omega) (by omega) c_2 (Int32.not_lt.mpr c_8)) rfl rfl rfl (Nat.le_of_ble_eq_true rfl) (Nat.le_of_ble_eq_true rfl) dX1_checkRounds_21
    · skip
      refine useQ hQ ?_
      exact x_throw (cls := "java/lang/IllegalArgumentException") F hl0 hno hlocks hK hP hD hS hXE hl.1 (by decide +kernel) (hts (.classLink RX1 85 "java/lang/IllegalArgumentException") (List.mem_of_getElem? (i := 1) rfl)) (hts (.initialized "java/lang/IllegalArgumentException") (List.mem_of_getElem? (i := 2) rfl)) (xstr_247) (fun w9 h9 => hts w9 ((fun _ h => List.mem_cons_of_mem _ (List.mem_append_right _ h)) w9 h9)) (by decide) xg_iae xo_iae dX1_checkRounds_11 dX1_checkRounds_14 dX1_checkRounds_15 dX1_checkRounds_17 dX1_checkRounds_20 (Nat.le_of_ble_eq_true rfl) (Nat.le_of_ble_eq_true rfl) (Nat.le_of_ble_eq_true rfl) (Nat.le_of_ble_eq_true rfl) [] [] () (⟨rfl, okB_hi (lo := 1) (hi := 50) (by omega) (Int32.not_le.mp c_8)⟩) rfl rfl rfl (Nat.le_of_ble_eq_true rfl) (Nat.le_of_ble_eq_true rfl)
theorem uX1_X1_checkSomeoneThere : ∀ w ∈ u_ws RX1 TX1 10, w ∈ wsX1_checkSomeoneThere := (fun _ h => List.mem_cons_of_mem _ (List.mem_append_left _ (List.mem_append_right _ h)))
set_option maxHeartbeats 4000000 in
set_option maxRecDepth 100000 in
theorem c_X1_checkSomeoneThere (l : Launch) (hl0 : l.stackTraces = false) (D : va_G) (cA : ClassId) (h0 : Nat) (n : Nat) (rg : Int32) (st : Int32) (aV : Nat) (aW : Nat) (aR : Nat) (aP : Nat) (aK : Nat) (aL : Nat) (aQ : Nat) (hn : n ≤ 12) (sz : Nat) : vx_Met l yX1_checkSomeoneThere wsX1_checkSomeoneThere ({ frames := 6, cells := 1, slots := 6, locals := 90 } : Room) (va_Pc [.ref h0] (Wx D [(cA, .int)] [(h0, .inr (1, [.int (nI n), .int rg, .int st, .ref aV, .ref aW, .ref aR, .ref aP, .ref aK, .ref aL, .ref aQ]))] sz)) (va_Qv (fun (_ : Unit) => n ≠ 0) (fun (_ : Unit) t => We D [(cA, .int)] [(h0, .inr (1, [.int (nI n), .int rg, .int st, .ref aV, .ref aW, .ref aR, .ref aP, .ref aK, .ref aL, .ref aQ]))] (va_A [(h0, .inr (1, [.int (nI n), .int rg, .int st, .ref aV, .ref aW, .ref aR, .ref aP, .ref aK, .ref aL, .ref aQ]))] sz) t) (va_A [(h0, .inr (1, [.int (nI n), .int rg, .int st, .ref aV, .ref aW, .ref aR, .ref aP, .ref aK, .ref aL, .ref aQ]))] sz)) (vx_X (fun (_ : Unit) => True) (fun (E : String) (xx : Unit) t => (E = "java/lang/IllegalStateException" ∧ n = 0) ∧ We D [(cA, .int)] [(h0, .inr (1, [.int (nI n), .int rg, .int st, .ref aV, .ref aW, .ref aR, .ref aP, .ref aK, .ref aL, .ref aQ]))] (va_A [(h0, .inr (1, [.int (nI n), .int rg, .int st, .ref aV, .ref aW, .ref aR, .ref aP, .ref aK, .ref aL, .ref aQ]))] sz) t) (va_A [(h0, .inr (1, [.int (nI n), .int rg, .int st, .ref aV, .ref aW, .ref aR, .ref aP, .ref aK, .ref aL, .ref aQ]))] sz)) 1 6 (va_A [(h0, .inr (1, [.int (nI n), .int rg, .int st, .ref aV, .ref aW, .ref aR, .ref aP, .ref aK, .ref aL, .ref aQ]))] sz) := by
  refine mk_vx [.ref h0] (fun A => va_Qv (fun (_ : Unit) => n ≠ 0) (fun (_ : Unit) t => We D [(cA, .int)] [(h0, .inr (1, [.int (nI n), .int rg, .int st, .ref aV, .ref aW, .ref aR, .ref aP, .ref aK, .ref aL, .ref aQ]))] A t) A) (fun A => vx_X (fun (_ : Unit) => True) (fun (E : String) (xx : Unit) t => (E = "java/lang/IllegalStateException" ∧ n = 0) ∧ We D [(cA, .int)] [(h0, .inr (1, [.int (nI n), .int rg, .int st, .ref aV, .ref aW, .ref aR, .ref aP, .ref aK, .ref aL, .ref aQ]))] A t) A) (by decide) rfl (Nat.le_of_ble_eq_true rfl) ?_
  intro p e s m args below meth c A ls F hr hlocks hname hno hP hK hD hXE hA hl
  have hx := F.1
  have hb := F.2.1
  have hml := F.2.2.1
  have hown := F.2.2.2.1
  have hts := F.2.2.2.2
  have hS : va_S A s.heap s.heap [] := va_S.rf
  have hl : lv_has ls 1 [(0, .ref h0)] := hl
  refine absQ (fun Q hQ => ?_)
  refine lv_aload_n hx hb dX1_checkSomeoneThere_0 rfl (lv_at hl 0 rfl) ?_
  refine va_get (D := D) (ci := 1) (v := .int (nI n)) (C := RX1) (T := TX1) (N := 10) hx hb hts uX1_X1_checkSomeoneThere hown hK hP 0 rfl rfl 0 (by decide) (hts (.fieldLink RX1 7 "RopeChoices" "count" "I") (List.mem_of_getElem? (i := 3) rfl)) (fun _ h9 => h9) rfl dX1_checkSomeoneThere_1 ?_
  refine lv_if_ne (tgt := 17) hx hb dX1_checkSomeoneThere_4 (by decide) (fun c_4 => ?_) (fun c_4 => ?_)
  · skip
    have g_4 : n ≠ 0 := nf_ne_t (by omega) (by omega) c_4
    refine useQ hQ (vx_ret ?_)
    exact e_v F hr hlocks hK hP hD hS [0] [0] () g_4 rfl rfl rfl (Nat.le_of_ble_eq_true rfl) (Nat.le_of_ble_eq_true rfl) dX1_checkSomeoneThere_17
  · skip
    have g_4 : n = 0 := nf_ne_f (by omega) (by omega) c_4
    refine useQ hQ ?_
    exact x_throw (cls := "java/lang/IllegalStateException") F hl0 hno hlocks hK hP hD hS hXE hl.1 (by decide +kernel) (hts (.classLink RX1 56 "java/lang/IllegalStateException") (List.mem_of_getElem? (i := 1) rfl)) (hts (.initialized "java/lang/IllegalStateException") (List.mem_of_getElem? (i := 2) rfl)) (xstr_249) (fun w9 h9 => hts w9 ((fun _ h => List.mem_cons_of_mem _ (List.mem_append_right _ h)) w9 h9)) (by decide) xg_ise xo_ise dX1_checkSomeoneThere_7 dX1_checkSomeoneThere_10 dX1_checkSomeoneThere_11 dX1_checkSomeoneThere_13 dX1_checkSomeoneThere_16 (Nat.le_of_ble_eq_true rfl) (Nat.le_of_ble_eq_true rfl) (Nat.le_of_ble_eq_true rfl) (Nat.le_of_ble_eq_true rfl) [0] [0] () (⟨rfl, g_4⟩) rfl rfl rfl (Nat.le_of_ble_eq_true rfl) (Nat.le_of_ble_eq_true rfl)
