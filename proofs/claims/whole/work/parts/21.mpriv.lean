theorem uX2_X2_thrown : ∀ w ∈ u_ws RX2 TX2 11, w ∈ wsX2_thrown := (fun _ h => List.mem_cons_of_mem _ (List.mem_append_right _ h))
set_option maxHeartbeats 4000000 in
set_option maxRecDepth 100000 in
theorem c_X2_thrown (l : Launch) (D : va_G) (cA : ClassId) (m0 : Nat) (th : Int32) (n : Nat) (rg : Int32) (st : Int32) (bV : Nat) (bW : Nat) (bR : Nat) (bP9 : Nat) (bK : Nat) (bT : Nat) (bC : Nat)  (sz : Nat) : Met l yX2_thrown wsX2_thrown ({ frames := 0, cells := 0, slots := 0, locals := 0 } : Room) (va_Pc [.ref m0] (Wd D [(cA, .int)] [(m0, .inr (2, [.int th, .int (nI n), .int rg, .int st, .ref bV, .ref bW, .ref bR, .ref bP9, .ref bK, .ref bT, .ref bC]))] sz)) (va_Qi (fun (r : Int32) (_ : Unit) => r = th) (fun (_ : Unit) t => We D [(cA, .int)] [(m0, .inr (2, [.int th, .int (nI n), .int rg, .int st, .ref bV, .ref bW, .ref bR, .ref bP9, .ref bK, .ref bT, .ref bC]))] (va_A [(m0, .inr (2, [.int th, .int (nI n), .int rg, .int st, .ref bV, .ref bW, .ref bR, .ref bP9, .ref bK, .ref bT, .ref bC]))] sz) t) (va_A [(m0, .inr (2, [.int th, .int (nI n), .int rg, .int st, .ref bV, .ref bW, .ref bR, .ref bP9, .ref bK, .ref bT, .ref bC]))] sz)) 0 0 (va_A [(m0, .inr (2, [.int th, .int (nI n), .int rg, .int st, .ref bV, .ref bW, .ref bR, .ref bP9, .ref bK, .ref bT, .ref bC]))] sz) := by
  refine mk_met [.ref m0] (fun A => va_Qi (fun (r : Int32) (_ : Unit) => r = th) (fun (_ : Unit) t => We D [(cA, .int)] [(m0, .inr (2, [.int th, .int (nI n), .int rg, .int st, .ref bV, .ref bW, .ref bR, .ref bP9, .ref bK, .ref bT, .ref bC]))] A t) A) (by decide) rfl (Nat.le_of_ble_eq_true rfl) ?_
  intro p e s m args below meth c A ls F hr hlocks hname hP hK hD hA hl
  have hx := F.1
  have hb := F.2.1
  have hml := F.2.2.1
  have hown := F.2.2.2.1
  have hts := F.2.2.2.2
  have hS : va_S A s.heap s.heap [] := va_S.rf
  have hl : lv_has ls 1 [(0, .ref m0)] := hl
  refine absQ (fun Q hQ => ?_)
  refine lv_aload_n hx hb dX2_thrown_0 rfl (lv_at hl 0 rfl) ?_
  refine va_get (D := D) (ci := 2) (v := .int th) (C := RX2) (T := TX2) (N := 11) hx hb hts uX2_X2_thrown hown hK hP 0 rfl rfl 0 (by decide) (hts (.fieldLink RX2 35 "RopeChoicesModel" "thrown" "I") (List.mem_of_getElem? (i := 1) rfl)) (fun _ h9 => h9) rfl dX2_thrown_1 ?_
  refine useQ hQ ?_
  exact e_i (v := th) F hr hlocks hK hP hD hS [0] [0] () rfl rfl rfl rfl (Nat.le_of_ble_eq_true rfl) (Nat.le_of_ble_eq_true rfl) dX2_thrown_4
theorem uX2_X2_fail : ∀ w ∈ u_ws RX2 TX2 11, w ∈ wsX2_fail := (fun _ h => List.mem_cons_of_mem _ (List.mem_append_right _ h))
set_option maxHeartbeats 4000000 in
set_option maxRecDepth 100000 in
theorem c_X2_fail (l : Launch) (D : va_G) (cA : ClassId) (m0 : Nat) (th : Int32) (n : Nat) (rg : Int32) (st : Int32) (bV : Nat) (bW : Nat) (bR : Nat) (bP9 : Nat) (bK : Nat) (bT : Nat) (bC : Nat) (x : Int32)  (sz : Nat) : Met l yX2_fail wsX2_fail ({ frames := 0, cells := 0, slots := 0, locals := 0 } : Room) (va_Pc [.ref m0, .int x] (Wd D [(cA, .int)] [(m0, .inr (2, [.int th, .int (nI n), .int rg, .int st, .ref bV, .ref bW, .ref bR, .ref bP9, .ref bK, .ref bT, .ref bC]))] sz)) (va_Qi (fun (r : Int32) (_ : Unit) => r = 0) (fun (_ : Unit) t => We D [(cA, .int)] [(m0, .inr (2, [.int x, .int (nI n), .int rg, .int st, .ref bV, .ref bW, .ref bR, .ref bP9, .ref bK, .ref bT, .ref bC]))] (va_A [(m0, .inr (2, [.int th, .int (nI n), .int rg, .int st, .ref bV, .ref bW, .ref bR, .ref bP9, .ref bK, .ref bT, .ref bC]))] sz) t) (va_A [(m0, .inr (2, [.int th, .int (nI n), .int rg, .int st, .ref bV, .ref bW, .ref bR, .ref bP9, .ref bK, .ref bT, .ref bC]))] sz)) 0 0 (va_A [(m0, .inr (2, [.int th, .int (nI n), .int rg, .int st, .ref bV, .ref bW, .ref bR, .ref bP9, .ref bK, .ref bT, .ref bC]))] sz) := by
  refine mk_met [.ref m0, .int x] (fun A => va_Qi (fun (r : Int32) (_ : Unit) => r = 0) (fun (_ : Unit) t => We D [(cA, .int)] [(m0, .inr (2, [.int x, .int (nI n), .int rg, .int st, .ref bV, .ref bW, .ref bR, .ref bP9, .ref bK, .ref bT, .ref bC]))] A t) A) (by decide) rfl (Nat.le_of_ble_eq_true rfl) ?_
  intro p e s m args below meth c A ls F hr hlocks hname hP hK hD hA hl
  have hx := F.1
  have hb := F.2.1
  have hml := F.2.2.1
  have hown := F.2.2.2.1
  have hts := F.2.2.2.2
  have hS : va_S A s.heap s.heap [] := va_S.rf
  have hl : lv_has ls 2 [(0, .ref m0), (1, .int x)] := hl
  refine absQ (fun Q hQ => ?_)
  refine lv_aload_n hx hb dX2_fail_0 rfl (lv_at hl 0 rfl) ?_
  refine lv_iload_n hx hb dX2_fail_1 rfl (lv_at hl 1 rfl) ?_
  refine va_put (D := D) (ci := 2) (v := .int x) (ty := .int) (C := RX2) (T := TX2) (N := 11) hx hb hts uX2_X2_fail tyX2 tyX2_ok nmX2 hown hK hP hD hS 0 rfl rfl 0 (by decide) (hts (.fieldLink RX2 35 "RopeChoicesModel" "thrown" "I") (List.mem_of_getElem? (i := 1) rfl)) (fun _ h9 => h9) rfl (by decide +kernel) rfl rfl (Nat.le_of_ble_eq_true rfl) dX2_fail_2 (fun H locs hP hD hS => ?_)
  have hP : va_P D vwCl [(m0, .inr (2, [.int x, .int (nI n), .int rg, .int st, .ref bV, .ref bW, .ref bR, .ref bP9, .ref bK, .ref bT, .ref bC]))] H := hP
  have hD : va_D A [(m0, .inr (2, [.int x, .int (nI n), .int rg, .int st, .ref bV, .ref bW, .ref bR, .ref bP9, .ref bK, .ref bT, .ref bC]))] := hD
  refine lv_iconst (v := 0) hx hb dX2_fail_5 (by decide) ?_
  refine useQ hQ ?_
  exact e_i (v := 0) F hr hlocks hK hP hD hS [0] [0] () rfl rfl rfl rfl (Nat.le_of_ble_eq_true rfl) (Nat.le_of_ble_eq_true rfl) dX2_fail_6
theorem uX2_X2_told : ∀ w ∈ u_ws RX2 TX2 11, w ∈ wsX2_told := (fun _ h => List.mem_cons_of_mem _ (List.mem_append_right _ h))
set_option maxHeartbeats 4000000 in
set_option maxRecDepth 100000 in
theorem c_X2_told (l : Launch) (D : va_G) (cA : ClassId) (m0 : Nat) (th : Int32) (n : Nat) (rg : Int32) (st : Int32) (bV : Nat) (bW : Nat) (bR : Nat) (bP9 : Nat) (bK : Nat) (bT : Nat) (bC : Nat) (x : Int32)  (sz : Nat) : Met l yX2_told wsX2_told ({ frames := 0, cells := 0, slots := 0, locals := 0 } : Room) (va_Pc [.ref m0, .int x] (Wd D [(cA, .int)] [(m0, .inr (2, [.int th, .int (nI n), .int rg, .int st, .ref bV, .ref bW, .ref bR, .ref bP9, .ref bK, .ref bT, .ref bC]))] sz)) (va_Qi (fun (r : Int32) (_ : Unit) => r = x) (fun (_ : Unit) t => We D [(cA, .int)] [(m0, .inr (2, [.int 0, .int (nI n), .int rg, .int st, .ref bV, .ref bW, .ref bR, .ref bP9, .ref bK, .ref bT, .ref bC]))] (va_A [(m0, .inr (2, [.int th, .int (nI n), .int rg, .int st, .ref bV, .ref bW, .ref bR, .ref bP9, .ref bK, .ref bT, .ref bC]))] sz) t) (va_A [(m0, .inr (2, [.int th, .int (nI n), .int rg, .int st, .ref bV, .ref bW, .ref bR, .ref bP9, .ref bK, .ref bT, .ref bC]))] sz)) 0 0 (va_A [(m0, .inr (2, [.int th, .int (nI n), .int rg, .int st, .ref bV, .ref bW, .ref bR, .ref bP9, .ref bK, .ref bT, .ref bC]))] sz) := by
  refine mk_met [.ref m0, .int x] (fun A => va_Qi (fun (r : Int32) (_ : Unit) => r = x) (fun (_ : Unit) t => We D [(cA, .int)] [(m0, .inr (2, [.int 0, .int (nI n), .int rg, .int st, .ref bV, .ref bW, .ref bR, .ref bP9, .ref bK, .ref bT, .ref bC]))] A t) A) (by decide) rfl (Nat.le_of_ble_eq_true rfl) ?_
  intro p e s m args below meth c A ls F hr hlocks hname hP hK hD hA hl
  have hx := F.1
  have hb := F.2.1
  have hml := F.2.2.1
  have hown := F.2.2.2.1
  have hts := F.2.2.2.2
  have hS : va_S A s.heap s.heap [] := va_S.rf
  have hl : lv_has ls 2 [(0, .ref m0), (1, .int x)] := hl
  refine absQ (fun Q hQ => ?_)
  refine lv_aload_n hx hb dX2_told_0 rfl (lv_at hl 0 rfl) ?_
  refine lv_iconst (v := 0) hx hb dX2_told_1 (by decide) ?_
  refine va_put (D := D) (ci := 2) (v := .int 0) (ty := .int) (C := RX2) (T := TX2) (N := 11) hx hb hts uX2_X2_told tyX2 tyX2_ok nmX2 hown hK hP hD hS 0 rfl rfl 0 (by decide) (hts (.fieldLink RX2 35 "RopeChoicesModel" "thrown" "I") (List.mem_of_getElem? (i := 1) rfl)) (fun _ h9 => h9) rfl (by decide +kernel) rfl rfl (Nat.le_of_ble_eq_true rfl) dX2_told_2 (fun H locs hP hD hS => ?_)
  have hP : va_P D vwCl [(m0, .inr (2, [.int 0, .int (nI n), .int rg, .int st, .ref bV, .ref bW, .ref bR, .ref bP9, .ref bK, .ref bT, .ref bC]))] H := hP
  have hD : va_D A [(m0, .inr (2, [.int 0, .int (nI n), .int rg, .int st, .ref bV, .ref bW, .ref bR, .ref bP9, .ref bK, .ref bT, .ref bC]))] := hD
  refine lv_iload_n hx hb dX2_told_5 rfl (lv_at hl 1 rfl) ?_
  refine useQ hQ ?_
  exact e_i (v := x) F hr hlocks hK hP hD hS [0] [0] () rfl rfl rfl rfl (Nat.le_of_ble_eq_true rfl) (Nat.le_of_ble_eq_true rfl) dX2_told_6
set_option maxHeartbeats 4000000 in
set_option maxRecDepth 100000 in
theorem c_X2_isIn (l : Launch) (D : va_G) (x : Int32) (lo : Int32) (up : Int32)  (sz : Nat) : Met l yX2_isIn wsX2_isIn ({ frames := 0, cells := 0, slots := 0, locals := 0 } : Room) (va_Pc [.int x, .int lo, .int up] (Wd D [] [] sz)) (va_Qi (fun (r : Int32) (_ : Unit) => r = bP (lo ≤ x ∧ x ≤ up)) (fun (_ : Unit) t => We D [] [] (va_A [] sz) t) (va_A [] sz)) 0 0 (va_A [] sz) := by
  refine mk_met [.int x, .int lo, .int up] (fun A => va_Qi (fun (r : Int32) (_ : Unit) => r = bP (lo ≤ x ∧ x ≤ up)) (fun (_ : Unit) t => We D [] [] A t) A) (by decide) rfl (Nat.le_of_ble_eq_true rfl) ?_
  intro p e s m args below meth c A ls F hr hlocks hname hP hK hD hA hl
  have hx := F.1
  have hb := F.2.1
  have hml := F.2.2.1
  have hown := F.2.2.2.1
  have hts := F.2.2.2.2
  have hS : va_S A s.heap s.heap [] := va_S.rf
  have hl : lv_has ls 3 [(0, .int x), (1, .int lo), (2, .int up)] := hl
  refine absQ (fun Q hQ => ?_)
  refine lv_iload_n hx hb dX2_isIn_0 rfl (lv_at hl 0 rfl) ?_
  refine lv_iload_n hx hb dX2_isIn_1 rfl (lv_at hl 1 rfl) ?_
  refine lv_icmp_lt (tgt := 14) hx hb dX2_isIn_2 (by decide) (fun c_2 => ?_) (fun c_2 => ?_)
  · skip
    refine lv_iconst (v := 0) hx hb dX2_isIn_14 (by decide) ?_
    refine useQ hQ ?_
    exact e_z (v := 0) F hr hlocks hK hP hD hS [] [] () (by first | exact Or.inl rfl | exact Or.inr rfl | exact bP_01 _) (bP_f (fun z => absurd z.1 (Int32.not_le.mpr c_2))) rfl rfl rfl (Nat.le_of_ble_eq_true rfl) (Nat.le_of_ble_eq_true rfl) dX2_isIn_15
  · skip
    refine lv_iload_n hx hb dX2_isIn_5 rfl (lv_at hl 0 rfl) ?_
    refine lv_iload_n hx hb dX2_isIn_6 rfl (lv_at hl 2 rfl) ?_
    refine lv_icmp_gt (tgt := 14) hx hb dX2_isIn_7 (by decide) (fun c_7 => ?_) (fun c_7 => ?_)
    · skip
      refine lv_iconst (v := 0) hx hb dX2_isIn_14 (by decide) ?_
      refine useQ hQ ?_
      exact e_z (v := 0) F hr hlocks hK hP hD hS [] [] () (by first | exact Or.inl rfl | exact Or.inr rfl | exact bP_01 _) (bP_f (fun z => absurd z.2 (Int32.not_le.mpr c_7))) rfl rfl rfl (Nat.le_of_ble_eq_true rfl) (Nat.le_of_ble_eq_true rfl) dX2_isIn_15
    · skip
      refine lv_iconst (v := 1) hx hb dX2_isIn_10 (by decide) ?_
      refine lv_goto (tgt := 15) hx hb dX2_isIn_11 (by decide) ?_
      refine useQ hQ ?_
      exact e_z (v := 1) F hr hlocks hK hP hD hS [] [] () (by first | exact Or.inl rfl | exact Or.inr rfl | exact bP_01 _) (bP_t ⟨Int32.not_lt.mp c_2, Int32.not_lt.mp c_7⟩) rfl rfl rfl (Nat.le_of_ble_eq_true rfl) (Nat.le_of_ble_eq_true rfl) dX2_isIn_15
theorem uX2_X2_isDelegate : ∀ w ∈ u_ws RX2 TX2 11, w ∈ wsX2_isDelegate := (fun _ h => List.mem_cons_of_mem _ (List.mem_append_right _ h))
set_option maxHeartbeats 4000000 in
set_option maxRecDepth 100000 in
theorem c_X2_isDelegate (l : Launch) (D : va_G) (cA : ClassId) (m0 : Nat) (th : Int32) (n : Nat) (rg : Int32) (st : Int32) (bV : Nat) (bW : Nat) (bR : Nat) (bP9 : Nat) (bK : Nat) (bT : Nat) (bC : Nat) (d : Int32) (hn : n ≤ 12) (sz : Nat) : Met l yX2_isDelegate wsX2_isDelegate ({ frames := 1, cells := 0, slots := 0, locals := 22 } : Room) (va_Pc [.ref m0, .int d] (Wd D [(cA, .int)] [(m0, .inr (2, [.int th, .int (nI n), .int rg, .int st, .ref bV, .ref bW, .ref bR, .ref bP9, .ref bK, .ref bT, .ref bC]))] sz)) (va_Qi (fun (r : Int32) (_ : Unit) => r = bP (okD n d)) (fun (_ : Unit) t => We D [(cA, .int)] [(m0, .inr (2, [.int th, .int (nI n), .int rg, .int st, .ref bV, .ref bW, .ref bR, .ref bP9, .ref bK, .ref bT, .ref bC]))] (va_A [(m0, .inr (2, [.int th, .int (nI n), .int rg, .int st, .ref bV, .ref bW, .ref bR, .ref bP9, .ref bK, .ref bT, .ref bC]))] sz) t) (va_A [(m0, .inr (2, [.int th, .int (nI n), .int rg, .int st, .ref bV, .ref bW, .ref bR, .ref bP9, .ref bK, .ref bT, .ref bC]))] sz)) 0 0 (va_A [(m0, .inr (2, [.int th, .int (nI n), .int rg, .int st, .ref bV, .ref bW, .ref bR, .ref bP9, .ref bK, .ref bT, .ref bC]))] sz) := by
  refine mk_met [.ref m0, .int d] (fun A => va_Qi (fun (r : Int32) (_ : Unit) => r = bP (okD n d)) (fun (_ : Unit) t => We D [(cA, .int)] [(m0, .inr (2, [.int th, .int (nI n), .int rg, .int st, .ref bV, .ref bW, .ref bR, .ref bP9, .ref bK, .ref bT, .ref bC]))] A t) A) (by decide) rfl (Nat.le_of_ble_eq_true rfl) ?_
  intro p e s m args below meth c A ls F hr hlocks hname hP hK hD hA hl
  have hx := F.1
  have hb := F.2.1
  have hml := F.2.2.1
  have hown := F.2.2.2.1
  have hts := F.2.2.2.2
  have hS : va_S A s.heap s.heap [] := va_S.rf
  have hl : lv_has ls 2 [(0, .ref m0), (1, .int d)] := hl
  refine absQ (fun Q hQ => ?_)
  refine lv_iload_n hx hb dX2_isDelegate_0 rfl (lv_at hl 1 rfl) ?_
  refine lv_iconst (v := 0) hx hb dX2_isDelegate_1 (by decide) ?_
  refine lv_aload_n hx hb dX2_isDelegate_2 rfl (lv_at hl 0 rfl) ?_
  refine va_get (D := D) (ci := 2) (v := .int (nI n)) (C := RX2) (T := TX2) (N := 11) hx hb hts uX2_X2_isDelegate hown hK hP 0 rfl rfl 1 (by decide) (hts (.fieldLink RX2 38 "RopeChoicesModel" "many" "I") (List.mem_of_getElem? (i := 1) rfl)) (fun _ h9 => h9) rfl dX2_isDelegate_3 ?_
  refine lv_iconst (v := 1) hx hb dX2_isDelegate_6 (by decide) ?_
  refine lv_isub hx hb dX2_isDelegate_7 ?_
  have hX_1 : Cut D A [(m0, .inr (2, [.int th, .int (nI n), .int rg, .int st, .ref bV, .ref bW, .ref bR, .ref bP9, .ref bK, .ref bT, .ref bC]))] [] [(m0, .inr (2, [.int th, .int (nI n), .int rg, .int st, .ref bV, .ref bW, .ref bR, .ref bP9, .ref bK, .ref bT, .ref bC]))] [(cA, .int)] [] [] [0] [] := ⟨rfl, rfl, rfl, rfl, by decide, rfl⟩
  refine ki hX_1 hP hD hS hA (kRunS (As := [.int d, .int 0, .int ((nI n) - 1)]) (rest := []) F (c_X2_isIn l D d 0 ((nI n) - 1) s.heap.size) (va_cwS 3 hts gX2_isDelegate_X2_isIn rfl rfl rfl (by decide +kernel) ⟨Nat.le_of_ble_eq_true rfl, Nat.le_of_ble_eq_true rfl⟩) hK hP hD hX_1 rfl hl.1 rfl (Nat.le_of_ble_eq_true rfl) dX2_isDelegate_8 ⟨Nat.le_of_ble_eq_true rfl, Nat.le_of_ble_eq_true rfl⟩) (fun r_2 u_3 H locs hw_4 hP hD hS => ?_)
  have hw_4 : r_2 = bP (0 ≤ d ∧ d ≤ ((nI n) - 1)) := hw_4
  rw [hw_4]
  have hP : va_P D vwCl [(m0, .inr (2, [.int th, .int (nI n), .int rg, .int st, .ref bV, .ref bW, .ref bR, .ref bP9, .ref bK, .ref bT, .ref bC]))] H := hP
  have hD : va_D A [(m0, .inr (2, [.int th, .int (nI n), .int rg, .int st, .ref bV, .ref bW, .ref bR, .ref bP9, .ref bK, .ref bT, .ref bC]))] := hD
  refine useQ hQ ?_
  exact e_z (v := bP (0 ≤ d ∧ d ≤ ((nI n) - 1))) F hr hlocks hK hP hD hS [0] [0] () (by first | exact Or.inl rfl | exact Or.inr rfl | exact bP_01 _) (bP_congr (nI_m1m hn)) rfl rfl rfl (Nat.le_of_ble_eq_true rfl) (Nat.le_of_ble_eq_true rfl) dX2_isDelegate_11
set_option maxHeartbeats 4000000 in
set_option maxRecDepth 100000 in
theorem c_X2_isPlank (l : Launch) (D : va_G) (x : Int32)  (sz : Nat) : Met l yX2_isPlank wsX2_isPlank ({ frames := 1, cells := 0, slots := 0, locals := 22 } : Room) (va_Pc [.int x] (Wd D [] [] sz)) (va_Qi (fun (r : Int32) (_ : Unit) => r = bP (okD 41 x)) (fun (_ : Unit) t => We D [] [] (va_A [] sz) t) (va_A [] sz)) 0 0 (va_A [] sz) := by
  refine mk_met [.int x] (fun A => va_Qi (fun (r : Int32) (_ : Unit) => r = bP (okD 41 x)) (fun (_ : Unit) t => We D [] [] A t) A) (by decide) rfl (Nat.le_of_ble_eq_true rfl) ?_
  intro p e s m args below meth c A ls F hr hlocks hname hP hK hD hA hl
  have hx := F.1
  have hb := F.2.1
  have hml := F.2.2.1
  have hown := F.2.2.2.1
  have hts := F.2.2.2.2
  have hS : va_S A s.heap s.heap [] := va_S.rf
  have hl : lv_has ls 1 [(0, .int x)] := hl
  refine absQ (fun Q hQ => ?_)
  refine lv_iload_n hx hb dX2_isPlank_0 rfl (lv_at hl 0 rfl) ?_
  refine lv_iconst (v := 0) hx hb dX2_isPlank_1 (by decide) ?_
  refine lv_bipush (v := 40) hx hb dX2_isPlank_2 (by decide) ?_
  have hX_1 : Cut D A [] [] [] [] [] [] [] [] := ⟨rfl, rfl, rfl, rfl, by decide, rfl⟩
  refine ki hX_1 hP hD hS hA (kRunS (As := [.int x, .int 0, .int 40]) (rest := []) F (c_X2_isIn l D x 0 40 s.heap.size) (va_cwS 3 hts gX2_isPlank_X2_isIn rfl rfl rfl (by decide +kernel) ⟨Nat.le_of_ble_eq_true rfl, Nat.le_of_ble_eq_true rfl⟩) hK hP hD hX_1 rfl hl.1 rfl (Nat.le_of_ble_eq_true rfl) dX2_isPlank_4 ⟨Nat.le_of_ble_eq_true rfl, Nat.le_of_ble_eq_true rfl⟩) (fun r_2 u_3 H locs hw_4 hP hD hS => ?_)
  have hw_4 : r_2 = bP (0 ≤ x ∧ x ≤ 40) := hw_4
  rw [hw_4]
  have hP : va_P D vwCl [] H := hP
  have hD : va_D A [] := hD
  refine useQ hQ ?_
  exact e_z (v := bP (0 ≤ x ∧ x ≤ 40)) F hr hlocks hK hP hD hS [] [] () (by first | exact Or.inl rfl | exact Or.inr rfl | exact bP_01 _) (bP_congr (isIn_D (k := 40) (by omega))) rfl rfl rfl (Nat.le_of_ble_eq_true rfl) (Nat.le_of_ble_eq_true rfl) dX2_isPlank_7
set_option maxHeartbeats 4000000 in
set_option maxRecDepth 100000 in
theorem c_X2_isVillage (l : Launch) (D : va_G) (x : Int32)  (sz : Nat) : Met l yX2_isVillage wsX2_isVillage ({ frames := 1, cells := 0, slots := 0, locals := 22 } : Room) (va_Pc [.int x] (Wd D [] [] sz)) (va_Qi (fun (r : Int32) (_ : Unit) => r = bP (okD 5 x)) (fun (_ : Unit) t => We D [] [] (va_A [] sz) t) (va_A [] sz)) 0 0 (va_A [] sz) := by
  refine mk_met [.int x] (fun A => va_Qi (fun (r : Int32) (_ : Unit) => r = bP (okD 5 x)) (fun (_ : Unit) t => We D [] [] A t) A) (by decide) rfl (Nat.le_of_ble_eq_true rfl) ?_
  intro p e s m args below meth c A ls F hr hlocks hname hP hK hD hA hl
  have hx := F.1
  have hb := F.2.1
  have hml := F.2.2.1
  have hown := F.2.2.2.1
  have hts := F.2.2.2.2
  have hS : va_S A s.heap s.heap [] := va_S.rf
  have hl : lv_has ls 1 [(0, .int x)] := hl
  refine absQ (fun Q hQ => ?_)
  refine lv_iload_n hx hb dX2_isVillage_0 rfl (lv_at hl 0 rfl) ?_
  refine lv_iconst (v := 0) hx hb dX2_isVillage_1 (by decide) ?_
  refine lv_iconst (v := 4) hx hb dX2_isVillage_2 (by decide) ?_
  have hX_1 : Cut D A [] [] [] [] [] [] [] [] := ⟨rfl, rfl, rfl, rfl, by decide, rfl⟩
  refine ki hX_1 hP hD hS hA (kRunS (As := [.int x, .int 0, .int 4]) (rest := []) F (c_X2_isIn l D x 0 4 s.heap.size) (va_cwS 3 hts gX2_isVillage_X2_isIn rfl rfl rfl (by decide +kernel) ⟨Nat.le_of_ble_eq_true rfl, Nat.le_of_ble_eq_true rfl⟩) hK hP hD hX_1 rfl hl.1 rfl (Nat.le_of_ble_eq_true rfl) dX2_isVillage_3 ⟨Nat.le_of_ble_eq_true rfl, Nat.le_of_ble_eq_true rfl⟩) (fun r_2 u_3 H locs hw_4 hP hD hS => ?_)
  have hw_4 : r_2 = bP (0 ≤ x ∧ x ≤ 4) := hw_4
  rw [hw_4]
  have hP : va_P D vwCl [] H := hP
  have hD : va_D A [] := hD
  refine useQ hQ ?_
  exact e_z (v := bP (0 ≤ x ∧ x ≤ 4)) F hr hlocks hK hP hD hS [] [] () (by first | exact Or.inl rfl | exact Or.inr rfl | exact bP_01 _) (bP_congr (isIn_D (k := 4) (by omega))) rfl rfl rfl (Nat.le_of_ble_eq_true rfl) (Nat.le_of_ble_eq_true rfl) dX2_isVillage_6
theorem uX2_X2_keep : ∀ w ∈ u_ws RX2 TX2 11, w ∈ wsX2_keep := (fun _ h => List.mem_cons_of_mem _ (List.mem_append_right _ h))
set_option maxHeartbeats 4000000 in
set_option maxRecDepth 100000 in
theorem c_X2_keep (l : Launch) (D : va_G) (cA : ClassId) (m0 : Nat) (th : Int32) (n : Nat) (rg : Int32) (st : Int32) (bV : Nat) (bW : Nat) (bR : Nat) (bP9 : Nat) (bK : Nat) (bT : Nat) (bC : Nat) (fK : Nat → Int32) (fT : Nat → Int32)  (sz : Nat) : Met l yX2_keep wsX2_keep ({ frames := 1, cells := 0, slots := 0, locals := 60 } : Room) (va_Pc [.ref m0] (Wd D [(cA, .int)] [(m0, .inr (2, [.int th, .int (nI n), .int rg, .int st, .ref bV, .ref bW, .ref bR, .ref bP9, .ref bK, .ref bT, .ref bC])), (bK, .inl (cA, 12, .inl fK)), (bT, .inl (cA, 12, .inl fT))] sz)) (va_Qv (fun (_ : Unit) => True) (fun (_ : Unit) t => We D [(cA, .int)] [(m0, .inr (2, [.int th, .int (nI n), .int rg, .int st, .ref bV, .ref bW, .ref bR, .ref bP9, .ref bK, .ref bT, .ref bC])), (bK, .inl (cA, 12, .inl fK)), (bT, .inl (cA, 12, .inl (copyF fK fT 12)))] (va_A [(m0, .inr (2, [.int th, .int (nI n), .int rg, .int st, .ref bV, .ref bW, .ref bR, .ref bP9, .ref bK, .ref bT, .ref bC])), (bK, .inl (cA, 12, .inl fK)), (bT, .inl (cA, 12, .inl fT))] sz) t) (va_A [(m0, .inr (2, [.int th, .int (nI n), .int rg, .int st, .ref bV, .ref bW, .ref bR, .ref bP9, .ref bK, .ref bT, .ref bC])), (bK, .inl (cA, 12, .inl fK)), (bT, .inl (cA, 12, .inl fT))] sz)) 0 0 (va_A [(m0, .inr (2, [.int th, .int (nI n), .int rg, .int st, .ref bV, .ref bW, .ref bR, .ref bP9, .ref bK, .ref bT, .ref bC])), (bK, .inl (cA, 12, .inl fK)), (bT, .inl (cA, 12, .inl fT))] sz) := by
  refine mk_met [.ref m0] (fun A => va_Qv (fun (_ : Unit) => True) (fun (_ : Unit) t => We D [(cA, .int)] [(m0, .inr (2, [.int th, .int (nI n), .int rg, .int st, .ref bV, .ref bW, .ref bR, .ref bP9, .ref bK, .ref bT, .ref bC])), (bK, .inl (cA, 12, .inl fK)), (bT, .inl (cA, 12, .inl (copyF fK fT 12)))] A t) A) (by decide) rfl (Nat.le_of_ble_eq_true rfl) ?_
  intro p e s m args below meth c A ls F hr hlocks hname hP hK hD hA hl
  have hx := F.1
  have hb := F.2.1
  have hml := F.2.2.1
  have hown := F.2.2.2.1
  have hts := F.2.2.2.2
  have hS : va_S A s.heap s.heap [] := va_S.rf
  have hl : lv_has ls 1 [(0, .ref m0)] := hl
  refine absQ (fun Q hQ => ?_)
  refine lv_aload_n hx hb dX2_keep_0 rfl (lv_at hl 0 rfl) ?_
  refine va_get (D := D) (ci := 2) (v := .ref bK) (C := RX2) (T := TX2) (N := 11) hx hb hts uX2_X2_keep hown hK hP 0 rfl rfl 8 (by decide) (hts (.fieldLink RX2 26 "RopeChoicesModel" "plank" "[I") (List.mem_of_getElem? (i := 1) rfl)) (fun _ h9 => h9) rfl dX2_keep_1 ?_
  refine lv_iconst (v := 0) hx hb dX2_keep_4 (by decide) ?_
  refine lv_aload_n hx hb dX2_keep_5 rfl (lv_at hl 0 rfl) ?_
  refine va_get (D := D) (ci := 2) (v := .ref bT) (C := RX2) (T := TX2) (N := 11) hx hb hts uX2_X2_keep hown hK hP 0 rfl rfl 9 (by decide) (hts (.fieldLink RX2 29 "RopeChoicesModel" "kept" "[I") (List.mem_of_getElem? (i := 2) rfl)) (fun _ h9 => h9) rfl dX2_keep_6 ?_
  refine lv_iconst (v := 0) hx hb dX2_keep_9 (by decide) ?_
  refine lv_bipush (v := 12) hx hb dX2_keep_10 (by decide) ?_
  refine a_copy hx hb (hml.trans hl.1.symm) hown (hts (.methodLink RX2 45 arraycopyName) (List.mem_of_getElem? (i := 3) rfl)) (hts (.native arraycopyName) (List.mem_of_getElem? (i := 4) rfl)) (hts (.static arraycopyName) (List.mem_of_getElem? (i := 5) rfl)) (hts (.initialized "java/lang/System") (List.mem_of_getElem? (i := 6) rfl)) hK hP hD hS 1 2 0 rfl rfl rfl (Nat.le_of_ble_eq_true rfl) (Nat.le_of_ble_eq_true rfl) dX2_keep_12 (fun H locs hP hD hS => ?_)
  have hP : va_P D vwCl [(m0, .inr (2, [.int th, .int (nI n), .int rg, .int st, .ref bV, .ref bW, .ref bR, .ref bP9, .ref bK, .ref bT, .ref bC])), (bK, .inl (cA, 12, .inl fK)), (bT, .inl (cA, 12, .inl (copyF fK fT 12)))] H := hP
  have hD : va_D A [(m0, .inr (2, [.int th, .int (nI n), .int rg, .int st, .ref bV, .ref bW, .ref bR, .ref bP9, .ref bK, .ref bT, .ref bC])), (bK, .inl (cA, 12, .inl fK)), (bT, .inl (cA, 12, .inl (copyF fK fT 12)))] := hD
  refine useQ hQ ?_
  exact e_v F hr hlocks hK hP hD hS [0, 1, 2] [0] () trivial rfl rfl rfl (Nat.le_of_ble_eq_true rfl) (Nat.le_of_ble_eq_true rfl) dX2_keep_15
theorem uX2_X2_bringBack : ∀ w ∈ u_ws RX2 TX2 11, w ∈ wsX2_bringBack := (fun _ h => List.mem_cons_of_mem _ (List.mem_append_right _ h))
set_option maxHeartbeats 4000000 in
set_option maxRecDepth 100000 in
theorem c_X2_bringBack (l : Launch) (D : va_G) (cA : ClassId) (m0 : Nat) (th : Int32) (n : Nat) (rg : Int32) (st : Int32) (bV : Nat) (bW : Nat) (bR : Nat) (bP9 : Nat) (bK : Nat) (bT : Nat) (bC : Nat) (fK : Nat → Int32) (fT : Nat → Int32)  (sz : Nat) : Met l yX2_bringBack wsX2_bringBack ({ frames := 1, cells := 0, slots := 0, locals := 60 } : Room) (va_Pc [.ref m0] (Wd D [(cA, .int)] [(m0, .inr (2, [.int th, .int (nI n), .int rg, .int st, .ref bV, .ref bW, .ref bR, .ref bP9, .ref bK, .ref bT, .ref bC])), (bK, .inl (cA, 12, .inl fK)), (bT, .inl (cA, 12, .inl fT))] sz)) (va_Qv (fun (_ : Unit) => True) (fun (_ : Unit) t => We D [(cA, .int)] [(m0, .inr (2, [.int th, .int (nI n), .int rg, .int st, .ref bV, .ref bW, .ref bR, .ref bP9, .ref bK, .ref bT, .ref bC])), (bK, .inl (cA, 12, .inl (copyF fT fK 12))), (bT, .inl (cA, 12, .inl fT))] (va_A [(m0, .inr (2, [.int th, .int (nI n), .int rg, .int st, .ref bV, .ref bW, .ref bR, .ref bP9, .ref bK, .ref bT, .ref bC])), (bK, .inl (cA, 12, .inl fK)), (bT, .inl (cA, 12, .inl fT))] sz) t) (va_A [(m0, .inr (2, [.int th, .int (nI n), .int rg, .int st, .ref bV, .ref bW, .ref bR, .ref bP9, .ref bK, .ref bT, .ref bC])), (bK, .inl (cA, 12, .inl fK)), (bT, .inl (cA, 12, .inl fT))] sz)) 0 0 (va_A [(m0, .inr (2, [.int th, .int (nI n), .int rg, .int st, .ref bV, .ref bW, .ref bR, .ref bP9, .ref bK, .ref bT, .ref bC])), (bK, .inl (cA, 12, .inl fK)), (bT, .inl (cA, 12, .inl fT))] sz) := by
  refine mk_met [.ref m0] (fun A => va_Qv (fun (_ : Unit) => True) (fun (_ : Unit) t => We D [(cA, .int)] [(m0, .inr (2, [.int th, .int (nI n), .int rg, .int st, .ref bV, .ref bW, .ref bR, .ref bP9, .ref bK, .ref bT, .ref bC])), (bK, .inl (cA, 12, .inl (copyF fT fK 12))), (bT, .inl (cA, 12, .inl fT))] A t) A) (by decide) rfl (Nat.le_of_ble_eq_true rfl) ?_
  intro p e s m args below meth c A ls F hr hlocks hname hP hK hD hA hl
  have hx := F.1
  have hb := F.2.1
  have hml := F.2.2.1
  have hown := F.2.2.2.1
  have hts := F.2.2.2.2
  have hS : va_S A s.heap s.heap [] := va_S.rf
  have hl : lv_has ls 1 [(0, .ref m0)] := hl
  refine absQ (fun Q hQ => ?_)
  refine lv_aload_n hx hb dX2_bringBack_0 rfl (lv_at hl 0 rfl) ?_
  refine va_get (D := D) (ci := 2) (v := .ref bT) (C := RX2) (T := TX2) (N := 11) hx hb hts uX2_X2_bringBack hown hK hP 0 rfl rfl 9 (by decide) (hts (.fieldLink RX2 29 "RopeChoicesModel" "kept" "[I") (List.mem_of_getElem? (i := 1) rfl)) (fun _ h9 => h9) rfl dX2_bringBack_1 ?_
  refine lv_iconst (v := 0) hx hb dX2_bringBack_4 (by decide) ?_
  refine lv_aload_n hx hb dX2_bringBack_5 rfl (lv_at hl 0 rfl) ?_
  refine va_get (D := D) (ci := 2) (v := .ref bK) (C := RX2) (T := TX2) (N := 11) hx hb hts uX2_X2_bringBack hown hK hP 0 rfl rfl 8 (by decide) (hts (.fieldLink RX2 26 "RopeChoicesModel" "plank" "[I") (List.mem_of_getElem? (i := 2) rfl)) (fun _ h9 => h9) rfl dX2_bringBack_6 ?_
  refine lv_iconst (v := 0) hx hb dX2_bringBack_9 (by decide) ?_
  refine lv_bipush (v := 12) hx hb dX2_bringBack_10 (by decide) ?_
  refine a_copy hx hb (hml.trans hl.1.symm) hown (hts (.methodLink RX2 45 arraycopyName) (List.mem_of_getElem? (i := 3) rfl)) (hts (.native arraycopyName) (List.mem_of_getElem? (i := 4) rfl)) (hts (.static arraycopyName) (List.mem_of_getElem? (i := 5) rfl)) (hts (.initialized "java/lang/System") (List.mem_of_getElem? (i := 6) rfl)) hK hP hD hS 2 1 0 rfl rfl rfl (Nat.le_of_ble_eq_true rfl) (Nat.le_of_ble_eq_true rfl) dX2_bringBack_12 (fun H locs hP hD hS => ?_)
  have hP : va_P D vwCl [(m0, .inr (2, [.int th, .int (nI n), .int rg, .int st, .ref bV, .ref bW, .ref bR, .ref bP9, .ref bK, .ref bT, .ref bC])), (bK, .inl (cA, 12, .inl (copyF fT fK 12))), (bT, .inl (cA, 12, .inl fT))] H := hP
  have hD : va_D A [(m0, .inr (2, [.int th, .int (nI n), .int rg, .int st, .ref bV, .ref bW, .ref bR, .ref bP9, .ref bK, .ref bT, .ref bC])), (bK, .inl (cA, 12, .inl (copyF fT fK 12))), (bT, .inl (cA, 12, .inl fT))] := hD
  refine useQ hQ ?_
  exact e_v F hr hlocks hK hP hD hS [0, 1, 2] [0] () trivial rfl rfl rfl (Nat.le_of_ble_eq_true rfl) (Nat.le_of_ble_eq_true rfl) dX2_bringBack_15
theorem uX2_X2_standing : ∀ w ∈ u_ws RX2 TX2 11, w ∈ wsX2_standing := (fun _ h => List.mem_cons_of_mem _ (List.mem_append_right _ h))
set_option maxHeartbeats 4000000 in
set_option maxRecDepth 100000 in
theorem c_X2_standing (l : Launch) (D : va_G) (cA : ClassId) (m0 : Nat) (th : Int32) (n : Nat) (rg : Int32) (st : Int32) (bV : Nat) (bW : Nat) (bR : Nat) (bP9 : Nat) (bK : Nat) (bT : Nat) (bC : Nat) (fK : Nat → Int32) (x : Int32) (hn : n ≤ 12) (sz : Nat) : Met l yX2_standing wsX2_standing ({ frames := 0, cells := 0, slots := 0, locals := 0 } : Room) (va_Pc [.ref m0, .int x] (Wd D [(cA, .int)] [(m0, .inr (2, [.int th, .int (nI n), .int rg, .int st, .ref bV, .ref bW, .ref bR, .ref bP9, .ref bK, .ref bT, .ref bC])), (bK, .inl (cA, 12, .inl fK))] sz)) (va_Qi (fun (r : Int32) (_ : Unit) => r = crowd fK x n) (fun (_ : Unit) t => We D [(cA, .int)] [(m0, .inr (2, [.int th, .int (nI n), .int rg, .int st, .ref bV, .ref bW, .ref bR, .ref bP9, .ref bK, .ref bT, .ref bC])), (bK, .inl (cA, 12, .inl fK))] (va_A [(m0, .inr (2, [.int th, .int (nI n), .int rg, .int st, .ref bV, .ref bW, .ref bR, .ref bP9, .ref bK, .ref bT, .ref bC])), (bK, .inl (cA, 12, .inl fK))] sz) t) (va_A [(m0, .inr (2, [.int th, .int (nI n), .int rg, .int st, .ref bV, .ref bW, .ref bR, .ref bP9, .ref bK, .ref bT, .ref bC])), (bK, .inl (cA, 12, .inl fK))] sz)) 0 0 (va_A [(m0, .inr (2, [.int th, .int (nI n), .int rg, .int st, .ref bV, .ref bW, .ref bR, .ref bP9, .ref bK, .ref bT, .ref bC])), (bK, .inl (cA, 12, .inl fK))] sz) := by
  refine mk_met [.ref m0, .int x] (fun A => va_Qi (fun (r : Int32) (_ : Unit) => r = crowd fK x n) (fun (_ : Unit) t => We D [(cA, .int)] [(m0, .inr (2, [.int th, .int (nI n), .int rg, .int st, .ref bV, .ref bW, .ref bR, .ref bP9, .ref bK, .ref bT, .ref bC])), (bK, .inl (cA, 12, .inl fK))] A t) A) (by decide) rfl (Nat.le_of_ble_eq_true rfl) ?_
  intro p e s m args below meth c A ls F hr hlocks hname hP hK hD hA hl
  have hx := F.1
  have hb := F.2.1
  have hml := F.2.2.1
  have hown := F.2.2.2.1
  have hts := F.2.2.2.2
  have hS : va_S A s.heap s.heap [] := va_S.rf
  have hl : lv_has ls 4 [(0, .ref m0), (1, .int x)] := hl
  refine absQ (fun Q hQ => ?_)
  refine lv_iconst (v := 0) hx hb dX2_standing_0 (by decide) ?_
  refine lv_istore_n (lv' := [(2, .int 0), (0, .ref m0), (1, .int x)]) hx hb dX2_standing_1 rfl hl (by decide) rfl (fun ls hl => ?_)
  refine lv_iconst (v := 0) hx hb dX2_standing_2 (by decide) ?_
  refine lv_istore_n (lv' := [(3, .int 0), (2, .int 0), (0, .ref m0), (1, .int x)]) hx hb dX2_standing_3 rfl hl (by decide) rfl (fun ls hl => ?_)
  have loop4 : ∀ (k : Nat) (i : Nat) (v : Int32), (n < i + k) → (i ≤ n) → (v = crowd fK x i) →  ∀ (H : Heap) (locs : List Loc), va_P D vwCl [(m0, .inr (2, [.int th, .int (nI n), .int rg, .int st, .ref bV, .ref bW, .ref bR, .ref bP9, .ref bK, .ref bT, .ref bC])), (bK, .inl (cA, 12, .inl fK))] H → va_D A [(m0, .inr (2, [.int th, .int (nI n), .int rg, .int st, .ref bV, .ref bW, .ref bR, .ref bP9, .ref bK, .ref bT, .ref bC])), (bK, .inl (cA, 12, .inl fK))] → va_S A s.heap H locs → ∀ ls : Array Slot, lv_has ls 4 [(3, .int (nI i)), (2, .int v), (0, .ref m0), (1, .int x)] → W p l e ({ frames := 0, cells := 0, slots := 0, locals := 0 } : Room) s m args below meth c H locs 0 0 Q (F0 m 4 ls []) := by
    intro k
    induction k with
    | zero =>
      intro i v hk hi hv
      exact absurd hk (by omega)
    | succ k ih4 =>
      intro i v hk hi hv H locs hP hD hS ls hl
      refine lv_iload_n hx hb dX2_standing_4 rfl (lv_at hl 0 rfl) ?_
      refine lv_aload_n hx hb dX2_standing_5 rfl (lv_at hl 2 rfl) ?_
      refine va_get (D := D) (ci := 2) (v := .int (nI n)) (C := RX2) (T := TX2) (N := 11) hx hb hts uX2_X2_standing hown hK hP 0 rfl rfl 1 (by decide) (hts (.fieldLink RX2 38 "RopeChoicesModel" "many" "I") (List.mem_of_getElem? (i := 1) rfl)) (fun _ h9 => h9) rfl dX2_standing_6 ?_
      refine lv_icmp_ge (tgt := 36) hx hb dX2_standing_9 (by decide) (fun c_9 => ?_) (fun c_9 => ?_)
      · skip
        have g_9 : n ≤ i := nf_ge_t (by omega) (by omega) c_9
        refine lv_iload_n hx hb dX2_standing_36 rfl (lv_at hl 1 rfl) ?_
        refine useQ hQ ?_
        exact e_i (v := v) F hr hlocks hK hP hD hS [0, 1] [0] () (by rw [hv, show i = n by omega]) rfl rfl rfl (Nat.le_of_ble_eq_true rfl) (Nat.le_of_ble_eq_true rfl) dX2_standing_37
      · skip
        have g_9 : i < n := nf_ge_f (by omega) (by omega) c_9
        refine lv_iload_n hx hb dX2_standing_12 rfl (lv_at hl 1 rfl) ?_
        refine lv_aload_n hx hb dX2_standing_13 rfl (lv_at hl 2 rfl) ?_
        refine va_get (D := D) (ci := 2) (v := .ref bK) (C := RX2) (T := TX2) (N := 11) hx hb hts uX2_X2_standing hown hK hP 0 rfl rfl 8 (by decide) (hts (.fieldLink RX2 26 "RopeChoicesModel" "plank" "[I") (List.mem_of_getElem? (i := 2) rfl)) (fun _ h9 => h9) rfl dX2_standing_14 ?_
        refine lv_iload_n hx hb dX2_standing_17 rfl (lv_at hl 0 rfl) ?_
        refine a_ld (k := i) hx hb hK hP 1 0 rfl rfl (by omega) (Nat.le_of_ble_eq_true rfl) dX2_standing_18 ?_
        refine lv_iload_n hx hb dX2_standing_19 rfl (lv_at hl 3 rfl) ?_
        refine lv_icmp_ne (tgt := 27) hx hb dX2_standing_20 (by decide) (fun c_20 => ?_) (fun c_20 => ?_)
        · skip
          refine lv_iconst (v := 0) hx hb dX2_standing_27 (by decide) ?_
          refine lv_iadd hx hb dX2_standing_28 ?_
          refine lv_istore_n (lv' := [(2, .int (v + 0)), (3, .int (nI i)), (0, .ref m0), (1, .int x)]) hx hb dX2_standing_29 rfl hl (by decide) rfl (fun ls hl => ?_)
          refine lv_iinc (v := nI (i + 1)) (lv' := [(3, .int (nI (i + 1))), (2, .int (v + 0)), (0, .ref m0), (1, .int x)]) hx hb dX2_standing_30 hl (k := 1) rfl (nI_1 _) (by decide) rfl (fun ls hl => ?_)
          refine lv_goto (tgt := 4) hx hb dX2_standing_33 (by decide) ?_
          exact ih4 (i + 1) (v + 0) (by omega) (by omega) (by rw [crowd_s, if_neg c_20, hv, Int32.add_zero]) _ _ (hP.sub [0, 1] rfl) (hD.sub [0, 1] (by decide) rfl) hS ls (lv_sub hl [0, 1, 2, 3] rfl)
        · skip
          refine lv_iconst (v := 1) hx hb dX2_standing_23 (by decide) ?_
          refine lv_goto (tgt := 28) hx hb dX2_standing_24 (by decide) ?_
          refine lv_iadd hx hb dX2_standing_28 ?_
          refine lv_istore_n (lv' := [(2, .int (v + 1)), (3, .int (nI i)), (0, .ref m0), (1, .int x)]) hx hb dX2_standing_29 rfl hl (by decide) rfl (fun ls hl => ?_)
          refine lv_iinc (v := nI (i + 1)) (lv' := [(3, .int (nI (i + 1))), (2, .int (v + 1)), (0, .ref m0), (1, .int x)]) hx hb dX2_standing_30 hl (k := 1) rfl (nI_1 _) (by decide) rfl (fun ls hl => ?_)
          refine lv_goto (tgt := 4) hx hb dX2_standing_33 (by decide) ?_
          exact ih4 (i + 1) (v + 1) (by omega) (by omega) (by rw [crowd_s, if_pos c_20, hv]) _ _ (hP.sub [0, 1] rfl) (hD.sub [0, 1] (by decide) rfl) hS ls (lv_sub hl [0, 1, 2, 3] rfl)
  exact loop4 (n + 1) 0 0 (by omega) (Nat.zero_le _) rfl _ _ (hP.sub [0, 1] rfl) (hD.sub [0, 1] (by decide) rfl) hS ls (lv_sub hl [0, 1, 2, 3] rfl)
theorem uX2_X2_hasRoom : ∀ w ∈ u_ws RX2 TX2 11, w ∈ wsX2_hasRoom := (fun _ h => List.mem_cons_of_mem _ (List.mem_append_right _ h))
set_option maxHeartbeats 4000000 in
set_option maxRecDepth 100000 in
theorem c_X2_hasRoom (l : Launch) (D : va_G) (cA : ClassId) (m0 : Nat) (th : Int32) (n : Nat) (rg : Int32) (st : Int32) (bV : Nat) (bW : Nat) (bR : Nat) (bP9 : Nat) (bK : Nat) (bT : Nat) (bC : Nat) (fK : Nat → Int32) (x : Int32) (hn : n ≤ 12) (sz : Nat) : Met l yX2_hasRoom wsX2_hasRoom ({ frames := 1, cells := 0, slots := 0, locals := 23 } : Room) (va_Pc [.ref m0, .int x] (Wd D [(cA, .int)] [(m0, .inr (2, [.int th, .int (nI n), .int rg, .int st, .ref bV, .ref bW, .ref bR, .ref bP9, .ref bK, .ref bT, .ref bC])), (bK, .inl (cA, 12, .inl fK))] sz)) (va_Qi (fun (r : Int32) (_ : Unit) => r = bP (crowd fK x n < st)) (fun (_ : Unit) t => We D [(cA, .int)] [(m0, .inr (2, [.int th, .int (nI n), .int rg, .int st, .ref bV, .ref bW, .ref bR, .ref bP9, .ref bK, .ref bT, .ref bC])), (bK, .inl (cA, 12, .inl fK))] (va_A [(m0, .inr (2, [.int th, .int (nI n), .int rg, .int st, .ref bV, .ref bW, .ref bR, .ref bP9, .ref bK, .ref bT, .ref bC])), (bK, .inl (cA, 12, .inl fK))] sz) t) (va_A [(m0, .inr (2, [.int th, .int (nI n), .int rg, .int st, .ref bV, .ref bW, .ref bR, .ref bP9, .ref bK, .ref bT, .ref bC])), (bK, .inl (cA, 12, .inl fK))] sz)) 0 0 (va_A [(m0, .inr (2, [.int th, .int (nI n), .int rg, .int st, .ref bV, .ref bW, .ref bR, .ref bP9, .ref bK, .ref bT, .ref bC])), (bK, .inl (cA, 12, .inl fK))] sz) := by
  refine mk_met [.ref m0, .int x] (fun A => va_Qi (fun (r : Int32) (_ : Unit) => r = bP (crowd fK x n < st)) (fun (_ : Unit) t => We D [(cA, .int)] [(m0, .inr (2, [.int th, .int (nI n), .int rg, .int st, .ref bV, .ref bW, .ref bR, .ref bP9, .ref bK, .ref bT, .ref bC])), (bK, .inl (cA, 12, .inl fK))] A t) A) (by decide) rfl (Nat.le_of_ble_eq_true rfl) ?_
  intro p e s m args below meth c A ls F hr hlocks hname hP hK hD hA hl
  have hx := F.1
  have hb := F.2.1
  have hml := F.2.2.1
  have hown := F.2.2.2.1
  have hts := F.2.2.2.2
  have hS : va_S A s.heap s.heap [] := va_S.rf
  have hl : lv_has ls 2 [(0, .ref m0), (1, .int x)] := hl
  refine absQ (fun Q hQ => ?_)
  refine lv_aload_n hx hb dX2_hasRoom_0 rfl (lv_at hl 0 rfl) ?_
  refine lv_iload_n hx hb dX2_hasRoom_1 rfl (lv_at hl 1 rfl) ?_
  have hX_1 : Cut D A [(m0, .inr (2, [.int th, .int (nI n), .int rg, .int st, .ref bV, .ref bW, .ref bR, .ref bP9, .ref bK, .ref bT, .ref bC])), (bK, .inl (cA, 12, .inl fK))] [(m0, .inr (2, [.int th, .int (nI n), .int rg, .int st, .ref bV, .ref bW, .ref bR, .ref bP9, .ref bK, .ref bT, .ref bC])), (bK, .inl (cA, 12, .inl fK))] [] [(cA, .int)] [(cA, .int)] [0, 1] [] [0] := ⟨rfl, rfl, rfl, rfl, by decide, rfl⟩
  refine ki hX_1 hP hD hS hA (kRunV (q := (RX2, TX2, 11)) (As := [.int x]) (rest := []) F (c_X2_standing l D cA m0 th n rg st bV bW bR bP9 bK bT bC fK x hn s.heap.size) (cwV 1 hts gX2_hasRoom_X2_standing rfl rfl rfl (by decide +kernel) ⟨Nat.le_of_ble_eq_true rfl, Nat.le_of_ble_eq_true rfl⟩) hK hP hD hX_1 0 rfl rfl rfl hl.1 rfl (Nat.le_of_ble_eq_true rfl) dX2_hasRoom_2 ⟨Nat.le_of_ble_eq_true rfl, Nat.le_of_ble_eq_true rfl⟩) (fun r_2 u_3 H locs hw_4 hP hD hS => ?_)
  have hw_4 : r_2 = crowd fK x n := hw_4
  rw [hw_4]
  have hP : va_P D vwCl [(m0, .inr (2, [.int th, .int (nI n), .int rg, .int st, .ref bV, .ref bW, .ref bR, .ref bP9, .ref bK, .ref bT, .ref bC])), (bK, .inl (cA, 12, .inl fK))] H := hP
  have hD : va_D A [(m0, .inr (2, [.int th, .int (nI n), .int rg, .int st, .ref bV, .ref bW, .ref bR, .ref bP9, .ref bK, .ref bT, .ref bC])), (bK, .inl (cA, 12, .inl fK))] := hD
  refine lv_aload_n hx hb dX2_hasRoom_5 rfl (lv_at hl 0 rfl) ?_
  refine va_get (D := D) (ci := 2) (v := .int st) (C := RX2) (T := TX2) (N := 11) hx hb hts uX2_X2_hasRoom hown hK hP 0 rfl rfl 3 (by decide) (hts (.fieldLink RX2 7 "RopeChoicesModel" "strength" "I") (List.mem_of_getElem? (i := 1) rfl)) (fun _ h9 => h9) rfl dX2_hasRoom_6 ?_
  refine lv_icmp_ge (tgt := 16) hx hb dX2_hasRoom_9 (by decide) (fun c_9 => ?_) (fun c_9 => ?_)
  · skip
    refine lv_iconst (v := 0) hx hb dX2_hasRoom_16 (by decide) ?_
    refine useQ hQ ?_
    exact e_z (v := 0) F hr hlocks hK hP hD hS [0, 1] [0] () (by first | exact Or.inl rfl | exact Or.inr rfl | exact bP_01 _) (bP_f (Int32.not_lt.mpr c_9)) rfl rfl rfl (Nat.le_of_ble_eq_true rfl) (Nat.le_of_ble_eq_true rfl) dX2_hasRoom_17
  · skip
    refine lv_iconst (v := 1) hx hb dX2_hasRoom_12 (by decide) ?_
    refine lv_goto (tgt := 17) hx hb dX2_hasRoom_13 (by decide) ?_
    refine useQ hQ ?_
    exact e_z (v := 1) F hr hlocks hK hP hD hS [0, 1] [0] () (by first | exact Or.inl rfl | exact Or.inr rfl | exact bP_01 _) (bP_t (Int32.not_le.mp c_9)) rfl rfl rfl (Nat.le_of_ble_eq_true rfl) (Nat.le_of_ble_eq_true rfl) dX2_hasRoom_17
theorem uX2_X2_isWilling : ∀ w ∈ u_ws RX2 TX2 11, w ∈ wsX2_isWilling := (fun _ h => List.mem_cons_of_mem _ (List.mem_append_right _ h))
set_option maxHeartbeats 4000000 in
set_option maxRecDepth 100000 in
theorem c_X2_isWilling (l : Launch) (D : va_G) (cA : ClassId) (m0 : Nat) (th : Int32) (n : Nat) (rg : Int32) (st : Int32) (bV : Nat) (bW : Nat) (bR : Nat) (bP9 : Nat) (bK : Nat) (bT : Nat) (bC : Nat) (fW : Nat → Int32) (fR : Nat → Int32) (j : Nat) (x : Int32) (hn : n ≤ 12) (hj : j < n) (sz : Nat) : Met l yX2_isWilling wsX2_isWilling ({ frames := 1, cells := 0, slots := 0, locals := 30 } : Room) (va_Pc [.ref m0, .int (nI j), .int x] (Wd D [(cA, .int)] [(m0, .inr (2, [.int th, .int (nI n), .int rg, .int st, .ref bV, .ref bW, .ref bR, .ref bP9, .ref bK, .ref bT, .ref bC])), (bW, .inl (cA, 12, .inl fW)), (bR, .inl (cA, 12, .inl fR))] sz)) (va_Qi (fun (r : Int32) (_ : Unit) => r = bP (jabs (x - fW j) ≤ fR j)) (fun (_ : Unit) t => We D [(cA, .int)] [(m0, .inr (2, [.int th, .int (nI n), .int rg, .int st, .ref bV, .ref bW, .ref bR, .ref bP9, .ref bK, .ref bT, .ref bC])), (bW, .inl (cA, 12, .inl fW)), (bR, .inl (cA, 12, .inl fR))] (va_A [(m0, .inr (2, [.int th, .int (nI n), .int rg, .int st, .ref bV, .ref bW, .ref bR, .ref bP9, .ref bK, .ref bT, .ref bC])), (bW, .inl (cA, 12, .inl fW)), (bR, .inl (cA, 12, .inl fR))] sz) t) (va_A [(m0, .inr (2, [.int th, .int (nI n), .int rg, .int st, .ref bV, .ref bW, .ref bR, .ref bP9, .ref bK, .ref bT, .ref bC])), (bW, .inl (cA, 12, .inl fW)), (bR, .inl (cA, 12, .inl fR))] sz)) 0 0 (va_A [(m0, .inr (2, [.int th, .int (nI n), .int rg, .int st, .ref bV, .ref bW, .ref bR, .ref bP9, .ref bK, .ref bT, .ref bC])), (bW, .inl (cA, 12, .inl fW)), (bR, .inl (cA, 12, .inl fR))] sz) := by
  refine mk_met [.ref m0, .int (nI j), .int x] (fun A => va_Qi (fun (r : Int32) (_ : Unit) => r = bP (jabs (x - fW j) ≤ fR j)) (fun (_ : Unit) t => We D [(cA, .int)] [(m0, .inr (2, [.int th, .int (nI n), .int rg, .int st, .ref bV, .ref bW, .ref bR, .ref bP9, .ref bK, .ref bT, .ref bC])), (bW, .inl (cA, 12, .inl fW)), (bR, .inl (cA, 12, .inl fR))] A t) A) (by decide) rfl (Nat.le_of_ble_eq_true rfl) ?_
  intro p e s m args below meth c A ls F hr hlocks hname hP hK hD hA hl
  have hx := F.1
  have hb := F.2.1
  have hml := F.2.2.1
  have hown := F.2.2.2.1
  have hts := F.2.2.2.2
  have hS : va_S A s.heap s.heap [] := va_S.rf
  have hl : lv_has ls 3 [(0, .ref m0), (1, .int (nI j)), (2, .int x)] := hl
  refine absQ (fun Q hQ => ?_)
  refine lv_iload_n hx hb dX2_isWilling_0 rfl (lv_at hl 2 rfl) ?_
  refine lv_aload_n hx hb dX2_isWilling_1 rfl (lv_at hl 0 rfl) ?_
  refine va_get (D := D) (ci := 2) (v := .ref bW) (C := RX2) (T := TX2) (N := 11) hx hb hts uX2_X2_isWilling hown hK hP 0 rfl rfl 5 (by decide) (hts (.fieldLink RX2 17 "RopeChoicesModel" "wish" "[I") (List.mem_of_getElem? (i := 1) rfl)) (fun _ h9 => h9) rfl dX2_isWilling_2 ?_
  refine lv_iload_n hx hb dX2_isWilling_5 rfl (lv_at hl 1 rfl) ?_
  refine a_ld (k := j) hx hb hK hP 1 0 rfl rfl (by omega) (Nat.le_of_ble_eq_true rfl) dX2_isWilling_6 ?_
  refine lv_isub hx hb dX2_isWilling_7 ?_
  refine va_mabs hx hb (hml.trans hl.1.symm) hown (hts (.methodLink RX2 55 Lib.Math.abs.name) (List.mem_of_getElem? (i := 2) rfl)) (hts (.static Lib.Math.abs.name) (List.mem_of_getElem? (i := 3) rfl)) (hts (.initialized "java/lang/Math") (List.mem_of_getElem? (i := 4) rfl)) (hts (.code Lib.Math.abs.name Lib.Math.abs.code 1 (some .int)) (List.mem_of_getElem? (i := 5) rfl)) (Nat.le_of_ble_eq_true rfl) (Nat.le_of_ble_eq_true rfl) (Nat.le_of_ble_eq_true rfl) (Nat.le_of_ble_eq_true rfl) dX2_isWilling_8 ?_
  refine topi (jabs (x - (fW j))) rfl ?_
  refine lv_aload_n hx hb dX2_isWilling_11 rfl (lv_at hl 0 rfl) ?_
  refine va_get (D := D) (ci := 2) (v := .ref bR) (C := RX2) (T := TX2) (N := 11) hx hb hts uX2_X2_isWilling hown hK hP 0 rfl rfl 6 (by decide) (hts (.fieldLink RX2 20 "RopeChoicesModel" "reach" "[I") (List.mem_of_getElem? (i := 6) rfl)) (fun _ h9 => h9) rfl dX2_isWilling_12 ?_
  refine lv_iload_n hx hb dX2_isWilling_15 rfl (lv_at hl 1 rfl) ?_
  refine a_ld (k := j) hx hb hK hP 2 0 rfl rfl (by omega) (Nat.le_of_ble_eq_true rfl) dX2_isWilling_16 ?_
  refine lv_icmp_gt (tgt := 24) hx hb dX2_isWilling_17 (by decide) (fun c_17 => ?_) (fun c_17 => ?_)
  · skip
    refine lv_iconst (v := 0) hx hb dX2_isWilling_24 (by decide) ?_
    refine useQ hQ ?_
    exact e_z (v := 0) F hr hlocks hK hP hD hS [0, 1, 2] [0] () (by first | exact Or.inl rfl | exact Or.inr rfl | exact bP_01 _) (bP_f (Int32.not_le.mpr c_17)) rfl rfl rfl (Nat.le_of_ble_eq_true rfl) (Nat.le_of_ble_eq_true rfl) dX2_isWilling_25
  · skip
    refine lv_iconst (v := 1) hx hb dX2_isWilling_20 (by decide) ?_
    refine lv_goto (tgt := 25) hx hb dX2_isWilling_21 (by decide) ?_
    refine useQ hQ ?_
    exact e_z (v := 1) F hr hlocks hK hP hD hS [0, 1, 2] [0] () (by first | exact Or.inl rfl | exact Or.inr rfl | exact bP_01 _) (bP_t (Int32.not_lt.mp c_17)) rfl rfl rfl (Nat.le_of_ble_eq_true rfl) (Nat.le_of_ble_eq_true rfl) dX2_isWilling_25
theorem uX2_X2_median : ∀ w ∈ u_ws RX2 TX2 11, w ∈ wsX2_median := (fun _ h => List.mem_cons_of_mem _ (List.mem_append_right _ h))
set_option maxHeartbeats 4000000 in
set_option maxRecDepth 100000 in
theorem c_X2_median (l : Launch) (D : va_G) (cA : ClassId) (m0 : Nat) (th : Int32) (n : Nat) (rg : Int32) (st : Int32) (bV : Nat) (bW : Nat) (bR : Nat) (bP9 : Nat) (bK : Nat) (bT : Nat) (bC : Nat) (fV : Nat → Int32) (fK : Nat → Int32) (fC : Nat → Int32) (off : Int32) (but : Int32) (hn : n ≤ 12) (hI : ∀ i, i < n → okD 41 (fK i)) (sz : Nat) : Met l yX2_median wsX2_median ({ frames := 0, cells := 0, slots := 0, locals := 0 } : Room) (va_Pc [.ref m0, .int off, .int but] (Wd D [(cA, .int)] [(m0, .inr (2, [.int th, .int (nI n), .int rg, .int st, .ref bV, .ref bW, .ref bR, .ref bP9, .ref bK, .ref bT, .ref bC])), (bV, .inl (cA, 12, .inl fV)), (bK, .inl (cA, 12, .inl fK)), (bC, .inl (cA, 41, .inl fC))] sz)) (va_Qi (fun (r : Int32) (u : Nat → Int32) => r = medM fK (selM fV off but) n) (fun (u : Nat → Int32) t => We D [(cA, .int)] [(m0, .inr (2, [.int th, .int (nI n), .int rg, .int st, .ref bV, .ref bW, .ref bR, .ref bP9, .ref bK, .ref bT, .ref bC])), (bV, .inl (cA, 12, .inl fV)), (bK, .inl (cA, 12, .inl fK)), (bC, .inl (cA, 41, .inl u))] (va_A [(m0, .inr (2, [.int th, .int (nI n), .int rg, .int st, .ref bV, .ref bW, .ref bR, .ref bP9, .ref bK, .ref bT, .ref bC])), (bV, .inl (cA, 12, .inl fV)), (bK, .inl (cA, 12, .inl fK)), (bC, .inl (cA, 41, .inl fC))] sz) t) (va_A [(m0, .inr (2, [.int th, .int (nI n), .int rg, .int st, .ref bV, .ref bW, .ref bR, .ref bP9, .ref bK, .ref bT, .ref bC])), (bV, .inl (cA, 12, .inl fV)), (bK, .inl (cA, 12, .inl fK)), (bC, .inl (cA, 41, .inl fC))] sz)) 0 0 (va_A [(m0, .inr (2, [.int th, .int (nI n), .int rg, .int st, .ref bV, .ref bW, .ref bR, .ref bP9, .ref bK, .ref bT, .ref bC])), (bV, .inl (cA, 12, .inl fV)), (bK, .inl (cA, 12, .inl fK)), (bC, .inl (cA, 41, .inl fC))] sz) := by
  refine mk_met [.ref m0, .int off, .int but] (fun A => va_Qi (fun (r : Int32) (u : Nat → Int32) => r = medM fK (selM fV off but) n) (fun (u : Nat → Int32) t => We D [(cA, .int)] [(m0, .inr (2, [.int th, .int (nI n), .int rg, .int st, .ref bV, .ref bW, .ref bR, .ref bP9, .ref bK, .ref bT, .ref bC])), (bV, .inl (cA, 12, .inl fV)), (bK, .inl (cA, 12, .inl fK)), (bC, .inl (cA, 41, .inl u))] A t) A) (by decide) rfl (Nat.le_of_ble_eq_true rfl) ?_
  intro p e s m args below meth c A ls F hr hlocks hname hP hK hD hA hl
  have hx := F.1
  have hb := F.2.1
  have hml := F.2.2.1
  have hown := F.2.2.2.1
  have hts := F.2.2.2.2
  have hS : va_S A s.heap s.heap [] := va_S.rf
  have hl : lv_has ls 6 [(0, .ref m0), (1, .int off), (2, .int but)] := hl
  refine absQ (fun Q hQ => ?_)
  refine lv_iconst (v := 0) hx hb dX2_median_0 (by decide) ?_
  refine lv_istore_n (lv' := [(3, .int 0), (0, .ref m0), (1, .int off), (2, .int but)]) hx hb dX2_median_1 rfl hl (by decide) rfl (fun ls hl => ?_)
  have loop2 : ∀ (k : Nat) (q : Nat) (g : Nat → Int32), (41 < q + k) → (q ≤ 41) → (∀ i, i < q → g i = 0) →  ∀ (H : Heap) (locs : List Loc), va_P D vwCl [(m0, .inr (2, [.int th, .int (nI n), .int rg, .int st, .ref bV, .ref bW, .ref bR, .ref bP9, .ref bK, .ref bT, .ref bC])), (bV, .inl (cA, 12, .inl fV)), (bK, .inl (cA, 12, .inl fK)), (bC, .inl (cA, 41, .inl g))] H → va_D A [(m0, .inr (2, [.int th, .int (nI n), .int rg, .int st, .ref bV, .ref bW, .ref bR, .ref bP9, .ref bK, .ref bT, .ref bC])), (bV, .inl (cA, 12, .inl fV)), (bK, .inl (cA, 12, .inl fK)), (bC, .inl (cA, 41, .inl g))] → va_S A s.heap H locs → ∀ ls : Array Slot, lv_has ls 6 [(3, .int (nI q)), (0, .ref m0), (1, .int off), (2, .int but)] → W p l e ({ frames := 0, cells := 0, slots := 0, locals := 0 } : Room) s m args below meth c H locs 0 0 Q (F0 m 2 ls []) := by
    intro k
    induction k with
    | zero =>
      intro q g hk hq hg
      exact absurd hk (by omega)
    | succ k ih2 =>
      intro q g hk hq hg H locs hP hD hS ls hl
      refine lv_iload_n hx hb dX2_median_2 rfl (lv_at hl 0 rfl) ?_
      refine lv_bipush (v := 41) hx hb dX2_median_3 (by decide) ?_
      refine lv_icmp_ge (tgt := 21) hx hb dX2_median_5 (by decide) (fun c_5 => ?_) (fun c_5 => ?_)
      · skip
        have g_5 : 41 ≤ q := nf_ge_t (by omega) (by omega) c_5
        refine lv_iconst (v := 0) hx hb dX2_median_21 (by decide) ?_
        refine lv_istore_n (lv' := [(3, .int 0), (0, .ref m0), (1, .int off), (2, .int but)]) hx hb dX2_median_22 rfl hl (by decide) rfl (fun ls hl => ?_)
        refine lv_iconst (v := 0) hx hb dX2_median_23 (by decide) ?_
        refine lv_istore (lv' := [(4, .int 0), (3, .int 0), (0, .ref m0), (1, .int off), (2, .int but)]) hx hb dX2_median_24 hl (by decide) rfl (fun ls hl => ?_)
        have loop26 : ∀ (k : Nat) (i : Nat) (c9 : Nat) (g : Nat → Int32), (n < i + k) → (i ≤ n) → (c9 = tot (selM fV off but) i) → (Cnt fK (selM fV off but) i g) →  ∀ (H : Heap) (locs : List Loc), va_P D vwCl [(m0, .inr (2, [.int th, .int (nI n), .int rg, .int st, .ref bV, .ref bW, .ref bR, .ref bP9, .ref bK, .ref bT, .ref bC])), (bV, .inl (cA, 12, .inl fV)), (bK, .inl (cA, 12, .inl fK)), (bC, .inl (cA, 41, .inl g))] H → va_D A [(m0, .inr (2, [.int th, .int (nI n), .int rg, .int st, .ref bV, .ref bW, .ref bR, .ref bP9, .ref bK, .ref bT, .ref bC])), (bV, .inl (cA, 12, .inl fV)), (bK, .inl (cA, 12, .inl fK)), (bC, .inl (cA, 41, .inl g))] → va_S A s.heap H locs → ∀ ls : Array Slot, lv_has ls 6 [(4, .int (nI i)), (3, .int (nI c9)), (0, .ref m0), (1, .int off), (2, .int but)] → W p l e ({ frames := 0, cells := 0, slots := 0, locals := 0 } : Room) s m args below meth c H locs 0 0 Q (F0 m 26 ls []) := by
          intro k
          induction k with
          | zero =>
            intro i c9 g hk hi hc hC
            exact absurd hk (by omega)
          | succ k ih26 =>
            intro i c9 g hk hi hc hC H locs hP hD hS ls hl
            have hc9 : c9 ≤ i := by rw [hc]; exact tot_le _ _
            refine lv_iload hx hb dX2_median_26 (lv_at hl 0 rfl) ?_
            refine lv_aload_n hx hb dX2_median_28 rfl (lv_at hl 2 rfl) ?_
            refine va_get (D := D) (ci := 2) (v := .int (nI n)) (C := RX2) (T := TX2) (N := 11) hx hb hts uX2_X2_median hown hK hP 0 rfl rfl 1 (by decide) (hts (.fieldLink RX2 38 "RopeChoicesModel" "many" "I") (List.mem_of_getElem? (i := 2) rfl)) (fun _ h9 => h9) rfl dX2_median_29 ?_
            refine lv_icmp_ge (tgt := 85) hx hb dX2_median_32 (by decide) (fun c_32 => ?_) (fun c_32 => ?_)
            · skip
              have g_32 : n ≤ i := nf_ge_t (by omega) (by omega) c_32
              rw [show i = n by omega] at hc hC
              have hl0 : Left fK (selM fV off but) n 0 ((nI c9 - 1) / 2) := by rw [hc]; exact left_0 hn hI
              refine lv_iload_n hx hb dX2_median_85 rfl (lv_at hl 1 rfl) ?_
              refine lv_iconst (v := 1) hx hb dX2_median_86 (by decide) ?_
              refine lv_isub hx hb dX2_median_87 ?_
              refine lv_iconst (v := 2) hx hb dX2_median_88 (by decide) ?_
              refine lv_idiv hx hb dX2_median_89 (by decide) ?_
              refine lv_istore (lv' := [(4, .int (((nI c9) - 1) / 2)), (3, .int (nI c9)), (0, .ref m0), (1, .int off), (2, .int but)]) hx hb dX2_median_90 hl (by decide) rfl (fun ls hl => ?_)
              refine lv_iconst (v := 0) hx hb dX2_median_92 (by decide) ?_
              refine lv_istore (lv' := [(5, .int 0), (4, .int (((nI c9) - 1) / 2)), (3, .int (nI c9)), (0, .ref m0), (1, .int off), (2, .int but)]) hx hb dX2_median_93 hl (by decide) rfl (fun ls hl => ?_)
              have loop95 : ∀ (k : Nat) (q : Nat) (lf : Int32), (41 < q + k) → (q ≤ 41) → (Left fK (selM fV off but) n q lf) →  ∀ (H : Heap) (locs : List Loc), va_P D vwCl [(m0, .inr (2, [.int th, .int (nI n), .int rg, .int st, .ref bV, .ref bW, .ref bR, .ref bP9, .ref bK, .ref bT, .ref bC])), (bV, .inl (cA, 12, .inl fV)), (bK, .inl (cA, 12, .inl fK)), (bC, .inl (cA, 41, .inl g))] H → va_D A [(m0, .inr (2, [.int th, .int (nI n), .int rg, .int st, .ref bV, .ref bW, .ref bR, .ref bP9, .ref bK, .ref bT, .ref bC])), (bV, .inl (cA, 12, .inl fV)), (bK, .inl (cA, 12, .inl fK)), (bC, .inl (cA, 41, .inl g))] → va_S A s.heap H locs → ∀ ls : Array Slot, lv_has ls 6 [(5, .int (nI q)), (4, .int lf), (3, .int (nI c9)), (0, .ref m0)] → W p l e ({ frames := 0, cells := 0, slots := 0, locals := 0 } : Room) s m args below meth c H locs 0 0 Q (F0 m 95 ls []) := by
                intro k
                induction k with
                | zero =>
                  intro q lf hk hq hL
                  exact absurd hk (by omega)
                | succ k ih95 =>
                  intro q lf hk hq hL H locs hP hD hS ls hl
                  refine lv_iload hx hb dX2_median_95 (lv_at hl 0 rfl) ?_
                  refine lv_bipush (v := 41) hx hb dX2_median_97 (by decide) ?_
                  refine lv_icmp_ge (tgt := 132) hx hb dX2_median_99 (by decide) (fun c_99 => ?_) (fun c_99 => ?_)
                  · skip
                    have g_99 : 41 ≤ q := nf_ge_t (by omega) (by omega) c_99
                    refine lv_iconst (v := (-1)) hx hb dX2_median_132 (by decide) ?_
                    refine useQ hQ ?_
                    exact e_i (v := (-1)) F hr hlocks hK hP hD hS [0, 1, 2, 3] [0] g (medM_none (left_41 hI hL (by omega))) rfl rfl rfl (Nat.le_of_ble_eq_true rfl) (Nat.le_of_ble_eq_true rfl) dX2_median_133
                  · skip
                    have g_99 : q < 41 := nf_ge_f (by omega) (by omega) c_99
                    refine lv_iload_n hx hb dX2_median_102 rfl (lv_at hl 2 rfl) ?_
                    refine lv_if_le (tgt := 132) hx hb dX2_median_103 (by decide) (fun c_103 => ?_) (fun c_103 => ?_)
                    · skip
                      have g_103 : c9 ≤ 0 := nf_le_t (by omega) (by omega) c_103
                      refine lv_iconst (v := (-1)) hx hb dX2_median_132 (by decide) ?_
                      refine useQ hQ ?_
                      exact e_i (v := (-1)) F hr hlocks hK hP hD hS [0, 1, 2, 3] [0] g (medM_none (by omega)) rfl rfl rfl (Nat.le_of_ble_eq_true rfl) (Nat.le_of_ble_eq_true rfl) dX2_median_133
                    · skip
                      have g_103 : 0 < c9 := nf_le_f (by omega) (by omega) c_103
                      refine lv_iload hx hb dX2_median_106 (lv_at hl 1 rfl) ?_
                      refine lv_aload_n hx hb dX2_median_108 rfl (lv_at hl 3 rfl) ?_
                      refine va_get (D := D) (ci := 2) (v := .ref bC) (C := RX2) (T := TX2) (N := 11) hx hb hts uX2_X2_median hown hK hP 0 rfl rfl 10 (by decide) (hts (.fieldLink RX2 32 "RopeChoicesModel" "count" "[I") (List.mem_of_getElem? (i := 1) rfl)) (fun _ h9 => h9) rfl dX2_median_109 ?_
                      refine lv_iload hx hb dX2_median_112 (lv_at hl 0 rfl) ?_
                      refine a_ld (k := q) hx hb hK hP 3 0 rfl rfl (by omega) (Nat.le_of_ble_eq_true rfl) dX2_median_114 ?_
                      refine lv_isub hx hb dX2_median_115 ?_
                      refine lv_istore (lv' := [(4, .int (lf - (g q))), (5, .int (nI q)), (3, .int (nI c9)), (0, .ref m0)]) hx hb dX2_median_116 hl (by decide) rfl (fun ls hl => ?_)
                      refine lv_iload hx hb dX2_median_118 (lv_at hl 0 rfl) ?_
                      refine lv_if_ge (tgt := 126) hx hb dX2_median_120 (by decide) (fun c_120 => ?_) (fun c_120 => ?_)
                      · skip
                        have c9_120 := Int32.not_lt.mpr c_120
                        refine lv_iinc (v := nI (q + 1)) (lv' := [(5, .int (nI (q + 1))), (4, .int (lf - (g q))), (3, .int (nI c9)), (0, .ref m0)]) hx hb dX2_median_126 hl (k := 1) rfl (nI_1 _) (by decide) rfl (fun ls hl => ?_)
                        refine lv_goto (tgt := 95) hx hb dX2_median_129 (by decide) ?_
                        exact ih95 (q + 1) (lf - (g q)) (by omega) (by omega) (left_s hn hI hC hL (by omega) c9_120) _ _ (hP.sub [0, 1, 2, 3] rfl) (hD.sub [0, 1, 2, 3] (by decide) rfl) hS ls (lv_sub hl [0, 1, 2, 3] rfl)
                      · skip
                        have c9_120 := Int32.not_le.mp c_120
                        refine lv_iload hx hb dX2_median_123 (lv_at hl 1 rfl) ?_
                        refine useQ hQ ?_
                        exact e_i (v := nI q) F hr hlocks hK hP hD hS [0, 1, 2, 3] [0] g (left_end hn hC hL (by omega) c9_120 (by omega)) rfl rfl rfl (Nat.le_of_ble_eq_true rfl) (Nat.le_of_ble_eq_true rfl) dX2_median_125
              exact loop95 (42) 0 (((nI c9) - 1) / 2) (by omega) (Nat.zero_le _) hl0 _ _ (hP.sub [0, 1, 2, 3] rfl) (hD.sub [0, 1, 2, 3] (by decide) rfl) hS ls (lv_sub hl [0, 1, 2, 3] rfl)
            · skip
              have g_32 : i < n := nf_ge_f (by omega) (by omega) c_32
              refine lv_iload hx hb dX2_median_35 (lv_at hl 0 rfl) ?_
              refine lv_iload_n hx hb dX2_median_37 rfl (lv_at hl 4 rfl) ?_
              refine lv_icmp_eq (tgt := 79) hx hb dX2_median_38 (by decide) (fun c_38 => ?_) (fun c_38 => ?_)
              · skip
                refine lv_iinc (v := nI (i + 1)) (lv' := [(4, .int (nI (i + 1))), (3, .int (nI c9)), (0, .ref m0), (1, .int off), (2, .int but)]) hx hb dX2_median_79 hl (k := 0) rfl (nI_1 _) (by decide) rfl (fun ls hl => ?_)
                refine lv_goto (tgt := 26) hx hb dX2_median_82 (by decide) ?_
                exact ih26 (i + 1) c9 g (by omega) (by omega) (by rw [tot_s, if_neg (selM_f1 c_38)]; exact hc) (cnt_skip hC (selM_f1 c_38)) _ _ (hP.sub [0, 1, 2, 3] rfl) (hD.sub [0, 1, 2, 3] (by decide) rfl) hS ls (lv_sub hl [0, 1, 2, 3, 4] rfl)
              · skip
                refine lv_iload_n hx hb dX2_median_41 rfl (lv_at hl 3 rfl) ?_
                refine lv_iconst (v := (-1)) hx hb dX2_median_42 (by decide) ?_
                refine lv_icmp_eq (tgt := 60) hx hb dX2_median_43 (by decide) (fun c_43 => ?_) (fun c_43 => ?_)
                · skip
                  refine lv_aload_n hx hb dX2_median_60 rfl (lv_at hl 2 rfl) ?_
                  refine va_get (D := D) (ci := 2) (v := .ref bC) (C := RX2) (T := TX2) (N := 11) hx hb hts uX2_X2_median hown hK hP 0 rfl rfl 10 (by decide) (hts (.fieldLink RX2 32 "RopeChoicesModel" "count" "[I") (List.mem_of_getElem? (i := 1) rfl)) (fun _ h9 => h9) rfl dX2_median_61 ?_
                  refine lv_aload_n hx hb dX2_median_64 rfl (lv_at hl 2 rfl) ?_
                  refine va_get (D := D) (ci := 2) (v := .ref bK) (C := RX2) (T := TX2) (N := 11) hx hb hts uX2_X2_median hown hK hP 0 rfl rfl 8 (by decide) (hts (.fieldLink RX2 26 "RopeChoicesModel" "plank" "[I") (List.mem_of_getElem? (i := 4) rfl)) (fun _ h9 => h9) rfl dX2_median_65 ?_
                  refine lv_iload hx hb dX2_median_68 (lv_at hl 0 rfl) ?_
                  refine a_ld (k := i) hx hb hK hP 2 0 rfl rfl (by omega) (Nat.le_of_ble_eq_true rfl) dX2_median_70 ?_
                  obtain ⟨y9, hy9, ey9⟩ := hI i (by omega)
                  refine topi (nI y9) ey9 ?_
                  refine lv_dup2_11 hx hb dX2_median_71 rfl rfl ?_
                  refine a_ld (k := y9) hx hb hK hP 3 0 rfl rfl hy9 (Nat.le_of_ble_eq_true rfl) dX2_median_72 ?_
                  refine lv_iconst (v := 1) hx hb dX2_median_73 (by decide) ?_
                  refine lv_iadd hx hb dX2_median_74 ?_
                  refine a_st (k := y9) hx hb hK hP hD hS 3 0 rfl rfl hy9 (Nat.le_of_ble_eq_true rfl) dX2_median_75 (fun H locs hP hD hS => ?_)
                  have hP : va_P D vwCl [(m0, .inr (2, [.int th, .int (nI n), .int rg, .int st, .ref bV, .ref bW, .ref bR, .ref bP9, .ref bK, .ref bT, .ref bC])), (bV, .inl (cA, 12, .inl fV)), (bK, .inl (cA, 12, .inl fK)), (bC, .inl (cA, 41, .inl (upd g y9 ((g y9) + 1))))] H := hP
                  have hD : va_D A [(m0, .inr (2, [.int th, .int (nI n), .int rg, .int st, .ref bV, .ref bW, .ref bR, .ref bP9, .ref bK, .ref bT, .ref bC])), (bV, .inl (cA, 12, .inl fV)), (bK, .inl (cA, 12, .inl fK)), (bC, .inl (cA, 41, .inl (upd g y9 ((g y9) + 1))))] := hD
                  refine lv_iinc (v := nI (c9 + 1)) (lv' := [(3, .int (nI (c9 + 1))), (4, .int (nI i)), (0, .ref m0), (1, .int off), (2, .int but)]) hx hb dX2_median_76 hl (k := 1) rfl (nI_1 _) (by decide) rfl (fun ls hl => ?_)
                  refine lv_iinc (v := nI (i + 1)) (lv' := [(4, .int (nI (i + 1))), (3, .int (nI (c9 + 1))), (0, .ref m0), (1, .int off), (2, .int but)]) hx hb dX2_median_79 hl (k := 1) rfl (nI_1 _) (by decide) rfl (fun ls hl => ?_)
                  refine lv_goto (tgt := 26) hx hb dX2_median_82 (by decide) ?_
                  exact ih26 (i + 1) (c9 + 1) (upd g y9 ((g y9) + 1)) (by omega) (by omega) (by rw [tot_s, if_pos (selM_t c_38 (Or.inl c_43)), hc]) (cnt_put hC (selM_t c_38 (Or.inl c_43)) hy9 ey9) _ _ (hP.sub [0, 1, 2, 3] rfl) (hD.sub [0, 1, 2, 3] (by decide) rfl) hS ls (lv_sub hl [0, 1, 2, 3, 4] rfl)
                · skip
                  refine lv_aload_n hx hb dX2_median_46 rfl (lv_at hl 2 rfl) ?_
                  refine va_get (D := D) (ci := 2) (v := .ref bV) (C := RX2) (T := TX2) (N := 11) hx hb hts uX2_X2_median hown hK hP 0 rfl rfl 4 (by decide) (hts (.fieldLink RX2 13 "RopeChoicesModel" "village" "[I") (List.mem_of_getElem? (i := 3) rfl)) (fun _ h9 => h9) rfl dX2_median_47 ?_
                  refine lv_iload hx hb dX2_median_50 (lv_at hl 0 rfl) ?_
                  refine a_ld (k := i) hx hb hK hP 1 0 rfl rfl (by omega) (Nat.le_of_ble_eq_true rfl) dX2_median_52 ?_
                  refine lv_iload_n hx hb dX2_median_53 rfl (lv_at hl 3 rfl) ?_
                  refine lv_icmp_eq (tgt := 60) hx hb dX2_median_54 (by decide) (fun c_54 => ?_) (fun c_54 => ?_)
                  · skip
                    refine lv_aload_n hx hb dX2_median_60 rfl (lv_at hl 2 rfl) ?_
                    refine va_get (D := D) (ci := 2) (v := .ref bC) (C := RX2) (T := TX2) (N := 11) hx hb hts uX2_X2_median hown hK hP 0 rfl rfl 10 (by decide) (hts (.fieldLink RX2 32 "RopeChoicesModel" "count" "[I") (List.mem_of_getElem? (i := 1) rfl)) (fun _ h9 => h9) rfl dX2_median_61 ?_
                    refine lv_aload_n hx hb dX2_median_64 rfl (lv_at hl 2 rfl) ?_
                    refine va_get (D := D) (ci := 2) (v := .ref bK) (C := RX2) (T := TX2) (N := 11) hx hb hts uX2_X2_median hown hK hP 0 rfl rfl 8 (by decide) (hts (.fieldLink RX2 26 "RopeChoicesModel" "plank" "[I") (List.mem_of_getElem? (i := 4) rfl)) (fun _ h9 => h9) rfl dX2_median_65 ?_
                    refine lv_iload hx hb dX2_median_68 (lv_at hl 0 rfl) ?_
                    refine a_ld (k := i) hx hb hK hP 2 0 rfl rfl (by omega) (Nat.le_of_ble_eq_true rfl) dX2_median_70 ?_
                    obtain ⟨y9, hy9, ey9⟩ := hI i (by omega)
                    refine topi (nI y9) ey9 ?_
                    refine lv_dup2_11 hx hb dX2_median_71 rfl rfl ?_
                    refine a_ld (k := y9) hx hb hK hP 3 0 rfl rfl hy9 (Nat.le_of_ble_eq_true rfl) dX2_median_72 ?_
                    refine lv_iconst (v := 1) hx hb dX2_median_73 (by decide) ?_
                    refine lv_iadd hx hb dX2_median_74 ?_
                    refine a_st (k := y9) hx hb hK hP hD hS 3 0 rfl rfl hy9 (Nat.le_of_ble_eq_true rfl) dX2_median_75 (fun H locs hP hD hS => ?_)
                    have hP : va_P D vwCl [(m0, .inr (2, [.int th, .int (nI n), .int rg, .int st, .ref bV, .ref bW, .ref bR, .ref bP9, .ref bK, .ref bT, .ref bC])), (bV, .inl (cA, 12, .inl fV)), (bK, .inl (cA, 12, .inl fK)), (bC, .inl (cA, 41, .inl (upd g y9 ((g y9) + 1))))] H := hP
                    have hD : va_D A [(m0, .inr (2, [.int th, .int (nI n), .int rg, .int st, .ref bV, .ref bW, .ref bR, .ref bP9, .ref bK, .ref bT, .ref bC])), (bV, .inl (cA, 12, .inl fV)), (bK, .inl (cA, 12, .inl fK)), (bC, .inl (cA, 41, .inl (upd g y9 ((g y9) + 1))))] := hD
                    refine lv_iinc (v := nI (c9 + 1)) (lv' := [(3, .int (nI (c9 + 1))), (4, .int (nI i)), (0, .ref m0), (1, .int off), (2, .int but)]) hx hb dX2_median_76 hl (k := 1) rfl (nI_1 _) (by decide) rfl (fun ls hl => ?_)
                    refine lv_iinc (v := nI (i + 1)) (lv' := [(4, .int (nI (i + 1))), (3, .int (nI (c9 + 1))), (0, .ref m0), (1, .int off), (2, .int but)]) hx hb dX2_median_79 hl (k := 1) rfl (nI_1 _) (by decide) rfl (fun ls hl => ?_)
                    refine lv_goto (tgt := 26) hx hb dX2_median_82 (by decide) ?_
                    exact ih26 (i + 1) (c9 + 1) (upd g y9 ((g y9) + 1)) (by omega) (by omega) (by rw [tot_s, if_pos (selM_t c_38 (Or.inr c_54)), hc]) (cnt_put hC (selM_t c_38 (Or.inr c_54)) hy9 ey9) _ _ (hP.sub [0, 1, 2, 3] rfl) (hD.sub [0, 1, 2, 3] (by decide) rfl) hS ls (lv_sub hl [0, 1, 2, 3, 4] rfl)
                  · skip
                    refine lv_goto (tgt := 79) hx hb dX2_median_57 (by decide) ?_
                    refine lv_iinc (v := nI (i + 1)) (lv' := [(4, .int (nI (i + 1))), (3, .int (nI c9)), (0, .ref m0), (1, .int off), (2, .int but)]) hx hb dX2_median_79 hl (k := 0) rfl (nI_1 _) (by decide) rfl (fun ls hl => ?_)
                    refine lv_goto (tgt := 26) hx hb dX2_median_82 (by decide) ?_
                    exact ih26 (i + 1) c9 g (by omega) (by omega) (by rw [tot_s, if_neg (selM_f2 c_43 c_54)]; exact hc) (cnt_skip hC (selM_f2 c_43 c_54)) _ _ (hP.sub [0, 1, 2, 3] rfl) (hD.sub [0, 1, 2, 3] (by decide) rfl) hS ls (lv_sub hl [0, 1, 2, 3, 4] rfl)
        exact loop26 (n + 1) 0 0 g (by omega) (Nat.zero_le _) rfl (fun q9 h9 => hg q9 (by omega)) _ _ (hP.sub [0, 1, 2, 3] rfl) (hD.sub [0, 1, 2, 3] (by decide) rfl) hS ls (lv_sub hl [0, 1, 2, 3, 4] rfl)
      · skip
        have g_5 : q < 41 := nf_ge_f (by omega) (by omega) c_5
        refine lv_aload_n hx hb dX2_median_8 rfl (lv_at hl 1 rfl) ?_
        refine va_get (D := D) (ci := 2) (v := .ref bC) (C := RX2) (T := TX2) (N := 11) hx hb hts uX2_X2_median hown hK hP 0 rfl rfl 10 (by decide) (hts (.fieldLink RX2 32 "RopeChoicesModel" "count" "[I") (List.mem_of_getElem? (i := 1) rfl)) (fun _ h9 => h9) rfl dX2_median_9 ?_
        refine lv_iload_n hx hb dX2_median_12 rfl (lv_at hl 0 rfl) ?_
        refine lv_iconst (v := 0) hx hb dX2_median_13 (by decide) ?_
        refine a_st (k := q) hx hb hK hP hD hS 3 0 rfl rfl (by omega) (Nat.le_of_ble_eq_true rfl) dX2_median_14 (fun H locs hP hD hS => ?_)
        have hP : va_P D vwCl [(m0, .inr (2, [.int th, .int (nI n), .int rg, .int st, .ref bV, .ref bW, .ref bR, .ref bP9, .ref bK, .ref bT, .ref bC])), (bV, .inl (cA, 12, .inl fV)), (bK, .inl (cA, 12, .inl fK)), (bC, .inl (cA, 41, .inl (upd g q 0)))] H := hP
        have hD : va_D A [(m0, .inr (2, [.int th, .int (nI n), .int rg, .int st, .ref bV, .ref bW, .ref bR, .ref bP9, .ref bK, .ref bT, .ref bC])), (bV, .inl (cA, 12, .inl fV)), (bK, .inl (cA, 12, .inl fK)), (bC, .inl (cA, 41, .inl (upd g q 0)))] := hD
        refine lv_iinc (v := nI (q + 1)) (lv' := [(3, .int (nI (q + 1))), (0, .ref m0), (1, .int off), (2, .int but)]) hx hb dX2_median_15 hl (k := 0) rfl (nI_1 _) (by decide) rfl (fun ls hl => ?_)
        refine lv_goto (tgt := 2) hx hb dX2_median_18 (by decide) ?_
        exact ih2 (q + 1) (upd g q 0) (by omega) (by omega) (fun i a => if h : i = q then h ▸ pk_us else (pk_un h).trans (hg i (by omega))) _ _ (hP.sub [0, 1, 2, 3] rfl) (hD.sub [0, 1, 2, 3] (by decide) rfl) hS ls (lv_sub hl [0, 1, 2, 3] rfl)
  exact loop2 (42) 0 fC (by omega) (Nat.zero_le _) (fun i a => absurd a (Nat.not_lt_zero _)) _ _ (hP.sub [0, 1, 2, 3] rfl) (hD.sub [0, 1, 2, 3] (by decide) rfl) hS ls (lv_sub hl [0, 1, 2, 3] rfl)
set_option maxHeartbeats 4000000 in
set_option maxRecDepth 100000 in
theorem c_X2_middle (l : Launch) (D : va_G) (cA : ClassId) (m0 : Nat) (th : Int32) (n : Nat) (rg : Int32) (st : Int32) (bV : Nat) (bW : Nat) (bR : Nat) (bP9 : Nat) (bK : Nat) (bT : Nat) (bC : Nat) (fV : Nat → Int32) (fK : Nat → Int32) (fC : Nat → Int32) (hn : n ≤ 12) (hI : ∀ i, i < n → okD 41 (fK i)) (sz : Nat) : Met l yX2_middle wsX2_middle ({ frames := 1, cells := 0, slots := 0, locals := 25 } : Room) (va_Pc [.ref m0] (Wd D [(cA, .int)] [(m0, .inr (2, [.int th, .int (nI n), .int rg, .int st, .ref bV, .ref bW, .ref bR, .ref bP9, .ref bK, .ref bT, .ref bC])), (bV, .inl (cA, 12, .inl fV)), (bK, .inl (cA, 12, .inl fK)), (bC, .inl (cA, 41, .inl fC))] sz)) (va_Qi (fun (r : Int32) (u : Nat → Int32) => r = midM fK n) (fun (u : Nat → Int32) t => We D [(cA, .int)] [(m0, .inr (2, [.int th, .int (nI n), .int rg, .int st, .ref bV, .ref bW, .ref bR, .ref bP9, .ref bK, .ref bT, .ref bC])), (bV, .inl (cA, 12, .inl fV)), (bK, .inl (cA, 12, .inl fK)), (bC, .inl (cA, 41, .inl u))] (va_A [(m0, .inr (2, [.int th, .int (nI n), .int rg, .int st, .ref bV, .ref bW, .ref bR, .ref bP9, .ref bK, .ref bT, .ref bC])), (bV, .inl (cA, 12, .inl fV)), (bK, .inl (cA, 12, .inl fK)), (bC, .inl (cA, 41, .inl fC))] sz) t) (va_A [(m0, .inr (2, [.int th, .int (nI n), .int rg, .int st, .ref bV, .ref bW, .ref bR, .ref bP9, .ref bK, .ref bT, .ref bC])), (bV, .inl (cA, 12, .inl fV)), (bK, .inl (cA, 12, .inl fK)), (bC, .inl (cA, 41, .inl fC))] sz)) 0 0 (va_A [(m0, .inr (2, [.int th, .int (nI n), .int rg, .int st, .ref bV, .ref bW, .ref bR, .ref bP9, .ref bK, .ref bT, .ref bC])), (bV, .inl (cA, 12, .inl fV)), (bK, .inl (cA, 12, .inl fK)), (bC, .inl (cA, 41, .inl fC))] sz) := by
  refine mk_met [.ref m0] (fun A => va_Qi (fun (r : Int32) (u : Nat → Int32) => r = midM fK n) (fun (u : Nat → Int32) t => We D [(cA, .int)] [(m0, .inr (2, [.int th, .int (nI n), .int rg, .int st, .ref bV, .ref bW, .ref bR, .ref bP9, .ref bK, .ref bT, .ref bC])), (bV, .inl (cA, 12, .inl fV)), (bK, .inl (cA, 12, .inl fK)), (bC, .inl (cA, 41, .inl u))] A t) A) (by decide) rfl (Nat.le_of_ble_eq_true rfl) ?_
  intro p e s m args below meth c A ls F hr hlocks hname hP hK hD hA hl
  have hx := F.1
  have hb := F.2.1
  have hml := F.2.2.1
  have hown := F.2.2.2.1
  have hts := F.2.2.2.2
  have hS : va_S A s.heap s.heap [] := va_S.rf
  have hl : lv_has ls 1 [(0, .ref m0)] := hl
  refine absQ (fun Q hQ => ?_)
  refine lv_aload_n hx hb dX2_middle_0 rfl (lv_at hl 0 rfl) ?_
  refine lv_iconst (v := (-1)) hx hb dX2_middle_1 (by decide) ?_
  refine lv_iconst (v := (-1)) hx hb dX2_middle_2 (by decide) ?_
  have hX_1 : Cut D A [(m0, .inr (2, [.int th, .int (nI n), .int rg, .int st, .ref bV, .ref bW, .ref bR, .ref bP9, .ref bK, .ref bT, .ref bC])), (bV, .inl (cA, 12, .inl fV)), (bK, .inl (cA, 12, .inl fK)), (bC, .inl (cA, 41, .inl fC))] [(m0, .inr (2, [.int th, .int (nI n), .int rg, .int st, .ref bV, .ref bW, .ref bR, .ref bP9, .ref bK, .ref bT, .ref bC])), (bV, .inl (cA, 12, .inl fV)), (bK, .inl (cA, 12, .inl fK)), (bC, .inl (cA, 41, .inl fC))] [] [(cA, .int)] [(cA, .int)] [0, 1, 2, 3] [] [0] := ⟨rfl, rfl, rfl, rfl, by decide, rfl⟩
  refine ki hX_1 hP hD hS hA (kRunV (q := (RX2, TX2, 11)) (As := [.int (-1), .int (-1)]) (rest := []) F (c_X2_median l D cA m0 th n rg st bV bW bR bP9 bK bT bC fV fK fC (-1) (-1) hn hI s.heap.size) (cwV 2 hts gX2_middle_X2_median rfl rfl rfl (by decide +kernel) ⟨Nat.le_of_ble_eq_true rfl, Nat.le_of_ble_eq_true rfl⟩) hK hP hD hX_1 0 rfl rfl rfl hl.1 rfl (Nat.le_of_ble_eq_true rfl) dX2_middle_3 ⟨Nat.le_of_ble_eq_true rfl, Nat.le_of_ble_eq_true rfl⟩) (fun r_2 u_3 H locs hw_4 hP hD hS => ?_)
  have hw_4 : r_2 = medM fK (selM fV (-1) (-1)) n := hw_4
  rw [hw_4]
  have hP : va_P D vwCl [(m0, .inr (2, [.int th, .int (nI n), .int rg, .int st, .ref bV, .ref bW, .ref bR, .ref bP9, .ref bK, .ref bT, .ref bC])), (bV, .inl (cA, 12, .inl fV)), (bK, .inl (cA, 12, .inl fK)), (bC, .inl (cA, 41, .inl u_3))] H := hP
  have hD : va_D A [(m0, .inr (2, [.int th, .int (nI n), .int rg, .int st, .ref bV, .ref bW, .ref bR, .ref bP9, .ref bK, .ref bT, .ref bC])), (bV, .inl (cA, 12, .inl fV)), (bK, .inl (cA, 12, .inl fK)), (bC, .inl (cA, 41, .inl u_3))] := hD
  refine useQ hQ ?_
  exact e_i (v := medM fK (selM fV (-1) (-1)) n) F hr hlocks hK hP hD hS [0, 1, 2, 3] [0] u_3 (medM_all hn) rfl rfl rfl (Nat.le_of_ble_eq_true rfl) (Nat.le_of_ble_eq_true rfl) dX2_middle_6
theorem uX2_X2_step : ∀ w ∈ u_ws RX2 TX2 11, w ∈ wsX2_step := (fun _ h => List.mem_cons_of_mem _ (List.mem_append_right _ h))
set_option maxHeartbeats 4000000 in
set_option maxRecDepth 100000 in
theorem c_X2_step (l : Launch) (D : va_G) (cA : ClassId) (m0 : Nat) (th : Int32) (n : Nat) (rg : Int32) (st : Int32) (bV : Nat) (bW : Nat) (bR : Nat) (bP9 : Nat) (bK : Nat) (bT : Nat) (bC : Nat) (fW : Nat → Int32) (fR : Nat → Int32) (fP : Nat → Int32) (fK : Nat → Int32) (j : Nat) (mid : Int32) (hn : n ≤ 12) (hj : j < n) (hI : Inv fW fR fP fK n) (hto : okD 41 mid) (sz : Nat) : Met l yX2_step wsX2_step ({ frames := 1, cells := 0, slots := 0, locals := 30 } : Room) (va_Pc [.ref m0, .int (nI j), .int mid] (Wd D [(cA, .int)] [(m0, .inr (2, [.int th, .int (nI n), .int rg, .int st, .ref bV, .ref bW, .ref bR, .ref bP9, .ref bK, .ref bT, .ref bC])), (bW, .inl (cA, 12, .inl fW)), (bR, .inl (cA, 12, .inl fR)), (bP9, .inl (cA, 12, .inl fP)), (bK, .inl (cA, 12, .inl fK))] sz)) (va_Qi (fun (r : Int32) (_ : Unit) => r = stepC (fW j) (fR j) (fP j) (fK j) mid) (fun (_ : Unit) t => We D [(cA, .int)] [(m0, .inr (2, [.int th, .int (nI n), .int rg, .int st, .ref bV, .ref bW, .ref bR, .ref bP9, .ref bK, .ref bT, .ref bC])), (bW, .inl (cA, 12, .inl fW)), (bR, .inl (cA, 12, .inl fR)), (bP9, .inl (cA, 12, .inl fP)), (bK, .inl (cA, 12, .inl fK))] (va_A [(m0, .inr (2, [.int th, .int (nI n), .int rg, .int st, .ref bV, .ref bW, .ref bR, .ref bP9, .ref bK, .ref bT, .ref bC])), (bW, .inl (cA, 12, .inl fW)), (bR, .inl (cA, 12, .inl fR)), (bP9, .inl (cA, 12, .inl fP)), (bK, .inl (cA, 12, .inl fK))] sz) t) (va_A [(m0, .inr (2, [.int th, .int (nI n), .int rg, .int st, .ref bV, .ref bW, .ref bR, .ref bP9, .ref bK, .ref bT, .ref bC])), (bW, .inl (cA, 12, .inl fW)), (bR, .inl (cA, 12, .inl fR)), (bP9, .inl (cA, 12, .inl fP)), (bK, .inl (cA, 12, .inl fK))] sz)) 0 0 (va_A [(m0, .inr (2, [.int th, .int (nI n), .int rg, .int st, .ref bV, .ref bW, .ref bR, .ref bP9, .ref bK, .ref bT, .ref bC])), (bW, .inl (cA, 12, .inl fW)), (bR, .inl (cA, 12, .inl fR)), (bP9, .inl (cA, 12, .inl fP)), (bK, .inl (cA, 12, .inl fK))] sz) := by
  refine mk_met [.ref m0, .int (nI j), .int mid] (fun A => va_Qi (fun (r : Int32) (_ : Unit) => r = stepC (fW j) (fR j) (fP j) (fK j) mid) (fun (_ : Unit) t => We D [(cA, .int)] [(m0, .inr (2, [.int th, .int (nI n), .int rg, .int st, .ref bV, .ref bW, .ref bR, .ref bP9, .ref bK, .ref bT, .ref bC])), (bW, .inl (cA, 12, .inl fW)), (bR, .inl (cA, 12, .inl fR)), (bP9, .inl (cA, 12, .inl fP)), (bK, .inl (cA, 12, .inl fK))] A t) A) (by decide) rfl (Nat.le_of_ble_eq_true rfl) ?_
  intro p e s m args below meth c A ls F hr hlocks hname hP hK hD hA hl
  have hx := F.1
  have hb := F.2.1
  have hml := F.2.2.1
  have hown := F.2.2.2.1
  have hts := F.2.2.2.2
  have hS : va_S A s.heap s.heap [] := va_S.rf
  have hl : lv_has ls 4 [(0, .ref m0), (1, .int (nI j)), (2, .int mid)] := hl
  refine absQ (fun Q hQ => ?_)
  refine lv_aload_n hx hb dX2_step_0 rfl (lv_at hl 0 rfl) ?_
  refine va_get (D := D) (ci := 2) (v := .ref bW) (C := RX2) (T := TX2) (N := 11) hx hb hts uX2_X2_step hown hK hP 0 rfl rfl 5 (by decide) (hts (.fieldLink RX2 17 "RopeChoicesModel" "wish" "[I") (List.mem_of_getElem? (i := 1) rfl)) (fun _ h9 => h9) rfl dX2_step_1 ?_
  refine lv_iload_n hx hb dX2_step_4 rfl (lv_at hl 1 rfl) ?_
  refine a_ld (k := j) hx hb hK hP 1 0 rfl rfl (by omega) (Nat.le_of_ble_eq_true rfl) dX2_step_5 ?_
  refine lv_aload_n hx hb dX2_step_6 rfl (lv_at hl 0 rfl) ?_
  refine va_get (D := D) (ci := 2) (v := .ref bR) (C := RX2) (T := TX2) (N := 11) hx hb hts uX2_X2_step hown hK hP 0 rfl rfl 6 (by decide) (hts (.fieldLink RX2 20 "RopeChoicesModel" "reach" "[I") (List.mem_of_getElem? (i := 2) rfl)) (fun _ h9 => h9) rfl dX2_step_7 ?_
  refine lv_iload_n hx hb dX2_step_10 rfl (lv_at hl 1 rfl) ?_
  refine a_ld (k := j) hx hb hK hP 2 0 rfl rfl (by omega) (Nat.le_of_ble_eq_true rfl) dX2_step_11 ?_
  refine lv_isub hx hb dX2_step_12 ?_
  refine lv_aload_n hx hb dX2_step_13 rfl (lv_at hl 0 rfl) ?_
  refine va_get (D := D) (ci := 2) (v := .ref bW) (C := RX2) (T := TX2) (N := 11) hx hb hts uX2_X2_step hown hK hP 0 rfl rfl 5 (by decide) (hts (.fieldLink RX2 17 "RopeChoicesModel" "wish" "[I") (List.mem_of_getElem? (i := 1) rfl)) (fun _ h9 => h9) rfl dX2_step_14 ?_
  refine lv_iload_n hx hb dX2_step_17 rfl (lv_at hl 1 rfl) ?_
  refine a_ld (k := j) hx hb hK hP 1 0 rfl rfl (by omega) (Nat.le_of_ble_eq_true rfl) dX2_step_18 ?_
  refine lv_aload_n hx hb dX2_step_19 rfl (lv_at hl 0 rfl) ?_
  refine va_get (D := D) (ci := 2) (v := .ref bR) (C := RX2) (T := TX2) (N := 11) hx hb hts uX2_X2_step hown hK hP 0 rfl rfl 6 (by decide) (hts (.fieldLink RX2 20 "RopeChoicesModel" "reach" "[I") (List.mem_of_getElem? (i := 2) rfl)) (fun _ h9 => h9) rfl dX2_step_20 ?_
  refine lv_iload_n hx hb dX2_step_23 rfl (lv_at hl 1 rfl) ?_
  refine a_ld (k := j) hx hb hK hP 2 0 rfl rfl (by omega) (Nat.le_of_ble_eq_true rfl) dX2_step_24 ?_
  refine lv_iadd hx hb dX2_step_25 ?_
  refine lv_iload_n hx hb dX2_step_26 rfl (lv_at hl 2 rfl) ?_
  refine va_mmin hx hb (hml.trans hl.1.symm) hown (hts (.methodLink RX2 64 Lib.Math.min.name) (List.mem_of_getElem? (i := 3) rfl)) (hts (.static Lib.Math.min.name) (List.mem_of_getElem? (i := 4) rfl)) (hts (.initialized "java/lang/Math") (List.mem_of_getElem? (i := 5) rfl)) (hts (.code Lib.Math.min.name Lib.Math.min.code 2 (some .int)) (List.mem_of_getElem? (i := 6) rfl)) (Nat.le_of_ble_eq_true rfl) (Nat.le_of_ble_eq_true rfl) (Nat.le_of_ble_eq_true rfl) (Nat.le_of_ble_eq_true rfl) dX2_step_27 ?_
  refine topi (jmin ((fW j) + (fR j)) mid) rfl ?_
  refine va_mmax hx hb (hml.trans hl.1.symm) hown (hts (.methodLink RX2 67 Lib.Math.max.name) (List.mem_of_getElem? (i := 7) rfl)) (hts (.static Lib.Math.max.name) (List.mem_of_getElem? (i := 8) rfl)) (hts (.initialized "java/lang/Math") (List.mem_of_getElem? (i := 5) rfl)) (hts (.code Lib.Math.max.name Lib.Math.max.code 2 (some .int)) (List.mem_of_getElem? (i := 9) rfl)) (Nat.le_of_ble_eq_true rfl) (Nat.le_of_ble_eq_true rfl) (Nat.le_of_ble_eq_true rfl) (Nat.le_of_ble_eq_true rfl) dX2_step_30 ?_
  refine topi (jmax ((fW j) - (fR j)) (jmin ((fW j) + (fR j)) mid)) rfl ?_
  refine lv_istore_n (lv' := [(3, .int (jmax ((fW j) - (fR j)) (jmin ((fW j) + (fR j)) mid))), (0, .ref m0), (1, .int (nI j)), (2, .int mid)]) hx hb dX2_step_33 rfl hl (by decide) rfl (fun ls hl => ?_)
  refine lv_aload_n hx hb dX2_step_34 rfl (lv_at hl 1 rfl) ?_
  refine va_get (D := D) (ci := 2) (v := .ref bK) (C := RX2) (T := TX2) (N := 11) hx hb hts uX2_X2_step hown hK hP 0 rfl rfl 8 (by decide) (hts (.fieldLink RX2 26 "RopeChoicesModel" "plank" "[I") (List.mem_of_getElem? (i := 10) rfl)) (fun _ h9 => h9) rfl dX2_step_35 ?_
  refine lv_iload_n hx hb dX2_step_38 rfl (lv_at hl 2 rfl) ?_
  refine a_ld (k := j) hx hb hK hP 4 0 rfl rfl (by omega) (Nat.le_of_ble_eq_true rfl) dX2_step_39 ?_
  refine lv_aload_n hx hb dX2_step_40 rfl (lv_at hl 1 rfl) ?_
  refine va_get (D := D) (ci := 2) (v := .ref bP9) (C := RX2) (T := TX2) (N := 11) hx hb hts uX2_X2_step hown hK hP 0 rfl rfl 7 (by decide) (hts (.fieldLink RX2 23 "RopeChoicesModel" "pace" "[I") (List.mem_of_getElem? (i := 11) rfl)) (fun _ h9 => h9) rfl dX2_step_41 ?_
  refine lv_iload_n hx hb dX2_step_44 rfl (lv_at hl 2 rfl) ?_
  refine a_ld (k := j) hx hb hK hP 3 0 rfl rfl (by omega) (Nat.le_of_ble_eq_true rfl) dX2_step_45 ?_
  refine lv_ineg hx hb dX2_step_46 ?_
  refine lv_aload_n hx hb dX2_step_47 rfl (lv_at hl 1 rfl) ?_
  refine va_get (D := D) (ci := 2) (v := .ref bP9) (C := RX2) (T := TX2) (N := 11) hx hb hts uX2_X2_step hown hK hP 0 rfl rfl 7 (by decide) (hts (.fieldLink RX2 23 "RopeChoicesModel" "pace" "[I") (List.mem_of_getElem? (i := 11) rfl)) (fun _ h9 => h9) rfl dX2_step_48 ?_
  refine lv_iload_n hx hb dX2_step_51 rfl (lv_at hl 2 rfl) ?_
  refine a_ld (k := j) hx hb hK hP 3 0 rfl rfl (by omega) (Nat.le_of_ble_eq_true rfl) dX2_step_52 ?_
  refine lv_iload_n hx hb dX2_step_53 rfl (lv_at hl 0 rfl) ?_
  refine lv_aload_n hx hb dX2_step_54 rfl (lv_at hl 1 rfl) ?_
  refine va_get (D := D) (ci := 2) (v := .ref bK) (C := RX2) (T := TX2) (N := 11) hx hb hts uX2_X2_step hown hK hP 0 rfl rfl 8 (by decide) (hts (.fieldLink RX2 26 "RopeChoicesModel" "plank" "[I") (List.mem_of_getElem? (i := 10) rfl)) (fun _ h9 => h9) rfl dX2_step_55 ?_
  refine lv_iload_n hx hb dX2_step_58 rfl (lv_at hl 2 rfl) ?_
  refine a_ld (k := j) hx hb hK hP 4 0 rfl rfl (by omega) (Nat.le_of_ble_eq_true rfl) dX2_step_59 ?_
  refine lv_isub hx hb dX2_step_60 ?_
  refine va_mmin hx hb (hml.trans hl.1.symm) hown (hts (.methodLink RX2 64 Lib.Math.min.name) (List.mem_of_getElem? (i := 3) rfl)) (hts (.static Lib.Math.min.name) (List.mem_of_getElem? (i := 4) rfl)) (hts (.initialized "java/lang/Math") (List.mem_of_getElem? (i := 5) rfl)) (hts (.code Lib.Math.min.name Lib.Math.min.code 2 (some .int)) (List.mem_of_getElem? (i := 6) rfl)) (Nat.le_of_ble_eq_true rfl) (Nat.le_of_ble_eq_true rfl) (Nat.le_of_ble_eq_true rfl) (Nat.le_of_ble_eq_true rfl) dX2_step_61 ?_
  refine topi (jmin (fP j) ((jmax ((fW j) - (fR j)) (jmin ((fW j) + (fR j)) mid)) - (fK j))) rfl ?_
  refine va_mmax hx hb (hml.trans hl.1.symm) hown (hts (.methodLink RX2 67 Lib.Math.max.name) (List.mem_of_getElem? (i := 7) rfl)) (hts (.static Lib.Math.max.name) (List.mem_of_getElem? (i := 8) rfl)) (hts (.initialized "java/lang/Math") (List.mem_of_getElem? (i := 5) rfl)) (hts (.code Lib.Math.max.name Lib.Math.max.code 2 (some .int)) (List.mem_of_getElem? (i := 9) rfl)) (Nat.le_of_ble_eq_true rfl) (Nat.le_of_ble_eq_true rfl) (Nat.le_of_ble_eq_true rfl) (Nat.le_of_ble_eq_true rfl) dX2_step_64 ?_
  refine topi (jmax (-(fP j)) (jmin (fP j) ((jmax ((fW j) - (fR j)) (jmin ((fW j) + (fR j)) mid)) - (fK j)))) rfl ?_
  refine lv_iadd hx hb dX2_step_67 ?_
  refine useQ hQ ?_
  exact e_i (v := ((fK j) + (jmax (-(fP j)) (jmin (fP j) ((jmax ((fW j) - (fR j)) (jmin ((fW j) + (fR j)) mid)) - (fK j)))))) F hr hlocks hK hP hD hS [0, 1, 2, 3, 4] [0] () ((step_eq (hI j hj).1 (hI j hj).2.1 (hI j hj).2.2.1 (hI j hj).2.2.2 hto).1) rfl rfl rfl (Nat.le_of_ble_eq_true rfl) (Nat.le_of_ble_eq_true rfl) dX2_step_68
theorem uX2_X2_roundOn : ∀ w ∈ u_ws RX2 TX2 11, w ∈ wsX2_roundOn := (fun _ h => List.mem_cons_of_mem _ (List.mem_append_right _ h))
set_option maxHeartbeats 4000000 in
set_option maxRecDepth 100000 in
theorem c_X2_roundOn (l : Launch) (D : va_G) (cA : ClassId) (m0 : Nat) (th : Int32) (n : Nat) (rg : Int32) (st : Int32) (bV : Nat) (bW : Nat) (bR : Nat) (bP9 : Nat) (bK : Nat) (bT : Nat) (bC : Nat) (fV : Nat → Int32) (fW : Nat → Int32) (fR : Nat → Int32) (fP : Nat → Int32) (fK : Nat → Int32) (fC : Nat → Int32) (hn : n ≤ 12) (hI : Inv fW fR fP fK n) (sz : Nat) : Met l yX2_roundOn wsX2_roundOn ({ frames := 2, cells := 0, slots := 0, locals := 53 } : Room) (va_Pc [.ref m0] (Wd D [(cA, .int)] [(m0, .inr (2, [.int th, .int (nI n), .int rg, .int st, .ref bV, .ref bW, .ref bR, .ref bP9, .ref bK, .ref bT, .ref bC])), (bV, .inl (cA, 12, .inl fV)), (bW, .inl (cA, 12, .inl fW)), (bR, .inl (cA, 12, .inl fR)), (bP9, .inl (cA, 12, .inl fP)), (bK, .inl (cA, 12, .inl fK)), (bC, .inl (cA, 41, .inl fC))] sz)) (va_Qi (fun (r : Int32) (u : Nat → Int32) => r = rndM fW fR fP n st fK) (fun (u : Nat → Int32) t => We D [(cA, .int)] [(m0, .inr (2, [.int th, .int (nI n), .int rg, .int st, .ref bV, .ref bW, .ref bR, .ref bP9, .ref bK, .ref bT, .ref bC])), (bV, .inl (cA, 12, .inl fV)), (bW, .inl (cA, 12, .inl fW)), (bR, .inl (cA, 12, .inl fR)), (bP9, .inl (cA, 12, .inl fP)), (bK, .inl (cA, 12, .inl (rndF fW fR fP n st fK))), (bC, .inl (cA, 41, .inl u))] (va_A [(m0, .inr (2, [.int th, .int (nI n), .int rg, .int st, .ref bV, .ref bW, .ref bR, .ref bP9, .ref bK, .ref bT, .ref bC])), (bV, .inl (cA, 12, .inl fV)), (bW, .inl (cA, 12, .inl fW)), (bR, .inl (cA, 12, .inl fR)), (bP9, .inl (cA, 12, .inl fP)), (bK, .inl (cA, 12, .inl fK)), (bC, .inl (cA, 41, .inl fC))] sz) t) (va_A [(m0, .inr (2, [.int th, .int (nI n), .int rg, .int st, .ref bV, .ref bW, .ref bR, .ref bP9, .ref bK, .ref bT, .ref bC])), (bV, .inl (cA, 12, .inl fV)), (bW, .inl (cA, 12, .inl fW)), (bR, .inl (cA, 12, .inl fR)), (bP9, .inl (cA, 12, .inl fP)), (bK, .inl (cA, 12, .inl fK)), (bC, .inl (cA, 41, .inl fC))] sz)) 0 0 (va_A [(m0, .inr (2, [.int th, .int (nI n), .int rg, .int st, .ref bV, .ref bW, .ref bR, .ref bP9, .ref bK, .ref bT, .ref bC])), (bV, .inl (cA, 12, .inl fV)), (bW, .inl (cA, 12, .inl fW)), (bR, .inl (cA, 12, .inl fR)), (bP9, .inl (cA, 12, .inl fP)), (bK, .inl (cA, 12, .inl fK)), (bC, .inl (cA, 41, .inl fC))] sz) := by
  refine mk_met [.ref m0] (fun A => va_Qi (fun (r : Int32) (u : Nat → Int32) => r = rndM fW fR fP n st fK) (fun (u : Nat → Int32) t => We D [(cA, .int)] [(m0, .inr (2, [.int th, .int (nI n), .int rg, .int st, .ref bV, .ref bW, .ref bR, .ref bP9, .ref bK, .ref bT, .ref bC])), (bV, .inl (cA, 12, .inl fV)), (bW, .inl (cA, 12, .inl fW)), (bR, .inl (cA, 12, .inl fR)), (bP9, .inl (cA, 12, .inl fP)), (bK, .inl (cA, 12, .inl (rndF fW fR fP n st fK))), (bC, .inl (cA, 41, .inl u))] A t) A) (by decide) rfl (Nat.le_of_ble_eq_true rfl) ?_
  intro p e s m args below meth c A ls F hr hlocks hname hP hK hD hA hl
  have hx := F.1
  have hb := F.2.1
  have hml := F.2.2.1
  have hown := F.2.2.2.1
  have hts := F.2.2.2.2
  have hS : va_S A s.heap s.heap [] := va_S.rf
  have hl : lv_has ls 5 [(0, .ref m0)] := hl
  refine absQ (fun Q hQ => ?_)
  refine lv_aload_n hx hb dX2_roundOn_0 rfl (lv_at hl 0 rfl) ?_
  have hX_1 : Cut D A [(m0, .inr (2, [.int th, .int (nI n), .int rg, .int st, .ref bV, .ref bW, .ref bR, .ref bP9, .ref bK, .ref bT, .ref bC])), (bV, .inl (cA, 12, .inl fV)), (bW, .inl (cA, 12, .inl fW)), (bR, .inl (cA, 12, .inl fR)), (bP9, .inl (cA, 12, .inl fP)), (bK, .inl (cA, 12, .inl fK)), (bC, .inl (cA, 41, .inl fC))] [(m0, .inr (2, [.int th, .int (nI n), .int rg, .int st, .ref bV, .ref bW, .ref bR, .ref bP9, .ref bK, .ref bT, .ref bC])), (bV, .inl (cA, 12, .inl fV)), (bK, .inl (cA, 12, .inl fK)), (bC, .inl (cA, 41, .inl fC))] [(bW, .inl (cA, 12, .inl fW)), (bR, .inl (cA, 12, .inl fR)), (bP9, .inl (cA, 12, .inl fP))] [(cA, .int)] [(cA, .int)] [0, 1, 5, 6] [2, 3, 4] [0] := ⟨rfl, rfl, rfl, rfl, by decide, rfl⟩
  refine ki hX_1 hP hD hS hA (kRunV (q := (RX2, TX2, 11)) (As := []) (rest := []) F (c_X2_middle l D cA m0 th n rg st bV bW bR bP9 bK bT bC fV fK fC hn hI.K s.heap.size) (cwV 0 hts gX2_roundOn_X2_middle rfl rfl rfl (by decide +kernel) ⟨Nat.le_of_ble_eq_true rfl, Nat.le_of_ble_eq_true rfl⟩) hK hP hD hX_1 0 rfl rfl rfl hl.1 rfl (Nat.le_of_ble_eq_true rfl) dX2_roundOn_1 ⟨Nat.le_of_ble_eq_true rfl, Nat.le_of_ble_eq_true rfl⟩) (fun r_2 u_3 H locs hw_4 hP hD hS => ?_)
  have hw_4 : r_2 = midM fK n := hw_4
  rw [hw_4]
  have hP : va_P D vwCl [(bW, .inl (cA, 12, .inl fW)), (bR, .inl (cA, 12, .inl fR)), (bP9, .inl (cA, 12, .inl fP)), (m0, .inr (2, [.int th, .int (nI n), .int rg, .int st, .ref bV, .ref bW, .ref bR, .ref bP9, .ref bK, .ref bT, .ref bC])), (bV, .inl (cA, 12, .inl fV)), (bK, .inl (cA, 12, .inl fK)), (bC, .inl (cA, 41, .inl u_3))] H := hP
  have hD : va_D A [(bW, .inl (cA, 12, .inl fW)), (bR, .inl (cA, 12, .inl fR)), (bP9, .inl (cA, 12, .inl fP)), (m0, .inr (2, [.int th, .int (nI n), .int rg, .int st, .ref bV, .ref bW, .ref bR, .ref bP9, .ref bK, .ref bT, .ref bC])), (bV, .inl (cA, 12, .inl fV)), (bK, .inl (cA, 12, .inl fK)), (bC, .inl (cA, 41, .inl u_3))] := hD
  refine lv_istore_n (lv' := [(1, .int (midM fK n)), (0, .ref m0)]) hx hb dX2_roundOn_4 rfl hl (by decide) rfl (fun ls hl => ?_)
  refine lv_iconst (v := 0) hx hb dX2_roundOn_5 (by decide) ?_
  refine lv_istore_n (lv' := [(2, .int 0), (1, .int (midM fK n)), (0, .ref m0)]) hx hb dX2_roundOn_6 rfl hl (by decide) rfl (fun ls hl => ?_)
  refine lv_iconst (v := 0) hx hb dX2_roundOn_7 (by decide) ?_
  refine lv_istore_n (lv' := [(3, .int 0), (2, .int 0), (1, .int (midM fK n)), (0, .ref m0)]) hx hb dX2_roundOn_8 rfl hl (by decide) rfl (fun ls hl => ?_)
  have loop9 : ∀ (k : Nat) (i : Nat) (v : Int32) (g : Nat → Int32), (n < i + k) → (i ≤ n) → ((g, v) = turns fW fR fP n st fK i) →  ∀ (H : Heap) (locs : List Loc), va_P D vwCl [(m0, .inr (2, [.int th, .int (nI n), .int rg, .int st, .ref bV, .ref bW, .ref bR, .ref bP9, .ref bK, .ref bT, .ref bC])), (bV, .inl (cA, 12, .inl fV)), (bW, .inl (cA, 12, .inl fW)), (bR, .inl (cA, 12, .inl fR)), (bP9, .inl (cA, 12, .inl fP)), (bK, .inl (cA, 12, .inl g)), (bC, .inl (cA, 41, .inl u_3))] H → va_D A [(m0, .inr (2, [.int th, .int (nI n), .int rg, .int st, .ref bV, .ref bW, .ref bR, .ref bP9, .ref bK, .ref bT, .ref bC])), (bV, .inl (cA, 12, .inl fV)), (bW, .inl (cA, 12, .inl fW)), (bR, .inl (cA, 12, .inl fR)), (bP9, .inl (cA, 12, .inl fP)), (bK, .inl (cA, 12, .inl g)), (bC, .inl (cA, 41, .inl u_3))] → va_S A s.heap H locs → ∀ ls : Array Slot, lv_has ls 5 [(3, .int (nI i)), (2, .int v), (1, .int (midM fK n)), (0, .ref m0)] → W p l e ({ frames := 2, cells := 0, slots := 0, locals := 53 } : Room) s m args below meth c H locs 0 0 Q (F0 m 9 ls []) := by
    intro k
    induction k with
    | zero =>
      intro i v g hk hi hT
      exact absurd hk (by omega)
    | succ k ih9 =>
      intro i v g hk hi hT H locs hP hD hS ls hl
      have hG : Inv fW fR fP g n := by
        have h9 := turn_ok (st := st) hI i hi
        rw [← hT] at h9
        exact h9
      refine lv_iload_n hx hb dX2_roundOn_9 rfl (lv_at hl 0 rfl) ?_
      refine lv_aload_n hx hb dX2_roundOn_10 rfl (lv_at hl 3 rfl) ?_
      refine va_get (D := D) (ci := 2) (v := .int (nI n)) (C := RX2) (T := TX2) (N := 11) hx hb hts uX2_X2_roundOn hown hK hP 0 rfl rfl 1 (by decide) (hts (.fieldLink RX2 38 "RopeChoicesModel" "many" "I") (List.mem_of_getElem? (i := 1) rfl)) (fun _ h9 => h9) rfl dX2_roundOn_11 ?_
      refine lv_icmp_ge (tgt := 65) hx hb dX2_roundOn_14 (by decide) (fun c_14 => ?_) (fun c_14 => ?_)
      · skip
        have g_14 : n ≤ i := nf_ge_t (by omega) (by omega) c_14
        rw [show i = n by omega] at hT
        have eq_5 : g = (rndF fW fR fP n st fK) := congrArg Prod.fst hT
        rw [eq_5] at hP hD
        have hP : va_P D vwCl [(m0, .inr (2, [.int th, .int (nI n), .int rg, .int st, .ref bV, .ref bW, .ref bR, .ref bP9, .ref bK, .ref bT, .ref bC])), (bV, .inl (cA, 12, .inl fV)), (bW, .inl (cA, 12, .inl fW)), (bR, .inl (cA, 12, .inl fR)), (bP9, .inl (cA, 12, .inl fP)), (bK, .inl (cA, 12, .inl (rndF fW fR fP n st fK))), (bC, .inl (cA, 41, .inl u_3))] H := hP
        have hD : va_D A [(m0, .inr (2, [.int th, .int (nI n), .int rg, .int st, .ref bV, .ref bW, .ref bR, .ref bP9, .ref bK, .ref bT, .ref bC])), (bV, .inl (cA, 12, .inl fV)), (bW, .inl (cA, 12, .inl fW)), (bR, .inl (cA, 12, .inl fR)), (bP9, .inl (cA, 12, .inl fP)), (bK, .inl (cA, 12, .inl (rndF fW fR fP n st fK))), (bC, .inl (cA, 41, .inl u_3))] := hD
        refine lv_iload_n hx hb dX2_roundOn_65 rfl (lv_at hl 1 rfl) ?_
        refine useQ hQ ?_
        exact e_i (v := v) F hr hlocks hK hP hD hS [0, 1, 2, 3, 4, 5, 6] [0] u_3 (congrArg Prod.snd hT) rfl rfl rfl (Nat.le_of_ble_eq_true rfl) (Nat.le_of_ble_eq_true rfl) dX2_roundOn_66
      · skip
        have g_14 : i < n := nf_ge_f (by omega) (by omega) c_14
        refine lv_aload_n hx hb dX2_roundOn_17 rfl (lv_at hl 3 rfl) ?_
        refine lv_iload_n hx hb dX2_roundOn_18 rfl (lv_at hl 0 rfl) ?_
        refine lv_iload_n hx hb dX2_roundOn_19 rfl (lv_at hl 2 rfl) ?_
        have hX_6 : Cut D A [(m0, .inr (2, [.int th, .int (nI n), .int rg, .int st, .ref bV, .ref bW, .ref bR, .ref bP9, .ref bK, .ref bT, .ref bC])), (bV, .inl (cA, 12, .inl fV)), (bW, .inl (cA, 12, .inl fW)), (bR, .inl (cA, 12, .inl fR)), (bP9, .inl (cA, 12, .inl fP)), (bK, .inl (cA, 12, .inl g)), (bC, .inl (cA, 41, .inl u_3))] [(m0, .inr (2, [.int th, .int (nI n), .int rg, .int st, .ref bV, .ref bW, .ref bR, .ref bP9, .ref bK, .ref bT, .ref bC])), (bW, .inl (cA, 12, .inl fW)), (bR, .inl (cA, 12, .inl fR)), (bP9, .inl (cA, 12, .inl fP)), (bK, .inl (cA, 12, .inl g))] [(bV, .inl (cA, 12, .inl fV)), (bC, .inl (cA, 41, .inl u_3))] [(cA, .int)] [(cA, .int)] [0, 2, 3, 4, 5] [1, 6] [0] := ⟨rfl, rfl, rfl, rfl, by decide, rfl⟩
        refine ki hX_6 hP hD hS hA (kRunV (q := (RX2, TX2, 11)) (As := [.int (nI i), .int (midM fK n)]) (rest := []) F (c_X2_step l D cA m0 th n rg st bV bW bR bP9 bK bT bC fW fR fP g i (midM fK n) hn (by omega) hG (by rw [midM_ne (show n ≠ 0 by omega)]; exact mid_ok hI.K (by omega)) H.size) (cwV 2 hts gX2_roundOn_X2_step rfl rfl rfl (by decide +kernel) ⟨Nat.le_of_ble_eq_true rfl, Nat.le_of_ble_eq_true rfl⟩) hK hP hD hX_6 0 rfl rfl rfl hl.1 rfl (Nat.le_of_ble_eq_true rfl) dX2_roundOn_20 ⟨Nat.le_of_ble_eq_true rfl, Nat.le_of_ble_eq_true rfl⟩) (fun r_7 u_8 H locs hw_9 hP hD hS => ?_)
        have hw_9 : r_7 = stepC (fW i) (fR i) (fP i) (g i) (midM fK n) := hw_9
        rw [hw_9]
        have hP : va_P D vwCl [(bV, .inl (cA, 12, .inl fV)), (bC, .inl (cA, 41, .inl u_3)), (m0, .inr (2, [.int th, .int (nI n), .int rg, .int st, .ref bV, .ref bW, .ref bR, .ref bP9, .ref bK, .ref bT, .ref bC])), (bW, .inl (cA, 12, .inl fW)), (bR, .inl (cA, 12, .inl fR)), (bP9, .inl (cA, 12, .inl fP)), (bK, .inl (cA, 12, .inl g))] H := hP
        have hD : va_D A [(bV, .inl (cA, 12, .inl fV)), (bC, .inl (cA, 41, .inl u_3)), (m0, .inr (2, [.int th, .int (nI n), .int rg, .int st, .ref bV, .ref bW, .ref bR, .ref bP9, .ref bK, .ref bT, .ref bC])), (bW, .inl (cA, 12, .inl fW)), (bR, .inl (cA, 12, .inl fR)), (bP9, .inl (cA, 12, .inl fP)), (bK, .inl (cA, 12, .inl g))] := hD
        refine topi (stepC (fW i) (fR i) (fP i) (g i) (midF fK n)) (by rw [midM_ne (show n ≠ 0 by omega)]) ?_
        refine lv_istore (lv' := [(4, .int (stepC (fW i) (fR i) (fP i) (g i) (midF fK n))), (3, .int (nI i)), (2, .int v), (1, .int (midM fK n)), (0, .ref m0)]) hx hb dX2_roundOn_23 hl (by decide) rfl (fun ls hl => ?_)
        refine lv_iload hx hb dX2_roundOn_25 (lv_at hl 0 rfl) ?_
        refine lv_aload_n hx hb dX2_roundOn_27 rfl (lv_at hl 4 rfl) ?_
        refine va_get (D := D) (ci := 2) (v := .ref bK) (C := RX2) (T := TX2) (N := 11) hx hb hts uX2_X2_roundOn hown hK hP 2 rfl rfl 8 (by decide) (hts (.fieldLink RX2 26 "RopeChoicesModel" "plank" "[I") (List.mem_of_getElem? (i := 2) rfl)) (fun _ h9 => h9) rfl dX2_roundOn_28 ?_
        refine lv_iload_n hx hb dX2_roundOn_31 rfl (lv_at hl 1 rfl) ?_
        refine a_ld (k := i) hx hb hK hP 6 0 rfl rfl (by omega) (Nat.le_of_ble_eq_true rfl) dX2_roundOn_32 ?_
        refine lv_icmp_eq (tgt := 59) hx hb dX2_roundOn_33 (by decide) (fun c_33 => ?_) (fun c_33 => ?_)
        · skip
          refine lv_iinc (v := nI (i + 1)) (lv' := [(3, .int (nI (i + 1))), (4, .int (stepC (fW i) (fR i) (fP i) (g i) (midF fK n))), (2, .int v), (1, .int (midM fK n)), (0, .ref m0)]) hx hb dX2_roundOn_59 hl (k := 1) rfl (nI_1 _) (by decide) rfl (fun ls hl => ?_)
          refine lv_goto (tgt := 9) hx hb dX2_roundOn_62 (by decide) ?_
          exact ih9 (i + 1) v g (by omega) (by omega) (turns_stay hT (Or.inl c_33)) _ _ (hP.sub [2, 0, 3, 4, 5, 6, 1] rfl) (hD.sub [2, 0, 3, 4, 5, 6, 1] (by decide) rfl) hS ls (lv_sub hl [0, 2, 3, 4] rfl)
        · skip
          refine lv_aload_n hx hb dX2_roundOn_36 rfl (lv_at hl 4 rfl) ?_
          refine lv_iload hx hb dX2_roundOn_37 (lv_at hl 0 rfl) ?_
          have hX_10 : Cut D A [(bV, .inl (cA, 12, .inl fV)), (bC, .inl (cA, 41, .inl u_3)), (m0, .inr (2, [.int th, .int (nI n), .int rg, .int st, .ref bV, .ref bW, .ref bR, .ref bP9, .ref bK, .ref bT, .ref bC])), (bW, .inl (cA, 12, .inl fW)), (bR, .inl (cA, 12, .inl fR)), (bP9, .inl (cA, 12, .inl fP)), (bK, .inl (cA, 12, .inl g))] [(m0, .inr (2, [.int th, .int (nI n), .int rg, .int st, .ref bV, .ref bW, .ref bR, .ref bP9, .ref bK, .ref bT, .ref bC])), (bK, .inl (cA, 12, .inl g))] [(bV, .inl (cA, 12, .inl fV)), (bC, .inl (cA, 41, .inl u_3)), (bW, .inl (cA, 12, .inl fW)), (bR, .inl (cA, 12, .inl fR)), (bP9, .inl (cA, 12, .inl fP))] [(cA, .int)] [(cA, .int)] [2, 6] [0, 1, 3, 4, 5] [0] := ⟨rfl, rfl, rfl, rfl, by decide, rfl⟩
          refine ki hX_10 hP hD hS hA (kRunV (q := (RX2, TX2, 11)) (As := [.int (stepC (fW i) (fR i) (fP i) (g i) (midF fK n))]) (rest := []) F (c_X2_hasRoom l D cA m0 th n rg st bV bW bR bP9 bK bT bC g (stepC (fW i) (fR i) (fP i) (g i) (midF fK n)) hn H.size) (cwV 1 hts gX2_roundOn_X2_hasRoom rfl rfl rfl (by decide +kernel) ⟨Nat.le_of_ble_eq_true rfl, Nat.le_of_ble_eq_true rfl⟩) hK hP hD hX_10 2 rfl rfl rfl hl.1 rfl (Nat.le_of_ble_eq_true rfl) dX2_roundOn_39 ⟨Nat.le_of_ble_eq_true rfl, Nat.le_of_ble_eq_true rfl⟩) (fun r_11 u_12 H locs hw_13 hP hD hS => ?_)
          have hw_13 : r_11 = bP (crowd g (stepC (fW i) (fR i) (fP i) (g i) (midF fK n)) n < st) := hw_13
          rw [hw_13]
          have hP : va_P D vwCl [(bV, .inl (cA, 12, .inl fV)), (bC, .inl (cA, 41, .inl u_3)), (bW, .inl (cA, 12, .inl fW)), (bR, .inl (cA, 12, .inl fR)), (bP9, .inl (cA, 12, .inl fP)), (m0, .inr (2, [.int th, .int (nI n), .int rg, .int st, .ref bV, .ref bW, .ref bR, .ref bP9, .ref bK, .ref bT, .ref bC])), (bK, .inl (cA, 12, .inl g))] H := hP
          have hD : va_D A [(bV, .inl (cA, 12, .inl fV)), (bC, .inl (cA, 41, .inl u_3)), (bW, .inl (cA, 12, .inl fW)), (bR, .inl (cA, 12, .inl fR)), (bP9, .inl (cA, 12, .inl fP)), (m0, .inr (2, [.int th, .int (nI n), .int rg, .int st, .ref bV, .ref bW, .ref bR, .ref bP9, .ref bK, .ref bT, .ref bC])), (bK, .inl (cA, 12, .inl g))] := hD
          refine lv_if_ne (tgt := 48) hx hb dX2_roundOn_42 (by decide) (fun c_42 => ?_) (fun c_42 => ?_)
          · skip
            refine lv_aload_n hx hb dX2_roundOn_48 rfl (lv_at hl 4 rfl) ?_
            refine va_get (D := D) (ci := 2) (v := .ref bK) (C := RX2) (T := TX2) (N := 11) hx hb hts uX2_X2_roundOn hown hK hP 5 rfl rfl 8 (by decide) (hts (.fieldLink RX2 26 "RopeChoicesModel" "plank" "[I") (List.mem_of_getElem? (i := 2) rfl)) (fun _ h9 => h9) rfl dX2_roundOn_49 ?_
            refine lv_iload_n hx hb dX2_roundOn_52 rfl (lv_at hl 1 rfl) ?_
            refine lv_iload hx hb dX2_roundOn_53 (lv_at hl 0 rfl) ?_
            refine a_st (k := i) hx hb hK hP hD hS 6 0 rfl rfl (by omega) (Nat.le_of_ble_eq_true rfl) dX2_roundOn_55 (fun H locs hP hD hS => ?_)
            have hP : va_P D vwCl [(bV, .inl (cA, 12, .inl fV)), (bC, .inl (cA, 41, .inl u_3)), (bW, .inl (cA, 12, .inl fW)), (bR, .inl (cA, 12, .inl fR)), (bP9, .inl (cA, 12, .inl fP)), (m0, .inr (2, [.int th, .int (nI n), .int rg, .int st, .ref bV, .ref bW, .ref bR, .ref bP9, .ref bK, .ref bT, .ref bC])), (bK, .inl (cA, 12, .inl (upd g i (stepC (fW i) (fR i) (fP i) (g i) (midF fK n)))))] H := hP
            have hD : va_D A [(bV, .inl (cA, 12, .inl fV)), (bC, .inl (cA, 41, .inl u_3)), (bW, .inl (cA, 12, .inl fW)), (bR, .inl (cA, 12, .inl fR)), (bP9, .inl (cA, 12, .inl fP)), (m0, .inr (2, [.int th, .int (nI n), .int rg, .int st, .ref bV, .ref bW, .ref bR, .ref bP9, .ref bK, .ref bT, .ref bC])), (bK, .inl (cA, 12, .inl (upd g i (stepC (fW i) (fR i) (fP i) (g i) (midF fK n)))))] := hD
            refine lv_iinc (v := (v + 1)) (lv' := [(2, .int (v + 1)), (4, .int (stepC (fW i) (fR i) (fP i) (g i) (midF fK n))), (3, .int (nI i)), (1, .int (midM fK n)), (0, .ref m0)]) hx hb dX2_roundOn_56 hl (k := 2) rfl rfl (by decide) rfl (fun ls hl => ?_)
            refine lv_iinc (v := nI (i + 1)) (lv' := [(3, .int (nI (i + 1))), (2, .int (v + 1)), (4, .int (stepC (fW i) (fR i) (fP i) (g i) (midF fK n))), (1, .int (midM fK n)), (0, .ref m0)]) hx hb dX2_roundOn_59 hl (k := 2) rfl (nI_1 _) (by decide) rfl (fun ls hl => ?_)
            refine lv_goto (tgt := 9) hx hb dX2_roundOn_62 (by decide) ?_
            exact ih9 (i + 1) (v + 1) (upd g i (stepC (fW i) (fR i) (fP i) (g i) (midF fK n))) (by omega) (by omega) (turns_go hT c_33 (bP_ne c_42)) _ _ (hP.sub [5, 0, 2, 3, 4, 6, 1] rfl) (hD.sub [5, 0, 2, 3, 4, 6, 1] (by decide) rfl) hS ls (lv_sub hl [0, 1, 3, 4] rfl)
          · skip
            refine lv_goto (tgt := 59) hx hb dX2_roundOn_45 (by decide) ?_
            refine lv_iinc (v := nI (i + 1)) (lv' := [(3, .int (nI (i + 1))), (4, .int (stepC (fW i) (fR i) (fP i) (g i) (midF fK n))), (2, .int v), (1, .int (midM fK n)), (0, .ref m0)]) hx hb dX2_roundOn_59 hl (k := 1) rfl (nI_1 _) (by decide) rfl (fun ls hl => ?_)
            refine lv_goto (tgt := 9) hx hb dX2_roundOn_62 (by decide) ?_
            exact ih9 (i + 1) v g (by omega) (by omega) (turns_stay hT (Or.inr (bP_eq c_42))) _ _ (hP.sub [5, 0, 2, 3, 4, 6, 1] rfl) (hD.sub [5, 0, 2, 3, 4, 6, 1] (by decide) rfl) hS ls (lv_sub hl [0, 2, 3, 4] rfl)
  exact loop9 (n + 1) 0 0 fK (by omega) (Nat.zero_le _) rfl _ _ (hP.sub [3, 4, 0, 1, 2, 5, 6] rfl) (hD.sub [3, 4, 0, 1, 2, 5, 6] (by decide) rfl) hS ls (lv_sub hl [0, 1, 2, 3] rfl)
theorem uX2_X2_wide : ∀ w ∈ u_ws RX2 TX2 11, w ∈ wsX2_wide := (fun _ h => List.mem_cons_of_mem _ (List.mem_append_right _ h))
set_option maxHeartbeats 4000000 in
set_option maxRecDepth 100000 in
theorem c_X2_wide (l : Launch) (D : va_G) (cA : ClassId) (m0 : Nat) (th : Int32) (n : Nat) (rg : Int32) (st : Int32) (bV : Nat) (bW : Nat) (bR : Nat) (bP9 : Nat) (bK : Nat) (bT : Nat) (bC : Nat) (fK : Nat → Int32) (hn : n ≤ 12) (hI : ∀ i, i < n → okD 41 (fK i)) (sz : Nat) : Met l yX2_wide wsX2_wide ({ frames := 1, cells := 0, slots := 0, locals := 30 } : Room) (va_Pc [.ref m0] (Wd D [(cA, .int)] [(m0, .inr (2, [.int th, .int (nI n), .int rg, .int st, .ref bV, .ref bW, .ref bR, .ref bP9, .ref bK, .ref bT, .ref bC])), (bK, .inl (cA, 12, .inl fK))] sz)) (va_Qi (fun (r : Int32) (_ : Unit) => r = wide fK n) (fun (_ : Unit) t => We D [(cA, .int)] [(m0, .inr (2, [.int th, .int (nI n), .int rg, .int st, .ref bV, .ref bW, .ref bR, .ref bP9, .ref bK, .ref bT, .ref bC])), (bK, .inl (cA, 12, .inl fK))] (va_A [(m0, .inr (2, [.int th, .int (nI n), .int rg, .int st, .ref bV, .ref bW, .ref bR, .ref bP9, .ref bK, .ref bT, .ref bC])), (bK, .inl (cA, 12, .inl fK))] sz) t) (va_A [(m0, .inr (2, [.int th, .int (nI n), .int rg, .int st, .ref bV, .ref bW, .ref bR, .ref bP9, .ref bK, .ref bT, .ref bC])), (bK, .inl (cA, 12, .inl fK))] sz)) 0 0 (va_A [(m0, .inr (2, [.int th, .int (nI n), .int rg, .int st, .ref bV, .ref bW, .ref bR, .ref bP9, .ref bK, .ref bT, .ref bC])), (bK, .inl (cA, 12, .inl fK))] sz) := by
  refine mk_met [.ref m0] (fun A => va_Qi (fun (r : Int32) (_ : Unit) => r = wide fK n) (fun (_ : Unit) t => We D [(cA, .int)] [(m0, .inr (2, [.int th, .int (nI n), .int rg, .int st, .ref bV, .ref bW, .ref bR, .ref bP9, .ref bK, .ref bT, .ref bC])), (bK, .inl (cA, 12, .inl fK))] A t) A) (by decide) rfl (Nat.le_of_ble_eq_true rfl) ?_
  intro p e s m args below meth c A ls F hr hlocks hname hP hK hD hA hl
  have hx := F.1
  have hb := F.2.1
  have hml := F.2.2.1
  have hown := F.2.2.2.1
  have hts := F.2.2.2.2
  have hS : va_S A s.heap s.heap [] := va_S.rf
  have hl : lv_has ls 4 [(0, .ref m0)] := hl
  refine absQ (fun Q hQ => ?_)
  refine lv_bipush (v := 41) hx hb dX2_wide_0 (by decide) ?_
  refine lv_istore_n (lv' := [(1, .int 41), (0, .ref m0)]) hx hb dX2_wide_2 rfl hl (by decide) rfl (fun ls hl => ?_)
  refine lv_iconst (v := 0) hx hb dX2_wide_3 (by decide) ?_
  refine lv_istore_n (lv' := [(2, .int 0), (1, .int 41), (0, .ref m0)]) hx hb dX2_wide_4 rfl hl (by decide) rfl (fun ls hl => ?_)
  refine lv_iconst (v := 0) hx hb dX2_wide_5 (by decide) ?_
  refine lv_istore_n (lv' := [(3, .int 0), (2, .int 0), (1, .int 41), (0, .ref m0)]) hx hb dX2_wide_6 rfl hl (by decide) rfl (fun ls hl => ?_)
  have loop7 : ∀ (k : Nat) (i : Nat) (lo : Int32) (up : Int32), (n < i + k) → (i ≤ n) → (lo = loEnd fK 41 i) → (up = hiEnd fK i) →  ∀ (H : Heap) (locs : List Loc), va_P D vwCl [(m0, .inr (2, [.int th, .int (nI n), .int rg, .int st, .ref bV, .ref bW, .ref bR, .ref bP9, .ref bK, .ref bT, .ref bC])), (bK, .inl (cA, 12, .inl fK))] H → va_D A [(m0, .inr (2, [.int th, .int (nI n), .int rg, .int st, .ref bV, .ref bW, .ref bR, .ref bP9, .ref bK, .ref bT, .ref bC])), (bK, .inl (cA, 12, .inl fK))] → va_S A s.heap H locs → ∀ ls : Array Slot, lv_has ls 4 [(3, .int (nI i)), (2, .int up), (1, .int lo), (0, .ref m0)] → W p l e ({ frames := 1, cells := 0, slots := 0, locals := 30 } : Room) s m args below meth c H locs 0 0 Q (F0 m 7 ls []) := by
    intro k
    induction k with
    | zero =>
      intro i lo up hk hi hlo hup
      exact absurd hk (by omega)
    | succ k ih7 =>
      intro i lo up hk hi hlo hup H locs hP hD hS ls hl
      refine lv_iload_n hx hb dX2_wide_7 rfl (lv_at hl 0 rfl) ?_
      refine lv_aload_n hx hb dX2_wide_8 rfl (lv_at hl 3 rfl) ?_
      refine va_get (D := D) (ci := 2) (v := .int (nI n)) (C := RX2) (T := TX2) (N := 11) hx hb hts uX2_X2_wide hown hK hP 0 rfl rfl 1 (by decide) (hts (.fieldLink RX2 38 "RopeChoicesModel" "many" "I") (List.mem_of_getElem? (i := 1) rfl)) (fun _ h9 => h9) rfl dX2_wide_9 ?_
      refine lv_icmp_ge (tgt := 43) hx hb dX2_wide_12 (by decide) (fun c_12 => ?_) (fun c_12 => ?_)
      · skip
        have g_12 : n ≤ i := nf_ge_t (by omega) (by omega) c_12
        refine lv_aload_n hx hb dX2_wide_43 rfl (lv_at hl 3 rfl) ?_
        refine va_get (D := D) (ci := 2) (v := .int (nI n)) (C := RX2) (T := TX2) (N := 11) hx hb hts uX2_X2_wide hown hK hP 0 rfl rfl 1 (by decide) (hts (.fieldLink RX2 38 "RopeChoicesModel" "many" "I") (List.mem_of_getElem? (i := 1) rfl)) (fun _ h9 => h9) rfl dX2_wide_44 ?_
        refine lv_iconst (v := 2) hx hb dX2_wide_47 (by decide) ?_
        refine lv_icmp_ge (tgt := 55) hx hb dX2_wide_48 (by decide) (fun c_48 => ?_) (fun c_48 => ?_)
        · skip
          have g_48 : 2 ≤ n := nf_ge_t (by omega) (by omega) c_48
          refine lv_iload_n hx hb dX2_wide_55 rfl (lv_at hl 1 rfl) ?_
          refine lv_iload_n hx hb dX2_wide_56 rfl (lv_at hl 2 rfl) ?_
          refine lv_isub hx hb dX2_wide_57 ?_
          refine useQ hQ ?_
          exact e_i (v := (up - lo)) F hr hlocks hK hP hD hS [0, 1] [0] () (by rw [hlo, hup, show i = n by omega]; exact wide_M hI g_48) rfl rfl rfl (Nat.le_of_ble_eq_true rfl) (Nat.le_of_ble_eq_true rfl) dX2_wide_58
        · skip
          have g_48 : n < 2 := nf_ge_f (by omega) (by omega) c_48
          refine lv_iconst (v := 0) hx hb dX2_wide_51 (by decide) ?_
          refine lv_goto (tgt := 58) hx hb dX2_wide_52 (by decide) ?_
          refine useQ hQ ?_
          exact e_i (v := 0) F hr hlocks hK hP hD hS [0, 1] [0] () (wide_few hI g_48) rfl rfl rfl (Nat.le_of_ble_eq_true rfl) (Nat.le_of_ble_eq_true rfl) dX2_wide_58
      · skip
        have g_12 : i < n := nf_ge_f (by omega) (by omega) c_12
        refine lv_iload_n hx hb dX2_wide_15 rfl (lv_at hl 2 rfl) ?_
        refine lv_aload_n hx hb dX2_wide_16 rfl (lv_at hl 3 rfl) ?_
        refine va_get (D := D) (ci := 2) (v := .ref bK) (C := RX2) (T := TX2) (N := 11) hx hb hts uX2_X2_wide hown hK hP 0 rfl rfl 8 (by decide) (hts (.fieldLink RX2 26 "RopeChoicesModel" "plank" "[I") (List.mem_of_getElem? (i := 2) rfl)) (fun _ h9 => h9) rfl dX2_wide_17 ?_
        refine lv_iload_n hx hb dX2_wide_20 rfl (lv_at hl 0 rfl) ?_
        refine a_ld (k := i) hx hb hK hP 1 0 rfl rfl (by omega) (Nat.le_of_ble_eq_true rfl) dX2_wide_21 ?_
        refine va_mmin hx hb (hml.trans hl.1.symm) hown (hts (.methodLink RX2 64 Lib.Math.min.name) (List.mem_of_getElem? (i := 3) rfl)) (hts (.static Lib.Math.min.name) (List.mem_of_getElem? (i := 4) rfl)) (hts (.initialized "java/lang/Math") (List.mem_of_getElem? (i := 5) rfl)) (hts (.code Lib.Math.min.name Lib.Math.min.code 2 (some .int)) (List.mem_of_getElem? (i := 6) rfl)) (Nat.le_of_ble_eq_true rfl) (Nat.le_of_ble_eq_true rfl) (Nat.le_of_ble_eq_true rfl) (Nat.le_of_ble_eq_true rfl) dX2_wide_22 ?_
        refine topi (jmin lo (fK i)) rfl ?_
        refine lv_istore_n (lv' := [(1, .int (jmin lo (fK i))), (3, .int (nI i)), (2, .int up), (0, .ref m0)]) hx hb dX2_wide_25 rfl hl (by decide) rfl (fun ls hl => ?_)
        refine lv_iload_n hx hb dX2_wide_26 rfl (lv_at hl 2 rfl) ?_
        refine lv_aload_n hx hb dX2_wide_27 rfl (lv_at hl 3 rfl) ?_
        refine va_get (D := D) (ci := 2) (v := .ref bK) (C := RX2) (T := TX2) (N := 11) hx hb hts uX2_X2_wide hown hK hP 0 rfl rfl 8 (by decide) (hts (.fieldLink RX2 26 "RopeChoicesModel" "plank" "[I") (List.mem_of_getElem? (i := 2) rfl)) (fun _ h9 => h9) rfl dX2_wide_28 ?_
        refine lv_iload_n hx hb dX2_wide_31 rfl (lv_at hl 1 rfl) ?_
        refine a_ld (k := i) hx hb hK hP 1 0 rfl rfl (by omega) (Nat.le_of_ble_eq_true rfl) dX2_wide_32 ?_
        refine va_mmax hx hb (hml.trans hl.1.symm) hown (hts (.methodLink RX2 67 Lib.Math.max.name) (List.mem_of_getElem? (i := 7) rfl)) (hts (.static Lib.Math.max.name) (List.mem_of_getElem? (i := 8) rfl)) (hts (.initialized "java/lang/Math") (List.mem_of_getElem? (i := 5) rfl)) (hts (.code Lib.Math.max.name Lib.Math.max.code 2 (some .int)) (List.mem_of_getElem? (i := 9) rfl)) (Nat.le_of_ble_eq_true rfl) (Nat.le_of_ble_eq_true rfl) (Nat.le_of_ble_eq_true rfl) (Nat.le_of_ble_eq_true rfl) dX2_wide_33 ?_
        refine topi (jmax up (fK i)) rfl ?_
        refine lv_istore_n (lv' := [(2, .int (jmax up (fK i))), (1, .int (jmin lo (fK i))), (3, .int (nI i)), (0, .ref m0)]) hx hb dX2_wide_36 rfl hl (by decide) rfl (fun ls hl => ?_)
        refine lv_iinc (v := nI (i + 1)) (lv' := [(3, .int (nI (i + 1))), (2, .int (jmax up (fK i))), (1, .int (jmin lo (fK i))), (0, .ref m0)]) hx hb dX2_wide_37 hl (k := 2) rfl (nI_1 _) (by decide) rfl (fun ls hl => ?_)
        refine lv_goto (tgt := 7) hx hb dX2_wide_40 (by decide) ?_
        exact ih7 (i + 1) (jmin lo (fK i)) (jmax up (fK i)) (by omega) (by omega) (by rw [loEnd_s, hlo]) (by rw [hiEnd_s, hup]) _ _ (hP.sub [0, 1] rfl) (hD.sub [0, 1] (by decide) rfl) hS ls (lv_sub hl [0, 1, 2, 3] rfl)
  exact loop7 (n + 1) 0 41 0 (by omega) (Nat.zero_le _) rfl rfl _ _ (hP.sub [0, 1] rfl) (hD.sub [0, 1] (by decide) rfl) hS ls (lv_sub hl [0, 1, 2, 3] rfl)
theorem uX2_X2_agree : ∀ w ∈ u_ws RX2 TX2 11, w ∈ wsX2_agree := (fun _ h => List.mem_cons_of_mem _ (List.mem_append_right _ h))
set_option maxHeartbeats 4000000 in
set_option maxRecDepth 100000 in
theorem c_X2_agree (l : Launch) (D : va_G) (cA : ClassId) (m0 : Nat) (th : Int32) (n : Nat) (rg : Int32) (st : Int32) (bV : Nat) (bW : Nat) (bR : Nat) (bP9 : Nat) (bK : Nat) (bT : Nat) (bC : Nat) (fV : Nat → Int32) (fK : Nat → Int32) (hn : n ≤ 12) (hI : ∀ i, i < n → okD 41 (fK i)) (sz : Nat) : Met l yX2_agree wsX2_agree ({ frames := 2, cells := 0, slots := 0, locals := 53 } : Room) (va_Pc [.ref m0] (Wd D [(cA, .int)] [(m0, .inr (2, [.int th, .int (nI n), .int rg, .int st, .ref bV, .ref bW, .ref bR, .ref bP9, .ref bK, .ref bT, .ref bC])), (bV, .inl (cA, 12, .inl fV)), (bK, .inl (cA, 12, .inl fK))] sz)) (va_Qi (fun (r : Int32) (_ : Unit) => r = bP (agreeP fV fK n)) (fun (_ : Unit) t => We D [(cA, .int)] [(m0, .inr (2, [.int th, .int (nI n), .int rg, .int st, .ref bV, .ref bW, .ref bR, .ref bP9, .ref bK, .ref bT, .ref bC])), (bV, .inl (cA, 12, .inl fV)), (bK, .inl (cA, 12, .inl fK))] (va_A [(m0, .inr (2, [.int th, .int (nI n), .int rg, .int st, .ref bV, .ref bW, .ref bR, .ref bP9, .ref bK, .ref bT, .ref bC])), (bV, .inl (cA, 12, .inl fV)), (bK, .inl (cA, 12, .inl fK))] sz) t) (va_A [(m0, .inr (2, [.int th, .int (nI n), .int rg, .int st, .ref bV, .ref bW, .ref bR, .ref bP9, .ref bK, .ref bT, .ref bC])), (bV, .inl (cA, 12, .inl fV)), (bK, .inl (cA, 12, .inl fK))] sz)) 0 0 (va_A [(m0, .inr (2, [.int th, .int (nI n), .int rg, .int st, .ref bV, .ref bW, .ref bR, .ref bP9, .ref bK, .ref bT, .ref bC])), (bV, .inl (cA, 12, .inl fV)), (bK, .inl (cA, 12, .inl fK))] sz) := by
  refine mk_met [.ref m0] (fun A => va_Qi (fun (r : Int32) (_ : Unit) => r = bP (agreeP fV fK n)) (fun (_ : Unit) t => We D [(cA, .int)] [(m0, .inr (2, [.int th, .int (nI n), .int rg, .int st, .ref bV, .ref bW, .ref bR, .ref bP9, .ref bK, .ref bT, .ref bC])), (bV, .inl (cA, 12, .inl fV)), (bK, .inl (cA, 12, .inl fK))] A t) A) (by decide) rfl (Nat.le_of_ble_eq_true rfl) ?_
  intro p e s m args below meth c A ls F hr hlocks hname hP hK hD hA hl
  have hx := F.1
  have hb := F.2.1
  have hml := F.2.2.1
  have hown := F.2.2.2.1
  have hts := F.2.2.2.2
  have hS : va_S A s.heap s.heap [] := va_S.rf
  have hl : lv_has ls 3 [(0, .ref m0)] := hl
  refine absQ (fun Q hQ => ?_)
  refine lv_iconst (v := 0) hx hb dX2_agree_0 (by decide) ?_
  refine lv_istore_n (lv' := [(1, .int 0), (0, .ref m0)]) hx hb dX2_agree_1 rfl hl (by decide) rfl (fun ls hl => ?_)
  refine lv_iconst (v := 1) hx hb dX2_agree_2 (by decide) ?_
  refine lv_istore_n (lv' := [(2, .int 1), (1, .int 0), (0, .ref m0)]) hx hb dX2_agree_3 rfl hl (by decide) rfl (fun ls hl => ?_)
  have loop4 : ∀ (k : Nat) (i : Nat) (v : Int32), (n + 1 < i + k) → (1 ≤ i) → (i ≤ n ∨ i = 1) → (v = bP (twoM fV i)) →  ∀ (H : Heap) (locs : List Loc), va_P D vwCl [(m0, .inr (2, [.int th, .int (nI n), .int rg, .int st, .ref bV, .ref bW, .ref bR, .ref bP9, .ref bK, .ref bT, .ref bC])), (bV, .inl (cA, 12, .inl fV)), (bK, .inl (cA, 12, .inl fK))] H → va_D A [(m0, .inr (2, [.int th, .int (nI n), .int rg, .int st, .ref bV, .ref bW, .ref bR, .ref bP9, .ref bK, .ref bT, .ref bC])), (bV, .inl (cA, 12, .inl fV)), (bK, .inl (cA, 12, .inl fK))] → va_S A s.heap H locs → ∀ ls : Array Slot, lv_has ls 3 [(2, .int (nI i)), (1, .int v), (0, .ref m0)] → W p l e ({ frames := 2, cells := 0, slots := 0, locals := 53 } : Room) s m args below meth c H locs 0 0 Q (F0 m 4 ls []) := by
    intro k
    induction k with
    | zero =>
      intro i v hk hi hle hv
      exact absurd hk (by omega)
    | succ k ih4 =>
      intro i v hk hi hle hv H locs hP hD hS ls hl
      refine lv_iload_n hx hb dX2_agree_4 rfl (lv_at hl 0 rfl) ?_
      refine lv_aload_n hx hb dX2_agree_5 rfl (lv_at hl 2 rfl) ?_
      refine va_get (D := D) (ci := 2) (v := .int (nI n)) (C := RX2) (T := TX2) (N := 11) hx hb hts uX2_X2_agree hown hK hP 0 rfl rfl 1 (by decide) (hts (.fieldLink RX2 38 "RopeChoicesModel" "many" "I") (List.mem_of_getElem? (i := 1) rfl)) (fun _ h9 => h9) rfl dX2_agree_6 ?_
      refine lv_icmp_ge (tgt := 41) hx hb dX2_agree_9 (by decide) (fun c_9 => ?_) (fun c_9 => ?_)
      · skip
        have g_9 : n ≤ i := nf_ge_t (by omega) (by omega) c_9
        have h2M : bP (twoM fV i) = bP (twoV fV n) := bP_congr ((two_ex g_9 hle).trans two_eq)
        rw [h2M] at hv
        refine lv_iload_n hx hb dX2_agree_41 rfl (lv_at hl 1 rfl) ?_
        refine lv_if_eq (tgt := 57) hx hb dX2_agree_42 (by decide) (fun c_42 => ?_) (fun c_42 => ?_)
        · skip
          refine lv_iconst (v := 0) hx hb dX2_agree_57 (by decide) ?_
          refine useQ hQ ?_
          exact e_z (v := 0) F hr hlocks hK hP hD hS [0, 1, 2] [0] () (by first | exact Or.inl rfl | exact Or.inr rfl | exact bP_01 _) (bP_f (fun z => bP_eq (hv.symm.trans c_42) z.1)) rfl rfl rfl (Nat.le_of_ble_eq_true rfl) (Nat.le_of_ble_eq_true rfl) dX2_agree_58
        · skip
          refine lv_aload_n hx hb dX2_agree_45 rfl (lv_at hl 2 rfl) ?_
          have hX_1 : Cut D A [(m0, .inr (2, [.int th, .int (nI n), .int rg, .int st, .ref bV, .ref bW, .ref bR, .ref bP9, .ref bK, .ref bT, .ref bC])), (bV, .inl (cA, 12, .inl fV)), (bK, .inl (cA, 12, .inl fK))] [(m0, .inr (2, [.int th, .int (nI n), .int rg, .int st, .ref bV, .ref bW, .ref bR, .ref bP9, .ref bK, .ref bT, .ref bC])), (bK, .inl (cA, 12, .inl fK))] [(bV, .inl (cA, 12, .inl fV))] [(cA, .int)] [(cA, .int)] [0, 2] [1] [0] := ⟨rfl, rfl, rfl, rfl, by decide, rfl⟩
          refine ki hX_1 hP hD hS hA (kRunV (q := (RX2, TX2, 11)) (As := []) (rest := []) F (c_X2_wide l D cA m0 th n rg st bV bW bR bP9 bK bT bC fK hn hI H.size) (cwV 0 hts gX2_agree_X2_wide rfl rfl rfl (by decide +kernel) ⟨Nat.le_of_ble_eq_true rfl, Nat.le_of_ble_eq_true rfl⟩) hK hP hD hX_1 0 rfl rfl rfl hl.1 rfl (Nat.le_of_ble_eq_true rfl) dX2_agree_46 ⟨Nat.le_of_ble_eq_true rfl, Nat.le_of_ble_eq_true rfl⟩) (fun r_2 u_3 H locs hw_4 hP hD hS => ?_)
          have hw_4 : r_2 = wide fK n := hw_4
          rw [hw_4]
          have hP : va_P D vwCl [(bV, .inl (cA, 12, .inl fV)), (m0, .inr (2, [.int th, .int (nI n), .int rg, .int st, .ref bV, .ref bW, .ref bR, .ref bP9, .ref bK, .ref bT, .ref bC])), (bK, .inl (cA, 12, .inl fK))] H := hP
          have hD : va_D A [(bV, .inl (cA, 12, .inl fV)), (m0, .inr (2, [.int th, .int (nI n), .int rg, .int st, .ref bV, .ref bW, .ref bR, .ref bP9, .ref bK, .ref bT, .ref bC])), (bK, .inl (cA, 12, .inl fK))] := hD
          refine lv_iconst (v := 2) hx hb dX2_agree_49 (by decide) ?_
          refine lv_icmp_gt (tgt := 57) hx hb dX2_agree_50 (by decide) (fun c_50 => ?_) (fun c_50 => ?_)
          · skip
            refine lv_iconst (v := 0) hx hb dX2_agree_57 (by decide) ?_
            refine useQ hQ ?_
            exact e_z (v := 0) F hr hlocks hK hP hD hS [1, 0, 2] [0] () (by first | exact Or.inl rfl | exact Or.inr rfl | exact bP_01 _) (bP_f (fun z => Int32.not_le.mpr c_50 z.2)) rfl rfl rfl (Nat.le_of_ble_eq_true rfl) (Nat.le_of_ble_eq_true rfl) dX2_agree_58
          · skip
            refine lv_iconst (v := 1) hx hb dX2_agree_53 (by decide) ?_
            refine lv_goto (tgt := 58) hx hb dX2_agree_54 (by decide) ?_
            refine useQ hQ ?_
            exact e_z (v := 1) F hr hlocks hK hP hD hS [1, 0, 2] [0] () (by first | exact Or.inl rfl | exact Or.inr rfl | exact bP_01 _) (bP_t ⟨bP_ne (fun z => c_42 (hv.trans z)), Int32.not_lt.mp c_50⟩) rfl rfl rfl (Nat.le_of_ble_eq_true rfl) (Nat.le_of_ble_eq_true rfl) dX2_agree_58
      · skip
        have g_9 : i < n := nf_ge_f (by omega) (by omega) c_9
        refine lv_iload_n hx hb dX2_agree_12 rfl (lv_at hl 1 rfl) ?_
        refine lv_aload_n hx hb dX2_agree_13 rfl (lv_at hl 2 rfl) ?_
        refine va_get (D := D) (ci := 2) (v := .ref bV) (C := RX2) (T := TX2) (N := 11) hx hb hts uX2_X2_agree hown hK hP 0 rfl rfl 4 (by decide) (hts (.fieldLink RX2 13 "RopeChoicesModel" "village" "[I") (List.mem_of_getElem? (i := 2) rfl)) (fun _ h9 => h9) rfl dX2_agree_14 ?_
        refine lv_iload_n hx hb dX2_agree_17 rfl (lv_at hl 0 rfl) ?_
        refine a_ld (k := i) hx hb hK hP 1 0 rfl rfl (by omega) (Nat.le_of_ble_eq_true rfl) dX2_agree_18 ?_
        refine lv_aload_n hx hb dX2_agree_19 rfl (lv_at hl 2 rfl) ?_
        refine va_get (D := D) (ci := 2) (v := .ref bV) (C := RX2) (T := TX2) (N := 11) hx hb hts uX2_X2_agree hown hK hP 0 rfl rfl 4 (by decide) (hts (.fieldLink RX2 13 "RopeChoicesModel" "village" "[I") (List.mem_of_getElem? (i := 2) rfl)) (fun _ h9 => h9) rfl dX2_agree_20 ?_
        refine lv_iconst (v := 0) hx hb dX2_agree_23 (by decide) ?_
        refine a_ld (k := 0) hx hb hK hP 1 0 rfl rfl (by omega) (Nat.le_of_ble_eq_true rfl) dX2_agree_24 ?_
        refine lv_icmp_eq (tgt := 32) hx hb dX2_agree_25 (by decide) (fun c_25 => ?_) (fun c_25 => ?_)
        · skip
          refine lv_iconst (v := 0) hx hb dX2_agree_32 (by decide) ?_
          refine lv_ior hx hb dX2_agree_33 ?_
          refine lv_istore_n (lv' := [(1, .int (v ||| 0)), (2, .int (nI i)), (0, .ref m0)]) hx hb dX2_agree_34 rfl hl (by decide) rfl (fun ls hl => ?_)
          refine lv_iinc (v := nI (i + 1)) (lv' := [(2, .int (nI (i + 1))), (1, .int (v ||| 0)), (0, .ref m0)]) hx hb dX2_agree_35 hl (k := 1) rfl (nI_1 _) (by decide) rfl (fun ls hl => ?_)
          refine lv_goto (tgt := 4) hx hb dX2_agree_38 (by decide) ?_
          exact ih4 (i + 1) (v ||| 0) (by omega) (by omega) (by omega) (two_or0 hv c_25) _ _ (hP.sub [0, 1, 2] rfl) (hD.sub [0, 1, 2] (by decide) rfl) hS ls (lv_sub hl [0, 1, 2] rfl)
        · skip
          refine lv_iconst (v := 1) hx hb dX2_agree_28 (by decide) ?_
          refine lv_goto (tgt := 33) hx hb dX2_agree_29 (by decide) ?_
          refine lv_ior hx hb dX2_agree_33 ?_
          refine lv_istore_n (lv' := [(1, .int (v ||| 1)), (2, .int (nI i)), (0, .ref m0)]) hx hb dX2_agree_34 rfl hl (by decide) rfl (fun ls hl => ?_)
          refine lv_iinc (v := nI (i + 1)) (lv' := [(2, .int (nI (i + 1))), (1, .int (v ||| 1)), (0, .ref m0)]) hx hb dX2_agree_35 hl (k := 1) rfl (nI_1 _) (by decide) rfl (fun ls hl => ?_)
          refine lv_goto (tgt := 4) hx hb dX2_agree_38 (by decide) ?_
          exact ih4 (i + 1) (v ||| 1) (by omega) (by omega) (by omega) (two_or1 hv hi c_25) _ _ (hP.sub [0, 1, 2] rfl) (hD.sub [0, 1, 2] (by decide) rfl) hS ls (lv_sub hl [0, 1, 2] rfl)
  exact loop4 (n + 1) 1 0 (by omega) (Nat.le_refl 1) (Or.inr rfl) (two_1 fV) _ _ (hP.sub [0, 1, 2] rfl) (hD.sub [0, 1, 2] (by decide) rfl) hS ls (lv_sub hl [0, 1, 2] rfl)
theorem uX2_X2_still : ∀ w ∈ u_ws RX2 TX2 11, w ∈ wsX2_still := (fun _ h => List.mem_cons_of_mem _ (List.mem_append_right _ h))
set_option maxHeartbeats 4000000 in
set_option maxRecDepth 100000 in
theorem c_X2_still (l : Launch) (D : va_G) (cA : ClassId) (m0 : Nat) (th : Int32) (n : Nat) (rg : Int32) (st : Int32) (bV : Nat) (bW : Nat) (bR : Nat) (bP9 : Nat) (bK : Nat) (bT : Nat) (bC : Nat) (fV : Nat → Int32) (fW : Nat → Int32) (fR : Nat → Int32) (fP : Nat → Int32) (fK : Nat → Int32) (fC : Nat → Int32) (hn : n ≤ 12) (hI : Inv fW fR fP fK n) (sz : Nat) : Met l yX2_still wsX2_still ({ frames := 3, cells := 1, slots := 12, locals := 77 } : Room) (va_Pc [.ref m0] (Wd D [(cA, .int)] [(m0, .inr (2, [.int th, .int (nI n), .int rg, .int st, .ref bV, .ref bW, .ref bR, .ref bP9, .ref bK, .ref bT, .ref bC])), (bV, .inl (cA, 12, .inl fV)), (bW, .inl (cA, 12, .inl fW)), (bR, .inl (cA, 12, .inl fR)), (bP9, .inl (cA, 12, .inl fP)), (bK, .inl (cA, 12, .inl fK)), (bC, .inl (cA, 41, .inl fC))] sz)) (va_Qi (fun (r : Int32) (u : Nat → Int32) => r = bP (rndM fW fR fP n st fK = 0)) (fun (u : Nat → Int32) t => We D [(cA, .int)] [(m0, .inr (2, [.int th, .int (nI n), .int rg, .int st, .ref bV, .ref bW, .ref bR, .ref bP9, .ref bK, .ref bT, .ref bC])), (bV, .inl (cA, 12, .inl fV)), (bW, .inl (cA, 12, .inl fW)), (bR, .inl (cA, 12, .inl fR)), (bP9, .inl (cA, 12, .inl fP)), (bK, .inl (cA, 12, .inl fK)), (bC, .inl (cA, 41, .inl u))] (va_A [(m0, .inr (2, [.int th, .int (nI n), .int rg, .int st, .ref bV, .ref bW, .ref bR, .ref bP9, .ref bK, .ref bT, .ref bC])), (bV, .inl (cA, 12, .inl fV)), (bW, .inl (cA, 12, .inl fW)), (bR, .inl (cA, 12, .inl fR)), (bP9, .inl (cA, 12, .inl fP)), (bK, .inl (cA, 12, .inl fK)), (bC, .inl (cA, 41, .inl fC))] sz) t) (va_A [(m0, .inr (2, [.int th, .int (nI n), .int rg, .int st, .ref bV, .ref bW, .ref bR, .ref bP9, .ref bK, .ref bT, .ref bC])), (bV, .inl (cA, 12, .inl fV)), (bW, .inl (cA, 12, .inl fW)), (bR, .inl (cA, 12, .inl fR)), (bP9, .inl (cA, 12, .inl fP)), (bK, .inl (cA, 12, .inl fK)), (bC, .inl (cA, 41, .inl fC))] sz)) 1 12 (va_A [(m0, .inr (2, [.int th, .int (nI n), .int rg, .int st, .ref bV, .ref bW, .ref bR, .ref bP9, .ref bK, .ref bT, .ref bC])), (bV, .inl (cA, 12, .inl fV)), (bW, .inl (cA, 12, .inl fW)), (bR, .inl (cA, 12, .inl fR)), (bP9, .inl (cA, 12, .inl fP)), (bK, .inl (cA, 12, .inl fK)), (bC, .inl (cA, 41, .inl fC))] sz) := by
  refine mk_met [.ref m0] (fun A => va_Qi (fun (r : Int32) (u : Nat → Int32) => r = bP (rndM fW fR fP n st fK = 0)) (fun (u : Nat → Int32) t => We D [(cA, .int)] [(m0, .inr (2, [.int th, .int (nI n), .int rg, .int st, .ref bV, .ref bW, .ref bR, .ref bP9, .ref bK, .ref bT, .ref bC])), (bV, .inl (cA, 12, .inl fV)), (bW, .inl (cA, 12, .inl fW)), (bR, .inl (cA, 12, .inl fR)), (bP9, .inl (cA, 12, .inl fP)), (bK, .inl (cA, 12, .inl fK)), (bC, .inl (cA, 41, .inl u))] A t) A) (by decide) rfl (Nat.le_of_ble_eq_true rfl) ?_
  intro p e s m args below meth c A ls F hr hlocks hname hP hK hD hA hl
  have hx := F.1
  have hb := F.2.1
  have hml := F.2.2.1
  have hown := F.2.2.2.1
  have hts := F.2.2.2.2
  have hS : va_S A s.heap s.heap [] := va_S.rf
  have hl : lv_has ls 3 [(0, .ref m0)] := hl
  refine absQ (fun Q hQ => ?_)
  refine lv_bipush (v := 12) hx hb dX2_still_0 (by decide) ?_
  refine a_new hx hb (hts (.arrayClass .int) (List.mem_of_getElem? (i := 1) rfl)) hK hP hD hS hA 0 (N := 12) rfl (by decide) rfl (Nat.le_of_ble_eq_true rfl) (Nat.le_of_ble_eq_true rfl) (Nat.le_of_ble_eq_true rfl) dX2_still_2 (fun q2 H hP hD hS => ?_)
  have hP : va_P D vwCl [(m0, .inr (2, [.int th, .int (nI n), .int rg, .int st, .ref bV, .ref bW, .ref bR, .ref bP9, .ref bK, .ref bT, .ref bC])), (bV, .inl (cA, 12, .inl fV)), (bW, .inl (cA, 12, .inl fW)), (bR, .inl (cA, 12, .inl fR)), (bP9, .inl (cA, 12, .inl fP)), (bK, .inl (cA, 12, .inl fK)), (bC, .inl (cA, 41, .inl fC)), (q2, .inl (cA, 12, .inl (fun _ => 0)))] H := hP
  have hD : va_D A [(m0, .inr (2, [.int th, .int (nI n), .int rg, .int st, .ref bV, .ref bW, .ref bR, .ref bP9, .ref bK, .ref bT, .ref bC])), (bV, .inl (cA, 12, .inl fV)), (bW, .inl (cA, 12, .inl fW)), (bR, .inl (cA, 12, .inl fR)), (bP9, .inl (cA, 12, .inl fP)), (bK, .inl (cA, 12, .inl fK)), (bC, .inl (cA, 41, .inl fC)), (q2, .inl (cA, 12, .inl (fun _ => 0)))] := hD
  refine lv_astore_n (lv' := [(1, .ref q2), (0, .ref m0)]) hx hb dX2_still_4 rfl hl (by decide) rfl (fun ls hl => ?_)
  refine lv_aload_n hx hb dX2_still_5 rfl (lv_at hl 1 rfl) ?_
  refine va_get (D := D) (ci := 2) (v := .ref bK) (C := RX2) (T := TX2) (N := 11) hx hb hts uX2_X2_still hown hK hP 0 rfl rfl 8 (by decide) (hts (.fieldLink RX2 26 "RopeChoicesModel" "plank" "[I") (List.mem_of_getElem? (i := 2) rfl)) (fun _ h9 => h9) rfl dX2_still_6 ?_
  refine lv_iconst (v := 0) hx hb dX2_still_9 (by decide) ?_
  refine lv_aload_n hx hb dX2_still_10 rfl (lv_at hl 0 rfl) ?_
  refine lv_iconst (v := 0) hx hb dX2_still_11 (by decide) ?_
  refine lv_bipush (v := 12) hx hb dX2_still_12 (by decide) ?_
  refine a_copy hx hb (hml.trans hl.1.symm) hown (hts (.methodLink RX2 45 arraycopyName) (List.mem_of_getElem? (i := 3) rfl)) (hts (.native arraycopyName) (List.mem_of_getElem? (i := 4) rfl)) (hts (.static arraycopyName) (List.mem_of_getElem? (i := 5) rfl)) (hts (.initialized "java/lang/System") (List.mem_of_getElem? (i := 6) rfl)) hK hP hD hS 5 7 0 rfl rfl rfl (Nat.le_of_ble_eq_true rfl) (Nat.le_of_ble_eq_true rfl) dX2_still_14 (fun H locs hP hD hS => ?_)
  have hP : va_P D vwCl [(m0, .inr (2, [.int th, .int (nI n), .int rg, .int st, .ref bV, .ref bW, .ref bR, .ref bP9, .ref bK, .ref bT, .ref bC])), (bV, .inl (cA, 12, .inl fV)), (bW, .inl (cA, 12, .inl fW)), (bR, .inl (cA, 12, .inl fR)), (bP9, .inl (cA, 12, .inl fP)), (bK, .inl (cA, 12, .inl fK)), (bC, .inl (cA, 41, .inl fC)), (q2, .inl (cA, 12, .inl (copyF fK (fun _ => 0) 12)))] H := hP
  have hD : va_D A [(m0, .inr (2, [.int th, .int (nI n), .int rg, .int st, .ref bV, .ref bW, .ref bR, .ref bP9, .ref bK, .ref bT, .ref bC])), (bV, .inl (cA, 12, .inl fV)), (bW, .inl (cA, 12, .inl fW)), (bR, .inl (cA, 12, .inl fR)), (bP9, .inl (cA, 12, .inl fP)), (bK, .inl (cA, 12, .inl fK)), (bC, .inl (cA, 41, .inl fC)), (q2, .inl (cA, 12, .inl (copyF fK (fun _ => 0) 12)))] := hD
  refine lv_aload_n hx hb dX2_still_17 rfl (lv_at hl 1 rfl) ?_
  have hX_1 : Cut D A [(m0, .inr (2, [.int th, .int (nI n), .int rg, .int st, .ref bV, .ref bW, .ref bR, .ref bP9, .ref bK, .ref bT, .ref bC])), (bV, .inl (cA, 12, .inl fV)), (bW, .inl (cA, 12, .inl fW)), (bR, .inl (cA, 12, .inl fR)), (bP9, .inl (cA, 12, .inl fP)), (bK, .inl (cA, 12, .inl fK)), (bC, .inl (cA, 41, .inl fC)), (q2, .inl (cA, 12, .inl (copyF fK (fun _ => 0) 12)))] [(m0, .inr (2, [.int th, .int (nI n), .int rg, .int st, .ref bV, .ref bW, .ref bR, .ref bP9, .ref bK, .ref bT, .ref bC])), (bV, .inl (cA, 12, .inl fV)), (bW, .inl (cA, 12, .inl fW)), (bR, .inl (cA, 12, .inl fR)), (bP9, .inl (cA, 12, .inl fP)), (bK, .inl (cA, 12, .inl fK)), (bC, .inl (cA, 41, .inl fC))] [(q2, .inl (cA, 12, .inl (copyF fK (fun _ => 0) 12)))] [(cA, .int)] [(cA, .int)] [0, 1, 2, 3, 4, 5, 6] [7] [0] := ⟨rfl, rfl, rfl, rfl, by decide, rfl⟩
  refine ki hX_1 hP hD hS hA (kRunV (q := (RX2, TX2, 11)) (As := []) (rest := []) F (c_X2_roundOn l D cA m0 th n rg st bV bW bR bP9 bK bT bC fV fW fR fP fK fC hn hI H.size) (cwV 0 hts gX2_still_X2_roundOn rfl rfl rfl (by decide +kernel) ⟨Nat.le_of_ble_eq_true rfl, Nat.le_of_ble_eq_true rfl⟩) hK hP hD hX_1 0 rfl rfl rfl hl.1 rfl (Nat.le_of_ble_eq_true rfl) dX2_still_18 ⟨Nat.le_of_ble_eq_true rfl, Nat.le_of_ble_eq_true rfl⟩) (fun r_2 u_3 H locs hw_4 hP hD hS => ?_)
  have hw_4 : r_2 = rndM fW fR fP n st fK := hw_4
  rw [hw_4]
  have hP : va_P D vwCl [(q2, .inl (cA, 12, .inl (copyF fK (fun _ => 0) 12))), (m0, .inr (2, [.int th, .int (nI n), .int rg, .int st, .ref bV, .ref bW, .ref bR, .ref bP9, .ref bK, .ref bT, .ref bC])), (bV, .inl (cA, 12, .inl fV)), (bW, .inl (cA, 12, .inl fW)), (bR, .inl (cA, 12, .inl fR)), (bP9, .inl (cA, 12, .inl fP)), (bK, .inl (cA, 12, .inl (rndF fW fR fP n st fK))), (bC, .inl (cA, 41, .inl u_3))] H := hP
  have hD : va_D A [(q2, .inl (cA, 12, .inl (copyF fK (fun _ => 0) 12))), (m0, .inr (2, [.int th, .int (nI n), .int rg, .int st, .ref bV, .ref bW, .ref bR, .ref bP9, .ref bK, .ref bT, .ref bC])), (bV, .inl (cA, 12, .inl fV)), (bW, .inl (cA, 12, .inl fW)), (bR, .inl (cA, 12, .inl fR)), (bP9, .inl (cA, 12, .inl fP)), (bK, .inl (cA, 12, .inl (rndF fW fR fP n st fK))), (bC, .inl (cA, 41, .inl u_3))] := hD
  refine lv_if_ne (tgt := 28) hx hb dX2_still_21 (by decide) (fun c_21 => ?_) (fun c_21 => ?_)
  · skip
    refine lv_iconst (v := 0) hx hb dX2_still_28 (by decide) ?_
    refine lv_istore_n (lv' := [(2, .int 0), (1, .ref q2), (0, .ref m0)]) hx hb dX2_still_29 rfl hl (by decide) rfl (fun ls hl => ?_)
    refine lv_aload_n hx hb dX2_still_30 rfl (lv_at hl 1 rfl) ?_
    refine lv_iconst (v := 0) hx hb dX2_still_31 (by decide) ?_
    refine lv_aload_n hx hb dX2_still_32 rfl (lv_at hl 2 rfl) ?_
    refine va_get (D := D) (ci := 2) (v := .ref bK) (C := RX2) (T := TX2) (N := 11) hx hb hts uX2_X2_still hown hK hP 1 rfl rfl 8 (by decide) (hts (.fieldLink RX2 26 "RopeChoicesModel" "plank" "[I") (List.mem_of_getElem? (i := 2) rfl)) (fun _ h9 => h9) rfl dX2_still_33 ?_
    refine lv_iconst (v := 0) hx hb dX2_still_36 (by decide) ?_
    refine lv_bipush (v := 12) hx hb dX2_still_37 (by decide) ?_
    refine a_copy hx hb (hml.trans hl.1.symm) hown (hts (.methodLink RX2 45 arraycopyName) (List.mem_of_getElem? (i := 3) rfl)) (hts (.native arraycopyName) (List.mem_of_getElem? (i := 4) rfl)) (hts (.static arraycopyName) (List.mem_of_getElem? (i := 5) rfl)) (hts (.initialized "java/lang/System") (List.mem_of_getElem? (i := 6) rfl)) hK hP hD hS 0 6 0 rfl rfl rfl (Nat.le_of_ble_eq_true rfl) (Nat.le_of_ble_eq_true rfl) dX2_still_39 (fun H locs hP hD hS => ?_)
    have hP : va_P D vwCl [(q2, .inl (cA, 12, .inl (copyF fK (fun _ => 0) 12))), (m0, .inr (2, [.int th, .int (nI n), .int rg, .int st, .ref bV, .ref bW, .ref bR, .ref bP9, .ref bK, .ref bT, .ref bC])), (bV, .inl (cA, 12, .inl fV)), (bW, .inl (cA, 12, .inl fW)), (bR, .inl (cA, 12, .inl fR)), (bP9, .inl (cA, 12, .inl fP)), (bK, .inl (cA, 12, .inl (copyF (copyF fK (fun _ => 0) 12) (rndF fW fR fP n st fK) 12))), (bC, .inl (cA, 41, .inl u_3))] H := hP
    have hD : va_D A [(q2, .inl (cA, 12, .inl (copyF fK (fun _ => 0) 12))), (m0, .inr (2, [.int th, .int (nI n), .int rg, .int st, .ref bV, .ref bW, .ref bR, .ref bP9, .ref bK, .ref bT, .ref bC])), (bV, .inl (cA, 12, .inl fV)), (bW, .inl (cA, 12, .inl fW)), (bR, .inl (cA, 12, .inl fR)), (bP9, .inl (cA, 12, .inl fP)), (bK, .inl (cA, 12, .inl (copyF (copyF fK (fun _ => 0) 12) (rndF fW fR fP n st fK) 12))), (bC, .inl (cA, 41, .inl u_3))] := hD
    obtain ⟨hP, hD⟩ := w_cg (g := fK) hP hD 6 rfl (fun i9 h9 => by simp [copyF, h9])
    have hP : va_P D vwCl [(q2, .inl (cA, 12, .inl (copyF fK (fun _ => 0) 12))), (m0, .inr (2, [.int th, .int (nI n), .int rg, .int st, .ref bV, .ref bW, .ref bR, .ref bP9, .ref bK, .ref bT, .ref bC])), (bV, .inl (cA, 12, .inl fV)), (bW, .inl (cA, 12, .inl fW)), (bR, .inl (cA, 12, .inl fR)), (bP9, .inl (cA, 12, .inl fP)), (bK, .inl (cA, 12, .inl fK)), (bC, .inl (cA, 41, .inl u_3))] H := hP
    have hD : va_D A [(q2, .inl (cA, 12, .inl (copyF fK (fun _ => 0) 12))), (m0, .inr (2, [.int th, .int (nI n), .int rg, .int st, .ref bV, .ref bW, .ref bR, .ref bP9, .ref bK, .ref bT, .ref bC])), (bV, .inl (cA, 12, .inl fV)), (bW, .inl (cA, 12, .inl fW)), (bR, .inl (cA, 12, .inl fR)), (bP9, .inl (cA, 12, .inl fP)), (bK, .inl (cA, 12, .inl fK)), (bC, .inl (cA, 41, .inl u_3))] := hD
    refine lv_iload_n hx hb dX2_still_42 rfl (lv_at hl 0 rfl) ?_
    refine useQ hQ ?_
    exact e_z (v := 0) F hr hlocks hK hP hD hS [1, 2, 3, 4, 5, 6, 7] [0] u_3 (by first | exact Or.inl rfl | exact Or.inr rfl | exact bP_01 _) (bP_f c_21) rfl rfl rfl (Nat.le_of_ble_eq_true rfl) (Nat.le_of_ble_eq_true rfl) dX2_still_43
  · skip
    refine lv_iconst (v := 1) hx hb dX2_still_24 (by decide) ?_
    refine lv_goto (tgt := 29) hx hb dX2_still_25 (by decide) ?_
    refine lv_istore_n (lv' := [(2, .int 1), (1, .ref q2), (0, .ref m0)]) hx hb dX2_still_29 rfl hl (by decide) rfl (fun ls hl => ?_)
    refine lv_aload_n hx hb dX2_still_30 rfl (lv_at hl 1 rfl) ?_
    refine lv_iconst (v := 0) hx hb dX2_still_31 (by decide) ?_
    refine lv_aload_n hx hb dX2_still_32 rfl (lv_at hl 2 rfl) ?_
    refine va_get (D := D) (ci := 2) (v := .ref bK) (C := RX2) (T := TX2) (N := 11) hx hb hts uX2_X2_still hown hK hP 1 rfl rfl 8 (by decide) (hts (.fieldLink RX2 26 "RopeChoicesModel" "plank" "[I") (List.mem_of_getElem? (i := 2) rfl)) (fun _ h9 => h9) rfl dX2_still_33 ?_
    refine lv_iconst (v := 0) hx hb dX2_still_36 (by decide) ?_
    refine lv_bipush (v := 12) hx hb dX2_still_37 (by decide) ?_
    refine a_copy hx hb (hml.trans hl.1.symm) hown (hts (.methodLink RX2 45 arraycopyName) (List.mem_of_getElem? (i := 3) rfl)) (hts (.native arraycopyName) (List.mem_of_getElem? (i := 4) rfl)) (hts (.static arraycopyName) (List.mem_of_getElem? (i := 5) rfl)) (hts (.initialized "java/lang/System") (List.mem_of_getElem? (i := 6) rfl)) hK hP hD hS 0 6 0 rfl rfl rfl (Nat.le_of_ble_eq_true rfl) (Nat.le_of_ble_eq_true rfl) dX2_still_39 (fun H locs hP hD hS => ?_)
    have hP : va_P D vwCl [(q2, .inl (cA, 12, .inl (copyF fK (fun _ => 0) 12))), (m0, .inr (2, [.int th, .int (nI n), .int rg, .int st, .ref bV, .ref bW, .ref bR, .ref bP9, .ref bK, .ref bT, .ref bC])), (bV, .inl (cA, 12, .inl fV)), (bW, .inl (cA, 12, .inl fW)), (bR, .inl (cA, 12, .inl fR)), (bP9, .inl (cA, 12, .inl fP)), (bK, .inl (cA, 12, .inl (copyF (copyF fK (fun _ => 0) 12) (rndF fW fR fP n st fK) 12))), (bC, .inl (cA, 41, .inl u_3))] H := hP
    have hD : va_D A [(q2, .inl (cA, 12, .inl (copyF fK (fun _ => 0) 12))), (m0, .inr (2, [.int th, .int (nI n), .int rg, .int st, .ref bV, .ref bW, .ref bR, .ref bP9, .ref bK, .ref bT, .ref bC])), (bV, .inl (cA, 12, .inl fV)), (bW, .inl (cA, 12, .inl fW)), (bR, .inl (cA, 12, .inl fR)), (bP9, .inl (cA, 12, .inl fP)), (bK, .inl (cA, 12, .inl (copyF (copyF fK (fun _ => 0) 12) (rndF fW fR fP n st fK) 12))), (bC, .inl (cA, 41, .inl u_3))] := hD
    obtain ⟨hP, hD⟩ := w_cg (g := fK) hP hD 6 rfl (fun i9 h9 => by simp [copyF, h9])
    have hP : va_P D vwCl [(q2, .inl (cA, 12, .inl (copyF fK (fun _ => 0) 12))), (m0, .inr (2, [.int th, .int (nI n), .int rg, .int st, .ref bV, .ref bW, .ref bR, .ref bP9, .ref bK, .ref bT, .ref bC])), (bV, .inl (cA, 12, .inl fV)), (bW, .inl (cA, 12, .inl fW)), (bR, .inl (cA, 12, .inl fR)), (bP9, .inl (cA, 12, .inl fP)), (bK, .inl (cA, 12, .inl fK)), (bC, .inl (cA, 41, .inl u_3))] H := hP
    have hD : va_D A [(q2, .inl (cA, 12, .inl (copyF fK (fun _ => 0) 12))), (m0, .inr (2, [.int th, .int (nI n), .int rg, .int st, .ref bV, .ref bW, .ref bR, .ref bP9, .ref bK, .ref bT, .ref bC])), (bV, .inl (cA, 12, .inl fV)), (bW, .inl (cA, 12, .inl fW)), (bR, .inl (cA, 12, .inl fR)), (bP9, .inl (cA, 12, .inl fP)), (bK, .inl (cA, 12, .inl fK)), (bC, .inl (cA, 41, .inl u_3))] := hD
    refine lv_iload_n hx hb dX2_still_42 rfl (lv_at hl 0 rfl) ?_
    refine useQ hQ ?_
    exact e_z (v := 1) F hr hlocks hK hP hD hS [1, 2, 3, 4, 5, 6, 7] [0] u_3 (by first | exact Or.inl rfl | exact Or.inr rfl | exact bP_01 _) (bP_t c_21) rfl rfl rfl (Nat.le_of_ble_eq_true rfl) (Nat.le_of_ble_eq_true rfl) dX2_still_43
