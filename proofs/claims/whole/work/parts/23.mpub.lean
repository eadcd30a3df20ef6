theorem win_p {va vb a b : Int32} (h : (0 < va - vb ↔ vb < va) ∧ (va - vb < 0 ↔ va < vb)) (c : ¬ va - vb ≤ 0) : a = winF va vb a b := by
  have h1 := h.1.mp (Int32.not_le.mp c)
  exact winF_gt (fun z => Int32.lt_irrefl (by rw [z] at h1; exact h1)) h1
theorem win_m {va vb a b : Int32} (h : (0 < va - vb ↔ vb < va) ∧ (va - vb < 0 ↔ va < vb)) (c : va - vb ≤ 0) (c2 : ¬ 0 ≤ va - vb) : b = winF va vb a b := by
  have h1 := h.2.mp (Int32.not_le.mp c2)
  exact winF_lt (fun z => Int32.lt_irrefl (by rw [z] at h1; exact h1)) (fun z => Int32.lt_irrefl (Int32.lt_of_lt_of_le h1 (Int32.le_of_lt z)))
theorem win_z {va vb a b : Int32} (h : (0 < va - vb ↔ vb < va) ∧ (va - vb < 0 ↔ va < vb)) (c : va - vb ≤ 0) (c2 : 0 ≤ va - vb) : jmin a b = winF va vb a b :=
  winF_eq (Int32.le_antisymm (Int32.not_lt.mp (fun z => Int32.not_lt.mpr c (h.1.mpr z))) (Int32.not_lt.mp (fun z => Int32.not_lt.mpr c2 (h.2.mpr z))))
theorem uX2_X2_of : ∀ w ∈ u_ws RX2 TX2 11, w ∈ wsX2_of := (fun _ h => List.mem_cons_of_mem _ (List.mem_append_right _ h))
set_option maxHeartbeats 4000000 in
set_option maxRecDepth 100000 in
theorem c_X2_of (l : Launch) (D : va_G) (cA : ClassId) (m0 : Nat) (th : Int32) (n : Nat) (rg : Int32) (st : Int32) (bV : Nat) (bW : Nat) (bR : Nat) (bP9 : Nat) (bK : Nat) (bT : Nat) (bC : Nat) (d : Int32) (w : Nat) (fw : Nat → Int32) (hn : n ≤ 12) (sz : Nat) : Met l yX2_of wsX2_of ({ frames := 2, cells := 0, slots := 0, locals := 43 } : Room) (va_Pc [.ref m0, .int d, .ref w] (Wd D [(cA, .int)] [(m0, .inr (2, [.int th, .int (nI n), .int rg, .int st, .ref bV, .ref bW, .ref bR, .ref bP9, .ref bK, .ref bT, .ref bC])), (w, .inl (cA, 12, .inl fw))] sz)) (va_Qi (fun (r : Int32) (u : Int32) => u = cd1 (¬ okD n d) ∧ (cd1 (¬ okD n d) = 0 → r = fw (dN d))) (fun (u : Int32) t => We D [(cA, .int)] [(m0, .inr (2, [.int u, .int (nI n), .int rg, .int st, .ref bV, .ref bW, .ref bR, .ref bP9, .ref bK, .ref bT, .ref bC])), (w, .inl (cA, 12, .inl fw))] (va_A [(m0, .inr (2, [.int th, .int (nI n), .int rg, .int st, .ref bV, .ref bW, .ref bR, .ref bP9, .ref bK, .ref bT, .ref bC])), (w, .inl (cA, 12, .inl fw))] sz) t) (va_A [(m0, .inr (2, [.int th, .int (nI n), .int rg, .int st, .ref bV, .ref bW, .ref bR, .ref bP9, .ref bK, .ref bT, .ref bC])), (w, .inl (cA, 12, .inl fw))] sz)) 0 0 (va_A [(m0, .inr (2, [.int th, .int (nI n), .int rg, .int st, .ref bV, .ref bW, .ref bR, .ref bP9, .ref bK, .ref bT, .ref bC])), (w, .inl (cA, 12, .inl fw))] sz) := by
  refine mk_met [.ref m0, .int d, .ref w] (fun A => va_Qi (fun (r : Int32) (u : Int32) => u = cd1 (¬ okD n d) ∧ (cd1 (¬ okD n d) = 0 → r = fw (dN d))) (fun (u : Int32) t => We D [(cA, .int)] [(m0, .inr (2, [.int u, .int (nI n), .int rg, .int st, .ref bV, .ref bW, .ref bR, .ref bP9, .ref bK, .ref bT, .ref bC])), (w, .inl (cA, 12, .inl fw))] A t) A) (by decide) rfl (Nat.le_of_ble_eq_true rfl) ?_
  intro p e s m args below meth c A ls F hr hlocks hname hP hK hD hA hl
  have hx := F.1
  have hb := F.2.1
  have hml := F.2.2.1
  have hown := F.2.2.2.1
  have hts := F.2.2.2.2
  have hS : va_S A s.heap s.heap [] := va_S.rf
  have hl : lv_has ls 3 [(0, .ref m0), (1, .int d), (2, .ref w)] := hl
  refine absQ (fun Q hQ => ?_)
  refine lv_aload_n hx hb dX2_of_0 rfl (lv_at hl 0 rfl) ?_
  refine lv_iconst (v := 0) hx hb dX2_of_1 (by decide) ?_
  refine va_put (D := D) (ci := 2) (v := .int 0) (ty := .int) (C := RX2) (T := TX2) (N := 11) hx hb hts uX2_X2_of tyX2 tyX2_ok nmX2 hown hK hP hD hS 0 rfl rfl 0 (by decide) (hts (.fieldLink RX2 35 "RopeChoicesModel" "thrown" "I") (List.mem_of_getElem? (i := 1) rfl)) (fun _ h9 => h9) rfl (by decide +kernel) rfl rfl (Nat.le_of_ble_eq_true rfl) dX2_of_2 (fun H locs hP hD hS => ?_)
  have hP : va_P D vwCl [(m0, .inr (2, [.int 0, .int (nI n), .int rg, .int st, .ref bV, .ref bW, .ref bR, .ref bP9, .ref bK, .ref bT, .ref bC])), (w, .inl (cA, 12, .inl fw))] H := hP
  have hD : va_D A [(m0, .inr (2, [.int 0, .int (nI n), .int rg, .int st, .ref bV, .ref bW, .ref bR, .ref bP9, .ref bK, .ref bT, .ref bC])), (w, .inl (cA, 12, .inl fw))] := hD
  refine lv_aload_n hx hb dX2_of_5 rfl (lv_at hl 0 rfl) ?_
  refine lv_iload_n hx hb dX2_of_6 rfl (lv_at hl 1 rfl) ?_
  have hX_1 : Cut D A [(m0, .inr (2, [.int 0, .int (nI n), .int rg, .int st, .ref bV, .ref bW, .ref bR, .ref bP9, .ref bK, .ref bT, .ref bC])), (w, .inl (cA, 12, .inl fw))] [(m0, .inr (2, [.int 0, .int (nI n), .int rg, .int st, .ref bV, .ref bW, .ref bR, .ref bP9, .ref bK, .ref bT, .ref bC]))] [(w, .inl (cA, 12, .inl fw))] [(cA, .int)] [(cA, .int)] [0] [1] [0] := ⟨rfl, rfl, rfl, rfl, by decide, rfl⟩
  refine ki hX_1 hP hD hS hA (kRunV (q := (RX2, TX2, 11)) (As := [.int d]) (rest := []) F (c_X2_isDelegate l D cA m0 0 n rg st bV bW bR bP9 bK bT bC d hn H.size) (cwV 1 hts gX2_of_X2_isDelegate rfl rfl rfl (by decide +kernel) ⟨Nat.le_of_ble_eq_true rfl, Nat.le_of_ble_eq_true rfl⟩) hK hP hD hX_1 0 rfl rfl rfl hl.1 rfl (Nat.le_of_ble_eq_true rfl) dX2_of_7 ⟨Nat.le_of_ble_eq_true rfl, Nat.le_of_ble_eq_true rfl⟩) (fun r_2 u_3 H locs hw_4 hP hD hS => ?_)
  have hw_4 : r_2 = bP (okD n d) := hw_4
  rw [hw_4]
  have hP : va_P D vwCl [(w, .inl (cA, 12, .inl fw)), (m0, .inr (2, [.int 0, .int (nI n), .int rg, .int st, .ref bV, .ref bW, .ref bR, .ref bP9, .ref bK, .ref bT, .ref bC]))] H := hP
  have hD : va_D A [(w, .inl (cA, 12, .inl fw)), (m0, .inr (2, [.int 0, .int (nI n), .int rg, .int st, .ref bV, .ref bW, .ref bR, .ref bP9, .ref bK, .ref bT, .ref bC]))] := hD
  refine lv_if_eq (tgt := 19) hx hb dX2_of_10 (by decide) (fun c_10 => ?_) (fun c_10 => ?_)
  · skip
    refine lv_aload_n hx hb dX2_of_19 rfl (lv_at hl 0 rfl) ?_
    refine lv_iconst (v := 1) hx hb dX2_of_20 (by decide) ?_
    have hX_5 : Cut D A [(w, .inl (cA, 12, .inl fw)), (m0, .inr (2, [.int 0, .int (nI n), .int rg, .int st, .ref bV, .ref bW, .ref bR, .ref bP9, .ref bK, .ref bT, .ref bC]))] [(m0, .inr (2, [.int 0, .int (nI n), .int rg, .int st, .ref bV, .ref bW, .ref bR, .ref bP9, .ref bK, .ref bT, .ref bC]))] [(w, .inl (cA, 12, .inl fw))] [(cA, .int)] [(cA, .int)] [1] [0] [0] := ⟨rfl, rfl, rfl, rfl, by decide, rfl⟩
    refine ki hX_5 hP hD hS hA (kRunV (q := (RX2, TX2, 11)) (As := [.int 1]) (rest := []) F (c_X2_fail l D cA m0 0 n rg st bV bW bR bP9 bK bT bC 1 H.size) (cwV 1 hts gX2_of_X2_fail rfl rfl rfl (by decide +kernel) ⟨Nat.le_of_ble_eq_true rfl, Nat.le_of_ble_eq_true rfl⟩) hK hP hD hX_5 1 rfl rfl rfl hl.1 rfl (Nat.le_of_ble_eq_true rfl) dX2_of_21 ⟨Nat.le_of_ble_eq_true rfl, Nat.le_of_ble_eq_true rfl⟩) (fun r_6 u_7 H locs hw_8 hP hD hS => ?_)
    have hw_8 : r_6 = 0 := hw_8
    rw [hw_8]
    have hP : va_P D vwCl [(w, .inl (cA, 12, .inl fw)), (m0, .inr (2, [.int 1, .int (nI n), .int rg, .int st, .ref bV, .ref bW, .ref bR, .ref bP9, .ref bK, .ref bT, .ref bC]))] H := hP
    have hD : va_D A [(w, .inl (cA, 12, .inl fw)), (m0, .inr (2, [.int 1, .int (nI n), .int rg, .int st, .ref bV, .ref bW, .ref bR, .ref bP9, .ref bK, .ref bT, .ref bC]))] := hD
    refine useQ hQ ?_
    exact e_i (v := 0) F hr hlocks hK hP hD hS [1, 0] [0] 1 (⟨(cd1_1 (bP_eq c_10)).symm, fun z => cx1 (cd1_1 (bP_eq c_10)) z⟩) rfl rfl rfl (Nat.le_of_ble_eq_true rfl) (Nat.le_of_ble_eq_true rfl) dX2_of_24
  · skip
    obtain ⟨j, hj, hd9⟩ := (bP_ne c_10)
    subst hd9
    have hD9 : okD n (nI j) := ⟨j, hj, rfl⟩
    have hdn : dN (nI j) = j := dN_nI (by omega)
    refine lv_aload_n hx hb dX2_of_13 rfl (lv_at hl 2 rfl) ?_
    refine lv_iload_n hx hb dX2_of_14 rfl (lv_at hl 1 rfl) ?_
    refine a_ld (k := j) hx hb hK hP 0 0 rfl rfl (by omega) (Nat.le_of_ble_eq_true rfl) dX2_of_15 ?_
    refine lv_goto (tgt := 24) hx hb dX2_of_16 (by decide) ?_
    refine useQ hQ ?_
    exact e_i (v := (fw j)) F hr hlocks hK hP hD hS [1, 0] [0] 0 (⟨(cd1_0 (not_not_intro hD9)).symm, fun _ => by rw [hdn]⟩) rfl rfl rfl (Nat.le_of_ble_eq_true rfl) (Nat.le_of_ble_eq_true rfl) dX2_of_24
theorem uX2_X2_villageOf : ∀ w ∈ u_ws RX2 TX2 11, w ∈ wsX2_villageOf := (fun _ h => List.mem_cons_of_mem _ (List.mem_append_right _ h))
set_option maxHeartbeats 4000000 in
set_option maxRecDepth 100000 in
theorem c_X2_villageOf (l : Launch) (D : va_G) (cA : ClassId) (m0 : Nat) (th : Int32) (n : Nat) (rg : Int32) (st : Int32) (bV : Nat) (bW : Nat) (bR : Nat) (bP9 : Nat) (bK : Nat) (bT : Nat) (bC : Nat) (fV : Nat → Int32) (d : Int32) (hn : n ≤ 12) (sz : Nat) : Met l yX2_villageOf wsX2_villageOf ({ frames := 3, cells := 0, slots := 0, locals := 65 } : Room) (va_Pc [.ref m0, .int d] (Wd D [(cA, .int)] [(m0, .inr (2, [.int th, .int (nI n), .int rg, .int st, .ref bV, .ref bW, .ref bR, .ref bP9, .ref bK, .ref bT, .ref bC])), (bV, .inl (cA, 12, .inl fV))] sz)) (va_Qi (fun (r : Int32) (u : Int32) => u = cd1 (¬ okD n d) ∧ (cd1 (¬ okD n d) = 0 → r = fV (dN d))) (fun (u : Int32) t => We D [(cA, .int)] [(m0, .inr (2, [.int u, .int (nI n), .int rg, .int st, .ref bV, .ref bW, .ref bR, .ref bP9, .ref bK, .ref bT, .ref bC])), (bV, .inl (cA, 12, .inl fV))] (va_A [(m0, .inr (2, [.int th, .int (nI n), .int rg, .int st, .ref bV, .ref bW, .ref bR, .ref bP9, .ref bK, .ref bT, .ref bC])), (bV, .inl (cA, 12, .inl fV))] sz) t) (va_A [(m0, .inr (2, [.int th, .int (nI n), .int rg, .int st, .ref bV, .ref bW, .ref bR, .ref bP9, .ref bK, .ref bT, .ref bC])), (bV, .inl (cA, 12, .inl fV))] sz)) 0 0 (va_A [(m0, .inr (2, [.int th, .int (nI n), .int rg, .int st, .ref bV, .ref bW, .ref bR, .ref bP9, .ref bK, .ref bT, .ref bC])), (bV, .inl (cA, 12, .inl fV))] sz) := by
  refine mk_met [.ref m0, .int d] (fun A => va_Qi (fun (r : Int32) (u : Int32) => u = cd1 (¬ okD n d) ∧ (cd1 (¬ okD n d) = 0 → r = fV (dN d))) (fun (u : Int32) t => We D [(cA, .int)] [(m0, .inr (2, [.int u, .int (nI n), .int rg, .int st, .ref bV, .ref bW, .ref bR, .ref bP9, .ref bK, .ref bT, .ref bC])), (bV, .inl (cA, 12, .inl fV))] A t) A) (by decide) rfl (Nat.le_of_ble_eq_true rfl) ?_
  intro p e s m args below meth c A ls F hr hlocks hname hP hK hD hA hl
  have hx := F.1
  have hb := F.2.1
  have hml := F.2.2.1
  have hown := F.2.2.2.1
  have hts := F.2.2.2.2
  have hS : va_S A s.heap s.heap [] := va_S.rf
  have hl : lv_has ls 2 [(0, .ref m0), (1, .int d)] := hl
  refine absQ (fun Q hQ => ?_)
  refine lv_aload_n hx hb dX2_villageOf_0 rfl (lv_at hl 0 rfl) ?_
  refine lv_iload_n hx hb dX2_villageOf_1 rfl (lv_at hl 1 rfl) ?_
  refine lv_aload_n hx hb dX2_villageOf_2 rfl (lv_at hl 0 rfl) ?_
  refine va_get (D := D) (ci := 2) (v := .ref bV) (C := RX2) (T := TX2) (N := 11) hx hb hts uX2_X2_villageOf hown hK hP 0 rfl rfl 4 (by decide) (hts (.fieldLink RX2 13 "RopeChoicesModel" "village" "[I") (List.mem_of_getElem? (i := 1) rfl)) (fun _ h9 => h9) rfl dX2_villageOf_3 ?_
  have hX_1 : Cut D A [(m0, .inr (2, [.int th, .int (nI n), .int rg, .int st, .ref bV, .ref bW, .ref bR, .ref bP9, .ref bK, .ref bT, .ref bC])), (bV, .inl (cA, 12, .inl fV))] [(m0, .inr (2, [.int th, .int (nI n), .int rg, .int st, .ref bV, .ref bW, .ref bR, .ref bP9, .ref bK, .ref bT, .ref bC])), (bV, .inl (cA, 12, .inl fV))] [] [(cA, .int)] [(cA, .int)] [0, 1] [] [0] := ⟨rfl, rfl, rfl, rfl, by decide, rfl⟩
  refine ki hX_1 hP hD hS hA (kRunV (q := (RX2, TX2, 11)) (As := [.int d, .ref bV]) (rest := []) F (c_X2_of l D cA m0 th n rg st bV bW bR bP9 bK bT bC d bV fV hn s.heap.size) (cwV 2 hts gX2_villageOf_X2_of rfl rfl rfl (by decide +kernel) ⟨Nat.le_of_ble_eq_true rfl, Nat.le_of_ble_eq_true rfl⟩) hK hP hD hX_1 0 rfl rfl rfl hl.1 rfl (Nat.le_of_ble_eq_true rfl) dX2_villageOf_6 ⟨Nat.le_of_ble_eq_true rfl, Nat.le_of_ble_eq_true rfl⟩) (fun r_2 u_3 H locs hw_4 hP hD hS => ?_)
  have hw_4 : u_3 = cd1 (¬ okD n d) ∧ (cd1 (¬ okD n d) = 0 → r_2 = fV (dN d)) := hw_4
  have hP : va_P D vwCl [(m0, .inr (2, [.int u_3, .int (nI n), .int rg, .int st, .ref bV, .ref bW, .ref bR, .ref bP9, .ref bK, .ref bT, .ref bC])), (bV, .inl (cA, 12, .inl fV))] H := hP
  have hD : va_D A [(m0, .inr (2, [.int u_3, .int (nI n), .int rg, .int st, .ref bV, .ref bW, .ref bR, .ref bP9, .ref bK, .ref bT, .ref bC])), (bV, .inl (cA, 12, .inl fV))] := hD
  refine useQ hQ ?_
  exact e_i (v := r_2) F hr hlocks hK hP hD hS [0, 1] [0] u_3 hw_4 rfl rfl rfl (Nat.le_of_ble_eq_true rfl) (Nat.le_of_ble_eq_true rfl) dX2_villageOf_9
theorem uX2_X2_wishOf : ∀ w ∈ u_ws RX2 TX2 11, w ∈ wsX2_wishOf := (fun _ h => List.mem_cons_of_mem _ (List.mem_append_right _ h))
set_option maxHeartbeats 4000000 in
set_option maxRecDepth 100000 in
theorem c_X2_wishOf (l : Launch) (D : va_G) (cA : ClassId) (m0 : Nat) (th : Int32) (n : Nat) (rg : Int32) (st : Int32) (bV : Nat) (bW : Nat) (bR : Nat) (bP9 : Nat) (bK : Nat) (bT : Nat) (bC : Nat) (fW : Nat → Int32) (d : Int32) (hn : n ≤ 12) (sz : Nat) : Met l yX2_wishOf wsX2_wishOf ({ frames := 3, cells := 0, slots := 0, locals := 65 } : Room) (va_Pc [.ref m0, .int d] (Wd D [(cA, .int)] [(m0, .inr (2, [.int th, .int (nI n), .int rg, .int st, .ref bV, .ref bW, .ref bR, .ref bP9, .ref bK, .ref bT, .ref bC])), (bW, .inl (cA, 12, .inl fW))] sz)) (va_Qi (fun (r : Int32) (u : Int32) => u = cd1 (¬ okD n d) ∧ (cd1 (¬ okD n d) = 0 → r = fW (dN d))) (fun (u : Int32) t => We D [(cA, .int)] [(m0, .inr (2, [.int u, .int (nI n), .int rg, .int st, .ref bV, .ref bW, .ref bR, .ref bP9, .ref bK, .ref bT, .ref bC])), (bW, .inl (cA, 12, .inl fW))] (va_A [(m0, .inr (2, [.int th, .int (nI n), .int rg, .int st, .ref bV, .ref bW, .ref bR, .ref bP9, .ref bK, .ref bT, .ref bC])), (bW, .inl (cA, 12, .inl fW))] sz) t) (va_A [(m0, .inr (2, [.int th, .int (nI n), .int rg, .int st, .ref bV, .ref bW, .ref bR, .ref bP9, .ref bK, .ref bT, .ref bC])), (bW, .inl (cA, 12, .inl fW))] sz)) 0 0 (va_A [(m0, .inr (2, [.int th, .int (nI n), .int rg, .int st, .ref bV, .ref bW, .ref bR, .ref bP9, .ref bK, .ref bT, .ref bC])), (bW, .inl (cA, 12, .inl fW))] sz) := by
  refine mk_met [.ref m0, .int d] (fun A => va_Qi (fun (r : Int32) (u : Int32) => u = cd1 (¬ okD n d) ∧ (cd1 (¬ okD n d) = 0 → r = fW (dN d))) (fun (u : Int32) t => We D [(cA, .int)] [(m0, .inr (2, [.int u, .int (nI n), .int rg, .int st, .ref bV, .ref bW, .ref bR, .ref bP9, .ref bK, .ref bT, .ref bC])), (bW, .inl (cA, 12, .inl fW))] A t) A) (by decide) rfl (Nat.le_of_ble_eq_true rfl) ?_
  intro p e s m args below meth c A ls F hr hlocks hname hP hK hD hA hl
  have hx := F.1
  have hb := F.2.1
  have hml := F.2.2.1
  have hown := F.2.2.2.1
  have hts := F.2.2.2.2
  have hS : va_S A s.heap s.heap [] := va_S.rf
  have hl : lv_has ls 2 [(0, .ref m0), (1, .int d)] := hl
  refine absQ (fun Q hQ => ?_)
  refine lv_aload_n hx hb dX2_wishOf_0 rfl (lv_at hl 0 rfl) ?_
  refine lv_iload_n hx hb dX2_wishOf_1 rfl (lv_at hl 1 rfl) ?_
  refine lv_aload_n hx hb dX2_wishOf_2 rfl (lv_at hl 0 rfl) ?_
  refine va_get (D := D) (ci := 2) (v := .ref bW) (C := RX2) (T := TX2) (N := 11) hx hb hts uX2_X2_wishOf hown hK hP 0 rfl rfl 5 (by decide) (hts (.fieldLink RX2 17 "RopeChoicesModel" "wish" "[I") (List.mem_of_getElem? (i := 1) rfl)) (fun _ h9 => h9) rfl dX2_wishOf_3 ?_
  have hX_1 : Cut D A [(m0, .inr (2, [.int th, .int (nI n), .int rg, .int st, .ref bV, .ref bW, .ref bR, .ref bP9, .ref bK, .ref bT, .ref bC])), (bW, .inl (cA, 12, .inl fW))] [(m0, .inr (2, [.int th, .int (nI n), .int rg, .int st, .ref bV, .ref bW, .ref bR, .ref bP9, .ref bK, .ref bT, .ref bC])), (bW, .inl (cA, 12, .inl fW))] [] [(cA, .int)] [(cA, .int)] [0, 1] [] [0] := ⟨rfl, rfl, rfl, rfl, by decide, rfl⟩
  refine ki hX_1 hP hD hS hA (kRunV (q := (RX2, TX2, 11)) (As := [.int d, .ref bW]) (rest := []) F (c_X2_of l D cA m0 th n rg st bV bW bR bP9 bK bT bC d bW fW hn s.heap.size) (cwV 2 hts gX2_wishOf_X2_of rfl rfl rfl (by decide +kernel) ⟨Nat.le_of_ble_eq_true rfl, Nat.le_of_ble_eq_true rfl⟩) hK hP hD hX_1 0 rfl rfl rfl hl.1 rfl (Nat.le_of_ble_eq_true rfl) dX2_wishOf_6 ⟨Nat.le_of_ble_eq_true rfl, Nat.le_of_ble_eq_true rfl⟩) (fun r_2 u_3 H locs hw_4 hP hD hS => ?_)
  have hw_4 : u_3 = cd1 (¬ okD n d) ∧ (cd1 (¬ okD n d) = 0 → r_2 = fW (dN d)) := hw_4
  have hP : va_P D vwCl [(m0, .inr (2, [.int u_3, .int (nI n), .int rg, .int st, .ref bV, .ref bW, .ref bR, .ref bP9, .ref bK, .ref bT, .ref bC])), (bW, .inl (cA, 12, .inl fW))] H := hP
  have hD : va_D A [(m0, .inr (2, [.int u_3, .int (nI n), .int rg, .int st, .ref bV, .ref bW, .ref bR, .ref bP9, .ref bK, .ref bT, .ref bC])), (bW, .inl (cA, 12, .inl fW))] := hD
  refine useQ hQ ?_
  exact e_i (v := r_2) F hr hlocks hK hP hD hS [0, 1] [0] u_3 hw_4 rfl rfl rfl (Nat.le_of_ble_eq_true rfl) (Nat.le_of_ble_eq_true rfl) dX2_wishOf_9
theorem uX2_X2_reachOf : ∀ w ∈ u_ws RX2 TX2 11, w ∈ wsX2_reachOf := (fun _ h => List.mem_cons_of_mem _ (List.mem_append_right _ h))
set_option maxHeartbeats 4000000 in
set_option maxRecDepth 100000 in
theorem c_X2_reachOf (l : Launch) (D : va_G) (cA : ClassId) (m0 : Nat) (th : Int32) (n : Nat) (rg : Int32) (st : Int32) (bV : Nat) (bW : Nat) (bR : Nat) (bP9 : Nat) (bK : Nat) (bT : Nat) (bC : Nat) (fR : Nat → Int32) (d : Int32) (hn : n ≤ 12) (sz : Nat) : Met l yX2_reachOf wsX2_reachOf ({ frames := 3, cells := 0, slots := 0, locals := 65 } : Room) (va_Pc [.ref m0, .int d] (Wd D [(cA, .int)] [(m0, .inr (2, [.int th, .int (nI n), .int rg, .int st, .ref bV, .ref bW, .ref bR, .ref bP9, .ref bK, .ref bT, .ref bC])), (bR, .inl (cA, 12, .inl fR))] sz)) (va_Qi (fun (r : Int32) (u : Int32) => u = cd1 (¬ okD n d) ∧ (cd1 (¬ okD n d) = 0 → r = fR (dN d))) (fun (u : Int32) t => We D [(cA, .int)] [(m0, .inr (2, [.int u, .int (nI n), .int rg, .int st, .ref bV, .ref bW, .ref bR, .ref bP9, .ref bK, .ref bT, .ref bC])), (bR, .inl (cA, 12, .inl fR))] (va_A [(m0, .inr (2, [.int th, .int (nI n), .int rg, .int st, .ref bV, .ref bW, .ref bR, .ref bP9, .ref bK, .ref bT, .ref bC])), (bR, .inl (cA, 12, .inl fR))] sz) t) (va_A [(m0, .inr (2, [.int th, .int (nI n), .int rg, .int st, .ref bV, .ref bW, .ref bR, .ref bP9, .ref bK, .ref bT, .ref bC])), (bR, .inl (cA, 12, .inl fR))] sz)) 0 0 (va_A [(m0, .inr (2, [.int th, .int (nI n), .int rg, .int st, .ref bV, .ref bW, .ref bR, .ref bP9, .ref bK, .ref bT, .ref bC])), (bR, .inl (cA, 12, .inl fR))] sz) := by
  refine mk_met [.ref m0, .int d] (fun A => va_Qi (fun (r : Int32) (u : Int32) => u = cd1 (¬ okD n d) ∧ (cd1 (¬ okD n d) = 0 → r = fR (dN d))) (fun (u : Int32) t => We D [(cA, .int)] [(m0, .inr (2, [.int u, .int (nI n), .int rg, .int st, .ref bV, .ref bW, .ref bR, .ref bP9, .ref bK, .ref bT, .ref bC])), (bR, .inl (cA, 12, .inl fR))] A t) A) (by decide) rfl (Nat.le_of_ble_eq_true rfl) ?_
  intro p e s m args below meth c A ls F hr hlocks hname hP hK hD hA hl
  have hx := F.1
  have hb := F.2.1
  have hml := F.2.2.1
  have hown := F.2.2.2.1
  have hts := F.2.2.2.2
  have hS : va_S A s.heap s.heap [] := va_S.rf
  have hl : lv_has ls 2 [(0, .ref m0), (1, .int d)] := hl
  refine absQ (fun Q hQ => ?_)
  refine lv_aload_n hx hb dX2_reachOf_0 rfl (lv_at hl 0 rfl) ?_
  refine lv_iload_n hx hb dX2_reachOf_1 rfl (lv_at hl 1 rfl) ?_
  refine lv_aload_n hx hb dX2_reachOf_2 rfl (lv_at hl 0 rfl) ?_
  refine va_get (D := D) (ci := 2) (v := .ref bR) (C := RX2) (T := TX2) (N := 11) hx hb hts uX2_X2_reachOf hown hK hP 0 rfl rfl 6 (by decide) (hts (.fieldLink RX2 20 "RopeChoicesModel" "reach" "[I") (List.mem_of_getElem? (i := 1) rfl)) (fun _ h9 => h9) rfl dX2_reachOf_3 ?_
  have hX_1 : Cut D A [(m0, .inr (2, [.int th, .int (nI n), .int rg, .int st, .ref bV, .ref bW, .ref bR, .ref bP9, .ref bK, .ref bT, .ref bC])), (bR, .inl (cA, 12, .inl fR))] [(m0, .inr (2, [.int th, .int (nI n), .int rg, .int st, .ref bV, .ref bW, .ref bR, .ref bP9, .ref bK, .ref bT, .ref bC])), (bR, .inl (cA, 12, .inl fR))] [] [(cA, .int)] [(cA, .int)] [0, 1] [] [0] := ⟨rfl, rfl, rfl, rfl, by decide, rfl⟩
  refine ki hX_1 hP hD hS hA (kRunV (q := (RX2, TX2, 11)) (As := [.int d, .ref bR]) (rest := []) F (c_X2_of l D cA m0 th n rg st bV bW bR bP9 bK bT bC d bR fR hn s.heap.size) (cwV 2 hts gX2_reachOf_X2_of rfl rfl rfl (by decide +kernel) ⟨Nat.le_of_ble_eq_true rfl, Nat.le_of_ble_eq_true rfl⟩) hK hP hD hX_1 0 rfl rfl rfl hl.1 rfl (Nat.le_of_ble_eq_true rfl) dX2_reachOf_6 ⟨Nat.le_of_ble_eq_true rfl, Nat.le_of_ble_eq_true rfl⟩) (fun r_2 u_3 H locs hw_4 hP hD hS => ?_)
  have hw_4 : u_3 = cd1 (¬ okD n d) ∧ (cd1 (¬ okD n d) = 0 → r_2 = fR (dN d)) := hw_4
  have hP : va_P D vwCl [(m0, .inr (2, [.int u_3, .int (nI n), .int rg, .int st, .ref bV, .ref bW, .ref bR, .ref bP9, .ref bK, .ref bT, .ref bC])), (bR, .inl (cA, 12, .inl fR))] H := hP
  have hD : va_D A [(m0, .inr (2, [.int u_3, .int (nI n), .int rg, .int st, .ref bV, .ref bW, .ref bR, .ref bP9, .ref bK, .ref bT, .ref bC])), (bR, .inl (cA, 12, .inl fR))] := hD
  refine useQ hQ ?_
  exact e_i (v := r_2) F hr hlocks hK hP hD hS [0, 1] [0] u_3 hw_4 rfl rfl rfl (Nat.le_of_ble_eq_true rfl) (Nat.le_of_ble_eq_true rfl) dX2_reachOf_9
theorem uX2_X2_paceOf : ∀ w ∈ u_ws RX2 TX2 11, w ∈ wsX2_paceOf := (fun _ h => List.mem_cons_of_mem _ (List.mem_append_right _ h))
set_option maxHeartbeats 4000000 in
set_option maxRecDepth 100000 in
theorem c_X2_paceOf (l : Launch) (D : va_G) (cA : ClassId) (m0 : Nat) (th : Int32) (n : Nat) (rg : Int32) (st : Int32) (bV : Nat) (bW : Nat) (bR : Nat) (bP9 : Nat) (bK : Nat) (bT : Nat) (bC : Nat) (fP : Nat → Int32) (d : Int32) (hn : n ≤ 12) (sz : Nat) : Met l yX2_paceOf wsX2_paceOf ({ frames := 3, cells := 0, slots := 0, locals := 65 } : Room) (va_Pc [.ref m0, .int d] (Wd D [(cA, .int)] [(m0, .inr (2, [.int th, .int (nI n), .int rg, .int st, .ref bV, .ref bW, .ref bR, .ref bP9, .ref bK, .ref bT, .ref bC])), (bP9, .inl (cA, 12, .inl fP))] sz)) (va_Qi (fun (r : Int32) (u : Int32) => u = cd1 (¬ okD n d) ∧ (cd1 (¬ okD n d) = 0 → r = fP (dN d))) (fun (u : Int32) t => We D [(cA, .int)] [(m0, .inr (2, [.int u, .int (nI n), .int rg, .int st, .ref bV, .ref bW, .ref bR, .ref bP9, .ref bK, .ref bT, .ref bC])), (bP9, .inl (cA, 12, .inl fP))] (va_A [(m0, .inr (2, [.int th, .int (nI n), .int rg, .int st, .ref bV, .ref bW, .ref bR, .ref bP9, .ref bK, .ref bT, .ref bC])), (bP9, .inl (cA, 12, .inl fP))] sz) t) (va_A [(m0, .inr (2, [.int th, .int (nI n), .int rg, .int st, .ref bV, .ref bW, .ref bR, .ref bP9, .ref bK, .ref bT, .ref bC])), (bP9, .inl (cA, 12, .inl fP))] sz)) 0 0 (va_A [(m0, .inr (2, [.int th, .int (nI n), .int rg, .int st, .ref bV, .ref bW, .ref bR, .ref bP9, .ref bK, .ref bT, .ref bC])), (bP9, .inl (cA, 12, .inl fP))] sz) := by
  refine mk_met [.ref m0, .int d] (fun A => va_Qi (fun (r : Int32) (u : Int32) => u = cd1 (¬ okD n d) ∧ (cd1 (¬ okD n d) = 0 → r = fP (dN d))) (fun (u : Int32) t => We D [(cA, .int)] [(m0, .inr (2, [.int u, .int (nI n), .int rg, .int st, .ref bV, .ref bW, .ref bR, .ref bP9, .ref bK, .ref bT, .ref bC])), (bP9, .inl (cA, 12, .inl fP))] A t) A) (by decide) rfl (Nat.le_of_ble_eq_true rfl) ?_
  intro p e s m args below meth c A ls F hr hlocks hname hP hK hD hA hl
  have hx := F.1
  have hb := F.2.1
  have hml := F.2.2.1
  have hown := F.2.2.2.1
  have hts := F.2.2.2.2
  have hS : va_S A s.heap s.heap [] := va_S.rf
  have hl : lv_has ls 2 [(0, .ref m0), (1, .int d)] := hl
  refine absQ (fun Q hQ => ?_)
  refine lv_aload_n hx hb dX2_paceOf_0 rfl (lv_at hl 0 rfl) ?_
  refine lv_iload_n hx hb dX2_paceOf_1 rfl (lv_at hl 1 rfl) ?_
  refine lv_aload_n hx hb dX2_paceOf_2 rfl (lv_at hl 0 rfl) ?_
  refine va_get (D := D) (ci := 2) (v := .ref bP9) (C := RX2) (T := TX2) (N := 11) hx hb hts uX2_X2_paceOf hown hK hP 0 rfl rfl 7 (by decide) (hts (.fieldLink RX2 23 "RopeChoicesModel" "pace" "[I") (List.mem_of_getElem? (i := 1) rfl)) (fun _ h9 => h9) rfl dX2_paceOf_3 ?_
  have hX_1 : Cut D A [(m0, .inr (2, [.int th, .int (nI n), .int rg, .int st, .ref bV, .ref bW, .ref bR, .ref bP9, .ref bK, .ref bT, .ref bC])), (bP9, .inl (cA, 12, .inl fP))] [(m0, .inr (2, [.int th, .int (nI n), .int rg, .int st, .ref bV, .ref bW, .ref bR, .ref bP9, .ref bK, .ref bT, .ref bC])), (bP9, .inl (cA, 12, .inl fP))] [] [(cA, .int)] [(cA, .int)] [0, 1] [] [0] := ⟨rfl, rfl, rfl, rfl, by decide, rfl⟩
  refine ki hX_1 hP hD hS hA (kRunV (q := (RX2, TX2, 11)) (As := [.int d, .ref bP9]) (rest := []) F (c_X2_of l D cA m0 th n rg st bV bW bR bP9 bK bT bC d bP9 fP hn s.heap.size) (cwV 2 hts gX2_paceOf_X2_of rfl rfl rfl (by decide +kernel) ⟨Nat.le_of_ble_eq_true rfl, Nat.le_of_ble_eq_true rfl⟩) hK hP hD hX_1 0 rfl rfl rfl hl.1 rfl (Nat.le_of_ble_eq_true rfl) dX2_paceOf_6 ⟨Nat.le_of_ble_eq_true rfl, Nat.le_of_ble_eq_true rfl⟩) (fun r_2 u_3 H locs hw_4 hP hD hS => ?_)
  have hw_4 : u_3 = cd1 (¬ okD n d) ∧ (cd1 (¬ okD n d) = 0 → r_2 = fP (dN d)) := hw_4
  have hP : va_P D vwCl [(m0, .inr (2, [.int u_3, .int (nI n), .int rg, .int st, .ref bV, .ref bW, .ref bR, .ref bP9, .ref bK, .ref bT, .ref bC])), (bP9, .inl (cA, 12, .inl fP))] H := hP
  have hD : va_D A [(m0, .inr (2, [.int u_3, .int (nI n), .int rg, .int st, .ref bV, .ref bW, .ref bR, .ref bP9, .ref bK, .ref bT, .ref bC])), (bP9, .inl (cA, 12, .inl fP))] := hD
  refine useQ hQ ?_
  exact e_i (v := r_2) F hr hlocks hK hP hD hS [0, 1] [0] u_3 hw_4 rfl rfl rfl (Nat.le_of_ble_eq_true rfl) (Nat.le_of_ble_eq_true rfl) dX2_paceOf_9
theorem uX2_X2_plankOf : ∀ w ∈ u_ws RX2 TX2 11, w ∈ wsX2_plankOf := (fun _ h => List.mem_cons_of_mem _ (List.mem_append_right _ h))
set_option maxHeartbeats 4000000 in
set_option maxRecDepth 100000 in
theorem c_X2_plankOf (l : Launch) (D : va_G) (cA : ClassId) (m0 : Nat) (th : Int32) (n : Nat) (rg : Int32) (st : Int32) (bV : Nat) (bW : Nat) (bR : Nat) (bP9 : Nat) (bK : Nat) (bT : Nat) (bC : Nat) (fK : Nat → Int32) (d : Int32) (hn : n ≤ 12) (sz : Nat) : Met l yX2_plankOf wsX2_plankOf ({ frames := 3, cells := 0, slots := 0, locals := 65 } : Room) (va_Pc [.ref m0, .int d] (Wd D [(cA, .int)] [(m0, .inr (2, [.int th, .int (nI n), .int rg, .int st, .ref bV, .ref bW, .ref bR, .ref bP9, .ref bK, .ref bT, .ref bC])), (bK, .inl (cA, 12, .inl fK))] sz)) (va_Qi (fun (r : Int32) (u : Int32) => u = cd1 (¬ okD n d) ∧ (cd1 (¬ okD n d) = 0 → r = fK (dN d))) (fun (u : Int32) t => We D [(cA, .int)] [(m0, .inr (2, [.int u, .int (nI n), .int rg, .int st, .ref bV, .ref bW, .ref bR, .ref bP9, .ref bK, .ref bT, .ref bC])), (bK, .inl (cA, 12, .inl fK))] (va_A [(m0, .inr (2, [.int th, .int (nI n), .int rg, .int st, .ref bV, .ref bW, .ref bR, .ref bP9, .ref bK, .ref bT, .ref bC])), (bK, .inl (cA, 12, .inl fK))] sz) t) (va_A [(m0, .inr (2, [.int th, .int (nI n), .int rg, .int st, .ref bV, .ref bW, .ref bR, .ref bP9, .ref bK, .ref bT, .ref bC])), (bK, .inl (cA, 12, .inl fK))] sz)) 0 0 (va_A [(m0, .inr (2, [.int th, .int (nI n), .int rg, .int st, .ref bV, .ref bW, .ref bR, .ref bP9, .ref bK, .ref bT, .ref bC])), (bK, .inl (cA, 12, .inl fK))] sz) := by
  refine mk_met [.ref m0, .int d] (fun A => va_Qi (fun (r : Int32) (u : Int32) => u = cd1 (¬ okD n d) ∧ (cd1 (¬ okD n d) = 0 → r = fK (dN d))) (fun (u : Int32) t => We D [(cA, .int)] [(m0, .inr (2, [.int u, .int (nI n), .int rg, .int st, .ref bV, .ref bW, .ref bR, .ref bP9, .ref bK, .ref bT, .ref bC])), (bK, .inl (cA, 12, .inl fK))] A t) A) (by decide) rfl (Nat.le_of_ble_eq_true rfl) ?_
  intro p e s m args below meth c A ls F hr hlocks hname hP hK hD hA hl
  have hx := F.1
  have hb := F.2.1
  have hml := F.2.2.1
  have hown := F.2.2.2.1
  have hts := F.2.2.2.2
  have hS : va_S A s.heap s.heap [] := va_S.rf
  have hl : lv_has ls 2 [(0, .ref m0), (1, .int d)] := hl
  refine absQ (fun Q hQ => ?_)
  refine lv_aload_n hx hb dX2_plankOf_0 rfl (lv_at hl 0 rfl) ?_
  refine lv_iload_n hx hb dX2_plankOf_1 rfl (lv_at hl 1 rfl) ?_
  refine lv_aload_n hx hb dX2_plankOf_2 rfl (lv_at hl 0 rfl) ?_
  refine va_get (D := D) (ci := 2) (v := .ref bK) (C := RX2) (T := TX2) (N := 11) hx hb hts uX2_X2_plankOf hown hK hP 0 rfl rfl 8 (by decide) (hts (.fieldLink RX2 26 "RopeChoicesModel" "plank" "[I") (List.mem_of_getElem? (i := 1) rfl)) (fun _ h9 => h9) rfl dX2_plankOf_3 ?_
  have hX_1 : Cut D A [(m0, .inr (2, [.int th, .int (nI n), .int rg, .int st, .ref bV, .ref bW, .ref bR, .ref bP9, .ref bK, .ref bT, .ref bC])), (bK, .inl (cA, 12, .inl fK))] [(m0, .inr (2, [.int th, .int (nI n), .int rg, .int st, .ref bV, .ref bW, .ref bR, .ref bP9, .ref bK, .ref bT, .ref bC])), (bK, .inl (cA, 12, .inl fK))] [] [(cA, .int)] [(cA, .int)] [0, 1] [] [0] := ⟨rfl, rfl, rfl, rfl, by decide, rfl⟩
  refine ki hX_1 hP hD hS hA (kRunV (q := (RX2, TX2, 11)) (As := [.int d, .ref bK]) (rest := []) F (c_X2_of l D cA m0 th n rg st bV bW bR bP9 bK bT bC d bK fK hn s.heap.size) (cwV 2 hts gX2_plankOf_X2_of rfl rfl rfl (by decide +kernel) ⟨Nat.le_of_ble_eq_true rfl, Nat.le_of_ble_eq_true rfl⟩) hK hP hD hX_1 0 rfl rfl rfl hl.1 rfl (Nat.le_of_ble_eq_true rfl) dX2_plankOf_6 ⟨Nat.le_of_ble_eq_true rfl, Nat.le_of_ble_eq_true rfl⟩) (fun r_2 u_3 H locs hw_4 hP hD hS => ?_)
  have hw_4 : u_3 = cd1 (¬ okD n d) ∧ (cd1 (¬ okD n d) = 0 → r_2 = fK (dN d)) := hw_4
  have hP : va_P D vwCl [(m0, .inr (2, [.int u_3, .int (nI n), .int rg, .int st, .ref bV, .ref bW, .ref bR, .ref bP9, .ref bK, .ref bT, .ref bC])), (bK, .inl (cA, 12, .inl fK))] H := hP
  have hD : va_D A [(m0, .inr (2, [.int u_3, .int (nI n), .int rg, .int st, .ref bV, .ref bW, .ref bR, .ref bP9, .ref bK, .ref bT, .ref bC])), (bK, .inl (cA, 12, .inl fK))] := hD
  refine useQ hQ ?_
  exact e_i (v := r_2) F hr hlocks hK hP hD hS [0, 1] [0] u_3 hw_4 rfl rfl rfl (Nat.le_of_ble_eq_true rfl) (Nat.le_of_ble_eq_true rfl) dX2_plankOf_9
theorem uX2_X2_delegates : ∀ w ∈ u_ws RX2 TX2 11, w ∈ wsX2_delegates := (fun _ h => List.mem_cons_of_mem _ (List.mem_append_right _ h))
set_option maxHeartbeats 4000000 in
set_option maxRecDepth 100000 in
theorem c_X2_delegates (l : Launch) (D : va_G) (cA : ClassId) (m0 : Nat) (th : Int32) (n : Nat) (rg : Int32) (st : Int32) (bV : Nat) (bW : Nat) (bR : Nat) (bP9 : Nat) (bK : Nat) (bT : Nat) (bC : Nat)  (sz : Nat) : Met l yX2_delegates wsX2_delegates ({ frames := 1, cells := 0, slots := 0, locals := 21 } : Room) (va_Pc [.ref m0] (Wd D [(cA, .int)] [(m0, .inr (2, [.int th, .int (nI n), .int rg, .int st, .ref bV, .ref bW, .ref bR, .ref bP9, .ref bK, .ref bT, .ref bC]))] sz)) (va_Qi (fun (r : Int32) (_ : Unit) => r = nI n) (fun (_ : Unit) t => We D [(cA, .int)] [(m0, .inr (2, [.int 0, .int (nI n), .int rg, .int st, .ref bV, .ref bW, .ref bR, .ref bP9, .ref bK, .ref bT, .ref bC]))] (va_A [(m0, .inr (2, [.int th, .int (nI n), .int rg, .int st, .ref bV, .ref bW, .ref bR, .ref bP9, .ref bK, .ref bT, .ref bC]))] sz) t) (va_A [(m0, .inr (2, [.int th, .int (nI n), .int rg, .int st, .ref bV, .ref bW, .ref bR, .ref bP9, .ref bK, .ref bT, .ref bC]))] sz)) 0 0 (va_A [(m0, .inr (2, [.int th, .int (nI n), .int rg, .int st, .ref bV, .ref bW, .ref bR, .ref bP9, .ref bK, .ref bT, .ref bC]))] sz) := by
  refine mk_met [.ref m0] (fun A => va_Qi (fun (r : Int32) (_ : Unit) => r = nI n) (fun (_ : Unit) t => We D [(cA, .int)] [(m0, .inr (2, [.int 0, .int (nI n), .int rg, .int st, .ref bV, .ref bW, .ref bR, .ref bP9, .ref bK, .ref bT, .ref bC]))] A t) A) (by decide) rfl (Nat.le_of_ble_eq_true rfl) ?_
  intro p e s m args below meth c A ls F hr hlocks hname hP hK hD hA hl
  have hx := F.1
  have hb := F.2.1
  have hml := F.2.2.1
  have hown := F.2.2.2.1
  have hts := F.2.2.2.2
  have hS : va_S A s.heap s.heap [] := va_S.rf
  have hl : lv_has ls 1 [(0, .ref m0)] := hl
  refine absQ (fun Q hQ => ?_)
  refine lv_aload_n hx hb dX2_delegates_0 rfl (lv_at hl 0 rfl) ?_
  refine lv_aload_n hx hb dX2_delegates_1 rfl (lv_at hl 0 rfl) ?_
  refine va_get (D := D) (ci := 2) (v := .int (nI n)) (C := RX2) (T := TX2) (N := 11) hx hb hts uX2_X2_delegates hown hK hP 0 rfl rfl 1 (by decide) (hts (.fieldLink RX2 38 "RopeChoicesModel" "many" "I") (List.mem_of_getElem? (i := 1) rfl)) (fun _ h9 => h9) rfl dX2_delegates_2 ?_
  have hX_1 : Cut D A [(m0, .inr (2, [.int th, .int (nI n), .int rg, .int st, .ref bV, .ref bW, .ref bR, .ref bP9, .ref bK, .ref bT, .ref bC]))] [(m0, .inr (2, [.int th, .int (nI n), .int rg, .int st, .ref bV, .ref bW, .ref bR, .ref bP9, .ref bK, .ref bT, .ref bC]))] [] [(cA, .int)] [(cA, .int)] [0] [] [0] := ⟨rfl, rfl, rfl, rfl, by decide, rfl⟩
  refine ki hX_1 hP hD hS hA (kRunV (q := (RX2, TX2, 11)) (As := [.int (nI n)]) (rest := []) F (c_X2_told l D cA m0 th n rg st bV bW bR bP9 bK bT bC (nI n) s.heap.size) (cwV 1 hts gX2_delegates_X2_told rfl rfl rfl (by decide +kernel) ⟨Nat.le_of_ble_eq_true rfl, Nat.le_of_ble_eq_true rfl⟩) hK hP hD hX_1 0 rfl rfl rfl hl.1 rfl (Nat.le_of_ble_eq_true rfl) dX2_delegates_5 ⟨Nat.le_of_ble_eq_true rfl, Nat.le_of_ble_eq_true rfl⟩) (fun r_2 u_3 H locs hw_4 hP hD hS => ?_)
  have hw_4 : r_2 = (nI n) := hw_4
  rw [hw_4]
  have hP : va_P D vwCl [(m0, .inr (2, [.int 0, .int (nI n), .int rg, .int st, .ref bV, .ref bW, .ref bR, .ref bP9, .ref bK, .ref bT, .ref bC]))] H := hP
  have hD : va_D A [(m0, .inr (2, [.int 0, .int (nI n), .int rg, .int st, .ref bV, .ref bW, .ref bR, .ref bP9, .ref bK, .ref bT, .ref bC]))] := hD
  refine useQ hQ ?_
  exact e_i (v := (nI n)) F hr hlocks hK hP hD hS [0] [0] () rfl rfl rfl rfl (Nat.le_of_ble_eq_true rfl) (Nat.le_of_ble_eq_true rfl) dX2_delegates_8
theorem uX2_X2_rounds : ∀ w ∈ u_ws RX2 TX2 11, w ∈ wsX2_rounds := (fun _ h => List.mem_cons_of_mem _ (List.mem_append_right _ h))
set_option maxHeartbeats 4000000 in
set_option maxRecDepth 100000 in
theorem c_X2_rounds (l : Launch) (D : va_G) (cA : ClassId) (m0 : Nat) (th : Int32) (n : Nat) (rg : Int32) (st : Int32) (bV : Nat) (bW : Nat) (bR : Nat) (bP9 : Nat) (bK : Nat) (bT : Nat) (bC : Nat)  (sz : Nat) : Met l yX2_rounds wsX2_rounds ({ frames := 1, cells := 0, slots := 0, locals := 21 } : Room) (va_Pc [.ref m0] (Wd D [(cA, .int)] [(m0, .inr (2, [.int th, .int (nI n), .int rg, .int st, .ref bV, .ref bW, .ref bR, .ref bP9, .ref bK, .ref bT, .ref bC]))] sz)) (va_Qi (fun (r : Int32) (_ : Unit) => r = rg) (fun (_ : Unit) t => We D [(cA, .int)] [(m0, .inr (2, [.int 0, .int (nI n), .int rg, .int st, .ref bV, .ref bW, .ref bR, .ref bP9, .ref bK, .ref bT, .ref bC]))] (va_A [(m0, .inr (2, [.int th, .int (nI n), .int rg, .int st, .ref bV, .ref bW, .ref bR, .ref bP9, .ref bK, .ref bT, .ref bC]))] sz) t) (va_A [(m0, .inr (2, [.int th, .int (nI n), .int rg, .int st, .ref bV, .ref bW, .ref bR, .ref bP9, .ref bK, .ref bT, .ref bC]))] sz)) 0 0 (va_A [(m0, .inr (2, [.int th, .int (nI n), .int rg, .int st, .ref bV, .ref bW, .ref bR, .ref bP9, .ref bK, .ref bT, .ref bC]))] sz) := by
  refine mk_met [.ref m0] (fun A => va_Qi (fun (r : Int32) (_ : Unit) => r = rg) (fun (_ : Unit) t => We D [(cA, .int)] [(m0, .inr (2, [.int 0, .int (nI n), .int rg, .int st, .ref bV, .ref bW, .ref bR, .ref bP9, .ref bK, .ref bT, .ref bC]))] A t) A) (by decide) rfl (Nat.le_of_ble_eq_true rfl) ?_
  intro p e s m args below meth c A ls F hr hlocks hname hP hK hD hA hl
  have hx := F.1
  have hb := F.2.1
  have hml := F.2.2.1
  have hown := F.2.2.2.1
  have hts := F.2.2.2.2
  have hS : va_S A s.heap s.heap [] := va_S.rf
  have hl : lv_has ls 1 [(0, .ref m0)] := hl
  refine absQ (fun Q hQ => ?_)
  refine lv_aload_n hx hb dX2_rounds_0 rfl (lv_at hl 0 rfl) ?_
  refine lv_aload_n hx hb dX2_rounds_1 rfl (lv_at hl 0 rfl) ?_
  refine va_get (D := D) (ci := 2) (v := .int rg) (C := RX2) (T := TX2) (N := 11) hx hb hts uX2_X2_rounds hown hK hP 0 rfl rfl 2 (by decide) (hts (.fieldLink RX2 110 "RopeChoicesModel" "rounds" "I") (List.mem_of_getElem? (i := 1) rfl)) (fun _ h9 => h9) rfl dX2_rounds_2 ?_
  have hX_1 : Cut D A [(m0, .inr (2, [.int th, .int (nI n), .int rg, .int st, .ref bV, .ref bW, .ref bR, .ref bP9, .ref bK, .ref bT, .ref bC]))] [(m0, .inr (2, [.int th, .int (nI n), .int rg, .int st, .ref bV, .ref bW, .ref bR, .ref bP9, .ref bK, .ref bT, .ref bC]))] [] [(cA, .int)] [(cA, .int)] [0] [] [0] := ⟨rfl, rfl, rfl, rfl, by decide, rfl⟩
  refine ki hX_1 hP hD hS hA (kRunV (q := (RX2, TX2, 11)) (As := [.int rg]) (rest := []) F (c_X2_told l D cA m0 th n rg st bV bW bR bP9 bK bT bC rg s.heap.size) (cwV 1 hts gX2_rounds_X2_told rfl rfl rfl (by decide +kernel) ⟨Nat.le_of_ble_eq_true rfl, Nat.le_of_ble_eq_true rfl⟩) hK hP hD hX_1 0 rfl rfl rfl hl.1 rfl (Nat.le_of_ble_eq_true rfl) dX2_rounds_5 ⟨Nat.le_of_ble_eq_true rfl, Nat.le_of_ble_eq_true rfl⟩) (fun r_2 u_3 H locs hw_4 hP hD hS => ?_)
  have hw_4 : r_2 = rg := hw_4
  rw [hw_4]
  have hP : va_P D vwCl [(m0, .inr (2, [.int 0, .int (nI n), .int rg, .int st, .ref bV, .ref bW, .ref bR, .ref bP9, .ref bK, .ref bT, .ref bC]))] H := hP
  have hD : va_D A [(m0, .inr (2, [.int 0, .int (nI n), .int rg, .int st, .ref bV, .ref bW, .ref bR, .ref bP9, .ref bK, .ref bT, .ref bC]))] := hD
  refine useQ hQ ?_
  exact e_i (v := rg) F hr hlocks hK hP hD hS [0] [0] () rfl rfl rfl rfl (Nat.le_of_ble_eq_true rfl) (Nat.le_of_ble_eq_true rfl) dX2_rounds_8
theorem uX2_X2_strength : ∀ w ∈ u_ws RX2 TX2 11, w ∈ wsX2_strength := (fun _ h => List.mem_cons_of_mem _ (List.mem_append_right _ h))
set_option maxHeartbeats 4000000 in
set_option maxRecDepth 100000 in
theorem c_X2_strength (l : Launch) (D : va_G) (cA : ClassId) (m0 : Nat) (th : Int32) (n : Nat) (rg : Int32) (st : Int32) (bV : Nat) (bW : Nat) (bR : Nat) (bP9 : Nat) (bK : Nat) (bT : Nat) (bC : Nat)  (sz : Nat) : Met l yX2_strength wsX2_strength ({ frames := 1, cells := 0, slots := 0, locals := 21 } : Room) (va_Pc [.ref m0] (Wd D [(cA, .int)] [(m0, .inr (2, [.int th, .int (nI n), .int rg, .int st, .ref bV, .ref bW, .ref bR, .ref bP9, .ref bK, .ref bT, .ref bC]))] sz)) (va_Qi (fun (r : Int32) (_ : Unit) => r = st) (fun (_ : Unit) t => We D [(cA, .int)] [(m0, .inr (2, [.int 0, .int (nI n), .int rg, .int st, .ref bV, .ref bW, .ref bR, .ref bP9, .ref bK, .ref bT, .ref bC]))] (va_A [(m0, .inr (2, [.int th, .int (nI n), .int rg, .int st, .ref bV, .ref bW, .ref bR, .ref bP9, .ref bK, .ref bT, .ref bC]))] sz) t) (va_A [(m0, .inr (2, [.int th, .int (nI n), .int rg, .int st, .ref bV, .ref bW, .ref bR, .ref bP9, .ref bK, .ref bT, .ref bC]))] sz)) 0 0 (va_A [(m0, .inr (2, [.int th, .int (nI n), .int rg, .int st, .ref bV, .ref bW, .ref bR, .ref bP9, .ref bK, .ref bT, .ref bC]))] sz) := by
  refine mk_met [.ref m0] (fun A => va_Qi (fun (r : Int32) (_ : Unit) => r = st) (fun (_ : Unit) t => We D [(cA, .int)] [(m0, .inr (2, [.int 0, .int (nI n), .int rg, .int st, .ref bV, .ref bW, .ref bR, .ref bP9, .ref bK, .ref bT, .ref bC]))] A t) A) (by decide) rfl (Nat.le_of_ble_eq_true rfl) ?_
  intro p e s m args below meth c A ls F hr hlocks hname hP hK hD hA hl
  have hx := F.1
  have hb := F.2.1
  have hml := F.2.2.1
  have hown := F.2.2.2.1
  have hts := F.2.2.2.2
  have hS : va_S A s.heap s.heap [] := va_S.rf
  have hl : lv_has ls 1 [(0, .ref m0)] := hl
  refine absQ (fun Q hQ => ?_)
  refine lv_aload_n hx hb dX2_strength_0 rfl (lv_at hl 0 rfl) ?_
  refine lv_aload_n hx hb dX2_strength_1 rfl (lv_at hl 0 rfl) ?_
  refine va_get (D := D) (ci := 2) (v := .int st) (C := RX2) (T := TX2) (N := 11) hx hb hts uX2_X2_strength hown hK hP 0 rfl rfl 3 (by decide) (hts (.fieldLink RX2 7 "RopeChoicesModel" "strength" "I") (List.mem_of_getElem? (i := 1) rfl)) (fun _ h9 => h9) rfl dX2_strength_2 ?_
  have hX_1 : Cut D A [(m0, .inr (2, [.int th, .int (nI n), .int rg, .int st, .ref bV, .ref bW, .ref bR, .ref bP9, .ref bK, .ref bT, .ref bC]))] [(m0, .inr (2, [.int th, .int (nI n), .int rg, .int st, .ref bV, .ref bW, .ref bR, .ref bP9, .ref bK, .ref bT, .ref bC]))] [] [(cA, .int)] [(cA, .int)] [0] [] [0] := ⟨rfl, rfl, rfl, rfl, by decide, rfl⟩
  refine ki hX_1 hP hD hS hA (kRunV (q := (RX2, TX2, 11)) (As := [.int st]) (rest := []) F (c_X2_told l D cA m0 th n rg st bV bW bR bP9 bK bT bC st s.heap.size) (cwV 1 hts gX2_strength_X2_told rfl rfl rfl (by decide +kernel) ⟨Nat.le_of_ble_eq_true rfl, Nat.le_of_ble_eq_true rfl⟩) hK hP hD hX_1 0 rfl rfl rfl hl.1 rfl (Nat.le_of_ble_eq_true rfl) dX2_strength_5 ⟨Nat.le_of_ble_eq_true rfl, Nat.le_of_ble_eq_true rfl⟩) (fun r_2 u_3 H locs hw_4 hP hD hS => ?_)
  have hw_4 : r_2 = st := hw_4
  rw [hw_4]
  have hP : va_P D vwCl [(m0, .inr (2, [.int 0, .int (nI n), .int rg, .int st, .ref bV, .ref bW, .ref bR, .ref bP9, .ref bK, .ref bT, .ref bC]))] H := hP
  have hD : va_D A [(m0, .inr (2, [.int 0, .int (nI n), .int rg, .int st, .ref bV, .ref bW, .ref bR, .ref bP9, .ref bK, .ref bT, .ref bC]))] := hD
  refine useQ hQ ?_
  exact e_i (v := st) F hr hlocks hK hP hD hS [0] [0] () rfl rfl rfl rfl (Nat.le_of_ble_eq_true rfl) (Nat.le_of_ble_eq_true rfl) dX2_strength_8
theorem uX2_X2_standingOn : ∀ w ∈ u_ws RX2 TX2 11, w ∈ wsX2_standingOn := (fun _ h => List.mem_cons_of_mem _ (List.mem_append_right _ h))
set_option maxHeartbeats 4000000 in
set_option maxRecDepth 100000 in
theorem c_X2_standingOn (l : Launch) (D : va_G) (cA : ClassId) (m0 : Nat) (th : Int32) (n : Nat) (rg : Int32) (st : Int32) (bV : Nat) (bW : Nat) (bR : Nat) (bP9 : Nat) (bK : Nat) (bT : Nat) (bC : Nat) (fK : Nat → Int32) (x : Int32) (hn : n ≤ 12) (sz : Nat) : Met l yX2_standingOn wsX2_standingOn ({ frames := 2, cells := 0, slots := 0, locals := 42 } : Room) (va_Pc [.ref m0, .int x] (Wd D [(cA, .int)] [(m0, .inr (2, [.int th, .int (nI n), .int rg, .int st, .ref bV, .ref bW, .ref bR, .ref bP9, .ref bK, .ref bT, .ref bC])), (bK, .inl (cA, 12, .inl fK))] sz)) (va_Qi (fun (r : Int32) (u : Int32) => u = cd1 (¬ okD 41 x) ∧ (cd1 (¬ okD 41 x) = 0 → r = crowd fK x n)) (fun (u : Int32) t => We D [(cA, .int)] [(m0, .inr (2, [.int u, .int (nI n), .int rg, .int st, .ref bV, .ref bW, .ref bR, .ref bP9, .ref bK, .ref bT, .ref bC])), (bK, .inl (cA, 12, .inl fK))] (va_A [(m0, .inr (2, [.int th, .int (nI n), .int rg, .int st, .ref bV, .ref bW, .ref bR, .ref bP9, .ref bK, .ref bT, .ref bC])), (bK, .inl (cA, 12, .inl fK))] sz) t) (va_A [(m0, .inr (2, [.int th, .int (nI n), .int rg, .int st, .ref bV, .ref bW, .ref bR, .ref bP9, .ref bK, .ref bT, .ref bC])), (bK, .inl (cA, 12, .inl fK))] sz)) 0 0 (va_A [(m0, .inr (2, [.int th, .int (nI n), .int rg, .int st, .ref bV, .ref bW, .ref bR, .ref bP9, .ref bK, .ref bT, .ref bC])), (bK, .inl (cA, 12, .inl fK))] sz) := by
  refine mk_met [.ref m0, .int x] (fun A => va_Qi (fun (r : Int32) (u : Int32) => u = cd1 (¬ okD 41 x) ∧ (cd1 (¬ okD 41 x) = 0 → r = crowd fK x n)) (fun (u : Int32) t => We D [(cA, .int)] [(m0, .inr (2, [.int u, .int (nI n), .int rg, .int st, .ref bV, .ref bW, .ref bR, .ref bP9, .ref bK, .ref bT, .ref bC])), (bK, .inl (cA, 12, .inl fK))] A t) A) (by decide) rfl (Nat.le_of_ble_eq_true rfl) ?_
  intro p e s m args below meth c A ls F hr hlocks hname hP hK hD hA hl
  have hx := F.1
  have hb := F.2.1
  have hml := F.2.2.1
  have hown := F.2.2.2.1
  have hts := F.2.2.2.2
  have hS : va_S A s.heap s.heap [] := va_S.rf
  have hl : lv_has ls 2 [(0, .ref m0), (1, .int x)] := hl
  refine absQ (fun Q hQ => ?_)
  refine lv_aload_n hx hb dX2_standingOn_0 rfl (lv_at hl 0 rfl) ?_
  refine lv_iconst (v := 0) hx hb dX2_standingOn_1 (by decide) ?_
  refine va_put (D := D) (ci := 2) (v := .int 0) (ty := .int) (C := RX2) (T := TX2) (N := 11) hx hb hts uX2_X2_standingOn tyX2 tyX2_ok nmX2 hown hK hP hD hS 0 rfl rfl 0 (by decide) (hts (.fieldLink RX2 35 "RopeChoicesModel" "thrown" "I") (List.mem_of_getElem? (i := 1) rfl)) (fun _ h9 => h9) rfl (by decide +kernel) rfl rfl (Nat.le_of_ble_eq_true rfl) dX2_standingOn_2 (fun H locs hP hD hS => ?_)
  have hP : va_P D vwCl [(m0, .inr (2, [.int 0, .int (nI n), .int rg, .int st, .ref bV, .ref bW, .ref bR, .ref bP9, .ref bK, .ref bT, .ref bC])), (bK, .inl (cA, 12, .inl fK))] H := hP
  have hD : va_D A [(m0, .inr (2, [.int 0, .int (nI n), .int rg, .int st, .ref bV, .ref bW, .ref bR, .ref bP9, .ref bK, .ref bT, .ref bC])), (bK, .inl (cA, 12, .inl fK))] := hD
  refine lv_iload_n hx hb dX2_standingOn_5 rfl (lv_at hl 1 rfl) ?_
  have hX_1 : Cut D A [(m0, .inr (2, [.int 0, .int (nI n), .int rg, .int st, .ref bV, .ref bW, .ref bR, .ref bP9, .ref bK, .ref bT, .ref bC])), (bK, .inl (cA, 12, .inl fK))] [] [(m0, .inr (2, [.int 0, .int (nI n), .int rg, .int st, .ref bV, .ref bW, .ref bR, .ref bP9, .ref bK, .ref bT, .ref bC])), (bK, .inl (cA, 12, .inl fK))] [(cA, .int)] [] [] [0, 1] [] := ⟨rfl, rfl, rfl, rfl, by decide, rfl⟩
  refine ki hX_1 hP hD hS hA (kRunS (As := [.int x]) (rest := []) F (c_X2_isPlank l D x H.size) (va_cwS 1 hts gX2_standingOn_X2_isPlank rfl rfl rfl (by decide +kernel) ⟨Nat.le_of_ble_eq_true rfl, Nat.le_of_ble_eq_true rfl⟩) hK hP hD hX_1 rfl hl.1 rfl (Nat.le_of_ble_eq_true rfl) dX2_standingOn_6 ⟨Nat.le_of_ble_eq_true rfl, Nat.le_of_ble_eq_true rfl⟩) (fun r_2 u_3 H locs hw_4 hP hD hS => ?_)
  have hw_4 : r_2 = bP (okD 41 x) := hw_4
  rw [hw_4]
  have hP : va_P D vwCl [(m0, .inr (2, [.int 0, .int (nI n), .int rg, .int st, .ref bV, .ref bW, .ref bR, .ref bP9, .ref bK, .ref bT, .ref bC])), (bK, .inl (cA, 12, .inl fK))] H := hP
  have hD : va_D A [(m0, .inr (2, [.int 0, .int (nI n), .int rg, .int st, .ref bV, .ref bW, .ref bR, .ref bP9, .ref bK, .ref bT, .ref bC])), (bK, .inl (cA, 12, .inl fK))] := hD
  refine lv_if_eq (tgt := 20) hx hb dX2_standingOn_9 (by decide) (fun c_9 => ?_) (fun c_9 => ?_)
  · skip
    refine lv_aload_n hx hb dX2_standingOn_20 rfl (lv_at hl 0 rfl) ?_
    refine lv_iconst (v := 1) hx hb dX2_standingOn_21 (by decide) ?_
    have hX_5 : Cut D A [(m0, .inr (2, [.int 0, .int (nI n), .int rg, .int st, .ref bV, .ref bW, .ref bR, .ref bP9, .ref bK, .ref bT, .ref bC])), (bK, .inl (cA, 12, .inl fK))] [(m0, .inr (2, [.int 0, .int (nI n), .int rg, .int st, .ref bV, .ref bW, .ref bR, .ref bP9, .ref bK, .ref bT, .ref bC]))] [(bK, .inl (cA, 12, .inl fK))] [(cA, .int)] [(cA, .int)] [0] [1] [0] := ⟨rfl, rfl, rfl, rfl, by decide, rfl⟩
    refine ki hX_5 hP hD hS hA (kRunV (q := (RX2, TX2, 11)) (As := [.int 1]) (rest := []) F (c_X2_fail l D cA m0 0 n rg st bV bW bR bP9 bK bT bC 1 H.size) (cwV 1 hts gX2_standingOn_X2_fail rfl rfl rfl (by decide +kernel) ⟨Nat.le_of_ble_eq_true rfl, Nat.le_of_ble_eq_true rfl⟩) hK hP hD hX_5 0 rfl rfl rfl hl.1 rfl (Nat.le_of_ble_eq_true rfl) dX2_standingOn_22 ⟨Nat.le_of_ble_eq_true rfl, Nat.le_of_ble_eq_true rfl⟩) (fun r_6 u_7 H locs hw_8 hP hD hS => ?_)
    have hw_8 : r_6 = 0 := hw_8
    rw [hw_8]
    have hP : va_P D vwCl [(bK, .inl (cA, 12, .inl fK)), (m0, .inr (2, [.int 1, .int (nI n), .int rg, .int st, .ref bV, .ref bW, .ref bR, .ref bP9, .ref bK, .ref bT, .ref bC]))] H := hP
    have hD : va_D A [(bK, .inl (cA, 12, .inl fK)), (m0, .inr (2, [.int 1, .int (nI n), .int rg, .int st, .ref bV, .ref bW, .ref bR, .ref bP9, .ref bK, .ref bT, .ref bC]))] := hD
    refine useQ hQ ?_
    exact e_i (v := 0) F hr hlocks hK hP hD hS [1, 0] [0] 1 (⟨(cd1_1 (bP_eq c_9)).symm, fun z => cx1 (cd1_1 (bP_eq c_9)) z⟩) rfl rfl rfl (Nat.le_of_ble_eq_true rfl) (Nat.le_of_ble_eq_true rfl) dX2_standingOn_25
  · skip
    refine lv_aload_n hx hb dX2_standingOn_12 rfl (lv_at hl 0 rfl) ?_
    refine lv_iload_n hx hb dX2_standingOn_13 rfl (lv_at hl 1 rfl) ?_
    have hX_9 : Cut D A [(m0, .inr (2, [.int 0, .int (nI n), .int rg, .int st, .ref bV, .ref bW, .ref bR, .ref bP9, .ref bK, .ref bT, .ref bC])), (bK, .inl (cA, 12, .inl fK))] [(m0, .inr (2, [.int 0, .int (nI n), .int rg, .int st, .ref bV, .ref bW, .ref bR, .ref bP9, .ref bK, .ref bT, .ref bC])), (bK, .inl (cA, 12, .inl fK))] [] [(cA, .int)] [(cA, .int)] [0, 1] [] [0] := ⟨rfl, rfl, rfl, rfl, by decide, rfl⟩
    refine ki hX_9 hP hD hS hA (kRunV (q := (RX2, TX2, 11)) (As := [.int x]) (rest := []) F (c_X2_standing l D cA m0 0 n rg st bV bW bR bP9 bK bT bC fK x hn H.size) (cwV 1 hts gX2_standingOn_X2_standing rfl rfl rfl (by decide +kernel) ⟨Nat.le_of_ble_eq_true rfl, Nat.le_of_ble_eq_true rfl⟩) hK hP hD hX_9 0 rfl rfl rfl hl.1 rfl (Nat.le_of_ble_eq_true rfl) dX2_standingOn_14 ⟨Nat.le_of_ble_eq_true rfl, Nat.le_of_ble_eq_true rfl⟩) (fun r_10 u_11 H locs hw_12 hP hD hS => ?_)
    have hw_12 : r_10 = crowd fK x n := hw_12
    rw [hw_12]
    have hP : va_P D vwCl [(m0, .inr (2, [.int 0, .int (nI n), .int rg, .int st, .ref bV, .ref bW, .ref bR, .ref bP9, .ref bK, .ref bT, .ref bC])), (bK, .inl (cA, 12, .inl fK))] H := hP
    have hD : va_D A [(m0, .inr (2, [.int 0, .int (nI n), .int rg, .int st, .ref bV, .ref bW, .ref bR, .ref bP9, .ref bK, .ref bT, .ref bC])), (bK, .inl (cA, 12, .inl fK))] := hD
    refine lv_goto (tgt := 25) hx hb dX2_standingOn_17 (by decide) ?_
    refine useQ hQ ?_
    exact e_i (v := crowd fK x n) F hr hlocks hK hP hD hS [0, 1] [0] 0 (⟨(cd1_0 (not_not_intro (bP_ne c_9))).symm, fun _ => rfl⟩) rfl rfl rfl (Nat.le_of_ble_eq_true rfl) (Nat.le_of_ble_eq_true rfl) dX2_standingOn_25
set_option maxHeartbeats 4000000 in
set_option maxRecDepth 100000 in
theorem c_X2_spread (l : Launch) (D : va_G) (cA : ClassId) (m0 : Nat) (th : Int32) (n : Nat) (rg : Int32) (st : Int32) (bV : Nat) (bW : Nat) (bR : Nat) (bP9 : Nat) (bK : Nat) (bT : Nat) (bC : Nat) (fK : Nat → Int32) (hn : n ≤ 12) (hI : ∀ i, i < n → okD 41 (fK i)) (sz : Nat) : Met l yX2_spread wsX2_spread ({ frames := 2, cells := 0, slots := 0, locals := 53 } : Room) (va_Pc [.ref m0] (Wd D [(cA, .int)] [(m0, .inr (2, [.int th, .int (nI n), .int rg, .int st, .ref bV, .ref bW, .ref bR, .ref bP9, .ref bK, .ref bT, .ref bC])), (bK, .inl (cA, 12, .inl fK))] sz)) (va_Qi (fun (r : Int32) (_ : Unit) => r = wide fK n) (fun (_ : Unit) t => We D [(cA, .int)] [(m0, .inr (2, [.int 0, .int (nI n), .int rg, .int st, .ref bV, .ref bW, .ref bR, .ref bP9, .ref bK, .ref bT, .ref bC])), (bK, .inl (cA, 12, .inl fK))] (va_A [(m0, .inr (2, [.int th, .int (nI n), .int rg, .int st, .ref bV, .ref bW, .ref bR, .ref bP9, .ref bK, .ref bT, .ref bC])), (bK, .inl (cA, 12, .inl fK))] sz) t) (va_A [(m0, .inr (2, [.int th, .int (nI n), .int rg, .int st, .ref bV, .ref bW, .ref bR, .ref bP9, .ref bK, .ref bT, .ref bC])), (bK, .inl (cA, 12, .inl fK))] sz)) 0 0 (va_A [(m0, .inr (2, [.int th, .int (nI n), .int rg, .int st, .ref bV, .ref bW, .ref bR, .ref bP9, .ref bK, .ref bT, .ref bC])), (bK, .inl (cA, 12, .inl fK))] sz) := by
  refine mk_met [.ref m0] (fun A => va_Qi (fun (r : Int32) (_ : Unit) => r = wide fK n) (fun (_ : Unit) t => We D [(cA, .int)] [(m0, .inr (2, [.int 0, .int (nI n), .int rg, .int st, .ref bV, .ref bW, .ref bR, .ref bP9, .ref bK, .ref bT, .ref bC])), (bK, .inl (cA, 12, .inl fK))] A t) A) (by decide) rfl (Nat.le_of_ble_eq_true rfl) ?_
  intro p e s m args below meth c A ls F hr hlocks hname hP hK hD hA hl
  have hx := F.1
  have hb := F.2.1
  have hml := F.2.2.1
  have hown := F.2.2.2.1
  have hts := F.2.2.2.2
  have hS : va_S A s.heap s.heap [] := va_S.rf
  have hl : lv_has ls 1 [(0, .ref m0)] := hl
  refine absQ (fun Q hQ => ?_)
  refine lv_aload_n hx hb dX2_spread_0 rfl (lv_at hl 0 rfl) ?_
  refine lv_aload_n hx hb dX2_spread_1 rfl (lv_at hl 0 rfl) ?_
  have hX_1 : Cut D A [(m0, .inr (2, [.int th, .int (nI n), .int rg, .int st, .ref bV, .ref bW, .ref bR, .ref bP9, .ref bK, .ref bT, .ref bC])), (bK, .inl (cA, 12, .inl fK))] [(m0, .inr (2, [.int th, .int (nI n), .int rg, .int st, .ref bV, .ref bW, .ref bR, .ref bP9, .ref bK, .ref bT, .ref bC])), (bK, .inl (cA, 12, .inl fK))] [] [(cA, .int)] [(cA, .int)] [0, 1] [] [0] := ⟨rfl, rfl, rfl, rfl, by decide, rfl⟩
  refine ki hX_1 hP hD hS hA (kRunV (q := (RX2, TX2, 11)) (As := []) (rest := [.ref m0]) F (c_X2_wide l D cA m0 th n rg st bV bW bR bP9 bK bT bC fK hn hI s.heap.size) (cwV 0 hts gX2_spread_X2_wide rfl rfl rfl (by decide +kernel) ⟨Nat.le_of_ble_eq_true rfl, Nat.le_of_ble_eq_true rfl⟩) hK hP hD hX_1 0 rfl rfl rfl hl.1 rfl (Nat.le_of_ble_eq_true rfl) dX2_spread_2 ⟨Nat.le_of_ble_eq_true rfl, Nat.le_of_ble_eq_true rfl⟩) (fun r_2 u_3 H locs hw_4 hP hD hS => ?_)
  have hw_4 : r_2 = wide fK n := hw_4
  rw [hw_4]
  have hP : va_P D vwCl [(m0, .inr (2, [.int th, .int (nI n), .int rg, .int st, .ref bV, .ref bW, .ref bR, .ref bP9, .ref bK, .ref bT, .ref bC])), (bK, .inl (cA, 12, .inl fK))] H := hP
  have hD : va_D A [(m0, .inr (2, [.int th, .int (nI n), .int rg, .int st, .ref bV, .ref bW, .ref bR, .ref bP9, .ref bK, .ref bT, .ref bC])), (bK, .inl (cA, 12, .inl fK))] := hD
  have hX_5 : Cut D A [(m0, .inr (2, [.int th, .int (nI n), .int rg, .int st, .ref bV, .ref bW, .ref bR, .ref bP9, .ref bK, .ref bT, .ref bC])), (bK, .inl (cA, 12, .inl fK))] [(m0, .inr (2, [.int th, .int (nI n), .int rg, .int st, .ref bV, .ref bW, .ref bR, .ref bP9, .ref bK, .ref bT, .ref bC]))] [(bK, .inl (cA, 12, .inl fK))] [(cA, .int)] [(cA, .int)] [0] [1] [0] := ⟨rfl, rfl, rfl, rfl, by decide, rfl⟩
  refine ki hX_5 hP hD hS hA (kRunV (q := (RX2, TX2, 11)) (As := [.int (wide fK n)]) (rest := []) F (c_X2_told l D cA m0 th n rg st bV bW bR bP9 bK bT bC (wide fK n) H.size) (cwV 1 hts gX2_spread_X2_told rfl rfl rfl (by decide +kernel) ⟨Nat.le_of_ble_eq_true rfl, Nat.le_of_ble_eq_true rfl⟩) hK hP hD hX_5 0 rfl rfl rfl hl.1 rfl (Nat.le_of_ble_eq_true rfl) dX2_spread_5 ⟨Nat.le_of_ble_eq_true rfl, Nat.le_of_ble_eq_true rfl⟩) (fun r_6 u_7 H locs hw_8 hP hD hS => ?_)
  have hw_8 : r_6 = (wide fK n) := hw_8
  rw [hw_8]
  have hP : va_P D vwCl [(bK, .inl (cA, 12, .inl fK)), (m0, .inr (2, [.int 0, .int (nI n), .int rg, .int st, .ref bV, .ref bW, .ref bR, .ref bP9, .ref bK, .ref bT, .ref bC]))] H := hP
  have hD : va_D A [(bK, .inl (cA, 12, .inl fK)), (m0, .inr (2, [.int 0, .int (nI n), .int rg, .int st, .ref bV, .ref bW, .ref bR, .ref bP9, .ref bK, .ref bT, .ref bC]))] := hD
  refine useQ hQ ?_
  exact e_i (v := (wide fK n)) F hr hlocks hK hP hD hS [1, 0] [0] () rfl rfl rfl rfl (Nat.le_of_ble_eq_true rfl) (Nat.le_of_ble_eq_true rfl) dX2_spread_8
theorem uX2_X2_isTreaty : ∀ w ∈ u_ws RX2 TX2 11, w ∈ wsX2_isTreaty := (fun _ h => List.mem_cons_of_mem _ (List.mem_append_right _ h))
set_option maxHeartbeats 4000000 in
set_option maxRecDepth 100000 in
theorem c_X2_isTreaty (l : Launch) (D : va_G) (cA : ClassId) (m0 : Nat) (th : Int32) (n : Nat) (rg : Int32) (st : Int32) (bV : Nat) (bW : Nat) (bR : Nat) (bP9 : Nat) (bK : Nat) (bT : Nat) (bC : Nat) (fV : Nat → Int32) (fK : Nat → Int32) (hn : n ≤ 12) (hI : ∀ i, i < n → okD 41 (fK i)) (sz : Nat) : Met l yX2_isTreaty wsX2_isTreaty ({ frames := 3, cells := 0, slots := 0, locals := 75 } : Room) (va_Pc [.ref m0] (Wd D [(cA, .int)] [(m0, .inr (2, [.int th, .int (nI n), .int rg, .int st, .ref bV, .ref bW, .ref bR, .ref bP9, .ref bK, .ref bT, .ref bC])), (bV, .inl (cA, 12, .inl fV)), (bK, .inl (cA, 12, .inl fK))] sz)) (va_Qi (fun (r : Int32) (_ : Unit) => r = bP (agreeP fV fK n)) (fun (_ : Unit) t => We D [(cA, .int)] [(m0, .inr (2, [.int 0, .int (nI n), .int rg, .int st, .ref bV, .ref bW, .ref bR, .ref bP9, .ref bK, .ref bT, .ref bC])), (bV, .inl (cA, 12, .inl fV)), (bK, .inl (cA, 12, .inl fK))] (va_A [(m0, .inr (2, [.int th, .int (nI n), .int rg, .int st, .ref bV, .ref bW, .ref bR, .ref bP9, .ref bK, .ref bT, .ref bC])), (bV, .inl (cA, 12, .inl fV)), (bK, .inl (cA, 12, .inl fK))] sz) t) (va_A [(m0, .inr (2, [.int th, .int (nI n), .int rg, .int st, .ref bV, .ref bW, .ref bR, .ref bP9, .ref bK, .ref bT, .ref bC])), (bV, .inl (cA, 12, .inl fV)), (bK, .inl (cA, 12, .inl fK))] sz)) 0 0 (va_A [(m0, .inr (2, [.int th, .int (nI n), .int rg, .int st, .ref bV, .ref bW, .ref bR, .ref bP9, .ref bK, .ref bT, .ref bC])), (bV, .inl (cA, 12, .inl fV)), (bK, .inl (cA, 12, .inl fK))] sz) := by
  refine mk_met [.ref m0] (fun A => va_Qi (fun (r : Int32) (_ : Unit) => r = bP (agreeP fV fK n)) (fun (_ : Unit) t => We D [(cA, .int)] [(m0, .inr (2, [.int 0, .int (nI n), .int rg, .int st, .ref bV, .ref bW, .ref bR, .ref bP9, .ref bK, .ref bT, .ref bC])), (bV, .inl (cA, 12, .inl fV)), (bK, .inl (cA, 12, .inl fK))] A t) A) (by decide) rfl (Nat.le_of_ble_eq_true rfl) ?_
  intro p e s m args below meth c A ls F hr hlocks hname hP hK hD hA hl
  have hx := F.1
  have hb := F.2.1
  have hml := F.2.2.1
  have hown := F.2.2.2.1
  have hts := F.2.2.2.2
  have hS : va_S A s.heap s.heap [] := va_S.rf
  have hl : lv_has ls 1 [(0, .ref m0)] := hl
  refine absQ (fun Q hQ => ?_)
  refine lv_aload_n hx hb dX2_isTreaty_0 rfl (lv_at hl 0 rfl) ?_
  refine lv_iconst (v := 0) hx hb dX2_isTreaty_1 (by decide) ?_
  refine va_put (D := D) (ci := 2) (v := .int 0) (ty := .int) (C := RX2) (T := TX2) (N := 11) hx hb hts uX2_X2_isTreaty tyX2 tyX2_ok nmX2 hown hK hP hD hS 0 rfl rfl 0 (by decide) (hts (.fieldLink RX2 35 "RopeChoicesModel" "thrown" "I") (List.mem_of_getElem? (i := 1) rfl)) (fun _ h9 => h9) rfl (by decide +kernel) rfl rfl (Nat.le_of_ble_eq_true rfl) dX2_isTreaty_2 (fun H locs hP hD hS => ?_)
  have hP : va_P D vwCl [(m0, .inr (2, [.int 0, .int (nI n), .int rg, .int st, .ref bV, .ref bW, .ref bR, .ref bP9, .ref bK, .ref bT, .ref bC])), (bV, .inl (cA, 12, .inl fV)), (bK, .inl (cA, 12, .inl fK))] H := hP
  have hD : va_D A [(m0, .inr (2, [.int 0, .int (nI n), .int rg, .int st, .ref bV, .ref bW, .ref bR, .ref bP9, .ref bK, .ref bT, .ref bC])), (bV, .inl (cA, 12, .inl fV)), (bK, .inl (cA, 12, .inl fK))] := hD
  refine lv_aload_n hx hb dX2_isTreaty_5 rfl (lv_at hl 0 rfl) ?_
  have hX_1 : Cut D A [(m0, .inr (2, [.int 0, .int (nI n), .int rg, .int st, .ref bV, .ref bW, .ref bR, .ref bP9, .ref bK, .ref bT, .ref bC])), (bV, .inl (cA, 12, .inl fV)), (bK, .inl (cA, 12, .inl fK))] [(m0, .inr (2, [.int 0, .int (nI n), .int rg, .int st, .ref bV, .ref bW, .ref bR, .ref bP9, .ref bK, .ref bT, .ref bC])), (bV, .inl (cA, 12, .inl fV)), (bK, .inl (cA, 12, .inl fK))] [] [(cA, .int)] [(cA, .int)] [0, 1, 2] [] [0] := ⟨rfl, rfl, rfl, rfl, by decide, rfl⟩
  refine ki hX_1 hP hD hS hA (kRunV (q := (RX2, TX2, 11)) (As := []) (rest := []) F (c_X2_agree l D cA m0 0 n rg st bV bW bR bP9 bK bT bC fV fK hn hI H.size) (cwV 0 hts gX2_isTreaty_X2_agree rfl rfl rfl (by decide +kernel) ⟨Nat.le_of_ble_eq_true rfl, Nat.le_of_ble_eq_true rfl⟩) hK hP hD hX_1 0 rfl rfl rfl hl.1 rfl (Nat.le_of_ble_eq_true rfl) dX2_isTreaty_6 ⟨Nat.le_of_ble_eq_true rfl, Nat.le_of_ble_eq_true rfl⟩) (fun r_2 u_3 H locs hw_4 hP hD hS => ?_)
  have hw_4 : r_2 = bP (agreeP fV fK n) := hw_4
  rw [hw_4]
  have hP : va_P D vwCl [(m0, .inr (2, [.int 0, .int (nI n), .int rg, .int st, .ref bV, .ref bW, .ref bR, .ref bP9, .ref bK, .ref bT, .ref bC])), (bV, .inl (cA, 12, .inl fV)), (bK, .inl (cA, 12, .inl fK))] H := hP
  have hD : va_D A [(m0, .inr (2, [.int 0, .int (nI n), .int rg, .int st, .ref bV, .ref bW, .ref bR, .ref bP9, .ref bK, .ref bT, .ref bC])), (bV, .inl (cA, 12, .inl fV)), (bK, .inl (cA, 12, .inl fK))] := hD
  refine useQ hQ ?_
  exact e_z (v := bP (agreeP fV fK n)) F hr hlocks hK hP hD hS [0, 1, 2] [0] () (by first | exact Or.inl rfl | exact Or.inr rfl | exact bP_01 _) rfl rfl rfl rfl (Nat.le_of_ble_eq_true rfl) (Nat.le_of_ble_eq_true rfl) dX2_isTreaty_9
theorem uX2_X2_compromise : ∀ w ∈ u_ws RX2 TX2 11, w ∈ wsX2_compromise := (fun _ h => List.mem_cons_of_mem _ (List.mem_append_right _ h))
set_option maxHeartbeats 4000000 in
set_option maxRecDepth 100000 in
theorem c_X2_compromise (l : Launch) (D : va_G) (cA : ClassId) (m0 : Nat) (th : Int32) (n : Nat) (rg : Int32) (st : Int32) (bV : Nat) (bW : Nat) (bR : Nat) (bP9 : Nat) (bK : Nat) (bT : Nat) (bC : Nat) (fV : Nat → Int32) (fK : Nat → Int32) (fC : Nat → Int32) (hn : n ≤ 12) (hI : ∀ i, i < n → okD 41 (fK i)) (sz : Nat) : Met l yX2_compromise wsX2_compromise ({ frames := 2, cells := 0, slots := 0, locals := 45 } : Room) (va_Pc [.ref m0] (Wd D [(cA, .int)] [(m0, .inr (2, [.int th, .int (nI n), .int rg, .int st, .ref bV, .ref bW, .ref bR, .ref bP9, .ref bK, .ref bT, .ref bC])), (bV, .inl (cA, 12, .inl fV)), (bK, .inl (cA, 12, .inl fK)), (bC, .inl (cA, 41, .inl fC))] sz)) (va_Qi (fun (r : Int32) (u : Int32 × (Nat → Int32)) => u.1 = cd1 (n = 0) ∧ (cd1 (n = 0) = 0 → r = midF fK n)) (fun (u : Int32 × (Nat → Int32)) t => We D [(cA, .int)] [(m0, .inr (2, [.int u.1, .int (nI n), .int rg, .int st, .ref bV, .ref bW, .ref bR, .ref bP9, .ref bK, .ref bT, .ref bC])), (bV, .inl (cA, 12, .inl fV)), (bK, .inl (cA, 12, .inl fK)), (bC, .inl (cA, 41, .inl u.2))] (va_A [(m0, .inr (2, [.int th, .int (nI n), .int rg, .int st, .ref bV, .ref bW, .ref bR, .ref bP9, .ref bK, .ref bT, .ref bC])), (bV, .inl (cA, 12, .inl fV)), (bK, .inl (cA, 12, .inl fK)), (bC, .inl (cA, 41, .inl fC))] sz) t) (va_A [(m0, .inr (2, [.int th, .int (nI n), .int rg, .int st, .ref bV, .ref bW, .ref bR, .ref bP9, .ref bK, .ref bT, .ref bC])), (bV, .inl (cA, 12, .inl fV)), (bK, .inl (cA, 12, .inl fK)), (bC, .inl (cA, 41, .inl fC))] sz)) 0 0 (va_A [(m0, .inr (2, [.int th, .int (nI n), .int rg, .int st, .ref bV, .ref bW, .ref bR, .ref bP9, .ref bK, .ref bT, .ref bC])), (bV, .inl (cA, 12, .inl fV)), (bK, .inl (cA, 12, .inl fK)), (bC, .inl (cA, 41, .inl fC))] sz) := by
  refine mk_met [.ref m0] (fun A => va_Qi (fun (r : Int32) (u : Int32 × (Nat → Int32)) => u.1 = cd1 (n = 0) ∧ (cd1 (n = 0) = 0 → r = midF fK n)) (fun (u : Int32 × (Nat → Int32)) t => We D [(cA, .int)] [(m0, .inr (2, [.int u.1, .int (nI n), .int rg, .int st, .ref bV, .ref bW, .ref bR, .ref bP9, .ref bK, .ref bT, .ref bC])), (bV, .inl (cA, 12, .inl fV)), (bK, .inl (cA, 12, .inl fK)), (bC, .inl (cA, 41, .inl u.2))] A t) A) (by decide) rfl (Nat.le_of_ble_eq_true rfl) ?_
  intro p e s m args below meth c A ls F hr hlocks hname hP hK hD hA hl
  have hx := F.1
  have hb := F.2.1
  have hml := F.2.2.1
  have hown := F.2.2.2.1
  have hts := F.2.2.2.2
  have hS : va_S A s.heap s.heap [] := va_S.rf
  have hl : lv_has ls 1 [(0, .ref m0)] := hl
  refine absQ (fun Q hQ => ?_)
  refine lv_aload_n hx hb dX2_compromise_0 rfl (lv_at hl 0 rfl) ?_
  refine lv_iconst (v := 0) hx hb dX2_compromise_1 (by decide) ?_
  refine va_put (D := D) (ci := 2) (v := .int 0) (ty := .int) (C := RX2) (T := TX2) (N := 11) hx hb hts uX2_X2_compromise tyX2 tyX2_ok nmX2 hown hK hP hD hS 0 rfl rfl 0 (by decide) (hts (.fieldLink RX2 35 "RopeChoicesModel" "thrown" "I") (List.mem_of_getElem? (i := 1) rfl)) (fun _ h9 => h9) rfl (by decide +kernel) rfl rfl (Nat.le_of_ble_eq_true rfl) dX2_compromise_2 (fun H locs hP hD hS => ?_)
  have hP : va_P D vwCl [(m0, .inr (2, [.int 0, .int (nI n), .int rg, .int st, .ref bV, .ref bW, .ref bR, .ref bP9, .ref bK, .ref bT, .ref bC])), (bV, .inl (cA, 12, .inl fV)), (bK, .inl (cA, 12, .inl fK)), (bC, .inl (cA, 41, .inl fC))] H := hP
  have hD : va_D A [(m0, .inr (2, [.int 0, .int (nI n), .int rg, .int st, .ref bV, .ref bW, .ref bR, .ref bP9, .ref bK, .ref bT, .ref bC])), (bV, .inl (cA, 12, .inl fV)), (bK, .inl (cA, 12, .inl fK)), (bC, .inl (cA, 41, .inl fC))] := hD
  refine lv_aload_n hx hb dX2_compromise_5 rfl (lv_at hl 0 rfl) ?_
  refine va_get (D := D) (ci := 2) (v := .int (nI n)) (C := RX2) (T := TX2) (N := 11) hx hb hts uX2_X2_compromise hown hK hP 0 rfl rfl 1 (by decide) (hts (.fieldLink RX2 38 "RopeChoicesModel" "many" "I") (List.mem_of_getElem? (i := 2) rfl)) (fun _ h9 => h9) rfl dX2_compromise_6 ?_
  refine lv_if_ne (tgt := 20) hx hb dX2_compromise_9 (by decide) (fun c_9 => ?_) (fun c_9 => ?_)
  · skip
    have g_9 : n ≠ 0 := nf_ne_t (by omega) (by omega) c_9
    refine lv_aload_n hx hb dX2_compromise_20 rfl (lv_at hl 0 rfl) ?_
    have hX_1 : Cut D A [(m0, .inr (2, [.int 0, .int (nI n), .int rg, .int st, .ref bV, .ref bW, .ref bR, .ref bP9, .ref bK, .ref bT, .ref bC])), (bV, .inl (cA, 12, .inl fV)), (bK, .inl (cA, 12, .inl fK)), (bC, .inl (cA, 41, .inl fC))] [(m0, .inr (2, [.int 0, .int (nI n), .int rg, .int st, .ref bV, .ref bW, .ref bR, .ref bP9, .ref bK, .ref bT, .ref bC])), (bV, .inl (cA, 12, .inl fV)), (bK, .inl (cA, 12, .inl fK)), (bC, .inl (cA, 41, .inl fC))] [] [(cA, .int)] [(cA, .int)] [0, 1, 2, 3] [] [0] := ⟨rfl, rfl, rfl, rfl, by decide, rfl⟩
    refine ki hX_1 hP hD hS hA (kRunV (q := (RX2, TX2, 11)) (As := []) (rest := []) F (c_X2_middle l D cA m0 0 n rg st bV bW bR bP9 bK bT bC fV fK fC hn hI H.size) (cwV 0 hts gX2_compromise_X2_middle rfl rfl rfl (by decide +kernel) ⟨Nat.le_of_ble_eq_true rfl, Nat.le_of_ble_eq_true rfl⟩) hK hP hD hX_1 0 rfl rfl rfl hl.1 rfl (Nat.le_of_ble_eq_true rfl) dX2_compromise_21 ⟨Nat.le_of_ble_eq_true rfl, Nat.le_of_ble_eq_true rfl⟩) (fun r_2 u_3 H locs hw_4 hP hD hS => ?_)
    have hw_4 : r_2 = midM fK n := hw_4
    rw [hw_4]
    have hP : va_P D vwCl [(m0, .inr (2, [.int 0, .int (nI n), .int rg, .int st, .ref bV, .ref bW, .ref bR, .ref bP9, .ref bK, .ref bT, .ref bC])), (bV, .inl (cA, 12, .inl fV)), (bK, .inl (cA, 12, .inl fK)), (bC, .inl (cA, 41, .inl u_3))] H := hP
    have hD : va_D A [(m0, .inr (2, [.int 0, .int (nI n), .int rg, .int st, .ref bV, .ref bW, .ref bR, .ref bP9, .ref bK, .ref bT, .ref bC])), (bV, .inl (cA, 12, .inl fV)), (bK, .inl (cA, 12, .inl fK)), (bC, .inl (cA, 41, .inl u_3))] := hD
    refine useQ hQ ?_
    exact e_i (v := midM fK n) F hr hlocks hK hP hD hS [0, 1, 2, 3] [0] (0, u_3) (⟨(cd1_0 g_9).symm, fun _ => midM_ne g_9⟩) rfl rfl rfl (Nat.le_of_ble_eq_true rfl) (Nat.le_of_ble_eq_true rfl) dX2_compromise_24
  · skip
    have g_9 : n = 0 := nf_ne_f (by omega) (by omega) c_9
    refine lv_aload_n hx hb dX2_compromise_12 rfl (lv_at hl 0 rfl) ?_
    refine lv_iconst (v := 1) hx hb dX2_compromise_13 (by decide) ?_
    have hX_5 : Cut D A [(m0, .inr (2, [.int 0, .int (nI n), .int rg, .int st, .ref bV, .ref bW, .ref bR, .ref bP9, .ref bK, .ref bT, .ref bC])), (bV, .inl (cA, 12, .inl fV)), (bK, .inl (cA, 12, .inl fK)), (bC, .inl (cA, 41, .inl fC))] [(m0, .inr (2, [.int 0, .int (nI n), .int rg, .int st, .ref bV, .ref bW, .ref bR, .ref bP9, .ref bK, .ref bT, .ref bC]))] [(bV, .inl (cA, 12, .inl fV)), (bK, .inl (cA, 12, .inl fK)), (bC, .inl (cA, 41, .inl fC))] [(cA, .int)] [(cA, .int)] [0] [1, 2, 3] [0] := ⟨rfl, rfl, rfl, rfl, by decide, rfl⟩
    refine ki hX_5 hP hD hS hA (kRunV (q := (RX2, TX2, 11)) (As := [.int 1]) (rest := []) F (c_X2_fail l D cA m0 0 n rg st bV bW bR bP9 bK bT bC 1 H.size) (cwV 1 hts gX2_compromise_X2_fail rfl rfl rfl (by decide +kernel) ⟨Nat.le_of_ble_eq_true rfl, Nat.le_of_ble_eq_true rfl⟩) hK hP hD hX_5 0 rfl rfl rfl hl.1 rfl (Nat.le_of_ble_eq_true rfl) dX2_compromise_14 ⟨Nat.le_of_ble_eq_true rfl, Nat.le_of_ble_eq_true rfl⟩) (fun r_6 u_7 H locs hw_8 hP hD hS => ?_)
    have hw_8 : r_6 = 0 := hw_8
    rw [hw_8]
    have hP : va_P D vwCl [(bV, .inl (cA, 12, .inl fV)), (bK, .inl (cA, 12, .inl fK)), (bC, .inl (cA, 41, .inl fC)), (m0, .inr (2, [.int 1, .int (nI n), .int rg, .int st, .ref bV, .ref bW, .ref bR, .ref bP9, .ref bK, .ref bT, .ref bC]))] H := hP
    have hD : va_D A [(bV, .inl (cA, 12, .inl fV)), (bK, .inl (cA, 12, .inl fK)), (bC, .inl (cA, 41, .inl fC)), (m0, .inr (2, [.int 1, .int (nI n), .int rg, .int st, .ref bV, .ref bW, .ref bR, .ref bP9, .ref bK, .ref bT, .ref bC]))] := hD
    refine lv_goto (tgt := 24) hx hb dX2_compromise_17 (by decide) ?_
    refine useQ hQ ?_
    exact e_i (v := 0) F hr hlocks hK hP hD hS [3, 0, 1, 2] [0] (1, fC) (⟨(cd1_1 g_9).symm, fun z => cx1 (cd1_1 g_9) z⟩) rfl rfl rfl (Nat.le_of_ble_eq_true rfl) (Nat.le_of_ble_eq_true rfl) dX2_compromise_24
theorem uX2_X2_compromiseOf : ∀ w ∈ u_ws RX2 TX2 11, w ∈ wsX2_compromiseOf := (fun _ h => List.mem_cons_of_mem _ (List.mem_append_right _ h))
set_option maxHeartbeats 4000000 in
set_option maxRecDepth 100000 in
theorem c_X2_compromiseOf (l : Launch) (D : va_G) (cA : ClassId) (m0 : Nat) (th : Int32) (n : Nat) (rg : Int32) (st : Int32) (bV : Nat) (bW : Nat) (bR : Nat) (bP9 : Nat) (bK : Nat) (bT : Nat) (bC : Nat) (fV : Nat → Int32) (fK : Nat → Int32) (fC : Nat → Int32) (v : Int32) (hn : n ≤ 12) (hI : ∀ i, i < n → okD 41 (fK i)) (sz : Nat) : Met l yX2_compromiseOf wsX2_compromiseOf ({ frames := 2, cells := 0, slots := 0, locals := 42 } : Room) (va_Pc [.ref m0, .int v] (Wd D [(cA, .int)] [(m0, .inr (2, [.int th, .int (nI n), .int rg, .int st, .ref bV, .ref bW, .ref bR, .ref bP9, .ref bK, .ref bT, .ref bC])), (bV, .inl (cA, 12, .inl fV)), (bK, .inl (cA, 12, .inl fK)), (bC, .inl (cA, 41, .inl fC))] sz)) (va_Qi (fun (r : Int32) (u : Int32 × (Nat → Int32)) => u.1 = cd2 (¬ okD 5 v) (tot (selV fV v) n = 0) ∧ (cd2 (¬ okD 5 v) (tot (selV fV v) n = 0) = 0 → r = medF fK (selV fV v) n)) (fun (u : Int32 × (Nat → Int32)) t => We D [(cA, .int)] [(m0, .inr (2, [.int u.1, .int (nI n), .int rg, .int st, .ref bV, .ref bW, .ref bR, .ref bP9, .ref bK, .ref bT, .ref bC])), (bV, .inl (cA, 12, .inl fV)), (bK, .inl (cA, 12, .inl fK)), (bC, .inl (cA, 41, .inl u.2))] (va_A [(m0, .inr (2, [.int th, .int (nI n), .int rg, .int st, .ref bV, .ref bW, .ref bR, .ref bP9, .ref bK, .ref bT, .ref bC])), (bV, .inl (cA, 12, .inl fV)), (bK, .inl (cA, 12, .inl fK)), (bC, .inl (cA, 41, .inl fC))] sz) t) (va_A [(m0, .inr (2, [.int th, .int (nI n), .int rg, .int st, .ref bV, .ref bW, .ref bR, .ref bP9, .ref bK, .ref bT, .ref bC])), (bV, .inl (cA, 12, .inl fV)), (bK, .inl (cA, 12, .inl fK)), (bC, .inl (cA, 41, .inl fC))] sz)) 0 0 (va_A [(m0, .inr (2, [.int th, .int (nI n), .int rg, .int st, .ref bV, .ref bW, .ref bR, .ref bP9, .ref bK, .ref bT, .ref bC])), (bV, .inl (cA, 12, .inl fV)), (bK, .inl (cA, 12, .inl fK)), (bC, .inl (cA, 41, .inl fC))] sz) := by
  refine mk_met [.ref m0, .int v] (fun A => va_Qi (fun (r : Int32) (u : Int32 × (Nat → Int32)) => u.1 = cd2 (¬ okD 5 v) (tot (selV fV v) n = 0) ∧ (cd2 (¬ okD 5 v) (tot (selV fV v) n = 0) = 0 → r = medF fK (selV fV v) n)) (fun (u : Int32 × (Nat → Int32)) t => We D [(cA, .int)] [(m0, .inr (2, [.int u.1, .int (nI n), .int rg, .int st, .ref bV, .ref bW, .ref bR, .ref bP9, .ref bK, .ref bT, .ref bC])), (bV, .inl (cA, 12, .inl fV)), (bK, .inl (cA, 12, .inl fK)), (bC, .inl (cA, 41, .inl u.2))] A t) A) (by decide) rfl (Nat.le_of_ble_eq_true rfl) ?_
  intro p e s m args below meth c A ls F hr hlocks hname hP hK hD hA hl
  have hx := F.1
  have hb := F.2.1
  have hml := F.2.2.1
  have hown := F.2.2.2.1
  have hts := F.2.2.2.2
  have hS : va_S A s.heap s.heap [] := va_S.rf
  have hl : lv_has ls 3 [(0, .ref m0), (1, .int v)] := hl
  refine absQ (fun Q hQ => ?_)
  refine lv_aload_n hx hb dX2_compromiseOf_0 rfl (lv_at hl 0 rfl) ?_
  refine lv_iconst (v := 0) hx hb dX2_compromiseOf_1 (by decide) ?_
  refine va_put (D := D) (ci := 2) (v := .int 0) (ty := .int) (C := RX2) (T := TX2) (N := 11) hx hb hts uX2_X2_compromiseOf tyX2 tyX2_ok nmX2 hown hK hP hD hS 0 rfl rfl 0 (by decide) (hts (.fieldLink RX2 35 "RopeChoicesModel" "thrown" "I") (List.mem_of_getElem? (i := 1) rfl)) (fun _ h9 => h9) rfl (by decide +kernel) rfl rfl (Nat.le_of_ble_eq_true rfl) dX2_compromiseOf_2 (fun H locs hP hD hS => ?_)
  have hP : va_P D vwCl [(m0, .inr (2, [.int 0, .int (nI n), .int rg, .int st, .ref bV, .ref bW, .ref bR, .ref bP9, .ref bK, .ref bT, .ref bC])), (bV, .inl (cA, 12, .inl fV)), (bK, .inl (cA, 12, .inl fK)), (bC, .inl (cA, 41, .inl fC))] H := hP
  have hD : va_D A [(m0, .inr (2, [.int 0, .int (nI n), .int rg, .int st, .ref bV, .ref bW, .ref bR, .ref bP9, .ref bK, .ref bT, .ref bC])), (bV, .inl (cA, 12, .inl fV)), (bK, .inl (cA, 12, .inl fK)), (bC, .inl (cA, 41, .inl fC))] := hD
  refine lv_iload_n hx hb dX2_compromiseOf_5 rfl (lv_at hl 1 rfl) ?_
  have hX_1 : Cut D A [(m0, .inr (2, [.int 0, .int (nI n), .int rg, .int st, .ref bV, .ref bW, .ref bR, .ref bP9, .ref bK, .ref bT, .ref bC])), (bV, .inl (cA, 12, .inl fV)), (bK, .inl (cA, 12, .inl fK)), (bC, .inl (cA, 41, .inl fC))] [] [(m0, .inr (2, [.int 0, .int (nI n), .int rg, .int st, .ref bV, .ref bW, .ref bR, .ref bP9, .ref bK, .ref bT, .ref bC])), (bV, .inl (cA, 12, .inl fV)), (bK, .inl (cA, 12, .inl fK)), (bC, .inl (cA, 41, .inl fC))] [(cA, .int)] [] [] [0, 1, 2, 3] [] := ⟨rfl, rfl, rfl, rfl, by decide, rfl⟩
  refine ki hX_1 hP hD hS hA (kRunS (As := [.int v]) (rest := []) F (c_X2_isVillage l D v H.size) (va_cwS 1 hts gX2_compromiseOf_X2_isVillage rfl rfl rfl (by decide +kernel) ⟨Nat.le_of_ble_eq_true rfl, Nat.le_of_ble_eq_true rfl⟩) hK hP hD hX_1 rfl hl.1 rfl (Nat.le_of_ble_eq_true rfl) dX2_compromiseOf_6 ⟨Nat.le_of_ble_eq_true rfl, Nat.le_of_ble_eq_true rfl⟩) (fun r_2 u_3 H locs hw_4 hP hD hS => ?_)
  have hw_4 : r_2 = bP (okD 5 v) := hw_4
  rw [hw_4]
  have hP : va_P D vwCl [(m0, .inr (2, [.int 0, .int (nI n), .int rg, .int st, .ref bV, .ref bW, .ref bR, .ref bP9, .ref bK, .ref bT, .ref bC])), (bV, .inl (cA, 12, .inl fV)), (bK, .inl (cA, 12, .inl fK)), (bC, .inl (cA, 41, .inl fC))] H := hP
  have hD : va_D A [(m0, .inr (2, [.int 0, .int (nI n), .int rg, .int st, .ref bV, .ref bW, .ref bR, .ref bP9, .ref bK, .ref bT, .ref bC])), (bV, .inl (cA, 12, .inl fV)), (bK, .inl (cA, 12, .inl fK)), (bC, .inl (cA, 41, .inl fC))] := hD
  refine lv_if_ne (tgt := 18) hx hb dX2_compromiseOf_9 (by decide) (fun c_9 => ?_) (fun c_9 => ?_)
  · skip
    refine lv_aload_n hx hb dX2_compromiseOf_18 rfl (lv_at hl 0 rfl) ?_
    refine lv_iload_n hx hb dX2_compromiseOf_19 rfl (lv_at hl 1 rfl) ?_
    refine lv_iconst (v := (-1)) hx hb dX2_compromiseOf_20 (by decide) ?_
    have hX_5 : Cut D A [(m0, .inr (2, [.int 0, .int (nI n), .int rg, .int st, .ref bV, .ref bW, .ref bR, .ref bP9, .ref bK, .ref bT, .ref bC])), (bV, .inl (cA, 12, .inl fV)), (bK, .inl (cA, 12, .inl fK)), (bC, .inl (cA, 41, .inl fC))] [(m0, .inr (2, [.int 0, .int (nI n), .int rg, .int st, .ref bV, .ref bW, .ref bR, .ref bP9, .ref bK, .ref bT, .ref bC])), (bV, .inl (cA, 12, .inl fV)), (bK, .inl (cA, 12, .inl fK)), (bC, .inl (cA, 41, .inl fC))] [] [(cA, .int)] [(cA, .int)] [0, 1, 2, 3] [] [0] := ⟨rfl, rfl, rfl, rfl, by decide, rfl⟩
    refine ki hX_5 hP hD hS hA (kRunV (q := (RX2, TX2, 11)) (As := [.int v, .int (-1)]) (rest := []) F (c_X2_median l D cA m0 0 n rg st bV bW bR bP9 bK bT bC fV fK fC v (-1) hn hI H.size) (cwV 2 hts gX2_compromiseOf_X2_median rfl rfl rfl (by decide +kernel) ⟨Nat.le_of_ble_eq_true rfl, Nat.le_of_ble_eq_true rfl⟩) hK hP hD hX_5 0 rfl rfl rfl hl.1 rfl (Nat.le_of_ble_eq_true rfl) dX2_compromiseOf_21 ⟨Nat.le_of_ble_eq_true rfl, Nat.le_of_ble_eq_true rfl⟩) (fun r_6 u_7 H locs hw_8 hP hD hS => ?_)
    have hw_8 : r_6 = medM fK (selM fV v (-1)) n := hw_8
    rw [hw_8]
    have hP : va_P D vwCl [(m0, .inr (2, [.int 0, .int (nI n), .int rg, .int st, .ref bV, .ref bW, .ref bR, .ref bP9, .ref bK, .ref bT, .ref bC])), (bV, .inl (cA, 12, .inl fV)), (bK, .inl (cA, 12, .inl fK)), (bC, .inl (cA, 41, .inl u_7))] H := hP
    have hD : va_D A [(m0, .inr (2, [.int 0, .int (nI n), .int rg, .int st, .ref bV, .ref bW, .ref bR, .ref bP9, .ref bK, .ref bT, .ref bC])), (bV, .inl (cA, 12, .inl fV)), (bK, .inl (cA, 12, .inl fK)), (bC, .inl (cA, 41, .inl u_7))] := hD
    refine topi (medM fK (selV fV v) n) (medM_V hn (bP_ne c_9)) ?_
    refine lv_istore_n (lv' := [(2, .int (medM fK (selV fV v) n)), (0, .ref m0), (1, .int v)]) hx hb dX2_compromiseOf_24 rfl hl (by decide) rfl (fun ls hl => ?_)
    refine lv_iload_n hx hb dX2_compromiseOf_25 rfl (lv_at hl 0 rfl) ?_
    refine lv_iconst (v := (-1)) hx hb dX2_compromiseOf_26 (by decide) ?_
    refine lv_icmp_ne (tgt := 38) hx hb dX2_compromiseOf_27 (by decide) (fun c_27 => ?_) (fun c_27 => ?_)
    · skip
      refine lv_iload_n hx hb dX2_compromiseOf_38 rfl (lv_at hl 0 rfl) ?_
      refine useQ hQ ?_
      exact e_i (v := medM fK (selV fV v) n) F hr hlocks hK hP hD hS [0, 1, 2, 3] [0] (0, u_7) (⟨(cd2_0 (not_not_intro (bP_ne c_9)) (medM_not c_27)).symm, fun _ => medM_F (medM_not c_27)⟩) rfl rfl rfl (Nat.le_of_ble_eq_true rfl) (Nat.le_of_ble_eq_true rfl) dX2_compromiseOf_39
    · skip
      refine lv_aload_n hx hb dX2_compromiseOf_30 rfl (lv_at hl 1 rfl) ?_
      refine lv_iconst (v := 2) hx hb dX2_compromiseOf_31 (by decide) ?_
      have hX_9 : Cut D A [(m0, .inr (2, [.int 0, .int (nI n), .int rg, .int st, .ref bV, .ref bW, .ref bR, .ref bP9, .ref bK, .ref bT, .ref bC])), (bV, .inl (cA, 12, .inl fV)), (bK, .inl (cA, 12, .inl fK)), (bC, .inl (cA, 41, .inl u_7))] [(m0, .inr (2, [.int 0, .int (nI n), .int rg, .int st, .ref bV, .ref bW, .ref bR, .ref bP9, .ref bK, .ref bT, .ref bC]))] [(bV, .inl (cA, 12, .inl fV)), (bK, .inl (cA, 12, .inl fK)), (bC, .inl (cA, 41, .inl u_7))] [(cA, .int)] [(cA, .int)] [0] [1, 2, 3] [0] := ⟨rfl, rfl, rfl, rfl, by decide, rfl⟩
      refine ki hX_9 hP hD hS hA (kRunV (q := (RX2, TX2, 11)) (As := [.int 2]) (rest := []) F (c_X2_fail l D cA m0 0 n rg st bV bW bR bP9 bK bT bC 2 H.size) (cwV 1 hts gX2_compromiseOf_X2_fail rfl rfl rfl (by decide +kernel) ⟨Nat.le_of_ble_eq_true rfl, Nat.le_of_ble_eq_true rfl⟩) hK hP hD hX_9 0 rfl rfl rfl hl.1 rfl (Nat.le_of_ble_eq_true rfl) dX2_compromiseOf_32 ⟨Nat.le_of_ble_eq_true rfl, Nat.le_of_ble_eq_true rfl⟩) (fun r_10 u_11 H locs hw_12 hP hD hS => ?_)
      have hw_12 : r_10 = 0 := hw_12
      rw [hw_12]
      have hP : va_P D vwCl [(bV, .inl (cA, 12, .inl fV)), (bK, .inl (cA, 12, .inl fK)), (bC, .inl (cA, 41, .inl u_7)), (m0, .inr (2, [.int 2, .int (nI n), .int rg, .int st, .ref bV, .ref bW, .ref bR, .ref bP9, .ref bK, .ref bT, .ref bC]))] H := hP
      have hD : va_D A [(bV, .inl (cA, 12, .inl fV)), (bK, .inl (cA, 12, .inl fK)), (bC, .inl (cA, 41, .inl u_7)), (m0, .inr (2, [.int 2, .int (nI n), .int rg, .int st, .ref bV, .ref bW, .ref bR, .ref bP9, .ref bK, .ref bT, .ref bC]))] := hD
      refine lv_goto (tgt := 39) hx hb dX2_compromiseOf_35 (by decide) ?_
      refine useQ hQ ?_
      exact e_i (v := 0) F hr hlocks hK hP hD hS [3, 0, 1, 2] [0] (2, u_7) (⟨(cd2_2 (not_not_intro (bP_ne c_9)) (medM_one hI c_27)).symm, fun z => cx2 (cd2_2 (not_not_intro (bP_ne c_9)) (medM_one hI c_27)) z⟩) rfl rfl rfl (Nat.le_of_ble_eq_true rfl) (Nat.le_of_ble_eq_true rfl) dX2_compromiseOf_39
  · skip
    refine lv_aload_n hx hb dX2_compromiseOf_12 rfl (lv_at hl 0 rfl) ?_
    refine lv_iconst (v := 1) hx hb dX2_compromiseOf_13 (by decide) ?_
    have hX_13 : Cut D A [(m0, .inr (2, [.int 0, .int (nI n), .int rg, .int st, .ref bV, .ref bW, .ref bR, .ref bP9, .ref bK, .ref bT, .ref bC])), (bV, .inl (cA, 12, .inl fV)), (bK, .inl (cA, 12, .inl fK)), (bC, .inl (cA, 41, .inl fC))] [(m0, .inr (2, [.int 0, .int (nI n), .int rg, .int st, .ref bV, .ref bW, .ref bR, .ref bP9, .ref bK, .ref bT, .ref bC]))] [(bV, .inl (cA, 12, .inl fV)), (bK, .inl (cA, 12, .inl fK)), (bC, .inl (cA, 41, .inl fC))] [(cA, .int)] [(cA, .int)] [0] [1, 2, 3] [0] := ⟨rfl, rfl, rfl, rfl, by decide, rfl⟩
    refine ki hX_13 hP hD hS hA (kRunV (q := (RX2, TX2, 11)) (As := [.int 1]) (rest := []) F (c_X2_fail l D cA m0 0 n rg st bV bW bR bP9 bK bT bC 1 H.size) (cwV 1 hts gX2_compromiseOf_X2_fail rfl rfl rfl (by decide +kernel) ⟨Nat.le_of_ble_eq_true rfl, Nat.le_of_ble_eq_true rfl⟩) hK hP hD hX_13 0 rfl rfl rfl hl.1 rfl (Nat.le_of_ble_eq_true rfl) dX2_compromiseOf_14 ⟨Nat.le_of_ble_eq_true rfl, Nat.le_of_ble_eq_true rfl⟩) (fun r_14 u_15 H locs hw_16 hP hD hS => ?_)
    have hw_16 : r_14 = 0 := hw_16
    rw [hw_16]
    have hP : va_P D vwCl [(bV, .inl (cA, 12, .inl fV)), (bK, .inl (cA, 12, .inl fK)), (bC, .inl (cA, 41, .inl fC)), (m0, .inr (2, [.int 1, .int (nI n), .int rg, .int st, .ref bV, .ref bW, .ref bR, .ref bP9, .ref bK, .ref bT, .ref bC]))] H := hP
    have hD : va_D A [(bV, .inl (cA, 12, .inl fV)), (bK, .inl (cA, 12, .inl fK)), (bC, .inl (cA, 41, .inl fC)), (m0, .inr (2, [.int 1, .int (nI n), .int rg, .int st, .ref bV, .ref bW, .ref bR, .ref bP9, .ref bK, .ref bT, .ref bC]))] := hD
    refine useQ hQ ?_
    exact e_i (v := 0) F hr hlocks hK hP hD hS [3, 0, 1, 2] [0] (1, fC) (⟨(cd2_1 (bP_eq c_9)).symm, fun z => cx1 (cd2_1 (bP_eq c_9)) z⟩) rfl rfl rfl (Nat.le_of_ble_eq_true rfl) (Nat.le_of_ble_eq_true rfl) dX2_compromiseOf_17
theorem uX2_X2_compromiseWithout : ∀ w ∈ u_ws RX2 TX2 11, w ∈ wsX2_compromiseWithout := (fun _ h => List.mem_cons_of_mem _ (List.mem_append_right _ h))
set_option maxHeartbeats 4000000 in
set_option maxRecDepth 100000 in
theorem c_X2_compromiseWithout (l : Launch) (D : va_G) (cA : ClassId) (m0 : Nat) (th : Int32) (n : Nat) (rg : Int32) (st : Int32) (bV : Nat) (bW : Nat) (bR : Nat) (bP9 : Nat) (bK : Nat) (bT : Nat) (bC : Nat) (fV : Nat → Int32) (fK : Nat → Int32) (fC : Nat → Int32) (d : Int32) (hn : n ≤ 12) (hI : ∀ i, i < n → okD 41 (fK i)) (sz : Nat) : Met l yX2_compromiseWithout wsX2_compromiseWithout ({ frames := 2, cells := 0, slots := 0, locals := 43 } : Room) (va_Pc [.ref m0, .int d] (Wd D [(cA, .int)] [(m0, .inr (2, [.int th, .int (nI n), .int rg, .int st, .ref bV, .ref bW, .ref bR, .ref bP9, .ref bK, .ref bT, .ref bC])), (bV, .inl (cA, 12, .inl fV)), (bK, .inl (cA, 12, .inl fK)), (bC, .inl (cA, 41, .inl fC))] sz)) (va_Qi (fun (r : Int32) (u : Int32 × (Nat → Int32)) => u.1 = cd2 (¬ okD n d) (n = 1) ∧ (cd2 (¬ okD n d) (n = 1) = 0 → r = medF fK (selX (dN d)) n)) (fun (u : Int32 × (Nat → Int32)) t => We D [(cA, .int)] [(m0, .inr (2, [.int u.1, .int (nI n), .int rg, .int st, .ref bV, .ref bW, .ref bR, .ref bP9, .ref bK, .ref bT, .ref bC])), (bV, .inl (cA, 12, .inl fV)), (bK, .inl (cA, 12, .inl fK)), (bC, .inl (cA, 41, .inl u.2))] (va_A [(m0, .inr (2, [.int th, .int (nI n), .int rg, .int st, .ref bV, .ref bW, .ref bR, .ref bP9, .ref bK, .ref bT, .ref bC])), (bV, .inl (cA, 12, .inl fV)), (bK, .inl (cA, 12, .inl fK)), (bC, .inl (cA, 41, .inl fC))] sz) t) (va_A [(m0, .inr (2, [.int th, .int (nI n), .int rg, .int st, .ref bV, .ref bW, .ref bR, .ref bP9, .ref bK, .ref bT, .ref bC])), (bV, .inl (cA, 12, .inl fV)), (bK, .inl (cA, 12, .inl fK)), (bC, .inl (cA, 41, .inl fC))] sz)) 0 0 (va_A [(m0, .inr (2, [.int th, .int (nI n), .int rg, .int st, .ref bV, .ref bW, .ref bR, .ref bP9, .ref bK, .ref bT, .ref bC])), (bV, .inl (cA, 12, .inl fV)), (bK, .inl (cA, 12, .inl fK)), (bC, .inl (cA, 41, .inl fC))] sz) := by
  refine mk_met [.ref m0, .int d] (fun A => va_Qi (fun (r : Int32) (u : Int32 × (Nat → Int32)) => u.1 = cd2 (¬ okD n d) (n = 1) ∧ (cd2 (¬ okD n d) (n = 1) = 0 → r = medF fK (selX (dN d)) n)) (fun (u : Int32 × (Nat → Int32)) t => We D [(cA, .int)] [(m0, .inr (2, [.int u.1, .int (nI n), .int rg, .int st, .ref bV, .ref bW, .ref bR, .ref bP9, .ref bK, .ref bT, .ref bC])), (bV, .inl (cA, 12, .inl fV)), (bK, .inl (cA, 12, .inl fK)), (bC, .inl (cA, 41, .inl u.2))] A t) A) (by decide) rfl (Nat.le_of_ble_eq_true rfl) ?_
  intro p e s m args below meth c A ls F hr hlocks hname hP hK hD hA hl
  have hx := F.1
  have hb := F.2.1
  have hml := F.2.2.1
  have hown := F.2.2.2.1
  have hts := F.2.2.2.2
  have hS : va_S A s.heap s.heap [] := va_S.rf
  have hl : lv_has ls 2 [(0, .ref m0), (1, .int d)] := hl
  refine absQ (fun Q hQ => ?_)
  refine lv_aload_n hx hb dX2_compromiseWithout_0 rfl (lv_at hl 0 rfl) ?_
  refine lv_iconst (v := 0) hx hb dX2_compromiseWithout_1 (by decide) ?_
  refine va_put (D := D) (ci := 2) (v := .int 0) (ty := .int) (C := RX2) (T := TX2) (N := 11) hx hb hts uX2_X2_compromiseWithout tyX2 tyX2_ok nmX2 hown hK hP hD hS 0 rfl rfl 0 (by decide) (hts (.fieldLink RX2 35 "RopeChoicesModel" "thrown" "I") (List.mem_of_getElem? (i := 1) rfl)) (fun _ h9 => h9) rfl (by decide +kernel) rfl rfl (Nat.le_of_ble_eq_true rfl) dX2_compromiseWithout_2 (fun H locs hP hD hS => ?_)
  have hP : va_P D vwCl [(m0, .inr (2, [.int 0, .int (nI n), .int rg, .int st, .ref bV, .ref bW, .ref bR, .ref bP9, .ref bK, .ref bT, .ref bC])), (bV, .inl (cA, 12, .inl fV)), (bK, .inl (cA, 12, .inl fK)), (bC, .inl (cA, 41, .inl fC))] H := hP
  have hD : va_D A [(m0, .inr (2, [.int 0, .int (nI n), .int rg, .int st, .ref bV, .ref bW, .ref bR, .ref bP9, .ref bK, .ref bT, .ref bC])), (bV, .inl (cA, 12, .inl fV)), (bK, .inl (cA, 12, .inl fK)), (bC, .inl (cA, 41, .inl fC))] := hD
  refine lv_aload_n hx hb dX2_compromiseWithout_5 rfl (lv_at hl 0 rfl) ?_
  refine lv_iload_n hx hb dX2_compromiseWithout_6 rfl (lv_at hl 1 rfl) ?_
  have hX_1 : Cut D A [(m0, .inr (2, [.int 0, .int (nI n), .int rg, .int st, .ref bV, .ref bW, .ref bR, .ref bP9, .ref bK, .ref bT, .ref bC])), (bV, .inl (cA, 12, .inl fV)), (bK, .inl (cA, 12, .inl fK)), (bC, .inl (cA, 41, .inl fC))] [(m0, .inr (2, [.int 0, .int (nI n), .int rg, .int st, .ref bV, .ref bW, .ref bR, .ref bP9, .ref bK, .ref bT, .ref bC]))] [(bV, .inl (cA, 12, .inl fV)), (bK, .inl (cA, 12, .inl fK)), (bC, .inl (cA, 41, .inl fC))] [(cA, .int)] [(cA, .int)] [0] [1, 2, 3] [0] := ⟨rfl, rfl, rfl, rfl, by decide, rfl⟩
  refine ki hX_1 hP hD hS hA (kRunV (q := (RX2, TX2, 11)) (As := [.int d]) (rest := []) F (c_X2_isDelegate l D cA m0 0 n rg st bV bW bR bP9 bK bT bC d hn H.size) (cwV 1 hts gX2_compromiseWithout_X2_isDelegate rfl rfl rfl (by decide +kernel) ⟨Nat.le_of_ble_eq_true rfl, Nat.le_of_ble_eq_true rfl⟩) hK hP hD hX_1 0 rfl rfl rfl hl.1 rfl (Nat.le_of_ble_eq_true rfl) dX2_compromiseWithout_7 ⟨Nat.le_of_ble_eq_true rfl, Nat.le_of_ble_eq_true rfl⟩) (fun r_2 u_3 H locs hw_4 hP hD hS => ?_)
  have hw_4 : r_2 = bP (okD n d) := hw_4
  rw [hw_4]
  have hP : va_P D vwCl [(bV, .inl (cA, 12, .inl fV)), (bK, .inl (cA, 12, .inl fK)), (bC, .inl (cA, 41, .inl fC)), (m0, .inr (2, [.int 0, .int (nI n), .int rg, .int st, .ref bV, .ref bW, .ref bR, .ref bP9, .ref bK, .ref bT, .ref bC]))] H := hP
  have hD : va_D A [(bV, .inl (cA, 12, .inl fV)), (bK, .inl (cA, 12, .inl fK)), (bC, .inl (cA, 41, .inl fC)), (m0, .inr (2, [.int 0, .int (nI n), .int rg, .int st, .ref bV, .ref bW, .ref bR, .ref bP9, .ref bK, .ref bT, .ref bC]))] := hD
  refine lv_if_ne (tgt := 19) hx hb dX2_compromiseWithout_10 (by decide) (fun c_10 => ?_) (fun c_10 => ?_)
  · skip
    obtain ⟨j, hj, hd9⟩ := (bP_ne c_10)
    subst hd9
    have hD9 : okD n (nI j) := ⟨j, hj, rfl⟩
    have hdn : dN (nI j) = j := dN_nI (by omega)
    refine lv_aload_n hx hb dX2_compromiseWithout_19 rfl (lv_at hl 0 rfl) ?_
    refine va_get (D := D) (ci := 2) (v := .int (nI n)) (C := RX2) (T := TX2) (N := 11) hx hb hts uX2_X2_compromiseWithout hown hK hP 3 rfl rfl 1 (by decide) (hts (.fieldLink RX2 38 "RopeChoicesModel" "many" "I") (List.mem_of_getElem? (i := 2) rfl)) (fun _ h9 => h9) rfl dX2_compromiseWithout_20 ?_
    refine lv_iconst (v := 1) hx hb dX2_compromiseWithout_23 (by decide) ?_
    refine lv_icmp_ne (tgt := 35) hx hb dX2_compromiseWithout_24 (by decide) (fun c_24 => ?_) (fun c_24 => ?_)
    · skip
      have g_24 : n ≠ 1 := nf_ne_t (by omega) (by omega) c_24
      refine lv_aload_n hx hb dX2_compromiseWithout_35 rfl (lv_at hl 0 rfl) ?_
      refine lv_iconst (v := (-1)) hx hb dX2_compromiseWithout_36 (by decide) ?_
      refine lv_iload_n hx hb dX2_compromiseWithout_37 rfl (lv_at hl 1 rfl) ?_
      have hX_5 : Cut D A [(bV, .inl (cA, 12, .inl fV)), (bK, .inl (cA, 12, .inl fK)), (bC, .inl (cA, 41, .inl fC)), (m0, .inr (2, [.int 0, .int (nI n), .int rg, .int st, .ref bV, .ref bW, .ref bR, .ref bP9, .ref bK, .ref bT, .ref bC]))] [(m0, .inr (2, [.int 0, .int (nI n), .int rg, .int st, .ref bV, .ref bW, .ref bR, .ref bP9, .ref bK, .ref bT, .ref bC])), (bV, .inl (cA, 12, .inl fV)), (bK, .inl (cA, 12, .inl fK)), (bC, .inl (cA, 41, .inl fC))] [] [(cA, .int)] [(cA, .int)] [3, 0, 1, 2] [] [0] := ⟨rfl, rfl, rfl, rfl, by decide, rfl⟩
      refine ki hX_5 hP hD hS hA (kRunV (q := (RX2, TX2, 11)) (As := [.int (-1), .int (nI j)]) (rest := []) F (c_X2_median l D cA m0 0 n rg st bV bW bR bP9 bK bT bC fV fK fC (-1) (nI j) hn hI H.size) (cwV 2 hts gX2_compromiseWithout_X2_median rfl rfl rfl (by decide +kernel) ⟨Nat.le_of_ble_eq_true rfl, Nat.le_of_ble_eq_true rfl⟩) hK hP hD hX_5 3 rfl rfl rfl hl.1 rfl (Nat.le_of_ble_eq_true rfl) dX2_compromiseWithout_38 ⟨Nat.le_of_ble_eq_true rfl, Nat.le_of_ble_eq_true rfl⟩) (fun r_6 u_7 H locs hw_8 hP hD hS => ?_)
      have hw_8 : r_6 = medM fK (selM fV (-1) (nI j)) n := hw_8
      rw [hw_8]
      have hP : va_P D vwCl [(m0, .inr (2, [.int 0, .int (nI n), .int rg, .int st, .ref bV, .ref bW, .ref bR, .ref bP9, .ref bK, .ref bT, .ref bC])), (bV, .inl (cA, 12, .inl fV)), (bK, .inl (cA, 12, .inl fK)), (bC, .inl (cA, 41, .inl u_7))] H := hP
      have hD : va_D A [(m0, .inr (2, [.int 0, .int (nI n), .int rg, .int st, .ref bV, .ref bW, .ref bR, .ref bP9, .ref bK, .ref bT, .ref bC])), (bV, .inl (cA, 12, .inl fV)), (bK, .inl (cA, 12, .inl fK)), (bC, .inl (cA, 41, .inl u_7))] := hD
      refine topi (medM fK (selX j) n) (medM_X hn hj) ?_
      refine useQ hQ ?_
      exact e_i (v := medM fK (selX j) n) F hr hlocks hK hP hD hS [0, 1, 2, 3] [0] (0, u_7) (⟨(cd2_0 (not_not_intro hD9) g_24).symm, fun _ => by rw [hdn]; exact medM_F (by rw [tot_selX, if_pos hj]; omega)⟩) rfl rfl rfl (Nat.le_of_ble_eq_true rfl) (Nat.le_of_ble_eq_true rfl) dX2_compromiseWithout_41
    · skip
      have g_24 : n = 1 := nf_ne_f (by omega) (by omega) c_24
      refine lv_aload_n hx hb dX2_compromiseWithout_27 rfl (lv_at hl 0 rfl) ?_
      refine lv_iconst (v := 2) hx hb dX2_compromiseWithout_28 (by decide) ?_
      have hX_9 : Cut D A [(bV, .inl (cA, 12, .inl fV)), (bK, .inl (cA, 12, .inl fK)), (bC, .inl (cA, 41, .inl fC)), (m0, .inr (2, [.int 0, .int (nI n), .int rg, .int st, .ref bV, .ref bW, .ref bR, .ref bP9, .ref bK, .ref bT, .ref bC]))] [(m0, .inr (2, [.int 0, .int (nI n), .int rg, .int st, .ref bV, .ref bW, .ref bR, .ref bP9, .ref bK, .ref bT, .ref bC]))] [(bV, .inl (cA, 12, .inl fV)), (bK, .inl (cA, 12, .inl fK)), (bC, .inl (cA, 41, .inl fC))] [(cA, .int)] [(cA, .int)] [3] [0, 1, 2] [0] := ⟨rfl, rfl, rfl, rfl, by decide, rfl⟩
      refine ki hX_9 hP hD hS hA (kRunV (q := (RX2, TX2, 11)) (As := [.int 2]) (rest := []) F (c_X2_fail l D cA m0 0 n rg st bV bW bR bP9 bK bT bC 2 H.size) (cwV 1 hts gX2_compromiseWithout_X2_fail rfl rfl rfl (by decide +kernel) ⟨Nat.le_of_ble_eq_true rfl, Nat.le_of_ble_eq_true rfl⟩) hK hP hD hX_9 3 rfl rfl rfl hl.1 rfl (Nat.le_of_ble_eq_true rfl) dX2_compromiseWithout_29 ⟨Nat.le_of_ble_eq_true rfl, Nat.le_of_ble_eq_true rfl⟩) (fun r_10 u_11 H locs hw_12 hP hD hS => ?_)
      have hw_12 : r_10 = 0 := hw_12
      rw [hw_12]
      have hP : va_P D vwCl [(bV, .inl (cA, 12, .inl fV)), (bK, .inl (cA, 12, .inl fK)), (bC, .inl (cA, 41, .inl fC)), (m0, .inr (2, [.int 2, .int (nI n), .int rg, .int st, .ref bV, .ref bW, .ref bR, .ref bP9, .ref bK, .ref bT, .ref bC]))] H := hP
      have hD : va_D A [(bV, .inl (cA, 12, .inl fV)), (bK, .inl (cA, 12, .inl fK)), (bC, .inl (cA, 41, .inl fC)), (m0, .inr (2, [.int 2, .int (nI n), .int rg, .int st, .ref bV, .ref bW, .ref bR, .ref bP9, .ref bK, .ref bT, .ref bC]))] := hD
      refine lv_goto (tgt := 41) hx hb dX2_compromiseWithout_32 (by decide) ?_
      refine useQ hQ ?_
      exact e_i (v := 0) F hr hlocks hK hP hD hS [3, 0, 1, 2] [0] (2, fC) (⟨(cd2_2 (not_not_intro hD9) g_24).symm, fun z => cx2 (cd2_2 (not_not_intro hD9) g_24) z⟩) rfl rfl rfl (Nat.le_of_ble_eq_true rfl) (Nat.le_of_ble_eq_true rfl) dX2_compromiseWithout_41
  · skip
    refine lv_aload_n hx hb dX2_compromiseWithout_13 rfl (lv_at hl 0 rfl) ?_
    refine lv_iconst (v := 1) hx hb dX2_compromiseWithout_14 (by decide) ?_
    have hX_13 : Cut D A [(bV, .inl (cA, 12, .inl fV)), (bK, .inl (cA, 12, .inl fK)), (bC, .inl (cA, 41, .inl fC)), (m0, .inr (2, [.int 0, .int (nI n), .int rg, .int st, .ref bV, .ref bW, .ref bR, .ref bP9, .ref bK, .ref bT, .ref bC]))] [(m0, .inr (2, [.int 0, .int (nI n), .int rg, .int st, .ref bV, .ref bW, .ref bR, .ref bP9, .ref bK, .ref bT, .ref bC]))] [(bV, .inl (cA, 12, .inl fV)), (bK, .inl (cA, 12, .inl fK)), (bC, .inl (cA, 41, .inl fC))] [(cA, .int)] [(cA, .int)] [3] [0, 1, 2] [0] := ⟨rfl, rfl, rfl, rfl, by decide, rfl⟩
    refine ki hX_13 hP hD hS hA (kRunV (q := (RX2, TX2, 11)) (As := [.int 1]) (rest := []) F (c_X2_fail l D cA m0 0 n rg st bV bW bR bP9 bK bT bC 1 H.size) (cwV 1 hts gX2_compromiseWithout_X2_fail rfl rfl rfl (by decide +kernel) ⟨Nat.le_of_ble_eq_true rfl, Nat.le_of_ble_eq_true rfl⟩) hK hP hD hX_13 3 rfl rfl rfl hl.1 rfl (Nat.le_of_ble_eq_true rfl) dX2_compromiseWithout_15 ⟨Nat.le_of_ble_eq_true rfl, Nat.le_of_ble_eq_true rfl⟩) (fun r_14 u_15 H locs hw_16 hP hD hS => ?_)
    have hw_16 : r_14 = 0 := hw_16
    rw [hw_16]
    have hP : va_P D vwCl [(bV, .inl (cA, 12, .inl fV)), (bK, .inl (cA, 12, .inl fK)), (bC, .inl (cA, 41, .inl fC)), (m0, .inr (2, [.int 1, .int (nI n), .int rg, .int st, .ref bV, .ref bW, .ref bR, .ref bP9, .ref bK, .ref bT, .ref bC]))] H := hP
    have hD : va_D A [(bV, .inl (cA, 12, .inl fV)), (bK, .inl (cA, 12, .inl fK)), (bC, .inl (cA, 41, .inl fC)), (m0, .inr (2, [.int 1, .int (nI n), .int rg, .int st, .ref bV, .ref bW, .ref bR, .ref bP9, .ref bK, .ref bT, .ref bC]))] := hD
    refine useQ hQ ?_
    exact e_i (v := 0) F hr hlocks hK hP hD hS [3, 0, 1, 2] [0] (1, fC) (⟨(cd2_1 (bP_eq c_10)).symm, fun z => cx1 (cd2_1 (bP_eq c_10)) z⟩) rfl rfl rfl (Nat.le_of_ble_eq_true rfl) (Nat.le_of_ble_eq_true rfl) dX2_compromiseWithout_18
theorem uX2_X2_decisiveOne : ∀ w ∈ u_ws RX2 TX2 11, w ∈ wsX2_decisiveOne := (fun _ h => List.mem_cons_of_mem _ (List.mem_append_right _ h))
set_option maxHeartbeats 4000000 in
set_option maxRecDepth 100000 in
theorem c_X2_decisiveOne (l : Launch) (D : va_G) (cA : ClassId) (m0 : Nat) (th : Int32) (n : Nat) (rg : Int32) (st : Int32) (bV : Nat) (bW : Nat) (bR : Nat) (bP9 : Nat) (bK : Nat) (bT : Nat) (bC : Nat) (fV : Nat → Int32) (fK : Nat → Int32) (fC : Nat → Int32) (hn : n ≤ 12) (hI : ∀ i, i < n → okD 41 (fK i)) (sz : Nat) : Met l yX2_decisiveOne wsX2_decisiveOne ({ frames := 3, cells := 0, slots := 0, locals := 67 } : Room) (va_Pc [.ref m0] (Wd D [(cA, .int)] [(m0, .inr (2, [.int th, .int (nI n), .int rg, .int st, .ref bV, .ref bW, .ref bR, .ref bP9, .ref bK, .ref bT, .ref bC])), (bV, .inl (cA, 12, .inl fV)), (bK, .inl (cA, 12, .inl fK)), (bC, .inl (cA, 41, .inl fC))] sz)) (va_Qi (fun (r : Int32) (u : Int32 × (Nat → Int32)) => u.1 = cd1 (n = 0) ∧ (cd1 (n = 0) = 0 → r = decF fK n)) (fun (u : Int32 × (Nat → Int32)) t => We D [(cA, .int)] [(m0, .inr (2, [.int u.1, .int (nI n), .int rg, .int st, .ref bV, .ref bW, .ref bR, .ref bP9, .ref bK, .ref bT, .ref bC])), (bV, .inl (cA, 12, .inl fV)), (bK, .inl (cA, 12, .inl fK)), (bC, .inl (cA, 41, .inl u.2))] (va_A [(m0, .inr (2, [.int th, .int (nI n), .int rg, .int st, .ref bV, .ref bW, .ref bR, .ref bP9, .ref bK, .ref bT, .ref bC])), (bV, .inl (cA, 12, .inl fV)), (bK, .inl (cA, 12, .inl fK)), (bC, .inl (cA, 41, .inl fC))] sz) t) (va_A [(m0, .inr (2, [.int th, .int (nI n), .int rg, .int st, .ref bV, .ref bW, .ref bR, .ref bP9, .ref bK, .ref bT, .ref bC])), (bV, .inl (cA, 12, .inl fV)), (bK, .inl (cA, 12, .inl fK)), (bC, .inl (cA, 41, .inl fC))] sz)) 0 0 (va_A [(m0, .inr (2, [.int th, .int (nI n), .int rg, .int st, .ref bV, .ref bW, .ref bR, .ref bP9, .ref bK, .ref bT, .ref bC])), (bV, .inl (cA, 12, .inl fV)), (bK, .inl (cA, 12, .inl fK)), (bC, .inl (cA, 41, .inl fC))] sz) := by
  refine mk_met [.ref m0] (fun A => va_Qi (fun (r : Int32) (u : Int32 × (Nat → Int32)) => u.1 = cd1 (n = 0) ∧ (cd1 (n = 0) = 0 → r = decF fK n)) (fun (u : Int32 × (Nat → Int32)) t => We D [(cA, .int)] [(m0, .inr (2, [.int u.1, .int (nI n), .int rg, .int st, .ref bV, .ref bW, .ref bR, .ref bP9, .ref bK, .ref bT, .ref bC])), (bV, .inl (cA, 12, .inl fV)), (bK, .inl (cA, 12, .inl fK)), (bC, .inl (cA, 41, .inl u.2))] A t) A) (by decide) rfl (Nat.le_of_ble_eq_true rfl) ?_
  intro p e s m args below meth c A ls F hr hlocks hname hP hK hD hA hl
  have hx := F.1
  have hb := F.2.1
  have hml := F.2.2.1
  have hown := F.2.2.2.1
  have hts := F.2.2.2.2
  have hS : va_S A s.heap s.heap [] := va_S.rf
  have hl : lv_has ls 1 [(0, .ref m0)] := hl
  refine absQ (fun Q hQ => ?_)
  refine lv_aload_n hx hb dX2_decisiveOne_0 rfl (lv_at hl 0 rfl) ?_
  refine lv_iconst (v := 0) hx hb dX2_decisiveOne_1 (by decide) ?_
  refine va_put (D := D) (ci := 2) (v := .int 0) (ty := .int) (C := RX2) (T := TX2) (N := 11) hx hb hts uX2_X2_decisiveOne tyX2 tyX2_ok nmX2 hown hK hP hD hS 0 rfl rfl 0 (by decide) (hts (.fieldLink RX2 35 "RopeChoicesModel" "thrown" "I") (List.mem_of_getElem? (i := 1) rfl)) (fun _ h9 => h9) rfl (by decide +kernel) rfl rfl (Nat.le_of_ble_eq_true rfl) dX2_decisiveOne_2 (fun H locs hP hD hS => ?_)
  have hP : va_P D vwCl [(m0, .inr (2, [.int 0, .int (nI n), .int rg, .int st, .ref bV, .ref bW, .ref bR, .ref bP9, .ref bK, .ref bT, .ref bC])), (bV, .inl (cA, 12, .inl fV)), (bK, .inl (cA, 12, .inl fK)), (bC, .inl (cA, 41, .inl fC))] H := hP
  have hD : va_D A [(m0, .inr (2, [.int 0, .int (nI n), .int rg, .int st, .ref bV, .ref bW, .ref bR, .ref bP9, .ref bK, .ref bT, .ref bC])), (bV, .inl (cA, 12, .inl fV)), (bK, .inl (cA, 12, .inl fK)), (bC, .inl (cA, 41, .inl fC))] := hD
  refine lv_aload_n hx hb dX2_decisiveOne_5 rfl (lv_at hl 0 rfl) ?_
  refine va_get (D := D) (ci := 2) (v := .int (nI n)) (C := RX2) (T := TX2) (N := 11) hx hb hts uX2_X2_decisiveOne hown hK hP 0 rfl rfl 1 (by decide) (hts (.fieldLink RX2 38 "RopeChoicesModel" "many" "I") (List.mem_of_getElem? (i := 2) rfl)) (fun _ h9 => h9) rfl dX2_decisiveOne_6 ?_
  refine lv_if_ne (tgt := 20) hx hb dX2_decisiveOne_9 (by decide) (fun c_9 => ?_) (fun c_9 => ?_)
  · skip
    have g_9 : n ≠ 0 := nf_ne_t (by omega) (by omega) c_9
    refine lv_aload_n hx hb dX2_decisiveOne_20 rfl (lv_at hl 0 rfl) ?_
    have hX_1 : Cut D A [(m0, .inr (2, [.int 0, .int (nI n), .int rg, .int st, .ref bV, .ref bW, .ref bR, .ref bP9, .ref bK, .ref bT, .ref bC])), (bV, .inl (cA, 12, .inl fV)), (bK, .inl (cA, 12, .inl fK)), (bC, .inl (cA, 41, .inl fC))] [(m0, .inr (2, [.int 0, .int (nI n), .int rg, .int st, .ref bV, .ref bW, .ref bR, .ref bP9, .ref bK, .ref bT, .ref bC])), (bV, .inl (cA, 12, .inl fV)), (bK, .inl (cA, 12, .inl fK)), (bC, .inl (cA, 41, .inl fC))] [] [(cA, .int)] [(cA, .int)] [0, 1, 2, 3] [] [0] := ⟨rfl, rfl, rfl, rfl, by decide, rfl⟩
    refine ki hX_1 hP hD hS hA (kRunV (q := (RX2, TX2, 11)) (As := []) (rest := []) F (c_X2_decisive l D cA m0 0 n rg st bV bW bR bP9 bK bT bC fV fK fC hn hI g_9 H.size) (cwV 0 hts gX2_decisiveOne_X2_decisive rfl rfl rfl (by decide +kernel) ⟨Nat.le_of_ble_eq_true rfl, Nat.le_of_ble_eq_true rfl⟩) hK hP hD hX_1 0 rfl rfl rfl hl.1 rfl (Nat.le_of_ble_eq_true rfl) dX2_decisiveOne_21 ⟨Nat.le_of_ble_eq_true rfl, Nat.le_of_ble_eq_true rfl⟩) (fun r_2 u_3 H locs hw_4 hP hD hS => ?_)
    have hw_4 : r_2 = decF fK n := hw_4
    rw [hw_4]
    have hP : va_P D vwCl [(m0, .inr (2, [.int 0, .int (nI n), .int rg, .int st, .ref bV, .ref bW, .ref bR, .ref bP9, .ref bK, .ref bT, .ref bC])), (bV, .inl (cA, 12, .inl fV)), (bK, .inl (cA, 12, .inl fK)), (bC, .inl (cA, 41, .inl u_3))] H := hP
    have hD : va_D A [(m0, .inr (2, [.int 0, .int (nI n), .int rg, .int st, .ref bV, .ref bW, .ref bR, .ref bP9, .ref bK, .ref bT, .ref bC])), (bV, .inl (cA, 12, .inl fV)), (bK, .inl (cA, 12, .inl fK)), (bC, .inl (cA, 41, .inl u_3))] := hD
    refine useQ hQ ?_
    exact e_i (v := decF fK n) F hr hlocks hK hP hD hS [0, 1, 2, 3] [0] (0, u_3) (⟨(cd1_0 g_9).symm, fun _ => rfl⟩) rfl rfl rfl (Nat.le_of_ble_eq_true rfl) (Nat.le_of_ble_eq_true rfl) dX2_decisiveOne_24
  · skip
    have g_9 : n = 0 := nf_ne_f (by omega) (by omega) c_9
    refine lv_aload_n hx hb dX2_decisiveOne_12 rfl (lv_at hl 0 rfl) ?_
    refine lv_iconst (v := 1) hx hb dX2_decisiveOne_13 (by decide) ?_
    have hX_5 : Cut D A [(m0, .inr (2, [.int 0, .int (nI n), .int rg, .int st, .ref bV, .ref bW, .ref bR, .ref bP9, .ref bK, .ref bT, .ref bC])), (bV, .inl (cA, 12, .inl fV)), (bK, .inl (cA, 12, .inl fK)), (bC, .inl (cA, 41, .inl fC))] [(m0, .inr (2, [.int 0, .int (nI n), .int rg, .int st, .ref bV, .ref bW, .ref bR, .ref bP9, .ref bK, .ref bT, .ref bC]))] [(bV, .inl (cA, 12, .inl fV)), (bK, .inl (cA, 12, .inl fK)), (bC, .inl (cA, 41, .inl fC))] [(cA, .int)] [(cA, .int)] [0] [1, 2, 3] [0] := ⟨rfl, rfl, rfl, rfl, by decide, rfl⟩
    refine ki hX_5 hP hD hS hA (kRunV (q := (RX2, TX2, 11)) (As := [.int 1]) (rest := []) F (c_X2_fail l D cA m0 0 n rg st bV bW bR bP9 bK bT bC 1 H.size) (cwV 1 hts gX2_decisiveOne_X2_fail rfl rfl rfl (by decide +kernel) ⟨Nat.le_of_ble_eq_true rfl, Nat.le_of_ble_eq_true rfl⟩) hK hP hD hX_5 0 rfl rfl rfl hl.1 rfl (Nat.le_of_ble_eq_true rfl) dX2_decisiveOne_14 ⟨Nat.le_of_ble_eq_true rfl, Nat.le_of_ble_eq_true rfl⟩) (fun r_6 u_7 H locs hw_8 hP hD hS => ?_)
    have hw_8 : r_6 = 0 := hw_8
    rw [hw_8]
    have hP : va_P D vwCl [(bV, .inl (cA, 12, .inl fV)), (bK, .inl (cA, 12, .inl fK)), (bC, .inl (cA, 41, .inl fC)), (m0, .inr (2, [.int 1, .int (nI n), .int rg, .int st, .ref bV, .ref bW, .ref bR, .ref bP9, .ref bK, .ref bT, .ref bC]))] H := hP
    have hD : va_D A [(bV, .inl (cA, 12, .inl fV)), (bK, .inl (cA, 12, .inl fK)), (bC, .inl (cA, 41, .inl fC)), (m0, .inr (2, [.int 1, .int (nI n), .int rg, .int st, .ref bV, .ref bW, .ref bR, .ref bP9, .ref bK, .ref bT, .ref bC]))] := hD
    refine lv_goto (tgt := 24) hx hb dX2_decisiveOne_17 (by decide) ?_
    refine useQ hQ ?_
    exact e_i (v := 0) F hr hlocks hK hP hD hS [3, 0, 1, 2] [0] (1, fC) (⟨(cd1_1 g_9).symm, fun z => cx1 (cd1_1 g_9) z⟩) rfl rfl rfl (Nat.le_of_ble_eq_true rfl) (Nat.le_of_ble_eq_true rfl) dX2_decisiveOne_24
theorem uX2_X2_discontentOf : ∀ w ∈ u_ws RX2 TX2 11, w ∈ wsX2_discontentOf := (fun _ h => List.mem_cons_of_mem _ (List.mem_append_right _ h))
set_option maxHeartbeats 4000000 in
set_option maxRecDepth 100000 in
theorem c_X2_discontentOf (l : Launch) (D : va_G) (cA : ClassId) (m0 : Nat) (th : Int32) (n : Nat) (rg : Int32) (st : Int32) (bV : Nat) (bW : Nat) (bR : Nat) (bP9 : Nat) (bK : Nat) (bT : Nat) (bC : Nat) (fV : Nat → Int32) (fW : Nat → Int32) (fK : Nat → Int32) (fC : Nat → Int32) (d : Int32) (hn : n ≤ 12) (hI : ∀ i, i < n → okD 41 (fK i)) (hW : ∀ i, i < n → okD 41 (fW i)) (sz : Nat) : Met l yX2_discontentOf wsX2_discontentOf ({ frames := 2, cells := 0, slots := 0, locals := 52 } : Room) (va_Pc [.ref m0, .int d] (Wd D [(cA, .int)] [(m0, .inr (2, [.int th, .int (nI n), .int rg, .int st, .ref bV, .ref bW, .ref bR, .ref bP9, .ref bK, .ref bT, .ref bC])), (bV, .inl (cA, 12, .inl fV)), (bW, .inl (cA, 12, .inl fW)), (bK, .inl (cA, 12, .inl fK)), (bC, .inl (cA, 41, .inl fC))] sz)) (va_Qi (fun (r : Int32) (u : Int32 × (Nat → Int32)) => u.1 = cd1 (¬ okD n d) ∧ (cd1 (¬ okD n d) = 0 → r = jabs (midF fK n - fW (dN d)))) (fun (u : Int32 × (Nat → Int32)) t => We D [(cA, .int)] [(m0, .inr (2, [.int u.1, .int (nI n), .int rg, .int st, .ref bV, .ref bW, .ref bR, .ref bP9, .ref bK, .ref bT, .ref bC])), (bV, .inl (cA, 12, .inl fV)), (bW, .inl (cA, 12, .inl fW)), (bK, .inl (cA, 12, .inl fK)), (bC, .inl (cA, 41, .inl u.2))] (va_A [(m0, .inr (2, [.int th, .int (nI n), .int rg, .int st, .ref bV, .ref bW, .ref bR, .ref bP9, .ref bK, .ref bT, .ref bC])), (bV, .inl (cA, 12, .inl fV)), (bW, .inl (cA, 12, .inl fW)), (bK, .inl (cA, 12, .inl fK)), (bC, .inl (cA, 41, .inl fC))] sz) t) (va_A [(m0, .inr (2, [.int th, .int (nI n), .int rg, .int st, .ref bV, .ref bW, .ref bR, .ref bP9, .ref bK, .ref bT, .ref bC])), (bV, .inl (cA, 12, .inl fV)), (bW, .inl (cA, 12, .inl fW)), (bK, .inl (cA, 12, .inl fK)), (bC, .inl (cA, 41, .inl fC))] sz)) 0 0 (va_A [(m0, .inr (2, [.int th, .int (nI n), .int rg, .int st, .ref bV, .ref bW, .ref bR, .ref bP9, .ref bK, .ref bT, .ref bC])), (bV, .inl (cA, 12, .inl fV)), (bW, .inl (cA, 12, .inl fW)), (bK, .inl (cA, 12, .inl fK)), (bC, .inl (cA, 41, .inl fC))] sz) := by
  refine mk_met [.ref m0, .int d] (fun A => va_Qi (fun (r : Int32) (u : Int32 × (Nat → Int32)) => u.1 = cd1 (¬ okD n d) ∧ (cd1 (¬ okD n d) = 0 → r = jabs (midF fK n - fW (dN d)))) (fun (u : Int32 × (Nat → Int32)) t => We D [(cA, .int)] [(m0, .inr (2, [.int u.1, .int (nI n), .int rg, .int st, .ref bV, .ref bW, .ref bR, .ref bP9, .ref bK, .ref bT, .ref bC])), (bV, .inl (cA, 12, .inl fV)), (bW, .inl (cA, 12, .inl fW)), (bK, .inl (cA, 12, .inl fK)), (bC, .inl (cA, 41, .inl u.2))] A t) A) (by decide) rfl (Nat.le_of_ble_eq_true rfl) ?_
  intro p e s m args below meth c A ls F hr hlocks hname hP hK hD hA hl
  have hx := F.1
  have hb := F.2.1
  have hml := F.2.2.1
  have hown := F.2.2.2.1
  have hts := F.2.2.2.2
  have hS : va_S A s.heap s.heap [] := va_S.rf
  have hl : lv_has ls 2 [(0, .ref m0), (1, .int d)] := hl
  refine absQ (fun Q hQ => ?_)
  refine lv_aload_n hx hb dX2_discontentOf_0 rfl (lv_at hl 0 rfl) ?_
  refine lv_iconst (v := 0) hx hb dX2_discontentOf_1 (by decide) ?_
  refine va_put (D := D) (ci := 2) (v := .int 0) (ty := .int) (C := RX2) (T := TX2) (N := 11) hx hb hts uX2_X2_discontentOf tyX2 tyX2_ok nmX2 hown hK hP hD hS 0 rfl rfl 0 (by decide) (hts (.fieldLink RX2 35 "RopeChoicesModel" "thrown" "I") (List.mem_of_getElem? (i := 1) rfl)) (fun _ h9 => h9) rfl (by decide +kernel) rfl rfl (Nat.le_of_ble_eq_true rfl) dX2_discontentOf_2 (fun H locs hP hD hS => ?_)
  have hP : va_P D vwCl [(m0, .inr (2, [.int 0, .int (nI n), .int rg, .int st, .ref bV, .ref bW, .ref bR, .ref bP9, .ref bK, .ref bT, .ref bC])), (bV, .inl (cA, 12, .inl fV)), (bW, .inl (cA, 12, .inl fW)), (bK, .inl (cA, 12, .inl fK)), (bC, .inl (cA, 41, .inl fC))] H := hP
  have hD : va_D A [(m0, .inr (2, [.int 0, .int (nI n), .int rg, .int st, .ref bV, .ref bW, .ref bR, .ref bP9, .ref bK, .ref bT, .ref bC])), (bV, .inl (cA, 12, .inl fV)), (bW, .inl (cA, 12, .inl fW)), (bK, .inl (cA, 12, .inl fK)), (bC, .inl (cA, 41, .inl fC))] := hD
  refine lv_aload_n hx hb dX2_discontentOf_5 rfl (lv_at hl 0 rfl) ?_
  refine lv_iload_n hx hb dX2_discontentOf_6 rfl (lv_at hl 1 rfl) ?_
  have hX_1 : Cut D A [(m0, .inr (2, [.int 0, .int (nI n), .int rg, .int st, .ref bV, .ref bW, .ref bR, .ref bP9, .ref bK, .ref bT, .ref bC])), (bV, .inl (cA, 12, .inl fV)), (bW, .inl (cA, 12, .inl fW)), (bK, .inl (cA, 12, .inl fK)), (bC, .inl (cA, 41, .inl fC))] [(m0, .inr (2, [.int 0, .int (nI n), .int rg, .int st, .ref bV, .ref bW, .ref bR, .ref bP9, .ref bK, .ref bT, .ref bC]))] [(bV, .inl (cA, 12, .inl fV)), (bW, .inl (cA, 12, .inl fW)), (bK, .inl (cA, 12, .inl fK)), (bC, .inl (cA, 41, .inl fC))] [(cA, .int)] [(cA, .int)] [0] [1, 2, 3, 4] [0] := ⟨rfl, rfl, rfl, rfl, by decide, rfl⟩
  refine ki hX_1 hP hD hS hA (kRunV (q := (RX2, TX2, 11)) (As := [.int d]) (rest := []) F (c_X2_isDelegate l D cA m0 0 n rg st bV bW bR bP9 bK bT bC d hn H.size) (cwV 1 hts gX2_discontentOf_X2_isDelegate rfl rfl rfl (by decide +kernel) ⟨Nat.le_of_ble_eq_true rfl, Nat.le_of_ble_eq_true rfl⟩) hK hP hD hX_1 0 rfl rfl rfl hl.1 rfl (Nat.le_of_ble_eq_true rfl) dX2_discontentOf_7 ⟨Nat.le_of_ble_eq_true rfl, Nat.le_of_ble_eq_true rfl⟩) (fun r_2 u_3 H locs hw_4 hP hD hS => ?_)
  have hw_4 : r_2 = bP (okD n d) := hw_4
  rw [hw_4]
  have hP : va_P D vwCl [(bV, .inl (cA, 12, .inl fV)), (bW, .inl (cA, 12, .inl fW)), (bK, .inl (cA, 12, .inl fK)), (bC, .inl (cA, 41, .inl fC)), (m0, .inr (2, [.int 0, .int (nI n), .int rg, .int st, .ref bV, .ref bW, .ref bR, .ref bP9, .ref bK, .ref bT, .ref bC]))] H := hP
  have hD : va_D A [(bV, .inl (cA, 12, .inl fV)), (bW, .inl (cA, 12, .inl fW)), (bK, .inl (cA, 12, .inl fK)), (bC, .inl (cA, 41, .inl fC)), (m0, .inr (2, [.int 0, .int (nI n), .int rg, .int st, .ref bV, .ref bW, .ref bR, .ref bP9, .ref bK, .ref bT, .ref bC]))] := hD
  refine lv_if_eq (tgt := 25) hx hb dX2_discontentOf_10 (by decide) (fun c_10 => ?_) (fun c_10 => ?_)
  · skip
    refine lv_aload_n hx hb dX2_discontentOf_25 rfl (lv_at hl 0 rfl) ?_
    refine lv_iconst (v := 1) hx hb dX2_discontentOf_26 (by decide) ?_
    have hX_5 : Cut D A [(bV, .inl (cA, 12, .inl fV)), (bW, .inl (cA, 12, .inl fW)), (bK, .inl (cA, 12, .inl fK)), (bC, .inl (cA, 41, .inl fC)), (m0, .inr (2, [.int 0, .int (nI n), .int rg, .int st, .ref bV, .ref bW, .ref bR, .ref bP9, .ref bK, .ref bT, .ref bC]))] [(m0, .inr (2, [.int 0, .int (nI n), .int rg, .int st, .ref bV, .ref bW, .ref bR, .ref bP9, .ref bK, .ref bT, .ref bC]))] [(bV, .inl (cA, 12, .inl fV)), (bW, .inl (cA, 12, .inl fW)), (bK, .inl (cA, 12, .inl fK)), (bC, .inl (cA, 41, .inl fC))] [(cA, .int)] [(cA, .int)] [4] [0, 1, 2, 3] [0] := ⟨rfl, rfl, rfl, rfl, by decide, rfl⟩
    refine ki hX_5 hP hD hS hA (kRunV (q := (RX2, TX2, 11)) (As := [.int 1]) (rest := []) F (c_X2_fail l D cA m0 0 n rg st bV bW bR bP9 bK bT bC 1 H.size) (cwV 1 hts gX2_discontentOf_X2_fail rfl rfl rfl (by decide +kernel) ⟨Nat.le_of_ble_eq_true rfl, Nat.le_of_ble_eq_true rfl⟩) hK hP hD hX_5 4 rfl rfl rfl hl.1 rfl (Nat.le_of_ble_eq_true rfl) dX2_discontentOf_27 ⟨Nat.le_of_ble_eq_true rfl, Nat.le_of_ble_eq_true rfl⟩) (fun r_6 u_7 H locs hw_8 hP hD hS => ?_)
    have hw_8 : r_6 = 0 := hw_8
    rw [hw_8]
    have hP : va_P D vwCl [(bV, .inl (cA, 12, .inl fV)), (bW, .inl (cA, 12, .inl fW)), (bK, .inl (cA, 12, .inl fK)), (bC, .inl (cA, 41, .inl fC)), (m0, .inr (2, [.int 1, .int (nI n), .int rg, .int st, .ref bV, .ref bW, .ref bR, .ref bP9, .ref bK, .ref bT, .ref bC]))] H := hP
    have hD : va_D A [(bV, .inl (cA, 12, .inl fV)), (bW, .inl (cA, 12, .inl fW)), (bK, .inl (cA, 12, .inl fK)), (bC, .inl (cA, 41, .inl fC)), (m0, .inr (2, [.int 1, .int (nI n), .int rg, .int st, .ref bV, .ref bW, .ref bR, .ref bP9, .ref bK, .ref bT, .ref bC]))] := hD
    refine useQ hQ ?_
    exact e_i (v := 0) F hr hlocks hK hP hD hS [4, 0, 1, 2, 3] [0] (1, fC) (⟨(cd1_1 (bP_eq c_10)).symm, fun z => cx1 (cd1_1 (bP_eq c_10)) z⟩) rfl rfl rfl (Nat.le_of_ble_eq_true rfl) (Nat.le_of_ble_eq_true rfl) dX2_discontentOf_30
  · skip
    obtain ⟨j, hj, hd9⟩ := (bP_ne c_10)
    subst hd9
    have hD9 : okD n (nI j) := ⟨j, hj, rfl⟩
    have hdn : dN (nI j) = j := dN_nI (by omega)
    refine lv_aload_n hx hb dX2_discontentOf_13 rfl (lv_at hl 0 rfl) ?_
    refine lv_iload_n hx hb dX2_discontentOf_14 rfl (lv_at hl 1 rfl) ?_
    refine lv_aload_n hx hb dX2_discontentOf_15 rfl (lv_at hl 0 rfl) ?_
    have hX_9 : Cut D A [(bV, .inl (cA, 12, .inl fV)), (bW, .inl (cA, 12, .inl fW)), (bK, .inl (cA, 12, .inl fK)), (bC, .inl (cA, 41, .inl fC)), (m0, .inr (2, [.int 0, .int (nI n), .int rg, .int st, .ref bV, .ref bW, .ref bR, .ref bP9, .ref bK, .ref bT, .ref bC]))] [(m0, .inr (2, [.int 0, .int (nI n), .int rg, .int st, .ref bV, .ref bW, .ref bR, .ref bP9, .ref bK, .ref bT, .ref bC])), (bV, .inl (cA, 12, .inl fV)), (bK, .inl (cA, 12, .inl fK)), (bC, .inl (cA, 41, .inl fC))] [(bW, .inl (cA, 12, .inl fW))] [(cA, .int)] [(cA, .int)] [4, 0, 2, 3] [1] [0] := ⟨rfl, rfl, rfl, rfl, by decide, rfl⟩
    refine ki hX_9 hP hD hS hA (kRunV (q := (RX2, TX2, 11)) (As := []) (rest := [.int (nI j), .ref m0]) F (c_X2_middle l D cA m0 0 n rg st bV bW bR bP9 bK bT bC fV fK fC hn hI H.size) (cwV 0 hts gX2_discontentOf_X2_middle rfl rfl rfl (by decide +kernel) ⟨Nat.le_of_ble_eq_true rfl, Nat.le_of_ble_eq_true rfl⟩) hK hP hD hX_9 4 rfl rfl rfl hl.1 rfl (Nat.le_of_ble_eq_true rfl) dX2_discontentOf_16 ⟨Nat.le_of_ble_eq_true rfl, Nat.le_of_ble_eq_true rfl⟩) (fun r_10 u_11 H locs hw_12 hP hD hS => ?_)
    have hw_12 : r_10 = midM fK n := hw_12
    rw [hw_12]
    have hP : va_P D vwCl [(bW, .inl (cA, 12, .inl fW)), (m0, .inr (2, [.int 0, .int (nI n), .int rg, .int st, .ref bV, .ref bW, .ref bR, .ref bP9, .ref bK, .ref bT, .ref bC])), (bV, .inl (cA, 12, .inl fV)), (bK, .inl (cA, 12, .inl fK)), (bC, .inl (cA, 41, .inl u_11))] H := hP
    have hD : va_D A [(bW, .inl (cA, 12, .inl fW)), (m0, .inr (2, [.int 0, .int (nI n), .int rg, .int st, .ref bV, .ref bW, .ref bR, .ref bP9, .ref bK, .ref bT, .ref bC])), (bV, .inl (cA, 12, .inl fV)), (bK, .inl (cA, 12, .inl fK)), (bC, .inl (cA, 41, .inl u_11))] := hD
    refine topi (midF fK n) (midM_ne (show n ≠ 0 by omega)) ?_
    have hX_13 : Cut D A [(bW, .inl (cA, 12, .inl fW)), (m0, .inr (2, [.int 0, .int (nI n), .int rg, .int st, .ref bV, .ref bW, .ref bR, .ref bP9, .ref bK, .ref bT, .ref bC])), (bV, .inl (cA, 12, .inl fV)), (bK, .inl (cA, 12, .inl fK)), (bC, .inl (cA, 41, .inl u_11))] [(m0, .inr (2, [.int 0, .int (nI n), .int rg, .int st, .ref bV, .ref bW, .ref bR, .ref bP9, .ref bK, .ref bT, .ref bC])), (bW, .inl (cA, 12, .inl fW))] [(bV, .inl (cA, 12, .inl fV)), (bK, .inl (cA, 12, .inl fK)), (bC, .inl (cA, 41, .inl u_11))] [(cA, .int)] [(cA, .int)] [1, 0] [2, 3, 4] [0] := ⟨rfl, rfl, rfl, rfl, by decide, rfl⟩
    refine ki hX_13 hP hD hS hA (kRunV (q := (RX2, TX2, 11)) (As := [.int (nI j), .int (midF fK n)]) (rest := []) F (c_X2_apart l D cA m0 0 n rg st bV bW bR bP9 bK bT bC fW j (midF fK n) hn (by omega) H.size) (cwV 2 hts gX2_discontentOf_X2_apart rfl rfl rfl (by decide +kernel) ⟨Nat.le_of_ble_eq_true rfl, Nat.le_of_ble_eq_true rfl⟩) hK hP hD hX_13 1 rfl rfl rfl hl.1 rfl (Nat.le_of_ble_eq_true rfl) dX2_discontentOf_19 ⟨Nat.le_of_ble_eq_true rfl, Nat.le_of_ble_eq_true rfl⟩) (fun r_14 u_15 H locs hw_16 hP hD hS => ?_)
    have hw_16 : r_14 = jabs (fW j - (midF fK n)) := hw_16
    rw [hw_16]
    have hP : va_P D vwCl [(bV, .inl (cA, 12, .inl fV)), (bK, .inl (cA, 12, .inl fK)), (bC, .inl (cA, 41, .inl u_11)), (m0, .inr (2, [.int 0, .int (nI n), .int rg, .int st, .ref bV, .ref bW, .ref bR, .ref bP9, .ref bK, .ref bT, .ref bC])), (bW, .inl (cA, 12, .inl fW))] H := hP
    have hD : va_D A [(bV, .inl (cA, 12, .inl fV)), (bK, .inl (cA, 12, .inl fK)), (bC, .inl (cA, 41, .inl u_11)), (m0, .inr (2, [.int 0, .int (nI n), .int rg, .int st, .ref bV, .ref bW, .ref bR, .ref bP9, .ref bK, .ref bT, .ref bC])), (bW, .inl (cA, 12, .inl fW))] := hD
    refine topi (jabs (midF fK n - fW j)) (jabs_sym (hW j hj) (mid_ok hI (by omega))) ?_
    refine lv_goto (tgt := 30) hx hb dX2_discontentOf_22 (by decide) ?_
    refine useQ hQ ?_
    exact e_i (v := jabs (midF fK n - fW j)) F hr hlocks hK hP hD hS [3, 0, 4, 1, 2] [0] (0, u_11) (⟨(cd1_0 (not_not_intro hD9)).symm, fun _ => by rw [hdn]⟩) rfl rfl rfl (Nat.le_of_ble_eq_true rfl) (Nat.le_of_ble_eq_true rfl) dX2_discontentOf_30
set_option maxHeartbeats 4000000 in
set_option maxRecDepth 100000 in
theorem c_X2_allDiscontent (l : Launch) (D : va_G) (cA : ClassId) (m0 : Nat) (th : Int32) (n : Nat) (rg : Int32) (st : Int32) (bV : Nat) (bW : Nat) (bR : Nat) (bP9 : Nat) (bK : Nat) (bT : Nat) (bC : Nat) (fV : Nat → Int32) (fW : Nat → Int32) (fK : Nat → Int32) (fC : Nat → Int32) (hn : n ≤ 12) (hI : ∀ i, i < n → okD 41 (fK i)) (hW : ∀ i, i < n → okD 41 (fW i)) (sz : Nat) : Met l yX2_allDiscontent wsX2_allDiscontent ({ frames := 3, cells := 0, slots := 0, locals := 75 } : Room) (va_Pc [.ref m0] (Wd D [(cA, .int)] [(m0, .inr (2, [.int th, .int (nI n), .int rg, .int st, .ref bV, .ref bW, .ref bR, .ref bP9, .ref bK, .ref bT, .ref bC])), (bV, .inl (cA, 12, .inl fV)), (bW, .inl (cA, 12, .inl fW)), (bK, .inl (cA, 12, .inl fK)), (bC, .inl (cA, 41, .inl fC))] sz)) (va_Qi (fun (r : Int32) (u : Nat → Int32) => r = disAll fW (midF fK n) n) (fun (u : Nat → Int32) t => We D [(cA, .int)] [(m0, .inr (2, [.int 0, .int (nI n), .int rg, .int st, .ref bV, .ref bW, .ref bR, .ref bP9, .ref bK, .ref bT, .ref bC])), (bV, .inl (cA, 12, .inl fV)), (bW, .inl (cA, 12, .inl fW)), (bK, .inl (cA, 12, .inl fK)), (bC, .inl (cA, 41, .inl u))] (va_A [(m0, .inr (2, [.int th, .int (nI n), .int rg, .int st, .ref bV, .ref bW, .ref bR, .ref bP9, .ref bK, .ref bT, .ref bC])), (bV, .inl (cA, 12, .inl fV)), (bW, .inl (cA, 12, .inl fW)), (bK, .inl (cA, 12, .inl fK)), (bC, .inl (cA, 41, .inl fC))] sz) t) (va_A [(m0, .inr (2, [.int th, .int (nI n), .int rg, .int st, .ref bV, .ref bW, .ref bR, .ref bP9, .ref bK, .ref bT, .ref bC])), (bV, .inl (cA, 12, .inl fV)), (bW, .inl (cA, 12, .inl fW)), (bK, .inl (cA, 12, .inl fK)), (bC, .inl (cA, 41, .inl fC))] sz)) 0 0 (va_A [(m0, .inr (2, [.int th, .int (nI n), .int rg, .int st, .ref bV, .ref bW, .ref bR, .ref bP9, .ref bK, .ref bT, .ref bC])), (bV, .inl (cA, 12, .inl fV)), (bW, .inl (cA, 12, .inl fW)), (bK, .inl (cA, 12, .inl fK)), (bC, .inl (cA, 41, .inl fC))] sz) := by
  refine mk_met [.ref m0] (fun A => va_Qi (fun (r : Int32) (u : Nat → Int32) => r = disAll fW (midF fK n) n) (fun (u : Nat → Int32) t => We D [(cA, .int)] [(m0, .inr (2, [.int 0, .int (nI n), .int rg, .int st, .ref bV, .ref bW, .ref bR, .ref bP9, .ref bK, .ref bT, .ref bC])), (bV, .inl (cA, 12, .inl fV)), (bW, .inl (cA, 12, .inl fW)), (bK, .inl (cA, 12, .inl fK)), (bC, .inl (cA, 41, .inl u))] A t) A) (by decide) rfl (Nat.le_of_ble_eq_true rfl) ?_
  intro p e s m args below meth c A ls F hr hlocks hname hP hK hD hA hl
  have hx := F.1
  have hb := F.2.1
  have hml := F.2.2.1
  have hown := F.2.2.2.1
  have hts := F.2.2.2.2
  have hS : va_S A s.heap s.heap [] := va_S.rf
  have hl : lv_has ls 1 [(0, .ref m0)] := hl
  refine absQ (fun Q hQ => ?_)
  refine lv_aload_n hx hb dX2_allDiscontent_0 rfl (lv_at hl 0 rfl) ?_
  refine lv_aload_n hx hb dX2_allDiscontent_1 rfl (lv_at hl 0 rfl) ?_
  refine lv_aload_n hx hb dX2_allDiscontent_2 rfl (lv_at hl 0 rfl) ?_
  have hX_1 : Cut D A [(m0, .inr (2, [.int th, .int (nI n), .int rg, .int st, .ref bV, .ref bW, .ref bR, .ref bP9, .ref bK, .ref bT, .ref bC])), (bV, .inl (cA, 12, .inl fV)), (bW, .inl (cA, 12, .inl fW)), (bK, .inl (cA, 12, .inl fK)), (bC, .inl (cA, 41, .inl fC))] [(m0, .inr (2, [.int th, .int (nI n), .int rg, .int st, .ref bV, .ref bW, .ref bR, .ref bP9, .ref bK, .ref bT, .ref bC])), (bV, .inl (cA, 12, .inl fV)), (bK, .inl (cA, 12, .inl fK)), (bC, .inl (cA, 41, .inl fC))] [(bW, .inl (cA, 12, .inl fW))] [(cA, .int)] [(cA, .int)] [0, 1, 3, 4] [2] [0] := ⟨rfl, rfl, rfl, rfl, by decide, rfl⟩
  refine ki hX_1 hP hD hS hA (kRunV (q := (RX2, TX2, 11)) (As := []) (rest := [.ref m0, .ref m0]) F (c_X2_middle l D cA m0 th n rg st bV bW bR bP9 bK bT bC fV fK fC hn hI s.heap.size) (cwV 0 hts gX2_allDiscontent_X2_middle rfl rfl rfl (by decide +kernel) ⟨Nat.le_of_ble_eq_true rfl, Nat.le_of_ble_eq_true rfl⟩) hK hP hD hX_1 0 rfl rfl rfl hl.1 rfl (Nat.le_of_ble_eq_true rfl) dX2_allDiscontent_3 ⟨Nat.le_of_ble_eq_true rfl, Nat.le_of_ble_eq_true rfl⟩) (fun r_2 u_3 H locs hw_4 hP hD hS => ?_)
  have hw_4 : r_2 = midM fK n := hw_4
  rw [hw_4]
  have hP : va_P D vwCl [(bW, .inl (cA, 12, .inl fW)), (m0, .inr (2, [.int th, .int (nI n), .int rg, .int st, .ref bV, .ref bW, .ref bR, .ref bP9, .ref bK, .ref bT, .ref bC])), (bV, .inl (cA, 12, .inl fV)), (bK, .inl (cA, 12, .inl fK)), (bC, .inl (cA, 41, .inl u_3))] H := hP
  have hD : va_D A [(bW, .inl (cA, 12, .inl fW)), (m0, .inr (2, [.int th, .int (nI n), .int rg, .int st, .ref bV, .ref bW, .ref bR, .ref bP9, .ref bK, .ref bT, .ref bC])), (bV, .inl (cA, 12, .inl fV)), (bK, .inl (cA, 12, .inl fK)), (bC, .inl (cA, 41, .inl u_3))] := hD
  have hX_5 : Cut D A [(bW, .inl (cA, 12, .inl fW)), (m0, .inr (2, [.int th, .int (nI n), .int rg, .int st, .ref bV, .ref bW, .ref bR, .ref bP9, .ref bK, .ref bT, .ref bC])), (bV, .inl (cA, 12, .inl fV)), (bK, .inl (cA, 12, .inl fK)), (bC, .inl (cA, 41, .inl u_3))] [(m0, .inr (2, [.int th, .int (nI n), .int rg, .int st, .ref bV, .ref bW, .ref bR, .ref bP9, .ref bK, .ref bT, .ref bC])), (bW, .inl (cA, 12, .inl fW))] [(bV, .inl (cA, 12, .inl fV)), (bK, .inl (cA, 12, .inl fK)), (bC, .inl (cA, 41, .inl u_3))] [(cA, .int)] [(cA, .int)] [1, 0] [2, 3, 4] [0] := ⟨rfl, rfl, rfl, rfl, by decide, rfl⟩
  refine ki hX_5 hP hD hS hA (kRunV (q := (RX2, TX2, 11)) (As := [.int (midM fK n)]) (rest := [.ref m0]) F (c_X2_allApart l D cA m0 th n rg st bV bW bR bP9 bK bT bC fW (midM fK n) hn (fun i9 h9 => jabs_sym (hW i9 h9) (by rw [midM_ne (show n ≠ 0 by omega)]; exact mid_ok hI (by omega))) H.size) (cwV 1 hts gX2_allDiscontent_X2_allApart rfl rfl rfl (by decide +kernel) ⟨Nat.le_of_ble_eq_true rfl, Nat.le_of_ble_eq_true rfl⟩) hK hP hD hX_5 1 rfl rfl rfl hl.1 rfl (Nat.le_of_ble_eq_true rfl) dX2_allDiscontent_6 ⟨Nat.le_of_ble_eq_true rfl, Nat.le_of_ble_eq_true rfl⟩) (fun r_6 u_7 H locs hw_8 hP hD hS => ?_)
  have hw_8 : r_6 = disAll fW (midM fK n) n := hw_8
  rw [hw_8]
  have hP : va_P D vwCl [(bV, .inl (cA, 12, .inl fV)), (bK, .inl (cA, 12, .inl fK)), (bC, .inl (cA, 41, .inl u_3)), (m0, .inr (2, [.int th, .int (nI n), .int rg, .int st, .ref bV, .ref bW, .ref bR, .ref bP9, .ref bK, .ref bT, .ref bC])), (bW, .inl (cA, 12, .inl fW))] H := hP
  have hD : va_D A [(bV, .inl (cA, 12, .inl fV)), (bK, .inl (cA, 12, .inl fK)), (bC, .inl (cA, 41, .inl u_3)), (m0, .inr (2, [.int th, .int (nI n), .int rg, .int st, .ref bV, .ref bW, .ref bR, .ref bP9, .ref bK, .ref bT, .ref bC])), (bW, .inl (cA, 12, .inl fW))] := hD
  have hX_9 : Cut D A [(bV, .inl (cA, 12, .inl fV)), (bK, .inl (cA, 12, .inl fK)), (bC, .inl (cA, 41, .inl u_3)), (m0, .inr (2, [.int th, .int (nI n), .int rg, .int st, .ref bV, .ref bW, .ref bR, .ref bP9, .ref bK, .ref bT, .ref bC])), (bW, .inl (cA, 12, .inl fW))] [(m0, .inr (2, [.int th, .int (nI n), .int rg, .int st, .ref bV, .ref bW, .ref bR, .ref bP9, .ref bK, .ref bT, .ref bC]))] [(bV, .inl (cA, 12, .inl fV)), (bK, .inl (cA, 12, .inl fK)), (bC, .inl (cA, 41, .inl u_3)), (bW, .inl (cA, 12, .inl fW))] [(cA, .int)] [(cA, .int)] [3] [0, 1, 2, 4] [0] := ⟨rfl, rfl, rfl, rfl, by decide, rfl⟩
  refine ki hX_9 hP hD hS hA (kRunV (q := (RX2, TX2, 11)) (As := [.int (disAll fW (midM fK n) n)]) (rest := []) F (c_X2_told l D cA m0 th n rg st bV bW bR bP9 bK bT bC (disAll fW (midM fK n) n) H.size) (cwV 1 hts gX2_allDiscontent_X2_told rfl rfl rfl (by decide +kernel) ⟨Nat.le_of_ble_eq_true rfl, Nat.le_of_ble_eq_true rfl⟩) hK hP hD hX_9 3 rfl rfl rfl hl.1 rfl (Nat.le_of_ble_eq_true rfl) dX2_allDiscontent_9 ⟨Nat.le_of_ble_eq_true rfl, Nat.le_of_ble_eq_true rfl⟩) (fun r_10 u_11 H locs hw_12 hP hD hS => ?_)
  have hw_12 : r_10 = (disAll fW (midM fK n) n) := hw_12
  rw [hw_12]
  have hP : va_P D vwCl [(bV, .inl (cA, 12, .inl fV)), (bK, .inl (cA, 12, .inl fK)), (bC, .inl (cA, 41, .inl u_3)), (bW, .inl (cA, 12, .inl fW)), (m0, .inr (2, [.int 0, .int (nI n), .int rg, .int st, .ref bV, .ref bW, .ref bR, .ref bP9, .ref bK, .ref bT, .ref bC]))] H := hP
  have hD : va_D A [(bV, .inl (cA, 12, .inl fV)), (bK, .inl (cA, 12, .inl fK)), (bC, .inl (cA, 41, .inl u_3)), (bW, .inl (cA, 12, .inl fW)), (m0, .inr (2, [.int 0, .int (nI n), .int rg, .int st, .ref bV, .ref bW, .ref bR, .ref bP9, .ref bK, .ref bT, .ref bC]))] := hD
  refine useQ hQ ?_
  exact e_i (v := (disAll fW (midM fK n) n)) F hr hlocks hK hP hD hS [4, 0, 3, 1, 2] [0] u_3 disAll_M rfl rfl rfl (Nat.le_of_ble_eq_true rfl) (Nat.le_of_ble_eq_true rfl) dX2_allDiscontent_12
theorem uX2_X2_bestPlank : ∀ w ∈ u_ws RX2 TX2 11, w ∈ wsX2_bestPlank := (fun _ h => List.mem_cons_of_mem _ (List.mem_append_right _ h))
set_option maxHeartbeats 4000000 in
set_option maxRecDepth 100000 in
theorem c_X2_bestPlank (l : Launch) (D : va_G) (cA : ClassId) (m0 : Nat) (th : Int32) (n : Nat) (rg : Int32) (st : Int32) (bV : Nat) (bW : Nat) (bR : Nat) (bP9 : Nat) (bK : Nat) (bT : Nat) (bC : Nat) (fW : Nat → Int32) (hn : n ≤ 12) (hW : ∀ i, i < n → okD 41 (fW i)) (sz : Nat) : Met l yX2_bestPlank wsX2_bestPlank ({ frames := 4, cells := 0, slots := 0, locals := 97 } : Room) (va_Pc [.ref m0] (Wd D [(cA, .int)] [(m0, .inr (2, [.int th, .int (nI n), .int rg, .int st, .ref bV, .ref bW, .ref bR, .ref bP9, .ref bK, .ref bT, .ref bC])), (bW, .inl (cA, 12, .inl fW))] sz)) (va_Qi (fun (r : Int32) (u : Int32) => u = cd1 (n = 0) ∧ (cd1 (n = 0) = 0 → r = bestPl fW n)) (fun (u : Int32) t => We D [(cA, .int)] [(m0, .inr (2, [.int u, .int (nI n), .int rg, .int st, .ref bV, .ref bW, .ref bR, .ref bP9, .ref bK, .ref bT, .ref bC])), (bW, .inl (cA, 12, .inl fW))] (va_A [(m0, .inr (2, [.int th, .int (nI n), .int rg, .int st, .ref bV, .ref bW, .ref bR, .ref bP9, .ref bK, .ref bT, .ref bC])), (bW, .inl (cA, 12, .inl fW))] sz) t) (va_A [(m0, .inr (2, [.int th, .int (nI n), .int rg, .int st, .ref bV, .ref bW, .ref bR, .ref bP9, .ref bK, .ref bT, .ref bC])), (bW, .inl (cA, 12, .inl fW))] sz)) 0 0 (va_A [(m0, .inr (2, [.int th, .int (nI n), .int rg, .int st, .ref bV, .ref bW, .ref bR, .ref bP9, .ref bK, .ref bT, .ref bC])), (bW, .inl (cA, 12, .inl fW))] sz) := by
  refine mk_met [.ref m0] (fun A => va_Qi (fun (r : Int32) (u : Int32) => u = cd1 (n = 0) ∧ (cd1 (n = 0) = 0 → r = bestPl fW n)) (fun (u : Int32) t => We D [(cA, .int)] [(m0, .inr (2, [.int u, .int (nI n), .int rg, .int st, .ref bV, .ref bW, .ref bR, .ref bP9, .ref bK, .ref bT, .ref bC])), (bW, .inl (cA, 12, .inl fW))] A t) A) (by decide) rfl (Nat.le_of_ble_eq_true rfl) ?_
  intro p e s m args below meth c A ls F hr hlocks hname hP hK hD hA hl
  have hx := F.1
  have hb := F.2.1
  have hml := F.2.2.1
  have hown := F.2.2.2.1
  have hts := F.2.2.2.2
  have hS : va_S A s.heap s.heap [] := va_S.rf
  have hl : lv_has ls 1 [(0, .ref m0)] := hl
  refine absQ (fun Q hQ => ?_)
  refine lv_aload_n hx hb dX2_bestPlank_0 rfl (lv_at hl 0 rfl) ?_
  refine lv_iconst (v := 0) hx hb dX2_bestPlank_1 (by decide) ?_
  refine va_put (D := D) (ci := 2) (v := .int 0) (ty := .int) (C := RX2) (T := TX2) (N := 11) hx hb hts uX2_X2_bestPlank tyX2 tyX2_ok nmX2 hown hK hP hD hS 0 rfl rfl 0 (by decide) (hts (.fieldLink RX2 35 "RopeChoicesModel" "thrown" "I") (List.mem_of_getElem? (i := 1) rfl)) (fun _ h9 => h9) rfl (by decide +kernel) rfl rfl (Nat.le_of_ble_eq_true rfl) dX2_bestPlank_2 (fun H locs hP hD hS => ?_)
  have hP : va_P D vwCl [(m0, .inr (2, [.int 0, .int (nI n), .int rg, .int st, .ref bV, .ref bW, .ref bR, .ref bP9, .ref bK, .ref bT, .ref bC])), (bW, .inl (cA, 12, .inl fW))] H := hP
  have hD : va_D A [(m0, .inr (2, [.int 0, .int (nI n), .int rg, .int st, .ref bV, .ref bW, .ref bR, .ref bP9, .ref bK, .ref bT, .ref bC])), (bW, .inl (cA, 12, .inl fW))] := hD
  refine lv_aload_n hx hb dX2_bestPlank_5 rfl (lv_at hl 0 rfl) ?_
  refine va_get (D := D) (ci := 2) (v := .int (nI n)) (C := RX2) (T := TX2) (N := 11) hx hb hts uX2_X2_bestPlank hown hK hP 0 rfl rfl 1 (by decide) (hts (.fieldLink RX2 38 "RopeChoicesModel" "many" "I") (List.mem_of_getElem? (i := 2) rfl)) (fun _ h9 => h9) rfl dX2_bestPlank_6 ?_
  refine lv_if_ne (tgt := 20) hx hb dX2_bestPlank_9 (by decide) (fun c_9 => ?_) (fun c_9 => ?_)
  · skip
    have g_9 : n ≠ 0 := nf_ne_t (by omega) (by omega) c_9
    refine lv_aload_n hx hb dX2_bestPlank_20 rfl (lv_at hl 0 rfl) ?_
    have hX_1 : Cut D A [(m0, .inr (2, [.int 0, .int (nI n), .int rg, .int st, .ref bV, .ref bW, .ref bR, .ref bP9, .ref bK, .ref bT, .ref bC])), (bW, .inl (cA, 12, .inl fW))] [(m0, .inr (2, [.int 0, .int (nI n), .int rg, .int st, .ref bV, .ref bW, .ref bR, .ref bP9, .ref bK, .ref bT, .ref bC])), (bW, .inl (cA, 12, .inl fW))] [] [(cA, .int)] [(cA, .int)] [0, 1] [] [0] := ⟨rfl, rfl, rfl, rfl, by decide, rfl⟩
    refine ki hX_1 hP hD hS hA (kRunV (q := (RX2, TX2, 11)) (As := []) (rest := []) F (c_X2_best l D cA m0 0 n rg st bV bW bR bP9 bK bT bC fW hn hW H.size) (cwV 0 hts gX2_bestPlank_X2_best rfl rfl rfl (by decide +kernel) ⟨Nat.le_of_ble_eq_true rfl, Nat.le_of_ble_eq_true rfl⟩) hK hP hD hX_1 0 rfl rfl rfl hl.1 rfl (Nat.le_of_ble_eq_true rfl) dX2_bestPlank_21 ⟨Nat.le_of_ble_eq_true rfl, Nat.le_of_ble_eq_true rfl⟩) (fun r_2 u_3 H locs hw_4 hP hD hS => ?_)
    have hw_4 : r_2 = bestPl fW n := hw_4
    rw [hw_4]
    have hP : va_P D vwCl [(m0, .inr (2, [.int 0, .int (nI n), .int rg, .int st, .ref bV, .ref bW, .ref bR, .ref bP9, .ref bK, .ref bT, .ref bC])), (bW, .inl (cA, 12, .inl fW))] H := hP
    have hD : va_D A [(m0, .inr (2, [.int 0, .int (nI n), .int rg, .int st, .ref bV, .ref bW, .ref bR, .ref bP9, .ref bK, .ref bT, .ref bC])), (bW, .inl (cA, 12, .inl fW))] := hD
    refine useQ hQ ?_
    exact e_i (v := bestPl fW n) F hr hlocks hK hP hD hS [0, 1] [0] 0 (⟨(cd1_0 g_9).symm, fun _ => rfl⟩) rfl rfl rfl (Nat.le_of_ble_eq_true rfl) (Nat.le_of_ble_eq_true rfl) dX2_bestPlank_24
  · skip
    have g_9 : n = 0 := nf_ne_f (by omega) (by omega) c_9
    refine lv_aload_n hx hb dX2_bestPlank_12 rfl (lv_at hl 0 rfl) ?_
    refine lv_iconst (v := 1) hx hb dX2_bestPlank_13 (by decide) ?_
    have hX_5 : Cut D A [(m0, .inr (2, [.int 0, .int (nI n), .int rg, .int st, .ref bV, .ref bW, .ref bR, .ref bP9, .ref bK, .ref bT, .ref bC])), (bW, .inl (cA, 12, .inl fW))] [(m0, .inr (2, [.int 0, .int (nI n), .int rg, .int st, .ref bV, .ref bW, .ref bR, .ref bP9, .ref bK, .ref bT, .ref bC]))] [(bW, .inl (cA, 12, .inl fW))] [(cA, .int)] [(cA, .int)] [0] [1] [0] := ⟨rfl, rfl, rfl, rfl, by decide, rfl⟩
    refine ki hX_5 hP hD hS hA (kRunV (q := (RX2, TX2, 11)) (As := [.int 1]) (rest := []) F (c_X2_fail l D cA m0 0 n rg st bV bW bR bP9 bK bT bC 1 H.size) (cwV 1 hts gX2_bestPlank_X2_fail rfl rfl rfl (by decide +kernel) ⟨Nat.le_of_ble_eq_true rfl, Nat.le_of_ble_eq_true rfl⟩) hK hP hD hX_5 0 rfl rfl rfl hl.1 rfl (Nat.le_of_ble_eq_true rfl) dX2_bestPlank_14 ⟨Nat.le_of_ble_eq_true rfl, Nat.le_of_ble_eq_true rfl⟩) (fun r_6 u_7 H locs hw_8 hP hD hS => ?_)
    have hw_8 : r_6 = 0 := hw_8
    rw [hw_8]
    have hP : va_P D vwCl [(bW, .inl (cA, 12, .inl fW)), (m0, .inr (2, [.int 1, .int (nI n), .int rg, .int st, .ref bV, .ref bW, .ref bR, .ref bP9, .ref bK, .ref bT, .ref bC]))] H := hP
    have hD : va_D A [(bW, .inl (cA, 12, .inl fW)), (m0, .inr (2, [.int 1, .int (nI n), .int rg, .int st, .ref bV, .ref bW, .ref bR, .ref bP9, .ref bK, .ref bT, .ref bC]))] := hD
    refine lv_goto (tgt := 24) hx hb dX2_bestPlank_17 (by decide) ?_
    refine useQ hQ ?_
    exact e_i (v := 0) F hr hlocks hK hP hD hS [1, 0] [0] 1 (⟨(cd1_1 g_9).symm, fun z => cx1 (cd1_1 g_9) z⟩) rfl rfl rfl (Nat.le_of_ble_eq_true rfl) (Nat.le_of_ble_eq_true rfl) dX2_bestPlank_24
set_option maxHeartbeats 4000000 in
set_option maxRecDepth 100000 in
theorem c_X2_votesFor (l : Launch) (D : va_G) (cA : ClassId) (m0 : Nat) (th : Int32) (n : Nat) (rg : Int32) (st : Int32) (bV : Nat) (bW : Nat) (bR : Nat) (bP9 : Nat) (bK : Nat) (bT : Nat) (bC : Nat) (fW : Nat → Int32) (x : Int32) (y : Int32) (hn : n ≤ 12) (hW : ∀ i, i < n → okD 41 (fW i)) (sz : Nat) : Met l yX2_votesFor wsX2_votesFor ({ frames := 3, cells := 0, slots := 0, locals := 76 } : Room) (va_Pc [.ref m0, .int x, .int y] (Wd D [(cA, .int)] [(m0, .inr (2, [.int th, .int (nI n), .int rg, .int st, .ref bV, .ref bW, .ref bR, .ref bP9, .ref bK, .ref bT, .ref bC])), (bW, .inl (cA, 12, .inl fW))] sz)) (va_Qi (fun (r : Int32) (u : Int32) => u = cd2 (¬ (okD 41 x ∧ okD 41 y)) (x = y) ∧ (cd2 (¬ (okD 41 x ∧ okD 41 y)) (x = y) = 0 → r = votes fW x y n)) (fun (u : Int32) t => We D [(cA, .int)] [(m0, .inr (2, [.int u, .int (nI n), .int rg, .int st, .ref bV, .ref bW, .ref bR, .ref bP9, .ref bK, .ref bT, .ref bC])), (bW, .inl (cA, 12, .inl fW))] (va_A [(m0, .inr (2, [.int th, .int (nI n), .int rg, .int st, .ref bV, .ref bW, .ref bR, .ref bP9, .ref bK, .ref bT, .ref bC])), (bW, .inl (cA, 12, .inl fW))] sz) t) (va_A [(m0, .inr (2, [.int th, .int (nI n), .int rg, .int st, .ref bV, .ref bW, .ref bR, .ref bP9, .ref bK, .ref bT, .ref bC])), (bW, .inl (cA, 12, .inl fW))] sz)) 0 0 (va_A [(m0, .inr (2, [.int th, .int (nI n), .int rg, .int st, .ref bV, .ref bW, .ref bR, .ref bP9, .ref bK, .ref bT, .ref bC])), (bW, .inl (cA, 12, .inl fW))] sz) := by
  refine mk_met [.ref m0, .int x, .int y] (fun A => va_Qi (fun (r : Int32) (u : Int32) => u = cd2 (¬ (okD 41 x ∧ okD 41 y)) (x = y) ∧ (cd2 (¬ (okD 41 x ∧ okD 41 y)) (x = y) = 0 → r = votes fW x y n)) (fun (u : Int32) t => We D [(cA, .int)] [(m0, .inr (2, [.int u, .int (nI n), .int rg, .int st, .ref bV, .ref bW, .ref bR, .ref bP9, .ref bK, .ref bT, .ref bC])), (bW, .inl (cA, 12, .inl fW))] A t) A) (by decide) rfl (Nat.le_of_ble_eq_true rfl) ?_
  intro p e s m args below meth c A ls F hr hlocks hname hP hK hD hA hl
  have hx := F.1
  have hb := F.2.1
  have hml := F.2.2.1
  have hown := F.2.2.2.1
  have hts := F.2.2.2.2
  have hS : va_S A s.heap s.heap [] := va_S.rf
  have hl : lv_has ls 3 [(0, .ref m0), (1, .int x), (2, .int y)] := hl
  refine absQ (fun Q hQ => ?_)
  refine lv_aload_n hx hb dX2_votesFor_0 rfl (lv_at hl 0 rfl) ?_
  refine lv_iload_n hx hb dX2_votesFor_1 rfl (lv_at hl 1 rfl) ?_
  refine lv_iload_n hx hb dX2_votesFor_2 rfl (lv_at hl 2 rfl) ?_
  have hX_1 : Cut D A [(m0, .inr (2, [.int th, .int (nI n), .int rg, .int st, .ref bV, .ref bW, .ref bR, .ref bP9, .ref bK, .ref bT, .ref bC])), (bW, .inl (cA, 12, .inl fW))] [(m0, .inr (2, [.int th, .int (nI n), .int rg, .int st, .ref bV, .ref bW, .ref bR, .ref bP9, .ref bK, .ref bT, .ref bC]))] [(bW, .inl (cA, 12, .inl fW))] [(cA, .int)] [(cA, .int)] [0] [1] [0] := ⟨rfl, rfl, rfl, rfl, by decide, rfl⟩
  refine ki hX_1 hP hD hS hA (kRunV (q := (RX2, TX2, 11)) (As := [.int x, .int y]) (rest := []) F (c_X2_areTwo l D cA m0 th n rg st bV bW bR bP9 bK bT bC x y s.heap.size) (cwV 2 hts gX2_votesFor_X2_areTwo rfl rfl rfl (by decide +kernel) ⟨Nat.le_of_ble_eq_true rfl, Nat.le_of_ble_eq_true rfl⟩) hK hP hD hX_1 0 rfl rfl rfl hl.1 rfl (Nat.le_of_ble_eq_true rfl) dX2_votesFor_3 ⟨Nat.le_of_ble_eq_true rfl, Nat.le_of_ble_eq_true rfl⟩) (fun r_2 u_3 H locs hw_4 hP hD hS => ?_)
  have hw_4 : u_3 = cd2 (¬ (okD 41 x ∧ okD 41 y)) (x = y) ∧ r_2 = bP (cd2 (¬ (okD 41 x ∧ okD 41 y)) (x = y) = 0) := hw_4
  have hP : va_P D vwCl [(bW, .inl (cA, 12, .inl fW)), (m0, .inr (2, [.int u_3, .int (nI n), .int rg, .int st, .ref bV, .ref bW, .ref bR, .ref bP9, .ref bK, .ref bT, .ref bC]))] H := hP
  have hD : va_D A [(bW, .inl (cA, 12, .inl fW)), (m0, .inr (2, [.int u_3, .int (nI n), .int rg, .int st, .ref bV, .ref bW, .ref bR, .ref bP9, .ref bK, .ref bT, .ref bC]))] := hD
  refine topi (bP (cd2 (¬ (okD 41 x ∧ okD 41 y)) (x = y) = 0)) hw_4.2 ?_
  refine lv_if_eq (tgt := 18) hx hb dX2_votesFor_6 (by decide) (fun c_6 => ?_) (fun c_6 => ?_)
  · skip
    refine lv_iconst (v := 0) hx hb dX2_votesFor_18 (by decide) ?_
    refine useQ hQ ?_
    exact e_i (v := 0) F hr hlocks hK hP hD hS [1, 0] [0] u_3 (⟨hw_4.1, fun z => absurd z (bP_eq c_6)⟩) rfl rfl rfl (Nat.le_of_ble_eq_true rfl) (Nat.le_of_ble_eq_true rfl) dX2_votesFor_19
  · skip
    refine lv_aload_n hx hb dX2_votesFor_9 rfl (lv_at hl 0 rfl) ?_
    refine lv_iload_n hx hb dX2_votesFor_10 rfl (lv_at hl 1 rfl) ?_
    refine lv_iload_n hx hb dX2_votesFor_11 rfl (lv_at hl 2 rfl) ?_
    have hX_5 : Cut D A [(bW, .inl (cA, 12, .inl fW)), (m0, .inr (2, [.int u_3, .int (nI n), .int rg, .int st, .ref bV, .ref bW, .ref bR, .ref bP9, .ref bK, .ref bT, .ref bC]))] [(m0, .inr (2, [.int u_3, .int (nI n), .int rg, .int st, .ref bV, .ref bW, .ref bR, .ref bP9, .ref bK, .ref bT, .ref bC])), (bW, .inl (cA, 12, .inl fW))] [] [(cA, .int)] [(cA, .int)] [1, 0] [] [0] := ⟨rfl, rfl, rfl, rfl, by decide, rfl⟩
    refine ki hX_5 hP hD hS hA (kRunV (q := (RX2, TX2, 11)) (As := [.int x, .int y]) (rest := []) F (c_X2_votes l D cA m0 u_3 n rg st bV bW bR bP9 bK bT bC fW x y hn (fun i9 h9 => jabs_sym (hW i9 h9) (nn (cd2_inv (bP_ne c_6)).1).1) (fun i9 h9 => jabs_sym (hW i9 h9) (nn (cd2_inv (bP_ne c_6)).1).2) H.size) (cwV 2 hts gX2_votesFor_X2_votes rfl rfl rfl (by decide +kernel) ⟨Nat.le_of_ble_eq_true rfl, Nat.le_of_ble_eq_true rfl⟩) hK hP hD hX_5 1 rfl rfl rfl hl.1 rfl (Nat.le_of_ble_eq_true rfl) dX2_votesFor_12 ⟨Nat.le_of_ble_eq_true rfl, Nat.le_of_ble_eq_true rfl⟩) (fun r_6 u_7 H locs hw_8 hP hD hS => ?_)
    have hw_8 : r_6 = votes fW x y n := hw_8
    rw [hw_8]
    have hP : va_P D vwCl [(m0, .inr (2, [.int u_3, .int (nI n), .int rg, .int st, .ref bV, .ref bW, .ref bR, .ref bP9, .ref bK, .ref bT, .ref bC])), (bW, .inl (cA, 12, .inl fW))] H := hP
    have hD : va_D A [(m0, .inr (2, [.int u_3, .int (nI n), .int rg, .int st, .ref bV, .ref bW, .ref bR, .ref bP9, .ref bK, .ref bT, .ref bC])), (bW, .inl (cA, 12, .inl fW))] := hD
    refine lv_goto (tgt := 19) hx hb dX2_votesFor_15 (by decide) ?_
    refine useQ hQ ?_
    exact e_i (v := votes fW x y n) F hr hlocks hK hP hD hS [0, 1] [0] u_3 (⟨hw_4.1, fun _ => rfl⟩) rfl rfl rfl (Nat.le_of_ble_eq_true rfl) (Nat.le_of_ble_eq_true rfl) dX2_votesFor_19
set_option maxHeartbeats 4000000 in
set_option maxRecDepth 100000 in
theorem c_X2_winnerOf (l : Launch) (D : va_G) (cA : ClassId) (m0 : Nat) (th : Int32) (n : Nat) (rg : Int32) (st : Int32) (bV : Nat) (bW : Nat) (bR : Nat) (bP9 : Nat) (bK : Nat) (bT : Nat) (bC : Nat) (fW : Nat → Int32) (x : Int32) (y : Int32) (hn : n ≤ 12) (hW : ∀ i, i < n → okD 41 (fW i)) (sz : Nat) : Met l yX2_winnerOf wsX2_winnerOf ({ frames := 3, cells := 0, slots := 0, locals := 76 } : Room) (va_Pc [.ref m0, .int x, .int y] (Wd D [(cA, .int)] [(m0, .inr (2, [.int th, .int (nI n), .int rg, .int st, .ref bV, .ref bW, .ref bR, .ref bP9, .ref bK, .ref bT, .ref bC])), (bW, .inl (cA, 12, .inl fW))] sz)) (va_Qi (fun (r : Int32) (u : Int32) => u = cd2 (¬ (okD 41 x ∧ okD 41 y)) (x = y) ∧ (cd2 (¬ (okD 41 x ∧ okD 41 y)) (x = y) = 0 → r = winF (votes fW x y n) (votes fW y x n) x y)) (fun (u : Int32) t => We D [(cA, .int)] [(m0, .inr (2, [.int u, .int (nI n), .int rg, .int st, .ref bV, .ref bW, .ref bR, .ref bP9, .ref bK, .ref bT, .ref bC])), (bW, .inl (cA, 12, .inl fW))] (va_A [(m0, .inr (2, [.int th, .int (nI n), .int rg, .int st, .ref bV, .ref bW, .ref bR, .ref bP9, .ref bK, .ref bT, .ref bC])), (bW, .inl (cA, 12, .inl fW))] sz) t) (va_A [(m0, .inr (2, [.int th, .int (nI n), .int rg, .int st, .ref bV, .ref bW, .ref bR, .ref bP9, .ref bK, .ref bT, .ref bC])), (bW, .inl (cA, 12, .inl fW))] sz)) 0 0 (va_A [(m0, .inr (2, [.int th, .int (nI n), .int rg, .int st, .ref bV, .ref bW, .ref bR, .ref bP9, .ref bK, .ref bT, .ref bC])), (bW, .inl (cA, 12, .inl fW))] sz) := by
  refine mk_met [.ref m0, .int x, .int y] (fun A => va_Qi (fun (r : Int32) (u : Int32) => u = cd2 (¬ (okD 41 x ∧ okD 41 y)) (x = y) ∧ (cd2 (¬ (okD 41 x ∧ okD 41 y)) (x = y) = 0 → r = winF (votes fW x y n) (votes fW y x n) x y)) (fun (u : Int32) t => We D [(cA, .int)] [(m0, .inr (2, [.int u, .int (nI n), .int rg, .int st, .ref bV, .ref bW, .ref bR, .ref bP9, .ref bK, .ref bT, .ref bC])), (bW, .inl (cA, 12, .inl fW))] A t) A) (by decide) rfl (Nat.le_of_ble_eq_true rfl) ?_
  intro p e s m args below meth c A ls F hr hlocks hname hP hK hD hA hl
  have hx := F.1
  have hb := F.2.1
  have hml := F.2.2.1
  have hown := F.2.2.2.1
  have hts := F.2.2.2.2
  have hS : va_S A s.heap s.heap [] := va_S.rf
  have hl : lv_has ls 4 [(0, .ref m0), (1, .int x), (2, .int y)] := hl
  refine absQ (fun Q hQ => ?_)
  refine lv_aload_n hx hb dX2_winnerOf_0 rfl (lv_at hl 0 rfl) ?_
  refine lv_iload_n hx hb dX2_winnerOf_1 rfl (lv_at hl 1 rfl) ?_
  refine lv_iload_n hx hb dX2_winnerOf_2 rfl (lv_at hl 2 rfl) ?_
  have hX_1 : Cut D A [(m0, .inr (2, [.int th, .int (nI n), .int rg, .int st, .ref bV, .ref bW, .ref bR, .ref bP9, .ref bK, .ref bT, .ref bC])), (bW, .inl (cA, 12, .inl fW))] [(m0, .inr (2, [.int th, .int (nI n), .int rg, .int st, .ref bV, .ref bW, .ref bR, .ref bP9, .ref bK, .ref bT, .ref bC]))] [(bW, .inl (cA, 12, .inl fW))] [(cA, .int)] [(cA, .int)] [0] [1] [0] := ⟨rfl, rfl, rfl, rfl, by decide, rfl⟩
  refine ki hX_1 hP hD hS hA (kRunV (q := (RX2, TX2, 11)) (As := [.int x, .int y]) (rest := []) F (c_X2_areTwo l D cA m0 th n rg st bV bW bR bP9 bK bT bC x y s.heap.size) (cwV 2 hts gX2_winnerOf_X2_areTwo rfl rfl rfl (by decide +kernel) ⟨Nat.le_of_ble_eq_true rfl, Nat.le_of_ble_eq_true rfl⟩) hK hP hD hX_1 0 rfl rfl rfl hl.1 rfl (Nat.le_of_ble_eq_true rfl) dX2_winnerOf_3 ⟨Nat.le_of_ble_eq_true rfl, Nat.le_of_ble_eq_true rfl⟩) (fun r_2 u_3 H locs hw_4 hP hD hS => ?_)
  have hw_4 : u_3 = cd2 (¬ (okD 41 x ∧ okD 41 y)) (x = y) ∧ r_2 = bP (cd2 (¬ (okD 41 x ∧ okD 41 y)) (x = y) = 0) := hw_4
  have hP : va_P D vwCl [(bW, .inl (cA, 12, .inl fW)), (m0, .inr (2, [.int u_3, .int (nI n), .int rg, .int st, .ref bV, .ref bW, .ref bR, .ref bP9, .ref bK, .ref bT, .ref bC]))] H := hP
  have hD : va_D A [(bW, .inl (cA, 12, .inl fW)), (m0, .inr (2, [.int u_3, .int (nI n), .int rg, .int st, .ref bV, .ref bW, .ref bR, .ref bP9, .ref bK, .ref bT, .ref bC]))] := hD
  refine topi (bP (cd2 (¬ (okD 41 x ∧ okD 41 y)) (x = y) = 0)) hw_4.2 ?_
  refine lv_if_ne (tgt := 11) hx hb dX2_winnerOf_6 (by decide) (fun c_6 => ?_) (fun c_6 => ?_)
  · skip
    refine lv_aload_n hx hb dX2_winnerOf_11 rfl (lv_at hl 0 rfl) ?_
    refine lv_iload_n hx hb dX2_winnerOf_12 rfl (lv_at hl 1 rfl) ?_
    refine lv_iload_n hx hb dX2_winnerOf_13 rfl (lv_at hl 2 rfl) ?_
    have hX_5 : Cut D A [(bW, .inl (cA, 12, .inl fW)), (m0, .inr (2, [.int u_3, .int (nI n), .int rg, .int st, .ref bV, .ref bW, .ref bR, .ref bP9, .ref bK, .ref bT, .ref bC]))] [(m0, .inr (2, [.int u_3, .int (nI n), .int rg, .int st, .ref bV, .ref bW, .ref bR, .ref bP9, .ref bK, .ref bT, .ref bC])), (bW, .inl (cA, 12, .inl fW))] [] [(cA, .int)] [(cA, .int)] [1, 0] [] [0] := ⟨rfl, rfl, rfl, rfl, by decide, rfl⟩
    refine ki hX_5 hP hD hS hA (kRunV (q := (RX2, TX2, 11)) (As := [.int x, .int y]) (rest := []) F (c_X2_votes l D cA m0 u_3 n rg st bV bW bR bP9 bK bT bC fW x y hn (fun i9 h9 => jabs_sym (hW i9 h9) (nn (cd2_inv (bP_ne c_6)).1).1) (fun i9 h9 => jabs_sym (hW i9 h9) (nn (cd2_inv (bP_ne c_6)).1).2) H.size) (cwV 2 hts gX2_winnerOf_X2_votes rfl rfl rfl (by decide +kernel) ⟨Nat.le_of_ble_eq_true rfl, Nat.le_of_ble_eq_true rfl⟩) hK hP hD hX_5 1 rfl rfl rfl hl.1 rfl (Nat.le_of_ble_eq_true rfl) dX2_winnerOf_14 ⟨Nat.le_of_ble_eq_true rfl, Nat.le_of_ble_eq_true rfl⟩) (fun r_6 u_7 H locs hw_8 hP hD hS => ?_)
    have hw_8 : r_6 = votes fW x y n := hw_8
    rw [hw_8]
    have hP : va_P D vwCl [(m0, .inr (2, [.int u_3, .int (nI n), .int rg, .int st, .ref bV, .ref bW, .ref bR, .ref bP9, .ref bK, .ref bT, .ref bC])), (bW, .inl (cA, 12, .inl fW))] H := hP
    have hD : va_D A [(m0, .inr (2, [.int u_3, .int (nI n), .int rg, .int st, .ref bV, .ref bW, .ref bR, .ref bP9, .ref bK, .ref bT, .ref bC])), (bW, .inl (cA, 12, .inl fW))] := hD
    refine lv_aload_n hx hb dX2_winnerOf_17 rfl (lv_at hl 0 rfl) ?_
    refine lv_iload_n hx hb dX2_winnerOf_18 rfl (lv_at hl 2 rfl) ?_
    refine lv_iload_n hx hb dX2_winnerOf_19 rfl (lv_at hl 1 rfl) ?_
    have hX_9 : Cut D A [(m0, .inr (2, [.int u_3, .int (nI n), .int rg, .int st, .ref bV, .ref bW, .ref bR, .ref bP9, .ref bK, .ref bT, .ref bC])), (bW, .inl (cA, 12, .inl fW))] [(m0, .inr (2, [.int u_3, .int (nI n), .int rg, .int st, .ref bV, .ref bW, .ref bR, .ref bP9, .ref bK, .ref bT, .ref bC])), (bW, .inl (cA, 12, .inl fW))] [] [(cA, .int)] [(cA, .int)] [0, 1] [] [0] := ⟨rfl, rfl, rfl, rfl, by decide, rfl⟩
    refine ki hX_9 hP hD hS hA (kRunV (q := (RX2, TX2, 11)) (As := [.int y, .int x]) (rest := [.int (votes fW x y n)]) F (c_X2_votes l D cA m0 u_3 n rg st bV bW bR bP9 bK bT bC fW y x hn (fun i9 h9 => jabs_sym (hW i9 h9) (nn (cd2_inv (bP_ne c_6)).1).2) (fun i9 h9 => jabs_sym (hW i9 h9) (nn (cd2_inv (bP_ne c_6)).1).1) H.size) (cwV 2 hts gX2_winnerOf_X2_votes rfl rfl rfl (by decide +kernel) ⟨Nat.le_of_ble_eq_true rfl, Nat.le_of_ble_eq_true rfl⟩) hK hP hD hX_9 0 rfl rfl rfl hl.1 rfl (Nat.le_of_ble_eq_true rfl) dX2_winnerOf_20 ⟨Nat.le_of_ble_eq_true rfl, Nat.le_of_ble_eq_true rfl⟩) (fun r_10 u_11 H locs hw_12 hP hD hS => ?_)
    have hw_12 : r_10 = votes fW y x n := hw_12
    rw [hw_12]
    have hP : va_P D vwCl [(m0, .inr (2, [.int u_3, .int (nI n), .int rg, .int st, .ref bV, .ref bW, .ref bR, .ref bP9, .ref bK, .ref bT, .ref bC])), (bW, .inl (cA, 12, .inl fW))] H := hP
    have hD : va_D A [(m0, .inr (2, [.int u_3, .int (nI n), .int rg, .int st, .ref bV, .ref bW, .ref bR, .ref bP9, .ref bK, .ref bT, .ref bC])), (bW, .inl (cA, 12, .inl fW))] := hD
    refine lv_isub hx hb dX2_winnerOf_23 ?_
    refine lv_istore_n (lv' := [(3, .int ((votes fW x y n) - (votes fW y x n))), (0, .ref m0), (1, .int x), (2, .int y)]) hx hb dX2_winnerOf_24 rfl hl (by decide) rfl (fun ls hl => ?_)
    refine lv_iload_n hx hb dX2_winnerOf_25 rfl (lv_at hl 0 rfl) ?_
    refine lv_if_le (tgt := 33) hx hb dX2_winnerOf_26 (by decide) (fun c_26 => ?_) (fun c_26 => ?_)
    · skip
      refine lv_iload_n hx hb dX2_winnerOf_33 rfl (lv_at hl 0 rfl) ?_
      refine lv_if_ge (tgt := 41) hx hb dX2_winnerOf_34 (by decide) (fun c_34 => ?_) (fun c_34 => ?_)
      · skip
        refine lv_iload_n hx hb dX2_winnerOf_41 rfl (lv_at hl 2 rfl) ?_
        refine lv_iload_n hx hb dX2_winnerOf_42 rfl (lv_at hl 3 rfl) ?_
        refine va_mmin hx hb (hml.trans hl.1.symm) hown (hts (.methodLink RX2 64 Lib.Math.min.name) (List.mem_of_getElem? (i := 1) rfl)) (hts (.static Lib.Math.min.name) (List.mem_of_getElem? (i := 2) rfl)) (hts (.initialized "java/lang/Math") (List.mem_of_getElem? (i := 3) rfl)) (hts (.code Lib.Math.min.name Lib.Math.min.code 2 (some .int)) (List.mem_of_getElem? (i := 4) rfl)) (Nat.le_of_ble_eq_true rfl) (Nat.le_of_ble_eq_true rfl) (Nat.le_of_ble_eq_true rfl) (Nat.le_of_ble_eq_true rfl) dX2_winnerOf_43 ?_
        refine topi (jmin x y) rfl ?_
        refine useQ hQ ?_
        exact e_i (v := (jmin x y)) F hr hlocks hK hP hD hS [0, 1] [0] u_3 (⟨hw_4.1, fun _ => win_z (win_M hn (votes_in fW x y n) (votes_in fW y x n)) c_26 c_34⟩) rfl rfl rfl (Nat.le_of_ble_eq_true rfl) (Nat.le_of_ble_eq_true rfl) dX2_winnerOf_46
      · skip
        refine lv_iload_n hx hb dX2_winnerOf_37 rfl (lv_at hl 3 rfl) ?_
        refine lv_goto (tgt := 46) hx hb dX2_winnerOf_38 (by decide) ?_
        refine useQ hQ ?_
        exact e_i (v := y) F hr hlocks hK hP hD hS [0, 1] [0] u_3 (⟨hw_4.1, fun _ => win_m (win_M hn (votes_in fW x y n) (votes_in fW y x n)) c_26 c_34⟩) rfl rfl rfl (Nat.le_of_ble_eq_true rfl) (Nat.le_of_ble_eq_true rfl) dX2_winnerOf_46
    · skip
      refine lv_iload_n hx hb dX2_winnerOf_29 rfl (lv_at hl 2 rfl) ?_
      refine lv_goto (tgt := 46) hx hb dX2_winnerOf_30 (by decide) ?_
      refine useQ hQ ?_
      exact e_i (v := x) F hr hlocks hK hP hD hS [0, 1] [0] u_3 (⟨hw_4.1, fun _ => win_p (win_M hn (votes_in fW x y n) (votes_in fW y x n)) c_26⟩) rfl rfl rfl (Nat.le_of_ble_eq_true rfl) (Nat.le_of_ble_eq_true rfl) dX2_winnerOf_46
  · skip
    refine lv_iconst (v := 0) hx hb dX2_winnerOf_9 (by decide) ?_
    refine useQ hQ ?_
    exact e_i (v := 0) F hr hlocks hK hP hD hS [1, 0] [0] u_3 (⟨hw_4.1, fun z => absurd z (bP_eq c_6)⟩) rfl rfl rfl (Nat.le_of_ble_eq_true rfl) (Nat.le_of_ble_eq_true rfl) dX2_winnerOf_10
theorem uX2_X2_canLeadTo : ∀ w ∈ u_ws RX2 TX2 11, w ∈ wsX2_canLeadTo := (fun _ h => List.mem_cons_of_mem _ (List.mem_append_right _ h))
set_option maxHeartbeats 4000000 in
set_option maxRecDepth 100000 in
theorem c_X2_canLeadTo (l : Launch) (D : va_G) (cA : ClassId) (m0 : Nat) (th : Int32) (n : Nat) (rg : Int32) (st : Int32) (bV : Nat) (bW : Nat) (bR : Nat) (bP9 : Nat) (bK : Nat) (bT : Nat) (bC : Nat) (fW : Nat → Int32) (fR : Nat → Int32) (fK : Nat → Int32) (d : Int32) (x : Int32) (hn : n ≤ 12) (sz : Nat) : Met l yX2_canLeadTo wsX2_canLeadTo ({ frames := 3, cells := 0, slots := 0, locals := 74 } : Room) (va_Pc [.ref m0, .int d, .int x] (Wd D [(cA, .int)] [(m0, .inr (2, [.int th, .int (nI n), .int rg, .int st, .ref bV, .ref bW, .ref bR, .ref bP9, .ref bK, .ref bT, .ref bC])), (bW, .inl (cA, 12, .inl fW)), (bR, .inl (cA, 12, .inl fR)), (bK, .inl (cA, 12, .inl fK))] sz)) (va_Qi (fun (r : Int32) (u : Int32) => u = cd1 (¬ (okD n d ∧ okD 41 x)) ∧ (cd1 (¬ (okD n d ∧ okD 41 x)) = 0 → r = bP (canP fW fR fK n st (dN d) x))) (fun (u : Int32) t => We D [(cA, .int)] [(m0, .inr (2, [.int u, .int (nI n), .int rg, .int st, .ref bV, .ref bW, .ref bR, .ref bP9, .ref bK, .ref bT, .ref bC])), (bW, .inl (cA, 12, .inl fW)), (bR, .inl (cA, 12, .inl fR)), (bK, .inl (cA, 12, .inl fK))] (va_A [(m0, .inr (2, [.int th, .int (nI n), .int rg, .int st, .ref bV, .ref bW, .ref bR, .ref bP9, .ref bK, .ref bT, .ref bC])), (bW, .inl (cA, 12, .inl fW)), (bR, .inl (cA, 12, .inl fR)), (bK, .inl (cA, 12, .inl fK))] sz) t) (va_A [(m0, .inr (2, [.int th, .int (nI n), .int rg, .int st, .ref bV, .ref bW, .ref bR, .ref bP9, .ref bK, .ref bT, .ref bC])), (bW, .inl (cA, 12, .inl fW)), (bR, .inl (cA, 12, .inl fR)), (bK, .inl (cA, 12, .inl fK))] sz)) 0 0 (va_A [(m0, .inr (2, [.int th, .int (nI n), .int rg, .int st, .ref bV, .ref bW, .ref bR, .ref bP9, .ref bK, .ref bT, .ref bC])), (bW, .inl (cA, 12, .inl fW)), (bR, .inl (cA, 12, .inl fR)), (bK, .inl (cA, 12, .inl fK))] sz) := by
  refine mk_met [.ref m0, .int d, .int x] (fun A => va_Qi (fun (r : Int32) (u : Int32) => u = cd1 (¬ (okD n d ∧ okD 41 x)) ∧ (cd1 (¬ (okD n d ∧ okD 41 x)) = 0 → r = bP (canP fW fR fK n st (dN d) x))) (fun (u : Int32) t => We D [(cA, .int)] [(m0, .inr (2, [.int u, .int (nI n), .int rg, .int st, .ref bV, .ref bW, .ref bR, .ref bP9, .ref bK, .ref bT, .ref bC])), (bW, .inl (cA, 12, .inl fW)), (bR, .inl (cA, 12, .inl fR)), (bK, .inl (cA, 12, .inl fK))] A t) A) (by decide) rfl (Nat.le_of_ble_eq_true rfl) ?_
  intro p e s m args below meth c A ls F hr hlocks hname hP hK hD hA hl
  have hx := F.1
  have hb := F.2.1
  have hml := F.2.2.1
  have hown := F.2.2.2.1
  have hts := F.2.2.2.2
  have hS : va_S A s.heap s.heap [] := va_S.rf
  have hl : lv_has ls 3 [(0, .ref m0), (1, .int d), (2, .int x)] := hl
  refine absQ (fun Q hQ => ?_)
  refine lv_aload_n hx hb dX2_canLeadTo_0 rfl (lv_at hl 0 rfl) ?_
  refine lv_aload_n hx hb dX2_canLeadTo_1 rfl (lv_at hl 0 rfl) ?_
  refine lv_iload_n hx hb dX2_canLeadTo_2 rfl (lv_at hl 1 rfl) ?_
  have hX_1 : Cut D A [(m0, .inr (2, [.int th, .int (nI n), .int rg, .int st, .ref bV, .ref bW, .ref bR, .ref bP9, .ref bK, .ref bT, .ref bC])), (bW, .inl (cA, 12, .inl fW)), (bR, .inl (cA, 12, .inl fR)), (bK, .inl (cA, 12, .inl fK))] [(m0, .inr (2, [.int th, .int (nI n), .int rg, .int st, .ref bV, .ref bW, .ref bR, .ref bP9, .ref bK, .ref bT, .ref bC]))] [(bW, .inl (cA, 12, .inl fW)), (bR, .inl (cA, 12, .inl fR)), (bK, .inl (cA, 12, .inl fK))] [(cA, .int)] [(cA, .int)] [0] [1, 2, 3] [0] := ⟨rfl, rfl, rfl, rfl, by decide, rfl⟩
  refine ki hX_1 hP hD hS hA (kRunV (q := (RX2, TX2, 11)) (As := [.int d]) (rest := [.ref m0]) F (c_X2_isDelegate l D cA m0 th n rg st bV bW bR bP9 bK bT bC d hn s.heap.size) (cwV 1 hts gX2_canLeadTo_X2_isDelegate rfl rfl rfl (by decide +kernel) ⟨Nat.le_of_ble_eq_true rfl, Nat.le_of_ble_eq_true rfl⟩) hK hP hD hX_1 0 rfl rfl rfl hl.1 rfl (Nat.le_of_ble_eq_true rfl) dX2_canLeadTo_3 ⟨Nat.le_of_ble_eq_true rfl, Nat.le_of_ble_eq_true rfl⟩) (fun r_2 u_3 H locs hw_4 hP hD hS => ?_)
  have hw_4 : r_2 = bP (okD n d) := hw_4
  rw [hw_4]
  have hP : va_P D vwCl [(bW, .inl (cA, 12, .inl fW)), (bR, .inl (cA, 12, .inl fR)), (bK, .inl (cA, 12, .inl fK)), (m0, .inr (2, [.int th, .int (nI n), .int rg, .int st, .ref bV, .ref bW, .ref bR, .ref bP9, .ref bK, .ref bT, .ref bC]))] H := hP
  have hD : va_D A [(bW, .inl (cA, 12, .inl fW)), (bR, .inl (cA, 12, .inl fR)), (bK, .inl (cA, 12, .inl fK)), (m0, .inr (2, [.int th, .int (nI n), .int rg, .int st, .ref bV, .ref bW, .ref bR, .ref bP9, .ref bK, .ref bT, .ref bC]))] := hD
  refine lv_if_eq (tgt := 20) hx hb dX2_canLeadTo_6 (by decide) (fun c_6 => ?_) (fun c_6 => ?_)
  · skip
    refine lv_iconst (v := 1) hx hb dX2_canLeadTo_20 (by decide) ?_
    refine va_put (D := D) (ci := 2) (v := .int 1) (ty := .int) (C := RX2) (T := TX2) (N := 11) hx hb hts uX2_X2_canLeadTo tyX2 tyX2_ok nmX2 hown hK hP hD hS 3 rfl rfl 0 (by decide) (hts (.fieldLink RX2 35 "RopeChoicesModel" "thrown" "I") (List.mem_of_getElem? (i := 1) rfl)) (fun _ h9 => h9) rfl (by decide +kernel) rfl rfl (Nat.le_of_ble_eq_true rfl) dX2_canLeadTo_21 (fun H locs hP hD hS => ?_)
    have hP : va_P D vwCl [(bW, .inl (cA, 12, .inl fW)), (bR, .inl (cA, 12, .inl fR)), (bK, .inl (cA, 12, .inl fK)), (m0, .inr (2, [.int 1, .int (nI n), .int rg, .int st, .ref bV, .ref bW, .ref bR, .ref bP9, .ref bK, .ref bT, .ref bC]))] H := hP
    have hD : va_D A [(bW, .inl (cA, 12, .inl fW)), (bR, .inl (cA, 12, .inl fR)), (bK, .inl (cA, 12, .inl fK)), (m0, .inr (2, [.int 1, .int (nI n), .int rg, .int st, .ref bV, .ref bW, .ref bR, .ref bP9, .ref bK, .ref bT, .ref bC]))] := hD
    refine lv_aload_n hx hb dX2_canLeadTo_24 rfl (lv_at hl 0 rfl) ?_
    refine va_get (D := D) (ci := 2) (v := .int 1) (C := RX2) (T := TX2) (N := 11) hx hb hts uX2_X2_canLeadTo hown hK hP 3 rfl rfl 0 (by decide) (hts (.fieldLink RX2 35 "RopeChoicesModel" "thrown" "I") (List.mem_of_getElem? (i := 1) rfl)) (fun _ h9 => h9) rfl dX2_canLeadTo_25 ?_
    refine lv_if_ne (tgt := 44) hx hb dX2_canLeadTo_28 (by decide) (fun c_28 => ?_) (fun c_28 => ?_)
    · skip
      refine lv_iconst (v := 0) hx hb dX2_canLeadTo_44 (by decide) ?_
      refine useQ hQ ?_
      exact e_z (v := 0) F hr hlocks hK hP hD hS [3, 0, 1, 2] [0] 1 (by first | exact Or.inl rfl | exact Or.inr rfl | exact bP_01 _) (⟨(cd1_1 (fun z => bP_eq c_6 z.1)).symm, fun z => cx1 (cd1_1 (fun z => bP_eq c_6 z.1)) z⟩) rfl rfl rfl (Nat.le_of_ble_eq_true rfl) (Nat.le_of_ble_eq_true rfl) dX2_canLeadTo_45
    · skip
      exact absurd c_28 (by decide)
  · skip
    refine lv_iload_n hx hb dX2_canLeadTo_9 rfl (lv_at hl 2 rfl) ?_
    have hX_5 : Cut D A [(bW, .inl (cA, 12, .inl fW)), (bR, .inl (cA, 12, .inl fR)), (bK, .inl (cA, 12, .inl fK)), (m0, .inr (2, [.int th, .int (nI n), .int rg, .int st, .ref bV, .ref bW, .ref bR, .ref bP9, .ref bK, .ref bT, .ref bC]))] [] [(bW, .inl (cA, 12, .inl fW)), (bR, .inl (cA, 12, .inl fR)), (bK, .inl (cA, 12, .inl fK)), (m0, .inr (2, [.int th, .int (nI n), .int rg, .int st, .ref bV, .ref bW, .ref bR, .ref bP9, .ref bK, .ref bT, .ref bC]))] [(cA, .int)] [] [] [0, 1, 2, 3] [] := ⟨rfl, rfl, rfl, rfl, by decide, rfl⟩
    refine ki hX_5 hP hD hS hA (kRunS (As := [.int x]) (rest := [.ref m0]) F (c_X2_isPlank l D x H.size) (va_cwS 1 hts gX2_canLeadTo_X2_isPlank rfl rfl rfl (by decide +kernel) ⟨Nat.le_of_ble_eq_true rfl, Nat.le_of_ble_eq_true rfl⟩) hK hP hD hX_5 rfl hl.1 rfl (Nat.le_of_ble_eq_true rfl) dX2_canLeadTo_10 ⟨Nat.le_of_ble_eq_true rfl, Nat.le_of_ble_eq_true rfl⟩) (fun r_6 u_7 H locs hw_8 hP hD hS => ?_)
    have hw_8 : r_6 = bP (okD 41 x) := hw_8
    rw [hw_8]
    have hP : va_P D vwCl [(bW, .inl (cA, 12, .inl fW)), (bR, .inl (cA, 12, .inl fR)), (bK, .inl (cA, 12, .inl fK)), (m0, .inr (2, [.int th, .int (nI n), .int rg, .int st, .ref bV, .ref bW, .ref bR, .ref bP9, .ref bK, .ref bT, .ref bC]))] H := hP
    have hD : va_D A [(bW, .inl (cA, 12, .inl fW)), (bR, .inl (cA, 12, .inl fR)), (bK, .inl (cA, 12, .inl fK)), (m0, .inr (2, [.int th, .int (nI n), .int rg, .int st, .ref bV, .ref bW, .ref bR, .ref bP9, .ref bK, .ref bT, .ref bC]))] := hD
    refine lv_if_eq (tgt := 20) hx hb dX2_canLeadTo_13 (by decide) (fun c_13 => ?_) (fun c_13 => ?_)
    · skip
      refine lv_iconst (v := 1) hx hb dX2_canLeadTo_20 (by decide) ?_
      refine va_put (D := D) (ci := 2) (v := .int 1) (ty := .int) (C := RX2) (T := TX2) (N := 11) hx hb hts uX2_X2_canLeadTo tyX2 tyX2_ok nmX2 hown hK hP hD hS 3 rfl rfl 0 (by decide) (hts (.fieldLink RX2 35 "RopeChoicesModel" "thrown" "I") (List.mem_of_getElem? (i := 1) rfl)) (fun _ h9 => h9) rfl (by decide +kernel) rfl rfl (Nat.le_of_ble_eq_true rfl) dX2_canLeadTo_21 (fun H locs hP hD hS => ?_)
      have hP : va_P D vwCl [(bW, .inl (cA, 12, .inl fW)), (bR, .inl (cA, 12, .inl fR)), (bK, .inl (cA, 12, .inl fK)), (m0, .inr (2, [.int 1, .int (nI n), .int rg, .int st, .ref bV, .ref bW, .ref bR, .ref bP9, .ref bK, .ref bT, .ref bC]))] H := hP
      have hD : va_D A [(bW, .inl (cA, 12, .inl fW)), (bR, .inl (cA, 12, .inl fR)), (bK, .inl (cA, 12, .inl fK)), (m0, .inr (2, [.int 1, .int (nI n), .int rg, .int st, .ref bV, .ref bW, .ref bR, .ref bP9, .ref bK, .ref bT, .ref bC]))] := hD
      refine lv_aload_n hx hb dX2_canLeadTo_24 rfl (lv_at hl 0 rfl) ?_
      refine va_get (D := D) (ci := 2) (v := .int 1) (C := RX2) (T := TX2) (N := 11) hx hb hts uX2_X2_canLeadTo hown hK hP 3 rfl rfl 0 (by decide) (hts (.fieldLink RX2 35 "RopeChoicesModel" "thrown" "I") (List.mem_of_getElem? (i := 1) rfl)) (fun _ h9 => h9) rfl dX2_canLeadTo_25 ?_
      refine lv_if_ne (tgt := 44) hx hb dX2_canLeadTo_28 (by decide) (fun c_28 => ?_) (fun c_28 => ?_)
      · skip
        refine lv_iconst (v := 0) hx hb dX2_canLeadTo_44 (by decide) ?_
        refine useQ hQ ?_
        exact e_z (v := 0) F hr hlocks hK hP hD hS [3, 0, 1, 2] [0] 1 (by first | exact Or.inl rfl | exact Or.inr rfl | exact bP_01 _) (⟨(cd1_1 (fun z => bP_eq c_13 z.2)).symm, fun z => cx1 (cd1_1 (fun z => bP_eq c_13 z.2)) z⟩) rfl rfl rfl (Nat.le_of_ble_eq_true rfl) (Nat.le_of_ble_eq_true rfl) dX2_canLeadTo_45
      · skip
        exact absurd c_28 (by decide)
    · skip
      refine lv_iconst (v := 0) hx hb dX2_canLeadTo_16 (by decide) ?_
      refine lv_goto (tgt := 21) hx hb dX2_canLeadTo_17 (by decide) ?_
      refine va_put (D := D) (ci := 2) (v := .int 0) (ty := .int) (C := RX2) (T := TX2) (N := 11) hx hb hts uX2_X2_canLeadTo tyX2 tyX2_ok nmX2 hown hK hP hD hS 3 rfl rfl 0 (by decide) (hts (.fieldLink RX2 35 "RopeChoicesModel" "thrown" "I") (List.mem_of_getElem? (i := 1) rfl)) (fun _ h9 => h9) rfl (by decide +kernel) rfl rfl (Nat.le_of_ble_eq_true rfl) dX2_canLeadTo_21 (fun H locs hP hD hS => ?_)
      have hP : va_P D vwCl [(bW, .inl (cA, 12, .inl fW)), (bR, .inl (cA, 12, .inl fR)), (bK, .inl (cA, 12, .inl fK)), (m0, .inr (2, [.int 0, .int (nI n), .int rg, .int st, .ref bV, .ref bW, .ref bR, .ref bP9, .ref bK, .ref bT, .ref bC]))] H := hP
      have hD : va_D A [(bW, .inl (cA, 12, .inl fW)), (bR, .inl (cA, 12, .inl fR)), (bK, .inl (cA, 12, .inl fK)), (m0, .inr (2, [.int 0, .int (nI n), .int rg, .int st, .ref bV, .ref bW, .ref bR, .ref bP9, .ref bK, .ref bT, .ref bC]))] := hD
      refine lv_aload_n hx hb dX2_canLeadTo_24 rfl (lv_at hl 0 rfl) ?_
      refine va_get (D := D) (ci := 2) (v := .int 0) (C := RX2) (T := TX2) (N := 11) hx hb hts uX2_X2_canLeadTo hown hK hP 3 rfl rfl 0 (by decide) (hts (.fieldLink RX2 35 "RopeChoicesModel" "thrown" "I") (List.mem_of_getElem? (i := 1) rfl)) (fun _ h9 => h9) rfl dX2_canLeadTo_25 ?_
      refine lv_if_ne (tgt := 44) hx hb dX2_canLeadTo_28 (by decide) (fun c_28 => ?_) (fun c_28 => ?_)
      · skip
        exact absurd rfl c_28
      · skip
        obtain ⟨j, hj, hd9⟩ := (bP_ne c_6)
        subst hd9
        have hD9 : okD n (nI j) := ⟨j, hj, rfl⟩
        have hdn : dN (nI j) = j := dN_nI (by omega)
        refine lv_aload_n hx hb dX2_canLeadTo_31 rfl (lv_at hl 0 rfl) ?_
        refine lv_iload_n hx hb dX2_canLeadTo_32 rfl (lv_at hl 1 rfl) ?_
        refine lv_iload_n hx hb dX2_canLeadTo_33 rfl (lv_at hl 2 rfl) ?_
        have hX_9 : Cut D A [(bW, .inl (cA, 12, .inl fW)), (bR, .inl (cA, 12, .inl fR)), (bK, .inl (cA, 12, .inl fK)), (m0, .inr (2, [.int 0, .int (nI n), .int rg, .int st, .ref bV, .ref bW, .ref bR, .ref bP9, .ref bK, .ref bT, .ref bC]))] [(m0, .inr (2, [.int 0, .int (nI n), .int rg, .int st, .ref bV, .ref bW, .ref bR, .ref bP9, .ref bK, .ref bT, .ref bC])), (bW, .inl (cA, 12, .inl fW)), (bR, .inl (cA, 12, .inl fR)), (bK, .inl (cA, 12, .inl fK))] [] [(cA, .int)] [(cA, .int)] [3, 0, 1, 2] [] [0] := ⟨rfl, rfl, rfl, rfl, by decide, rfl⟩
        refine ki hX_9 hP hD hS hA (kRunV (q := (RX2, TX2, 11)) (As := [.int (nI j), .int x]) (rest := []) F (c_X2_can l D cA m0 0 n rg st bV bW bR bP9 bK bT bC fW fR fK j x hn (by omega) H.size) (cwV 2 hts gX2_canLeadTo_X2_can rfl rfl rfl (by decide +kernel) ⟨Nat.le_of_ble_eq_true rfl, Nat.le_of_ble_eq_true rfl⟩) hK hP hD hX_9 3 rfl rfl rfl hl.1 rfl (Nat.le_of_ble_eq_true rfl) dX2_canLeadTo_34 ⟨Nat.le_of_ble_eq_true rfl, Nat.le_of_ble_eq_true rfl⟩) (fun r_10 u_11 H locs hw_12 hP hD hS => ?_)
        have hw_12 : r_10 = bP (canP fW fR fK n st j x) := hw_12
        rw [hw_12]
        have hP : va_P D vwCl [(m0, .inr (2, [.int 0, .int (nI n), .int rg, .int st, .ref bV, .ref bW, .ref bR, .ref bP9, .ref bK, .ref bT, .ref bC])), (bW, .inl (cA, 12, .inl fW)), (bR, .inl (cA, 12, .inl fR)), (bK, .inl (cA, 12, .inl fK))] H := hP
        have hD : va_D A [(m0, .inr (2, [.int 0, .int (nI n), .int rg, .int st, .ref bV, .ref bW, .ref bR, .ref bP9, .ref bK, .ref bT, .ref bC])), (bW, .inl (cA, 12, .inl fW)), (bR, .inl (cA, 12, .inl fR)), (bK, .inl (cA, 12, .inl fK))] := hD
        refine lv_if_eq (tgt := 44) hx hb dX2_canLeadTo_37 (by decide) (fun c_37 => ?_) (fun c_37 => ?_)
        · skip
          refine lv_iconst (v := 0) hx hb dX2_canLeadTo_44 (by decide) ?_
          refine useQ hQ ?_
          exact e_z (v := 0) F hr hlocks hK hP hD hS [0, 1, 2, 3] [0] 0 (by first | exact Or.inl rfl | exact Or.inr rfl | exact bP_01 _) (⟨(cd1_0 (not_not_intro ⟨hD9, bP_ne c_13⟩)).symm, fun _ => bP_f (by rw [hdn]; exact bP_eq c_37)⟩) rfl rfl rfl (Nat.le_of_ble_eq_true rfl) (Nat.le_of_ble_eq_true rfl) dX2_canLeadTo_45
        · skip
          refine lv_iconst (v := 1) hx hb dX2_canLeadTo_40 (by decide) ?_
          refine lv_goto (tgt := 45) hx hb dX2_canLeadTo_41 (by decide) ?_
          refine useQ hQ ?_
          exact e_z (v := 1) F hr hlocks hK hP hD hS [0, 1, 2, 3] [0] 0 (by first | exact Or.inl rfl | exact Or.inr rfl | exact bP_01 _) (⟨(cd1_0 (not_not_intro ⟨hD9, bP_ne c_13⟩)).symm, fun _ => bP_t (by rw [hdn]; exact bP_ne c_37)⟩) rfl rfl rfl (Nat.le_of_ble_eq_true rfl) (Nat.le_of_ble_eq_true rfl) dX2_canLeadTo_45
theorem uX2_X2_wouldStepTo : ∀ w ∈ u_ws RX2 TX2 11, w ∈ wsX2_wouldStepTo := (fun _ h => List.mem_cons_of_mem _ (List.mem_append_right _ h))
set_option maxHeartbeats 4000000 in
set_option maxRecDepth 100000 in
theorem c_X2_wouldStepTo (l : Launch) (D : va_G) (cA : ClassId) (m0 : Nat) (th : Int32) (n : Nat) (rg : Int32) (st : Int32) (bV : Nat) (bW : Nat) (bR : Nat) (bP9 : Nat) (bK : Nat) (bT : Nat) (bC : Nat) (fV : Nat → Int32) (fW : Nat → Int32) (fR : Nat → Int32) (fP : Nat → Int32) (fK : Nat → Int32) (fC : Nat → Int32) (d : Int32) (hn : n ≤ 12) (hI : Inv fW fR fP fK n) (sz : Nat) : Met l yX2_wouldStepTo wsX2_wouldStepTo ({ frames := 2, cells := 0, slots := 0, locals := 53 } : Room) (va_Pc [.ref m0, .int d] (Wd D [(cA, .int)] [(m0, .inr (2, [.int th, .int (nI n), .int rg, .int st, .ref bV, .ref bW, .ref bR, .ref bP9, .ref bK, .ref bT, .ref bC])), (bV, .inl (cA, 12, .inl fV)), (bW, .inl (cA, 12, .inl fW)), (bR, .inl (cA, 12, .inl fR)), (bP9, .inl (cA, 12, .inl fP)), (bK, .inl (cA, 12, .inl fK)), (bC, .inl (cA, 41, .inl fC))] sz)) (va_Qi (fun (r : Int32) (u : Int32 × (Nat → Int32)) => u.1 = cd1 (¬ okD n d) ∧ (cd1 (¬ okD n d) = 0 → r = stepC (fW (dN d)) (fR (dN d)) (fP (dN d)) (fK (dN d)) (midF fK n))) (fun (u : Int32 × (Nat → Int32)) t => We D [(cA, .int)] [(m0, .inr (2, [.int u.1, .int (nI n), .int rg, .int st, .ref bV, .ref bW, .ref bR, .ref bP9, .ref bK, .ref bT, .ref bC])), (bV, .inl (cA, 12, .inl fV)), (bW, .inl (cA, 12, .inl fW)), (bR, .inl (cA, 12, .inl fR)), (bP9, .inl (cA, 12, .inl fP)), (bK, .inl (cA, 12, .inl fK)), (bC, .inl (cA, 41, .inl u.2))] (va_A [(m0, .inr (2, [.int th, .int (nI n), .int rg, .int st, .ref bV, .ref bW, .ref bR, .ref bP9, .ref bK, .ref bT, .ref bC])), (bV, .inl (cA, 12, .inl fV)), (bW, .inl (cA, 12, .inl fW)), (bR, .inl (cA, 12, .inl fR)), (bP9, .inl (cA, 12, .inl fP)), (bK, .inl (cA, 12, .inl fK)), (bC, .inl (cA, 41, .inl fC))] sz) t) (va_A [(m0, .inr (2, [.int th, .int (nI n), .int rg, .int st, .ref bV, .ref bW, .ref bR, .ref bP9, .ref bK, .ref bT, .ref bC])), (bV, .inl (cA, 12, .inl fV)), (bW, .inl (cA, 12, .inl fW)), (bR, .inl (cA, 12, .inl fR)), (bP9, .inl (cA, 12, .inl fP)), (bK, .inl (cA, 12, .inl fK)), (bC, .inl (cA, 41, .inl fC))] sz)) 0 0 (va_A [(m0, .inr (2, [.int th, .int (nI n), .int rg, .int st, .ref bV, .ref bW, .ref bR, .ref bP9, .ref bK, .ref bT, .ref bC])), (bV, .inl (cA, 12, .inl fV)), (bW, .inl (cA, 12, .inl fW)), (bR, .inl (cA, 12, .inl fR)), (bP9, .inl (cA, 12, .inl fP)), (bK, .inl (cA, 12, .inl fK)), (bC, .inl (cA, 41, .inl fC))] sz) := by
  refine mk_met [.ref m0, .int d] (fun A => va_Qi (fun (r : Int32) (u : Int32 × (Nat → Int32)) => u.1 = cd1 (¬ okD n d) ∧ (cd1 (¬ okD n d) = 0 → r = stepC (fW (dN d)) (fR (dN d)) (fP (dN d)) (fK (dN d)) (midF fK n))) (fun (u : Int32 × (Nat → Int32)) t => We D [(cA, .int)] [(m0, .inr (2, [.int u.1, .int (nI n), .int rg, .int st, .ref bV, .ref bW, .ref bR, .ref bP9, .ref bK, .ref bT, .ref bC])), (bV, .inl (cA, 12, .inl fV)), (bW, .inl (cA, 12, .inl fW)), (bR, .inl (cA, 12, .inl fR)), (bP9, .inl (cA, 12, .inl fP)), (bK, .inl (cA, 12, .inl fK)), (bC, .inl (cA, 41, .inl u.2))] A t) A) (by decide) rfl (Nat.le_of_ble_eq_true rfl) ?_
  intro p e s m args below meth c A ls F hr hlocks hname hP hK hD hA hl
  have hx := F.1
  have hb := F.2.1
  have hml := F.2.2.1
  have hown := F.2.2.2.1
  have hts := F.2.2.2.2
  have hS : va_S A s.heap s.heap [] := va_S.rf
  have hl : lv_has ls 2 [(0, .ref m0), (1, .int d)] := hl
  refine absQ (fun Q hQ => ?_)
  refine lv_aload_n hx hb dX2_wouldStepTo_0 rfl (lv_at hl 0 rfl) ?_
  refine lv_iconst (v := 0) hx hb dX2_wouldStepTo_1 (by decide) ?_
  refine va_put (D := D) (ci := 2) (v := .int 0) (ty := .int) (C := RX2) (T := TX2) (N := 11) hx hb hts uX2_X2_wouldStepTo tyX2 tyX2_ok nmX2 hown hK hP hD hS 0 rfl rfl 0 (by decide) (hts (.fieldLink RX2 35 "RopeChoicesModel" "thrown" "I") (List.mem_of_getElem? (i := 1) rfl)) (fun _ h9 => h9) rfl (by decide +kernel) rfl rfl (Nat.le_of_ble_eq_true rfl) dX2_wouldStepTo_2 (fun H locs hP hD hS => ?_)
  have hP : va_P D vwCl [(m0, .inr (2, [.int 0, .int (nI n), .int rg, .int st, .ref bV, .ref bW, .ref bR, .ref bP9, .ref bK, .ref bT, .ref bC])), (bV, .inl (cA, 12, .inl fV)), (bW, .inl (cA, 12, .inl fW)), (bR, .inl (cA, 12, .inl fR)), (bP9, .inl (cA, 12, .inl fP)), (bK, .inl (cA, 12, .inl fK)), (bC, .inl (cA, 41, .inl fC))] H := hP
  have hD : va_D A [(m0, .inr (2, [.int 0, .int (nI n), .int rg, .int st, .ref bV, .ref bW, .ref bR, .ref bP9, .ref bK, .ref bT, .ref bC])), (bV, .inl (cA, 12, .inl fV)), (bW, .inl (cA, 12, .inl fW)), (bR, .inl (cA, 12, .inl fR)), (bP9, .inl (cA, 12, .inl fP)), (bK, .inl (cA, 12, .inl fK)), (bC, .inl (cA, 41, .inl fC))] := hD
  refine lv_aload_n hx hb dX2_wouldStepTo_5 rfl (lv_at hl 0 rfl) ?_
  refine lv_iload_n hx hb dX2_wouldStepTo_6 rfl (lv_at hl 1 rfl) ?_
  have hX_1 : Cut D A [(m0, .inr (2, [.int 0, .int (nI n), .int rg, .int st, .ref bV, .ref bW, .ref bR, .ref bP9, .ref bK, .ref bT, .ref bC])), (bV, .inl (cA, 12, .inl fV)), (bW, .inl (cA, 12, .inl fW)), (bR, .inl (cA, 12, .inl fR)), (bP9, .inl (cA, 12, .inl fP)), (bK, .inl (cA, 12, .inl fK)), (bC, .inl (cA, 41, .inl fC))] [(m0, .inr (2, [.int 0, .int (nI n), .int rg, .int st, .ref bV, .ref bW, .ref bR, .ref bP9, .ref bK, .ref bT, .ref bC]))] [(bV, .inl (cA, 12, .inl fV)), (bW, .inl (cA, 12, .inl fW)), (bR, .inl (cA, 12, .inl fR)), (bP9, .inl (cA, 12, .inl fP)), (bK, .inl (cA, 12, .inl fK)), (bC, .inl (cA, 41, .inl fC))] [(cA, .int)] [(cA, .int)] [0] [1, 2, 3, 4, 5, 6] [0] := ⟨rfl, rfl, rfl, rfl, by decide, rfl⟩
  refine ki hX_1 hP hD hS hA (kRunV (q := (RX2, TX2, 11)) (As := [.int d]) (rest := []) F (c_X2_isDelegate l D cA m0 0 n rg st bV bW bR bP9 bK bT bC d hn H.size) (cwV 1 hts gX2_wouldStepTo_X2_isDelegate rfl rfl rfl (by decide +kernel) ⟨Nat.le_of_ble_eq_true rfl, Nat.le_of_ble_eq_true rfl⟩) hK hP hD hX_1 0 rfl rfl rfl hl.1 rfl (Nat.le_of_ble_eq_true rfl) dX2_wouldStepTo_7 ⟨Nat.le_of_ble_eq_true rfl, Nat.le_of_ble_eq_true rfl⟩) (fun r_2 u_3 H locs hw_4 hP hD hS => ?_)
  have hw_4 : r_2 = bP (okD n d) := hw_4
  rw [hw_4]
  have hP : va_P D vwCl [(bV, .inl (cA, 12, .inl fV)), (bW, .inl (cA, 12, .inl fW)), (bR, .inl (cA, 12, .inl fR)), (bP9, .inl (cA, 12, .inl fP)), (bK, .inl (cA, 12, .inl fK)), (bC, .inl (cA, 41, .inl fC)), (m0, .inr (2, [.int 0, .int (nI n), .int rg, .int st, .ref bV, .ref bW, .ref bR, .ref bP9, .ref bK, .ref bT, .ref bC]))] H := hP
  have hD : va_D A [(bV, .inl (cA, 12, .inl fV)), (bW, .inl (cA, 12, .inl fW)), (bR, .inl (cA, 12, .inl fR)), (bP9, .inl (cA, 12, .inl fP)), (bK, .inl (cA, 12, .inl fK)), (bC, .inl (cA, 41, .inl fC)), (m0, .inr (2, [.int 0, .int (nI n), .int rg, .int st, .ref bV, .ref bW, .ref bR, .ref bP9, .ref bK, .ref bT, .ref bC]))] := hD
  refine lv_if_eq (tgt := 25) hx hb dX2_wouldStepTo_10 (by decide) (fun c_10 => ?_) (fun c_10 => ?_)
  · skip
    refine lv_aload_n hx hb dX2_wouldStepTo_25 rfl (lv_at hl 0 rfl) ?_
    refine lv_iconst (v := 1) hx hb dX2_wouldStepTo_26 (by decide) ?_
    have hX_5 : Cut D A [(bV, .inl (cA, 12, .inl fV)), (bW, .inl (cA, 12, .inl fW)), (bR, .inl (cA, 12, .inl fR)), (bP9, .inl (cA, 12, .inl fP)), (bK, .inl (cA, 12, .inl fK)), (bC, .inl (cA, 41, .inl fC)), (m0, .inr (2, [.int 0, .int (nI n), .int rg, .int st, .ref bV, .ref bW, .ref bR, .ref bP9, .ref bK, .ref bT, .ref bC]))] [(m0, .inr (2, [.int 0, .int (nI n), .int rg, .int st, .ref bV, .ref bW, .ref bR, .ref bP9, .ref bK, .ref bT, .ref bC]))] [(bV, .inl (cA, 12, .inl fV)), (bW, .inl (cA, 12, .inl fW)), (bR, .inl (cA, 12, .inl fR)), (bP9, .inl (cA, 12, .inl fP)), (bK, .inl (cA, 12, .inl fK)), (bC, .inl (cA, 41, .inl fC))] [(cA, .int)] [(cA, .int)] [6] [0, 1, 2, 3, 4, 5] [0] := ⟨rfl, rfl, rfl, rfl, by decide, rfl⟩
    refine ki hX_5 hP hD hS hA (kRunV (q := (RX2, TX2, 11)) (As := [.int 1]) (rest := []) F (c_X2_fail l D cA m0 0 n rg st bV bW bR bP9 bK bT bC 1 H.size) (cwV 1 hts gX2_wouldStepTo_X2_fail rfl rfl rfl (by decide +kernel) ⟨Nat.le_of_ble_eq_true rfl, Nat.le_of_ble_eq_true rfl⟩) hK hP hD hX_5 6 rfl rfl rfl hl.1 rfl (Nat.le_of_ble_eq_true rfl) dX2_wouldStepTo_27 ⟨Nat.le_of_ble_eq_true rfl, Nat.le_of_ble_eq_true rfl⟩) (fun r_6 u_7 H locs hw_8 hP hD hS => ?_)
    have hw_8 : r_6 = 0 := hw_8
    rw [hw_8]
    have hP : va_P D vwCl [(bV, .inl (cA, 12, .inl fV)), (bW, .inl (cA, 12, .inl fW)), (bR, .inl (cA, 12, .inl fR)), (bP9, .inl (cA, 12, .inl fP)), (bK, .inl (cA, 12, .inl fK)), (bC, .inl (cA, 41, .inl fC)), (m0, .inr (2, [.int 1, .int (nI n), .int rg, .int st, .ref bV, .ref bW, .ref bR, .ref bP9, .ref bK, .ref bT, .ref bC]))] H := hP
    have hD : va_D A [(bV, .inl (cA, 12, .inl fV)), (bW, .inl (cA, 12, .inl fW)), (bR, .inl (cA, 12, .inl fR)), (bP9, .inl (cA, 12, .inl fP)), (bK, .inl (cA, 12, .inl fK)), (bC, .inl (cA, 41, .inl fC)), (m0, .inr (2, [.int 1, .int (nI n), .int rg, .int st, .ref bV, .ref bW, .ref bR, .ref bP9, .ref bK, .ref bT, .ref bC]))] := hD
    refine useQ hQ ?_
    exact e_i (v := 0) F hr hlocks hK hP hD hS [6, 0, 1, 2, 3, 4, 5] [0] (1, fC) (⟨(cd1_1 (bP_eq c_10)).symm, fun z => cx1 (cd1_1 (bP_eq c_10)) z⟩) rfl rfl rfl (Nat.le_of_ble_eq_true rfl) (Nat.le_of_ble_eq_true rfl) dX2_wouldStepTo_30
  · skip
    obtain ⟨j, hj, hd9⟩ := (bP_ne c_10)
    subst hd9
    have hD9 : okD n (nI j) := ⟨j, hj, rfl⟩
    have hdn : dN (nI j) = j := dN_nI (by omega)
    refine lv_aload_n hx hb dX2_wouldStepTo_13 rfl (lv_at hl 0 rfl) ?_
    refine lv_iload_n hx hb dX2_wouldStepTo_14 rfl (lv_at hl 1 rfl) ?_
    refine lv_aload_n hx hb dX2_wouldStepTo_15 rfl (lv_at hl 0 rfl) ?_
    have hX_9 : Cut D A [(bV, .inl (cA, 12, .inl fV)), (bW, .inl (cA, 12, .inl fW)), (bR, .inl (cA, 12, .inl fR)), (bP9, .inl (cA, 12, .inl fP)), (bK, .inl (cA, 12, .inl fK)), (bC, .inl (cA, 41, .inl fC)), (m0, .inr (2, [.int 0, .int (nI n), .int rg, .int st, .ref bV, .ref bW, .ref bR, .ref bP9, .ref bK, .ref bT, .ref bC]))] [(m0, .inr (2, [.int 0, .int (nI n), .int rg, .int st, .ref bV, .ref bW, .ref bR, .ref bP9, .ref bK, .ref bT, .ref bC])), (bV, .inl (cA, 12, .inl fV)), (bK, .inl (cA, 12, .inl fK)), (bC, .inl (cA, 41, .inl fC))] [(bW, .inl (cA, 12, .inl fW)), (bR, .inl (cA, 12, .inl fR)), (bP9, .inl (cA, 12, .inl fP))] [(cA, .int)] [(cA, .int)] [6, 0, 4, 5] [1, 2, 3] [0] := ⟨rfl, rfl, rfl, rfl, by decide, rfl⟩
    refine ki hX_9 hP hD hS hA (kRunV (q := (RX2, TX2, 11)) (As := []) (rest := [.int (nI j), .ref m0]) F (c_X2_middle l D cA m0 0 n rg st bV bW bR bP9 bK bT bC fV fK fC hn hI.K H.size) (cwV 0 hts gX2_wouldStepTo_X2_middle rfl rfl rfl (by decide +kernel) ⟨Nat.le_of_ble_eq_true rfl, Nat.le_of_ble_eq_true rfl⟩) hK hP hD hX_9 6 rfl rfl rfl hl.1 rfl (Nat.le_of_ble_eq_true rfl) dX2_wouldStepTo_16 ⟨Nat.le_of_ble_eq_true rfl, Nat.le_of_ble_eq_true rfl⟩) (fun r_10 u_11 H locs hw_12 hP hD hS => ?_)
    have hw_12 : r_10 = midM fK n := hw_12
    rw [hw_12]
    have hP : va_P D vwCl [(bW, .inl (cA, 12, .inl fW)), (bR, .inl (cA, 12, .inl fR)), (bP9, .inl (cA, 12, .inl fP)), (m0, .inr (2, [.int 0, .int (nI n), .int rg, .int st, .ref bV, .ref bW, .ref bR, .ref bP9, .ref bK, .ref bT, .ref bC])), (bV, .inl (cA, 12, .inl fV)), (bK, .inl (cA, 12, .inl fK)), (bC, .inl (cA, 41, .inl u_11))] H := hP
    have hD : va_D A [(bW, .inl (cA, 12, .inl fW)), (bR, .inl (cA, 12, .inl fR)), (bP9, .inl (cA, 12, .inl fP)), (m0, .inr (2, [.int 0, .int (nI n), .int rg, .int st, .ref bV, .ref bW, .ref bR, .ref bP9, .ref bK, .ref bT, .ref bC])), (bV, .inl (cA, 12, .inl fV)), (bK, .inl (cA, 12, .inl fK)), (bC, .inl (cA, 41, .inl u_11))] := hD
    refine topi (midF fK n) (midM_ne (show n ≠ 0 by omega)) ?_
    have hX_13 : Cut D A [(bW, .inl (cA, 12, .inl fW)), (bR, .inl (cA, 12, .inl fR)), (bP9, .inl (cA, 12, .inl fP)), (m0, .inr (2, [.int 0, .int (nI n), .int rg, .int st, .ref bV, .ref bW, .ref bR, .ref bP9, .ref bK, .ref bT, .ref bC])), (bV, .inl (cA, 12, .inl fV)), (bK, .inl (cA, 12, .inl fK)), (bC, .inl (cA, 41, .inl u_11))] [(m0, .inr (2, [.int 0, .int (nI n), .int rg, .int st, .ref bV, .ref bW, .ref bR, .ref bP9, .ref bK, .ref bT, .ref bC])), (bW, .inl (cA, 12, .inl fW)), (bR, .inl (cA, 12, .inl fR)), (bP9, .inl (cA, 12, .inl fP)), (bK, .inl (cA, 12, .inl fK))] [(bV, .inl (cA, 12, .inl fV)), (bC, .inl (cA, 41, .inl u_11))] [(cA, .int)] [(cA, .int)] [3, 0, 1, 2, 5] [4, 6] [0] := ⟨rfl, rfl, rfl, rfl, by decide, rfl⟩
    refine ki hX_13 hP hD hS hA (kRunV (q := (RX2, TX2, 11)) (As := [.int (nI j), .int (midF fK n)]) (rest := []) F (c_X2_step l D cA m0 0 n rg st bV bW bR bP9 bK bT bC fW fR fP fK j (midF fK n) hn (by omega) hI (mid_ok hI.K (by omega)) H.size) (cwV 2 hts gX2_wouldStepTo_X2_step rfl rfl rfl (by decide +kernel) ⟨Nat.le_of_ble_eq_true rfl, Nat.le_of_ble_eq_true rfl⟩) hK hP hD hX_13 3 rfl rfl rfl hl.1 rfl (Nat.le_of_ble_eq_true rfl) dX2_wouldStepTo_19 ⟨Nat.le_of_ble_eq_true rfl, Nat.le_of_ble_eq_true rfl⟩) (fun r_14 u_15 H locs hw_16 hP hD hS => ?_)
    have hw_16 : r_14 = stepC (fW j) (fR j) (fP j) (fK j) (midF fK n) := hw_16
    rw [hw_16]
    have hP : va_P D vwCl [(bV, .inl (cA, 12, .inl fV)), (bC, .inl (cA, 41, .inl u_11)), (m0, .inr (2, [.int 0, .int (nI n), .int rg, .int st, .ref bV, .ref bW, .ref bR, .ref bP9, .ref bK, .ref bT, .ref bC])), (bW, .inl (cA, 12, .inl fW)), (bR, .inl (cA, 12, .inl fR)), (bP9, .inl (cA, 12, .inl fP)), (bK, .inl (cA, 12, .inl fK))] H := hP
    have hD : va_D A [(bV, .inl (cA, 12, .inl fV)), (bC, .inl (cA, 41, .inl u_11)), (m0, .inr (2, [.int 0, .int (nI n), .int rg, .int st, .ref bV, .ref bW, .ref bR, .ref bP9, .ref bK, .ref bT, .ref bC])), (bW, .inl (cA, 12, .inl fW)), (bR, .inl (cA, 12, .inl fR)), (bP9, .inl (cA, 12, .inl fP)), (bK, .inl (cA, 12, .inl fK))] := hD
    refine lv_goto (tgt := 30) hx hb dX2_wouldStepTo_22 (by decide) ?_
    refine useQ hQ ?_
    exact e_i (v := stepC (fW j) (fR j) (fP j) (fK j) (midF fK n)) F hr hlocks hK hP hD hS [2, 0, 3, 4, 5, 6, 1] [0] (0, u_11) (⟨(cd1_0 (not_not_intro hD9)).symm, fun _ => by rw [hdn]⟩) rfl rfl rfl (Nat.le_of_ble_eq_true rfl) (Nat.le_of_ble_eq_true rfl) dX2_wouldStepTo_30
theorem uX2_X2_isStill : ∀ w ∈ u_ws RX2 TX2 11, w ∈ wsX2_isStill := (fun _ h => List.mem_cons_of_mem _ (List.mem_append_right _ h))
set_option maxHeartbeats 4000000 in
set_option maxRecDepth 100000 in
theorem c_X2_isStill (l : Launch) (D : va_G) (cA : ClassId) (m0 : Nat) (th : Int32) (n : Nat) (rg : Int32) (st : Int32) (bV : Nat) (bW : Nat) (bR : Nat) (bP9 : Nat) (bK : Nat) (bT : Nat) (bC : Nat) (fV : Nat → Int32) (fW : Nat → Int32) (fR : Nat → Int32) (fP : Nat → Int32) (fK : Nat → Int32) (fC : Nat → Int32) (hn : n ≤ 12) (hI : Inv fW fR fP fK n) (sz : Nat) : Met l yX2_isStill wsX2_isStill ({ frames := 4, cells := 1, slots := 12, locals := 99 } : Room) (va_Pc [.ref m0] (Wd D [(cA, .int)] [(m0, .inr (2, [.int th, .int (nI n), .int rg, .int st, .ref bV, .ref bW, .ref bR, .ref bP9, .ref bK, .ref bT, .ref bC])), (bV, .inl (cA, 12, .inl fV)), (bW, .inl (cA, 12, .inl fW)), (bR, .inl (cA, 12, .inl fR)), (bP9, .inl (cA, 12, .inl fP)), (bK, .inl (cA, 12, .inl fK)), (bC, .inl (cA, 41, .inl fC))] sz)) (va_Qi (fun (r : Int32) (u : Nat → Int32) => r = bP (rndM fW fR fP n st fK = 0)) (fun (u : Nat → Int32) t => We D [(cA, .int)] [(m0, .inr (2, [.int 0, .int (nI n), .int rg, .int st, .ref bV, .ref bW, .ref bR, .ref bP9, .ref bK, .ref bT, .ref bC])), (bV, .inl (cA, 12, .inl fV)), (bW, .inl (cA, 12, .inl fW)), (bR, .inl (cA, 12, .inl fR)), (bP9, .inl (cA, 12, .inl fP)), (bK, .inl (cA, 12, .inl fK)), (bC, .inl (cA, 41, .inl u))] (va_A [(m0, .inr (2, [.int th, .int (nI n), .int rg, .int st, .ref bV, .ref bW, .ref bR, .ref bP9, .ref bK, .ref bT, .ref bC])), (bV, .inl (cA, 12, .inl fV)), (bW, .inl (cA, 12, .inl fW)), (bR, .inl (cA, 12, .inl fR)), (bP9, .inl (cA, 12, .inl fP)), (bK, .inl (cA, 12, .inl fK)), (bC, .inl (cA, 41, .inl fC))] sz) t) (va_A [(m0, .inr (2, [.int th, .int (nI n), .int rg, .int st, .ref bV, .ref bW, .ref bR, .ref bP9, .ref bK, .ref bT, .ref bC])), (bV, .inl (cA, 12, .inl fV)), (bW, .inl (cA, 12, .inl fW)), (bR, .inl (cA, 12, .inl fR)), (bP9, .inl (cA, 12, .inl fP)), (bK, .inl (cA, 12, .inl fK)), (bC, .inl (cA, 41, .inl fC))] sz)) 1 12 (va_A [(m0, .inr (2, [.int th, .int (nI n), .int rg, .int st, .ref bV, .ref bW, .ref bR, .ref bP9, .ref bK, .ref bT, .ref bC])), (bV, .inl (cA, 12, .inl fV)), (bW, .inl (cA, 12, .inl fW)), (bR, .inl (cA, 12, .inl fR)), (bP9, .inl (cA, 12, .inl fP)), (bK, .inl (cA, 12, .inl fK)), (bC, .inl (cA, 41, .inl fC))] sz) := by
  refine mk_met [.ref m0] (fun A => va_Qi (fun (r : Int32) (u : Nat → Int32) => r = bP (rndM fW fR fP n st fK = 0)) (fun (u : Nat → Int32) t => We D [(cA, .int)] [(m0, .inr (2, [.int 0, .int (nI n), .int rg, .int st, .ref bV, .ref bW, .ref bR, .ref bP9, .ref bK, .ref bT, .ref bC])), (bV, .inl (cA, 12, .inl fV)), (bW, .inl (cA, 12, .inl fW)), (bR, .inl (cA, 12, .inl fR)), (bP9, .inl (cA, 12, .inl fP)), (bK, .inl (cA, 12, .inl fK)), (bC, .inl (cA, 41, .inl u))] A t) A) (by decide) rfl (Nat.le_of_ble_eq_true rfl) ?_
  intro p e s m args below meth c A ls F hr hlocks hname hP hK hD hA hl
  have hx := F.1
  have hb := F.2.1
  have hml := F.2.2.1
  have hown := F.2.2.2.1
  have hts := F.2.2.2.2
  have hS : va_S A s.heap s.heap [] := va_S.rf
  have hl : lv_has ls 1 [(0, .ref m0)] := hl
  refine absQ (fun Q hQ => ?_)
  refine lv_aload_n hx hb dX2_isStill_0 rfl (lv_at hl 0 rfl) ?_
  refine lv_iconst (v := 0) hx hb dX2_isStill_1 (by decide) ?_
  refine va_put (D := D) (ci := 2) (v := .int 0) (ty := .int) (C := RX2) (T := TX2) (N := 11) hx hb hts uX2_X2_isStill tyX2 tyX2_ok nmX2 hown hK hP hD hS 0 rfl rfl 0 (by decide) (hts (.fieldLink RX2 35 "RopeChoicesModel" "thrown" "I") (List.mem_of_getElem? (i := 1) rfl)) (fun _ h9 => h9) rfl (by decide +kernel) rfl rfl (Nat.le_of_ble_eq_true rfl) dX2_isStill_2 (fun H locs hP hD hS => ?_)
  have hP : va_P D vwCl [(m0, .inr (2, [.int 0, .int (nI n), .int rg, .int st, .ref bV, .ref bW, .ref bR, .ref bP9, .ref bK, .ref bT, .ref bC])), (bV, .inl (cA, 12, .inl fV)), (bW, .inl (cA, 12, .inl fW)), (bR, .inl (cA, 12, .inl fR)), (bP9, .inl (cA, 12, .inl fP)), (bK, .inl (cA, 12, .inl fK)), (bC, .inl (cA, 41, .inl fC))] H := hP
  have hD : va_D A [(m0, .inr (2, [.int 0, .int (nI n), .int rg, .int st, .ref bV, .ref bW, .ref bR, .ref bP9, .ref bK, .ref bT, .ref bC])), (bV, .inl (cA, 12, .inl fV)), (bW, .inl (cA, 12, .inl fW)), (bR, .inl (cA, 12, .inl fR)), (bP9, .inl (cA, 12, .inl fP)), (bK, .inl (cA, 12, .inl fK)), (bC, .inl (cA, 41, .inl fC))] := hD
  refine lv_aload_n hx hb dX2_isStill_5 rfl (lv_at hl 0 rfl) ?_
  have hX_1 : Cut D A [(m0, .inr (2, [.int 0, .int (nI n), .int rg, .int st, .ref bV, .ref bW, .ref bR, .ref bP9, .ref bK, .ref bT, .ref bC])), (bV, .inl (cA, 12, .inl fV)), (bW, .inl (cA, 12, .inl fW)), (bR, .inl (cA, 12, .inl fR)), (bP9, .inl (cA, 12, .inl fP)), (bK, .inl (cA, 12, .inl fK)), (bC, .inl (cA, 41, .inl fC))] [(m0, .inr (2, [.int 0, .int (nI n), .int rg, .int st, .ref bV, .ref bW, .ref bR, .ref bP9, .ref bK, .ref bT, .ref bC])), (bV, .inl (cA, 12, .inl fV)), (bW, .inl (cA, 12, .inl fW)), (bR, .inl (cA, 12, .inl fR)), (bP9, .inl (cA, 12, .inl fP)), (bK, .inl (cA, 12, .inl fK)), (bC, .inl (cA, 41, .inl fC))] [] [(cA, .int)] [(cA, .int)] [0, 1, 2, 3, 4, 5, 6] [] [0] := ⟨rfl, rfl, rfl, rfl, by decide, rfl⟩
  refine ki hX_1 hP hD hS hA (kRunV (q := (RX2, TX2, 11)) (As := []) (rest := []) F (c_X2_still l D cA m0 0 n rg st bV bW bR bP9 bK bT bC fV fW fR fP fK fC hn hI H.size) (cwV 0 hts gX2_isStill_X2_still rfl rfl rfl (by decide +kernel) ⟨Nat.le_of_ble_eq_true rfl, Nat.le_of_ble_eq_true rfl⟩) hK hP hD hX_1 0 rfl rfl rfl hl.1 rfl (Nat.le_of_ble_eq_true rfl) dX2_isStill_6 ⟨Nat.le_of_ble_eq_true rfl, Nat.le_of_ble_eq_true rfl⟩) (fun r_2 u_3 H locs hw_4 hP hD hS => ?_)
  have hw_4 : r_2 = bP (rndM fW fR fP n st fK = 0) := hw_4
  rw [hw_4]
  have hP : va_P D vwCl [(m0, .inr (2, [.int 0, .int (nI n), .int rg, .int st, .ref bV, .ref bW, .ref bR, .ref bP9, .ref bK, .ref bT, .ref bC])), (bV, .inl (cA, 12, .inl fV)), (bW, .inl (cA, 12, .inl fW)), (bR, .inl (cA, 12, .inl fR)), (bP9, .inl (cA, 12, .inl fP)), (bK, .inl (cA, 12, .inl fK)), (bC, .inl (cA, 41, .inl u_3))] H := hP
  have hD : va_D A [(m0, .inr (2, [.int 0, .int (nI n), .int rg, .int st, .ref bV, .ref bW, .ref bR, .ref bP9, .ref bK, .ref bT, .ref bC])), (bV, .inl (cA, 12, .inl fV)), (bW, .inl (cA, 12, .inl fW)), (bR, .inl (cA, 12, .inl fR)), (bP9, .inl (cA, 12, .inl fP)), (bK, .inl (cA, 12, .inl fK)), (bC, .inl (cA, 41, .inl u_3))] := hD
  refine useQ hQ ?_
  exact e_z (v := bP (rndM fW fR fP n st fK = 0)) F hr hlocks hK hP hD hS [0, 1, 2, 3, 4, 5, 6] [0] u_3 (by first | exact Or.inl rfl | exact Or.inr rfl | exact bP_01 _) rfl rfl rfl rfl (Nat.le_of_ble_eq_true rfl) (Nat.le_of_ble_eq_true rfl) dX2_isStill_9
theorem uX2_X2_bestStand : ∀ w ∈ u_ws RX2 TX2 11, w ∈ wsX2_bestStand := (fun _ h => List.mem_cons_of_mem _ (List.mem_append_right _ h))
set_option maxHeartbeats 4000000 in
set_option maxRecDepth 100000 in
theorem c_X2_bestStand (l : Launch) (D : va_G) (cA : ClassId) (m0 : Nat) (th : Int32) (n : Nat) (rg : Int32) (st : Int32) (bV : Nat) (bW : Nat) (bR : Nat) (bP9 : Nat) (bK : Nat) (bT : Nat) (bC : Nat) (fV : Nat → Int32) (fW : Nat → Int32) (fK : Nat → Int32) (fC : Nat → Int32) (d : Int32) (hn : n ≤ 12) (hI : ∀ i, i < n → okD 41 (fK i)) (hW : ∀ i, i < n → okD 41 (fW i)) (sz : Nat) : Met l yX2_bestStand wsX2_bestStand ({ frames := 3, cells := 0, slots := 0, locals := 78 } : Room) (va_Pc [.ref m0, .int d] (Wd D [(cA, .int)] [(m0, .inr (2, [.int th, .int (nI n), .int rg, .int st, .ref bV, .ref bW, .ref bR, .ref bP9, .ref bK, .ref bT, .ref bC])), (bV, .inl (cA, 12, .inl fV)), (bW, .inl (cA, 12, .inl fW)), (bK, .inl (cA, 12, .inl fK)), (bC, .inl (cA, 41, .inl fC))] sz)) (va_Qi (fun (r : Int32) (u : Int32 × (Nat → Int32)) => u.1 = cd1 (¬ okD n d) ∧ (cd1 (¬ okD n d) = 0 → r = bestSt fW fK n (dN d))) (fun (u : Int32 × (Nat → Int32)) t => We D [(cA, .int)] [(m0, .inr (2, [.int u.1, .int (nI n), .int rg, .int st, .ref bV, .ref bW, .ref bR, .ref bP9, .ref bK, .ref bT, .ref bC])), (bV, .inl (cA, 12, .inl fV)), (bW, .inl (cA, 12, .inl fW)), (bK, .inl (cA, 12, .inl fK)), (bC, .inl (cA, 41, .inl u.2))] (va_A [(m0, .inr (2, [.int th, .int (nI n), .int rg, .int st, .ref bV, .ref bW, .ref bR, .ref bP9, .ref bK, .ref bT, .ref bC])), (bV, .inl (cA, 12, .inl fV)), (bW, .inl (cA, 12, .inl fW)), (bK, .inl (cA, 12, .inl fK)), (bC, .inl (cA, 41, .inl fC))] sz) t) (va_A [(m0, .inr (2, [.int th, .int (nI n), .int rg, .int st, .ref bV, .ref bW, .ref bR, .ref bP9, .ref bK, .ref bT, .ref bC])), (bV, .inl (cA, 12, .inl fV)), (bW, .inl (cA, 12, .inl fW)), (bK, .inl (cA, 12, .inl fK)), (bC, .inl (cA, 41, .inl fC))] sz)) 0 0 (va_A [(m0, .inr (2, [.int th, .int (nI n), .int rg, .int st, .ref bV, .ref bW, .ref bR, .ref bP9, .ref bK, .ref bT, .ref bC])), (bV, .inl (cA, 12, .inl fV)), (bW, .inl (cA, 12, .inl fW)), (bK, .inl (cA, 12, .inl fK)), (bC, .inl (cA, 41, .inl fC))] sz) := by
  refine mk_met [.ref m0, .int d] (fun A => va_Qi (fun (r : Int32) (u : Int32 × (Nat → Int32)) => u.1 = cd1 (¬ okD n d) ∧ (cd1 (¬ okD n d) = 0 → r = bestSt fW fK n (dN d))) (fun (u : Int32 × (Nat → Int32)) t => We D [(cA, .int)] [(m0, .inr (2, [.int u.1, .int (nI n), .int rg, .int st, .ref bV, .ref bW, .ref bR, .ref bP9, .ref bK, .ref bT, .ref bC])), (bV, .inl (cA, 12, .inl fV)), (bW, .inl (cA, 12, .inl fW)), (bK, .inl (cA, 12, .inl fK)), (bC, .inl (cA, 41, .inl u.2))] A t) A) (by decide) rfl (Nat.le_of_ble_eq_true rfl) ?_
  intro p e s m args below meth c A ls F hr hlocks hname hP hK hD hA hl
  have hx := F.1
  have hb := F.2.1
  have hml := F.2.2.1
  have hown := F.2.2.2.1
  have hts := F.2.2.2.2
  have hS : va_S A s.heap s.heap [] := va_S.rf
  have hl : lv_has ls 2 [(0, .ref m0), (1, .int d)] := hl
  refine absQ (fun Q hQ => ?_)
  refine lv_aload_n hx hb dX2_bestStand_0 rfl (lv_at hl 0 rfl) ?_
  refine lv_iconst (v := 0) hx hb dX2_bestStand_1 (by decide) ?_
  refine va_put (D := D) (ci := 2) (v := .int 0) (ty := .int) (C := RX2) (T := TX2) (N := 11) hx hb hts uX2_X2_bestStand tyX2 tyX2_ok nmX2 hown hK hP hD hS 0 rfl rfl 0 (by decide) (hts (.fieldLink RX2 35 "RopeChoicesModel" "thrown" "I") (List.mem_of_getElem? (i := 1) rfl)) (fun _ h9 => h9) rfl (by decide +kernel) rfl rfl (Nat.le_of_ble_eq_true rfl) dX2_bestStand_2 (fun H locs hP hD hS => ?_)
  have hP : va_P D vwCl [(m0, .inr (2, [.int 0, .int (nI n), .int rg, .int st, .ref bV, .ref bW, .ref bR, .ref bP9, .ref bK, .ref bT, .ref bC])), (bV, .inl (cA, 12, .inl fV)), (bW, .inl (cA, 12, .inl fW)), (bK, .inl (cA, 12, .inl fK)), (bC, .inl (cA, 41, .inl fC))] H := hP
  have hD : va_D A [(m0, .inr (2, [.int 0, .int (nI n), .int rg, .int st, .ref bV, .ref bW, .ref bR, .ref bP9, .ref bK, .ref bT, .ref bC])), (bV, .inl (cA, 12, .inl fV)), (bW, .inl (cA, 12, .inl fW)), (bK, .inl (cA, 12, .inl fK)), (bC, .inl (cA, 41, .inl fC))] := hD
  refine lv_aload_n hx hb dX2_bestStand_5 rfl (lv_at hl 0 rfl) ?_
  refine lv_iload_n hx hb dX2_bestStand_6 rfl (lv_at hl 1 rfl) ?_
  have hX_1 : Cut D A [(m0, .inr (2, [.int 0, .int (nI n), .int rg, .int st, .ref bV, .ref bW, .ref bR, .ref bP9, .ref bK, .ref bT, .ref bC])), (bV, .inl (cA, 12, .inl fV)), (bW, .inl (cA, 12, .inl fW)), (bK, .inl (cA, 12, .inl fK)), (bC, .inl (cA, 41, .inl fC))] [(m0, .inr (2, [.int 0, .int (nI n), .int rg, .int st, .ref bV, .ref bW, .ref bR, .ref bP9, .ref bK, .ref bT, .ref bC]))] [(bV, .inl (cA, 12, .inl fV)), (bW, .inl (cA, 12, .inl fW)), (bK, .inl (cA, 12, .inl fK)), (bC, .inl (cA, 41, .inl fC))] [(cA, .int)] [(cA, .int)] [0] [1, 2, 3, 4] [0] := ⟨rfl, rfl, rfl, rfl, by decide, rfl⟩
  refine ki hX_1 hP hD hS hA (kRunV (q := (RX2, TX2, 11)) (As := [.int d]) (rest := []) F (c_X2_isDelegate l D cA m0 0 n rg st bV bW bR bP9 bK bT bC d hn H.size) (cwV 1 hts gX2_bestStand_X2_isDelegate rfl rfl rfl (by decide +kernel) ⟨Nat.le_of_ble_eq_true rfl, Nat.le_of_ble_eq_true rfl⟩) hK hP hD hX_1 0 rfl rfl rfl hl.1 rfl (Nat.le_of_ble_eq_true rfl) dX2_bestStand_7 ⟨Nat.le_of_ble_eq_true rfl, Nat.le_of_ble_eq_true rfl⟩) (fun r_2 u_3 H locs hw_4 hP hD hS => ?_)
  have hw_4 : r_2 = bP (okD n d) := hw_4
  rw [hw_4]
  have hP : va_P D vwCl [(bV, .inl (cA, 12, .inl fV)), (bW, .inl (cA, 12, .inl fW)), (bK, .inl (cA, 12, .inl fK)), (bC, .inl (cA, 41, .inl fC)), (m0, .inr (2, [.int 0, .int (nI n), .int rg, .int st, .ref bV, .ref bW, .ref bR, .ref bP9, .ref bK, .ref bT, .ref bC]))] H := hP
  have hD : va_D A [(bV, .inl (cA, 12, .inl fV)), (bW, .inl (cA, 12, .inl fW)), (bK, .inl (cA, 12, .inl fK)), (bC, .inl (cA, 41, .inl fC)), (m0, .inr (2, [.int 0, .int (nI n), .int rg, .int st, .ref bV, .ref bW, .ref bR, .ref bP9, .ref bK, .ref bT, .ref bC]))] := hD
  refine lv_if_eq (tgt := 21) hx hb dX2_bestStand_10 (by decide) (fun c_10 => ?_) (fun c_10 => ?_)
  · skip
    refine lv_aload_n hx hb dX2_bestStand_21 rfl (lv_at hl 0 rfl) ?_
    refine lv_iconst (v := 1) hx hb dX2_bestStand_22 (by decide) ?_
    have hX_5 : Cut D A [(bV, .inl (cA, 12, .inl fV)), (bW, .inl (cA, 12, .inl fW)), (bK, .inl (cA, 12, .inl fK)), (bC, .inl (cA, 41, .inl fC)), (m0, .inr (2, [.int 0, .int (nI n), .int rg, .int st, .ref bV, .ref bW, .ref bR, .ref bP9, .ref bK, .ref bT, .ref bC]))] [(m0, .inr (2, [.int 0, .int (nI n), .int rg, .int st, .ref bV, .ref bW, .ref bR, .ref bP9, .ref bK, .ref bT, .ref bC]))] [(bV, .inl (cA, 12, .inl fV)), (bW, .inl (cA, 12, .inl fW)), (bK, .inl (cA, 12, .inl fK)), (bC, .inl (cA, 41, .inl fC))] [(cA, .int)] [(cA, .int)] [4] [0, 1, 2, 3] [0] := ⟨rfl, rfl, rfl, rfl, by decide, rfl⟩
    refine ki hX_5 hP hD hS hA (kRunV (q := (RX2, TX2, 11)) (As := [.int 1]) (rest := []) F (c_X2_fail l D cA m0 0 n rg st bV bW bR bP9 bK bT bC 1 H.size) (cwV 1 hts gX2_bestStand_X2_fail rfl rfl rfl (by decide +kernel) ⟨Nat.le_of_ble_eq_true rfl, Nat.le_of_ble_eq_true rfl⟩) hK hP hD hX_5 4 rfl rfl rfl hl.1 rfl (Nat.le_of_ble_eq_true rfl) dX2_bestStand_23 ⟨Nat.le_of_ble_eq_true rfl, Nat.le_of_ble_eq_true rfl⟩) (fun r_6 u_7 H locs hw_8 hP hD hS => ?_)
    have hw_8 : r_6 = 0 := hw_8
    rw [hw_8]
    have hP : va_P D vwCl [(bV, .inl (cA, 12, .inl fV)), (bW, .inl (cA, 12, .inl fW)), (bK, .inl (cA, 12, .inl fK)), (bC, .inl (cA, 41, .inl fC)), (m0, .inr (2, [.int 1, .int (nI n), .int rg, .int st, .ref bV, .ref bW, .ref bR, .ref bP9, .ref bK, .ref bT, .ref bC]))] H := hP
    have hD : va_D A [(bV, .inl (cA, 12, .inl fV)), (bW, .inl (cA, 12, .inl fW)), (bK, .inl (cA, 12, .inl fK)), (bC, .inl (cA, 41, .inl fC)), (m0, .inr (2, [.int 1, .int (nI n), .int rg, .int st, .ref bV, .ref bW, .ref bR, .ref bP9, .ref bK, .ref bT, .ref bC]))] := hD
    refine useQ hQ ?_
    exact e_i (v := 0) F hr hlocks hK hP hD hS [4, 0, 1, 2, 3] [0] (1, fC) (⟨(cd1_1 (bP_eq c_10)).symm, fun z => cx1 (cd1_1 (bP_eq c_10)) z⟩) rfl rfl rfl (Nat.le_of_ble_eq_true rfl) (Nat.le_of_ble_eq_true rfl) dX2_bestStand_26
  · skip
    obtain ⟨j, hj, hd9⟩ := (bP_ne c_10)
    subst hd9
    have hD9 : okD n (nI j) := ⟨j, hj, rfl⟩
    have hdn : dN (nI j) = j := dN_nI (by omega)
    refine lv_aload_n hx hb dX2_bestStand_13 rfl (lv_at hl 0 rfl) ?_
    refine lv_iload_n hx hb dX2_bestStand_14 rfl (lv_at hl 1 rfl) ?_
    have hX_9 : Cut D A [(bV, .inl (cA, 12, .inl fV)), (bW, .inl (cA, 12, .inl fW)), (bK, .inl (cA, 12, .inl fK)), (bC, .inl (cA, 41, .inl fC)), (m0, .inr (2, [.int 0, .int (nI n), .int rg, .int st, .ref bV, .ref bW, .ref bR, .ref bP9, .ref bK, .ref bT, .ref bC]))] [(m0, .inr (2, [.int 0, .int (nI n), .int rg, .int st, .ref bV, .ref bW, .ref bR, .ref bP9, .ref bK, .ref bT, .ref bC])), (bV, .inl (cA, 12, .inl fV)), (bW, .inl (cA, 12, .inl fW)), (bK, .inl (cA, 12, .inl fK)), (bC, .inl (cA, 41, .inl fC))] [] [(cA, .int)] [(cA, .int)] [4, 0, 1, 2, 3] [] [0] := ⟨rfl, rfl, rfl, rfl, by decide, rfl⟩
    refine ki hX_9 hP hD hS hA (kRunV (q := (RX2, TX2, 11)) (As := [.int (nI j)]) (rest := []) F (c_X2_stand l D cA m0 0 n rg st bV bW bR bP9 bK bT bC fV fW fK fC j hn (by omega) hI hW H.size) (cwV 1 hts gX2_bestStand_X2_stand rfl rfl rfl (by decide +kernel) ⟨Nat.le_of_ble_eq_true rfl, Nat.le_of_ble_eq_true rfl⟩) hK hP hD hX_9 4 rfl rfl rfl hl.1 rfl (Nat.le_of_ble_eq_true rfl) dX2_bestStand_15 ⟨Nat.le_of_ble_eq_true rfl, Nat.le_of_ble_eq_true rfl⟩) (fun r_10 u_11 H locs hw_12 hP hD hS => ?_)
    have hw_12 : r_10 = bestSt fW fK n j := hw_12
    rw [hw_12]
    have hP : va_P D vwCl [(m0, .inr (2, [.int 0, .int (nI n), .int rg, .int st, .ref bV, .ref bW, .ref bR, .ref bP9, .ref bK, .ref bT, .ref bC])), (bV, .inl (cA, 12, .inl fV)), (bW, .inl (cA, 12, .inl fW)), (bK, .inl (cA, 12, .inl fK)), (bC, .inl (cA, 41, .inl u_11))] H := hP
    have hD : va_D A [(m0, .inr (2, [.int 0, .int (nI n), .int rg, .int st, .ref bV, .ref bW, .ref bR, .ref bP9, .ref bK, .ref bT, .ref bC])), (bV, .inl (cA, 12, .inl fV)), (bW, .inl (cA, 12, .inl fW)), (bK, .inl (cA, 12, .inl fK)), (bC, .inl (cA, 41, .inl u_11))] := hD
    refine lv_goto (tgt := 26) hx hb dX2_bestStand_18 (by decide) ?_
    refine useQ hQ ?_
    exact e_i (v := bestSt fW fK n j) F hr hlocks hK hP hD hS [0, 1, 2, 3, 4] [0] (0, u_11) (⟨(cd1_0 (not_not_intro hD9)).symm, fun _ => by rw [hdn]⟩) rfl rfl rfl (Nat.le_of_ble_eq_true rfl) (Nat.le_of_ble_eq_true rfl) dX2_bestStand_26
