theorem uX1_X1_villageOf : ∀ w ∈ u_ws RX1 TX1 10, w ∈ wsX1_villageOf := (fun _ h => List.mem_cons_of_mem _ (List.mem_append_left _ (List.mem_append_right _ h)))
set_option maxHeartbeats 4000000 in
set_option maxRecDepth 100000 in
theorem c_X1_villageOf (l : Launch) (hl0 : l.stackTraces = false) (D : va_G) (cA : ClassId) (h0 : Nat) (n : Nat) (rg : Int32) (st : Int32) (aV : Nat) (aW : Nat) (aR : Nat) (aP : Nat) (aK : Nat) (aL : Nat) (aQ : Nat) (fV : Nat → Int32) (d : Int32) (hn : n ≤ 12) (sz : Nat) : vx_Met l yX1_villageOf wsX1_villageOf ({ frames := 7, cells := 1, slots := 6, locals := 111 } : Room) (va_Pc [.ref h0, .int d] (Wx D [(cA, .int)] [(h0, .inr (1, [.int (nI n), .int rg, .int st, .ref aV, .ref aW, .ref aR, .ref aP, .ref aK, .ref aL, .ref aQ])), (aV, .inl (cA, 12, .inl fV))] sz)) (va_Qi (fun (r : Int32) (_ : Unit) => okD n d ∧ r = fV (dN d)) (fun (_ : Unit) t => We D [(cA, .int)] [(h0, .inr (1, [.int (nI n), .int rg, .int st, .ref aV, .ref aW, .ref aR, .ref aP, .ref aK, .ref aL, .ref aQ])), (aV, .inl (cA, 12, .inl fV))] (va_A [(h0, .inr (1, [.int (nI n), .int rg, .int st, .ref aV, .ref aW, .ref aR, .ref aP, .ref aK, .ref aL, .ref aQ])), (aV, .inl (cA, 12, .inl fV))] sz) t) (va_A [(h0, .inr (1, [.int (nI n), .int rg, .int st, .ref aV, .ref aW, .ref aR, .ref aP, .ref aK, .ref aL, .ref aQ])), (aV, .inl (cA, 12, .inl fV))] sz)) (vx_X (fun (_ : Unit) => True) (fun (E : String) (xx : Unit) t => (E = "java/lang/IndexOutOfBoundsException" ∧ ¬ okD n d) ∧ We D [(cA, .int)] [(h0, .inr (1, [.int (nI n), .int rg, .int st, .ref aV, .ref aW, .ref aR, .ref aP, .ref aK, .ref aL, .ref aQ])), (aV, .inl (cA, 12, .inl fV))] (va_A [(h0, .inr (1, [.int (nI n), .int rg, .int st, .ref aV, .ref aW, .ref aR, .ref aP, .ref aK, .ref aL, .ref aQ])), (aV, .inl (cA, 12, .inl fV))] sz) t) (va_A [(h0, .inr (1, [.int (nI n), .int rg, .int st, .ref aV, .ref aW, .ref aR, .ref aP, .ref aK, .ref aL, .ref aQ])), (aV, .inl (cA, 12, .inl fV))] sz)) 1 6 (va_A [(h0, .inr (1, [.int (nI n), .int rg, .int st, .ref aV, .ref aW, .ref aR, .ref aP, .ref aK, .ref aL, .ref aQ])), (aV, .inl (cA, 12, .inl fV))] sz) := by
  refine mk_vx [.ref h0, .int d] (fun A => va_Qi (fun (r : Int32) (_ : Unit) => okD n d ∧ r = fV (dN d)) (fun (_ : Unit) t => We D [(cA, .int)] [(h0, .inr (1, [.int (nI n), .int rg, .int st, .ref aV, .ref aW, .ref aR, .ref aP, .ref aK, .ref aL, .ref aQ])), (aV, .inl (cA, 12, .inl fV))] A t) A) (fun A => vx_X (fun (_ : Unit) => True) (fun (E : String) (xx : Unit) t => (E = "java/lang/IndexOutOfBoundsException" ∧ ¬ okD n d) ∧ We D [(cA, .int)] [(h0, .inr (1, [.int (nI n), .int rg, .int st, .ref aV, .ref aW, .ref aR, .ref aP, .ref aK, .ref aL, .ref aQ])), (aV, .inl (cA, 12, .inl fV))] A t) A) (by decide) rfl (Nat.le_of_ble_eq_true rfl) ?_
  intro p e s m args below meth c A ls F hr hlocks hname hno hP hK hD hXE hA hl
  have hx := F.1
  have hb := F.2.1
  have hml := F.2.2.1
  have hown := F.2.2.2.1
  have hts := F.2.2.2.2
  have hS : va_S A s.heap s.heap [] := va_S.rf
  have hl : lv_has ls 2 [(0, .ref h0), (1, .int d)] := hl
  refine absQ (fun Q hQ => ?_)
  refine lv_aload_n hx hb dX1_villageOf_0 rfl (lv_at hl 0 rfl) ?_
  refine lv_iload_n hx hb dX1_villageOf_1 rfl (lv_at hl 1 rfl) ?_
  have hX_1 : Cut D A [(h0, .inr (1, [.int (nI n), .int rg, .int st, .ref aV, .ref aW, .ref aR, .ref aP, .ref aK, .ref aL, .ref aQ])), (aV, .inl (cA, 12, .inl fV))] [(h0, .inr (1, [.int (nI n), .int rg, .int st, .ref aV, .ref aW, .ref aR, .ref aP, .ref aK, .ref aL, .ref aQ]))] [(aV, .inl (cA, 12, .inl fV))] [(cA, .int)] [(cA, .int)] [0] [1] [0] := ⟨rfl, rfl, rfl, rfl, by decide, rfl⟩
  refine xv hX_1 hP hD hS hA (xRunV (q := (RX1, TX1, 10)) (As := [.int d]) (rest := []) F (c_X1_checkDelegate l hl0 D cA h0 n rg st aV aW aR aP aK aL aQ d hn s.heap.size) (cwV 1 hts gX1_villageOf_X1_checkDelegate rfl rfl rfl (by decide +kernel) ⟨Nat.le_of_ble_eq_true rfl, Nat.le_of_ble_eq_true rfl⟩) hK hP hD hS hA hXE hX_1 0 rfl rfl rfl hl.1 rfl (Nat.le_of_ble_eq_true rfl) dX1_villageOf_2 ⟨Nat.le_of_ble_eq_true rfl, Nat.le_of_ble_eq_true rfl⟩) (fun E9 ce9 q9 u_3 H locs hw_4 hP hD hS hc9 hv9 hf9 => ?_) (fun u_3 H locs hw_4 hP hD hS => ?_)
  · skip
    have hP : va_P D vwCl [(aV, .inl (cA, 12, .inl fV)), (h0, .inr (1, [.int (nI n), .int rg, .int st, .ref aV, .ref aW, .ref aR, .ref aP, .ref aK, .ref aL, .ref aQ]))] H := hP
    have hD : va_D A [(aV, .inl (cA, 12, .inl fV)), (h0, .inr (1, [.int (nI n), .int rg, .int st, .ref aV, .ref aW, .ref aR, .ref aP, .ref aK, .ref aL, .ref aQ]))] := hD
    have hw_4 : E9 = "java/lang/IndexOutOfBoundsException" ∧ ¬ okD n d := hw_4
    refine uxQ hQ ?_
    exact x_out hno hlocks hK hP hD hS [1, 0] [0] () (hw_4) rfl rfl rfl hc9 hv9 hf9 (Nat.le_of_ble_eq_true rfl) (Nat.le_of_ble_eq_true rfl)
  · skip
    have hw_4 : okD n d := hw_4
    have hP : va_P D vwCl [(aV, .inl (cA, 12, .inl fV)), (h0, .inr (1, [.int (nI n), .int rg, .int st, .ref aV, .ref aW, .ref aR, .ref aP, .ref aK, .ref aL, .ref aQ]))] H := hP
    have hD : va_D A [(aV, .inl (cA, 12, .inl fV)), (h0, .inr (1, [.int (nI n), .int rg, .int st, .ref aV, .ref aW, .ref aR, .ref aP, .ref aK, .ref aL, .ref aQ]))] := hD
    obtain ⟨j, hj, hd9⟩ := hw_4
    subst hd9
    have hD9 : okD n (nI j) := ⟨j, hj, rfl⟩
    have hdn : dN (nI j) = j := dN_nI (by omega)
    refine lv_aload_n hx hb dX1_villageOf_5 rfl (lv_at hl 0 rfl) ?_
    refine va_get (D := D) (ci := 1) (v := .ref aV) (C := RX1) (T := TX1) (N := 10) hx hb hts uX1_X1_villageOf hown hK hP 1 rfl rfl 3 (by decide) (hts (.fieldLink RX1 19 "RopeChoices" "villages" "[I") (List.mem_of_getElem? (i := 1) rfl)) (fun _ h9 => h9) rfl dX1_villageOf_6 ?_
    refine lv_iload_n hx hb dX1_villageOf_9 rfl (lv_at hl 1 rfl) ?_
    refine a_ld (k := j) hx hb hK hP 0 0 rfl rfl (by omega) (Nat.le_of_ble_eq_true rfl) dX1_villageOf_10 ?_
    refine useQ hQ (vx_ret ?_)
    exact e_i (v := (fV j)) F hr hlocks hK hP hD hS [1, 0] [0] () (⟨hD9, by rw [hdn]⟩) rfl rfl rfl (Nat.le_of_ble_eq_true rfl) (Nat.le_of_ble_eq_true rfl) dX1_villageOf_11
theorem uX1_X1_wishOf : ∀ w ∈ u_ws RX1 TX1 10, w ∈ wsX1_wishOf := (fun _ h => List.mem_cons_of_mem _ (List.mem_append_left _ (List.mem_append_right _ h)))
set_option maxHeartbeats 4000000 in
set_option maxRecDepth 100000 in
theorem c_X1_wishOf (l : Launch) (hl0 : l.stackTraces = false) (D : va_G) (cA : ClassId) (h0 : Nat) (n : Nat) (rg : Int32) (st : Int32) (aV : Nat) (aW : Nat) (aR : Nat) (aP : Nat) (aK : Nat) (aL : Nat) (aQ : Nat) (fW : Nat → Int32) (d : Int32) (hn : n ≤ 12) (sz : Nat) : vx_Met l yX1_wishOf wsX1_wishOf ({ frames := 7, cells := 1, slots := 6, locals := 111 } : Room) (va_Pc [.ref h0, .int d] (Wx D [(cA, .int)] [(h0, .inr (1, [.int (nI n), .int rg, .int st, .ref aV, .ref aW, .ref aR, .ref aP, .ref aK, .ref aL, .ref aQ])), (aW, .inl (cA, 12, .inl fW))] sz)) (va_Qi (fun (r : Int32) (_ : Unit) => okD n d ∧ r = fW (dN d)) (fun (_ : Unit) t => We D [(cA, .int)] [(h0, .inr (1, [.int (nI n), .int rg, .int st, .ref aV, .ref aW, .ref aR, .ref aP, .ref aK, .ref aL, .ref aQ])), (aW, .inl (cA, 12, .inl fW))] (va_A [(h0, .inr (1, [.int (nI n), .int rg, .int st, .ref aV, .ref aW, .ref aR, .ref aP, .ref aK, .ref aL, .ref aQ])), (aW, .inl (cA, 12, .inl fW))] sz) t) (va_A [(h0, .inr (1, [.int (nI n), .int rg, .int st, .ref aV, .ref aW, .ref aR, .ref aP, .ref aK, .ref aL, .ref aQ])), (aW, .inl (cA, 12, .inl fW))] sz)) (vx_X (fun (_ : Unit) => True) (fun (E : String) (xx : Unit) t => (E = "java/lang/IndexOutOfBoundsException" ∧ ¬ okD n d) ∧ We D [(cA, .int)] [(h0, .inr (1, [.int (nI n), .int rg, .int st, .ref aV, .ref aW, .ref aR, .ref aP, .ref aK, .ref aL, .ref aQ])), (aW, .inl (cA, 12, .inl fW))] (va_A [(h0, .inr (1, [.int (nI n), .int rg, .int st, .ref aV, .ref aW, .ref aR, .ref aP, .ref aK, .ref aL, .ref aQ])), (aW, .inl (cA, 12, .inl fW))] sz) t) (va_A [(h0, .inr (1, [.int (nI n), .int rg, .int st, .ref aV, .ref aW, .ref aR, .ref aP, .ref aK, .ref aL, .ref aQ])), (aW, .inl (cA, 12, .inl fW))] sz)) 1 6 (va_A [(h0, .inr (1, [.int (nI n), .int rg, .int st, .ref aV, .ref aW, .ref aR, .ref aP, .ref aK, .ref aL, .ref aQ])), (aW, .inl (cA, 12, .inl fW))] sz) := by
  refine mk_vx [.ref h0, .int d] (fun A => va_Qi (fun (r : Int32) (_ : Unit) => okD n d ∧ r = fW (dN d)) (fun (_ : Unit) t => We D [(cA, .int)] [(h0, .inr (1, [.int (nI n), .int rg, .int st, .ref aV, .ref aW, .ref aR, .ref aP, .ref aK, .ref aL, .ref aQ])), (aW, .inl (cA, 12, .inl fW))] A t) A) (fun A => vx_X (fun (_ : Unit) => True) (fun (E : String) (xx : Unit) t => (E = "java/lang/IndexOutOfBoundsException" ∧ ¬ okD n d) ∧ We D [(cA, .int)] [(h0, .inr (1, [.int (nI n), .int rg, .int st, .ref aV, .ref aW, .ref aR, .ref aP, .ref aK, .ref aL, .ref aQ])), (aW, .inl (cA, 12, .inl fW))] A t) A) (by decide) rfl (Nat.le_of_ble_eq_true rfl) ?_
  intro p e s m args below meth c A ls F hr hlocks hname hno hP hK hD hXE hA hl
  have hx := F.1
  have hb := F.2.1
  have hml := F.2.2.1
  have hown := F.2.2.2.1
  have hts := F.2.2.2.2
  have hS : va_S A s.heap s.heap [] := va_S.rf
  have hl : lv_has ls 2 [(0, .ref h0), (1, .int d)] := hl
  refine absQ (fun Q hQ => ?_)
  refine lv_aload_n hx hb dX1_wishOf_0 rfl (lv_at hl 0 rfl) ?_
  refine lv_iload_n hx hb dX1_wishOf_1 rfl (lv_at hl 1 rfl) ?_
  have hX_1 : Cut D A [(h0, .inr (1, [.int (nI n), .int rg, .int st, .ref aV, .ref aW, .ref aR, .ref aP, .ref aK, .ref aL, .ref aQ])), (aW, .inl (cA, 12, .inl fW))] [(h0, .inr (1, [.int (nI n), .int rg, .int st, .ref aV, .ref aW, .ref aR, .ref aP, .ref aK, .ref aL, .ref aQ]))] [(aW, .inl (cA, 12, .inl fW))] [(cA, .int)] [(cA, .int)] [0] [1] [0] := ⟨rfl, rfl, rfl, rfl, by decide, rfl⟩
  refine xv hX_1 hP hD hS hA (xRunV (q := (RX1, TX1, 10)) (As := [.int d]) (rest := []) F (c_X1_checkDelegate l hl0 D cA h0 n rg st aV aW aR aP aK aL aQ d hn s.heap.size) (cwV 1 hts gX1_wishOf_X1_checkDelegate rfl rfl rfl (by decide +kernel) ⟨Nat.le_of_ble_eq_true rfl, Nat.le_of_ble_eq_true rfl⟩) hK hP hD hS hA hXE hX_1 0 rfl rfl rfl hl.1 rfl (Nat.le_of_ble_eq_true rfl) dX1_wishOf_2 ⟨Nat.le_of_ble_eq_true rfl, Nat.le_of_ble_eq_true rfl⟩) (fun E9 ce9 q9 u_3 H locs hw_4 hP hD hS hc9 hv9 hf9 => ?_) (fun u_3 H locs hw_4 hP hD hS => ?_)
  · skip
    have hP : va_P D vwCl [(aW, .inl (cA, 12, .inl fW)), (h0, .inr (1, [.int (nI n), .int rg, .int st, .ref aV, .ref aW, .ref aR, .ref aP, .ref aK, .ref aL, .ref aQ]))] H := hP
    have hD : va_D A [(aW, .inl (cA, 12, .inl fW)), (h0, .inr (1, [.int (nI n), .int rg, .int st, .ref aV, .ref aW, .ref aR, .ref aP, .ref aK, .ref aL, .ref aQ]))] := hD
    have hw_4 : E9 = "java/lang/IndexOutOfBoundsException" ∧ ¬ okD n d := hw_4
    refine uxQ hQ ?_
    exact x_out hno hlocks hK hP hD hS [1, 0] [0] () (hw_4) rfl rfl rfl hc9 hv9 hf9 (Nat.le_of_ble_eq_true rfl) (Nat.le_of_ble_eq_true rfl)
  · skip
    have hw_4 : okD n d := hw_4
    have hP : va_P D vwCl [(aW, .inl (cA, 12, .inl fW)), (h0, .inr (1, [.int (nI n), .int rg, .int st, .ref aV, .ref aW, .ref aR, .ref aP, .ref aK, .ref aL, .ref aQ]))] H := hP
    have hD : va_D A [(aW, .inl (cA, 12, .inl fW)), (h0, .inr (1, [.int (nI n), .int rg, .int st, .ref aV, .ref aW, .ref aR, .ref aP, .ref aK, .ref aL, .ref aQ]))] := hD
    obtain ⟨j, hj, hd9⟩ := hw_4
    subst hd9
    have hD9 : okD n (nI j) := ⟨j, hj, rfl⟩
    have hdn : dN (nI j) = j := dN_nI (by omega)
    refine lv_aload_n hx hb dX1_wishOf_5 rfl (lv_at hl 0 rfl) ?_
    refine va_get (D := D) (ci := 1) (v := .ref aW) (C := RX1) (T := TX1) (N := 10) hx hb hts uX1_X1_wishOf hown hK hP 1 rfl rfl 4 (by decide) (hts (.fieldLink RX1 23 "RopeChoices" "wishes" "[I") (List.mem_of_getElem? (i := 1) rfl)) (fun _ h9 => h9) rfl dX1_wishOf_6 ?_
    refine lv_iload_n hx hb dX1_wishOf_9 rfl (lv_at hl 1 rfl) ?_
    refine a_ld (k := j) hx hb hK hP 0 0 rfl rfl (by omega) (Nat.le_of_ble_eq_true rfl) dX1_wishOf_10 ?_
    refine useQ hQ (vx_ret ?_)
    exact e_i (v := (fW j)) F hr hlocks hK hP hD hS [1, 0] [0] () (⟨hD9, by rw [hdn]⟩) rfl rfl rfl (Nat.le_of_ble_eq_true rfl) (Nat.le_of_ble_eq_true rfl) dX1_wishOf_11
theorem uX1_X1_reachOf : ∀ w ∈ u_ws RX1 TX1 10, w ∈ wsX1_reachOf := (fun _ h => List.mem_cons_of_mem _ (List.mem_append_left _ (List.mem_append_right _ h)))
set_option maxHeartbeats 4000000 in
set_option maxRecDepth 100000 in
theorem c_X1_reachOf (l : Launch) (hl0 : l.stackTraces = false) (D : va_G) (cA : ClassId) (h0 : Nat) (n : Nat) (rg : Int32) (st : Int32) (aV : Nat) (aW : Nat) (aR : Nat) (aP : Nat) (aK : Nat) (aL : Nat) (aQ : Nat) (fR : Nat → Int32) (d : Int32) (hn : n ≤ 12) (sz : Nat) : vx_Met l yX1_reachOf wsX1_reachOf ({ frames := 7, cells := 1, slots := 6, locals := 111 } : Room) (va_Pc [.ref h0, .int d] (Wx D [(cA, .int)] [(h0, .inr (1, [.int (nI n), .int rg, .int st, .ref aV, .ref aW, .ref aR, .ref aP, .ref aK, .ref aL, .ref aQ])), (aR, .inl (cA, 12, .inl fR))] sz)) (va_Qi (fun (r : Int32) (_ : Unit) => okD n d ∧ r = fR (dN d)) (fun (_ : Unit) t => We D [(cA, .int)] [(h0, .inr (1, [.int (nI n), .int rg, .int st, .ref aV, .ref aW, .ref aR, .ref aP, .ref aK, .ref aL, .ref aQ])), (aR, .inl (cA, 12, .inl fR))] (va_A [(h0, .inr (1, [.int (nI n), .int rg, .int st, .ref aV, .ref aW, .ref aR, .ref aP, .ref aK, .ref aL, .ref aQ])), (aR, .inl (cA, 12, .inl fR))] sz) t) (va_A [(h0, .inr (1, [.int (nI n), .int rg, .int st, .ref aV, .ref aW, .ref aR, .ref aP, .ref aK, .ref aL, .ref aQ])), (aR, .inl (cA, 12, .inl fR))] sz)) (vx_X (fun (_ : Unit) => True) (fun (E : String) (xx : Unit) t => (E = "java/lang/IndexOutOfBoundsException" ∧ ¬ okD n d) ∧ We D [(cA, .int)] [(h0, .inr (1, [.int (nI n), .int rg, .int st, .ref aV, .ref aW, .ref aR, .ref aP, .ref aK, .ref aL, .ref aQ])), (aR, .inl (cA, 12, .inl fR))] (va_A [(h0, .inr (1, [.int (nI n), .int rg, .int st, .ref aV, .ref aW, .ref aR, .ref aP, .ref aK, .ref aL, .ref aQ])), (aR, .inl (cA, 12, .inl fR))] sz) t) (va_A [(h0, .inr (1, [.int (nI n), .int rg, .int st, .ref aV, .ref aW, .ref aR, .ref aP, .ref aK, .ref aL, .ref aQ])), (aR, .inl (cA, 12, .inl fR))] sz)) 1 6 (va_A [(h0, .inr (1, [.int (nI n), .int rg, .int st, .ref aV, .ref aW, .ref aR, .ref aP, .ref aK, .ref aL, .ref aQ])), (aR, .inl (cA, 12, .inl fR))] sz) := by
  refine mk_vx [.ref h0, .int d] (fun A => va_Qi (fun (r : Int32) (_ : Unit) => okD n d ∧ r = fR (dN d)) (fun (_ : Unit) t => We D [(cA, .int)] [(h0, .inr (1, [.int (nI n), .int rg, .int st, .ref aV, .ref aW, .ref aR, .ref aP, .ref aK, .ref aL, .ref aQ])), (aR, .inl (cA, 12, .inl fR))] A t) A) (fun A => vx_X (fun (_ : Unit) => True) (fun (E : String) (xx : Unit) t => (E = "java/lang/IndexOutOfBoundsException" ∧ ¬ okD n d) ∧ We D [(cA, .int)] [(h0, .inr (1, [.int (nI n), .int rg, .int st, .ref aV, .ref aW, .ref aR, .ref aP, .ref aK, .ref aL, .ref aQ])), (aR, .inl (cA, 12, .inl fR))] A t) A) (by decide) rfl (Nat.le_of_ble_eq_true rfl) ?_
  intro p e s m args below meth c A ls F hr hlocks hname hno hP hK hD hXE hA hl
  have hx := F.1
  have hb := F.2.1
  have hml := F.2.2.1
  have hown := F.2.2.2.1
  have hts := F.2.2.2.2
  have hS : va_S A s.heap s.heap [] := va_S.rf
  have hl : lv_has ls 2 [(0, .ref h0), (1, .int d)] := hl
  refine absQ (fun Q hQ => ?_)
  refine lv_aload_n hx hb dX1_reachOf_0 rfl (lv_at hl 0 rfl) ?_
  refine lv_iload_n hx hb dX1_reachOf_1 rfl (lv_at hl 1 rfl) ?_
  have hX_1 : Cut D A [(h0, .inr (1, [.int (nI n), .int rg, .int st, .ref aV, .ref aW, .ref aR, .ref aP, .ref aK, .ref aL, .ref aQ])), (aR, .inl (cA, 12, .inl fR))] [(h0, .inr (1, [.int (nI n), .int rg, .int st, .ref aV, .ref aW, .ref aR, .ref aP, .ref aK, .ref aL, .ref aQ]))] [(aR, .inl (cA, 12, .inl fR))] [(cA, .int)] [(cA, .int)] [0] [1] [0] := ⟨rfl, rfl, rfl, rfl, by decide, rfl⟩
  refine xv hX_1 hP hD hS hA (xRunV (q := (RX1, TX1, 10)) (As := [.int d]) (rest := []) F (c_X1_checkDelegate l hl0 D cA h0 n rg st aV aW aR aP aK aL aQ d hn s.heap.size) (cwV 1 hts gX1_reachOf_X1_checkDelegate rfl rfl rfl (by decide +kernel) ⟨Nat.le_of_ble_eq_true rfl, Nat.le_of_ble_eq_true rfl⟩) hK hP hD hS hA hXE hX_1 0 rfl rfl rfl hl.1 rfl (Nat.le_of_ble_eq_true rfl) dX1_reachOf_2 ⟨Nat.le_of_ble_eq_true rfl, Nat.le_of_ble_eq_true rfl⟩) (fun E9 ce9 q9 u_3 H locs hw_4 hP hD hS hc9 hv9 hf9 => ?_) (fun u_3 H locs hw_4 hP hD hS => ?_)
  · skip
    have hP : va_P D vwCl [(aR, .inl (cA, 12, .inl fR)), (h0, .inr (1, [.int (nI n), .int rg, .int st, .ref aV, .ref aW, .ref aR, .ref aP, .ref aK, .ref aL, .ref aQ]))] H := hP
    have hD : va_D A [(aR, .inl (cA, 12, .inl fR)), (h0, .inr (1, [.int (nI n), .int rg, .int st, .ref aV, .ref aW, .ref aR, .ref aP, .ref aK, .ref aL, .ref aQ]))] := hD
    have hw_4 : E9 = "java/lang/IndexOutOfBoundsException" ∧ ¬ okD n d := hw_4
    refine uxQ hQ ?_
    exact x_out hno hlocks hK hP hD hS [1, 0] [0] () (hw_4) rfl rfl rfl hc9 hv9 hf9 (Nat.le_of_ble_eq_true rfl) (Nat.le_of_ble_eq_true rfl)
  · skip
    have hw_4 : okD n d := hw_4
    have hP : va_P D vwCl [(aR, .inl (cA, 12, .inl fR)), (h0, .inr (1, [.int (nI n), .int rg, .int st, .ref aV, .ref aW, .ref aR, .ref aP, .ref aK, .ref aL, .ref aQ]))] H := hP
    have hD : va_D A [(aR, .inl (cA, 12, .inl fR)), (h0, .inr (1, [.int (nI n), .int rg, .int st, .ref aV, .ref aW, .ref aR, .ref aP, .ref aK, .ref aL, .ref aQ]))] := hD
    obtain ⟨j, hj, hd9⟩ := hw_4
    subst hd9
    have hD9 : okD n (nI j) := ⟨j, hj, rfl⟩
    have hdn : dN (nI j) = j := dN_nI (by omega)
    refine lv_aload_n hx hb dX1_reachOf_5 rfl (lv_at hl 0 rfl) ?_
    refine va_get (D := D) (ci := 1) (v := .ref aR) (C := RX1) (T := TX1) (N := 10) hx hb hts uX1_X1_reachOf hown hK hP 1 rfl rfl 5 (by decide) (hts (.fieldLink RX1 26 "RopeChoices" "reaches" "[I") (List.mem_of_getElem? (i := 1) rfl)) (fun _ h9 => h9) rfl dX1_reachOf_6 ?_
    refine lv_iload_n hx hb dX1_reachOf_9 rfl (lv_at hl 1 rfl) ?_
    refine a_ld (k := j) hx hb hK hP 0 0 rfl rfl (by omega) (Nat.le_of_ble_eq_true rfl) dX1_reachOf_10 ?_
    refine useQ hQ (vx_ret ?_)
    exact e_i (v := (fR j)) F hr hlocks hK hP hD hS [1, 0] [0] () (⟨hD9, by rw [hdn]⟩) rfl rfl rfl (Nat.le_of_ble_eq_true rfl) (Nat.le_of_ble_eq_true rfl) dX1_reachOf_11
theorem uX1_X1_paceOf : ∀ w ∈ u_ws RX1 TX1 10, w ∈ wsX1_paceOf := (fun _ h => List.mem_cons_of_mem _ (List.mem_append_left _ (List.mem_append_right _ h)))
set_option maxHeartbeats 4000000 in
set_option maxRecDepth 100000 in
theorem c_X1_paceOf (l : Launch) (hl0 : l.stackTraces = false) (D : va_G) (cA : ClassId) (h0 : Nat) (n : Nat) (rg : Int32) (st : Int32) (aV : Nat) (aW : Nat) (aR : Nat) (aP : Nat) (aK : Nat) (aL : Nat) (aQ : Nat) (fP : Nat → Int32) (d : Int32) (hn : n ≤ 12) (sz : Nat) : vx_Met l yX1_paceOf wsX1_paceOf ({ frames := 7, cells := 1, slots := 6, locals := 111 } : Room) (va_Pc [.ref h0, .int d] (Wx D [(cA, .int)] [(h0, .inr (1, [.int (nI n), .int rg, .int st, .ref aV, .ref aW, .ref aR, .ref aP, .ref aK, .ref aL, .ref aQ])), (aP, .inl (cA, 12, .inl fP))] sz)) (va_Qi (fun (r : Int32) (_ : Unit) => okD n d ∧ r = fP (dN d)) (fun (_ : Unit) t => We D [(cA, .int)] [(h0, .inr (1, [.int (nI n), .int rg, .int st, .ref aV, .ref aW, .ref aR, .ref aP, .ref aK, .ref aL, .ref aQ])), (aP, .inl (cA, 12, .inl fP))] (va_A [(h0, .inr (1, [.int (nI n), .int rg, .int st, .ref aV, .ref aW, .ref aR, .ref aP, .ref aK, .ref aL, .ref aQ])), (aP, .inl (cA, 12, .inl fP))] sz) t) (va_A [(h0, .inr (1, [.int (nI n), .int rg, .int st, .ref aV, .ref aW, .ref aR, .ref aP, .ref aK, .ref aL, .ref aQ])), (aP, .inl (cA, 12, .inl fP))] sz)) (vx_X (fun (_ : Unit) => True) (fun (E : String) (xx : Unit) t => (E = "java/lang/IndexOutOfBoundsException" ∧ ¬ okD n d) ∧ We D [(cA, .int)] [(h0, .inr (1, [.int (nI n), .int rg, .int st, .ref aV, .ref aW, .ref aR, .ref aP, .ref aK, .ref aL, .ref aQ])), (aP, .inl (cA, 12, .inl fP))] (va_A [(h0, .inr (1, [.int (nI n), .int rg, .int st, .ref aV, .ref aW, .ref aR, .ref aP, .ref aK, .ref aL, .ref aQ])), (aP, .inl (cA, 12, .inl fP))] sz) t) (va_A [(h0, .inr (1, [.int (nI n), .int rg, .int st, .ref aV, .ref aW, .ref aR, .ref aP, .ref aK, .ref aL, .ref aQ])), (aP, .inl (cA, 12, .inl fP))] sz)) 1 6 (va_A [(h0, .inr (1, [.int (nI n), .int rg, .int st, .ref aV, .ref aW, .ref aR, .ref aP, .ref aK, .ref aL, .ref aQ])), (aP, .inl (cA, 12, .inl fP))] sz) := by
  refine mk_vx [.ref h0, .int d] (fun A => va_Qi (fun (r : Int32) (_ : Unit) => okD n d ∧ r = fP (dN d)) (fun (_ : Unit) t => We D [(cA, .int)] [(h0, .inr (1, [.int (nI n), .int rg, .int st, .ref aV, .ref aW, .ref aR, .ref aP, .ref aK, .ref aL, .ref aQ])), (aP, .inl (cA, 12, .inl fP))] A t) A) (fun A => vx_X (fun (_ : Unit) => True) (fun (E : String) (xx : Unit) t => (E = "java/lang/IndexOutOfBoundsException" ∧ ¬ okD n d) ∧ We D [(cA, .int)] [(h0, .inr (1, [.int (nI n), .int rg, .int st, .ref aV, .ref aW, .ref aR, .ref aP, .ref aK, .ref aL, .ref aQ])), (aP, .inl (cA, 12, .inl fP))] A t) A) (by decide) rfl (Nat.le_of_ble_eq_true rfl) ?_
  intro p e s m args below meth c A ls F hr hlocks hname hno hP hK hD hXE hA hl
  have hx := F.1
  have hb := F.2.1
  have hml := F.2.2.1
  have hown := F.2.2.2.1
  have hts := F.2.2.2.2
  have hS : va_S A s.heap s.heap [] := va_S.rf
  have hl : lv_has ls 2 [(0, .ref h0), (1, .int d)] := hl
  refine absQ (fun Q hQ => ?_)
  refine lv_aload_n hx hb dX1_paceOf_0 rfl (lv_at hl 0 rfl) ?_
  refine lv_iload_n hx hb dX1_paceOf_1 rfl (lv_at hl 1 rfl) ?_
  have hX_1 : Cut D A [(h0, .inr (1, [.int (nI n), .int rg, .int st, .ref aV, .ref aW, .ref aR, .ref aP, .ref aK, .ref aL, .ref aQ])), (aP, .inl (cA, 12, .inl fP))] [(h0, .inr (1, [.int (nI n), .int rg, .int st, .ref aV, .ref aW, .ref aR, .ref aP, .ref aK, .ref aL, .ref aQ]))] [(aP, .inl (cA, 12, .inl fP))] [(cA, .int)] [(cA, .int)] [0] [1] [0] := ⟨rfl, rfl, rfl, rfl, by decide, rfl⟩
  refine xv hX_1 hP hD hS hA (xRunV (q := (RX1, TX1, 10)) (As := [.int d]) (rest := []) F (c_X1_checkDelegate l hl0 D cA h0 n rg st aV aW aR aP aK aL aQ d hn s.heap.size) (cwV 1 hts gX1_paceOf_X1_checkDelegate rfl rfl rfl (by decide +kernel) ⟨Nat.le_of_ble_eq_true rfl, Nat.le_of_ble_eq_true rfl⟩) hK hP hD hS hA hXE hX_1 0 rfl rfl rfl hl.1 rfl (Nat.le_of_ble_eq_true rfl) dX1_paceOf_2 ⟨Nat.le_of_ble_eq_true rfl, Nat.le_of_ble_eq_true rfl⟩) (fun E9 ce9 q9 u_3 H locs hw_4 hP hD hS hc9 hv9 hf9 => ?_) (fun u_3 H locs hw_4 hP hD hS => ?_)
  · skip
    have hP : va_P D vwCl [(aP, .inl (cA, 12, .inl fP)), (h0, .inr (1, [.int (nI n), .int rg, .int st, .ref aV, .ref aW, .ref aR, .ref aP, .ref aK, .ref aL, .ref aQ]))] H := hP
    have hD : va_D A [(aP, .inl (cA, 12, .inl fP)), (h0, .inr (1, [.int (nI n), .int rg, .int st, .ref aV, .ref aW, .ref aR, .ref aP, .ref aK, .ref aL, .ref aQ]))] := hD
    have hw_4 : E9 = "java/lang/IndexOutOfBoundsException" ∧ ¬ okD n d := hw_4
    refine uxQ hQ ?_
    exact x_out hno hlocks hK hP hD hS [1, 0] [0] () (hw_4) rfl rfl rfl hc9 hv9 hf9 (Nat.le_of_ble_eq_true rfl) (Nat.le_of_ble_eq_true rfl)
  · skip
    have hw_4 : okD n d := hw_4
    have hP : va_P D vwCl [(aP, .inl (cA, 12, .inl fP)), (h0, .inr (1, [.int (nI n), .int rg, .int st, .ref aV, .ref aW, .ref aR, .ref aP, .ref aK, .ref aL, .ref aQ]))] H := hP
    have hD : va_D A [(aP, .inl (cA, 12, .inl fP)), (h0, .inr (1, [.int (nI n), .int rg, .int st, .ref aV, .ref aW, .ref aR, .ref aP, .ref aK, .ref aL, .ref aQ]))] := hD
    obtain ⟨j, hj, hd9⟩ := hw_4
    subst hd9
    have hD9 : okD n (nI j) := ⟨j, hj, rfl⟩
    have hdn : dN (nI j) = j := dN_nI (by omega)
    refine lv_aload_n hx hb dX1_paceOf_5 rfl (lv_at hl 0 rfl) ?_
    refine va_get (D := D) (ci := 1) (v := .ref aP) (C := RX1) (T := TX1) (N := 10) hx hb hts uX1_X1_paceOf hown hK hP 1 rfl rfl 6 (by decide) (hts (.fieldLink RX1 29 "RopeChoices" "paces" "[I") (List.mem_of_getElem? (i := 1) rfl)) (fun _ h9 => h9) rfl dX1_paceOf_6 ?_
    refine lv_iload_n hx hb dX1_paceOf_9 rfl (lv_at hl 1 rfl) ?_
    refine a_ld (k := j) hx hb hK hP 0 0 rfl rfl (by omega) (Nat.le_of_ble_eq_true rfl) dX1_paceOf_10 ?_
    refine useQ hQ (vx_ret ?_)
    exact e_i (v := (fP j)) F hr hlocks hK hP hD hS [1, 0] [0] () (⟨hD9, by rw [hdn]⟩) rfl rfl rfl (Nat.le_of_ble_eq_true rfl) (Nat.le_of_ble_eq_true rfl) dX1_paceOf_11
theorem uX1_X1_plankOf : ∀ w ∈ u_ws RX1 TX1 10, w ∈ wsX1_plankOf := (fun _ h => List.mem_cons_of_mem _ (List.mem_append_left _ (List.mem_append_right _ h)))
set_option maxHeartbeats 4000000 in
set_option maxRecDepth 100000 in
theorem c_X1_plankOf (l : Launch) (hl0 : l.stackTraces = false) (D : va_G) (cA : ClassId) (h0 : Nat) (n : Nat) (rg : Int32) (st : Int32) (aV : Nat) (aW : Nat) (aR : Nat) (aP : Nat) (aK : Nat) (aL : Nat) (aQ : Nat) (fK : Nat → Int32) (d : Int32) (hn : n ≤ 12) (sz : Nat) : vx_Met l yX1_plankOf wsX1_plankOf ({ frames := 7, cells := 1, slots := 6, locals := 111 } : Room) (va_Pc [.ref h0, .int d] (Wx D [(cA, .int)] [(h0, .inr (1, [.int (nI n), .int rg, .int st, .ref aV, .ref aW, .ref aR, .ref aP, .ref aK, .ref aL, .ref aQ])), (aK, .inl (cA, 12, .inl fK))] sz)) (va_Qi (fun (r : Int32) (_ : Unit) => okD n d ∧ r = fK (dN d)) (fun (_ : Unit) t => We D [(cA, .int)] [(h0, .inr (1, [.int (nI n), .int rg, .int st, .ref aV, .ref aW, .ref aR, .ref aP, .ref aK, .ref aL, .ref aQ])), (aK, .inl (cA, 12, .inl fK))] (va_A [(h0, .inr (1, [.int (nI n), .int rg, .int st, .ref aV, .ref aW, .ref aR, .ref aP, .ref aK, .ref aL, .ref aQ])), (aK, .inl (cA, 12, .inl fK))] sz) t) (va_A [(h0, .inr (1, [.int (nI n), .int rg, .int st, .ref aV, .ref aW, .ref aR, .ref aP, .ref aK, .ref aL, .ref aQ])), (aK, .inl (cA, 12, .inl fK))] sz)) (vx_X (fun (_ : Unit) => True) (fun (E : String) (xx : Unit) t => (E = "java/lang/IndexOutOfBoundsException" ∧ ¬ okD n d) ∧ We D [(cA, .int)] [(h0, .inr (1, [.int (nI n), .int rg, .int st, .ref aV, .ref aW, .ref aR, .ref aP, .ref aK, .ref aL, .ref aQ])), (aK, .inl (cA, 12, .inl fK))] (va_A [(h0, .inr (1, [.int (nI n), .int rg, .int st, .ref aV, .ref aW, .ref aR, .ref aP, .ref aK, .ref aL, .ref aQ])), (aK, .inl (cA, 12, .inl fK))] sz) t) (va_A [(h0, .inr (1, [.int (nI n), .int rg, .int st, .ref aV, .ref aW, .ref aR, .ref aP, .ref aK, .ref aL, .ref aQ])), (aK, .inl (cA, 12, .inl fK))] sz)) 1 6 (va_A [(h0, .inr (1, [.int (nI n), .int rg, .int st, .ref aV, .ref aW, .ref aR, .ref aP, .ref aK, .ref aL, .ref aQ])), (aK, .inl (cA, 12, .inl fK))] sz) := by
  refine mk_vx [.ref h0, .int d] (fun A => va_Qi (fun (r : Int32) (_ : Unit) => okD n d ∧ r = fK (dN d)) (fun (_ : Unit) t => We D [(cA, .int)] [(h0, .inr (1, [.int (nI n), .int rg, .int st, .ref aV, .ref aW, .ref aR, .ref aP, .ref aK, .ref aL, .ref aQ])), (aK, .inl (cA, 12, .inl fK))] A t) A) (fun A => vx_X (fun (_ : Unit) => True) (fun (E : String) (xx : Unit) t => (E = "java/lang/IndexOutOfBoundsException" ∧ ¬ okD n d) ∧ We D [(cA, .int)] [(h0, .inr (1, [.int (nI n), .int rg, .int st, .ref aV, .ref aW, .ref aR, .ref aP, .ref aK, .ref aL, .ref aQ])), (aK, .inl (cA, 12, .inl fK))] A t) A) (by decide) rfl (Nat.le_of_ble_eq_true rfl) ?_
  intro p e s m args below meth c A ls F hr hlocks hname hno hP hK hD hXE hA hl
  have hx := F.1
  have hb := F.2.1
  have hml := F.2.2.1
  have hown := F.2.2.2.1
  have hts := F.2.2.2.2
  have hS : va_S A s.heap s.heap [] := va_S.rf
  have hl : lv_has ls 2 [(0, .ref h0), (1, .int d)] := hl
  refine absQ (fun Q hQ => ?_)
  refine lv_aload_n hx hb dX1_plankOf_0 rfl (lv_at hl 0 rfl) ?_
  refine lv_iload_n hx hb dX1_plankOf_1 rfl (lv_at hl 1 rfl) ?_
  have hX_1 : Cut D A [(h0, .inr (1, [.int (nI n), .int rg, .int st, .ref aV, .ref aW, .ref aR, .ref aP, .ref aK, .ref aL, .ref aQ])), (aK, .inl (cA, 12, .inl fK))] [(h0, .inr (1, [.int (nI n), .int rg, .int st, .ref aV, .ref aW, .ref aR, .ref aP, .ref aK, .ref aL, .ref aQ]))] [(aK, .inl (cA, 12, .inl fK))] [(cA, .int)] [(cA, .int)] [0] [1] [0] := ⟨rfl, rfl, rfl, rfl, by decide, rfl⟩
  refine xv hX_1 hP hD hS hA (xRunV (q := (RX1, TX1, 10)) (As := [.int d]) (rest := []) F (c_X1_checkDelegate l hl0 D cA h0 n rg st aV aW aR aP aK aL aQ d hn s.heap.size) (cwV 1 hts gX1_plankOf_X1_checkDelegate rfl rfl rfl (by decide +kernel) ⟨Nat.le_of_ble_eq_true rfl, Nat.le_of_ble_eq_true rfl⟩) hK hP hD hS hA hXE hX_1 0 rfl rfl rfl hl.1 rfl (Nat.le_of_ble_eq_true rfl) dX1_plankOf_2 ⟨Nat.le_of_ble_eq_true rfl, Nat.le_of_ble_eq_true rfl⟩) (fun E9 ce9 q9 u_3 H locs hw_4 hP hD hS hc9 hv9 hf9 => ?_) (fun u_3 H locs hw_4 hP hD hS => ?_)
  · skip
    have hP : va_P D vwCl [(aK, .inl (cA, 12, .inl fK)), (h0, .inr (1, [.int (nI n), .int rg, .int st, .ref aV, .ref aW, .ref aR, .ref aP, .ref aK, .ref aL, .ref aQ]))] H := hP
    have hD : va_D A [(aK, .inl (cA, 12, .inl fK)), (h0, .inr (1, [.int (nI n), .int rg, .int st, .ref aV, .ref aW, .ref aR, .ref aP, .ref aK, .ref aL, .ref aQ]))] := hD
    have hw_4 : E9 = "java/lang/IndexOutOfBoundsException" ∧ ¬ okD n d := hw_4
    refine uxQ hQ ?_
    exact x_out hno hlocks hK hP hD hS [1, 0] [0] () (hw_4) rfl rfl rfl hc9 hv9 hf9 (Nat.le_of_ble_eq_true rfl) (Nat.le_of_ble_eq_true rfl)
  · skip
    have hw_4 : okD n d := hw_4
    have hP : va_P D vwCl [(aK, .inl (cA, 12, .inl fK)), (h0, .inr (1, [.int (nI n), .int rg, .int st, .ref aV, .ref aW, .ref aR, .ref aP, .ref aK, .ref aL, .ref aQ]))] H := hP
    have hD : va_D A [(aK, .inl (cA, 12, .inl fK)), (h0, .inr (1, [.int (nI n), .int rg, .int st, .ref aV, .ref aW, .ref aR, .ref aP, .ref aK, .ref aL, .ref aQ]))] := hD
    obtain ⟨j, hj, hd9⟩ := hw_4
    subst hd9
    have hD9 : okD n (nI j) := ⟨j, hj, rfl⟩
    have hdn : dN (nI j) = j := dN_nI (by omega)
    refine lv_aload_n hx hb dX1_plankOf_5 rfl (lv_at hl 0 rfl) ?_
    refine va_get (D := D) (ci := 1) (v := .ref aK) (C := RX1) (T := TX1) (N := 10) hx hb hts uX1_X1_plankOf hown hK hP 1 rfl rfl 7 (by decide) (hts (.fieldLink RX1 32 "RopeChoices" "planks" "[I") (List.mem_of_getElem? (i := 1) rfl)) (fun _ h9 => h9) rfl dX1_plankOf_6 ?_
    refine lv_iload_n hx hb dX1_plankOf_9 rfl (lv_at hl 1 rfl) ?_
    refine a_ld (k := j) hx hb hK hP 0 0 rfl rfl (by omega) (Nat.le_of_ble_eq_true rfl) dX1_plankOf_10 ?_
    refine useQ hQ (vx_ret ?_)
    exact e_i (v := (fK j)) F hr hlocks hK hP hD hS [1, 0] [0] () (⟨hD9, by rw [hdn]⟩) rfl rfl rfl (Nat.le_of_ble_eq_true rfl) (Nat.le_of_ble_eq_true rfl) dX1_plankOf_11
theorem uX1_X1_delegates : ∀ w ∈ u_ws RX1 TX1 10, w ∈ wsX1_delegates := (fun _ h => List.mem_cons_of_mem _ (List.mem_append_right _ h))
set_option maxHeartbeats 4000000 in
set_option maxRecDepth 100000 in
theorem c_X1_delegates (l : Launch) (D : va_G) (cA : ClassId) (h0 : Nat) (n : Nat) (rg : Int32) (st : Int32) (aV : Nat) (aW : Nat) (aR : Nat) (aP : Nat) (aK : Nat) (aL : Nat) (aQ : Nat)  (sz : Nat) : Met l yX1_delegates wsX1_delegates ({ frames := 0, cells := 0, slots := 0, locals := 0 } : Room) (va_Pc [.ref h0] (Wd D [(cA, .int)] [(h0, .inr (1, [.int (nI n), .int rg, .int st, .ref aV, .ref aW, .ref aR, .ref aP, .ref aK, .ref aL, .ref aQ]))] sz)) (va_Qi (fun (r : Int32) (_ : Unit) => r = nI n) (fun (_ : Unit) t => We D [(cA, .int)] [(h0, .inr (1, [.int (nI n), .int rg, .int st, .ref aV, .ref aW, .ref aR, .ref aP, .ref aK, .ref aL, .ref aQ]))] (va_A [(h0, .inr (1, [.int (nI n), .int rg, .int st, .ref aV, .ref aW, .ref aR, .ref aP, .ref aK, .ref aL, .ref aQ]))] sz) t) (va_A [(h0, .inr (1, [.int (nI n), .int rg, .int st, .ref aV, .ref aW, .ref aR, .ref aP, .ref aK, .ref aL, .ref aQ]))] sz)) 0 0 (va_A [(h0, .inr (1, [.int (nI n), .int rg, .int st, .ref aV, .ref aW, .ref aR, .ref aP, .ref aK, .ref aL, .ref aQ]))] sz) := by
  refine mk_met [.ref h0] (fun A => va_Qi (fun (r : Int32) (_ : Unit) => r = nI n) (fun (_ : Unit) t => We D [(cA, .int)] [(h0, .inr (1, [.int (nI n), .int rg, .int st, .ref aV, .ref aW, .ref aR, .ref aP, .ref aK, .ref aL, .ref aQ]))] A t) A) (by decide) rfl (Nat.le_of_ble_eq_true rfl) ?_
  intro p e s m args below meth c A ls F hr hlocks hname hP hK hD hA hl
  have hx := F.1
  have hb := F.2.1
  have hml := F.2.2.1
  have hown := F.2.2.2.1
  have hts := F.2.2.2.2
  have hS : va_S A s.heap s.heap [] := va_S.rf
  have hl : lv_has ls 1 [(0, .ref h0)] := hl
  refine absQ (fun Q hQ => ?_)
  refine lv_aload_n hx hb dX1_delegates_0 rfl (lv_at hl 0 rfl) ?_
  refine va_get (D := D) (ci := 1) (v := .int (nI n)) (C := RX1) (T := TX1) (N := 10) hx hb hts uX1_X1_delegates hown hK hP 0 rfl rfl 0 (by decide) (hts (.fieldLink RX1 7 "RopeChoices" "count" "I") (List.mem_of_getElem? (i := 1) rfl)) (fun _ h9 => h9) rfl dX1_delegates_1 ?_
  refine useQ hQ ?_
  exact e_i (v := nI n) F hr hlocks hK hP hD hS [0] [0] () rfl rfl rfl rfl (Nat.le_of_ble_eq_true rfl) (Nat.le_of_ble_eq_true rfl) dX1_delegates_4
theorem uX1_X1_rounds : ∀ w ∈ u_ws RX1 TX1 10, w ∈ wsX1_rounds := (fun _ h => List.mem_cons_of_mem _ (List.mem_append_right _ h))
set_option maxHeartbeats 4000000 in
set_option maxRecDepth 100000 in
theorem c_X1_rounds (l : Launch) (D : va_G) (cA : ClassId) (h0 : Nat) (n : Nat) (rg : Int32) (st : Int32) (aV : Nat) (aW : Nat) (aR : Nat) (aP : Nat) (aK : Nat) (aL : Nat) (aQ : Nat)  (sz : Nat) : Met l yX1_rounds wsX1_rounds ({ frames := 0, cells := 0, slots := 0, locals := 0 } : Room) (va_Pc [.ref h0] (Wd D [(cA, .int)] [(h0, .inr (1, [.int (nI n), .int rg, .int st, .ref aV, .ref aW, .ref aR, .ref aP, .ref aK, .ref aL, .ref aQ]))] sz)) (va_Qi (fun (r : Int32) (_ : Unit) => r = rg) (fun (_ : Unit) t => We D [(cA, .int)] [(h0, .inr (1, [.int (nI n), .int rg, .int st, .ref aV, .ref aW, .ref aR, .ref aP, .ref aK, .ref aL, .ref aQ]))] (va_A [(h0, .inr (1, [.int (nI n), .int rg, .int st, .ref aV, .ref aW, .ref aR, .ref aP, .ref aK, .ref aL, .ref aQ]))] sz) t) (va_A [(h0, .inr (1, [.int (nI n), .int rg, .int st, .ref aV, .ref aW, .ref aR, .ref aP, .ref aK, .ref aL, .ref aQ]))] sz)) 0 0 (va_A [(h0, .inr (1, [.int (nI n), .int rg, .int st, .ref aV, .ref aW, .ref aR, .ref aP, .ref aK, .ref aL, .ref aQ]))] sz) := by
  refine mk_met [.ref h0] (fun A => va_Qi (fun (r : Int32) (_ : Unit) => r = rg) (fun (_ : Unit) t => We D [(cA, .int)] [(h0, .inr (1, [.int (nI n), .int rg, .int st, .ref aV, .ref aW, .ref aR, .ref aP, .ref aK, .ref aL, .ref aQ]))] A t) A) (by decide) rfl (Nat.le_of_ble_eq_true rfl) ?_
  intro p e s m args below meth c A ls F hr hlocks hname hP hK hD hA hl
  have hx := F.1
  have hb := F.2.1
  have hml := F.2.2.1
  have hown := F.2.2.2.1
  have hts := F.2.2.2.2
  have hS : va_S A s.heap s.heap [] := va_S.rf
  have hl : lv_has ls 1 [(0, .ref h0)] := hl
  refine absQ (fun Q hQ => ?_)
  refine lv_aload_n hx hb dX1_rounds_0 rfl (lv_at hl 0 rfl) ?_
  refine va_get (D := D) (ci := 1) (v := .int rg) (C := RX1) (T := TX1) (N := 10) hx hb hts uX1_X1_rounds hown hK hP 0 rfl rfl 1 (by decide) (hts (.fieldLink RX1 13 "RopeChoices" "roundsGone" "I") (List.mem_of_getElem? (i := 1) rfl)) (fun _ h9 => h9) rfl dX1_rounds_1 ?_
  refine useQ hQ ?_
  exact e_i (v := rg) F hr hlocks hK hP hD hS [0] [0] () rfl rfl rfl rfl (Nat.le_of_ble_eq_true rfl) (Nat.le_of_ble_eq_true rfl) dX1_rounds_4
theorem uX1_X1_strength : ∀ w ∈ u_ws RX1 TX1 10, w ∈ wsX1_strength := (fun _ h => List.mem_cons_of_mem _ (List.mem_append_right _ h))
set_option maxHeartbeats 4000000 in
set_option maxRecDepth 100000 in
theorem c_X1_strength (l : Launch) (D : va_G) (cA : ClassId) (h0 : Nat) (n : Nat) (rg : Int32) (st : Int32) (aV : Nat) (aW : Nat) (aR : Nat) (aP : Nat) (aK : Nat) (aL : Nat) (aQ : Nat)  (sz : Nat) : Met l yX1_strength wsX1_strength ({ frames := 0, cells := 0, slots := 0, locals := 0 } : Room) (va_Pc [.ref h0] (Wd D [(cA, .int)] [(h0, .inr (1, [.int (nI n), .int rg, .int st, .ref aV, .ref aW, .ref aR, .ref aP, .ref aK, .ref aL, .ref aQ]))] sz)) (va_Qi (fun (r : Int32) (_ : Unit) => r = st) (fun (_ : Unit) t => We D [(cA, .int)] [(h0, .inr (1, [.int (nI n), .int rg, .int st, .ref aV, .ref aW, .ref aR, .ref aP, .ref aK, .ref aL, .ref aQ]))] (va_A [(h0, .inr (1, [.int (nI n), .int rg, .int st, .ref aV, .ref aW, .ref aR, .ref aP, .ref aK, .ref aL, .ref aQ]))] sz) t) (va_A [(h0, .inr (1, [.int (nI n), .int rg, .int st, .ref aV, .ref aW, .ref aR, .ref aP, .ref aK, .ref aL, .ref aQ]))] sz)) 0 0 (va_A [(h0, .inr (1, [.int (nI n), .int rg, .int st, .ref aV, .ref aW, .ref aR, .ref aP, .ref aK, .ref aL, .ref aQ]))] sz) := by
  refine mk_met [.ref h0] (fun A => va_Qi (fun (r : Int32) (_ : Unit) => r = st) (fun (_ : Unit) t => We D [(cA, .int)] [(h0, .inr (1, [.int (nI n), .int rg, .int st, .ref aV, .ref aW, .ref aR, .ref aP, .ref aK, .ref aL, .ref aQ]))] A t) A) (by decide) rfl (Nat.le_of_ble_eq_true rfl) ?_
  intro p e s m args below meth c A ls F hr hlocks hname hP hK hD hA hl
  have hx := F.1
  have hb := F.2.1
  have hml := F.2.2.1
  have hown := F.2.2.2.1
  have hts := F.2.2.2.2
  have hS : va_S A s.heap s.heap [] := va_S.rf
  have hl : lv_has ls 1 [(0, .ref h0)] := hl
  refine absQ (fun Q hQ => ?_)
  refine lv_aload_n hx hb dX1_strength_0 rfl (lv_at hl 0 rfl) ?_
  refine va_get (D := D) (ci := 1) (v := .int st) (C := RX1) (T := TX1) (N := 10) hx hb hts uX1_X1_strength hown hK hP 0 rfl rfl 2 (by decide) (hts (.fieldLink RX1 16 "RopeChoices" "plankStrength" "I") (List.mem_of_getElem? (i := 1) rfl)) (fun _ h9 => h9) rfl dX1_strength_1 ?_
  refine useQ hQ ?_
  exact e_i (v := st) F hr hlocks hK hP hD hS [0] [0] () rfl rfl rfl rfl (Nat.le_of_ble_eq_true rfl) (Nat.le_of_ble_eq_true rfl) dX1_strength_4
theorem uX1_X1_standingOn : ∀ w ∈ u_ws RX1 TX1 10, w ∈ wsX1_standingOn := (fun _ h => List.mem_cons_of_mem _ (List.mem_append_left _ (List.mem_append_right _ h)))
set_option maxHeartbeats 4000000 in
set_option maxRecDepth 100000 in
theorem c_X1_standingOn (l : Launch) (hl0 : l.stackTraces = false) (D : va_G) (cA : ClassId) (h0 : Nat) (n : Nat) (rg : Int32) (st : Int32) (aV : Nat) (aW : Nat) (aR : Nat) (aP : Nat) (aK : Nat) (aL : Nat) (aQ : Nat) (fK : Nat → Int32) (x : Int32) (hn : n ≤ 12) (sz : Nat) : vx_Met l yX1_standingOn wsX1_standingOn ({ frames := 7, cells := 1, slots := 6, locals := 110 } : Room) (va_Pc [.ref h0, .int x] (Wx D [(cA, .int)] [(h0, .inr (1, [.int (nI n), .int rg, .int st, .ref aV, .ref aW, .ref aR, .ref aP, .ref aK, .ref aL, .ref aQ])), (aK, .inl (cA, 12, .inl fK))] sz)) (va_Qi (fun (r : Int32) (_ : Unit) => okD 41 x ∧ r = crowd fK x n) (fun (_ : Unit) t => We D [(cA, .int)] [(h0, .inr (1, [.int (nI n), .int rg, .int st, .ref aV, .ref aW, .ref aR, .ref aP, .ref aK, .ref aL, .ref aQ])), (aK, .inl (cA, 12, .inl fK))] (va_A [(h0, .inr (1, [.int (nI n), .int rg, .int st, .ref aV, .ref aW, .ref aR, .ref aP, .ref aK, .ref aL, .ref aQ])), (aK, .inl (cA, 12, .inl fK))] sz) t) (va_A [(h0, .inr (1, [.int (nI n), .int rg, .int st, .ref aV, .ref aW, .ref aR, .ref aP, .ref aK, .ref aL, .ref aQ])), (aK, .inl (cA, 12, .inl fK))] sz)) (vx_X (fun (_ : Unit) => True) (fun (E : String) (xx : Unit) t => (E = "java/lang/IndexOutOfBoundsException" ∧ ¬ okD 41 x) ∧ We D [(cA, .int)] [(h0, .inr (1, [.int (nI n), .int rg, .int st, .ref aV, .ref aW, .ref aR, .ref aP, .ref aK, .ref aL, .ref aQ])), (aK, .inl (cA, 12, .inl fK))] (va_A [(h0, .inr (1, [.int (nI n), .int rg, .int st, .ref aV, .ref aW, .ref aR, .ref aP, .ref aK, .ref aL, .ref aQ])), (aK, .inl (cA, 12, .inl fK))] sz) t) (va_A [(h0, .inr (1, [.int (nI n), .int rg, .int st, .ref aV, .ref aW, .ref aR, .ref aP, .ref aK, .ref aL, .ref aQ])), (aK, .inl (cA, 12, .inl fK))] sz)) 1 6 (va_A [(h0, .inr (1, [.int (nI n), .int rg, .int st, .ref aV, .ref aW, .ref aR, .ref aP, .ref aK, .ref aL, .ref aQ])), (aK, .inl (cA, 12, .inl fK))] sz) := by
  refine mk_vx [.ref h0, .int x] (fun A => va_Qi (fun (r : Int32) (_ : Unit) => okD 41 x ∧ r = crowd fK x n) (fun (_ : Unit) t => We D [(cA, .int)] [(h0, .inr (1, [.int (nI n), .int rg, .int st, .ref aV, .ref aW, .ref aR, .ref aP, .ref aK, .ref aL, .ref aQ])), (aK, .inl (cA, 12, .inl fK))] A t) A) (fun A => vx_X (fun (_ : Unit) => True) (fun (E : String) (xx : Unit) t => (E = "java/lang/IndexOutOfBoundsException" ∧ ¬ okD 41 x) ∧ We D [(cA, .int)] [(h0, .inr (1, [.int (nI n), .int rg, .int st, .ref aV, .ref aW, .ref aR, .ref aP, .ref aK, .ref aL, .ref aQ])), (aK, .inl (cA, 12, .inl fK))] A t) A) (by decide) rfl (Nat.le_of_ble_eq_true rfl) ?_
  intro p e s m args below meth c A ls F hr hlocks hname hno hP hK hD hXE hA hl
  have hx := F.1
  have hb := F.2.1
  have hml := F.2.2.1
  have hown := F.2.2.2.1
  have hts := F.2.2.2.2
  have hS : va_S A s.heap s.heap [] := va_S.rf
  have hl : lv_has ls 2 [(0, .ref h0), (1, .int x)] := hl
  refine absQ (fun Q hQ => ?_)
  refine lv_iload_n hx hb dX1_standingOn_0 rfl (lv_at hl 1 rfl) ?_
  have hX_1 : Cut D A [(h0, .inr (1, [.int (nI n), .int rg, .int st, .ref aV, .ref aW, .ref aR, .ref aP, .ref aK, .ref aL, .ref aQ])), (aK, .inl (cA, 12, .inl fK))] [] [(h0, .inr (1, [.int (nI n), .int rg, .int st, .ref aV, .ref aW, .ref aR, .ref aP, .ref aK, .ref aL, .ref aQ])), (aK, .inl (cA, 12, .inl fK))] [(cA, .int)] [] [] [0, 1] [] := ⟨rfl, rfl, rfl, rfl, by decide, rfl⟩
  refine xv hX_1 hP hD hS hA (xRunS (As := [.int x]) (rest := []) F (c_X1_checkPlank l hl0 D x s.heap.size) (va_cwS 1 hts gX1_standingOn_X1_checkPlank rfl rfl rfl (by decide +kernel) ⟨Nat.le_of_ble_eq_true rfl, Nat.le_of_ble_eq_true rfl⟩) hK hP hD hS hA hXE hX_1 rfl hl.1 rfl (Nat.le_of_ble_eq_true rfl) dX1_standingOn_1 ⟨Nat.le_of_ble_eq_true rfl, Nat.le_of_ble_eq_true rfl⟩) (fun E9 ce9 q9 u_3 H locs hw_4 hP hD hS hc9 hv9 hf9 => ?_) (fun u_3 H locs hw_4 hP hD hS => ?_)
  · skip
    have hP : va_P D vwCl [(h0, .inr (1, [.int (nI n), .int rg, .int st, .ref aV, .ref aW, .ref aR, .ref aP, .ref aK, .ref aL, .ref aQ])), (aK, .inl (cA, 12, .inl fK))] H := hP
    have hD : va_D A [(h0, .inr (1, [.int (nI n), .int rg, .int st, .ref aV, .ref aW, .ref aR, .ref aP, .ref aK, .ref aL, .ref aQ])), (aK, .inl (cA, 12, .inl fK))] := hD
    have hw_4 : E9 = "java/lang/IndexOutOfBoundsException" ∧ ¬ okD 41 x := hw_4
    refine uxQ hQ ?_
    exact x_out hno hlocks hK hP hD hS [0, 1] [0] () (hw_4) rfl rfl rfl hc9 hv9 hf9 (Nat.le_of_ble_eq_true rfl) (Nat.le_of_ble_eq_true rfl)
  · skip
    have hw_4 : okD 41 x := hw_4
    have hP : va_P D vwCl [(h0, .inr (1, [.int (nI n), .int rg, .int st, .ref aV, .ref aW, .ref aR, .ref aP, .ref aK, .ref aL, .ref aQ])), (aK, .inl (cA, 12, .inl fK))] H := hP
    have hD : va_D A [(h0, .inr (1, [.int (nI n), .int rg, .int st, .ref aV, .ref aW, .ref aR, .ref aP, .ref aK, .ref aL, .ref aQ])), (aK, .inl (cA, 12, .inl fK))] := hD
    have h1 := hw_4
    refine lv_aload_n hx hb dX1_standingOn_4 rfl (lv_at hl 0 rfl) ?_
    refine lv_aload_n hx hb dX1_standingOn_5 rfl (lv_at hl 0 rfl) ?_
    refine va_get (D := D) (ci := 1) (v := .ref aK) (C := RX1) (T := TX1) (N := 10) hx hb hts uX1_X1_standingOn hown hK hP 0 rfl rfl 7 (by decide) (hts (.fieldLink RX1 32 "RopeChoices" "planks" "[I") (List.mem_of_getElem? (i := 1) rfl)) (fun _ h9 => h9) rfl dX1_standingOn_6 ?_
    refine lv_iload_n hx hb dX1_standingOn_9 rfl (lv_at hl 1 rfl) ?_
    have hX_5 : Cut D A [(h0, .inr (1, [.int (nI n), .int rg, .int st, .ref aV, .ref aW, .ref aR, .ref aP, .ref aK, .ref aL, .ref aQ])), (aK, .inl (cA, 12, .inl fK))] [(h0, .inr (1, [.int (nI n), .int rg, .int st, .ref aV, .ref aW, .ref aR, .ref aP, .ref aK, .ref aL, .ref aQ])), (aK, .inl (cA, 12, .inl fK))] [] [(cA, .int)] [(cA, .int)] [0, 1] [] [0] := ⟨rfl, rfl, rfl, rfl, by decide, rfl⟩
    refine ki hX_5 hP hD hS hA (kRunV (q := (RX1, TX1, 10)) (As := [.ref aK, .int x]) (rest := []) F (c_X1_crowdOn l D cA h0 n rg st aV aW aR aP aK aL aQ aK fK x hn H.size) (cwV 2 hts gX1_standingOn_X1_crowdOn rfl rfl rfl (by decide +kernel) ⟨Nat.le_of_ble_eq_true rfl, Nat.le_of_ble_eq_true rfl⟩) hK hP hD hX_5 0 rfl rfl rfl hl.1 rfl (Nat.le_of_ble_eq_true rfl) dX1_standingOn_10 ⟨Nat.le_of_ble_eq_true rfl, Nat.le_of_ble_eq_true rfl⟩) (fun r_6 u_7 H locs hw_8 hP hD hS => ?_)
    have hw_8 : r_6 = crowd fK x n := hw_8
    rw [hw_8]
    have hP : va_P D vwCl [(h0, .inr (1, [.int (nI n), .int rg, .int st, .ref aV, .ref aW, .ref aR, .ref aP, .ref aK, .ref aL, .ref aQ])), (aK, .inl (cA, 12, .inl fK))] H := hP
    have hD : va_D A [(h0, .inr (1, [.int (nI n), .int rg, .int st, .ref aV, .ref aW, .ref aR, .ref aP, .ref aK, .ref aL, .ref aQ])), (aK, .inl (cA, 12, .inl fK))] := hD
    refine useQ hQ (vx_ret ?_)
    exact e_i (v := crowd fK x n) F hr hlocks hK hP hD hS [0, 1] [0] () (⟨h1, rfl⟩) rfl rfl rfl (Nat.le_of_ble_eq_true rfl) (Nat.le_of_ble_eq_true rfl) dX1_standingOn_13
theorem uX1_X1_spread : ∀ w ∈ u_ws RX1 TX1 10, w ∈ wsX1_spread := (fun _ h => List.mem_cons_of_mem _ (List.mem_append_right _ h))
set_option maxHeartbeats 4000000 in
set_option maxRecDepth 100000 in
theorem c_X1_spread (l : Launch) (D : va_G) (cA : ClassId) (h0 : Nat) (n : Nat) (rg : Int32) (st : Int32) (aV : Nat) (aW : Nat) (aR : Nat) (aP : Nat) (aK : Nat) (aL : Nat) (aQ : Nat) (fK : Nat → Int32) (hn : n ≤ 12) (sz : Nat) : Met l yX1_spread wsX1_spread ({ frames := 2, cells := 0, slots := 0, locals := 54 } : Room) (va_Pc [.ref h0] (Wd D [(cA, .int)] [(h0, .inr (1, [.int (nI n), .int rg, .int st, .ref aV, .ref aW, .ref aR, .ref aP, .ref aK, .ref aL, .ref aQ])), (aK, .inl (cA, 12, .inl fK))] sz)) (va_Qi (fun (r : Int32) (_ : Unit) => r = wide fK n) (fun (_ : Unit) t => We D [(cA, .int)] [(h0, .inr (1, [.int (nI n), .int rg, .int st, .ref aV, .ref aW, .ref aR, .ref aP, .ref aK, .ref aL, .ref aQ])), (aK, .inl (cA, 12, .inl fK))] (va_A [(h0, .inr (1, [.int (nI n), .int rg, .int st, .ref aV, .ref aW, .ref aR, .ref aP, .ref aK, .ref aL, .ref aQ])), (aK, .inl (cA, 12, .inl fK))] sz) t) (va_A [(h0, .inr (1, [.int (nI n), .int rg, .int st, .ref aV, .ref aW, .ref aR, .ref aP, .ref aK, .ref aL, .ref aQ])), (aK, .inl (cA, 12, .inl fK))] sz)) 0 0 (va_A [(h0, .inr (1, [.int (nI n), .int rg, .int st, .ref aV, .ref aW, .ref aR, .ref aP, .ref aK, .ref aL, .ref aQ])), (aK, .inl (cA, 12, .inl fK))] sz) := by
  refine mk_met [.ref h0] (fun A => va_Qi (fun (r : Int32) (_ : Unit) => r = wide fK n) (fun (_ : Unit) t => We D [(cA, .int)] [(h0, .inr (1, [.int (nI n), .int rg, .int st, .ref aV, .ref aW, .ref aR, .ref aP, .ref aK, .ref aL, .ref aQ])), (aK, .inl (cA, 12, .inl fK))] A t) A) (by decide) rfl (Nat.le_of_ble_eq_true rfl) ?_
  intro p e s m args below meth c A ls F hr hlocks hname hP hK hD hA hl
  have hx := F.1
  have hb := F.2.1
  have hml := F.2.2.1
  have hown := F.2.2.2.1
  have hts := F.2.2.2.2
  have hS : va_S A s.heap s.heap [] := va_S.rf
  have hl : lv_has ls 1 [(0, .ref h0)] := hl
  refine absQ (fun Q hQ => ?_)
  refine lv_aload_n hx hb dX1_spread_0 rfl (lv_at hl 0 rfl) ?_
  refine lv_aload_n hx hb dX1_spread_1 rfl (lv_at hl 0 rfl) ?_
  refine va_get (D := D) (ci := 1) (v := .ref aK) (C := RX1) (T := TX1) (N := 10) hx hb hts uX1_X1_spread hown hK hP 0 rfl rfl 7 (by decide) (hts (.fieldLink RX1 32 "RopeChoices" "planks" "[I") (List.mem_of_getElem? (i := 1) rfl)) (fun _ h9 => h9) rfl dX1_spread_2 ?_
  have hX_1 : Cut D A [(h0, .inr (1, [.int (nI n), .int rg, .int st, .ref aV, .ref aW, .ref aR, .ref aP, .ref aK, .ref aL, .ref aQ])), (aK, .inl (cA, 12, .inl fK))] [(h0, .inr (1, [.int (nI n), .int rg, .int st, .ref aV, .ref aW, .ref aR, .ref aP, .ref aK, .ref aL, .ref aQ])), (aK, .inl (cA, 12, .inl fK))] [] [(cA, .int)] [(cA, .int)] [0, 1] [] [0] := ⟨rfl, rfl, rfl, rfl, by decide, rfl⟩
  refine ki hX_1 hP hD hS hA (kRunV (q := (RX1, TX1, 10)) (As := [.ref aK]) (rest := []) F (c_X1_distanceOfEnds l D cA h0 n rg st aV aW aR aP aK aL aQ aK fK hn s.heap.size) (cwV 1 hts gX1_spread_X1_distanceOfEnds rfl rfl rfl (by decide +kernel) ⟨Nat.le_of_ble_eq_true rfl, Nat.le_of_ble_eq_true rfl⟩) hK hP hD hX_1 0 rfl rfl rfl hl.1 rfl (Nat.le_of_ble_eq_true rfl) dX1_spread_5 ⟨Nat.le_of_ble_eq_true rfl, Nat.le_of_ble_eq_true rfl⟩) (fun r_2 u_3 H locs hw_4 hP hD hS => ?_)
  have hw_4 : r_2 = wide fK n := hw_4
  rw [hw_4]
  have hP : va_P D vwCl [(h0, .inr (1, [.int (nI n), .int rg, .int st, .ref aV, .ref aW, .ref aR, .ref aP, .ref aK, .ref aL, .ref aQ])), (aK, .inl (cA, 12, .inl fK))] H := hP
  have hD : va_D A [(h0, .inr (1, [.int (nI n), .int rg, .int st, .ref aV, .ref aW, .ref aR, .ref aP, .ref aK, .ref aL, .ref aQ])), (aK, .inl (cA, 12, .inl fK))] := hD
  refine useQ hQ ?_
  exact e_i (v := wide fK n) F hr hlocks hK hP hD hS [0, 1] [0] () rfl rfl rfl rfl (Nat.le_of_ble_eq_true rfl) (Nat.le_of_ble_eq_true rfl) dX1_spread_8
theorem uX1_X1_isTreaty : ∀ w ∈ u_ws RX1 TX1 10, w ∈ wsX1_isTreaty := (fun _ h => List.mem_cons_of_mem _ (List.mem_append_right _ h))
set_option maxHeartbeats 4000000 in
set_option maxRecDepth 100000 in
theorem c_X1_isTreaty (l : Launch) (D : va_G) (cA : ClassId) (h0 : Nat) (n : Nat) (rg : Int32) (st : Int32) (aV : Nat) (aW : Nat) (aR : Nat) (aP : Nat) (aK : Nat) (aL : Nat) (aQ : Nat) (fV : Nat → Int32) (fK : Nat → Int32) (hn : n ≤ 12) (sz : Nat) : Met l yX1_isTreaty wsX1_isTreaty ({ frames := 3, cells := 0, slots := 0, locals := 75 } : Room) (va_Pc [.ref h0] (Wd D [(cA, .int)] [(h0, .inr (1, [.int (nI n), .int rg, .int st, .ref aV, .ref aW, .ref aR, .ref aP, .ref aK, .ref aL, .ref aQ])), (aV, .inl (cA, 12, .inl fV)), (aK, .inl (cA, 12, .inl fK))] sz)) (va_Qi (fun (r : Int32) (_ : Unit) => r = bP (agreeP fV fK n)) (fun (_ : Unit) t => We D [(cA, .int)] [(h0, .inr (1, [.int (nI n), .int rg, .int st, .ref aV, .ref aW, .ref aR, .ref aP, .ref aK, .ref aL, .ref aQ])), (aV, .inl (cA, 12, .inl fV)), (aK, .inl (cA, 12, .inl fK))] (va_A [(h0, .inr (1, [.int (nI n), .int rg, .int st, .ref aV, .ref aW, .ref aR, .ref aP, .ref aK, .ref aL, .ref aQ])), (aV, .inl (cA, 12, .inl fV)), (aK, .inl (cA, 12, .inl fK))] sz) t) (va_A [(h0, .inr (1, [.int (nI n), .int rg, .int st, .ref aV, .ref aW, .ref aR, .ref aP, .ref aK, .ref aL, .ref aQ])), (aV, .inl (cA, 12, .inl fV)), (aK, .inl (cA, 12, .inl fK))] sz)) 0 0 (va_A [(h0, .inr (1, [.int (nI n), .int rg, .int st, .ref aV, .ref aW, .ref aR, .ref aP, .ref aK, .ref aL, .ref aQ])), (aV, .inl (cA, 12, .inl fV)), (aK, .inl (cA, 12, .inl fK))] sz) := by
  refine mk_met [.ref h0] (fun A => va_Qi (fun (r : Int32) (_ : Unit) => r = bP (agreeP fV fK n)) (fun (_ : Unit) t => We D [(cA, .int)] [(h0, .inr (1, [.int (nI n), .int rg, .int st, .ref aV, .ref aW, .ref aR, .ref aP, .ref aK, .ref aL, .ref aQ])), (aV, .inl (cA, 12, .inl fV)), (aK, .inl (cA, 12, .inl fK))] A t) A) (by decide) rfl (Nat.le_of_ble_eq_true rfl) ?_
  intro p e s m args below meth c A ls F hr hlocks hname hP hK hD hA hl
  have hx := F.1
  have hb := F.2.1
  have hml := F.2.2.1
  have hown := F.2.2.2.1
  have hts := F.2.2.2.2
  have hS : va_S A s.heap s.heap [] := va_S.rf
  have hl : lv_has ls 1 [(0, .ref h0)] := hl
  refine absQ (fun Q hQ => ?_)
  refine lv_aload_n hx hb dX1_isTreaty_0 rfl (lv_at hl 0 rfl) ?_
  refine lv_aload_n hx hb dX1_isTreaty_1 rfl (lv_at hl 0 rfl) ?_
  refine va_get (D := D) (ci := 1) (v := .ref aK) (C := RX1) (T := TX1) (N := 10) hx hb hts uX1_X1_isTreaty hown hK hP 0 rfl rfl 7 (by decide) (hts (.fieldLink RX1 32 "RopeChoices" "planks" "[I") (List.mem_of_getElem? (i := 1) rfl)) (fun _ h9 => h9) rfl dX1_isTreaty_2 ?_
  have hX_1 : Cut D A [(h0, .inr (1, [.int (nI n), .int rg, .int st, .ref aV, .ref aW, .ref aR, .ref aP, .ref aK, .ref aL, .ref aQ])), (aV, .inl (cA, 12, .inl fV)), (aK, .inl (cA, 12, .inl fK))] [(h0, .inr (1, [.int (nI n), .int rg, .int st, .ref aV, .ref aW, .ref aR, .ref aP, .ref aK, .ref aL, .ref aQ])), (aK, .inl (cA, 12, .inl fK)), (aV, .inl (cA, 12, .inl fV))] [] [(cA, .int)] [(cA, .int)] [0, 2, 1] [] [0] := ⟨rfl, rfl, rfl, rfl, by decide, rfl⟩
  refine ki hX_1 hP hD hS hA (kRunV (q := (RX1, TX1, 10)) (As := [.ref aK]) (rest := []) F (c_X1_agreesAt l D cA h0 n rg st aV aW aR aP aK aL aQ aK fK fV hn s.heap.size) (cwV 1 hts gX1_isTreaty_X1_agreesAt rfl rfl rfl (by decide +kernel) ⟨Nat.le_of_ble_eq_true rfl, Nat.le_of_ble_eq_true rfl⟩) hK hP hD hX_1 0 rfl rfl rfl hl.1 rfl (Nat.le_of_ble_eq_true rfl) dX1_isTreaty_5 ⟨Nat.le_of_ble_eq_true rfl, Nat.le_of_ble_eq_true rfl⟩) (fun r_2 u_3 H locs hw_4 hP hD hS => ?_)
  have hw_4 : r_2 = bP (agreeP fV fK n) := hw_4
  rw [hw_4]
  have hP : va_P D vwCl [(h0, .inr (1, [.int (nI n), .int rg, .int st, .ref aV, .ref aW, .ref aR, .ref aP, .ref aK, .ref aL, .ref aQ])), (aK, .inl (cA, 12, .inl fK)), (aV, .inl (cA, 12, .inl fV))] H := hP
  have hD : va_D A [(h0, .inr (1, [.int (nI n), .int rg, .int st, .ref aV, .ref aW, .ref aR, .ref aP, .ref aK, .ref aL, .ref aQ])), (aK, .inl (cA, 12, .inl fK)), (aV, .inl (cA, 12, .inl fV))] := hD
  refine useQ hQ ?_
  exact e_z (v := bP (agreeP fV fK n)) F hr hlocks hK hP hD hS [0, 2, 1] [0] () (by first | exact Or.inl rfl | exact Or.inr rfl | exact bP_01 _) rfl rfl rfl rfl (Nat.le_of_ble_eq_true rfl) (Nat.le_of_ble_eq_true rfl) dX1_isTreaty_8
theorem uX1_X1_compromise : ∀ w ∈ u_ws RX1 TX1 10, w ∈ wsX1_compromise := (fun _ h => List.mem_cons_of_mem _ (List.mem_append_left _ (List.mem_append_left _ (List.mem_append_right _ h))))
set_option maxHeartbeats 4000000 in
set_option maxRecDepth 100000 in
theorem c_X1_compromise (l : Launch) (hl0 : l.stackTraces = false) (D : va_G) (cA : ClassId) (h0 : Nat) (n : Nat) (rg : Int32) (st : Int32) (aV : Nat) (aW : Nat) (aR : Nat) (aP : Nat) (aK : Nat) (aL : Nat) (aQ : Nat) (fK : Nat → Int32) (aS : Nat) (lv : Int32) (fS : Nat → Int32) (hn : n ≤ 12) (sz : Nat) : vx_Met l yX1_compromise wsX1_compromise ({ frames := 7, cells := 1, slots := 6, locals := 110 } : Room) (va_Pc [.ref h0] (Wx D [(cA, .int)] [(h0, .inr (1, [.int (nI n), .int rg, .int st, .ref aV, .ref aW, .ref aR, .ref aP, .ref aK, .ref aL, .ref aQ])), (aK, .inl (cA, 12, .inl fK)), (aQ, .inr (0, [.ref aS, .int lv])), (aS, .inl (cA, 12, .inl fS))] sz)) (va_Qi (fun (r : Int32) (u : (Nat → Int32) × Int32) => n ≠ 0 ∧ r = midF fK n) (fun (u : (Nat → Int32) × Int32) t => We D [(cA, .int)] [(h0, .inr (1, [.int (nI n), .int rg, .int st, .ref aV, .ref aW, .ref aR, .ref aP, .ref aK, .ref aL, .ref aQ])), (aK, .inl (cA, 12, .inl fK)), (aQ, .inr (0, [.ref aS, .int u.2])), (aS, .inl (cA, 12, .inl u.1))] (va_A [(h0, .inr (1, [.int (nI n), .int rg, .int st, .ref aV, .ref aW, .ref aR, .ref aP, .ref aK, .ref aL, .ref aQ])), (aK, .inl (cA, 12, .inl fK)), (aQ, .inr (0, [.ref aS, .int lv])), (aS, .inl (cA, 12, .inl fS))] sz) t) (va_A [(h0, .inr (1, [.int (nI n), .int rg, .int st, .ref aV, .ref aW, .ref aR, .ref aP, .ref aK, .ref aL, .ref aQ])), (aK, .inl (cA, 12, .inl fK)), (aQ, .inr (0, [.ref aS, .int lv])), (aS, .inl (cA, 12, .inl fS))] sz)) (vx_X (fun (_ : Unit) => True) (fun (E : String) (xx : Unit) t => (E = "java/lang/IllegalStateException" ∧ n = 0) ∧ We D [(cA, .int)] [(h0, .inr (1, [.int (nI n), .int rg, .int st, .ref aV, .ref aW, .ref aR, .ref aP, .ref aK, .ref aL, .ref aQ])), (aK, .inl (cA, 12, .inl fK)), (aQ, .inr (0, [.ref aS, .int lv])), (aS, .inl (cA, 12, .inl fS))] (va_A [(h0, .inr (1, [.int (nI n), .int rg, .int st, .ref aV, .ref aW, .ref aR, .ref aP, .ref aK, .ref aL, .ref aQ])), (aK, .inl (cA, 12, .inl fK)), (aQ, .inr (0, [.ref aS, .int lv])), (aS, .inl (cA, 12, .inl fS))] sz) t) (va_A [(h0, .inr (1, [.int (nI n), .int rg, .int st, .ref aV, .ref aW, .ref aR, .ref aP, .ref aK, .ref aL, .ref aQ])), (aK, .inl (cA, 12, .inl fK)), (aQ, .inr (0, [.ref aS, .int lv])), (aS, .inl (cA, 12, .inl fS))] sz)) 1 6 (va_A [(h0, .inr (1, [.int (nI n), .int rg, .int st, .ref aV, .ref aW, .ref aR, .ref aP, .ref aK, .ref aL, .ref aQ])), (aK, .inl (cA, 12, .inl fK)), (aQ, .inr (0, [.ref aS, .int lv])), (aS, .inl (cA, 12, .inl fS))] sz) := by
  refine mk_vx [.ref h0] (fun A => va_Qi (fun (r : Int32) (u : (Nat → Int32) × Int32) => n ≠ 0 ∧ r = midF fK n) (fun (u : (Nat → Int32) × Int32) t => We D [(cA, .int)] [(h0, .inr (1, [.int (nI n), .int rg, .int st, .ref aV, .ref aW, .ref aR, .ref aP, .ref aK, .ref aL, .ref aQ])), (aK, .inl (cA, 12, .inl fK)), (aQ, .inr (0, [.ref aS, .int u.2])), (aS, .inl (cA, 12, .inl u.1))] A t) A) (fun A => vx_X (fun (_ : Unit) => True) (fun (E : String) (xx : Unit) t => (E = "java/lang/IllegalStateException" ∧ n = 0) ∧ We D [(cA, .int)] [(h0, .inr (1, [.int (nI n), .int rg, .int st, .ref aV, .ref aW, .ref aR, .ref aP, .ref aK, .ref aL, .ref aQ])), (aK, .inl (cA, 12, .inl fK)), (aQ, .inr (0, [.ref aS, .int lv])), (aS, .inl (cA, 12, .inl fS))] A t) A) (by decide) rfl (Nat.le_of_ble_eq_true rfl) ?_
  intro p e s m args below meth c A ls F hr hlocks hname hno hP hK hD hXE hA hl
  have hx := F.1
  have hb := F.2.1
  have hml := F.2.2.1
  have hown := F.2.2.2.1
  have hts := F.2.2.2.2
  have hS : va_S A s.heap s.heap [] := va_S.rf
  have hl : lv_has ls 1 [(0, .ref h0)] := hl
  refine absQ (fun Q hQ => ?_)
  refine lv_aload_n hx hb dX1_compromise_0 rfl (lv_at hl 0 rfl) ?_
  have hX_1 : Cut D A [(h0, .inr (1, [.int (nI n), .int rg, .int st, .ref aV, .ref aW, .ref aR, .ref aP, .ref aK, .ref aL, .ref aQ])), (aK, .inl (cA, 12, .inl fK)), (aQ, .inr (0, [.ref aS, .int lv])), (aS, .inl (cA, 12, .inl fS))] [(h0, .inr (1, [.int (nI n), .int rg, .int st, .ref aV, .ref aW, .ref aR, .ref aP, .ref aK, .ref aL, .ref aQ]))] [(aK, .inl (cA, 12, .inl fK)), (aQ, .inr (0, [.ref aS, .int lv])), (aS, .inl (cA, 12, .inl fS))] [(cA, .int)] [(cA, .int)] [0] [1, 2, 3] [0] := ⟨rfl, rfl, rfl, rfl, by decide, rfl⟩
  refine xv hX_1 hP hD hS hA (xRunV (q := (RX1, TX1, 10)) (As := []) (rest := []) F (c_X1_checkSomeoneThere l hl0 D cA h0 n rg st aV aW aR aP aK aL aQ hn s.heap.size) (cwV 0 hts gX1_compromise_X1_checkSomeoneThere rfl rfl rfl (by decide +kernel) ⟨Nat.le_of_ble_eq_true rfl, Nat.le_of_ble_eq_true rfl⟩) hK hP hD hS hA hXE hX_1 0 rfl rfl rfl hl.1 rfl (Nat.le_of_ble_eq_true rfl) dX1_compromise_1 ⟨Nat.le_of_ble_eq_true rfl, Nat.le_of_ble_eq_true rfl⟩) (fun E9 ce9 q9 u_3 H locs hw_4 hP hD hS hc9 hv9 hf9 => ?_) (fun u_3 H locs hw_4 hP hD hS => ?_)
  · skip
    have hP : va_P D vwCl [(aK, .inl (cA, 12, .inl fK)), (aQ, .inr (0, [.ref aS, .int lv])), (aS, .inl (cA, 12, .inl fS)), (h0, .inr (1, [.int (nI n), .int rg, .int st, .ref aV, .ref aW, .ref aR, .ref aP, .ref aK, .ref aL, .ref aQ]))] H := hP
    have hD : va_D A [(aK, .inl (cA, 12, .inl fK)), (aQ, .inr (0, [.ref aS, .int lv])), (aS, .inl (cA, 12, .inl fS)), (h0, .inr (1, [.int (nI n), .int rg, .int st, .ref aV, .ref aW, .ref aR, .ref aP, .ref aK, .ref aL, .ref aQ]))] := hD
    have hw_4 : E9 = "java/lang/IllegalStateException" ∧ n = 0 := hw_4
    refine uxQ hQ ?_
    exact x_out hno hlocks hK hP hD hS [3, 0, 1, 2] [0] () (hw_4) rfl rfl rfl hc9 hv9 hf9 (Nat.le_of_ble_eq_true rfl) (Nat.le_of_ble_eq_true rfl)
  · skip
    have hw_4 : n ≠ 0 := hw_4
    have hP : va_P D vwCl [(aK, .inl (cA, 12, .inl fK)), (aQ, .inr (0, [.ref aS, .int lv])), (aS, .inl (cA, 12, .inl fS)), (h0, .inr (1, [.int (nI n), .int rg, .int st, .ref aV, .ref aW, .ref aR, .ref aP, .ref aK, .ref aL, .ref aQ]))] H := hP
    have hD : va_D A [(aK, .inl (cA, 12, .inl fK)), (aQ, .inr (0, [.ref aS, .int lv])), (aS, .inl (cA, 12, .inl fS)), (h0, .inr (1, [.int (nI n), .int rg, .int st, .ref aV, .ref aW, .ref aR, .ref aP, .ref aK, .ref aL, .ref aQ]))] := hD
    have h1 := hw_4
    refine lv_aload_n hx hb dX1_compromise_4 rfl (lv_at hl 0 rfl) ?_
    refine lv_aload_n hx hb dX1_compromise_5 rfl (lv_at hl 0 rfl) ?_
    refine va_get (D := D) (ci := 1) (v := .ref aK) (C := RX1) (T := TX1) (N := 10) hx hb hts uX1_X1_compromise hown hK hP 3 rfl rfl 7 (by decide) (hts (.fieldLink RX1 32 "RopeChoices" "planks" "[I") (List.mem_of_getElem? (i := 1) rfl)) (fun _ h9 => h9) rfl dX1_compromise_6 ?_
    have hX_5 : Cut D A [(aK, .inl (cA, 12, .inl fK)), (aQ, .inr (0, [.ref aS, .int lv])), (aS, .inl (cA, 12, .inl fS)), (h0, .inr (1, [.int (nI n), .int rg, .int st, .ref aV, .ref aW, .ref aR, .ref aP, .ref aK, .ref aL, .ref aQ]))] [(h0, .inr (1, [.int (nI n), .int rg, .int st, .ref aV, .ref aW, .ref aR, .ref aP, .ref aK, .ref aL, .ref aQ])), (aK, .inl (cA, 12, .inl fK)), (aQ, .inr (0, [.ref aS, .int lv])), (aS, .inl (cA, 12, .inl fS))] [] [(cA, .int)] [(cA, .int)] [3, 0, 1, 2] [] [0] := ⟨rfl, rfl, rfl, rfl, by decide, rfl⟩
    refine ki hX_5 hP hD hS hA (kRunV (q := (RX1, TX1, 10)) (As := [.ref aK]) (rest := []) F (c_X1_middleOfAll l D cA h0 n rg st aV aW aR aP aK aL aQ aK fK aS lv fS hn H.size) (cwV 1 hts gX1_compromise_X1_middleOfAll rfl rfl rfl (by decide +kernel) ⟨Nat.le_of_ble_eq_true rfl, Nat.le_of_ble_eq_true rfl⟩) hK hP hD hX_5 3 rfl rfl rfl hl.1 rfl (Nat.le_of_ble_eq_true rfl) dX1_compromise_9 ⟨Nat.le_of_ble_eq_true rfl, Nat.le_of_ble_eq_true rfl⟩) (fun r_6 u_7 H locs hw_8 hP hD hS => ?_)
    have hw_8 : r_6 = midF fK n := hw_8
    rw [hw_8]
    have hP : va_P D vwCl [(h0, .inr (1, [.int (nI n), .int rg, .int st, .ref aV, .ref aW, .ref aR, .ref aP, .ref aK, .ref aL, .ref aQ])), (aK, .inl (cA, 12, .inl fK)), (aQ, .inr (0, [.ref aS, .int u_7.2])), (aS, .inl (cA, 12, .inl u_7.1))] H := hP
    have hD : va_D A [(h0, .inr (1, [.int (nI n), .int rg, .int st, .ref aV, .ref aW, .ref aR, .ref aP, .ref aK, .ref aL, .ref aQ])), (aK, .inl (cA, 12, .inl fK)), (aQ, .inr (0, [.ref aS, .int u_7.2])), (aS, .inl (cA, 12, .inl u_7.1))] := hD
    refine useQ hQ (vx_ret ?_)
    exact e_i (v := midF fK n) F hr hlocks hK hP hD hS [0, 1, 2, 3] [0] (u_7.1, u_7.2) (⟨h1, rfl⟩) rfl rfl rfl (Nat.le_of_ble_eq_true rfl) (Nat.le_of_ble_eq_true rfl) dX1_compromise_12
theorem uX1_X1_compromiseOf : ∀ w ∈ u_ws RX1 TX1 10, w ∈ wsX1_compromiseOf := (fun _ h => List.mem_cons_of_mem _ (List.mem_append_left _ (List.mem_append_left _ (List.mem_append_left _ (List.mem_append_right _ h)))))
set_option maxHeartbeats 4000000 in
set_option maxRecDepth 100000 in
theorem c_X1_compromiseOf (l : Launch) (hl0 : l.stackTraces = false) (D : va_G) (cA : ClassId) (h0 : Nat) (n : Nat) (rg : Int32) (st : Int32) (aV : Nat) (aW : Nat) (aR : Nat) (aP : Nat) (aK : Nat) (aL : Nat) (aQ : Nat) (fV : Nat → Int32) (fK : Nat → Int32) (aS : Nat) (lv : Int32) (fS : Nat → Int32) (v : Int32) (hn : n ≤ 12) (sz : Nat) : vx_Met l yX1_compromiseOf wsX1_compromiseOf ({ frames := 7, cells := 2, slots := 12, locals := 110 } : Room) (va_Pc [.ref h0, .int v] (Wx D [(cA, .int)] [(h0, .inr (1, [.int (nI n), .int rg, .int st, .ref aV, .ref aW, .ref aR, .ref aP, .ref aK, .ref aL, .ref aQ])), (aV, .inl (cA, 12, .inl fV)), (aK, .inl (cA, 12, .inl fK)), (aQ, .inr (0, [.ref aS, .int lv])), (aS, .inl (cA, 12, .inl fS))] sz)) (va_Qi (fun (r : Int32) (u : (Nat → Int32) × Int32) => cd2 (¬ okD 5 v) (tot (selV fV v) n = 0) = 0 ∧ r = medF fK (selV fV v) n) (fun (u : (Nat → Int32) × Int32) t => We D [(cA, .int)] [(h0, .inr (1, [.int (nI n), .int rg, .int st, .ref aV, .ref aW, .ref aR, .ref aP, .ref aK, .ref aL, .ref aQ])), (aV, .inl (cA, 12, .inl fV)), (aK, .inl (cA, 12, .inl fK)), (aQ, .inr (0, [.ref aS, .int u.2])), (aS, .inl (cA, 12, .inl u.1))] (va_A [(h0, .inr (1, [.int (nI n), .int rg, .int st, .ref aV, .ref aW, .ref aR, .ref aP, .ref aK, .ref aL, .ref aQ])), (aV, .inl (cA, 12, .inl fV)), (aK, .inl (cA, 12, .inl fK)), (aQ, .inr (0, [.ref aS, .int lv])), (aS, .inl (cA, 12, .inl fS))] sz) t) (va_A [(h0, .inr (1, [.int (nI n), .int rg, .int st, .ref aV, .ref aW, .ref aR, .ref aP, .ref aK, .ref aL, .ref aQ])), (aV, .inl (cA, 12, .inl fV)), (aK, .inl (cA, 12, .inl fK)), (aQ, .inr (0, [.ref aS, .int lv])), (aS, .inl (cA, 12, .inl fS))] sz)) (vx_X (fun (_ : (Nat → Int32) × Int32) => True) (fun (E : String) (xx : (Nat → Int32) × Int32) t => ((E = "java/lang/IndexOutOfBoundsException" ∧ cd2 (¬ okD 5 v) (tot (selV fV v) n = 0) = 1) ∨ (E = "java/lang/IllegalStateException" ∧ cd2 (¬ okD 5 v) (tot (selV fV v) n = 0) = 2)) ∧ We D [(cA, .int)] [(h0, .inr (1, [.int (nI n), .int rg, .int st, .ref aV, .ref aW, .ref aR, .ref aP, .ref aK, .ref aL, .ref aQ])), (aV, .inl (cA, 12, .inl fV)), (aK, .inl (cA, 12, .inl fK)), (aQ, .inr (0, [.ref aS, .int xx.2])), (aS, .inl (cA, 12, .inl xx.1))] (va_A [(h0, .inr (1, [.int (nI n), .int rg, .int st, .ref aV, .ref aW, .ref aR, .ref aP, .ref aK, .ref aL, .ref aQ])), (aV, .inl (cA, 12, .inl fV)), (aK, .inl (cA, 12, .inl fK)), (aQ, .inr (0, [.ref aS, .int lv])), (aS, .inl (cA, 12, .inl fS))] sz) t) (va_A [(h0, .inr (1, [.int (nI n), .int rg, .int st, .ref aV, .ref aW, .ref aR, .ref aP, .ref aK, .ref aL, .ref aQ])), (aV, .inl (cA, 12, .inl fV)), (aK, .inl (cA, 12, .inl fK)), (aQ, .inr (0, [.ref aS, .int lv])), (aS, .inl (cA, 12, .inl fS))] sz)) 2 12 (va_A [(h0, .inr (1, [.int (nI n), .int rg, .int st, .ref aV, .ref aW, .ref aR, .ref aP, .ref aK, .ref aL, .ref aQ])), (aV, .inl (cA, 12, .inl fV)), (aK, .inl (cA, 12, .inl fK)), (aQ, .inr (0, [.ref aS, .int lv])), (aS, .inl (cA, 12, .inl fS))] sz) := by
  refine mk_vx [.ref h0, .int v] (fun A => va_Qi (fun (r : Int32) (u : (Nat → Int32) × Int32) => cd2 (¬ okD 5 v) (tot (selV fV v) n = 0) = 0 ∧ r = medF fK (selV fV v) n) (fun (u : (Nat → Int32) × Int32) t => We D [(cA, .int)] [(h0, .inr (1, [.int (nI n), .int rg, .int st, .ref aV, .ref aW, .ref aR, .ref aP, .ref aK, .ref aL, .ref aQ])), (aV, .inl (cA, 12, .inl fV)), (aK, .inl (cA, 12, .inl fK)), (aQ, .inr (0, [.ref aS, .int u.2])), (aS, .inl (cA, 12, .inl u.1))] A t) A) (fun A => vx_X (fun (_ : (Nat → Int32) × Int32) => True) (fun (E : String) (xx : (Nat → Int32) × Int32) t => ((E = "java/lang/IndexOutOfBoundsException" ∧ cd2 (¬ okD 5 v) (tot (selV fV v) n = 0) = 1) ∨ (E = "java/lang/IllegalStateException" ∧ cd2 (¬ okD 5 v) (tot (selV fV v) n = 0) = 2)) ∧ We D [(cA, .int)] [(h0, .inr (1, [.int (nI n), .int rg, .int st, .ref aV, .ref aW, .ref aR, .ref aP, .ref aK, .ref aL, .ref aQ])), (aV, .inl (cA, 12, .inl fV)), (aK, .inl (cA, 12, .inl fK)), (aQ, .inr (0, [.ref aS, .int xx.2])), (aS, .inl (cA, 12, .inl xx.1))] A t) A) (by decide) rfl (Nat.le_of_ble_eq_true rfl) ?_
  intro p e s m args below meth c A ls F hr hlocks hname hno hP hK hD hXE hA hl
  have hx := F.1
  have hb := F.2.1
  have hml := F.2.2.1
  have hown := F.2.2.2.1
  have hts := F.2.2.2.2
  have hS : va_S A s.heap s.heap [] := va_S.rf
  have hl : lv_has ls 2 [(0, .ref h0), (1, .int v)] := hl
  refine absQ (fun Q hQ => ?_)
  refine lv_iload_n hx hb dX1_compromiseOf_0 rfl (lv_at hl 1 rfl) ?_
  have hX_1 : Cut D A [(h0, .inr (1, [.int (nI n), .int rg, .int st, .ref aV, .ref aW, .ref aR, .ref aP, .ref aK, .ref aL, .ref aQ])), (aV, .inl (cA, 12, .inl fV)), (aK, .inl (cA, 12, .inl fK)), (aQ, .inr (0, [.ref aS, .int lv])), (aS, .inl (cA, 12, .inl fS))] [] [(h0, .inr (1, [.int (nI n), .int rg, .int st, .ref aV, .ref aW, .ref aR, .ref aP, .ref aK, .ref aL, .ref aQ])), (aV, .inl (cA, 12, .inl fV)), (aK, .inl (cA, 12, .inl fK)), (aQ, .inr (0, [.ref aS, .int lv])), (aS, .inl (cA, 12, .inl fS))] [(cA, .int)] [] [] [0, 1, 2, 3, 4] [] := ⟨rfl, rfl, rfl, rfl, by decide, rfl⟩
  refine xv hX_1 hP hD hS hA (xRunS (As := [.int v]) (rest := []) F (c_X1_checkVillage l hl0 D v s.heap.size) (va_cwS 1 hts gX1_compromiseOf_X1_checkVillage rfl rfl rfl (by decide +kernel) ⟨Nat.le_of_ble_eq_true rfl, Nat.le_of_ble_eq_true rfl⟩) hK hP hD hS hA hXE hX_1 rfl hl.1 rfl (Nat.le_of_ble_eq_true rfl) dX1_compromiseOf_1 ⟨Nat.le_of_ble_eq_true rfl, Nat.le_of_ble_eq_true rfl⟩) (fun E9 ce9 q9 u_3 H locs hw_4 hP hD hS hc9 hv9 hf9 => ?_) (fun u_3 H locs hw_4 hP hD hS => ?_)
  · skip
    have hP : va_P D vwCl [(h0, .inr (1, [.int (nI n), .int rg, .int st, .ref aV, .ref aW, .ref aR, .ref aP, .ref aK, .ref aL, .ref aQ])), (aV, .inl (cA, 12, .inl fV)), (aK, .inl (cA, 12, .inl fK)), (aQ, .inr (0, [.ref aS, .int lv])), (aS, .inl (cA, 12, .inl fS))] H := hP
    have hD : va_D A [(h0, .inr (1, [.int (nI n), .int rg, .int st, .ref aV, .ref aW, .ref aR, .ref aP, .ref aK, .ref aL, .ref aQ])), (aV, .inl (cA, 12, .inl fV)), (aK, .inl (cA, 12, .inl fK)), (aQ, .inr (0, [.ref aS, .int lv])), (aS, .inl (cA, 12, .inl fS))] := hD
    have hw_4 : E9 = "java/lang/IndexOutOfBoundsException" ∧ ¬ okD 5 v := hw_4
    refine uxQ hQ ?_
    exact x_out hno hlocks hK hP hD hS [0, 1, 2, 3, 4] [0] (fS, lv) (Or.inl ⟨hw_4.1, cd2_1 hw_4.2⟩) rfl rfl rfl hc9 hv9 hf9 (Nat.le_of_ble_eq_true rfl) (Nat.le_of_ble_eq_true rfl)
  · skip
    have hw_4 : okD 5 v := hw_4
    have hP : va_P D vwCl [(h0, .inr (1, [.int (nI n), .int rg, .int st, .ref aV, .ref aW, .ref aR, .ref aP, .ref aK, .ref aL, .ref aQ])), (aV, .inl (cA, 12, .inl fV)), (aK, .inl (cA, 12, .inl fK)), (aQ, .inr (0, [.ref aS, .int lv])), (aS, .inl (cA, 12, .inl fS))] H := hP
    have hD : va_D A [(h0, .inr (1, [.int (nI n), .int rg, .int st, .ref aV, .ref aW, .ref aR, .ref aP, .ref aK, .ref aL, .ref aQ])), (aV, .inl (cA, 12, .inl fV)), (aK, .inl (cA, 12, .inl fK)), (aQ, .inr (0, [.ref aS, .int lv])), (aS, .inl (cA, 12, .inl fS))] := hD
    have h1 := hw_4
    refine lv_aload_n hx hb dX1_compromiseOf_4 rfl (lv_at hl 0 rfl) ?_
    refine lv_iload_n hx hb dX1_compromiseOf_5 rfl (lv_at hl 1 rfl) ?_
    have hX_5 : Cut D A [(h0, .inr (1, [.int (nI n), .int rg, .int st, .ref aV, .ref aW, .ref aR, .ref aP, .ref aK, .ref aL, .ref aQ])), (aV, .inl (cA, 12, .inl fV)), (aK, .inl (cA, 12, .inl fK)), (aQ, .inr (0, [.ref aS, .int lv])), (aS, .inl (cA, 12, .inl fS))] [(h0, .inr (1, [.int (nI n), .int rg, .int st, .ref aV, .ref aW, .ref aR, .ref aP, .ref aK, .ref aL, .ref aQ])), (aV, .inl (cA, 12, .inl fV)), (aK, .inl (cA, 12, .inl fK)), (aQ, .inr (0, [.ref aS, .int lv])), (aS, .inl (cA, 12, .inl fS))] [] [(cA, .int)] [(cA, .int)] [0, 1, 2, 3, 4] [] [0] := ⟨rfl, rfl, rfl, rfl, by decide, rfl⟩
    refine kv hX_5 hP hD hS hA (kRunV (q := (RX1, TX1, 10)) (As := [.int v]) (rest := []) F (c_X1_gatherVillage l D cA h0 n rg st aV aW aR aP aK aL aQ fV fK aS lv fS v hn H.size) (cwV 1 hts gX1_compromiseOf_X1_gatherVillage rfl rfl rfl (by decide +kernel) ⟨Nat.le_of_ble_eq_true rfl, Nat.le_of_ble_eq_true rfl⟩) hK hP hD hX_5 0 rfl rfl rfl hl.1 rfl (Nat.le_of_ble_eq_true rfl) dX1_compromiseOf_6 ⟨Nat.le_of_ble_eq_true rfl, Nat.le_of_ble_eq_true rfl⟩) (fun u_7 H locs hw_8 hP hD hS => ?_)
    have hw_8 : RowOf u_7.1 u_7.2 fK (selV fV v) n := hw_8
    have hP : va_P D vwCl [(h0, .inr (1, [.int (nI n), .int rg, .int st, .ref aV, .ref aW, .ref aR, .ref aP, .ref aK, .ref aL, .ref aQ])), (aV, .inl (cA, 12, .inl fV)), (aK, .inl (cA, 12, .inl fK)), (aQ, .inr (0, [.ref aS, .int (nI u_7.2)])), (aS, .inl (cA, 12, .inl u_7.1))] H := hP
    have hD : va_D A [(h0, .inr (1, [.int (nI n), .int rg, .int st, .ref aV, .ref aW, .ref aR, .ref aP, .ref aK, .ref aL, .ref aQ])), (aV, .inl (cA, 12, .inl fV)), (aK, .inl (cA, 12, .inl fK)), (aQ, .inr (0, [.ref aS, .int (nI u_7.2)])), (aS, .inl (cA, 12, .inl u_7.1))] := hD
    have hRow := hw_8
    have hle : u_7.2 ≤ n := by rw [hRow.2.1]; exact tot_le _ _
    refine lv_aload_n hx hb dX1_compromiseOf_9 rfl (lv_at hl 0 rfl) ?_
    refine va_get (D := D) (ci := 1) (v := .ref aQ) (C := RX1) (T := TX1) (N := 10) hx hb hts uX1_X1_compromiseOf hown hK hP 0 rfl rfl 9 (by decide) (hts (.fieldLink RX1 41 "RopeChoices" "row" "LRopeChoices$PlankRow;") (List.mem_of_getElem? (i := 3) rfl)) (fun _ h9 => h9) rfl dX1_compromiseOf_10 ?_
    have hX_9 : Cut D A [(h0, .inr (1, [.int (nI n), .int rg, .int st, .ref aV, .ref aW, .ref aR, .ref aP, .ref aK, .ref aL, .ref aQ])), (aV, .inl (cA, 12, .inl fV)), (aK, .inl (cA, 12, .inl fK)), (aQ, .inr (0, [.ref aS, .int (nI u_7.2)])), (aS, .inl (cA, 12, .inl u_7.1))] [(aQ, .inr (0, [.ref aS, .int (nI u_7.2)])), (aS, .inl (cA, 12, .inl u_7.1))] [(h0, .inr (1, [.int (nI n), .int rg, .int st, .ref aV, .ref aW, .ref aR, .ref aP, .ref aK, .ref aL, .ref aQ])), (aV, .inl (cA, 12, .inl fV)), (aK, .inl (cA, 12, .inl fK))] [(cA, .int)] [(cA, .int)] [3, 4] [0, 1, 2] [0] := ⟨rfl, rfl, rfl, rfl, by decide, rfl⟩
    refine ki hX_9 hP hD hS hA (kRunV (q := (RX0, TX0, 2)) (As := []) (rest := []) F (c_X0_isBare l D cA aQ aS u_7.2 u_7.1 (by omega) H.size) (cwV 0 hts gX1_compromiseOf_X0_isBare rfl rfl rfl (by decide +kernel) ⟨Nat.le_of_ble_eq_true rfl, Nat.le_of_ble_eq_true rfl⟩) hK hP hD hX_9 3 rfl rfl rfl hl.1 rfl (Nat.le_of_ble_eq_true rfl) dX1_compromiseOf_13 ⟨Nat.le_of_ble_eq_true rfl, Nat.le_of_ble_eq_true rfl⟩) (fun r_10 u_11 H locs hw_12 hP hD hS => ?_)
    have hw_12 : r_10 = bP (u_7.2 = 0) := hw_12
    rw [hw_12]
    have hP : va_P D vwCl [(h0, .inr (1, [.int (nI n), .int rg, .int st, .ref aV, .ref aW, .ref aR, .ref aP, .ref aK, .ref aL, .ref aQ])), (aV, .inl (cA, 12, .inl fV)), (aK, .inl (cA, 12, .inl fK)), (aQ, .inr (0, [.ref aS, .int (nI u_7.2)])), (aS, .inl (cA, 12, .inl u_7.1))] H := hP
    have hD : va_D A [(h0, .inr (1, [.int (nI n), .int rg, .int st, .ref aV, .ref aW, .ref aR, .ref aP, .ref aK, .ref aL, .ref aQ])), (aV, .inl (cA, 12, .inl fV)), (aK, .inl (cA, 12, .inl fK)), (aQ, .inr (0, [.ref aS, .int (nI u_7.2)])), (aS, .inl (cA, 12, .inl u_7.1))] := hD
    refine lv_if_eq (tgt := 29) hx hb dX1_compromiseOf_16 (by decide) (fun c_16 => ?_) (fun c_16 => ?_)
    · skip
      refine lv_aload_n hx hb dX1_compromiseOf_29 rfl (lv_at hl 0 rfl) ?_
      refine va_get (D := D) (ci := 1) (v := .ref aQ) (C := RX1) (T := TX1) (N := 10) hx hb hts uX1_X1_compromiseOf hown hK hP 0 rfl rfl 9 (by decide) (hts (.fieldLink RX1 41 "RopeChoices" "row" "LRopeChoices$PlankRow;") (List.mem_of_getElem? (i := 3) rfl)) (fun _ h9 => h9) rfl dX1_compromiseOf_30 ?_
      have hX_13 : Cut D A [(h0, .inr (1, [.int (nI n), .int rg, .int st, .ref aV, .ref aW, .ref aR, .ref aP, .ref aK, .ref aL, .ref aQ])), (aV, .inl (cA, 12, .inl fV)), (aK, .inl (cA, 12, .inl fK)), (aQ, .inr (0, [.ref aS, .int (nI u_7.2)])), (aS, .inl (cA, 12, .inl u_7.1))] [(aQ, .inr (0, [.ref aS, .int (nI u_7.2)])), (aS, .inl (cA, 12, .inl u_7.1))] [(h0, .inr (1, [.int (nI n), .int rg, .int st, .ref aV, .ref aW, .ref aR, .ref aP, .ref aK, .ref aL, .ref aQ])), (aV, .inl (cA, 12, .inl fV)), (aK, .inl (cA, 12, .inl fK))] [(cA, .int)] [(cA, .int)] [3, 4] [0, 1, 2] [0] := ⟨rfl, rfl, rfl, rfl, by decide, rfl⟩
      refine ki hX_13 hP hD hS hA (kRunV (q := (RX0, TX0, 2)) (As := []) (rest := []) F (c_X0_middle l D cA aQ aS u_7.2 u_7.1 (by omega) H.size) (cwV 0 hts gX1_compromiseOf_X0_middle rfl rfl rfl (by decide +kernel) ⟨Nat.le_of_ble_eq_true rfl, Nat.le_of_ble_eq_true rfl⟩) hK hP hD hX_13 3 rfl rfl rfl hl.1 rfl (Nat.le_of_ble_eq_true rfl) dX1_compromiseOf_33 ⟨Nat.le_of_ble_eq_true rfl, Nat.le_of_ble_eq_true rfl⟩) (fun r_14 u_15 H locs hw_16 hP hD hS => ?_)
      have hw_16 : r_14 = midRow u_7.1 u_7.2 := hw_16
      rw [hw_16]
      have hP : va_P D vwCl [(h0, .inr (1, [.int (nI n), .int rg, .int st, .ref aV, .ref aW, .ref aR, .ref aP, .ref aK, .ref aL, .ref aQ])), (aV, .inl (cA, 12, .inl fV)), (aK, .inl (cA, 12, .inl fK)), (aQ, .inr (0, [.ref aS, .int (nI u_7.2)])), (aS, .inl (cA, 12, .inl u_7.1))] H := hP
      have hD : va_D A [(h0, .inr (1, [.int (nI n), .int rg, .int st, .ref aV, .ref aW, .ref aR, .ref aP, .ref aK, .ref aL, .ref aQ])), (aV, .inl (cA, 12, .inl fV)), (aK, .inl (cA, 12, .inl fK)), (aQ, .inr (0, [.ref aS, .int (nI u_7.2)])), (aS, .inl (cA, 12, .inl u_7.1))] := hD
      refine useQ hQ (vx_ret ?_)
      exact e_i (v := midRow u_7.1 u_7.2) F hr hlocks hK hP hD hS [0, 1, 2, 3, 4] [0] (u_7.1, nI u_7.2) (⟨cd2_0 (not_not_intro h1) (fun z => bP_eq c_16 (hRow.2.1.trans z)), med_of hRow (bP_eq c_16)⟩) rfl rfl rfl (Nat.le_of_ble_eq_true rfl) (Nat.le_of_ble_eq_true rfl) dX1_compromiseOf_36
    · skip
      refine useQ hQ ?_
      exact x_throw (cls := "java/lang/IllegalStateException") F hl0 hno hlocks hK hP hD hS hXE hl.1 (by decide +kernel) (hts (.classLink RX1 56 "java/lang/IllegalStateException") (List.mem_of_getElem? (i := 1) rfl)) (hts (.initialized "java/lang/IllegalStateException") (List.mem_of_getElem? (i := 2) rfl)) (xstr_121) (fun w9 h9 => hts w9 ((fun _ h => List.mem_cons_of_mem _ (List.mem_append_left _ (List.mem_append_right _ h))) w9 h9)) (by decide) xg_ise xo_ise dX1_compromiseOf_19 dX1_compromiseOf_22 dX1_compromiseOf_23 dX1_compromiseOf_25 dX1_compromiseOf_28 (Nat.le_of_ble_eq_true rfl) (Nat.le_of_ble_eq_true rfl) (Nat.le_of_ble_eq_true rfl) (Nat.le_of_ble_eq_true rfl) [0, 1, 2, 3, 4] [0] (u_7.1, nI u_7.2) (Or.inr ⟨rfl, cd2_2 (not_not_intro h1) (hRow.2.1.symm.trans (bP_ne c_16))⟩) rfl rfl rfl (Nat.le_of_ble_eq_true rfl) (Nat.le_of_ble_eq_true rfl)
theorem uX1_X1_compromiseWithout : ∀ w ∈ u_ws RX1 TX1 10, w ∈ wsX1_compromiseWithout := (fun _ h => List.mem_cons_of_mem _ (List.mem_append_left _ (List.mem_append_left _ (List.mem_append_left _ (List.mem_append_right _ h)))))
set_option maxHeartbeats 4000000 in
set_option maxRecDepth 100000 in
theorem c_X1_compromiseWithout (l : Launch) (hl0 : l.stackTraces = false) (D : va_G) (cA : ClassId) (h0 : Nat) (n : Nat) (rg : Int32) (st : Int32) (aV : Nat) (aW : Nat) (aR : Nat) (aP : Nat) (aK : Nat) (aL : Nat) (aQ : Nat) (fK : Nat → Int32) (aS : Nat) (lv : Int32) (fS : Nat → Int32) (d : Int32) (hn : n ≤ 12) (sz : Nat) : vx_Met l yX1_compromiseWithout wsX1_compromiseWithout ({ frames := 7, cells := 2, slots := 12, locals := 111 } : Room) (va_Pc [.ref h0, .int d] (Wx D [(cA, .int)] [(h0, .inr (1, [.int (nI n), .int rg, .int st, .ref aV, .ref aW, .ref aR, .ref aP, .ref aK, .ref aL, .ref aQ])), (aK, .inl (cA, 12, .inl fK)), (aQ, .inr (0, [.ref aS, .int lv])), (aS, .inl (cA, 12, .inl fS))] sz)) (va_Qi (fun (r : Int32) (u : (Nat → Int32) × Int32) => cd2 (¬ okD n d) (n = 1) = 0 ∧ r = medF fK (selX (dN d)) n) (fun (u : (Nat → Int32) × Int32) t => We D [(cA, .int)] [(h0, .inr (1, [.int (nI n), .int rg, .int st, .ref aV, .ref aW, .ref aR, .ref aP, .ref aK, .ref aL, .ref aQ])), (aK, .inl (cA, 12, .inl fK)), (aQ, .inr (0, [.ref aS, .int u.2])), (aS, .inl (cA, 12, .inl u.1))] (va_A [(h0, .inr (1, [.int (nI n), .int rg, .int st, .ref aV, .ref aW, .ref aR, .ref aP, .ref aK, .ref aL, .ref aQ])), (aK, .inl (cA, 12, .inl fK)), (aQ, .inr (0, [.ref aS, .int lv])), (aS, .inl (cA, 12, .inl fS))] sz) t) (va_A [(h0, .inr (1, [.int (nI n), .int rg, .int st, .ref aV, .ref aW, .ref aR, .ref aP, .ref aK, .ref aL, .ref aQ])), (aK, .inl (cA, 12, .inl fK)), (aQ, .inr (0, [.ref aS, .int lv])), (aS, .inl (cA, 12, .inl fS))] sz)) (vx_X (fun (_ : (Nat → Int32) × Int32) => True) (fun (E : String) (xx : (Nat → Int32) × Int32) t => ((E = "java/lang/IndexOutOfBoundsException" ∧ cd2 (¬ okD n d) (n = 1) = 1) ∨ (E = "java/lang/IllegalStateException" ∧ cd2 (¬ okD n d) (n = 1) = 2)) ∧ We D [(cA, .int)] [(h0, .inr (1, [.int (nI n), .int rg, .int st, .ref aV, .ref aW, .ref aR, .ref aP, .ref aK, .ref aL, .ref aQ])), (aK, .inl (cA, 12, .inl fK)), (aQ, .inr (0, [.ref aS, .int xx.2])), (aS, .inl (cA, 12, .inl xx.1))] (va_A [(h0, .inr (1, [.int (nI n), .int rg, .int st, .ref aV, .ref aW, .ref aR, .ref aP, .ref aK, .ref aL, .ref aQ])), (aK, .inl (cA, 12, .inl fK)), (aQ, .inr (0, [.ref aS, .int lv])), (aS, .inl (cA, 12, .inl fS))] sz) t) (va_A [(h0, .inr (1, [.int (nI n), .int rg, .int st, .ref aV, .ref aW, .ref aR, .ref aP, .ref aK, .ref aL, .ref aQ])), (aK, .inl (cA, 12, .inl fK)), (aQ, .inr (0, [.ref aS, .int lv])), (aS, .inl (cA, 12, .inl fS))] sz)) 2 12 (va_A [(h0, .inr (1, [.int (nI n), .int rg, .int st, .ref aV, .ref aW, .ref aR, .ref aP, .ref aK, .ref aL, .ref aQ])), (aK, .inl (cA, 12, .inl fK)), (aQ, .inr (0, [.ref aS, .int lv])), (aS, .inl (cA, 12, .inl fS))] sz) := by
  refine mk_vx [.ref h0, .int d] (fun A => va_Qi (fun (r : Int32) (u : (Nat → Int32) × Int32) => cd2 (¬ okD n d) (n = 1) = 0 ∧ r = medF fK (selX (dN d)) n) (fun (u : (Nat → Int32) × Int32) t => We D [(cA, .int)] [(h0, .inr (1, [.int (nI n), .int rg, .int st, .ref aV, .ref aW, .ref aR, .ref aP, .ref aK, .ref aL, .ref aQ])), (aK, .inl (cA, 12, .inl fK)), (aQ, .inr (0, [.ref aS, .int u.2])), (aS, .inl (cA, 12, .inl u.1))] A t) A) (fun A => vx_X (fun (_ : (Nat → Int32) × Int32) => True) (fun (E : String) (xx : (Nat → Int32) × Int32) t => ((E = "java/lang/IndexOutOfBoundsException" ∧ cd2 (¬ okD n d) (n = 1) = 1) ∨ (E = "java/lang/IllegalStateException" ∧ cd2 (¬ okD n d) (n = 1) = 2)) ∧ We D [(cA, .int)] [(h0, .inr (1, [.int (nI n), .int rg, .int st, .ref aV, .ref aW, .ref aR, .ref aP, .ref aK, .ref aL, .ref aQ])), (aK, .inl (cA, 12, .inl fK)), (aQ, .inr (0, [.ref aS, .int xx.2])), (aS, .inl (cA, 12, .inl xx.1))] A t) A) (by decide) rfl (Nat.le_of_ble_eq_true rfl) ?_
  intro p e s m args below meth c A ls F hr hlocks hname hno hP hK hD hXE hA hl
  have hx := F.1
  have hb := F.2.1
  have hml := F.2.2.1
  have hown := F.2.2.2.1
  have hts := F.2.2.2.2
  have hS : va_S A s.heap s.heap [] := va_S.rf
  have hl : lv_has ls 2 [(0, .ref h0), (1, .int d)] := hl
  refine absQ (fun Q hQ => ?_)
  refine lv_aload_n hx hb dX1_compromiseWithout_0 rfl (lv_at hl 0 rfl) ?_
  refine lv_iload_n hx hb dX1_compromiseWithout_1 rfl (lv_at hl 1 rfl) ?_
  have hX_1 : Cut D A [(h0, .inr (1, [.int (nI n), .int rg, .int st, .ref aV, .ref aW, .ref aR, .ref aP, .ref aK, .ref aL, .ref aQ])), (aK, .inl (cA, 12, .inl fK)), (aQ, .inr (0, [.ref aS, .int lv])), (aS, .inl (cA, 12, .inl fS))] [(h0, .inr (1, [.int (nI n), .int rg, .int st, .ref aV, .ref aW, .ref aR, .ref aP, .ref aK, .ref aL, .ref aQ]))] [(aK, .inl (cA, 12, .inl fK)), (aQ, .inr (0, [.ref aS, .int lv])), (aS, .inl (cA, 12, .inl fS))] [(cA, .int)] [(cA, .int)] [0] [1, 2, 3] [0] := ⟨rfl, rfl, rfl, rfl, by decide, rfl⟩
  refine xv hX_1 hP hD hS hA (xRunV (q := (RX1, TX1, 10)) (As := [.int d]) (rest := []) F (c_X1_checkDelegate l hl0 D cA h0 n rg st aV aW aR aP aK aL aQ d hn s.heap.size) (cwV 1 hts gX1_compromiseWithout_X1_checkDelegate rfl rfl rfl (by decide +kernel) ⟨Nat.le_of_ble_eq_true rfl, Nat.le_of_ble_eq_true rfl⟩) hK hP hD hS hA hXE hX_1 0 rfl rfl rfl hl.1 rfl (Nat.le_of_ble_eq_true rfl) dX1_compromiseWithout_2 ⟨Nat.le_of_ble_eq_true rfl, Nat.le_of_ble_eq_true rfl⟩) (fun E9 ce9 q9 u_3 H locs hw_4 hP hD hS hc9 hv9 hf9 => ?_) (fun u_3 H locs hw_4 hP hD hS => ?_)
  · skip
    have hP : va_P D vwCl [(aK, .inl (cA, 12, .inl fK)), (aQ, .inr (0, [.ref aS, .int lv])), (aS, .inl (cA, 12, .inl fS)), (h0, .inr (1, [.int (nI n), .int rg, .int st, .ref aV, .ref aW, .ref aR, .ref aP, .ref aK, .ref aL, .ref aQ]))] H := hP
    have hD : va_D A [(aK, .inl (cA, 12, .inl fK)), (aQ, .inr (0, [.ref aS, .int lv])), (aS, .inl (cA, 12, .inl fS)), (h0, .inr (1, [.int (nI n), .int rg, .int st, .ref aV, .ref aW, .ref aR, .ref aP, .ref aK, .ref aL, .ref aQ]))] := hD
    have hw_4 : E9 = "java/lang/IndexOutOfBoundsException" ∧ ¬ okD n d := hw_4
    refine uxQ hQ ?_
    exact x_out hno hlocks hK hP hD hS [3, 0, 1, 2] [0] (fS, lv) (Or.inl ⟨hw_4.1, cd2_1 hw_4.2⟩) rfl rfl rfl hc9 hv9 hf9 (Nat.le_of_ble_eq_true rfl) (Nat.le_of_ble_eq_true rfl)
  · skip
    have hw_4 : okD n d := hw_4
    have hP : va_P D vwCl [(aK, .inl (cA, 12, .inl fK)), (aQ, .inr (0, [.ref aS, .int lv])), (aS, .inl (cA, 12, .inl fS)), (h0, .inr (1, [.int (nI n), .int rg, .int st, .ref aV, .ref aW, .ref aR, .ref aP, .ref aK, .ref aL, .ref aQ]))] H := hP
    have hD : va_D A [(aK, .inl (cA, 12, .inl fK)), (aQ, .inr (0, [.ref aS, .int lv])), (aS, .inl (cA, 12, .inl fS)), (h0, .inr (1, [.int (nI n), .int rg, .int st, .ref aV, .ref aW, .ref aR, .ref aP, .ref aK, .ref aL, .ref aQ]))] := hD
    obtain ⟨j, hj, hd9⟩ := hw_4
    subst hd9
    have hD9 : okD n (nI j) := ⟨j, hj, rfl⟩
    have hdn : dN (nI j) = j := dN_nI (by omega)
    refine lv_aload_n hx hb dX1_compromiseWithout_5 rfl (lv_at hl 0 rfl) ?_
    refine lv_iload_n hx hb dX1_compromiseWithout_6 rfl (lv_at hl 1 rfl) ?_
    have hX_5 : Cut D A [(aK, .inl (cA, 12, .inl fK)), (aQ, .inr (0, [.ref aS, .int lv])), (aS, .inl (cA, 12, .inl fS)), (h0, .inr (1, [.int (nI n), .int rg, .int st, .ref aV, .ref aW, .ref aR, .ref aP, .ref aK, .ref aL, .ref aQ]))] [(h0, .inr (1, [.int (nI n), .int rg, .int st, .ref aV, .ref aW, .ref aR, .ref aP, .ref aK, .ref aL, .ref aQ])), (aK, .inl (cA, 12, .inl fK)), (aQ, .inr (0, [.ref aS, .int lv])), (aS, .inl (cA, 12, .inl fS))] [] [(cA, .int)] [(cA, .int)] [3, 0, 1, 2] [] [0] := ⟨rfl, rfl, rfl, rfl, by decide, rfl⟩
    refine kv hX_5 hP hD hS hA (kRunV (q := (RX1, TX1, 10)) (As := [.int (nI j)]) (rest := []) F (c_X1_gatherOthers l D cA h0 n rg st aV aW aR aP aK aL aQ fK aS lv fS j hn (by omega) H.size) (cwV 1 hts gX1_compromiseWithout_X1_gatherOthers rfl rfl rfl (by decide +kernel) ⟨Nat.le_of_ble_eq_true rfl, Nat.le_of_ble_eq_true rfl⟩) hK hP hD hX_5 3 rfl rfl rfl hl.1 rfl (Nat.le_of_ble_eq_true rfl) dX1_compromiseWithout_7 ⟨Nat.le_of_ble_eq_true rfl, Nat.le_of_ble_eq_true rfl⟩) (fun u_7 H locs hw_8 hP hD hS => ?_)
    have hw_8 : RowOf u_7.1 u_7.2 fK (selX j) n := hw_8
    have hP : va_P D vwCl [(h0, .inr (1, [.int (nI n), .int rg, .int st, .ref aV, .ref aW, .ref aR, .ref aP, .ref aK, .ref aL, .ref aQ])), (aK, .inl (cA, 12, .inl fK)), (aQ, .inr (0, [.ref aS, .int (nI u_7.2)])), (aS, .inl (cA, 12, .inl u_7.1))] H := hP
    have hD : va_D A [(h0, .inr (1, [.int (nI n), .int rg, .int st, .ref aV, .ref aW, .ref aR, .ref aP, .ref aK, .ref aL, .ref aQ])), (aK, .inl (cA, 12, .inl fK)), (aQ, .inr (0, [.ref aS, .int (nI u_7.2)])), (aS, .inl (cA, 12, .inl u_7.1))] := hD
    have hRow := hw_8
    have hle : u_7.2 = n - 1 := by rw [hRow.2.1, tot_selX, if_pos hj]
    refine lv_aload_n hx hb dX1_compromiseWithout_10 rfl (lv_at hl 0 rfl) ?_
    refine va_get (D := D) (ci := 1) (v := .ref aQ) (C := RX1) (T := TX1) (N := 10) hx hb hts uX1_X1_compromiseWithout hown hK hP 0 rfl rfl 9 (by decide) (hts (.fieldLink RX1 41 "RopeChoices" "row" "LRopeChoices$PlankRow;") (List.mem_of_getElem? (i := 3) rfl)) (fun _ h9 => h9) rfl dX1_compromiseWithout_11 ?_
    have hX_9 : Cut D A [(h0, .inr (1, [.int (nI n), .int rg, .int st, .ref aV, .ref aW, .ref aR, .ref aP, .ref aK, .ref aL, .ref aQ])), (aK, .inl (cA, 12, .inl fK)), (aQ, .inr (0, [.ref aS, .int (nI u_7.2)])), (aS, .inl (cA, 12, .inl u_7.1))] [(aQ, .inr (0, [.ref aS, .int (nI u_7.2)])), (aS, .inl (cA, 12, .inl u_7.1))] [(h0, .inr (1, [.int (nI n), .int rg, .int st, .ref aV, .ref aW, .ref aR, .ref aP, .ref aK, .ref aL, .ref aQ])), (aK, .inl (cA, 12, .inl fK))] [(cA, .int)] [(cA, .int)] [2, 3] [0, 1] [0] := ⟨rfl, rfl, rfl, rfl, by decide, rfl⟩
    refine ki hX_9 hP hD hS hA (kRunV (q := (RX0, TX0, 2)) (As := []) (rest := []) F (c_X0_isBare l D cA aQ aS u_7.2 u_7.1 (by omega) H.size) (cwV 0 hts gX1_compromiseWithout_X0_isBare rfl rfl rfl (by decide +kernel) ⟨Nat.le_of_ble_eq_true rfl, Nat.le_of_ble_eq_true rfl⟩) hK hP hD hX_9 2 rfl rfl rfl hl.1 rfl (Nat.le_of_ble_eq_true rfl) dX1_compromiseWithout_14 ⟨Nat.le_of_ble_eq_true rfl, Nat.le_of_ble_eq_true rfl⟩) (fun r_10 u_11 H locs hw_12 hP hD hS => ?_)
    have hw_12 : r_10 = bP (u_7.2 = 0) := hw_12
    rw [hw_12]
    have hP : va_P D vwCl [(h0, .inr (1, [.int (nI n), .int rg, .int st, .ref aV, .ref aW, .ref aR, .ref aP, .ref aK, .ref aL, .ref aQ])), (aK, .inl (cA, 12, .inl fK)), (aQ, .inr (0, [.ref aS, .int (nI u_7.2)])), (aS, .inl (cA, 12, .inl u_7.1))] H := hP
    have hD : va_D A [(h0, .inr (1, [.int (nI n), .int rg, .int st, .ref aV, .ref aW, .ref aR, .ref aP, .ref aK, .ref aL, .ref aQ])), (aK, .inl (cA, 12, .inl fK)), (aQ, .inr (0, [.ref aS, .int (nI u_7.2)])), (aS, .inl (cA, 12, .inl u_7.1))] := hD
    refine lv_if_eq (tgt := 30) hx hb dX1_compromiseWithout_17 (by decide) (fun c_17 => ?_) (fun c_17 => ?_)
    · skip
      refine lv_aload_n hx hb dX1_compromiseWithout_30 rfl (lv_at hl 0 rfl) ?_
      refine va_get (D := D) (ci := 1) (v := .ref aQ) (C := RX1) (T := TX1) (N := 10) hx hb hts uX1_X1_compromiseWithout hown hK hP 0 rfl rfl 9 (by decide) (hts (.fieldLink RX1 41 "RopeChoices" "row" "LRopeChoices$PlankRow;") (List.mem_of_getElem? (i := 3) rfl)) (fun _ h9 => h9) rfl dX1_compromiseWithout_31 ?_
      have hX_13 : Cut D A [(h0, .inr (1, [.int (nI n), .int rg, .int st, .ref aV, .ref aW, .ref aR, .ref aP, .ref aK, .ref aL, .ref aQ])), (aK, .inl (cA, 12, .inl fK)), (aQ, .inr (0, [.ref aS, .int (nI u_7.2)])), (aS, .inl (cA, 12, .inl u_7.1))] [(aQ, .inr (0, [.ref aS, .int (nI u_7.2)])), (aS, .inl (cA, 12, .inl u_7.1))] [(h0, .inr (1, [.int (nI n), .int rg, .int st, .ref aV, .ref aW, .ref aR, .ref aP, .ref aK, .ref aL, .ref aQ])), (aK, .inl (cA, 12, .inl fK))] [(cA, .int)] [(cA, .int)] [2, 3] [0, 1] [0] := ⟨rfl, rfl, rfl, rfl, by decide, rfl⟩
      refine ki hX_13 hP hD hS hA (kRunV (q := (RX0, TX0, 2)) (As := []) (rest := []) F (c_X0_middle l D cA aQ aS u_7.2 u_7.1 (by omega) H.size) (cwV 0 hts gX1_compromiseWithout_X0_middle rfl rfl rfl (by decide +kernel) ⟨Nat.le_of_ble_eq_true rfl, Nat.le_of_ble_eq_true rfl⟩) hK hP hD hX_13 2 rfl rfl rfl hl.1 rfl (Nat.le_of_ble_eq_true rfl) dX1_compromiseWithout_34 ⟨Nat.le_of_ble_eq_true rfl, Nat.le_of_ble_eq_true rfl⟩) (fun r_14 u_15 H locs hw_16 hP hD hS => ?_)
      have hw_16 : r_14 = midRow u_7.1 u_7.2 := hw_16
      rw [hw_16]
      have hP : va_P D vwCl [(h0, .inr (1, [.int (nI n), .int rg, .int st, .ref aV, .ref aW, .ref aR, .ref aP, .ref aK, .ref aL, .ref aQ])), (aK, .inl (cA, 12, .inl fK)), (aQ, .inr (0, [.ref aS, .int (nI u_7.2)])), (aS, .inl (cA, 12, .inl u_7.1))] H := hP
      have hD : va_D A [(h0, .inr (1, [.int (nI n), .int rg, .int st, .ref aV, .ref aW, .ref aR, .ref aP, .ref aK, .ref aL, .ref aQ])), (aK, .inl (cA, 12, .inl fK)), (aQ, .inr (0, [.ref aS, .int (nI u_7.2)])), (aS, .inl (cA, 12, .inl u_7.1))] := hD
      refine useQ hQ (vx_ret ?_)
      exact e_i (v := midRow u_7.1 u_7.2) F hr hlocks hK hP hD hS [0, 1, 2, 3] [0] (u_7.1, nI u_7.2) (⟨cd2_0 (not_not_intro hD9) (fun z => bP_eq c_17 (by omega)), by rw [hdn]; exact med_of hRow (bP_eq c_17)⟩) rfl rfl rfl (Nat.le_of_ble_eq_true rfl) (Nat.le_of_ble_eq_true rfl) dX1_compromiseWithout_37
    · skip
      refine useQ hQ ?_
      exact x_throw (cls := "java/lang/IllegalStateException") F hl0 hno hlocks hK hP hD hS hXE hl.1 (by decide +kernel) (hts (.classLink RX1 56 "java/lang/IllegalStateException") (List.mem_of_getElem? (i := 1) rfl)) (hts (.initialized "java/lang/IllegalStateException") (List.mem_of_getElem? (i := 2) rfl)) (xstr_130) (fun w9 h9 => hts w9 ((fun _ h => List.mem_cons_of_mem _ (List.mem_append_left _ (List.mem_append_right _ h))) w9 h9)) (by decide) xg_ise xo_ise dX1_compromiseWithout_20 dX1_compromiseWithout_23 dX1_compromiseWithout_24 dX1_compromiseWithout_26 dX1_compromiseWithout_29 (Nat.le_of_ble_eq_true rfl) (Nat.le_of_ble_eq_true rfl) (Nat.le_of_ble_eq_true rfl) (Nat.le_of_ble_eq_true rfl) [0, 1, 2, 3] [0] (u_7.1, nI u_7.2) (Or.inr ⟨rfl, cd2_2 (not_not_intro hD9) (by have := bP_ne c_17; omega)⟩) rfl rfl rfl (Nat.le_of_ble_eq_true rfl) (Nat.le_of_ble_eq_true rfl)
theorem uX1_X1_decisiveOne : ∀ w ∈ u_ws RX1 TX1 10, w ∈ wsX1_decisiveOne := (fun _ h => List.mem_cons_of_mem _ (List.mem_append_left _ (List.mem_append_left _ (List.mem_append_right _ h))))
set_option maxHeartbeats 4000000 in
set_option maxRecDepth 100000 in
theorem c_X1_decisiveOne (l : Launch) (hl0 : l.stackTraces = false) (D : va_G) (cA : ClassId) (h0 : Nat) (n : Nat) (rg : Int32) (st : Int32) (aV : Nat) (aW : Nat) (aR : Nat) (aP : Nat) (aK : Nat) (aL : Nat) (aQ : Nat) (fK : Nat → Int32) (aS : Nat) (lv : Int32) (fS : Nat → Int32) (hn : n ≤ 12) (sz : Nat) : vx_Met l yX1_decisiveOne wsX1_decisiveOne ({ frames := 7, cells := 1, slots := 6, locals := 110 } : Room) (va_Pc [.ref h0] (Wx D [(cA, .int)] [(h0, .inr (1, [.int (nI n), .int rg, .int st, .ref aV, .ref aW, .ref aR, .ref aP, .ref aK, .ref aL, .ref aQ])), (aK, .inl (cA, 12, .inl fK)), (aQ, .inr (0, [.ref aS, .int lv])), (aS, .inl (cA, 12, .inl fS))] sz)) (va_Qi (fun (r : Int32) (u : (Nat → Int32) × Int32) => n ≠ 0 ∧ r = decF fK n) (fun (u : (Nat → Int32) × Int32) t => We D [(cA, .int)] [(h0, .inr (1, [.int (nI n), .int rg, .int st, .ref aV, .ref aW, .ref aR, .ref aP, .ref aK, .ref aL, .ref aQ])), (aK, .inl (cA, 12, .inl fK)), (aQ, .inr (0, [.ref aS, .int u.2])), (aS, .inl (cA, 12, .inl u.1))] (va_A [(h0, .inr (1, [.int (nI n), .int rg, .int st, .ref aV, .ref aW, .ref aR, .ref aP, .ref aK, .ref aL, .ref aQ])), (aK, .inl (cA, 12, .inl fK)), (aQ, .inr (0, [.ref aS, .int lv])), (aS, .inl (cA, 12, .inl fS))] sz) t) (va_A [(h0, .inr (1, [.int (nI n), .int rg, .int st, .ref aV, .ref aW, .ref aR, .ref aP, .ref aK, .ref aL, .ref aQ])), (aK, .inl (cA, 12, .inl fK)), (aQ, .inr (0, [.ref aS, .int lv])), (aS, .inl (cA, 12, .inl fS))] sz)) (vx_X (fun (_ : Unit) => True) (fun (E : String) (xx : Unit) t => (E = "java/lang/IllegalStateException" ∧ n = 0) ∧ We D [(cA, .int)] [(h0, .inr (1, [.int (nI n), .int rg, .int st, .ref aV, .ref aW, .ref aR, .ref aP, .ref aK, .ref aL, .ref aQ])), (aK, .inl (cA, 12, .inl fK)), (aQ, .inr (0, [.ref aS, .int lv])), (aS, .inl (cA, 12, .inl fS))] (va_A [(h0, .inr (1, [.int (nI n), .int rg, .int st, .ref aV, .ref aW, .ref aR, .ref aP, .ref aK, .ref aL, .ref aQ])), (aK, .inl (cA, 12, .inl fK)), (aQ, .inr (0, [.ref aS, .int lv])), (aS, .inl (cA, 12, .inl fS))] sz) t) (va_A [(h0, .inr (1, [.int (nI n), .int rg, .int st, .ref aV, .ref aW, .ref aR, .ref aP, .ref aK, .ref aL, .ref aQ])), (aK, .inl (cA, 12, .inl fK)), (aQ, .inr (0, [.ref aS, .int lv])), (aS, .inl (cA, 12, .inl fS))] sz)) 1 6 (va_A [(h0, .inr (1, [.int (nI n), .int rg, .int st, .ref aV, .ref aW, .ref aR, .ref aP, .ref aK, .ref aL, .ref aQ])), (aK, .inl (cA, 12, .inl fK)), (aQ, .inr (0, [.ref aS, .int lv])), (aS, .inl (cA, 12, .inl fS))] sz) := by
  refine mk_vx [.ref h0] (fun A => va_Qi (fun (r : Int32) (u : (Nat → Int32) × Int32) => n ≠ 0 ∧ r = decF fK n) (fun (u : (Nat → Int32) × Int32) t => We D [(cA, .int)] [(h0, .inr (1, [.int (nI n), .int rg, .int st, .ref aV, .ref aW, .ref aR, .ref aP, .ref aK, .ref aL, .ref aQ])), (aK, .inl (cA, 12, .inl fK)), (aQ, .inr (0, [.ref aS, .int u.2])), (aS, .inl (cA, 12, .inl u.1))] A t) A) (fun A => vx_X (fun (_ : Unit) => True) (fun (E : String) (xx : Unit) t => (E = "java/lang/IllegalStateException" ∧ n = 0) ∧ We D [(cA, .int)] [(h0, .inr (1, [.int (nI n), .int rg, .int st, .ref aV, .ref aW, .ref aR, .ref aP, .ref aK, .ref aL, .ref aQ])), (aK, .inl (cA, 12, .inl fK)), (aQ, .inr (0, [.ref aS, .int lv])), (aS, .inl (cA, 12, .inl fS))] A t) A) (by decide) rfl (Nat.le_of_ble_eq_true rfl) ?_
  intro p e s m args below meth c A ls F hr hlocks hname hno hP hK hD hXE hA hl
  have hx := F.1
  have hb := F.2.1
  have hml := F.2.2.1
  have hown := F.2.2.2.1
  have hts := F.2.2.2.2
  have hS : va_S A s.heap s.heap [] := va_S.rf
  have hl : lv_has ls 3 [(0, .ref h0)] := hl
  refine absQ (fun Q hQ => ?_)
  refine lv_aload_n hx hb dX1_decisiveOne_0 rfl (lv_at hl 0 rfl) ?_
  have hX_1 : Cut D A [(h0, .inr (1, [.int (nI n), .int rg, .int st, .ref aV, .ref aW, .ref aR, .ref aP, .ref aK, .ref aL, .ref aQ])), (aK, .inl (cA, 12, .inl fK)), (aQ, .inr (0, [.ref aS, .int lv])), (aS, .inl (cA, 12, .inl fS))] [(h0, .inr (1, [.int (nI n), .int rg, .int st, .ref aV, .ref aW, .ref aR, .ref aP, .ref aK, .ref aL, .ref aQ]))] [(aK, .inl (cA, 12, .inl fK)), (aQ, .inr (0, [.ref aS, .int lv])), (aS, .inl (cA, 12, .inl fS))] [(cA, .int)] [(cA, .int)] [0] [1, 2, 3] [0] := ⟨rfl, rfl, rfl, rfl, by decide, rfl⟩
  refine xv hX_1 hP hD hS hA (xRunV (q := (RX1, TX1, 10)) (As := []) (rest := []) F (c_X1_checkSomeoneThere l hl0 D cA h0 n rg st aV aW aR aP aK aL aQ hn s.heap.size) (cwV 0 hts gX1_decisiveOne_X1_checkSomeoneThere rfl rfl rfl (by decide +kernel) ⟨Nat.le_of_ble_eq_true rfl, Nat.le_of_ble_eq_true rfl⟩) hK hP hD hS hA hXE hX_1 0 rfl rfl rfl hl.1 rfl (Nat.le_of_ble_eq_true rfl) dX1_decisiveOne_1 ⟨Nat.le_of_ble_eq_true rfl, Nat.le_of_ble_eq_true rfl⟩) (fun E9 ce9 q9 u_3 H locs hw_4 hP hD hS hc9 hv9 hf9 => ?_) (fun u_3 H locs hw_4 hP hD hS => ?_)
  · skip
    have hP : va_P D vwCl [(aK, .inl (cA, 12, .inl fK)), (aQ, .inr (0, [.ref aS, .int lv])), (aS, .inl (cA, 12, .inl fS)), (h0, .inr (1, [.int (nI n), .int rg, .int st, .ref aV, .ref aW, .ref aR, .ref aP, .ref aK, .ref aL, .ref aQ]))] H := hP
    have hD : va_D A [(aK, .inl (cA, 12, .inl fK)), (aQ, .inr (0, [.ref aS, .int lv])), (aS, .inl (cA, 12, .inl fS)), (h0, .inr (1, [.int (nI n), .int rg, .int st, .ref aV, .ref aW, .ref aR, .ref aP, .ref aK, .ref aL, .ref aQ]))] := hD
    have hw_4 : E9 = "java/lang/IllegalStateException" ∧ n = 0 := hw_4
    refine uxQ hQ ?_
    exact x_out hno hlocks hK hP hD hS [3, 0, 1, 2] [0] () (hw_4) rfl rfl rfl hc9 hv9 hf9 (Nat.le_of_ble_eq_true rfl) (Nat.le_of_ble_eq_true rfl)
  · skip
    have hw_4 : n ≠ 0 := hw_4
    have hP : va_P D vwCl [(aK, .inl (cA, 12, .inl fK)), (aQ, .inr (0, [.ref aS, .int lv])), (aS, .inl (cA, 12, .inl fS)), (h0, .inr (1, [.int (nI n), .int rg, .int st, .ref aV, .ref aW, .ref aR, .ref aP, .ref aK, .ref aL, .ref aQ]))] H := hP
    have hD : va_D A [(aK, .inl (cA, 12, .inl fK)), (aQ, .inr (0, [.ref aS, .int lv])), (aS, .inl (cA, 12, .inl fS)), (h0, .inr (1, [.int (nI n), .int rg, .int st, .ref aV, .ref aW, .ref aR, .ref aP, .ref aK, .ref aL, .ref aQ]))] := hD
    have h1 := hw_4
    refine lv_aload_n hx hb dX1_decisiveOne_4 rfl (lv_at hl 0 rfl) ?_
    refine lv_aload_n hx hb dX1_decisiveOne_5 rfl (lv_at hl 0 rfl) ?_
    refine va_get (D := D) (ci := 1) (v := .ref aK) (C := RX1) (T := TX1) (N := 10) hx hb hts uX1_X1_decisiveOne hown hK hP 3 rfl rfl 7 (by decide) (hts (.fieldLink RX1 32 "RopeChoices" "planks" "[I") (List.mem_of_getElem? (i := 1) rfl)) (fun _ h9 => h9) rfl dX1_decisiveOne_6 ?_
    have hX_5 : Cut D A [(aK, .inl (cA, 12, .inl fK)), (aQ, .inr (0, [.ref aS, .int lv])), (aS, .inl (cA, 12, .inl fS)), (h0, .inr (1, [.int (nI n), .int rg, .int st, .ref aV, .ref aW, .ref aR, .ref aP, .ref aK, .ref aL, .ref aQ]))] [(h0, .inr (1, [.int (nI n), .int rg, .int st, .ref aV, .ref aW, .ref aR, .ref aP, .ref aK, .ref aL, .ref aQ])), (aK, .inl (cA, 12, .inl fK)), (aQ, .inr (0, [.ref aS, .int lv])), (aS, .inl (cA, 12, .inl fS))] [] [(cA, .int)] [(cA, .int)] [3, 0, 1, 2] [] [0] := ⟨rfl, rfl, rfl, rfl, by decide, rfl⟩
    refine ki hX_5 hP hD hS hA (kRunV (q := (RX1, TX1, 10)) (As := [.ref aK]) (rest := []) F (c_X1_middleOfAll l D cA h0 n rg st aV aW aR aP aK aL aQ aK fK aS lv fS hn H.size) (cwV 1 hts gX1_decisiveOne_X1_middleOfAll rfl rfl rfl (by decide +kernel) ⟨Nat.le_of_ble_eq_true rfl, Nat.le_of_ble_eq_true rfl⟩) hK hP hD hX_5 3 rfl rfl rfl hl.1 rfl (Nat.le_of_ble_eq_true rfl) dX1_decisiveOne_9 ⟨Nat.le_of_ble_eq_true rfl, Nat.le_of_ble_eq_true rfl⟩) (fun r_6 u_7 H locs hw_8 hP hD hS => ?_)
    have hw_8 : r_6 = midF fK n := hw_8
    rw [hw_8]
    have hP : va_P D vwCl [(h0, .inr (1, [.int (nI n), .int rg, .int st, .ref aV, .ref aW, .ref aR, .ref aP, .ref aK, .ref aL, .ref aQ])), (aK, .inl (cA, 12, .inl fK)), (aQ, .inr (0, [.ref aS, .int u_7.2])), (aS, .inl (cA, 12, .inl u_7.1))] H := hP
    have hD : va_D A [(h0, .inr (1, [.int (nI n), .int rg, .int st, .ref aV, .ref aW, .ref aR, .ref aP, .ref aK, .ref aL, .ref aQ])), (aK, .inl (cA, 12, .inl fK)), (aQ, .inr (0, [.ref aS, .int u_7.2])), (aS, .inl (cA, 12, .inl u_7.1))] := hD
    refine lv_istore_n (lv' := [(1, .int (midF fK n)), (0, .ref h0)]) hx hb dX1_decisiveOne_12 rfl hl (by decide) rfl (fun ls hl => ?_)
    refine lv_iconst (v := 0) hx hb dX1_decisiveOne_13 (by decide) ?_
    refine lv_istore_n (lv' := [(2, .int 0), (1, .int (midF fK n)), (0, .ref h0)]) hx hb dX1_decisiveOne_14 rfl hl (by decide) rfl (fun ls hl => ?_)
    have loop15 : ∀ (k : Nat) (i : Nat), (n < i + k) → (i < n) → (∀ j, j < i → fK j ≠ midF fK n) →  ∀ (H : Heap) (locs : List Loc), va_P D vwCl [(h0, .inr (1, [.int (nI n), .int rg, .int st, .ref aV, .ref aW, .ref aR, .ref aP, .ref aK, .ref aL, .ref aQ])), (aK, .inl (cA, 12, .inl fK)), (aQ, .inr (0, [.ref aS, .int u_7.2])), (aS, .inl (cA, 12, .inl u_7.1))] H → va_D A [(h0, .inr (1, [.int (nI n), .int rg, .int st, .ref aV, .ref aW, .ref aR, .ref aP, .ref aK, .ref aL, .ref aQ])), (aK, .inl (cA, 12, .inl fK)), (aQ, .inr (0, [.ref aS, .int u_7.2])), (aS, .inl (cA, 12, .inl u_7.1))] → va_S A s.heap H locs → ∀ ls : Array Slot, lv_has ls 3 [(2, .int (nI i)), (1, .int (midF fK n)), (0, .ref h0)] → W p l e ({ frames := 7, cells := 1, slots := 6, locals := 110 } : Room) s m args below meth c H locs 1 6 Q (F0 m 15 ls []) := by
      intro k
      induction k with
      | zero =>
        intro i hk hi hfst
        exact absurd hk (by omega)
      | succ k ih15 =>
        intro i hk hi hfst H locs hP hD hS ls hl
        refine lv_iload_n hx hb dX1_decisiveOne_15 rfl (lv_at hl 0 rfl) ?_
        refine lv_aload_n hx hb dX1_decisiveOne_16 rfl (lv_at hl 2 rfl) ?_
        refine va_get (D := D) (ci := 1) (v := .int (nI n)) (C := RX1) (T := TX1) (N := 10) hx hb hts uX1_X1_decisiveOne hown hK hP 0 rfl rfl 0 (by decide) (hts (.fieldLink RX1 7 "RopeChoices" "count" "I") (List.mem_of_getElem? (i := 2) rfl)) (fun _ h9 => h9) rfl dX1_decisiveOne_17 ?_
        refine lv_iconst (v := 1) hx hb dX1_decisiveOne_20 (by decide) ?_
        refine lv_isub hx hb dX1_decisiveOne_21 ?_
        refine topi (nI (n - 1)) (nI_m1 (by omega)) ?_
        refine lv_icmp_ge (tgt := 41) hx hb dX1_decisiveOne_22 (by decide) (fun c_22 => ?_) (fun c_22 => ?_)
        · skip
          have g_22 : n - 1 ≤ i := nf_ge_t (by omega) (by omega) c_22
          refine lv_iload_n hx hb dX1_decisiveOne_41 rfl (lv_at hl 0 rfl) ?_
          refine useQ hQ (vx_ret ?_)
          exact e_i (v := nI i) F hr hlocks hK hP hD hS [0, 1, 2, 3] [0] (u_7.1, u_7.2) (⟨h1, dec_end h1 hi (Or.inr (by omega)) hfst⟩) rfl rfl rfl (Nat.le_of_ble_eq_true rfl) (Nat.le_of_ble_eq_true rfl) dX1_decisiveOne_42
        · skip
          have g_22 : i < n - 1 := nf_ge_f (by omega) (by omega) c_22
          refine lv_aload_n hx hb dX1_decisiveOne_25 rfl (lv_at hl 2 rfl) ?_
          refine va_get (D := D) (ci := 1) (v := .ref aK) (C := RX1) (T := TX1) (N := 10) hx hb hts uX1_X1_decisiveOne hown hK hP 0 rfl rfl 7 (by decide) (hts (.fieldLink RX1 32 "RopeChoices" "planks" "[I") (List.mem_of_getElem? (i := 1) rfl)) (fun _ h9 => h9) rfl dX1_decisiveOne_26 ?_
          refine lv_iload_n hx hb dX1_decisiveOne_29 rfl (lv_at hl 0 rfl) ?_
          refine a_ld (k := i) hx hb hK hP 1 0 rfl rfl (by omega) (Nat.le_of_ble_eq_true rfl) dX1_decisiveOne_30 ?_
          refine lv_iload_n hx hb dX1_decisiveOne_31 rfl (lv_at hl 1 rfl) ?_
          refine lv_icmp_eq (tgt := 41) hx hb dX1_decisiveOne_32 (by decide) (fun c_32 => ?_) (fun c_32 => ?_)
          · skip
            refine lv_iload_n hx hb dX1_decisiveOne_41 rfl (lv_at hl 0 rfl) ?_
            refine useQ hQ (vx_ret ?_)
            exact e_i (v := nI i) F hr hlocks hK hP hD hS [0, 1, 2, 3] [0] (u_7.1, u_7.2) (⟨h1, dec_end h1 hi (Or.inl c_32) hfst⟩) rfl rfl rfl (Nat.le_of_ble_eq_true rfl) (Nat.le_of_ble_eq_true rfl) dX1_decisiveOne_42
          · skip
            refine lv_iinc (v := nI (i + 1)) (lv' := [(2, .int (nI (i + 1))), (1, .int (midF fK n)), (0, .ref h0)]) hx hb dX1_decisiveOne_35 hl (k := 0) rfl (nI_1 _) (by decide) rfl (fun ls hl => ?_)
            refine lv_goto (tgt := 15) hx hb dX1_decisiveOne_38 (by decide) ?_
            exact ih15 (i + 1) (by omega) (by omega) (fun j a => if h : j = i then h ▸ c_32 else hfst j (by omega)) _ _ (hP.sub [0, 1, 2, 3] rfl) (hD.sub [0, 1, 2, 3] (by decide) rfl) hS ls (lv_sub hl [0, 1, 2] rfl)
    exact loop15 (n + 1) 0 (by omega) (by omega) (fun j a => absurd a (Nat.not_lt_zero _)) _ _ (hP.sub [0, 1, 2, 3] rfl) (hD.sub [0, 1, 2, 3] (by decide) rfl) hS ls (lv_sub hl [0, 1, 2] rfl)
theorem uX1_X1_discontentOf : ∀ w ∈ u_ws RX1 TX1 10, w ∈ wsX1_discontentOf := (fun _ h => List.mem_cons_of_mem _ (List.mem_append_left _ (List.mem_append_left _ (List.mem_append_right _ h))))
set_option maxHeartbeats 4000000 in
set_option maxRecDepth 100000 in
theorem c_X1_discontentOf (l : Launch) (hl0 : l.stackTraces = false) (D : va_G) (cA : ClassId) (h0 : Nat) (n : Nat) (rg : Int32) (st : Int32) (aV : Nat) (aW : Nat) (aR : Nat) (aP : Nat) (aK : Nat) (aL : Nat) (aQ : Nat) (fW : Nat → Int32) (fK : Nat → Int32) (aS : Nat) (lv : Int32) (fS : Nat → Int32) (d : Int32) (hn : n ≤ 12) (sz : Nat) : vx_Met l yX1_discontentOf wsX1_discontentOf ({ frames := 7, cells := 1, slots := 6, locals := 111 } : Room) (va_Pc [.ref h0, .int d] (Wx D [(cA, .int)] [(h0, .inr (1, [.int (nI n), .int rg, .int st, .ref aV, .ref aW, .ref aR, .ref aP, .ref aK, .ref aL, .ref aQ])), (aW, .inl (cA, 12, .inl fW)), (aK, .inl (cA, 12, .inl fK)), (aQ, .inr (0, [.ref aS, .int lv])), (aS, .inl (cA, 12, .inl fS))] sz)) (va_Qi (fun (r : Int32) (u : (Nat → Int32) × Int32) => okD n d ∧ r = jabs (midF fK n - fW (dN d))) (fun (u : (Nat → Int32) × Int32) t => We D [(cA, .int)] [(h0, .inr (1, [.int (nI n), .int rg, .int st, .ref aV, .ref aW, .ref aR, .ref aP, .ref aK, .ref aL, .ref aQ])), (aW, .inl (cA, 12, .inl fW)), (aK, .inl (cA, 12, .inl fK)), (aQ, .inr (0, [.ref aS, .int u.2])), (aS, .inl (cA, 12, .inl u.1))] (va_A [(h0, .inr (1, [.int (nI n), .int rg, .int st, .ref aV, .ref aW, .ref aR, .ref aP, .ref aK, .ref aL, .ref aQ])), (aW, .inl (cA, 12, .inl fW)), (aK, .inl (cA, 12, .inl fK)), (aQ, .inr (0, [.ref aS, .int lv])), (aS, .inl (cA, 12, .inl fS))] sz) t) (va_A [(h0, .inr (1, [.int (nI n), .int rg, .int st, .ref aV, .ref aW, .ref aR, .ref aP, .ref aK, .ref aL, .ref aQ])), (aW, .inl (cA, 12, .inl fW)), (aK, .inl (cA, 12, .inl fK)), (aQ, .inr (0, [.ref aS, .int lv])), (aS, .inl (cA, 12, .inl fS))] sz)) (vx_X (fun (_ : Unit) => True) (fun (E : String) (xx : Unit) t => (E = "java/lang/IndexOutOfBoundsException" ∧ ¬ okD n d) ∧ We D [(cA, .int)] [(h0, .inr (1, [.int (nI n), .int rg, .int st, .ref aV, .ref aW, .ref aR, .ref aP, .ref aK, .ref aL, .ref aQ])), (aW, .inl (cA, 12, .inl fW)), (aK, .inl (cA, 12, .inl fK)), (aQ, .inr (0, [.ref aS, .int lv])), (aS, .inl (cA, 12, .inl fS))] (va_A [(h0, .inr (1, [.int (nI n), .int rg, .int st, .ref aV, .ref aW, .ref aR, .ref aP, .ref aK, .ref aL, .ref aQ])), (aW, .inl (cA, 12, .inl fW)), (aK, .inl (cA, 12, .inl fK)), (aQ, .inr (0, [.ref aS, .int lv])), (aS, .inl (cA, 12, .inl fS))] sz) t) (va_A [(h0, .inr (1, [.int (nI n), .int rg, .int st, .ref aV, .ref aW, .ref aR, .ref aP, .ref aK, .ref aL, .ref aQ])), (aW, .inl (cA, 12, .inl fW)), (aK, .inl (cA, 12, .inl fK)), (aQ, .inr (0, [.ref aS, .int lv])), (aS, .inl (cA, 12, .inl fS))] sz)) 1 6 (va_A [(h0, .inr (1, [.int (nI n), .int rg, .int st, .ref aV, .ref aW, .ref aR, .ref aP, .ref aK, .ref aL, .ref aQ])), (aW, .inl (cA, 12, .inl fW)), (aK, .inl (cA, 12, .inl fK)), (aQ, .inr (0, [.ref aS, .int lv])), (aS, .inl (cA, 12, .inl fS))] sz) := by
  refine mk_vx [.ref h0, .int d] (fun A => va_Qi (fun (r : Int32) (u : (Nat → Int32) × Int32) => okD n d ∧ r = jabs (midF fK n - fW (dN d))) (fun (u : (Nat → Int32) × Int32) t => We D [(cA, .int)] [(h0, .inr (1, [.int (nI n), .int rg, .int st, .ref aV, .ref aW, .ref aR, .ref aP, .ref aK, .ref aL, .ref aQ])), (aW, .inl (cA, 12, .inl fW)), (aK, .inl (cA, 12, .inl fK)), (aQ, .inr (0, [.ref aS, .int u.2])), (aS, .inl (cA, 12, .inl u.1))] A t) A) (fun A => vx_X (fun (_ : Unit) => True) (fun (E : String) (xx : Unit) t => (E = "java/lang/IndexOutOfBoundsException" ∧ ¬ okD n d) ∧ We D [(cA, .int)] [(h0, .inr (1, [.int (nI n), .int rg, .int st, .ref aV, .ref aW, .ref aR, .ref aP, .ref aK, .ref aL, .ref aQ])), (aW, .inl (cA, 12, .inl fW)), (aK, .inl (cA, 12, .inl fK)), (aQ, .inr (0, [.ref aS, .int lv])), (aS, .inl (cA, 12, .inl fS))] A t) A) (by decide) rfl (Nat.le_of_ble_eq_true rfl) ?_
  intro p e s m args below meth c A ls F hr hlocks hname hno hP hK hD hXE hA hl
  have hx := F.1
  have hb := F.2.1
  have hml := F.2.2.1
  have hown := F.2.2.2.1
  have hts := F.2.2.2.2
  have hS : va_S A s.heap s.heap [] := va_S.rf
  have hl : lv_has ls 2 [(0, .ref h0), (1, .int d)] := hl
  refine absQ (fun Q hQ => ?_)
  refine lv_aload_n hx hb dX1_discontentOf_0 rfl (lv_at hl 0 rfl) ?_
  refine lv_iload_n hx hb dX1_discontentOf_1 rfl (lv_at hl 1 rfl) ?_
  have hX_1 : Cut D A [(h0, .inr (1, [.int (nI n), .int rg, .int st, .ref aV, .ref aW, .ref aR, .ref aP, .ref aK, .ref aL, .ref aQ])), (aW, .inl (cA, 12, .inl fW)), (aK, .inl (cA, 12, .inl fK)), (aQ, .inr (0, [.ref aS, .int lv])), (aS, .inl (cA, 12, .inl fS))] [(h0, .inr (1, [.int (nI n), .int rg, .int st, .ref aV, .ref aW, .ref aR, .ref aP, .ref aK, .ref aL, .ref aQ]))] [(aW, .inl (cA, 12, .inl fW)), (aK, .inl (cA, 12, .inl fK)), (aQ, .inr (0, [.ref aS, .int lv])), (aS, .inl (cA, 12, .inl fS))] [(cA, .int)] [(cA, .int)] [0] [1, 2, 3, 4] [0] := ⟨rfl, rfl, rfl, rfl, by decide, rfl⟩
  refine xv hX_1 hP hD hS hA (xRunV (q := (RX1, TX1, 10)) (As := [.int d]) (rest := []) F (c_X1_checkDelegate l hl0 D cA h0 n rg st aV aW aR aP aK aL aQ d hn s.heap.size) (cwV 1 hts gX1_discontentOf_X1_checkDelegate rfl rfl rfl (by decide +kernel) ⟨Nat.le_of_ble_eq_true rfl, Nat.le_of_ble_eq_true rfl⟩) hK hP hD hS hA hXE hX_1 0 rfl rfl rfl hl.1 rfl (Nat.le_of_ble_eq_true rfl) dX1_discontentOf_2 ⟨Nat.le_of_ble_eq_true rfl, Nat.le_of_ble_eq_true rfl⟩) (fun E9 ce9 q9 u_3 H locs hw_4 hP hD hS hc9 hv9 hf9 => ?_) (fun u_3 H locs hw_4 hP hD hS => ?_)
  · skip
    have hP : va_P D vwCl [(aW, .inl (cA, 12, .inl fW)), (aK, .inl (cA, 12, .inl fK)), (aQ, .inr (0, [.ref aS, .int lv])), (aS, .inl (cA, 12, .inl fS)), (h0, .inr (1, [.int (nI n), .int rg, .int st, .ref aV, .ref aW, .ref aR, .ref aP, .ref aK, .ref aL, .ref aQ]))] H := hP
    have hD : va_D A [(aW, .inl (cA, 12, .inl fW)), (aK, .inl (cA, 12, .inl fK)), (aQ, .inr (0, [.ref aS, .int lv])), (aS, .inl (cA, 12, .inl fS)), (h0, .inr (1, [.int (nI n), .int rg, .int st, .ref aV, .ref aW, .ref aR, .ref aP, .ref aK, .ref aL, .ref aQ]))] := hD
    have hw_4 : E9 = "java/lang/IndexOutOfBoundsException" ∧ ¬ okD n d := hw_4
    refine uxQ hQ ?_
    exact x_out hno hlocks hK hP hD hS [4, 0, 1, 2, 3] [0] () (hw_4) rfl rfl rfl hc9 hv9 hf9 (Nat.le_of_ble_eq_true rfl) (Nat.le_of_ble_eq_true rfl)
  · skip
    have hw_4 : okD n d := hw_4
    have hP : va_P D vwCl [(aW, .inl (cA, 12, .inl fW)), (aK, .inl (cA, 12, .inl fK)), (aQ, .inr (0, [.ref aS, .int lv])), (aS, .inl (cA, 12, .inl fS)), (h0, .inr (1, [.int (nI n), .int rg, .int st, .ref aV, .ref aW, .ref aR, .ref aP, .ref aK, .ref aL, .ref aQ]))] H := hP
    have hD : va_D A [(aW, .inl (cA, 12, .inl fW)), (aK, .inl (cA, 12, .inl fK)), (aQ, .inr (0, [.ref aS, .int lv])), (aS, .inl (cA, 12, .inl fS)), (h0, .inr (1, [.int (nI n), .int rg, .int st, .ref aV, .ref aW, .ref aR, .ref aP, .ref aK, .ref aL, .ref aQ]))] := hD
    obtain ⟨j, hj, hd9⟩ := hw_4
    subst hd9
    have hD9 : okD n (nI j) := ⟨j, hj, rfl⟩
    have hdn : dN (nI j) = j := dN_nI (by omega)
    refine lv_aload_n hx hb dX1_discontentOf_5 rfl (lv_at hl 0 rfl) ?_
    refine lv_iload_n hx hb dX1_discontentOf_6 rfl (lv_at hl 1 rfl) ?_
    refine lv_aload_n hx hb dX1_discontentOf_7 rfl (lv_at hl 0 rfl) ?_
    refine lv_aload_n hx hb dX1_discontentOf_8 rfl (lv_at hl 0 rfl) ?_
    refine va_get (D := D) (ci := 1) (v := .ref aK) (C := RX1) (T := TX1) (N := 10) hx hb hts uX1_X1_discontentOf hown hK hP 4 rfl rfl 7 (by decide) (hts (.fieldLink RX1 32 "RopeChoices" "planks" "[I") (List.mem_of_getElem? (i := 1) rfl)) (fun _ h9 => h9) rfl dX1_discontentOf_9 ?_
    have hX_5 : Cut D A [(aW, .inl (cA, 12, .inl fW)), (aK, .inl (cA, 12, .inl fK)), (aQ, .inr (0, [.ref aS, .int lv])), (aS, .inl (cA, 12, .inl fS)), (h0, .inr (1, [.int (nI n), .int rg, .int st, .ref aV, .ref aW, .ref aR, .ref aP, .ref aK, .ref aL, .ref aQ]))] [(h0, .inr (1, [.int (nI n), .int rg, .int st, .ref aV, .ref aW, .ref aR, .ref aP, .ref aK, .ref aL, .ref aQ])), (aK, .inl (cA, 12, .inl fK)), (aQ, .inr (0, [.ref aS, .int lv])), (aS, .inl (cA, 12, .inl fS))] [(aW, .inl (cA, 12, .inl fW))] [(cA, .int)] [(cA, .int)] [4, 1, 2, 3] [0] [0] := ⟨rfl, rfl, rfl, rfl, by decide, rfl⟩
    refine ki hX_5 hP hD hS hA (kRunV (q := (RX1, TX1, 10)) (As := [.ref aK]) (rest := [.int (nI j), .ref h0]) F (c_X1_middleOfAll l D cA h0 n rg st aV aW aR aP aK aL aQ aK fK aS lv fS hn H.size) (cwV 1 hts gX1_discontentOf_X1_middleOfAll rfl rfl rfl (by decide +kernel) ⟨Nat.le_of_ble_eq_true rfl, Nat.le_of_ble_eq_true rfl⟩) hK hP hD hX_5 4 rfl rfl rfl hl.1 rfl (Nat.le_of_ble_eq_true rfl) dX1_discontentOf_12 ⟨Nat.le_of_ble_eq_true rfl, Nat.le_of_ble_eq_true rfl⟩) (fun r_6 u_7 H locs hw_8 hP hD hS => ?_)
    have hw_8 : r_6 = midF fK n := hw_8
    rw [hw_8]
    have hP : va_P D vwCl [(aW, .inl (cA, 12, .inl fW)), (h0, .inr (1, [.int (nI n), .int rg, .int st, .ref aV, .ref aW, .ref aR, .ref aP, .ref aK, .ref aL, .ref aQ])), (aK, .inl (cA, 12, .inl fK)), (aQ, .inr (0, [.ref aS, .int u_7.2])), (aS, .inl (cA, 12, .inl u_7.1))] H := hP
    have hD : va_D A [(aW, .inl (cA, 12, .inl fW)), (h0, .inr (1, [.int (nI n), .int rg, .int st, .ref aV, .ref aW, .ref aR, .ref aP, .ref aK, .ref aL, .ref aQ])), (aK, .inl (cA, 12, .inl fK)), (aQ, .inr (0, [.ref aS, .int u_7.2])), (aS, .inl (cA, 12, .inl u_7.1))] := hD
    have hX_9 : Cut D A [(aW, .inl (cA, 12, .inl fW)), (h0, .inr (1, [.int (nI n), .int rg, .int st, .ref aV, .ref aW, .ref aR, .ref aP, .ref aK, .ref aL, .ref aQ])), (aK, .inl (cA, 12, .inl fK)), (aQ, .inr (0, [.ref aS, .int u_7.2])), (aS, .inl (cA, 12, .inl u_7.1))] [(h0, .inr (1, [.int (nI n), .int rg, .int st, .ref aV, .ref aW, .ref aR, .ref aP, .ref aK, .ref aL, .ref aQ])), (aW, .inl (cA, 12, .inl fW))] [(aK, .inl (cA, 12, .inl fK)), (aQ, .inr (0, [.ref aS, .int u_7.2])), (aS, .inl (cA, 12, .inl u_7.1))] [(cA, .int)] [(cA, .int)] [1, 0] [2, 3, 4] [0] := ⟨rfl, rfl, rfl, rfl, by decide, rfl⟩
    refine ki hX_9 hP hD hS hA (kRunV (q := (RX1, TX1, 10)) (As := [.int (nI j), .int (midF fK n)]) (rest := []) F (c_X1_discontent l D cA h0 n rg st aV aW aR aP aK aL aQ fW j (midF fK n) hn (by omega) H.size) (cwV 2 hts gX1_discontentOf_X1_discontent rfl rfl rfl (by decide +kernel) ⟨Nat.le_of_ble_eq_true rfl, Nat.le_of_ble_eq_true rfl⟩) hK hP hD hX_9 1 rfl rfl rfl hl.1 rfl (Nat.le_of_ble_eq_true rfl) dX1_discontentOf_15 ⟨Nat.le_of_ble_eq_true rfl, Nat.le_of_ble_eq_true rfl⟩) (fun r_10 u_11 H locs hw_12 hP hD hS => ?_)
    have hw_12 : r_10 = jabs ((midF fK n) - fW j) := hw_12
    rw [hw_12]
    have hP : va_P D vwCl [(aK, .inl (cA, 12, .inl fK)), (aQ, .inr (0, [.ref aS, .int u_7.2])), (aS, .inl (cA, 12, .inl u_7.1)), (h0, .inr (1, [.int (nI n), .int rg, .int st, .ref aV, .ref aW, .ref aR, .ref aP, .ref aK, .ref aL, .ref aQ])), (aW, .inl (cA, 12, .inl fW))] H := hP
    have hD : va_D A [(aK, .inl (cA, 12, .inl fK)), (aQ, .inr (0, [.ref aS, .int u_7.2])), (aS, .inl (cA, 12, .inl u_7.1)), (h0, .inr (1, [.int (nI n), .int rg, .int st, .ref aV, .ref aW, .ref aR, .ref aP, .ref aK, .ref aL, .ref aQ])), (aW, .inl (cA, 12, .inl fW))] := hD
    refine useQ hQ (vx_ret ?_)
    exact e_i (v := jabs ((midF fK n) - fW j)) F hr hlocks hK hP hD hS [3, 4, 0, 1, 2] [0] (u_7.1, u_7.2) (⟨hD9, by rw [hdn]⟩) rfl rfl rfl (Nat.le_of_ble_eq_true rfl) (Nat.le_of_ble_eq_true rfl) dX1_discontentOf_18
theorem uX1_X1_allDiscontent : ∀ w ∈ u_ws RX1 TX1 10, w ∈ wsX1_allDiscontent := (fun _ h => List.mem_cons_of_mem _ (List.mem_append_left _ (List.mem_append_right _ h)))
set_option maxHeartbeats 4000000 in
set_option maxRecDepth 100000 in
theorem c_X1_allDiscontent (l : Launch) (D : va_G) (cA : ClassId) (h0 : Nat) (n : Nat) (rg : Int32) (st : Int32) (aV : Nat) (aW : Nat) (aR : Nat) (aP : Nat) (aK : Nat) (aL : Nat) (aQ : Nat) (fW : Nat → Int32) (fK : Nat → Int32) (aS : Nat) (lv : Int32) (fS : Nat → Int32) (hn : n ≤ 12) (sz : Nat) : Met l yX1_allDiscontent wsX1_allDiscontent ({ frames := 3, cells := 0, slots := 0, locals := 75 } : Room) (va_Pc [.ref h0] (Wd D [(cA, .int)] [(h0, .inr (1, [.int (nI n), .int rg, .int st, .ref aV, .ref aW, .ref aR, .ref aP, .ref aK, .ref aL, .ref aQ])), (aW, .inl (cA, 12, .inl fW)), (aK, .inl (cA, 12, .inl fK)), (aQ, .inr (0, [.ref aS, .int lv])), (aS, .inl (cA, 12, .inl fS))] sz)) (va_Qi (fun (r : Int32) (u : (Nat → Int32) × Int32) => r = disAll fW (midF fK n) n) (fun (u : (Nat → Int32) × Int32) t => We D [(cA, .int)] [(h0, .inr (1, [.int (nI n), .int rg, .int st, .ref aV, .ref aW, .ref aR, .ref aP, .ref aK, .ref aL, .ref aQ])), (aW, .inl (cA, 12, .inl fW)), (aK, .inl (cA, 12, .inl fK)), (aQ, .inr (0, [.ref aS, .int u.2])), (aS, .inl (cA, 12, .inl u.1))] (va_A [(h0, .inr (1, [.int (nI n), .int rg, .int st, .ref aV, .ref aW, .ref aR, .ref aP, .ref aK, .ref aL, .ref aQ])), (aW, .inl (cA, 12, .inl fW)), (aK, .inl (cA, 12, .inl fK)), (aQ, .inr (0, [.ref aS, .int lv])), (aS, .inl (cA, 12, .inl fS))] sz) t) (va_A [(h0, .inr (1, [.int (nI n), .int rg, .int st, .ref aV, .ref aW, .ref aR, .ref aP, .ref aK, .ref aL, .ref aQ])), (aW, .inl (cA, 12, .inl fW)), (aK, .inl (cA, 12, .inl fK)), (aQ, .inr (0, [.ref aS, .int lv])), (aS, .inl (cA, 12, .inl fS))] sz)) 0 0 (va_A [(h0, .inr (1, [.int (nI n), .int rg, .int st, .ref aV, .ref aW, .ref aR, .ref aP, .ref aK, .ref aL, .ref aQ])), (aW, .inl (cA, 12, .inl fW)), (aK, .inl (cA, 12, .inl fK)), (aQ, .inr (0, [.ref aS, .int lv])), (aS, .inl (cA, 12, .inl fS))] sz) := by
  refine mk_met [.ref h0] (fun A => va_Qi (fun (r : Int32) (u : (Nat → Int32) × Int32) => r = disAll fW (midF fK n) n) (fun (u : (Nat → Int32) × Int32) t => We D [(cA, .int)] [(h0, .inr (1, [.int (nI n), .int rg, .int st, .ref aV, .ref aW, .ref aR, .ref aP, .ref aK, .ref aL, .ref aQ])), (aW, .inl (cA, 12, .inl fW)), (aK, .inl (cA, 12, .inl fK)), (aQ, .inr (0, [.ref aS, .int u.2])), (aS, .inl (cA, 12, .inl u.1))] A t) A) (by decide) rfl (Nat.le_of_ble_eq_true rfl) ?_
  intro p e s m args below meth c A ls F hr hlocks hname hP hK hD hA hl
  have hx := F.1
  have hb := F.2.1
  have hml := F.2.2.1
  have hown := F.2.2.2.1
  have hts := F.2.2.2.2
  have hS : va_S A s.heap s.heap [] := va_S.rf
  have hl : lv_has ls 1 [(0, .ref h0)] := hl
  refine absQ (fun Q hQ => ?_)
  refine lv_aload_n hx hb dX1_allDiscontent_0 rfl (lv_at hl 0 rfl) ?_
  refine lv_aload_n hx hb dX1_allDiscontent_1 rfl (lv_at hl 0 rfl) ?_
  refine lv_aload_n hx hb dX1_allDiscontent_2 rfl (lv_at hl 0 rfl) ?_
  refine va_get (D := D) (ci := 1) (v := .ref aK) (C := RX1) (T := TX1) (N := 10) hx hb hts uX1_X1_allDiscontent hown hK hP 0 rfl rfl 7 (by decide) (hts (.fieldLink RX1 32 "RopeChoices" "planks" "[I") (List.mem_of_getElem? (i := 1) rfl)) (fun _ h9 => h9) rfl dX1_allDiscontent_3 ?_
  have hX_1 : Cut D A [(h0, .inr (1, [.int (nI n), .int rg, .int st, .ref aV, .ref aW, .ref aR, .ref aP, .ref aK, .ref aL, .ref aQ])), (aW, .inl (cA, 12, .inl fW)), (aK, .inl (cA, 12, .inl fK)), (aQ, .inr (0, [.ref aS, .int lv])), (aS, .inl (cA, 12, .inl fS))] [(h0, .inr (1, [.int (nI n), .int rg, .int st, .ref aV, .ref aW, .ref aR, .ref aP, .ref aK, .ref aL, .ref aQ])), (aK, .inl (cA, 12, .inl fK)), (aQ, .inr (0, [.ref aS, .int lv])), (aS, .inl (cA, 12, .inl fS))] [(aW, .inl (cA, 12, .inl fW))] [(cA, .int)] [(cA, .int)] [0, 2, 3, 4] [1] [0] := ⟨rfl, rfl, rfl, rfl, by decide, rfl⟩
  refine ki hX_1 hP hD hS hA (kRunV (q := (RX1, TX1, 10)) (As := [.ref aK]) (rest := [.ref h0]) F (c_X1_middleOfAll l D cA h0 n rg st aV aW aR aP aK aL aQ aK fK aS lv fS hn s.heap.size) (cwV 1 hts gX1_allDiscontent_X1_middleOfAll rfl rfl rfl (by decide +kernel) ⟨Nat.le_of_ble_eq_true rfl, Nat.le_of_ble_eq_true rfl⟩) hK hP hD hX_1 0 rfl rfl rfl hl.1 rfl (Nat.le_of_ble_eq_true rfl) dX1_allDiscontent_6 ⟨Nat.le_of_ble_eq_true rfl, Nat.le_of_ble_eq_true rfl⟩) (fun r_2 u_3 H locs hw_4 hP hD hS => ?_)
  have hw_4 : r_2 = midF fK n := hw_4
  rw [hw_4]
  have hP : va_P D vwCl [(aW, .inl (cA, 12, .inl fW)), (h0, .inr (1, [.int (nI n), .int rg, .int st, .ref aV, .ref aW, .ref aR, .ref aP, .ref aK, .ref aL, .ref aQ])), (aK, .inl (cA, 12, .inl fK)), (aQ, .inr (0, [.ref aS, .int u_3.2])), (aS, .inl (cA, 12, .inl u_3.1))] H := hP
  have hD : va_D A [(aW, .inl (cA, 12, .inl fW)), (h0, .inr (1, [.int (nI n), .int rg, .int st, .ref aV, .ref aW, .ref aR, .ref aP, .ref aK, .ref aL, .ref aQ])), (aK, .inl (cA, 12, .inl fK)), (aQ, .inr (0, [.ref aS, .int u_3.2])), (aS, .inl (cA, 12, .inl u_3.1))] := hD
  have hX_5 : Cut D A [(aW, .inl (cA, 12, .inl fW)), (h0, .inr (1, [.int (nI n), .int rg, .int st, .ref aV, .ref aW, .ref aR, .ref aP, .ref aK, .ref aL, .ref aQ])), (aK, .inl (cA, 12, .inl fK)), (aQ, .inr (0, [.ref aS, .int u_3.2])), (aS, .inl (cA, 12, .inl u_3.1))] [(h0, .inr (1, [.int (nI n), .int rg, .int st, .ref aV, .ref aW, .ref aR, .ref aP, .ref aK, .ref aL, .ref aQ])), (aW, .inl (cA, 12, .inl fW))] [(aK, .inl (cA, 12, .inl fK)), (aQ, .inr (0, [.ref aS, .int u_3.2])), (aS, .inl (cA, 12, .inl u_3.1))] [(cA, .int)] [(cA, .int)] [1, 0] [2, 3, 4] [0] := ⟨rfl, rfl, rfl, rfl, by decide, rfl⟩
  refine ki hX_5 hP hD hS hA (kRunV (q := (RX1, TX1, 10)) (As := [.int (midF fK n)]) (rest := []) F (c_X1_discontentOfAll l D cA h0 n rg st aV aW aR aP aK aL aQ fW (midF fK n) hn H.size) (cwV 1 hts gX1_allDiscontent_X1_discontentOfAll rfl rfl rfl (by decide +kernel) ⟨Nat.le_of_ble_eq_true rfl, Nat.le_of_ble_eq_true rfl⟩) hK hP hD hX_5 1 rfl rfl rfl hl.1 rfl (Nat.le_of_ble_eq_true rfl) dX1_allDiscontent_9 ⟨Nat.le_of_ble_eq_true rfl, Nat.le_of_ble_eq_true rfl⟩) (fun r_6 u_7 H locs hw_8 hP hD hS => ?_)
  have hw_8 : r_6 = disAll fW (midF fK n) n := hw_8
  rw [hw_8]
  have hP : va_P D vwCl [(aK, .inl (cA, 12, .inl fK)), (aQ, .inr (0, [.ref aS, .int u_3.2])), (aS, .inl (cA, 12, .inl u_3.1)), (h0, .inr (1, [.int (nI n), .int rg, .int st, .ref aV, .ref aW, .ref aR, .ref aP, .ref aK, .ref aL, .ref aQ])), (aW, .inl (cA, 12, .inl fW))] H := hP
  have hD : va_D A [(aK, .inl (cA, 12, .inl fK)), (aQ, .inr (0, [.ref aS, .int u_3.2])), (aS, .inl (cA, 12, .inl u_3.1)), (h0, .inr (1, [.int (nI n), .int rg, .int st, .ref aV, .ref aW, .ref aR, .ref aP, .ref aK, .ref aL, .ref aQ])), (aW, .inl (cA, 12, .inl fW))] := hD
  refine useQ hQ ?_
  exact e_i (v := disAll fW (midF fK n) n) F hr hlocks hK hP hD hS [3, 4, 0, 1, 2] [0] (u_3.1, u_3.2) rfl rfl rfl rfl (Nat.le_of_ble_eq_true rfl) (Nat.le_of_ble_eq_true rfl) dX1_allDiscontent_12
set_option maxHeartbeats 4000000 in
set_option maxRecDepth 100000 in
theorem c_X1_bestPlank (l : Launch) (hl0 : l.stackTraces = false) (D : va_G) (cA : ClassId) (h0 : Nat) (n : Nat) (rg : Int32) (st : Int32) (aV : Nat) (aW : Nat) (aR : Nat) (aP : Nat) (aK : Nat) (aL : Nat) (aQ : Nat) (fW : Nat → Int32) (hn : n ≤ 12) (sz : Nat) : vx_Met l yX1_bestPlank wsX1_bestPlank ({ frames := 7, cells := 1, slots := 6, locals := 110 } : Room) (va_Pc [.ref h0] (Wx D [(cA, .int)] [(h0, .inr (1, [.int (nI n), .int rg, .int st, .ref aV, .ref aW, .ref aR, .ref aP, .ref aK, .ref aL, .ref aQ])), (aW, .inl (cA, 12, .inl fW))] sz)) (va_Qi (fun (r : Int32) (_ : Unit) => n ≠ 0 ∧ r = bestPl fW n) (fun (_ : Unit) t => We D [(cA, .int)] [(h0, .inr (1, [.int (nI n), .int rg, .int st, .ref aV, .ref aW, .ref aR, .ref aP, .ref aK, .ref aL, .ref aQ])), (aW, .inl (cA, 12, .inl fW))] (va_A [(h0, .inr (1, [.int (nI n), .int rg, .int st, .ref aV, .ref aW, .ref aR, .ref aP, .ref aK, .ref aL, .ref aQ])), (aW, .inl (cA, 12, .inl fW))] sz) t) (va_A [(h0, .inr (1, [.int (nI n), .int rg, .int st, .ref aV, .ref aW, .ref aR, .ref aP, .ref aK, .ref aL, .ref aQ])), (aW, .inl (cA, 12, .inl fW))] sz)) (vx_X (fun (_ : Unit) => True) (fun (E : String) (xx : Unit) t => (E = "java/lang/IllegalStateException" ∧ n = 0) ∧ We D [(cA, .int)] [(h0, .inr (1, [.int (nI n), .int rg, .int st, .ref aV, .ref aW, .ref aR, .ref aP, .ref aK, .ref aL, .ref aQ])), (aW, .inl (cA, 12, .inl fW))] (va_A [(h0, .inr (1, [.int (nI n), .int rg, .int st, .ref aV, .ref aW, .ref aR, .ref aP, .ref aK, .ref aL, .ref aQ])), (aW, .inl (cA, 12, .inl fW))] sz) t) (va_A [(h0, .inr (1, [.int (nI n), .int rg, .int st, .ref aV, .ref aW, .ref aR, .ref aP, .ref aK, .ref aL, .ref aQ])), (aW, .inl (cA, 12, .inl fW))] sz)) 1 6 (va_A [(h0, .inr (1, [.int (nI n), .int rg, .int st, .ref aV, .ref aW, .ref aR, .ref aP, .ref aK, .ref aL, .ref aQ])), (aW, .inl (cA, 12, .inl fW))] sz) := by
  refine mk_vx [.ref h0] (fun A => va_Qi (fun (r : Int32) (_ : Unit) => n ≠ 0 ∧ r = bestPl fW n) (fun (_ : Unit) t => We D [(cA, .int)] [(h0, .inr (1, [.int (nI n), .int rg, .int st, .ref aV, .ref aW, .ref aR, .ref aP, .ref aK, .ref aL, .ref aQ])), (aW, .inl (cA, 12, .inl fW))] A t) A) (fun A => vx_X (fun (_ : Unit) => True) (fun (E : String) (xx : Unit) t => (E = "java/lang/IllegalStateException" ∧ n = 0) ∧ We D [(cA, .int)] [(h0, .inr (1, [.int (nI n), .int rg, .int st, .ref aV, .ref aW, .ref aR, .ref aP, .ref aK, .ref aL, .ref aQ])), (aW, .inl (cA, 12, .inl fW))] A t) A) (by decide) rfl (Nat.le_of_ble_eq_true rfl) ?_
  intro p e s m args below meth c A ls F hr hlocks hname hno hP hK hD hXE hA hl
  have hx := F.1
  have hb := F.2.1
  have hml := F.2.2.1
  have hown := F.2.2.2.1
  have hts := F.2.2.2.2
  have hS : va_S A s.heap s.heap [] := va_S.rf
  have hl : lv_has ls 5 [(0, .ref h0)] := hl
  refine absQ (fun Q hQ => ?_)
  refine lv_aload_n hx hb dX1_bestPlank_0 rfl (lv_at hl 0 rfl) ?_
  have hX_1 : Cut D A [(h0, .inr (1, [.int (nI n), .int rg, .int st, .ref aV, .ref aW, .ref aR, .ref aP, .ref aK, .ref aL, .ref aQ])), (aW, .inl (cA, 12, .inl fW))] [(h0, .inr (1, [.int (nI n), .int rg, .int st, .ref aV, .ref aW, .ref aR, .ref aP, .ref aK, .ref aL, .ref aQ]))] [(aW, .inl (cA, 12, .inl fW))] [(cA, .int)] [(cA, .int)] [0] [1] [0] := ⟨rfl, rfl, rfl, rfl, by decide, rfl⟩
  refine xv hX_1 hP hD hS hA (xRunV (q := (RX1, TX1, 10)) (As := []) (rest := []) F (c_X1_checkSomeoneThere l hl0 D cA h0 n rg st aV aW aR aP aK aL aQ hn s.heap.size) (cwV 0 hts gX1_bestPlank_X1_checkSomeoneThere rfl rfl rfl (by decide +kernel) ⟨Nat.le_of_ble_eq_true rfl, Nat.le_of_ble_eq_true rfl⟩) hK hP hD hS hA hXE hX_1 0 rfl rfl rfl hl.1 rfl (Nat.le_of_ble_eq_true rfl) dX1_bestPlank_1 ⟨Nat.le_of_ble_eq_true rfl, Nat.le_of_ble_eq_true rfl⟩) (fun E9 ce9 q9 u_3 H locs hw_4 hP hD hS hc9 hv9 hf9 => ?_) (fun u_3 H locs hw_4 hP hD hS => ?_)
  · skip
    have hP : va_P D vwCl [(aW, .inl (cA, 12, .inl fW)), (h0, .inr (1, [.int (nI n), .int rg, .int st, .ref aV, .ref aW, .ref aR, .ref aP, .ref aK, .ref aL, .ref aQ]))] H := hP
    have hD : va_D A [(aW, .inl (cA, 12, .inl fW)), (h0, .inr (1, [.int (nI n), .int rg, .int st, .ref aV, .ref aW, .ref aR, .ref aP, .ref aK, .ref aL, .ref aQ]))] := hD
    have hw_4 : E9 = "java/lang/IllegalStateException" ∧ n = 0 := hw_4
    refine uxQ hQ ?_
    exact x_out hno hlocks hK hP hD hS [1, 0] [0] () (hw_4) rfl rfl rfl hc9 hv9 hf9 (Nat.le_of_ble_eq_true rfl) (Nat.le_of_ble_eq_true rfl)
  · skip
    have hw_4 : n ≠ 0 := hw_4
    have hP : va_P D vwCl [(aW, .inl (cA, 12, .inl fW)), (h0, .inr (1, [.int (nI n), .int rg, .int st, .ref aV, .ref aW, .ref aR, .ref aP, .ref aK, .ref aL, .ref aQ]))] H := hP
    have hD : va_D A [(aW, .inl (cA, 12, .inl fW)), (h0, .inr (1, [.int (nI n), .int rg, .int st, .ref aV, .ref aW, .ref aR, .ref aP, .ref aK, .ref aL, .ref aQ]))] := hD
    have h1 := hw_4
    refine lv_iconst (v := 0) hx hb dX1_bestPlank_4 (by decide) ?_
    refine lv_istore_n (lv' := [(1, .int 0), (0, .ref h0)]) hx hb dX1_bestPlank_5 rfl hl (by decide) rfl (fun ls hl => ?_)
    refine lv_aload_n hx hb dX1_bestPlank_6 rfl (lv_at hl 1 rfl) ?_
    refine lv_iconst (v := 0) hx hb dX1_bestPlank_7 (by decide) ?_
    have hX_5 : Cut D A [(aW, .inl (cA, 12, .inl fW)), (h0, .inr (1, [.int (nI n), .int rg, .int st, .ref aV, .ref aW, .ref aR, .ref aP, .ref aK, .ref aL, .ref aQ]))] [(h0, .inr (1, [.int (nI n), .int rg, .int st, .ref aV, .ref aW, .ref aR, .ref aP, .ref aK, .ref aL, .ref aQ])), (aW, .inl (cA, 12, .inl fW))] [] [(cA, .int)] [(cA, .int)] [1, 0] [] [0] := ⟨rfl, rfl, rfl, rfl, by decide, rfl⟩
    refine ki hX_5 hP hD hS hA (kRunV (q := (RX1, TX1, 10)) (As := [.int 0]) (rest := []) F (c_X1_discontentOfAll l D cA h0 n rg st aV aW aR aP aK aL aQ fW 0 hn H.size) (cwV 1 hts gX1_bestPlank_X1_discontentOfAll rfl rfl rfl (by decide +kernel) ⟨Nat.le_of_ble_eq_true rfl, Nat.le_of_ble_eq_true rfl⟩) hK hP hD hX_5 1 rfl rfl rfl hl.1 rfl (Nat.le_of_ble_eq_true rfl) dX1_bestPlank_8 ⟨Nat.le_of_ble_eq_true rfl, Nat.le_of_ble_eq_true rfl⟩) (fun r_6 u_7 H locs hw_8 hP hD hS => ?_)
    have hw_8 : r_6 = disAll fW 0 n := hw_8
    rw [hw_8]
    have hP : va_P D vwCl [(h0, .inr (1, [.int (nI n), .int rg, .int st, .ref aV, .ref aW, .ref aR, .ref aP, .ref aK, .ref aL, .ref aQ])), (aW, .inl (cA, 12, .inl fW))] H := hP
    have hD : va_D A [(h0, .inr (1, [.int (nI n), .int rg, .int st, .ref aV, .ref aW, .ref aR, .ref aP, .ref aK, .ref aL, .ref aQ])), (aW, .inl (cA, 12, .inl fW))] := hD
    refine lv_istore_n (lv' := [(2, .int (disAll fW 0 n)), (1, .int 0), (0, .ref h0)]) hx hb dX1_bestPlank_11 rfl hl (by decide) rfl (fun ls hl => ?_)
    refine lv_iconst (v := 1) hx hb dX1_bestPlank_12 (by decide) ?_
    refine lv_istore_n (lv' := [(3, .int 1), (2, .int (disAll fW 0 n)), (1, .int 0), (0, .ref h0)]) hx hb dX1_bestPlank_13 rfl hl (by decide) rfl (fun ls hl => ?_)
    have loop14 : ∀ (k : Nat) (q : Nat) (b : Int32) (v : Int32), (40 < q + k) → (q ≤ 40) → ((b, v) = amin (fun p => disAll fW (nI p) n) q) →  ∀ (H : Heap) (locs : List Loc), va_P D vwCl [(h0, .inr (1, [.int (nI n), .int rg, .int st, .ref aV, .ref aW, .ref aR, .ref aP, .ref aK, .ref aL, .ref aQ])), (aW, .inl (cA, 12, .inl fW))] H → va_D A [(h0, .inr (1, [.int (nI n), .int rg, .int st, .ref aV, .ref aW, .ref aR, .ref aP, .ref aK, .ref aL, .ref aQ])), (aW, .inl (cA, 12, .inl fW))] → va_S A s.heap H locs → ∀ ls : Array Slot, lv_has ls 5 [(3, .int (nI (q + 1))), (2, .int v), (1, .int b), (0, .ref h0)] → W p l e ({ frames := 7, cells := 1, slots := 6, locals := 110 } : Room) s m args below meth c H locs 1 6 Q (F0 m 14 ls []) := by
      intro k
      induction k with
      | zero =>
        intro q b v hk hq hMin
        exact absurd hk (by omega)
      | succ k ih14 =>
        intro q b v hk hq hMin H locs hP hD hS ls hl
        refine lv_iload_n hx hb dX1_bestPlank_14 rfl (lv_at hl 0 rfl) ?_
        refine lv_bipush (v := 41) hx hb dX1_bestPlank_15 (by decide) ?_
        refine lv_icmp_ge (tgt := 44) hx hb dX1_bestPlank_17 (by decide) (fun c_17 => ?_) (fun c_17 => ?_)
        · skip
          have g_17 : 41 ≤ q + 1 := nf_ge_t (by omega) (by omega) c_17
          refine lv_iload_n hx hb dX1_bestPlank_44 rfl (lv_at hl 2 rfl) ?_
          refine useQ hQ (vx_ret ?_)
          exact e_i (v := b) F hr hlocks hK hP hD hS [0, 1] [0] () (⟨h1, by rw [show q = 40 by omega] at hMin; exact congrArg Prod.fst hMin⟩) rfl rfl rfl (Nat.le_of_ble_eq_true rfl) (Nat.le_of_ble_eq_true rfl) dX1_bestPlank_45
        · skip
          have g_17 : q + 1 < 41 := nf_ge_f (by omega) (by omega) c_17
          refine lv_aload_n hx hb dX1_bestPlank_20 rfl (lv_at hl 3 rfl) ?_
          refine lv_iload_n hx hb dX1_bestPlank_21 rfl (lv_at hl 0 rfl) ?_
          have hX_9 : Cut D A [(h0, .inr (1, [.int (nI n), .int rg, .int st, .ref aV, .ref aW, .ref aR, .ref aP, .ref aK, .ref aL, .ref aQ])), (aW, .inl (cA, 12, .inl fW))] [(h0, .inr (1, [.int (nI n), .int rg, .int st, .ref aV, .ref aW, .ref aR, .ref aP, .ref aK, .ref aL, .ref aQ])), (aW, .inl (cA, 12, .inl fW))] [] [(cA, .int)] [(cA, .int)] [0, 1] [] [0] := ⟨rfl, rfl, rfl, rfl, by decide, rfl⟩
          refine ki hX_9 hP hD hS hA (kRunV (q := (RX1, TX1, 10)) (As := [.int (nI (q + 1))]) (rest := []) F (c_X1_discontentOfAll l D cA h0 n rg st aV aW aR aP aK aL aQ fW (nI (q + 1)) hn H.size) (cwV 1 hts gX1_bestPlank_X1_discontentOfAll rfl rfl rfl (by decide +kernel) ⟨Nat.le_of_ble_eq_true rfl, Nat.le_of_ble_eq_true rfl⟩) hK hP hD hX_9 0 rfl rfl rfl hl.1 rfl (Nat.le_of_ble_eq_true rfl) dX1_bestPlank_22 ⟨Nat.le_of_ble_eq_true rfl, Nat.le_of_ble_eq_true rfl⟩) (fun r_10 u_11 H locs hw_12 hP hD hS => ?_)
          have hw_12 : r_10 = disAll fW (nI (q + 1)) n := hw_12
          rw [hw_12]
          have hP : va_P D vwCl [(h0, .inr (1, [.int (nI n), .int rg, .int st, .ref aV, .ref aW, .ref aR, .ref aP, .ref aK, .ref aL, .ref aQ])), (aW, .inl (cA, 12, .inl fW))] H := hP
          have hD : va_D A [(h0, .inr (1, [.int (nI n), .int rg, .int st, .ref aV, .ref aW, .ref aR, .ref aP, .ref aK, .ref aL, .ref aQ])), (aW, .inl (cA, 12, .inl fW))] := hD
          refine lv_istore (lv' := [(4, .int (disAll fW (nI (q + 1)) n)), (3, .int (nI (q + 1))), (2, .int v), (1, .int b), (0, .ref h0)]) hx hb dX1_bestPlank_25 hl (by decide) rfl (fun ls hl => ?_)
          refine lv_iload hx hb dX1_bestPlank_27 (lv_at hl 0 rfl) ?_
          refine lv_iload_n hx hb dX1_bestPlank_29 rfl (lv_at hl 2 rfl) ?_
          refine lv_icmp_ge (tgt := 38) hx hb dX1_bestPlank_30 (by decide) (fun c_30 => ?_) (fun c_30 => ?_)
          · skip
            refine lv_iinc (v := nI (q + 1 + 1)) (lv' := [(3, .int (nI (q + 1 + 1))), (4, .int (disAll fW (nI (q + 1)) n)), (2, .int v), (1, .int b), (0, .ref h0)]) hx hb dX1_bestPlank_38 hl (k := 1) rfl (nI_1 _) (by decide) rfl (fun ls hl => ?_)
            refine lv_goto (tgt := 14) hx hb dX1_bestPlank_41 (by decide) ?_
            exact ih14 (q + 1) b v (by omega) (by omega) (amin_ge hMin (Int32.not_lt.mpr c_30)) _ _ (hP.sub [0, 1] rfl) (hD.sub [0, 1] (by decide) rfl) hS ls (lv_sub hl [0, 2, 3, 4] rfl)
          · skip
            refine lv_iload hx hb dX1_bestPlank_33 (lv_at hl 0 rfl) ?_
            refine lv_istore_n (lv' := [(2, .int (disAll fW (nI (q + 1)) n)), (4, .int (disAll fW (nI (q + 1)) n)), (3, .int (nI (q + 1))), (1, .int b), (0, .ref h0)]) hx hb dX1_bestPlank_35 rfl hl (by decide) rfl (fun ls hl => ?_)
            refine lv_iload_n hx hb dX1_bestPlank_36 rfl (lv_at hl 2 rfl) ?_
            refine lv_istore_n (lv' := [(1, .int (nI (q + 1))), (2, .int (disAll fW (nI (q + 1)) n)), (4, .int (disAll fW (nI (q + 1)) n)), (3, .int (nI (q + 1))), (0, .ref h0)]) hx hb dX1_bestPlank_37 rfl hl (by decide) rfl (fun ls hl => ?_)
            refine lv_iinc (v := nI (q + 1 + 1)) (lv' := [(3, .int (nI (q + 1 + 1))), (1, .int (nI (q + 1))), (2, .int (disAll fW (nI (q + 1)) n)), (4, .int (disAll fW (nI (q + 1)) n)), (0, .ref h0)]) hx hb dX1_bestPlank_38 hl (k := 3) rfl (nI_1 _) (by decide) rfl (fun ls hl => ?_)
            refine lv_goto (tgt := 14) hx hb dX1_bestPlank_41 (by decide) ?_
            exact ih14 (q + 1) (nI (q + 1)) (disAll fW (nI (q + 1)) n) (by omega) (by omega) (amin_lt hMin (Int32.not_le.mp c_30)) _ _ (hP.sub [0, 1] rfl) (hD.sub [0, 1] (by decide) rfl) hS ls (lv_sub hl [0, 2, 1, 4] rfl)
    exact loop14 (41) 0 0 (disAll fW 0 n) (by omega) (Nat.zero_le _) rfl _ _ (hP.sub [0, 1] rfl) (hD.sub [0, 1] (by decide) rfl) hS ls (lv_sub hl [0, 1, 2, 3] rfl)
set_option maxHeartbeats 4000000 in
set_option maxRecDepth 100000 in
theorem c_X1_votesFor (l : Launch) (hl0 : l.stackTraces = false) (D : va_G) (cA : ClassId) (h0 : Nat) (n : Nat) (rg : Int32) (st : Int32) (aV : Nat) (aW : Nat) (aR : Nat) (aP : Nat) (aK : Nat) (aL : Nat) (aQ : Nat) (fW : Nat → Int32) (x : Int32) (y : Int32) (hn : n ≤ 12) (sz : Nat) : vx_Met l yX1_votesFor wsX1_votesFor ({ frames := 8, cells := 3, slots := 18, locals := 131 } : Room) (va_Pc [.ref h0, .int x, .int y] (Wx D [(cA, .int)] [(h0, .inr (1, [.int (nI n), .int rg, .int st, .ref aV, .ref aW, .ref aR, .ref aP, .ref aK, .ref aL, .ref aQ])), (aW, .inl (cA, 12, .inl fW))] sz)) (va_Qi (fun (r : Int32) (_ : Unit) => cd2 (¬ (okD 41 x ∧ okD 41 y)) (x = y) = 0 ∧ r = votes fW x y n) (fun (_ : Unit) t => We D [(cA, .int)] [(h0, .inr (1, [.int (nI n), .int rg, .int st, .ref aV, .ref aW, .ref aR, .ref aP, .ref aK, .ref aL, .ref aQ])), (aW, .inl (cA, 12, .inl fW))] (va_A [(h0, .inr (1, [.int (nI n), .int rg, .int st, .ref aV, .ref aW, .ref aR, .ref aP, .ref aK, .ref aL, .ref aQ])), (aW, .inl (cA, 12, .inl fW))] sz) t) (va_A [(h0, .inr (1, [.int (nI n), .int rg, .int st, .ref aV, .ref aW, .ref aR, .ref aP, .ref aK, .ref aL, .ref aQ])), (aW, .inl (cA, 12, .inl fW))] sz)) (vx_X (fun (_ : Unit) => True) (fun (E : String) (xx : Unit) t => ((E = "java/lang/IndexOutOfBoundsException" ∧ cd2 (¬ (okD 41 x ∧ okD 41 y)) (x = y) = 1) ∨ (E = "java/lang/IllegalArgumentException" ∧ cd2 (¬ (okD 41 x ∧ okD 41 y)) (x = y) = 2)) ∧ We D [(cA, .int)] [(h0, .inr (1, [.int (nI n), .int rg, .int st, .ref aV, .ref aW, .ref aR, .ref aP, .ref aK, .ref aL, .ref aQ])), (aW, .inl (cA, 12, .inl fW))] (va_A [(h0, .inr (1, [.int (nI n), .int rg, .int st, .ref aV, .ref aW, .ref aR, .ref aP, .ref aK, .ref aL, .ref aQ])), (aW, .inl (cA, 12, .inl fW))] sz) t) (va_A [(h0, .inr (1, [.int (nI n), .int rg, .int st, .ref aV, .ref aW, .ref aR, .ref aP, .ref aK, .ref aL, .ref aQ])), (aW, .inl (cA, 12, .inl fW))] sz)) 3 18 (va_A [(h0, .inr (1, [.int (nI n), .int rg, .int st, .ref aV, .ref aW, .ref aR, .ref aP, .ref aK, .ref aL, .ref aQ])), (aW, .inl (cA, 12, .inl fW))] sz) := by
  refine mk_vx [.ref h0, .int x, .int y] (fun A => va_Qi (fun (r : Int32) (_ : Unit) => cd2 (¬ (okD 41 x ∧ okD 41 y)) (x = y) = 0 ∧ r = votes fW x y n) (fun (_ : Unit) t => We D [(cA, .int)] [(h0, .inr (1, [.int (nI n), .int rg, .int st, .ref aV, .ref aW, .ref aR, .ref aP, .ref aK, .ref aL, .ref aQ])), (aW, .inl (cA, 12, .inl fW))] A t) A) (fun A => vx_X (fun (_ : Unit) => True) (fun (E : String) (xx : Unit) t => ((E = "java/lang/IndexOutOfBoundsException" ∧ cd2 (¬ (okD 41 x ∧ okD 41 y)) (x = y) = 1) ∨ (E = "java/lang/IllegalArgumentException" ∧ cd2 (¬ (okD 41 x ∧ okD 41 y)) (x = y) = 2)) ∧ We D [(cA, .int)] [(h0, .inr (1, [.int (nI n), .int rg, .int st, .ref aV, .ref aW, .ref aR, .ref aP, .ref aK, .ref aL, .ref aQ])), (aW, .inl (cA, 12, .inl fW))] A t) A) (by decide) rfl (Nat.le_of_ble_eq_true rfl) ?_
  intro p e s m args below meth c A ls F hr hlocks hname hno hP hK hD hXE hA hl
  have hx := F.1
  have hb := F.2.1
  have hml := F.2.2.1
  have hown := F.2.2.2.1
  have hts := F.2.2.2.2
  have hS : va_S A s.heap s.heap [] := va_S.rf
  have hl : lv_has ls 3 [(0, .ref h0), (1, .int x), (2, .int y)] := hl
  refine absQ (fun Q hQ => ?_)
  refine lv_iload_n hx hb dX1_votesFor_0 rfl (lv_at hl 1 rfl) ?_
  refine lv_iload_n hx hb dX1_votesFor_1 rfl (lv_at hl 2 rfl) ?_
  have hX_1 : Cut D A [(h0, .inr (1, [.int (nI n), .int rg, .int st, .ref aV, .ref aW, .ref aR, .ref aP, .ref aK, .ref aL, .ref aQ])), (aW, .inl (cA, 12, .inl fW))] [] [(h0, .inr (1, [.int (nI n), .int rg, .int st, .ref aV, .ref aW, .ref aR, .ref aP, .ref aK, .ref aL, .ref aQ])), (aW, .inl (cA, 12, .inl fW))] [(cA, .int)] [] [] [0, 1] [] := ⟨rfl, rfl, rfl, rfl, by decide, rfl⟩
  refine xv hX_1 hP hD hS hA (xRunS (As := [.int x, .int y]) (rest := []) F (c_X1_checkTwoPlanks l hl0 D x y s.heap.size) (va_cwS 2 hts gX1_votesFor_X1_checkTwoPlanks rfl rfl rfl (by decide +kernel) ⟨Nat.le_of_ble_eq_true rfl, Nat.le_of_ble_eq_true rfl⟩) hK hP hD hS hA hXE hX_1 rfl hl.1 rfl (Nat.le_of_ble_eq_true rfl) dX1_votesFor_2 ⟨Nat.le_of_ble_eq_true rfl, Nat.le_of_ble_eq_true rfl⟩) (fun E9 ce9 q9 u_3 H locs hw_4 hP hD hS hc9 hv9 hf9 => ?_) (fun u_3 H locs hw_4 hP hD hS => ?_)
  · skip
    have hP : va_P D vwCl [(h0, .inr (1, [.int (nI n), .int rg, .int st, .ref aV, .ref aW, .ref aR, .ref aP, .ref aK, .ref aL, .ref aQ])), (aW, .inl (cA, 12, .inl fW))] H := hP
    have hD : va_D A [(h0, .inr (1, [.int (nI n), .int rg, .int st, .ref aV, .ref aW, .ref aR, .ref aP, .ref aK, .ref aL, .ref aQ])), (aW, .inl (cA, 12, .inl fW))] := hD
    have hw_4 : (E9 = "java/lang/IndexOutOfBoundsException" ∧ cd2 (¬ (okD 41 x ∧ okD 41 y)) (x = y) = 1) ∨ (E9 = "java/lang/IllegalArgumentException" ∧ cd2 (¬ (okD 41 x ∧ okD 41 y)) (x = y) = 2) := hw_4
    refine uxQ hQ ?_
    exact x_out hno hlocks hK hP hD hS [0, 1] [0] () (hw_4) rfl rfl rfl hc9 hv9 hf9 (Nat.le_of_ble_eq_true rfl) (Nat.le_of_ble_eq_true rfl)
  · skip
    have hw_4 : cd2 (¬ (okD 41 x ∧ okD 41 y)) (x = y) = 0 := hw_4
    have hP : va_P D vwCl [(h0, .inr (1, [.int (nI n), .int rg, .int st, .ref aV, .ref aW, .ref aR, .ref aP, .ref aK, .ref aL, .ref aQ])), (aW, .inl (cA, 12, .inl fW))] H := hP
    have hD : va_D A [(h0, .inr (1, [.int (nI n), .int rg, .int st, .ref aV, .ref aW, .ref aR, .ref aP, .ref aK, .ref aL, .ref aQ])), (aW, .inl (cA, 12, .inl fW))] := hD
    have h1 := hw_4
    refine lv_aload_n hx hb dX1_votesFor_5 rfl (lv_at hl 0 rfl) ?_
    refine lv_iload_n hx hb dX1_votesFor_6 rfl (lv_at hl 1 rfl) ?_
    refine lv_iload_n hx hb dX1_votesFor_7 rfl (lv_at hl 2 rfl) ?_
    have hX_5 : Cut D A [(h0, .inr (1, [.int (nI n), .int rg, .int st, .ref aV, .ref aW, .ref aR, .ref aP, .ref aK, .ref aL, .ref aQ])), (aW, .inl (cA, 12, .inl fW))] [(h0, .inr (1, [.int (nI n), .int rg, .int st, .ref aV, .ref aW, .ref aR, .ref aP, .ref aK, .ref aL, .ref aQ])), (aW, .inl (cA, 12, .inl fW))] [] [(cA, .int)] [(cA, .int)] [0, 1] [] [0] := ⟨rfl, rfl, rfl, rfl, by decide, rfl⟩
    refine ki hX_5 hP hD hS hA (kRunV (q := (RX1, TX1, 10)) (As := [.int x, .int y]) (rest := []) F (c_X1_countVotes l D cA h0 n rg st aV aW aR aP aK aL aQ fW x y hn H.size) (cwV 2 hts gX1_votesFor_X1_countVotes rfl rfl rfl (by decide +kernel) ⟨Nat.le_of_ble_eq_true rfl, Nat.le_of_ble_eq_true rfl⟩) hK hP hD hX_5 0 rfl rfl rfl hl.1 rfl (Nat.le_of_ble_eq_true rfl) dX1_votesFor_8 ⟨Nat.le_of_ble_eq_true rfl, Nat.le_of_ble_eq_true rfl⟩) (fun r_6 u_7 H locs hw_8 hP hD hS => ?_)
    have hw_8 : r_6 = votes fW x y n := hw_8
    rw [hw_8]
    have hP : va_P D vwCl [(h0, .inr (1, [.int (nI n), .int rg, .int st, .ref aV, .ref aW, .ref aR, .ref aP, .ref aK, .ref aL, .ref aQ])), (aW, .inl (cA, 12, .inl fW))] H := hP
    have hD : va_D A [(h0, .inr (1, [.int (nI n), .int rg, .int st, .ref aV, .ref aW, .ref aR, .ref aP, .ref aK, .ref aL, .ref aQ])), (aW, .inl (cA, 12, .inl fW))] := hD
    refine useQ hQ (vx_ret ?_)
    exact e_i (v := votes fW x y n) F hr hlocks hK hP hD hS [0, 1] [0] () (⟨h1, rfl⟩) rfl rfl rfl (Nat.le_of_ble_eq_true rfl) (Nat.le_of_ble_eq_true rfl) dX1_votesFor_11
set_option maxHeartbeats 4000000 in
set_option maxRecDepth 100000 in
theorem c_X1_winnerOf (l : Launch) (hl0 : l.stackTraces = false) (D : va_G) (cA : ClassId) (h0 : Nat) (n : Nat) (rg : Int32) (st : Int32) (aV : Nat) (aW : Nat) (aR : Nat) (aP : Nat) (aK : Nat) (aL : Nat) (aQ : Nat) (fW : Nat → Int32) (x : Int32) (y : Int32) (hn : n ≤ 12) (sz : Nat) : vx_Met l yX1_winnerOf wsX1_winnerOf ({ frames := 8, cells := 3, slots := 18, locals := 131 } : Room) (va_Pc [.ref h0, .int x, .int y] (Wx D [(cA, .int)] [(h0, .inr (1, [.int (nI n), .int rg, .int st, .ref aV, .ref aW, .ref aR, .ref aP, .ref aK, .ref aL, .ref aQ])), (aW, .inl (cA, 12, .inl fW))] sz)) (va_Qi (fun (r : Int32) (_ : Unit) => cd2 (¬ (okD 41 x ∧ okD 41 y)) (x = y) = 0 ∧ r = winF (votes fW x y n) (votes fW y x n) x y) (fun (_ : Unit) t => We D [(cA, .int)] [(h0, .inr (1, [.int (nI n), .int rg, .int st, .ref aV, .ref aW, .ref aR, .ref aP, .ref aK, .ref aL, .ref aQ])), (aW, .inl (cA, 12, .inl fW))] (va_A [(h0, .inr (1, [.int (nI n), .int rg, .int st, .ref aV, .ref aW, .ref aR, .ref aP, .ref aK, .ref aL, .ref aQ])), (aW, .inl (cA, 12, .inl fW))] sz) t) (va_A [(h0, .inr (1, [.int (nI n), .int rg, .int st, .ref aV, .ref aW, .ref aR, .ref aP, .ref aK, .ref aL, .ref aQ])), (aW, .inl (cA, 12, .inl fW))] sz)) (vx_X (fun (_ : Unit) => True) (fun (E : String) (xx : Unit) t => ((E = "java/lang/IndexOutOfBoundsException" ∧ cd2 (¬ (okD 41 x ∧ okD 41 y)) (x = y) = 1) ∨ (E = "java/lang/IllegalArgumentException" ∧ cd2 (¬ (okD 41 x ∧ okD 41 y)) (x = y) = 2)) ∧ We D [(cA, .int)] [(h0, .inr (1, [.int (nI n), .int rg, .int st, .ref aV, .ref aW, .ref aR, .ref aP, .ref aK, .ref aL, .ref aQ])), (aW, .inl (cA, 12, .inl fW))] (va_A [(h0, .inr (1, [.int (nI n), .int rg, .int st, .ref aV, .ref aW, .ref aR, .ref aP, .ref aK, .ref aL, .ref aQ])), (aW, .inl (cA, 12, .inl fW))] sz) t) (va_A [(h0, .inr (1, [.int (nI n), .int rg, .int st, .ref aV, .ref aW, .ref aR, .ref aP, .ref aK, .ref aL, .ref aQ])), (aW, .inl (cA, 12, .inl fW))] sz)) 3 18 (va_A [(h0, .inr (1, [.int (nI n), .int rg, .int st, .ref aV, .ref aW, .ref aR, .ref aP, .ref aK, .ref aL, .ref aQ])), (aW, .inl (cA, 12, .inl fW))] sz) := by
  refine mk_vx [.ref h0, .int x, .int y] (fun A => va_Qi (fun (r : Int32) (_ : Unit) => cd2 (¬ (okD 41 x ∧ okD 41 y)) (x = y) = 0 ∧ r = winF (votes fW x y n) (votes fW y x n) x y) (fun (_ : Unit) t => We D [(cA, .int)] [(h0, .inr (1, [.int (nI n), .int rg, .int st, .ref aV, .ref aW, .ref aR, .ref aP, .ref aK, .ref aL, .ref aQ])), (aW, .inl (cA, 12, .inl fW))] A t) A) (fun A => vx_X (fun (_ : Unit) => True) (fun (E : String) (xx : Unit) t => ((E = "java/lang/IndexOutOfBoundsException" ∧ cd2 (¬ (okD 41 x ∧ okD 41 y)) (x = y) = 1) ∨ (E = "java/lang/IllegalArgumentException" ∧ cd2 (¬ (okD 41 x ∧ okD 41 y)) (x = y) = 2)) ∧ We D [(cA, .int)] [(h0, .inr (1, [.int (nI n), .int rg, .int st, .ref aV, .ref aW, .ref aR, .ref aP, .ref aK, .ref aL, .ref aQ])), (aW, .inl (cA, 12, .inl fW))] A t) A) (by decide) rfl (Nat.le_of_ble_eq_true rfl) ?_
  intro p e s m args below meth c A ls F hr hlocks hname hno hP hK hD hXE hA hl
  have hx := F.1
  have hb := F.2.1
  have hml := F.2.2.1
  have hown := F.2.2.2.1
  have hts := F.2.2.2.2
  have hS : va_S A s.heap s.heap [] := va_S.rf
  have hl : lv_has ls 5 [(0, .ref h0), (1, .int x), (2, .int y)] := hl
  refine absQ (fun Q hQ => ?_)
  refine lv_iload_n hx hb dX1_winnerOf_0 rfl (lv_at hl 1 rfl) ?_
  refine lv_iload_n hx hb dX1_winnerOf_1 rfl (lv_at hl 2 rfl) ?_
  have hX_1 : Cut D A [(h0, .inr (1, [.int (nI n), .int rg, .int st, .ref aV, .ref aW, .ref aR, .ref aP, .ref aK, .ref aL, .ref aQ])), (aW, .inl (cA, 12, .inl fW))] [] [(h0, .inr (1, [.int (nI n), .int rg, .int st, .ref aV, .ref aW, .ref aR, .ref aP, .ref aK, .ref aL, .ref aQ])), (aW, .inl (cA, 12, .inl fW))] [(cA, .int)] [] [] [0, 1] [] := ⟨rfl, rfl, rfl, rfl, by decide, rfl⟩
  refine xv hX_1 hP hD hS hA (xRunS (As := [.int x, .int y]) (rest := []) F (c_X1_checkTwoPlanks l hl0 D x y s.heap.size) (va_cwS 2 hts gX1_winnerOf_X1_checkTwoPlanks rfl rfl rfl (by decide +kernel) ⟨Nat.le_of_ble_eq_true rfl, Nat.le_of_ble_eq_true rfl⟩) hK hP hD hS hA hXE hX_1 rfl hl.1 rfl (Nat.le_of_ble_eq_true rfl) dX1_winnerOf_2 ⟨Nat.le_of_ble_eq_true rfl, Nat.le_of_ble_eq_true rfl⟩) (fun E9 ce9 q9 u_3 H locs hw_4 hP hD hS hc9 hv9 hf9 => ?_) (fun u_3 H locs hw_4 hP hD hS => ?_)
  · skip
    have hP : va_P D vwCl [(h0, .inr (1, [.int (nI n), .int rg, .int st, .ref aV, .ref aW, .ref aR, .ref aP, .ref aK, .ref aL, .ref aQ])), (aW, .inl (cA, 12, .inl fW))] H := hP
    have hD : va_D A [(h0, .inr (1, [.int (nI n), .int rg, .int st, .ref aV, .ref aW, .ref aR, .ref aP, .ref aK, .ref aL, .ref aQ])), (aW, .inl (cA, 12, .inl fW))] := hD
    have hw_4 : (E9 = "java/lang/IndexOutOfBoundsException" ∧ cd2 (¬ (okD 41 x ∧ okD 41 y)) (x = y) = 1) ∨ (E9 = "java/lang/IllegalArgumentException" ∧ cd2 (¬ (okD 41 x ∧ okD 41 y)) (x = y) = 2) := hw_4
    refine uxQ hQ ?_
    exact x_out hno hlocks hK hP hD hS [0, 1] [0] () (hw_4) rfl rfl rfl hc9 hv9 hf9 (Nat.le_of_ble_eq_true rfl) (Nat.le_of_ble_eq_true rfl)
  · skip
    have hw_4 : cd2 (¬ (okD 41 x ∧ okD 41 y)) (x = y) = 0 := hw_4
    have hP : va_P D vwCl [(h0, .inr (1, [.int (nI n), .int rg, .int st, .ref aV, .ref aW, .ref aR, .ref aP, .ref aK, .ref aL, .ref aQ])), (aW, .inl (cA, 12, .inl fW))] H := hP
    have hD : va_D A [(h0, .inr (1, [.int (nI n), .int rg, .int st, .ref aV, .ref aW, .ref aR, .ref aP, .ref aK, .ref aL, .ref aQ])), (aW, .inl (cA, 12, .inl fW))] := hD
    have h1 := hw_4
    refine lv_aload_n hx hb dX1_winnerOf_5 rfl (lv_at hl 0 rfl) ?_
    refine lv_iload_n hx hb dX1_winnerOf_6 rfl (lv_at hl 1 rfl) ?_
    refine lv_iload_n hx hb dX1_winnerOf_7 rfl (lv_at hl 2 rfl) ?_
    have hX_5 : Cut D A [(h0, .inr (1, [.int (nI n), .int rg, .int st, .ref aV, .ref aW, .ref aR, .ref aP, .ref aK, .ref aL, .ref aQ])), (aW, .inl (cA, 12, .inl fW))] [(h0, .inr (1, [.int (nI n), .int rg, .int st, .ref aV, .ref aW, .ref aR, .ref aP, .ref aK, .ref aL, .ref aQ])), (aW, .inl (cA, 12, .inl fW))] [] [(cA, .int)] [(cA, .int)] [0, 1] [] [0] := ⟨rfl, rfl, rfl, rfl, by decide, rfl⟩
    refine ki hX_5 hP hD hS hA (kRunV (q := (RX1, TX1, 10)) (As := [.int x, .int y]) (rest := []) F (c_X1_countVotes l D cA h0 n rg st aV aW aR aP aK aL aQ fW x y hn H.size) (cwV 2 hts gX1_winnerOf_X1_countVotes rfl rfl rfl (by decide +kernel) ⟨Nat.le_of_ble_eq_true rfl, Nat.le_of_ble_eq_true rfl⟩) hK hP hD hX_5 0 rfl rfl rfl hl.1 rfl (Nat.le_of_ble_eq_true rfl) dX1_winnerOf_8 ⟨Nat.le_of_ble_eq_true rfl, Nat.le_of_ble_eq_true rfl⟩) (fun r_6 u_7 H locs hw_8 hP hD hS => ?_)
    have hw_8 : r_6 = votes fW x y n := hw_8
    rw [hw_8]
    have hP : va_P D vwCl [(h0, .inr (1, [.int (nI n), .int rg, .int st, .ref aV, .ref aW, .ref aR, .ref aP, .ref aK, .ref aL, .ref aQ])), (aW, .inl (cA, 12, .inl fW))] H := hP
    have hD : va_D A [(h0, .inr (1, [.int (nI n), .int rg, .int st, .ref aV, .ref aW, .ref aR, .ref aP, .ref aK, .ref aL, .ref aQ])), (aW, .inl (cA, 12, .inl fW))] := hD
    refine lv_istore_n (lv' := [(3, .int (votes fW x y n)), (0, .ref h0), (1, .int x), (2, .int y)]) hx hb dX1_winnerOf_11 rfl hl (by decide) rfl (fun ls hl => ?_)
    refine lv_aload_n hx hb dX1_winnerOf_12 rfl (lv_at hl 1 rfl) ?_
    refine lv_iload_n hx hb dX1_winnerOf_13 rfl (lv_at hl 3 rfl) ?_
    refine lv_iload_n hx hb dX1_winnerOf_14 rfl (lv_at hl 2 rfl) ?_
    have hX_9 : Cut D A [(h0, .inr (1, [.int (nI n), .int rg, .int st, .ref aV, .ref aW, .ref aR, .ref aP, .ref aK, .ref aL, .ref aQ])), (aW, .inl (cA, 12, .inl fW))] [(h0, .inr (1, [.int (nI n), .int rg, .int st, .ref aV, .ref aW, .ref aR, .ref aP, .ref aK, .ref aL, .ref aQ])), (aW, .inl (cA, 12, .inl fW))] [] [(cA, .int)] [(cA, .int)] [0, 1] [] [0] := ⟨rfl, rfl, rfl, rfl, by decide, rfl⟩
    refine ki hX_9 hP hD hS hA (kRunV (q := (RX1, TX1, 10)) (As := [.int y, .int x]) (rest := []) F (c_X1_countVotes l D cA h0 n rg st aV aW aR aP aK aL aQ fW y x hn H.size) (cwV 2 hts gX1_winnerOf_X1_countVotes rfl rfl rfl (by decide +kernel) ⟨Nat.le_of_ble_eq_true rfl, Nat.le_of_ble_eq_true rfl⟩) hK hP hD hX_9 0 rfl rfl rfl hl.1 rfl (Nat.le_of_ble_eq_true rfl) dX1_winnerOf_15 ⟨Nat.le_of_ble_eq_true rfl, Nat.le_of_ble_eq_true rfl⟩) (fun r_10 u_11 H locs hw_12 hP hD hS => ?_)
    have hw_12 : r_10 = votes fW y x n := hw_12
    rw [hw_12]
    have hP : va_P D vwCl [(h0, .inr (1, [.int (nI n), .int rg, .int st, .ref aV, .ref aW, .ref aR, .ref aP, .ref aK, .ref aL, .ref aQ])), (aW, .inl (cA, 12, .inl fW))] H := hP
    have hD : va_D A [(h0, .inr (1, [.int (nI n), .int rg, .int st, .ref aV, .ref aW, .ref aR, .ref aP, .ref aK, .ref aL, .ref aQ])), (aW, .inl (cA, 12, .inl fW))] := hD
    refine lv_istore (lv' := [(4, .int (votes fW y x n)), (3, .int (votes fW x y n)), (0, .ref h0), (1, .int x), (2, .int y)]) hx hb dX1_winnerOf_18 hl (by decide) rfl (fun ls hl => ?_)
    refine lv_iload_n hx hb dX1_winnerOf_20 rfl (lv_at hl 1 rfl) ?_
    refine lv_iload hx hb dX1_winnerOf_21 (lv_at hl 0 rfl) ?_
    refine lv_icmp_ne (tgt := 32) hx hb dX1_winnerOf_23 (by decide) (fun c_23 => ?_) (fun c_23 => ?_)
    · skip
      refine lv_iload_n hx hb dX1_winnerOf_32 rfl (lv_at hl 1 rfl) ?_
      refine lv_iload hx hb dX1_winnerOf_33 (lv_at hl 0 rfl) ?_
      refine lv_icmp_le (tgt := 42) hx hb dX1_winnerOf_35 (by decide) (fun c_35 => ?_) (fun c_35 => ?_)
      · skip
        refine lv_iload_n hx hb dX1_winnerOf_42 rfl (lv_at hl 4 rfl) ?_
        refine useQ hQ (vx_ret ?_)
        exact e_i (v := y) F hr hlocks hK hP hD hS [0, 1] [0] () (⟨h1, winF_lt c_23 (Int32.not_lt.mpr c_35)⟩) rfl rfl rfl (Nat.le_of_ble_eq_true rfl) (Nat.le_of_ble_eq_true rfl) dX1_winnerOf_43
      · skip
        refine lv_iload_n hx hb dX1_winnerOf_38 rfl (lv_at hl 3 rfl) ?_
        refine lv_goto (tgt := 43) hx hb dX1_winnerOf_39 (by decide) ?_
        refine useQ hQ (vx_ret ?_)
        exact e_i (v := x) F hr hlocks hK hP hD hS [0, 1] [0] () (⟨h1, winF_gt c_23 (Int32.not_le.mp c_35)⟩) rfl rfl rfl (Nat.le_of_ble_eq_true rfl) (Nat.le_of_ble_eq_true rfl) dX1_winnerOf_43
    · skip
      refine lv_iload_n hx hb dX1_winnerOf_26 rfl (lv_at hl 3 rfl) ?_
      refine lv_iload_n hx hb dX1_winnerOf_27 rfl (lv_at hl 4 rfl) ?_
      refine va_mmin hx hb (hml.trans hl.1.symm) hown (hts (.methodLink RX1 146 Lib.Math.min.name) (List.mem_of_getElem? (i := 1) rfl)) (hts (.static Lib.Math.min.name) (List.mem_of_getElem? (i := 2) rfl)) (hts (.initialized "java/lang/Math") (List.mem_of_getElem? (i := 3) rfl)) (hts (.code Lib.Math.min.name Lib.Math.min.code 2 (some .int)) (List.mem_of_getElem? (i := 4) rfl)) (Nat.le_of_ble_eq_true rfl) (Nat.le_of_ble_eq_true rfl) (Nat.le_of_ble_eq_true rfl) (Nat.le_of_ble_eq_true rfl) dX1_winnerOf_28 ?_
      refine topi (jmin x y) rfl ?_
      refine useQ hQ (vx_ret ?_)
      exact e_i (v := (jmin x y)) F hr hlocks hK hP hD hS [0, 1] [0] () (⟨h1, winF_eq c_23⟩) rfl rfl rfl (Nat.le_of_ble_eq_true rfl) (Nat.le_of_ble_eq_true rfl) dX1_winnerOf_31
set_option maxHeartbeats 4000000 in
set_option maxRecDepth 100000 in
theorem c_X1_canLeadTo (l : Launch) (hl0 : l.stackTraces = false) (D : va_G) (cA : ClassId) (h0 : Nat) (n : Nat) (rg : Int32) (st : Int32) (aV : Nat) (aW : Nat) (aR : Nat) (aP : Nat) (aK : Nat) (aL : Nat) (aQ : Nat) (fW : Nat → Int32) (fR : Nat → Int32) (fK : Nat → Int32) (d : Int32) (x : Int32) (hn : n ≤ 12) (sz : Nat) : vx_Met l yX1_canLeadTo wsX1_canLeadTo ({ frames := 7, cells := 2, slots := 12, locals := 111 } : Room) (va_Pc [.ref h0, .int d, .int x] (Wx D [(cA, .int)] [(h0, .inr (1, [.int (nI n), .int rg, .int st, .ref aV, .ref aW, .ref aR, .ref aP, .ref aK, .ref aL, .ref aQ])), (aW, .inl (cA, 12, .inl fW)), (aR, .inl (cA, 12, .inl fR)), (aK, .inl (cA, 12, .inl fK))] sz)) (va_Qi (fun (r : Int32) (_ : Unit) => cd1 (¬ (okD n d ∧ okD 41 x)) = 0 ∧ r = bP (canP fW fR fK n st (dN d) x)) (fun (_ : Unit) t => We D [(cA, .int)] [(h0, .inr (1, [.int (nI n), .int rg, .int st, .ref aV, .ref aW, .ref aR, .ref aP, .ref aK, .ref aL, .ref aQ])), (aW, .inl (cA, 12, .inl fW)), (aR, .inl (cA, 12, .inl fR)), (aK, .inl (cA, 12, .inl fK))] (va_A [(h0, .inr (1, [.int (nI n), .int rg, .int st, .ref aV, .ref aW, .ref aR, .ref aP, .ref aK, .ref aL, .ref aQ])), (aW, .inl (cA, 12, .inl fW)), (aR, .inl (cA, 12, .inl fR)), (aK, .inl (cA, 12, .inl fK))] sz) t) (va_A [(h0, .inr (1, [.int (nI n), .int rg, .int st, .ref aV, .ref aW, .ref aR, .ref aP, .ref aK, .ref aL, .ref aQ])), (aW, .inl (cA, 12, .inl fW)), (aR, .inl (cA, 12, .inl fR)), (aK, .inl (cA, 12, .inl fK))] sz)) (vx_X (fun (_ : Unit) => True) (fun (E : String) (xx : Unit) t => ((E = "java/lang/IndexOutOfBoundsException" ∧ cd1 (¬ (okD n d ∧ okD 41 x)) = 1)) ∧ We D [(cA, .int)] [(h0, .inr (1, [.int (nI n), .int rg, .int st, .ref aV, .ref aW, .ref aR, .ref aP, .ref aK, .ref aL, .ref aQ])), (aW, .inl (cA, 12, .inl fW)), (aR, .inl (cA, 12, .inl fR)), (aK, .inl (cA, 12, .inl fK))] (va_A [(h0, .inr (1, [.int (nI n), .int rg, .int st, .ref aV, .ref aW, .ref aR, .ref aP, .ref aK, .ref aL, .ref aQ])), (aW, .inl (cA, 12, .inl fW)), (aR, .inl (cA, 12, .inl fR)), (aK, .inl (cA, 12, .inl fK))] sz) t) (va_A [(h0, .inr (1, [.int (nI n), .int rg, .int st, .ref aV, .ref aW, .ref aR, .ref aP, .ref aK, .ref aL, .ref aQ])), (aW, .inl (cA, 12, .inl fW)), (aR, .inl (cA, 12, .inl fR)), (aK, .inl (cA, 12, .inl fK))] sz)) 2 12 (va_A [(h0, .inr (1, [.int (nI n), .int rg, .int st, .ref aV, .ref aW, .ref aR, .ref aP, .ref aK, .ref aL, .ref aQ])), (aW, .inl (cA, 12, .inl fW)), (aR, .inl (cA, 12, .inl fR)), (aK, .inl (cA, 12, .inl fK))] sz) := by
  refine mk_vx [.ref h0, .int d, .int x] (fun A => va_Qi (fun (r : Int32) (_ : Unit) => cd1 (¬ (okD n d ∧ okD 41 x)) = 0 ∧ r = bP (canP fW fR fK n st (dN d) x)) (fun (_ : Unit) t => We D [(cA, .int)] [(h0, .inr (1, [.int (nI n), .int rg, .int st, .ref aV, .ref aW, .ref aR, .ref aP, .ref aK, .ref aL, .ref aQ])), (aW, .inl (cA, 12, .inl fW)), (aR, .inl (cA, 12, .inl fR)), (aK, .inl (cA, 12, .inl fK))] A t) A) (fun A => vx_X (fun (_ : Unit) => True) (fun (E : String) (xx : Unit) t => ((E = "java/lang/IndexOutOfBoundsException" ∧ cd1 (¬ (okD n d ∧ okD 41 x)) = 1)) ∧ We D [(cA, .int)] [(h0, .inr (1, [.int (nI n), .int rg, .int st, .ref aV, .ref aW, .ref aR, .ref aP, .ref aK, .ref aL, .ref aQ])), (aW, .inl (cA, 12, .inl fW)), (aR, .inl (cA, 12, .inl fR)), (aK, .inl (cA, 12, .inl fK))] A t) A) (by decide) rfl (Nat.le_of_ble_eq_true rfl) ?_
  intro p e s m args below meth c A ls F hr hlocks hname hno hP hK hD hXE hA hl
  have hx := F.1
  have hb := F.2.1
  have hml := F.2.2.1
  have hown := F.2.2.2.1
  have hts := F.2.2.2.2
  have hS : va_S A s.heap s.heap [] := va_S.rf
  have hl : lv_has ls 3 [(0, .ref h0), (1, .int d), (2, .int x)] := hl
  refine absQ (fun Q hQ => ?_)
  refine lv_aload_n hx hb dX1_canLeadTo_0 rfl (lv_at hl 0 rfl) ?_
  refine lv_iload_n hx hb dX1_canLeadTo_1 rfl (lv_at hl 1 rfl) ?_
  have hX_1 : Cut D A [(h0, .inr (1, [.int (nI n), .int rg, .int st, .ref aV, .ref aW, .ref aR, .ref aP, .ref aK, .ref aL, .ref aQ])), (aW, .inl (cA, 12, .inl fW)), (aR, .inl (cA, 12, .inl fR)), (aK, .inl (cA, 12, .inl fK))] [(h0, .inr (1, [.int (nI n), .int rg, .int st, .ref aV, .ref aW, .ref aR, .ref aP, .ref aK, .ref aL, .ref aQ]))] [(aW, .inl (cA, 12, .inl fW)), (aR, .inl (cA, 12, .inl fR)), (aK, .inl (cA, 12, .inl fK))] [(cA, .int)] [(cA, .int)] [0] [1, 2, 3] [0] := ⟨rfl, rfl, rfl, rfl, by decide, rfl⟩
  refine xv hX_1 hP hD hS hA (xRunV (q := (RX1, TX1, 10)) (As := [.int d]) (rest := []) F (c_X1_checkDelegate l hl0 D cA h0 n rg st aV aW aR aP aK aL aQ d hn s.heap.size) (cwV 1 hts gX1_canLeadTo_X1_checkDelegate rfl rfl rfl (by decide +kernel) ⟨Nat.le_of_ble_eq_true rfl, Nat.le_of_ble_eq_true rfl⟩) hK hP hD hS hA hXE hX_1 0 rfl rfl rfl hl.1 rfl (Nat.le_of_ble_eq_true rfl) dX1_canLeadTo_2 ⟨Nat.le_of_ble_eq_true rfl, Nat.le_of_ble_eq_true rfl⟩) (fun E9 ce9 q9 u_3 H locs hw_4 hP hD hS hc9 hv9 hf9 => ?_) (fun u_3 H locs hw_4 hP hD hS => ?_)
  · skip
    have hP : va_P D vwCl [(aW, .inl (cA, 12, .inl fW)), (aR, .inl (cA, 12, .inl fR)), (aK, .inl (cA, 12, .inl fK)), (h0, .inr (1, [.int (nI n), .int rg, .int st, .ref aV, .ref aW, .ref aR, .ref aP, .ref aK, .ref aL, .ref aQ]))] H := hP
    have hD : va_D A [(aW, .inl (cA, 12, .inl fW)), (aR, .inl (cA, 12, .inl fR)), (aK, .inl (cA, 12, .inl fK)), (h0, .inr (1, [.int (nI n), .int rg, .int st, .ref aV, .ref aW, .ref aR, .ref aP, .ref aK, .ref aL, .ref aQ]))] := hD
    have hw_4 : E9 = "java/lang/IndexOutOfBoundsException" ∧ ¬ okD n d := hw_4
    refine uxQ hQ ?_
    exact x_out hno hlocks hK hP hD hS [3, 0, 1, 2] [0] () (⟨hw_4.1, cd1_1 (fun z => hw_4.2 z.1)⟩) rfl rfl rfl hc9 hv9 hf9 (Nat.le_of_ble_eq_true rfl) (Nat.le_of_ble_eq_true rfl)
  · skip
    have hw_4 : okD n d := hw_4
    have hP : va_P D vwCl [(aW, .inl (cA, 12, .inl fW)), (aR, .inl (cA, 12, .inl fR)), (aK, .inl (cA, 12, .inl fK)), (h0, .inr (1, [.int (nI n), .int rg, .int st, .ref aV, .ref aW, .ref aR, .ref aP, .ref aK, .ref aL, .ref aQ]))] H := hP
    have hD : va_D A [(aW, .inl (cA, 12, .inl fW)), (aR, .inl (cA, 12, .inl fR)), (aK, .inl (cA, 12, .inl fK)), (h0, .inr (1, [.int (nI n), .int rg, .int st, .ref aV, .ref aW, .ref aR, .ref aP, .ref aK, .ref aL, .ref aQ]))] := hD
    obtain ⟨j, hj, hd9⟩ := hw_4
    subst hd9
    have hD9 : okD n (nI j) := ⟨j, hj, rfl⟩
    have hdn : dN (nI j) = j := dN_nI (by omega)
    refine lv_iload_n hx hb dX1_canLeadTo_5 rfl (lv_at hl 2 rfl) ?_
    have hX_5 : Cut D A [(aW, .inl (cA, 12, .inl fW)), (aR, .inl (cA, 12, .inl fR)), (aK, .inl (cA, 12, .inl fK)), (h0, .inr (1, [.int (nI n), .int rg, .int st, .ref aV, .ref aW, .ref aR, .ref aP, .ref aK, .ref aL, .ref aQ]))] [] [(aW, .inl (cA, 12, .inl fW)), (aR, .inl (cA, 12, .inl fR)), (aK, .inl (cA, 12, .inl fK)), (h0, .inr (1, [.int (nI n), .int rg, .int st, .ref aV, .ref aW, .ref aR, .ref aP, .ref aK, .ref aL, .ref aQ]))] [(cA, .int)] [] [] [0, 1, 2, 3] [] := ⟨rfl, rfl, rfl, rfl, by decide, rfl⟩
    refine xv hX_5 hP hD hS hA (xRunS (As := [.int x]) (rest := []) F (c_X1_checkPlank l hl0 D x H.size) (va_cwS 1 hts gX1_canLeadTo_X1_checkPlank rfl rfl rfl (by decide +kernel) ⟨Nat.le_of_ble_eq_true rfl, Nat.le_of_ble_eq_true rfl⟩) hK hP hD hS hA hXE hX_5 rfl hl.1 rfl (Nat.le_of_ble_eq_true rfl) dX1_canLeadTo_6 ⟨Nat.le_of_ble_eq_true rfl, Nat.le_of_ble_eq_true rfl⟩) (fun E9 ce9 q9 u_7 H locs hw_8 hP hD hS hc9 hv9 hf9 => ?_) (fun u_7 H locs hw_8 hP hD hS => ?_)
    · skip
      have hP : va_P D vwCl [(aW, .inl (cA, 12, .inl fW)), (aR, .inl (cA, 12, .inl fR)), (aK, .inl (cA, 12, .inl fK)), (h0, .inr (1, [.int (nI n), .int rg, .int st, .ref aV, .ref aW, .ref aR, .ref aP, .ref aK, .ref aL, .ref aQ]))] H := hP
      have hD : va_D A [(aW, .inl (cA, 12, .inl fW)), (aR, .inl (cA, 12, .inl fR)), (aK, .inl (cA, 12, .inl fK)), (h0, .inr (1, [.int (nI n), .int rg, .int st, .ref aV, .ref aW, .ref aR, .ref aP, .ref aK, .ref aL, .ref aQ]))] := hD
      have hw_8 : E9 = "java/lang/IndexOutOfBoundsException" ∧ ¬ okD 41 x := hw_8
      refine uxQ hQ ?_
      exact x_out hno hlocks hK hP hD hS [3, 0, 1, 2] [0] () (⟨hw_8.1, cd1_1 (fun z => hw_8.2 z.2)⟩) rfl rfl rfl hc9 hv9 hf9 (Nat.le_of_ble_eq_true rfl) (Nat.le_of_ble_eq_true rfl)
    · skip
      have hw_8 : okD 41 x := hw_8
      have hP : va_P D vwCl [(aW, .inl (cA, 12, .inl fW)), (aR, .inl (cA, 12, .inl fR)), (aK, .inl (cA, 12, .inl fK)), (h0, .inr (1, [.int (nI n), .int rg, .int st, .ref aV, .ref aW, .ref aR, .ref aP, .ref aK, .ref aL, .ref aQ]))] H := hP
      have hD : va_D A [(aW, .inl (cA, 12, .inl fW)), (aR, .inl (cA, 12, .inl fR)), (aK, .inl (cA, 12, .inl fK)), (h0, .inr (1, [.int (nI n), .int rg, .int st, .ref aV, .ref aW, .ref aR, .ref aP, .ref aK, .ref aL, .ref aQ]))] := hD
      have h1 := hw_8
      refine lv_aload_n hx hb dX1_canLeadTo_9 rfl (lv_at hl 0 rfl) ?_
      refine lv_iload_n hx hb dX1_canLeadTo_10 rfl (lv_at hl 1 rfl) ?_
      refine lv_iload_n hx hb dX1_canLeadTo_11 rfl (lv_at hl 2 rfl) ?_
      have hX_9 : Cut D A [(aW, .inl (cA, 12, .inl fW)), (aR, .inl (cA, 12, .inl fR)), (aK, .inl (cA, 12, .inl fK)), (h0, .inr (1, [.int (nI n), .int rg, .int st, .ref aV, .ref aW, .ref aR, .ref aP, .ref aK, .ref aL, .ref aQ]))] [(h0, .inr (1, [.int (nI n), .int rg, .int st, .ref aV, .ref aW, .ref aR, .ref aP, .ref aK, .ref aL, .ref aQ])), (aW, .inl (cA, 12, .inl fW)), (aR, .inl (cA, 12, .inl fR))] [(aK, .inl (cA, 12, .inl fK))] [(cA, .int)] [(cA, .int)] [3, 0, 1] [2] [0] := ⟨rfl, rfl, rfl, rfl, by decide, rfl⟩
      refine ki hX_9 hP hD hS hA (kRunV (q := (RX1, TX1, 10)) (As := [.int (nI j), .int x]) (rest := []) F (c_X1_isWilling l D cA h0 n rg st aV aW aR aP aK aL aQ fW fR j x hn (by omega) H.size) (cwV 2 hts gX1_canLeadTo_X1_isWilling rfl rfl rfl (by decide +kernel) ⟨Nat.le_of_ble_eq_true rfl, Nat.le_of_ble_eq_true rfl⟩) hK hP hD hX_9 3 rfl rfl rfl hl.1 rfl (Nat.le_of_ble_eq_true rfl) dX1_canLeadTo_12 ⟨Nat.le_of_ble_eq_true rfl, Nat.le_of_ble_eq_true rfl⟩) (fun r_10 u_11 H locs hw_12 hP hD hS => ?_)
      have hw_12 : r_10 = bP (jabs (x - fW j) ≤ fR j) := hw_12
      rw [hw_12]
      have hP : va_P D vwCl [(aK, .inl (cA, 12, .inl fK)), (h0, .inr (1, [.int (nI n), .int rg, .int st, .ref aV, .ref aW, .ref aR, .ref aP, .ref aK, .ref aL, .ref aQ])), (aW, .inl (cA, 12, .inl fW)), (aR, .inl (cA, 12, .inl fR))] H := hP
      have hD : va_D A [(aK, .inl (cA, 12, .inl fK)), (h0, .inr (1, [.int (nI n), .int rg, .int st, .ref aV, .ref aW, .ref aR, .ref aP, .ref aK, .ref aL, .ref aQ])), (aW, .inl (cA, 12, .inl fW)), (aR, .inl (cA, 12, .inl fR))] := hD
      refine lv_if_eq (tgt := 31) hx hb dX1_canLeadTo_15 (by decide) (fun c_15 => ?_) (fun c_15 => ?_)
      · skip
        refine lv_iconst (v := 0) hx hb dX1_canLeadTo_31 (by decide) ?_
        refine useQ hQ (vx_ret ?_)
        exact e_z (v := 0) F hr hlocks hK hP hD hS [1, 2, 3, 0] [0] () (by first | exact Or.inl rfl | exact Or.inr rfl | exact bP_01 _) (⟨cd1_0 (not_not_intro ⟨hD9, h1⟩), bP_f (by rw [hdn]; exact fun z => bP_eq c_15 z.1)⟩) rfl rfl rfl (Nat.le_of_ble_eq_true rfl) (Nat.le_of_ble_eq_true rfl) dX1_canLeadTo_32
      · skip
        refine lv_aload_n hx hb dX1_canLeadTo_18 rfl (lv_at hl 0 rfl) ?_
        refine lv_iload_n hx hb dX1_canLeadTo_19 rfl (lv_at hl 1 rfl) ?_
        refine lv_iload_n hx hb dX1_canLeadTo_20 rfl (lv_at hl 2 rfl) ?_
        have hX_13 : Cut D A [(aK, .inl (cA, 12, .inl fK)), (h0, .inr (1, [.int (nI n), .int rg, .int st, .ref aV, .ref aW, .ref aR, .ref aP, .ref aK, .ref aL, .ref aQ])), (aW, .inl (cA, 12, .inl fW)), (aR, .inl (cA, 12, .inl fR))] [(h0, .inr (1, [.int (nI n), .int rg, .int st, .ref aV, .ref aW, .ref aR, .ref aP, .ref aK, .ref aL, .ref aQ])), (aK, .inl (cA, 12, .inl fK))] [(aW, .inl (cA, 12, .inl fW)), (aR, .inl (cA, 12, .inl fR))] [(cA, .int)] [(cA, .int)] [1, 0] [2, 3] [0] := ⟨rfl, rfl, rfl, rfl, by decide, rfl⟩
        refine ki hX_13 hP hD hS hA (kRunV (q := (RX1, TX1, 10)) (As := [.int (nI j), .int x]) (rest := []) F (c_X1_hasPlaceFor l D cA h0 n rg st aV aW aR aP aK aL aQ fK j x hn (by omega) H.size) (cwV 2 hts gX1_canLeadTo_X1_hasPlaceFor rfl rfl rfl (by decide +kernel) ⟨Nat.le_of_ble_eq_true rfl, Nat.le_of_ble_eq_true rfl⟩) hK hP hD hX_13 1 rfl rfl rfl hl.1 rfl (Nat.le_of_ble_eq_true rfl) dX1_canLeadTo_21 ⟨Nat.le_of_ble_eq_true rfl, Nat.le_of_ble_eq_true rfl⟩) (fun r_14 u_15 H locs hw_16 hP hD hS => ?_)
        have hw_16 : r_14 = bP (fK j = x ∨ crowd fK x n < st) := hw_16
        rw [hw_16]
        have hP : va_P D vwCl [(aW, .inl (cA, 12, .inl fW)), (aR, .inl (cA, 12, .inl fR)), (h0, .inr (1, [.int (nI n), .int rg, .int st, .ref aV, .ref aW, .ref aR, .ref aP, .ref aK, .ref aL, .ref aQ])), (aK, .inl (cA, 12, .inl fK))] H := hP
        have hD : va_D A [(aW, .inl (cA, 12, .inl fW)), (aR, .inl (cA, 12, .inl fR)), (h0, .inr (1, [.int (nI n), .int rg, .int st, .ref aV, .ref aW, .ref aR, .ref aP, .ref aK, .ref aL, .ref aQ])), (aK, .inl (cA, 12, .inl fK))] := hD
        refine lv_if_eq (tgt := 31) hx hb dX1_canLeadTo_24 (by decide) (fun c_24 => ?_) (fun c_24 => ?_)
        · skip
          refine lv_iconst (v := 0) hx hb dX1_canLeadTo_31 (by decide) ?_
          refine useQ hQ (vx_ret ?_)
          exact e_z (v := 0) F hr hlocks hK hP hD hS [2, 0, 1, 3] [0] () (by first | exact Or.inl rfl | exact Or.inr rfl | exact bP_01 _) (⟨cd1_0 (not_not_intro ⟨hD9, h1⟩), bP_f (by rw [hdn]; exact fun z => bP_eq c_24 z.2)⟩) rfl rfl rfl (Nat.le_of_ble_eq_true rfl) (Nat.le_of_ble_eq_true rfl) dX1_canLeadTo_32
        · skip
          refine lv_iconst (v := 1) hx hb dX1_canLeadTo_27 (by decide) ?_
          refine lv_goto (tgt := 32) hx hb dX1_canLeadTo_28 (by decide) ?_
          refine useQ hQ (vx_ret ?_)
          exact e_z (v := 1) F hr hlocks hK hP hD hS [2, 0, 1, 3] [0] () (by first | exact Or.inl rfl | exact Or.inr rfl | exact bP_01 _) (⟨cd1_0 (not_not_intro ⟨hD9, h1⟩), bP_t (by rw [hdn]; exact ⟨bP_ne c_15, bP_ne c_24⟩)⟩) rfl rfl rfl (Nat.le_of_ble_eq_true rfl) (Nat.le_of_ble_eq_true rfl) dX1_canLeadTo_32
theorem uX1_X1_wouldStepTo : ∀ w ∈ u_ws RX1 TX1 10, w ∈ wsX1_wouldStepTo := (fun _ h => List.mem_cons_of_mem _ (List.mem_append_left _ (List.mem_append_left _ (List.mem_append_right _ h))))
set_option maxHeartbeats 4000000 in
set_option maxRecDepth 100000 in
theorem c_X1_wouldStepTo (l : Launch) (hl0 : l.stackTraces = false) (D : va_G) (cA : ClassId) (h0 : Nat) (n : Nat) (rg : Int32) (st : Int32) (aV : Nat) (aW : Nat) (aR : Nat) (aP : Nat) (aK : Nat) (aL : Nat) (aQ : Nat) (fW : Nat → Int32) (fR : Nat → Int32) (fP : Nat → Int32) (fK : Nat → Int32) (aS : Nat) (lv : Int32) (fS : Nat → Int32) (d : Int32) (hn : n ≤ 12) (sz : Nat) : vx_Met l yX1_wouldStepTo wsX1_wouldStepTo ({ frames := 7, cells := 1, slots := 6, locals := 111 } : Room) (va_Pc [.ref h0, .int d] (Wx D [(cA, .int)] [(h0, .inr (1, [.int (nI n), .int rg, .int st, .ref aV, .ref aW, .ref aR, .ref aP, .ref aK, .ref aL, .ref aQ])), (aW, .inl (cA, 12, .inl fW)), (aR, .inl (cA, 12, .inl fR)), (aP, .inl (cA, 12, .inl fP)), (aK, .inl (cA, 12, .inl fK)), (aQ, .inr (0, [.ref aS, .int lv])), (aS, .inl (cA, 12, .inl fS))] sz)) (va_Qi (fun (r : Int32) (u : (Nat → Int32) × Int32) => okD n d ∧ r = stepC (fW (dN d)) (fR (dN d)) (fP (dN d)) (fK (dN d)) (midF fK n)) (fun (u : (Nat → Int32) × Int32) t => We D [(cA, .int)] [(h0, .inr (1, [.int (nI n), .int rg, .int st, .ref aV, .ref aW, .ref aR, .ref aP, .ref aK, .ref aL, .ref aQ])), (aW, .inl (cA, 12, .inl fW)), (aR, .inl (cA, 12, .inl fR)), (aP, .inl (cA, 12, .inl fP)), (aK, .inl (cA, 12, .inl fK)), (aQ, .inr (0, [.ref aS, .int u.2])), (aS, .inl (cA, 12, .inl u.1))] (va_A [(h0, .inr (1, [.int (nI n), .int rg, .int st, .ref aV, .ref aW, .ref aR, .ref aP, .ref aK, .ref aL, .ref aQ])), (aW, .inl (cA, 12, .inl fW)), (aR, .inl (cA, 12, .inl fR)), (aP, .inl (cA, 12, .inl fP)), (aK, .inl (cA, 12, .inl fK)), (aQ, .inr (0, [.ref aS, .int lv])), (aS, .inl (cA, 12, .inl fS))] sz) t) (va_A [(h0, .inr (1, [.int (nI n), .int rg, .int st, .ref aV, .ref aW, .ref aR, .ref aP, .ref aK, .ref aL, .ref aQ])), (aW, .inl (cA, 12, .inl fW)), (aR, .inl (cA, 12, .inl fR)), (aP, .inl (cA, 12, .inl fP)), (aK, .inl (cA, 12, .inl fK)), (aQ, .inr (0, [.ref aS, .int lv])), (aS, .inl (cA, 12, .inl fS))] sz)) (vx_X (fun (_ : Unit) => True) (fun (E : String) (xx : Unit) t => (E = "java/lang/IndexOutOfBoundsException" ∧ ¬ okD n d) ∧ We D [(cA, .int)] [(h0, .inr (1, [.int (nI n), .int rg, .int st, .ref aV, .ref aW, .ref aR, .ref aP, .ref aK, .ref aL, .ref aQ])), (aW, .inl (cA, 12, .inl fW)), (aR, .inl (cA, 12, .inl fR)), (aP, .inl (cA, 12, .inl fP)), (aK, .inl (cA, 12, .inl fK)), (aQ, .inr (0, [.ref aS, .int lv])), (aS, .inl (cA, 12, .inl fS))] (va_A [(h0, .inr (1, [.int (nI n), .int rg, .int st, .ref aV, .ref aW, .ref aR, .ref aP, .ref aK, .ref aL, .ref aQ])), (aW, .inl (cA, 12, .inl fW)), (aR, .inl (cA, 12, .inl fR)), (aP, .inl (cA, 12, .inl fP)), (aK, .inl (cA, 12, .inl fK)), (aQ, .inr (0, [.ref aS, .int lv])), (aS, .inl (cA, 12, .inl fS))] sz) t) (va_A [(h0, .inr (1, [.int (nI n), .int rg, .int st, .ref aV, .ref aW, .ref aR, .ref aP, .ref aK, .ref aL, .ref aQ])), (aW, .inl (cA, 12, .inl fW)), (aR, .inl (cA, 12, .inl fR)), (aP, .inl (cA, 12, .inl fP)), (aK, .inl (cA, 12, .inl fK)), (aQ, .inr (0, [.ref aS, .int lv])), (aS, .inl (cA, 12, .inl fS))] sz)) 1 6 (va_A [(h0, .inr (1, [.int (nI n), .int rg, .int st, .ref aV, .ref aW, .ref aR, .ref aP, .ref aK, .ref aL, .ref aQ])), (aW, .inl (cA, 12, .inl fW)), (aR, .inl (cA, 12, .inl fR)), (aP, .inl (cA, 12, .inl fP)), (aK, .inl (cA, 12, .inl fK)), (aQ, .inr (0, [.ref aS, .int lv])), (aS, .inl (cA, 12, .inl fS))] sz) := by
  refine mk_vx [.ref h0, .int d] (fun A => va_Qi (fun (r : Int32) (u : (Nat → Int32) × Int32) => okD n d ∧ r = stepC (fW (dN d)) (fR (dN d)) (fP (dN d)) (fK (dN d)) (midF fK n)) (fun (u : (Nat → Int32) × Int32) t => We D [(cA, .int)] [(h0, .inr (1, [.int (nI n), .int rg, .int st, .ref aV, .ref aW, .ref aR, .ref aP, .ref aK, .ref aL, .ref aQ])), (aW, .inl (cA, 12, .inl fW)), (aR, .inl (cA, 12, .inl fR)), (aP, .inl (cA, 12, .inl fP)), (aK, .inl (cA, 12, .inl fK)), (aQ, .inr (0, [.ref aS, .int u.2])), (aS, .inl (cA, 12, .inl u.1))] A t) A) (fun A => vx_X (fun (_ : Unit) => True) (fun (E : String) (xx : Unit) t => (E = "java/lang/IndexOutOfBoundsException" ∧ ¬ okD n d) ∧ We D [(cA, .int)] [(h0, .inr (1, [.int (nI n), .int rg, .int st, .ref aV, .ref aW, .ref aR, .ref aP, .ref aK, .ref aL, .ref aQ])), (aW, .inl (cA, 12, .inl fW)), (aR, .inl (cA, 12, .inl fR)), (aP, .inl (cA, 12, .inl fP)), (aK, .inl (cA, 12, .inl fK)), (aQ, .inr (0, [.ref aS, .int lv])), (aS, .inl (cA, 12, .inl fS))] A t) A) (by decide) rfl (Nat.le_of_ble_eq_true rfl) ?_
  intro p e s m args below meth c A ls F hr hlocks hname hno hP hK hD hXE hA hl
  have hx := F.1
  have hb := F.2.1
  have hml := F.2.2.1
  have hown := F.2.2.2.1
  have hts := F.2.2.2.2
  have hS : va_S A s.heap s.heap [] := va_S.rf
  have hl : lv_has ls 2 [(0, .ref h0), (1, .int d)] := hl
  refine absQ (fun Q hQ => ?_)
  refine lv_aload_n hx hb dX1_wouldStepTo_0 rfl (lv_at hl 0 rfl) ?_
  refine lv_iload_n hx hb dX1_wouldStepTo_1 rfl (lv_at hl 1 rfl) ?_
  have hX_1 : Cut D A [(h0, .inr (1, [.int (nI n), .int rg, .int st, .ref aV, .ref aW, .ref aR, .ref aP, .ref aK, .ref aL, .ref aQ])), (aW, .inl (cA, 12, .inl fW)), (aR, .inl (cA, 12, .inl fR)), (aP, .inl (cA, 12, .inl fP)), (aK, .inl (cA, 12, .inl fK)), (aQ, .inr (0, [.ref aS, .int lv])), (aS, .inl (cA, 12, .inl fS))] [(h0, .inr (1, [.int (nI n), .int rg, .int st, .ref aV, .ref aW, .ref aR, .ref aP, .ref aK, .ref aL, .ref aQ]))] [(aW, .inl (cA, 12, .inl fW)), (aR, .inl (cA, 12, .inl fR)), (aP, .inl (cA, 12, .inl fP)), (aK, .inl (cA, 12, .inl fK)), (aQ, .inr (0, [.ref aS, .int lv])), (aS, .inl (cA, 12, .inl fS))] [(cA, .int)] [(cA, .int)] [0] [1, 2, 3, 4, 5, 6] [0] := ⟨rfl, rfl, rfl, rfl, by decide, rfl⟩
  refine xv hX_1 hP hD hS hA (xRunV (q := (RX1, TX1, 10)) (As := [.int d]) (rest := []) F (c_X1_checkDelegate l hl0 D cA h0 n rg st aV aW aR aP aK aL aQ d hn s.heap.size) (cwV 1 hts gX1_wouldStepTo_X1_checkDelegate rfl rfl rfl (by decide +kernel) ⟨Nat.le_of_ble_eq_true rfl, Nat.le_of_ble_eq_true rfl⟩) hK hP hD hS hA hXE hX_1 0 rfl rfl rfl hl.1 rfl (Nat.le_of_ble_eq_true rfl) dX1_wouldStepTo_2 ⟨Nat.le_of_ble_eq_true rfl, Nat.le_of_ble_eq_true rfl⟩) (fun E9 ce9 q9 u_3 H locs hw_4 hP hD hS hc9 hv9 hf9 => ?_) (fun u_3 H locs hw_4 hP hD hS => ?_)
  · skip
    have hP : va_P D vwCl [(aW, .inl (cA, 12, .inl fW)), (aR, .inl (cA, 12, .inl fR)), (aP, .inl (cA, 12, .inl fP)), (aK, .inl (cA, 12, .inl fK)), (aQ, .inr (0, [.ref aS, .int lv])), (aS, .inl (cA, 12, .inl fS)), (h0, .inr (1, [.int (nI n), .int rg, .int st, .ref aV, .ref aW, .ref aR, .ref aP, .ref aK, .ref aL, .ref aQ]))] H := hP
    have hD : va_D A [(aW, .inl (cA, 12, .inl fW)), (aR, .inl (cA, 12, .inl fR)), (aP, .inl (cA, 12, .inl fP)), (aK, .inl (cA, 12, .inl fK)), (aQ, .inr (0, [.ref aS, .int lv])), (aS, .inl (cA, 12, .inl fS)), (h0, .inr (1, [.int (nI n), .int rg, .int st, .ref aV, .ref aW, .ref aR, .ref aP, .ref aK, .ref aL, .ref aQ]))] := hD
    have hw_4 : E9 = "java/lang/IndexOutOfBoundsException" ∧ ¬ okD n d := hw_4
    refine uxQ hQ ?_
    exact x_out hno hlocks hK hP hD hS [6, 0, 1, 2, 3, 4, 5] [0] () (hw_4) rfl rfl rfl hc9 hv9 hf9 (Nat.le_of_ble_eq_true rfl) (Nat.le_of_ble_eq_true rfl)
  · skip
    have hw_4 : okD n d := hw_4
    have hP : va_P D vwCl [(aW, .inl (cA, 12, .inl fW)), (aR, .inl (cA, 12, .inl fR)), (aP, .inl (cA, 12, .inl fP)), (aK, .inl (cA, 12, .inl fK)), (aQ, .inr (0, [.ref aS, .int lv])), (aS, .inl (cA, 12, .inl fS)), (h0, .inr (1, [.int (nI n), .int rg, .int st, .ref aV, .ref aW, .ref aR, .ref aP, .ref aK, .ref aL, .ref aQ]))] H := hP
    have hD : va_D A [(aW, .inl (cA, 12, .inl fW)), (aR, .inl (cA, 12, .inl fR)), (aP, .inl (cA, 12, .inl fP)), (aK, .inl (cA, 12, .inl fK)), (aQ, .inr (0, [.ref aS, .int lv])), (aS, .inl (cA, 12, .inl fS)), (h0, .inr (1, [.int (nI n), .int rg, .int st, .ref aV, .ref aW, .ref aR, .ref aP, .ref aK, .ref aL, .ref aQ]))] := hD
    obtain ⟨j, hj, hd9⟩ := hw_4
    subst hd9
    have hD9 : okD n (nI j) := ⟨j, hj, rfl⟩
    have hdn : dN (nI j) = j := dN_nI (by omega)
    refine lv_aload_n hx hb dX1_wouldStepTo_5 rfl (lv_at hl 0 rfl) ?_
    refine lv_iload_n hx hb dX1_wouldStepTo_6 rfl (lv_at hl 1 rfl) ?_
    refine lv_aload_n hx hb dX1_wouldStepTo_7 rfl (lv_at hl 0 rfl) ?_
    refine va_get (D := D) (ci := 1) (v := .ref aK) (C := RX1) (T := TX1) (N := 10) hx hb hts uX1_X1_wouldStepTo hown hK hP 6 rfl rfl 7 (by decide) (hts (.fieldLink RX1 32 "RopeChoices" "planks" "[I") (List.mem_of_getElem? (i := 1) rfl)) (fun _ h9 => h9) rfl dX1_wouldStepTo_8 ?_
    refine lv_iload_n hx hb dX1_wouldStepTo_11 rfl (lv_at hl 1 rfl) ?_
    refine a_ld (k := j) hx hb hK hP 3 0 rfl rfl (by omega) (Nat.le_of_ble_eq_true rfl) dX1_wouldStepTo_12 ?_
    refine lv_aload_n hx hb dX1_wouldStepTo_13 rfl (lv_at hl 0 rfl) ?_
    refine lv_aload_n hx hb dX1_wouldStepTo_14 rfl (lv_at hl 0 rfl) ?_
    refine va_get (D := D) (ci := 1) (v := .ref aK) (C := RX1) (T := TX1) (N := 10) hx hb hts uX1_X1_wouldStepTo hown hK hP 6 rfl rfl 7 (by decide) (hts (.fieldLink RX1 32 "RopeChoices" "planks" "[I") (List.mem_of_getElem? (i := 1) rfl)) (fun _ h9 => h9) rfl dX1_wouldStepTo_15 ?_
    have hX_5 : Cut D A [(aW, .inl (cA, 12, .inl fW)), (aR, .inl (cA, 12, .inl fR)), (aP, .inl (cA, 12, .inl fP)), (aK, .inl (cA, 12, .inl fK)), (aQ, .inr (0, [.ref aS, .int lv])), (aS, .inl (cA, 12, .inl fS)), (h0, .inr (1, [.int (nI n), .int rg, .int st, .ref aV, .ref aW, .ref aR, .ref aP, .ref aK, .ref aL, .ref aQ]))] [(h0, .inr (1, [.int (nI n), .int rg, .int st, .ref aV, .ref aW, .ref aR, .ref aP, .ref aK, .ref aL, .ref aQ])), (aK, .inl (cA, 12, .inl fK)), (aQ, .inr (0, [.ref aS, .int lv])), (aS, .inl (cA, 12, .inl fS))] [(aW, .inl (cA, 12, .inl fW)), (aR, .inl (cA, 12, .inl fR)), (aP, .inl (cA, 12, .inl fP))] [(cA, .int)] [(cA, .int)] [6, 3, 4, 5] [0, 1, 2] [0] := ⟨rfl, rfl, rfl, rfl, by decide, rfl⟩
    refine ki hX_5 hP hD hS hA (kRunV (q := (RX1, TX1, 10)) (As := [.ref aK]) (rest := [.int (fK j), .int (nI j), .ref h0]) F (c_X1_middleOfAll l D cA h0 n rg st aV aW aR aP aK aL aQ aK fK aS lv fS hn H.size) (cwV 1 hts gX1_wouldStepTo_X1_middleOfAll rfl rfl rfl (by decide +kernel) ⟨Nat.le_of_ble_eq_true rfl, Nat.le_of_ble_eq_true rfl⟩) hK hP hD hX_5 6 rfl rfl rfl hl.1 rfl (Nat.le_of_ble_eq_true rfl) dX1_wouldStepTo_18 ⟨Nat.le_of_ble_eq_true rfl, Nat.le_of_ble_eq_true rfl⟩) (fun r_6 u_7 H locs hw_8 hP hD hS => ?_)
    have hw_8 : r_6 = midF fK n := hw_8
    rw [hw_8]
    have hP : va_P D vwCl [(aW, .inl (cA, 12, .inl fW)), (aR, .inl (cA, 12, .inl fR)), (aP, .inl (cA, 12, .inl fP)), (h0, .inr (1, [.int (nI n), .int rg, .int st, .ref aV, .ref aW, .ref aR, .ref aP, .ref aK, .ref aL, .ref aQ])), (aK, .inl (cA, 12, .inl fK)), (aQ, .inr (0, [.ref aS, .int u_7.2])), (aS, .inl (cA, 12, .inl u_7.1))] H := hP
    have hD : va_D A [(aW, .inl (cA, 12, .inl fW)), (aR, .inl (cA, 12, .inl fR)), (aP, .inl (cA, 12, .inl fP)), (h0, .inr (1, [.int (nI n), .int rg, .int st, .ref aV, .ref aW, .ref aR, .ref aP, .ref aK, .ref aL, .ref aQ])), (aK, .inl (cA, 12, .inl fK)), (aQ, .inr (0, [.ref aS, .int u_7.2])), (aS, .inl (cA, 12, .inl u_7.1))] := hD
    have hX_9 : Cut D A [(aW, .inl (cA, 12, .inl fW)), (aR, .inl (cA, 12, .inl fR)), (aP, .inl (cA, 12, .inl fP)), (h0, .inr (1, [.int (nI n), .int rg, .int st, .ref aV, .ref aW, .ref aR, .ref aP, .ref aK, .ref aL, .ref aQ])), (aK, .inl (cA, 12, .inl fK)), (aQ, .inr (0, [.ref aS, .int u_7.2])), (aS, .inl (cA, 12, .inl u_7.1))] [(h0, .inr (1, [.int (nI n), .int rg, .int st, .ref aV, .ref aW, .ref aR, .ref aP, .ref aK, .ref aL, .ref aQ])), (aW, .inl (cA, 12, .inl fW)), (aR, .inl (cA, 12, .inl fR)), (aP, .inl (cA, 12, .inl fP))] [(aK, .inl (cA, 12, .inl fK)), (aQ, .inr (0, [.ref aS, .int u_7.2])), (aS, .inl (cA, 12, .inl u_7.1))] [(cA, .int)] [(cA, .int)] [3, 0, 1, 2] [4, 5, 6] [0] := ⟨rfl, rfl, rfl, rfl, by decide, rfl⟩
    refine ki hX_9 hP hD hS hA (kRunV (q := (RX1, TX1, 10)) (As := [.int (nI j), .int (fK j), .int (midF fK n)]) (rest := []) F (c_X1_stepFrom l D cA h0 n rg st aV aW aR aP aK aL aQ fW fR fP j (fK j) (midF fK n) hn (by omega) H.size) (cwV 3 hts gX1_wouldStepTo_X1_stepFrom rfl rfl rfl (by decide +kernel) ⟨Nat.le_of_ble_eq_true rfl, Nat.le_of_ble_eq_true rfl⟩) hK hP hD hX_9 3 rfl rfl rfl hl.1 rfl (Nat.le_of_ble_eq_true rfl) dX1_wouldStepTo_21 ⟨Nat.le_of_ble_eq_true rfl, Nat.le_of_ble_eq_true rfl⟩) (fun r_10 u_11 H locs hw_12 hP hD hS => ?_)
    have hw_12 : r_10 = stepC (fW j) (fR j) (fP j) (fK j) (midF fK n) := hw_12
    rw [hw_12]
    have hP : va_P D vwCl [(aK, .inl (cA, 12, .inl fK)), (aQ, .inr (0, [.ref aS, .int u_7.2])), (aS, .inl (cA, 12, .inl u_7.1)), (h0, .inr (1, [.int (nI n), .int rg, .int st, .ref aV, .ref aW, .ref aR, .ref aP, .ref aK, .ref aL, .ref aQ])), (aW, .inl (cA, 12, .inl fW)), (aR, .inl (cA, 12, .inl fR)), (aP, .inl (cA, 12, .inl fP))] H := hP
    have hD : va_D A [(aK, .inl (cA, 12, .inl fK)), (aQ, .inr (0, [.ref aS, .int u_7.2])), (aS, .inl (cA, 12, .inl u_7.1)), (h0, .inr (1, [.int (nI n), .int rg, .int st, .ref aV, .ref aW, .ref aR, .ref aP, .ref aK, .ref aL, .ref aQ])), (aW, .inl (cA, 12, .inl fW)), (aR, .inl (cA, 12, .inl fR)), (aP, .inl (cA, 12, .inl fP))] := hD
    refine useQ hQ (vx_ret ?_)
    exact e_i (v := stepC (fW j) (fR j) (fP j) (fK j) (midF fK n)) F hr hlocks hK hP hD hS [3, 4, 5, 6, 0, 1, 2] [0] (u_7.1, u_7.2) (⟨hD9, by rw [hdn]⟩) rfl rfl rfl (Nat.le_of_ble_eq_true rfl) (Nat.le_of_ble_eq_true rfl) dX1_wouldStepTo_24
