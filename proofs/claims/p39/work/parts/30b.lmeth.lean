set_option maxHeartbeats 4000000 in
set_option maxRecDepth 100000 in
theorem c_L_below (l : Launch) (hl0 : l.stackTraces = false) (D : va_G) (v : Int32) (kN : Nat) (hk1 : 0 < kN) (hk2 : kN ≤ 1000) (sz : Nat) : Met l yL_below wsL_below ({ frames := 0, cells := 0, slots := 0, locals := 0 } : Room) (va_Pc [.int v, .int (nI kN)] (Wx D [] [] sz)) (va_Qi (fun (r : Int32) (_ : Unit) => r = bel v (nI kN)) (fun (_ : Unit) t => We D [] [] (va_A [] sz) t) (va_A [] sz)) 0 0 (va_A [] sz) := by
  refine mk_z (y := yL_below) (ws := wsL_below) (tys := []) (wc := []) (sz := sz) (mc := 0) (ms := 0) (cc := cL_below) (maxL := 2) (ret := (some .int)) [.int v, .int (nI kN)] (fun A => va_Qi (fun (r : Int32) (_ : Unit) => r = bel v (nI kN)) (fun (_ : Unit) t => We D [] [] A t) A) (by decide) rfl (Nat.le_of_ble_eq_true rfl) ?_
  intro p e s m args below meth c A ls F hr hlocks hname hP hK hD hXE hA hl
  have hx := F.1
  have hb := F.2.1
  have hml := F.2.2.1
  have hown := F.2.2.2.1
  have hts := F.2.2.2.2
  have hS : va_S A s.heap s.heap [] := va_S.rf
  have hNa := qNa_of hXE
  have hCl := qCl_of hXE
  have hNe := qNe_of hXE
  have hl : lv_has ls 2 [(0, .int v), (1, .int (nI kN))] := hl
  refine absQ (fun Q hQ => ?_)
  refine lv_iload_n hx hb dL_below_0 rfl (lv_at hl 0 rfl) ?_
  refine lv_ldc (v := 2147483647) hx hb hown (hts (.constant RL 7 (2147483647)) (List.mem_of_getElem? (i := 1) rfl)) dL_below_1 ?_
  refine lv_iand hx hb dL_below_3 ?_
  refine lv_iload_n hx hb dL_below_4 rfl (lv_at hl 1 rfl) ?_
  refine lv_irem hx hb dL_below_5 (nI_ne0 hk1 (by omega)) ?_
  refine useQ hQ ?_
  exact e_i (v := ((v &&& 2147483647) - (v &&& 2147483647) / (nI kN) * (nI kN))) F hr hlocks hK hP hD hS [] [] () rfl rfl rfl rfl (Nat.le_of_ble_eq_true rfl) (Nat.le_of_ble_eq_true rfl) dL_below_6
set_option maxHeartbeats 4000000 in
set_option maxRecDepth 100000 in
theorem c_L_cell (l : Launch) (hl0 : l.stackTraces = false) (D : va_G) (b : Nat) (L : Nat) (xs : Nat → Int32) (kk : Nat) (hL : L ≤ 260) (hkk : kk ≤ 1000) (sz : Nat) : Met l yL_cell wsL_cell ({ frames := 0, cells := 0, slots := 0, locals := 0 } : Room) (va_Pc [.ref b, .int (nI kk)] (Wz D [] [] b L xs sz)) (va_Qi (fun (r : Int32) (_ : Unit) => True) (fun (_ : Unit) t => We D [] [] (va_A [] sz) t) (va_A [] sz)) 0 0 (va_A [] sz) := by
  refine mk_zs (b := b) (L := L) (xs := xs) (y := yL_cell) (ws := wsL_cell) (tys := []) (wc := []) (sz := sz) (mc := 0) (ms := 0) (cc := cL_cell) (maxL := 2) (ret := (some .int)) [.ref b, .int (nI kk)] (fun A => va_Qi (fun (r : Int32) (_ : Unit) => True) (fun (_ : Unit) t => We D [] [] A t) A) (by decide) rfl (Nat.le_of_ble_eq_true rfl) ?_
  intro p e s m args below meth c A ls F hr hlocks hname hP hK hD hXE hXs hbl hbA hA hl
  have hx := F.1
  have hb := F.2.1
  have hml := F.2.2.1
  have hown := F.2.2.2.1
  have hts := F.2.2.2.2
  have hS : va_S A s.heap s.heap [] := va_S.rf
  have hNa := qNa_of hXE
  have hCl := qCl_of hXE
  have hNe := qNe_of hXE
  have hl : lv_has ls 2 [(0, .ref b), (1, .int (nI kk))] := hl
  refine absQ (fun Q hQ => ?_)
  refine lv_iload_n hx hb dL_cell_0 rfl (lv_at hl 1 rfl) ?_
  refine lv_aload_n hx hb dL_cell_1 rfl (lv_at hl 0 rfl) ?_
  refine va_slen hx hb hXs hbl hbA hS dL_cell_2 ?_
  refine topi (nI L) rfl ?_
  refine lv_icmp_ge (tgt := 12) hx hb dL_cell_3 (by decide) (fun c_3 => ?_) (fun c_3 => ?_)
  · skip
    have g_3 : L ≤ kk := nf_ge_t (by omega) (by omega) c_3
    refine lv_ldc (v := 790386105) hx hb hown (hts (.constant RL 8 (790386105)) (List.mem_of_getElem? (i := 1) rfl)) dL_cell_12 ?_
    refine lv_iload_n hx hb dL_cell_14 rfl (lv_at hl 1 rfl) ?_
    refine lv_iconst (v := 3) hx hb dL_cell_15 (by decide) ?_
    refine lv_iadd hx hb dL_cell_16 ?_
    refine topi (nI (kk + 3)) (nI_add kk 3) ?_
    refine lv_imul hx hb dL_cell_17 ?_
    refine useQ hQ ?_
    exact e_i (v := (790386105 * (nI (kk + 3)))) F hr hlocks hK hP hD hS [] [] () trivial rfl rfl rfl (Nat.le_of_ble_eq_true rfl) (Nat.le_of_ble_eq_true rfl) dL_cell_18
  · skip
    have g_3 : kk < L := nf_ge_f (by omega) (by omega) c_3
    refine lv_aload_n hx hb dL_cell_6 rfl (lv_at hl 0 rfl) ?_
    refine lv_iload_n hx hb dL_cell_7 rfl (lv_at hl 1 rfl) ?_
    refine va_sld hx hb hXs hbl hbA hS (vp_in_nI (show kk < L by omega) (by omega)) dL_cell_8 ?_
    refine topi (xs kk) (congrArg xs (nI_clamp (by omega))) ?_
    refine lv_goto (tgt := 18) hx hb dL_cell_9 (by decide) ?_
    refine useQ hQ ?_
    exact e_i (v := (xs kk)) F hr hlocks hK hP hD hS [] [] () trivial rfl rfl rfl (Nat.le_of_ble_eq_true rfl) (Nat.le_of_ble_eq_true rfl) dL_cell_18
