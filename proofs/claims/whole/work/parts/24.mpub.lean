theorem uX2_X2_send : ∀ w ∈ u_ws RX2 TX2 11, w ∈ wsX2_send := (fun _ h => List.mem_cons_of_mem _ (List.mem_append_right _ h))
set_option maxHeartbeats 4000000 in
set_option maxRecDepth 100000 in
theorem c_X2_send_ok (l : Launch) (D : va_G) (cA : ClassId) (m0 : Nat) (th : Int32) (n : Nat) (rg : Int32) (st : Int32) (bV : Nat) (bW : Nat) (bR : Nat) (bP9 : Nat) (bK : Nat) (bT : Nat) (bC : Nat) (fV : Nat → Int32) (fW : Nat → Int32) (fR : Nat → Int32) (fP : Nat → Int32) (fK : Nat → Int32) (v : Int32) (x : Int32) (rr : Int32) (pp : Int32) (hn : n ≤ 12) (hcd : cd3 (¬ (okD 5 v ∧ okD 41 x)) (¬ (okB 0 20 rr ∧ okB 1 5 pp)) (¬ (n < 12 ∧ crowd fK x n < st)) = 0) (sz : Nat) : Met l yX2_send wsX2_send ({ frames := 2, cells := 0, slots := 0, locals := 44 } : Room) (va_Pc [.ref m0, .int v, .int x, .int rr, .int pp] (Wd D [(cA, .int)] [(m0, .inr (2, [.int th, .int (nI n), .int rg, .int st, .ref bV, .ref bW, .ref bR, .ref bP9, .ref bK, .ref bT, .ref bC])), (bV, .inl (cA, 12, .inl fV)), (bW, .inl (cA, 12, .inl fW)), (bR, .inl (cA, 12, .inl fR)), (bP9, .inl (cA, 12, .inl fP)), (bK, .inl (cA, 12, .inl fK))] sz)) (va_Qi (fun (r : Int32) (_ : Unit) => r = nI n) (fun (_ : Unit) t => We D [(cA, .int)] [(m0, .inr (2, [.int 0, .int (nI (n + 1)), .int rg, .int st, .ref bV, .ref bW, .ref bR, .ref bP9, .ref bK, .ref bT, .ref bC])), (bV, .inl (cA, 12, .inl (upd fV n v))), (bW, .inl (cA, 12, .inl (upd fW n x))), (bR, .inl (cA, 12, .inl (upd fR n rr))), (bP9, .inl (cA, 12, .inl (upd fP n pp))), (bK, .inl (cA, 12, .inl (upd fK n x)))] (va_A [(m0, .inr (2, [.int th, .int (nI n), .int rg, .int st, .ref bV, .ref bW, .ref bR, .ref bP9, .ref bK, .ref bT, .ref bC])), (bV, .inl (cA, 12, .inl fV)), (bW, .inl (cA, 12, .inl fW)), (bR, .inl (cA, 12, .inl fR)), (bP9, .inl (cA, 12, .inl fP)), (bK, .inl (cA, 12, .inl fK))] sz) t) (va_A [(m0, .inr (2, [.int th, .int (nI n), .int rg, .int st, .ref bV, .ref bW, .ref bR, .ref bP9, .ref bK, .ref bT, .ref bC])), (bV, .inl (cA, 12, .inl fV)), (bW, .inl (cA, 12, .inl fW)), (bR, .inl (cA, 12, .inl fR)), (bP9, .inl (cA, 12, .inl fP)), (bK, .inl (cA, 12, .inl fK))] sz)) 0 0 (va_A [(m0, .inr (2, [.int th, .int (nI n), .int rg, .int st, .ref bV, .ref bW, .ref bR, .ref bP9, .ref bK, .ref bT, .ref bC])), (bV, .inl (cA, 12, .inl fV)), (bW, .inl (cA, 12, .inl fW)), (bR, .inl (cA, 12, .inl fR)), (bP9, .inl (cA, 12, .inl fP)), (bK, .inl (cA, 12, .inl fK))] sz) := by
  refine mk_met [.ref m0, .int v, .int x, .int rr, .int pp] (fun A => va_Qi (fun (r : Int32) (_ : Unit) => r = nI n) (fun (_ : Unit) t => We D [(cA, .int)] [(m0, .inr (2, [.int 0, .int (nI (n + 1)), .int rg, .int st, .ref bV, .ref bW, .ref bR, .ref bP9, .ref bK, .ref bT, .ref bC])), (bV, .inl (cA, 12, .inl (upd fV n v))), (bW, .inl (cA, 12, .inl (upd fW n x))), (bR, .inl (cA, 12, .inl (upd fR n rr))), (bP9, .inl (cA, 12, .inl (upd fP n pp))), (bK, .inl (cA, 12, .inl (upd fK n x)))] A t) A) (by decide) rfl (Nat.le_of_ble_eq_true rfl) ?_
  intro p e s m args below meth c A ls F hr hlocks hname hP hK hD hA hl
  have hx := F.1
  have hb := F.2.1
  have hml := F.2.2.1
  have hown := F.2.2.2.1
  have hts := F.2.2.2.2
  have hS : va_S A s.heap s.heap [] := va_S.rf
  have hl : lv_has ls 5 [(0, .ref m0), (1, .int v), (2, .int x), (3, .int rr), (4, .int pp)] := hl
  refine absQ (fun Q hQ => ?_)
  refine lv_aload_n hx hb dX2_send_0 rfl (lv_at hl 0 rfl) ?_
  refine lv_iconst (v := 0) hx hb dX2_send_1 (by decide) ?_
  refine va_put (D := D) (ci := 2) (v := .int 0) (ty := .int) (C := RX2) (T := TX2) (N := 11) hx hb hts uX2_X2_send tyX2 tyX2_ok nmX2 hown hK hP hD hS 0 rfl rfl 0 (by decide) (hts (.fieldLink RX2 35 "RopeChoicesModel" "thrown" "I") (List.mem_of_getElem? (i := 1) rfl)) (fun _ h9 => h9) rfl (by decide +kernel) rfl rfl (Nat.le_of_ble_eq_true rfl) dX2_send_2 (fun H locs hP hD hS => ?_)
  have hP : va_P D vwCl [(m0, .inr (2, [.int 0, .int (nI n), .int rg, .int st, .ref bV, .ref bW, .ref bR, .ref bP9, .ref bK, .ref bT, .ref bC])), (bV, .inl (cA, 12, .inl fV)), (bW, .inl (cA, 12, .inl fW)), (bR, .inl (cA, 12, .inl fR)), (bP9, .inl (cA, 12, .inl fP)), (bK, .inl (cA, 12, .inl fK))] H := hP
  have hD : va_D A [(m0, .inr (2, [.int 0, .int (nI n), .int rg, .int st, .ref bV, .ref bW, .ref bR, .ref bP9, .ref bK, .ref bT, .ref bC])), (bV, .inl (cA, 12, .inl fV)), (bW, .inl (cA, 12, .inl fW)), (bR, .inl (cA, 12, .inl fR)), (bP9, .inl (cA, 12, .inl fP)), (bK, .inl (cA, 12, .inl fK))] := hD
  refine lv_iload_n hx hb dX2_send_5 rfl (lv_at hl 1 rfl) ?_
  have hX_1 : Cut D A [(m0, .inr (2, [.int 0, .int (nI n), .int rg, .int st, .ref bV, .ref bW, .ref bR, .ref bP9, .ref bK, .ref bT, .ref bC])), (bV, .inl (cA, 12, .inl fV)), (bW, .inl (cA, 12, .inl fW)), (bR, .inl (cA, 12, .inl fR)), (bP9, .inl (cA, 12, .inl fP)), (bK, .inl (cA, 12, .inl fK))] [] [(m0, .inr (2, [.int 0, .int (nI n), .int rg, .int st, .ref bV, .ref bW, .ref bR, .ref bP9, .ref bK, .ref bT, .ref bC])), (bV, .inl (cA, 12, .inl fV)), (bW, .inl (cA, 12, .inl fW)), (bR, .inl (cA, 12, .inl fR)), (bP9, .inl (cA, 12, .inl fP)), (bK, .inl (cA, 12, .inl fK))] [(cA, .int)] [] [] [0, 1, 2, 3, 4, 5] [] := ⟨rfl, rfl, rfl, rfl, by decide, rfl⟩
  refine ki hX_1 hP hD hS hA (kRunS (As := [.int v]) (rest := []) F (c_X2_isVillage l D v H.size) (va_cwS 1 hts gX2_send_X2_isVillage rfl rfl rfl (by decide +kernel) ⟨Nat.le_of_ble_eq_true rfl, Nat.le_of_ble_eq_true rfl⟩) hK hP hD hX_1 rfl hl.1 rfl (Nat.le_of_ble_eq_true rfl) dX2_send_6 ⟨Nat.le_of_ble_eq_true rfl, Nat.le_of_ble_eq_true rfl⟩) (fun r_2 u_3 H locs hw_4 hP hD hS => ?_)
  have hw_4 : r_2 = bP (okD 5 v) := hw_4
  rw [hw_4]
  have hP : va_P D vwCl [(m0, .inr (2, [.int 0, .int (nI n), .int rg, .int st, .ref bV, .ref bW, .ref bR, .ref bP9, .ref bK, .ref bT, .ref bC])), (bV, .inl (cA, 12, .inl fV)), (bW, .inl (cA, 12, .inl fW)), (bR, .inl (cA, 12, .inl fR)), (bP9, .inl (cA, 12, .inl fP)), (bK, .inl (cA, 12, .inl fK))] H := hP
  have hD : va_D A [(m0, .inr (2, [.int 0, .int (nI n), .int rg, .int st, .ref bV, .ref bW, .ref bR, .ref bP9, .ref bK, .ref bT, .ref bC])), (bV, .inl (cA, 12, .inl fV)), (bW, .inl (cA, 12, .inl fW)), (bR, .inl (cA, 12, .inl fR)), (bP9, .inl (cA, 12, .inl fP)), (bK, .inl (cA, 12, .inl fK))] := hD
  refine lv_if_eq (tgt := 19) hx hb dX2_send_9 (by decide) (fun c_9 => ?_) (fun c_9 => ?_)
  · skip
    exact cx1 (cd3_1 (fun z => bP_eq c_9 z.1)) hcd
  · skip
    refine lv_iload_n hx hb dX2_send_12 rfl (lv_at hl 2 rfl) ?_
    have hX_5 : Cut D A [(m0, .inr (2, [.int 0, .int (nI n), .int rg, .int st, .ref bV, .ref bW, .ref bR, .ref bP9, .ref bK, .ref bT, .ref bC])), (bV, .inl (cA, 12, .inl fV)), (bW, .inl (cA, 12, .inl fW)), (bR, .inl (cA, 12, .inl fR)), (bP9, .inl (cA, 12, .inl fP)), (bK, .inl (cA, 12, .inl fK))] [] [(m0, .inr (2, [.int 0, .int (nI n), .int rg, .int st, .ref bV, .ref bW, .ref bR, .ref bP9, .ref bK, .ref bT, .ref bC])), (bV, .inl (cA, 12, .inl fV)), (bW, .inl (cA, 12, .inl fW)), (bR, .inl (cA, 12, .inl fR)), (bP9, .inl (cA, 12, .inl fP)), (bK, .inl (cA, 12, .inl fK))] [(cA, .int)] [] [] [0, 1, 2, 3, 4, 5] [] := ⟨rfl, rfl, rfl, rfl, by decide, rfl⟩
    refine ki hX_5 hP hD hS hA (kRunS (As := [.int x]) (rest := []) F (c_X2_isPlank l D x H.size) (va_cwS 1 hts gX2_send_X2_isPlank rfl rfl rfl (by decide +kernel) ⟨Nat.le_of_ble_eq_true rfl, Nat.le_of_ble_eq_true rfl⟩) hK hP hD hX_5 rfl hl.1 rfl (Nat.le_of_ble_eq_true rfl) dX2_send_13 ⟨Nat.le_of_ble_eq_true rfl, Nat.le_of_ble_eq_true rfl⟩) (fun r_6 u_7 H locs hw_8 hP hD hS => ?_)
    have hw_8 : r_6 = bP (okD 41 x) := hw_8
    rw [hw_8]
    have hP : va_P D vwCl [(m0, .inr (2, [.int 0, .int (nI n), .int rg, .int st, .ref bV, .ref bW, .ref bR, .ref bP9, .ref bK, .ref bT, .ref bC])), (bV, .inl (cA, 12, .inl fV)), (bW, .inl (cA, 12, .inl fW)), (bR, .inl (cA, 12, .inl fR)), (bP9, .inl (cA, 12, .inl fP)), (bK, .inl (cA, 12, .inl fK))] H := hP
    have hD : va_D A [(m0, .inr (2, [.int 0, .int (nI n), .int rg, .int st, .ref bV, .ref bW, .ref bR, .ref bP9, .ref bK, .ref bT, .ref bC])), (bV, .inl (cA, 12, .inl fV)), (bW, .inl (cA, 12, .inl fW)), (bR, .inl (cA, 12, .inl fR)), (bP9, .inl (cA, 12, .inl fP)), (bK, .inl (cA, 12, .inl fK))] := hD
    refine lv_if_ne (tgt := 25) hx hb dX2_send_16 (by decide) (fun c_16 => ?_) (fun c_16 => ?_)
    · skip
      refine lv_iload_n hx hb dX2_send_25 rfl (lv_at hl 3 rfl) ?_
      refine lv_iconst (v := 0) hx hb dX2_send_26 (by decide) ?_
      refine lv_bipush (v := 20) hx hb dX2_send_27 (by decide) ?_
      have hX_9 : Cut D A [(m0, .inr (2, [.int 0, .int (nI n), .int rg, .int st, .ref bV, .ref bW, .ref bR, .ref bP9, .ref bK, .ref bT, .ref bC])), (bV, .inl (cA, 12, .inl fV)), (bW, .inl (cA, 12, .inl fW)), (bR, .inl (cA, 12, .inl fR)), (bP9, .inl (cA, 12, .inl fP)), (bK, .inl (cA, 12, .inl fK))] [] [(m0, .inr (2, [.int 0, .int (nI n), .int rg, .int st, .ref bV, .ref bW, .ref bR, .ref bP9, .ref bK, .ref bT, .ref bC])), (bV, .inl (cA, 12, .inl fV)), (bW, .inl (cA, 12, .inl fW)), (bR, .inl (cA, 12, .inl fR)), (bP9, .inl (cA, 12, .inl fP)), (bK, .inl (cA, 12, .inl fK))] [(cA, .int)] [] [] [0, 1, 2, 3, 4, 5] [] := ⟨rfl, rfl, rfl, rfl, by decide, rfl⟩
      refine ki hX_9 hP hD hS hA (kRunS (As := [.int rr, .int 0, .int 20]) (rest := []) F (c_X2_isIn l D rr 0 20 H.size) (va_cwS 3 hts gX2_send_X2_isIn rfl rfl rfl (by decide +kernel) ⟨Nat.le_of_ble_eq_true rfl, Nat.le_of_ble_eq_true rfl⟩) hK hP hD hX_9 rfl hl.1 rfl (Nat.le_of_ble_eq_true rfl) dX2_send_29 ⟨Nat.le_of_ble_eq_true rfl, Nat.le_of_ble_eq_true rfl⟩) (fun r_10 u_11 H locs hw_12 hP hD hS => ?_)
      have hw_12 : r_10 = bP (0 ≤ rr ∧ rr ≤ 20) := hw_12
      rw [hw_12]
      have hP : va_P D vwCl [(m0, .inr (2, [.int 0, .int (nI n), .int rg, .int st, .ref bV, .ref bW, .ref bR, .ref bP9, .ref bK, .ref bT, .ref bC])), (bV, .inl (cA, 12, .inl fV)), (bW, .inl (cA, 12, .inl fW)), (bR, .inl (cA, 12, .inl fR)), (bP9, .inl (cA, 12, .inl fP)), (bK, .inl (cA, 12, .inl fK))] H := hP
      have hD : va_D A [(m0, .inr (2, [.int 0, .int (nI n), .int rg, .int st, .ref bV, .ref bW, .ref bR, .ref bP9, .ref bK, .ref bT, .ref bC])), (bV, .inl (cA, 12, .inl fV)), (bW, .inl (cA, 12, .inl fW)), (bR, .inl (cA, 12, .inl fR)), (bP9, .inl (cA, 12, .inl fP)), (bK, .inl (cA, 12, .inl fK))] := hD
      refine lv_if_eq (tgt := 45) hx hb dX2_send_32 (by decide) (fun c_32 => ?_) (fun c_32 => ?_)
      · skip
        exact cx2 (cd3_2 (not_not_intro ⟨bP_ne c_9, bP_ne c_16⟩) (fun z => bP_eq c_32 ((isIn_B (lo := 0) (hi := 20) (by omega) (by omega)).mpr z.1))) hcd
      · skip
        refine lv_iload hx hb dX2_send_35 (lv_at hl 4 rfl) ?_
        refine lv_iconst (v := 1) hx hb dX2_send_37 (by decide) ?_
        refine lv_iconst (v := 5) hx hb dX2_send_38 (by decide) ?_
        have hX_13 : Cut D A [(m0, .inr (2, [.int 0, .int (nI n), .int rg, .int st, .ref bV, .ref bW, .ref bR, .ref bP9, .ref bK, .ref bT, .ref bC])), (bV, .inl (cA, 12, .inl fV)), (bW, .inl (cA, 12, .inl fW)), (bR, .inl (cA, 12, .inl fR)), (bP9, .inl (cA, 12, .inl fP)), (bK, .inl (cA, 12, .inl fK))] [] [(m0, .inr (2, [.int 0, .int (nI n), .int rg, .int st, .ref bV, .ref bW, .ref bR, .ref bP9, .ref bK, .ref bT, .ref bC])), (bV, .inl (cA, 12, .inl fV)), (bW, .inl (cA, 12, .inl fW)), (bR, .inl (cA, 12, .inl fR)), (bP9, .inl (cA, 12, .inl fP)), (bK, .inl (cA, 12, .inl fK))] [(cA, .int)] [] [] [0, 1, 2, 3, 4, 5] [] := ⟨rfl, rfl, rfl, rfl, by decide, rfl⟩
        refine ki hX_13 hP hD hS hA (kRunS (As := [.int pp, .int 1, .int 5]) (rest := []) F (c_X2_isIn l D pp 1 5 H.size) (va_cwS 3 hts gX2_send_X2_isIn rfl rfl rfl (by decide +kernel) ⟨Nat.le_of_ble_eq_true rfl, Nat.le_of_ble_eq_true rfl⟩) hK hP hD hX_13 rfl hl.1 rfl (Nat.le_of_ble_eq_true rfl) dX2_send_39 ⟨Nat.le_of_ble_eq_true rfl, Nat.le_of_ble_eq_true rfl⟩) (fun r_14 u_15 H locs hw_16 hP hD hS => ?_)
        have hw_16 : r_14 = bP (1 ≤ pp ∧ pp ≤ 5) := hw_16
        rw [hw_16]
        have hP : va_P D vwCl [(m0, .inr (2, [.int 0, .int (nI n), .int rg, .int st, .ref bV, .ref bW, .ref bR, .ref bP9, .ref bK, .ref bT, .ref bC])), (bV, .inl (cA, 12, .inl fV)), (bW, .inl (cA, 12, .inl fW)), (bR, .inl (cA, 12, .inl fR)), (bP9, .inl (cA, 12, .inl fP)), (bK, .inl (cA, 12, .inl fK))] H := hP
        have hD : va_D A [(m0, .inr (2, [.int 0, .int (nI n), .int rg, .int st, .ref bV, .ref bW, .ref bR, .ref bP9, .ref bK, .ref bT, .ref bC])), (bV, .inl (cA, 12, .inl fV)), (bW, .inl (cA, 12, .inl fW)), (bR, .inl (cA, 12, .inl fR)), (bP9, .inl (cA, 12, .inl fP)), (bK, .inl (cA, 12, .inl fK))] := hD
        refine lv_if_ne (tgt := 51) hx hb dX2_send_42 (by decide) (fun c_42 => ?_) (fun c_42 => ?_)
        · skip
          refine lv_aload_n hx hb dX2_send_51 rfl (lv_at hl 0 rfl) ?_
          refine va_get (D := D) (ci := 2) (v := .int (nI n)) (C := RX2) (T := TX2) (N := 11) hx hb hts uX2_X2_send hown hK hP 0 rfl rfl 1 (by decide) (hts (.fieldLink RX2 38 "RopeChoicesModel" "many" "I") (List.mem_of_getElem? (i := 2) rfl)) (fun _ h9 => h9) rfl dX2_send_52 ?_
          refine lv_bipush (v := 12) hx hb dX2_send_55 (by decide) ?_
          refine lv_icmp_eq (tgt := 68) hx hb dX2_send_57 (by decide) (fun c_57 => ?_) (fun c_57 => ?_)
          · skip
            have g_57 : n = 12 := nf_eq_t (by omega) (by omega) c_57
            exact cx3 (cd3_3 (not_not_intro ⟨bP_ne c_9, bP_ne c_16⟩) (not_not_intro ⟨(isIn_B (lo := 0) (hi := 20) (by omega) (by omega)).mp (bP_ne c_32), (isIn_B (lo := 1) (hi := 5) (by omega) (by omega)).mp (bP_ne c_42)⟩) (fun z => absurd z.1 (by omega))) hcd
          · skip
            have g_57 : n ≠ 12 := nf_eq_f (by omega) (by omega) c_57
            refine lv_aload_n hx hb dX2_send_60 rfl (lv_at hl 0 rfl) ?_
            refine lv_iload_n hx hb dX2_send_61 rfl (lv_at hl 2 rfl) ?_
            have hX_17 : Cut D A [(m0, .inr (2, [.int 0, .int (nI n), .int rg, .int st, .ref bV, .ref bW, .ref bR, .ref bP9, .ref bK, .ref bT, .ref bC])), (bV, .inl (cA, 12, .inl fV)), (bW, .inl (cA, 12, .inl fW)), (bR, .inl (cA, 12, .inl fR)), (bP9, .inl (cA, 12, .inl fP)), (bK, .inl (cA, 12, .inl fK))] [(m0, .inr (2, [.int 0, .int (nI n), .int rg, .int st, .ref bV, .ref bW, .ref bR, .ref bP9, .ref bK, .ref bT, .ref bC])), (bK, .inl (cA, 12, .inl fK))] [(bV, .inl (cA, 12, .inl fV)), (bW, .inl (cA, 12, .inl fW)), (bR, .inl (cA, 12, .inl fR)), (bP9, .inl (cA, 12, .inl fP))] [(cA, .int)] [(cA, .int)] [0, 5] [1, 2, 3, 4] [0] := ⟨rfl, rfl, rfl, rfl, by decide, rfl⟩
            refine ki hX_17 hP hD hS hA (kRunV (q := (RX2, TX2, 11)) (As := [.int x]) (rest := []) F (c_X2_hasRoom l D cA m0 0 n rg st bV bW bR bP9 bK bT bC fK x hn H.size) (cwV 1 hts gX2_send_X2_hasRoom rfl rfl rfl (by decide +kernel) ⟨Nat.le_of_ble_eq_true rfl, Nat.le_of_ble_eq_true rfl⟩) hK hP hD hX_17 0 rfl rfl rfl hl.1 rfl (Nat.le_of_ble_eq_true rfl) dX2_send_62 ⟨Nat.le_of_ble_eq_true rfl, Nat.le_of_ble_eq_true rfl⟩) (fun r_18 u_19 H locs hw_20 hP hD hS => ?_)
            have hw_20 : r_18 = bP (crowd fK x n < st) := hw_20
            rw [hw_20]
            have hP : va_P D vwCl [(bV, .inl (cA, 12, .inl fV)), (bW, .inl (cA, 12, .inl fW)), (bR, .inl (cA, 12, .inl fR)), (bP9, .inl (cA, 12, .inl fP)), (m0, .inr (2, [.int 0, .int (nI n), .int rg, .int st, .ref bV, .ref bW, .ref bR, .ref bP9, .ref bK, .ref bT, .ref bC])), (bK, .inl (cA, 12, .inl fK))] H := hP
            have hD : va_D A [(bV, .inl (cA, 12, .inl fV)), (bW, .inl (cA, 12, .inl fW)), (bR, .inl (cA, 12, .inl fR)), (bP9, .inl (cA, 12, .inl fP)), (m0, .inr (2, [.int 0, .int (nI n), .int rg, .int st, .ref bV, .ref bW, .ref bR, .ref bP9, .ref bK, .ref bT, .ref bC])), (bK, .inl (cA, 12, .inl fK))] := hD
            refine lv_if_ne (tgt := 74) hx hb dX2_send_65 (by decide) (fun c_65 => ?_) (fun c_65 => ?_)
            · skip
              refine lv_aload_n hx hb dX2_send_74 rfl (lv_at hl 0 rfl) ?_
              refine va_get (D := D) (ci := 2) (v := .ref bV) (C := RX2) (T := TX2) (N := 11) hx hb hts uX2_X2_send hown hK hP 4 rfl rfl 4 (by decide) (hts (.fieldLink RX2 13 "RopeChoicesModel" "village" "[I") (List.mem_of_getElem? (i := 3) rfl)) (fun _ h9 => h9) rfl dX2_send_75 ?_
              refine lv_aload_n hx hb dX2_send_78 rfl (lv_at hl 0 rfl) ?_
              refine va_get (D := D) (ci := 2) (v := .int (nI n)) (C := RX2) (T := TX2) (N := 11) hx hb hts uX2_X2_send hown hK hP 4 rfl rfl 1 (by decide) (hts (.fieldLink RX2 38 "RopeChoicesModel" "many" "I") (List.mem_of_getElem? (i := 2) rfl)) (fun _ h9 => h9) rfl dX2_send_79 ?_
              refine lv_iload_n hx hb dX2_send_82 rfl (lv_at hl 1 rfl) ?_
              refine a_st (k := n) hx hb hK hP hD hS 0 0 rfl rfl (by omega) (Nat.le_of_ble_eq_true rfl) dX2_send_83 (fun H locs hP hD hS => ?_)
              have hP : va_P D vwCl [(bV, .inl (cA, 12, .inl (upd fV n v))), (bW, .inl (cA, 12, .inl fW)), (bR, .inl (cA, 12, .inl fR)), (bP9, .inl (cA, 12, .inl fP)), (m0, .inr (2, [.int 0, .int (nI n), .int rg, .int st, .ref bV, .ref bW, .ref bR, .ref bP9, .ref bK, .ref bT, .ref bC])), (bK, .inl (cA, 12, .inl fK))] H := hP
              have hD : va_D A [(bV, .inl (cA, 12, .inl (upd fV n v))), (bW, .inl (cA, 12, .inl fW)), (bR, .inl (cA, 12, .inl fR)), (bP9, .inl (cA, 12, .inl fP)), (m0, .inr (2, [.int 0, .int (nI n), .int rg, .int st, .ref bV, .ref bW, .ref bR, .ref bP9, .ref bK, .ref bT, .ref bC])), (bK, .inl (cA, 12, .inl fK))] := hD
              refine lv_aload_n hx hb dX2_send_84 rfl (lv_at hl 0 rfl) ?_
              refine va_get (D := D) (ci := 2) (v := .ref bW) (C := RX2) (T := TX2) (N := 11) hx hb hts uX2_X2_send hown hK hP 4 rfl rfl 5 (by decide) (hts (.fieldLink RX2 17 "RopeChoicesModel" "wish" "[I") (List.mem_of_getElem? (i := 4) rfl)) (fun _ h9 => h9) rfl dX2_send_85 ?_
              refine lv_aload_n hx hb dX2_send_88 rfl (lv_at hl 0 rfl) ?_
              refine va_get (D := D) (ci := 2) (v := .int (nI n)) (C := RX2) (T := TX2) (N := 11) hx hb hts uX2_X2_send hown hK hP 4 rfl rfl 1 (by decide) (hts (.fieldLink RX2 38 "RopeChoicesModel" "many" "I") (List.mem_of_getElem? (i := 2) rfl)) (fun _ h9 => h9) rfl dX2_send_89 ?_
              refine lv_iload_n hx hb dX2_send_92 rfl (lv_at hl 2 rfl) ?_
              refine a_st (k := n) hx hb hK hP hD hS 1 0 rfl rfl (by omega) (Nat.le_of_ble_eq_true rfl) dX2_send_93 (fun H locs hP hD hS => ?_)
              have hP : va_P D vwCl [(bV, .inl (cA, 12, .inl (upd fV n v))), (bW, .inl (cA, 12, .inl (upd fW n x))), (bR, .inl (cA, 12, .inl fR)), (bP9, .inl (cA, 12, .inl fP)), (m0, .inr (2, [.int 0, .int (nI n), .int rg, .int st, .ref bV, .ref bW, .ref bR, .ref bP9, .ref bK, .ref bT, .ref bC])), (bK, .inl (cA, 12, .inl fK))] H := hP
              have hD : va_D A [(bV, .inl (cA, 12, .inl (upd fV n v))), (bW, .inl (cA, 12, .inl (upd fW n x))), (bR, .inl (cA, 12, .inl fR)), (bP9, .inl (cA, 12, .inl fP)), (m0, .inr (2, [.int 0, .int (nI n), .int rg, .int st, .ref bV, .ref bW, .ref bR, .ref bP9, .ref bK, .ref bT, .ref bC])), (bK, .inl (cA, 12, .inl fK))] := hD
              refine lv_aload_n hx hb dX2_send_94 rfl (lv_at hl 0 rfl) ?_
              refine va_get (D := D) (ci := 2) (v := .ref bR) (C := RX2) (T := TX2) (N := 11) hx hb hts uX2_X2_send hown hK hP 4 rfl rfl 6 (by decide) (hts (.fieldLink RX2 20 "RopeChoicesModel" "reach" "[I") (List.mem_of_getElem? (i := 5) rfl)) (fun _ h9 => h9) rfl dX2_send_95 ?_
              refine lv_aload_n hx hb dX2_send_98 rfl (lv_at hl 0 rfl) ?_
              refine va_get (D := D) (ci := 2) (v := .int (nI n)) (C := RX2) (T := TX2) (N := 11) hx hb hts uX2_X2_send hown hK hP 4 rfl rfl 1 (by decide) (hts (.fieldLink RX2 38 "RopeChoicesModel" "many" "I") (List.mem_of_getElem? (i := 2) rfl)) (fun _ h9 => h9) rfl dX2_send_99 ?_
              refine lv_iload_n hx hb dX2_send_102 rfl (lv_at hl 3 rfl) ?_
              refine a_st (k := n) hx hb hK hP hD hS 2 0 rfl rfl (by omega) (Nat.le_of_ble_eq_true rfl) dX2_send_103 (fun H locs hP hD hS => ?_)
              have hP : va_P D vwCl [(bV, .inl (cA, 12, .inl (upd fV n v))), (bW, .inl (cA, 12, .inl (upd fW n x))), (bR, .inl (cA, 12, .inl (upd fR n rr))), (bP9, .inl (cA, 12, .inl fP)), (m0, .inr (2, [.int 0, .int (nI n), .int rg, .int st, .ref bV, .ref bW, .ref bR, .ref bP9, .ref bK, .ref bT, .ref bC])), (bK, .inl (cA, 12, .inl fK))] H := hP
              have hD : va_D A [(bV, .inl (cA, 12, .inl (upd fV n v))), (bW, .inl (cA, 12, .inl (upd fW n x))), (bR, .inl (cA, 12, .inl (upd fR n rr))), (bP9, .inl (cA, 12, .inl fP)), (m0, .inr (2, [.int 0, .int (nI n), .int rg, .int st, .ref bV, .ref bW, .ref bR, .ref bP9, .ref bK, .ref bT, .ref bC])), (bK, .inl (cA, 12, .inl fK))] := hD
              refine lv_aload_n hx hb dX2_send_104 rfl (lv_at hl 0 rfl) ?_
              refine va_get (D := D) (ci := 2) (v := .ref bP9) (C := RX2) (T := TX2) (N := 11) hx hb hts uX2_X2_send hown hK hP 4 rfl rfl 7 (by decide) (hts (.fieldLink RX2 23 "RopeChoicesModel" "pace" "[I") (List.mem_of_getElem? (i := 6) rfl)) (fun _ h9 => h9) rfl dX2_send_105 ?_
              refine lv_aload_n hx hb dX2_send_108 rfl (lv_at hl 0 rfl) ?_
              refine va_get (D := D) (ci := 2) (v := .int (nI n)) (C := RX2) (T := TX2) (N := 11) hx hb hts uX2_X2_send hown hK hP 4 rfl rfl 1 (by decide) (hts (.fieldLink RX2 38 "RopeChoicesModel" "many" "I") (List.mem_of_getElem? (i := 2) rfl)) (fun _ h9 => h9) rfl dX2_send_109 ?_
              refine lv_iload hx hb dX2_send_112 (lv_at hl 4 rfl) ?_
              refine a_st (k := n) hx hb hK hP hD hS 3 0 rfl rfl (by omega) (Nat.le_of_ble_eq_true rfl) dX2_send_114 (fun H locs hP hD hS => ?_)
              have hP : va_P D vwCl [(bV, .inl (cA, 12, .inl (upd fV n v))), (bW, .inl (cA, 12, .inl (upd fW n x))), (bR, .inl (cA, 12, .inl (upd fR n rr))), (bP9, .inl (cA, 12, .inl (upd fP n pp))), (m0, .inr (2, [.int 0, .int (nI n), .int rg, .int st, .ref bV, .ref bW, .ref bR, .ref bP9, .ref bK, .ref bT, .ref bC])), (bK, .inl (cA, 12, .inl fK))] H := hP
              have hD : va_D A [(bV, .inl (cA, 12, .inl (upd fV n v))), (bW, .inl (cA, 12, .inl (upd fW n x))), (bR, .inl (cA, 12, .inl (upd fR n rr))), (bP9, .inl (cA, 12, .inl (upd fP n pp))), (m0, .inr (2, [.int 0, .int (nI n), .int rg, .int st, .ref bV, .ref bW, .ref bR, .ref bP9, .ref bK, .ref bT, .ref bC])), (bK, .inl (cA, 12, .inl fK))] := hD
              refine lv_aload_n hx hb dX2_send_115 rfl (lv_at hl 0 rfl) ?_
              refine va_get (D := D) (ci := 2) (v := .ref bK) (C := RX2) (T := TX2) (N := 11) hx hb hts uX2_X2_send hown hK hP 4 rfl rfl 8 (by decide) (hts (.fieldLink RX2 26 "RopeChoicesModel" "plank" "[I") (List.mem_of_getElem? (i := 7) rfl)) (fun _ h9 => h9) rfl dX2_send_116 ?_
              refine lv_aload_n hx hb dX2_send_119 rfl (lv_at hl 0 rfl) ?_
              refine va_get (D := D) (ci := 2) (v := .int (nI n)) (C := RX2) (T := TX2) (N := 11) hx hb hts uX2_X2_send hown hK hP 4 rfl rfl 1 (by decide) (hts (.fieldLink RX2 38 "RopeChoicesModel" "many" "I") (List.mem_of_getElem? (i := 2) rfl)) (fun _ h9 => h9) rfl dX2_send_120 ?_
              refine lv_iload_n hx hb dX2_send_123 rfl (lv_at hl 2 rfl) ?_
              refine a_st (k := n) hx hb hK hP hD hS 5 0 rfl rfl (by omega) (Nat.le_of_ble_eq_true rfl) dX2_send_124 (fun H locs hP hD hS => ?_)
              have hP : va_P D vwCl [(bV, .inl (cA, 12, .inl (upd fV n v))), (bW, .inl (cA, 12, .inl (upd fW n x))), (bR, .inl (cA, 12, .inl (upd fR n rr))), (bP9, .inl (cA, 12, .inl (upd fP n pp))), (m0, .inr (2, [.int 0, .int (nI n), .int rg, .int st, .ref bV, .ref bW, .ref bR, .ref bP9, .ref bK, .ref bT, .ref bC])), (bK, .inl (cA, 12, .inl (upd fK n x)))] H := hP
              have hD : va_D A [(bV, .inl (cA, 12, .inl (upd fV n v))), (bW, .inl (cA, 12, .inl (upd fW n x))), (bR, .inl (cA, 12, .inl (upd fR n rr))), (bP9, .inl (cA, 12, .inl (upd fP n pp))), (m0, .inr (2, [.int 0, .int (nI n), .int rg, .int st, .ref bV, .ref bW, .ref bR, .ref bP9, .ref bK, .ref bT, .ref bC])), (bK, .inl (cA, 12, .inl (upd fK n x)))] := hD
              refine lv_aload_n hx hb dX2_send_125 rfl (lv_at hl 0 rfl) ?_
              refine lv_dup hx hb dX2_send_126 rfl ?_
              refine va_get (D := D) (ci := 2) (v := .int (nI n)) (C := RX2) (T := TX2) (N := 11) hx hb hts uX2_X2_send hown hK hP 4 rfl rfl 1 (by decide) (hts (.fieldLink RX2 38 "RopeChoicesModel" "many" "I") (List.mem_of_getElem? (i := 2) rfl)) (fun _ h9 => h9) rfl dX2_send_127 ?_
              refine lv_iconst (v := 1) hx hb dX2_send_130 (by decide) ?_
              refine lv_iadd hx hb dX2_send_131 ?_
              refine topi (nI (n + 1)) (nI_1 _) ?_
              refine va_put (D := D) (ci := 2) (v := .int (nI (n + 1))) (ty := .int) (C := RX2) (T := TX2) (N := 11) hx hb hts uX2_X2_send tyX2 tyX2_ok nmX2 hown hK hP hD hS 4 rfl rfl 1 (by decide) (hts (.fieldLink RX2 38 "RopeChoicesModel" "many" "I") (List.mem_of_getElem? (i := 2) rfl)) (fun _ h9 => h9) rfl (by decide +kernel) rfl rfl (Nat.le_of_ble_eq_true rfl) dX2_send_132 (fun H locs hP hD hS => ?_)
              have hP : va_P D vwCl [(bV, .inl (cA, 12, .inl (upd fV n v))), (bW, .inl (cA, 12, .inl (upd fW n x))), (bR, .inl (cA, 12, .inl (upd fR n rr))), (bP9, .inl (cA, 12, .inl (upd fP n pp))), (m0, .inr (2, [.int 0, .int (nI (n + 1)), .int rg, .int st, .ref bV, .ref bW, .ref bR, .ref bP9, .ref bK, .ref bT, .ref bC])), (bK, .inl (cA, 12, .inl (upd fK n x)))] H := hP
              have hD : va_D A [(bV, .inl (cA, 12, .inl (upd fV n v))), (bW, .inl (cA, 12, .inl (upd fW n x))), (bR, .inl (cA, 12, .inl (upd fR n rr))), (bP9, .inl (cA, 12, .inl (upd fP n pp))), (m0, .inr (2, [.int 0, .int (nI (n + 1)), .int rg, .int st, .ref bV, .ref bW, .ref bR, .ref bP9, .ref bK, .ref bT, .ref bC])), (bK, .inl (cA, 12, .inl (upd fK n x)))] := hD
              refine lv_aload_n hx hb dX2_send_135 rfl (lv_at hl 0 rfl) ?_
              refine va_get (D := D) (ci := 2) (v := .int (nI (n + 1))) (C := RX2) (T := TX2) (N := 11) hx hb hts uX2_X2_send hown hK hP 4 rfl rfl 1 (by decide) (hts (.fieldLink RX2 38 "RopeChoicesModel" "many" "I") (List.mem_of_getElem? (i := 2) rfl)) (fun _ h9 => h9) rfl dX2_send_136 ?_
              refine lv_iconst (v := 1) hx hb dX2_send_139 (by decide) ?_
              refine lv_isub hx hb dX2_send_140 ?_
              refine topi (nI n) (nI_pred n) ?_
              refine useQ hQ ?_
              exact e_i (v := nI n) F hr hlocks hK hP hD hS [4, 0, 1, 2, 3, 5] [0] () rfl rfl rfl rfl (Nat.le_of_ble_eq_true rfl) (Nat.le_of_ble_eq_true rfl) dX2_send_141
            · skip
              exact cx3 (cd3_3 (not_not_intro ⟨bP_ne c_9, bP_ne c_16⟩) (not_not_intro ⟨(isIn_B (lo := 0) (hi := 20) (by omega) (by omega)).mp (bP_ne c_32), (isIn_B (lo := 1) (hi := 5) (by omega) (by omega)).mp (bP_ne c_42)⟩) (fun z => bP_eq c_65 z.2)) hcd
        · skip
          exact cx2 (cd3_2 (not_not_intro ⟨bP_ne c_9, bP_ne c_16⟩) (fun z => bP_eq c_42 ((isIn_B (lo := 1) (hi := 5) (by omega) (by omega)).mpr z.2))) hcd
    · skip
      exact cx1 (cd3_1 (fun z => bP_eq c_16 z.2)) hcd
set_option maxHeartbeats 4000000 in
set_option maxRecDepth 100000 in
theorem c_X2_send_no (l : Launch) (D : va_G) (cA : ClassId) (m0 : Nat) (th : Int32) (n : Nat) (rg : Int32) (st : Int32) (bV : Nat) (bW : Nat) (bR : Nat) (bP9 : Nat) (bK : Nat) (bT : Nat) (bC : Nat) (fV : Nat → Int32) (fW : Nat → Int32) (fR : Nat → Int32) (fP : Nat → Int32) (fK : Nat → Int32) (v : Int32) (x : Int32) (rr : Int32) (pp : Int32) (hn : n ≤ 12) (hcd : ¬ cd3 (¬ (okD 5 v ∧ okD 41 x)) (¬ (okB 0 20 rr ∧ okB 1 5 pp)) (¬ (n < 12 ∧ crowd fK x n < st)) = 0) (sz : Nat) : Met l yX2_send wsX2_send ({ frames := 2, cells := 0, slots := 0, locals := 44 } : Room) (va_Pc [.ref m0, .int v, .int x, .int rr, .int pp] (Wd D [(cA, .int)] [(m0, .inr (2, [.int th, .int (nI n), .int rg, .int st, .ref bV, .ref bW, .ref bR, .ref bP9, .ref bK, .ref bT, .ref bC])), (bV, .inl (cA, 12, .inl fV)), (bW, .inl (cA, 12, .inl fW)), (bR, .inl (cA, 12, .inl fR)), (bP9, .inl (cA, 12, .inl fP)), (bK, .inl (cA, 12, .inl fK))] sz)) (va_Qi (fun (r : Int32) (u : Int32) => u = cd3 (¬ (okD 5 v ∧ okD 41 x)) (¬ (okB 0 20 rr ∧ okB 1 5 pp)) (¬ (n < 12 ∧ crowd fK x n < st))) (fun (u : Int32) t => We D [(cA, .int)] [(m0, .inr (2, [.int u, .int (nI n), .int rg, .int st, .ref bV, .ref bW, .ref bR, .ref bP9, .ref bK, .ref bT, .ref bC])), (bV, .inl (cA, 12, .inl fV)), (bW, .inl (cA, 12, .inl fW)), (bR, .inl (cA, 12, .inl fR)), (bP9, .inl (cA, 12, .inl fP)), (bK, .inl (cA, 12, .inl fK))] (va_A [(m0, .inr (2, [.int th, .int (nI n), .int rg, .int st, .ref bV, .ref bW, .ref bR, .ref bP9, .ref bK, .ref bT, .ref bC])), (bV, .inl (cA, 12, .inl fV)), (bW, .inl (cA, 12, .inl fW)), (bR, .inl (cA, 12, .inl fR)), (bP9, .inl (cA, 12, .inl fP)), (bK, .inl (cA, 12, .inl fK))] sz) t) (va_A [(m0, .inr (2, [.int th, .int (nI n), .int rg, .int st, .ref bV, .ref bW, .ref bR, .ref bP9, .ref bK, .ref bT, .ref bC])), (bV, .inl (cA, 12, .inl fV)), (bW, .inl (cA, 12, .inl fW)), (bR, .inl (cA, 12, .inl fR)), (bP9, .inl (cA, 12, .inl fP)), (bK, .inl (cA, 12, .inl fK))] sz)) 0 0 (va_A [(m0, .inr (2, [.int th, .int (nI n), .int rg, .int st, .ref bV, .ref bW, .ref bR, .ref bP9, .ref bK, .ref bT, .ref bC])), (bV, .inl (cA, 12, .inl fV)), (bW, .inl (cA, 12, .inl fW)), (bR, .inl (cA, 12, .inl fR)), (bP9, .inl (cA, 12, .inl fP)), (bK, .inl (cA, 12, .inl fK))] sz) := by
  refine mk_met [.ref m0, .int v, .int x, .int rr, .int pp] (fun A => va_Qi (fun (r : Int32) (u : Int32) => u = cd3 (¬ (okD 5 v ∧ okD 41 x)) (¬ (okB 0 20 rr ∧ okB 1 5 pp)) (¬ (n < 12 ∧ crowd fK x n < st))) (fun (u : Int32) t => We D [(cA, .int)] [(m0, .inr (2, [.int u, .int (nI n), .int rg, .int st, .ref bV, .ref bW, .ref bR, .ref bP9, .ref bK, .ref bT, .ref bC])), (bV, .inl (cA, 12, .inl fV)), (bW, .inl (cA, 12, .inl fW)), (bR, .inl (cA, 12, .inl fR)), (bP9, .inl (cA, 12, .inl fP)), (bK, .inl (cA, 12, .inl fK))] A t) A) (by decide) rfl (Nat.le_of_ble_eq_true rfl) ?_
  intro p e s m args below meth c A ls F hr hlocks hname hP hK hD hA hl
  have hx := F.1
  have hb := F.2.1
  have hml := F.2.2.1
  have hown := F.2.2.2.1
  have hts := F.2.2.2.2
  have hS : va_S A s.heap s.heap [] := va_S.rf
  have hl : lv_has ls 5 [(0, .ref m0), (1, .int v), (2, .int x), (3, .int rr), (4, .int pp)] := hl
  refine absQ (fun Q hQ => ?_)
  refine lv_aload_n hx hb dX2_send_0 rfl (lv_at hl 0 rfl) ?_
  refine lv_iconst (v := 0) hx hb dX2_send_1 (by decide) ?_
  refine va_put (D := D) (ci := 2) (v := .int 0) (ty := .int) (C := RX2) (T := TX2) (N := 11) hx hb hts uX2_X2_send tyX2 tyX2_ok nmX2 hown hK hP hD hS 0 rfl rfl 0 (by decide) (hts (.fieldLink RX2 35 "RopeChoicesModel" "thrown" "I") (List.mem_of_getElem? (i := 1) rfl)) (fun _ h9 => h9) rfl (by decide +kernel) rfl rfl (Nat.le_of_ble_eq_true rfl) dX2_send_2 (fun H locs hP hD hS => ?_)
  have hP : va_P D vwCl [(m0, .inr (2, [.int 0, .int (nI n), .int rg, .int st, .ref bV, .ref bW, .ref bR, .ref bP9, .ref bK, .ref bT, .ref bC])), (bV, .inl (cA, 12, .inl fV)), (bW, .inl (cA, 12, .inl fW)), (bR, .inl (cA, 12, .inl fR)), (bP9, .inl (cA, 12, .inl fP)), (bK, .inl (cA, 12, .inl fK))] H := hP
  have hD : va_D A [(m0, .inr (2, [.int 0, .int (nI n), .int rg, .int st, .ref bV, .ref bW, .ref bR, .ref bP9, .ref bK, .ref bT, .ref bC])), (bV, .inl (cA, 12, .inl fV)), (bW, .inl (cA, 12, .inl fW)), (bR, .inl (cA, 12, .inl fR)), (bP9, .inl (cA, 12, .inl fP)), (bK, .inl (cA, 12, .inl fK))] := hD
  refine lv_iload_n hx hb dX2_send_5 rfl (lv_at hl 1 rfl) ?_
  have hX_1 : Cut D A [(m0, .inr (2, [.int 0, .int (nI n), .int rg, .int st, .ref bV, .ref bW, .ref bR, .ref bP9, .ref bK, .ref bT, .ref bC])), (bV, .inl (cA, 12, .inl fV)), (bW, .inl (cA, 12, .inl fW)), (bR, .inl (cA, 12, .inl fR)), (bP9, .inl (cA, 12, .inl fP)), (bK, .inl (cA, 12, .inl fK))] [] [(m0, .inr (2, [.int 0, .int (nI n), .int rg, .int st, .ref bV, .ref bW, .ref bR, .ref bP9, .ref bK, .ref bT, .ref bC])), (bV, .inl (cA, 12, .inl fV)), (bW, .inl (cA, 12, .inl fW)), (bR, .inl (cA, 12, .inl fR)), (bP9, .inl (cA, 12, .inl fP)), (bK, .inl (cA, 12, .inl fK))] [(cA, .int)] [] [] [0, 1, 2, 3, 4, 5] [] := ⟨rfl, rfl, rfl, rfl, by decide, rfl⟩
  refine ki hX_1 hP hD hS hA (kRunS (As := [.int v]) (rest := []) F (c_X2_isVillage l D v H.size) (va_cwS 1 hts gX2_send_X2_isVillage rfl rfl rfl (by decide +kernel) ⟨Nat.le_of_ble_eq_true rfl, Nat.le_of_ble_eq_true rfl⟩) hK hP hD hX_1 rfl hl.1 rfl (Nat.le_of_ble_eq_true rfl) dX2_send_6 ⟨Nat.le_of_ble_eq_true rfl, Nat.le_of_ble_eq_true rfl⟩) (fun r_2 u_3 H locs hw_4 hP hD hS => ?_)
  have hw_4 : r_2 = bP (okD 5 v) := hw_4
  rw [hw_4]
  have hP : va_P D vwCl [(m0, .inr (2, [.int 0, .int (nI n), .int rg, .int st, .ref bV, .ref bW, .ref bR, .ref bP9, .ref bK, .ref bT, .ref bC])), (bV, .inl (cA, 12, .inl fV)), (bW, .inl (cA, 12, .inl fW)), (bR, .inl (cA, 12, .inl fR)), (bP9, .inl (cA, 12, .inl fP)), (bK, .inl (cA, 12, .inl fK))] H := hP
  have hD : va_D A [(m0, .inr (2, [.int 0, .int (nI n), .int rg, .int st, .ref bV, .ref bW, .ref bR, .ref bP9, .ref bK, .ref bT, .ref bC])), (bV, .inl (cA, 12, .inl fV)), (bW, .inl (cA, 12, .inl fW)), (bR, .inl (cA, 12, .inl fR)), (bP9, .inl (cA, 12, .inl fP)), (bK, .inl (cA, 12, .inl fK))] := hD
  refine lv_if_eq (tgt := 19) hx hb dX2_send_9 (by decide) (fun c_9 => ?_) (fun c_9 => ?_)
  · skip
    refine lv_aload_n hx hb dX2_send_19 rfl (lv_at hl 0 rfl) ?_
    refine lv_iconst (v := 1) hx hb dX2_send_20 (by decide) ?_
    have hX_5 : Cut D A [(m0, .inr (2, [.int 0, .int (nI n), .int rg, .int st, .ref bV, .ref bW, .ref bR, .ref bP9, .ref bK, .ref bT, .ref bC])), (bV, .inl (cA, 12, .inl fV)), (bW, .inl (cA, 12, .inl fW)), (bR, .inl (cA, 12, .inl fR)), (bP9, .inl (cA, 12, .inl fP)), (bK, .inl (cA, 12, .inl fK))] [(m0, .inr (2, [.int 0, .int (nI n), .int rg, .int st, .ref bV, .ref bW, .ref bR, .ref bP9, .ref bK, .ref bT, .ref bC]))] [(bV, .inl (cA, 12, .inl fV)), (bW, .inl (cA, 12, .inl fW)), (bR, .inl (cA, 12, .inl fR)), (bP9, .inl (cA, 12, .inl fP)), (bK, .inl (cA, 12, .inl fK))] [(cA, .int)] [(cA, .int)] [0] [1, 2, 3, 4, 5] [0] := ⟨rfl, rfl, rfl, rfl, by decide, rfl⟩
    refine ki hX_5 hP hD hS hA (kRunV (q := (RX2, TX2, 11)) (As := [.int 1]) (rest := []) F (c_X2_fail l D cA m0 0 n rg st bV bW bR bP9 bK bT bC 1 H.size) (cwV 1 hts gX2_send_X2_fail rfl rfl rfl (by decide +kernel) ⟨Nat.le_of_ble_eq_true rfl, Nat.le_of_ble_eq_true rfl⟩) hK hP hD hX_5 0 rfl rfl rfl hl.1 rfl (Nat.le_of_ble_eq_true rfl) dX2_send_21 ⟨Nat.le_of_ble_eq_true rfl, Nat.le_of_ble_eq_true rfl⟩) (fun r_6 u_7 H locs hw_8 hP hD hS => ?_)
    have hw_8 : r_6 = 0 := hw_8
    rw [hw_8]
    have hP : va_P D vwCl [(bV, .inl (cA, 12, .inl fV)), (bW, .inl (cA, 12, .inl fW)), (bR, .inl (cA, 12, .inl fR)), (bP9, .inl (cA, 12, .inl fP)), (bK, .inl (cA, 12, .inl fK)), (m0, .inr (2, [.int 1, .int (nI n), .int rg, .int st, .ref bV, .ref bW, .ref bR, .ref bP9, .ref bK, .ref bT, .ref bC]))] H := hP
    have hD : va_D A [(bV, .inl (cA, 12, .inl fV)), (bW, .inl (cA, 12, .inl fW)), (bR, .inl (cA, 12, .inl fR)), (bP9, .inl (cA, 12, .inl fP)), (bK, .inl (cA, 12, .inl fK)), (m0, .inr (2, [.int 1, .int (nI n), .int rg, .int st, .ref bV, .ref bW, .ref bR, .ref bP9, .ref bK, .ref bT, .ref bC]))] := hD
    refine useQ hQ ?_
    exact e_i (v := 0) F hr hlocks hK hP hD hS [5, 0, 1, 2, 3, 4] [0] 1 ((cd3_1 (fun z => bP_eq c_9 z.1)).symm) rfl rfl rfl (Nat.le_of_ble_eq_true rfl) (Nat.le_of_ble_eq_true rfl) dX2_send_24
  · skip
    refine lv_iload_n hx hb dX2_send_12 rfl (lv_at hl 2 rfl) ?_
    have hX_9 : Cut D A [(m0, .inr (2, [.int 0, .int (nI n), .int rg, .int st, .ref bV, .ref bW, .ref bR, .ref bP9, .ref bK, .ref bT, .ref bC])), (bV, .inl (cA, 12, .inl fV)), (bW, .inl (cA, 12, .inl fW)), (bR, .inl (cA, 12, .inl fR)), (bP9, .inl (cA, 12, .inl fP)), (bK, .inl (cA, 12, .inl fK))] [] [(m0, .inr (2, [.int 0, .int (nI n), .int rg, .int st, .ref bV, .ref bW, .ref bR, .ref bP9, .ref bK, .ref bT, .ref bC])), (bV, .inl (cA, 12, .inl fV)), (bW, .inl (cA, 12, .inl fW)), (bR, .inl (cA, 12, .inl fR)), (bP9, .inl (cA, 12, .inl fP)), (bK, .inl (cA, 12, .inl fK))] [(cA, .int)] [] [] [0, 1, 2, 3, 4, 5] [] := ⟨rfl, rfl, rfl, rfl, by decide, rfl⟩
    refine ki hX_9 hP hD hS hA (kRunS (As := [.int x]) (rest := []) F (c_X2_isPlank l D x H.size) (va_cwS 1 hts gX2_send_X2_isPlank rfl rfl rfl (by decide +kernel) ⟨Nat.le_of_ble_eq_true rfl, Nat.le_of_ble_eq_true rfl⟩) hK hP hD hX_9 rfl hl.1 rfl (Nat.le_of_ble_eq_true rfl) dX2_send_13 ⟨Nat.le_of_ble_eq_true rfl, Nat.le_of_ble_eq_true rfl⟩) (fun r_10 u_11 H locs hw_12 hP hD hS => ?_)
    have hw_12 : r_10 = bP (okD 41 x) := hw_12
    rw [hw_12]
    have hP : va_P D vwCl [(m0, .inr (2, [.int 0, .int (nI n), .int rg, .int st, .ref bV, .ref bW, .ref bR, .ref bP9, .ref bK, .ref bT, .ref bC])), (bV, .inl (cA, 12, .inl fV)), (bW, .inl (cA, 12, .inl fW)), (bR, .inl (cA, 12, .inl fR)), (bP9, .inl (cA, 12, .inl fP)), (bK, .inl (cA, 12, .inl fK))] H := hP
    have hD : va_D A [(m0, .inr (2, [.int 0, .int (nI n), .int rg, .int st, .ref bV, .ref bW, .ref bR, .ref bP9, .ref bK, .ref bT, .ref bC])), (bV, .inl (cA, 12, .inl fV)), (bW, .inl (cA, 12, .inl fW)), (bR, .inl (cA, 12, .inl fR)), (bP9, .inl (cA, 12, .inl fP)), (bK, .inl (cA, 12, .inl fK))] := hD
    refine lv_if_ne (tgt := 25) hx hb dX2_send_16 (by decide) (fun c_16 => ?_) (fun c_16 => ?_)
    · skip
      refine lv_iload_n hx hb dX2_send_25 rfl (lv_at hl 3 rfl) ?_
      refine lv_iconst (v := 0) hx hb dX2_send_26 (by decide) ?_
      refine lv_bipush (v := 20) hx hb dX2_send_27 (by decide) ?_
      have hX_13 : Cut D A [(m0, .inr (2, [.int 0, .int (nI n), .int rg, .int st, .ref bV, .ref bW, .ref bR, .ref bP9, .ref bK, .ref bT, .ref bC])), (bV, .inl (cA, 12, .inl fV)), (bW, .inl (cA, 12, .inl fW)), (bR, .inl (cA, 12, .inl fR)), (bP9, .inl (cA, 12, .inl fP)), (bK, .inl (cA, 12, .inl fK))] [] [(m0, .inr (2, [.int 0, .int (nI n), .int rg, .int st, .ref bV, .ref bW, .ref bR, .ref bP9, .ref bK, .ref bT, .ref bC])), (bV, .inl (cA, 12, .inl fV)), (bW, .inl (cA, 12, .inl fW)), (bR, .inl (cA, 12, .inl fR)), (bP9, .inl (cA, 12, .inl fP)), (bK, .inl (cA, 12, .inl fK))] [(cA, .int)] [] [] [0, 1, 2, 3, 4, 5] [] := ⟨rfl, rfl, rfl, rfl, by decide, rfl⟩
      refine ki hX_13 hP hD hS hA (kRunS (As := [.int rr, .int 0, .int 20]) (rest := []) F (c_X2_isIn l D rr 0 20 H.size) (va_cwS 3 hts gX2_send_X2_isIn rfl rfl rfl (by decide +kernel) ⟨Nat.le_of_ble_eq_true rfl, Nat.le_of_ble_eq_true rfl⟩) hK hP hD hX_13 rfl hl.1 rfl (Nat.le_of_ble_eq_true rfl) dX2_send_29 ⟨Nat.le_of_ble_eq_true rfl, Nat.le_of_ble_eq_true rfl⟩) (fun r_14 u_15 H locs hw_16 hP hD hS => ?_)
      have hw_16 : r_14 = bP (0 ≤ rr ∧ rr ≤ 20) := hw_16
      rw [hw_16]
      have hP : va_P D vwCl [(m0, .inr (2, [.int 0, .int (nI n), .int rg, .int st, .ref bV, .ref bW, .ref bR, .ref bP9, .ref bK, .ref bT, .ref bC])), (bV, .inl (cA, 12, .inl fV)), (bW, .inl (cA, 12, .inl fW)), (bR, .inl (cA, 12, .inl fR)), (bP9, .inl (cA, 12, .inl fP)), (bK, .inl (cA, 12, .inl fK))] H := hP
      have hD : va_D A [(m0, .inr (2, [.int 0, .int (nI n), .int rg, .int st, .ref bV, .ref bW, .ref bR, .ref bP9, .ref bK, .ref bT, .ref bC])), (bV, .inl (cA, 12, .inl fV)), (bW, .inl (cA, 12, .inl fW)), (bR, .inl (cA, 12, .inl fR)), (bP9, .inl (cA, 12, .inl fP)), (bK, .inl (cA, 12, .inl fK))] := hD
      refine lv_if_eq (tgt := 45) hx hb dX2_send_32 (by decide) (fun c_32 => ?_) (fun c_32 => ?_)
      · skip
        refine lv_aload_n hx hb dX2_send_45 rfl (lv_at hl 0 rfl) ?_
        refine lv_iconst (v := 2) hx hb dX2_send_46 (by decide) ?_
        have hX_17 : Cut D A [(m0, .inr (2, [.int 0, .int (nI n), .int rg, .int st, .ref bV, .ref bW, .ref bR, .ref bP9, .ref bK, .ref bT, .ref bC])), (bV, .inl (cA, 12, .inl fV)), (bW, .inl (cA, 12, .inl fW)), (bR, .inl (cA, 12, .inl fR)), (bP9, .inl (cA, 12, .inl fP)), (bK, .inl (cA, 12, .inl fK))] [(m0, .inr (2, [.int 0, .int (nI n), .int rg, .int st, .ref bV, .ref bW, .ref bR, .ref bP9, .ref bK, .ref bT, .ref bC]))] [(bV, .inl (cA, 12, .inl fV)), (bW, .inl (cA, 12, .inl fW)), (bR, .inl (cA, 12, .inl fR)), (bP9, .inl (cA, 12, .inl fP)), (bK, .inl (cA, 12, .inl fK))] [(cA, .int)] [(cA, .int)] [0] [1, 2, 3, 4, 5] [0] := ⟨rfl, rfl, rfl, rfl, by decide, rfl⟩
        refine ki hX_17 hP hD hS hA (kRunV (q := (RX2, TX2, 11)) (As := [.int 2]) (rest := []) F (c_X2_fail l D cA m0 0 n rg st bV bW bR bP9 bK bT bC 2 H.size) (cwV 1 hts gX2_send_X2_fail rfl rfl rfl (by decide +kernel) ⟨Nat.le_of_ble_eq_true rfl, Nat.le_of_ble_eq_true rfl⟩) hK hP hD hX_17 0 rfl rfl rfl hl.1 rfl (Nat.le_of_ble_eq_true rfl) dX2_send_47 ⟨Nat.le_of_ble_eq_true rfl, Nat.le_of_ble_eq_true rfl⟩) (fun r_18 u_19 H locs hw_20 hP hD hS => ?_)
        have hw_20 : r_18 = 0 := hw_20
        rw [hw_20]
        have hP : va_P D vwCl [(bV, .inl (cA, 12, .inl fV)), (bW, .inl (cA, 12, .inl fW)), (bR, .inl (cA, 12, .inl fR)), (bP9, .inl (cA, 12, .inl fP)), (bK, .inl (cA, 12, .inl fK)), (m0, .inr (2, [.int 2, .int (nI n), .int rg, .int st, .ref bV, .ref bW, .ref bR, .ref bP9, .ref bK, .ref bT, .ref bC]))] H := hP
        have hD : va_D A [(bV, .inl (cA, 12, .inl fV)), (bW, .inl (cA, 12, .inl fW)), (bR, .inl (cA, 12, .inl fR)), (bP9, .inl (cA, 12, .inl fP)), (bK, .inl (cA, 12, .inl fK)), (m0, .inr (2, [.int 2, .int (nI n), .int rg, .int st, .ref bV, .ref bW, .ref bR, .ref bP9, .ref bK, .ref bT, .ref bC]))] := hD
        refine useQ hQ ?_
        exact e_i (v := 0) F hr hlocks hK hP hD hS [5, 0, 1, 2, 3, 4] [0] 2 ((cd3_2 (not_not_intro ⟨bP_ne c_9, bP_ne c_16⟩) (fun z => bP_eq c_32 ((isIn_B (lo := 0) (hi := 20) (by omega) (by omega)).mpr z.1))).symm) rfl rfl rfl (Nat.le_of_ble_eq_true rfl) (Nat.le_of_ble_eq_true rfl) dX2_send_50
      · skip
        refine lv_iload hx hb dX2_send_35 (lv_at hl 4 rfl) ?_
        refine lv_iconst (v := 1) hx hb dX2_send_37 (by decide) ?_
        refine lv_iconst (v := 5) hx hb dX2_send_38 (by decide) ?_
        have hX_21 : Cut D A [(m0, .inr (2, [.int 0, .int (nI n), .int rg, .int st, .ref bV, .ref bW, .ref bR, .ref bP9, .ref bK, .ref bT, .ref bC])), (bV, .inl (cA, 12, .inl fV)), (bW, .inl (cA, 12, .inl fW)), (bR, .inl (cA, 12, .inl fR)), (bP9, .inl (cA, 12, .inl fP)), (bK, .inl (cA, 12, .inl fK))] [] [(m0, .inr (2, [.int 0, .int (nI n), .int rg, .int st, .ref bV, .ref bW, .ref bR, .ref bP9, .ref bK, .ref bT, .ref bC])), (bV, .inl (cA, 12, .inl fV)), (bW, .inl (cA, 12, .inl fW)), (bR, .inl (cA, 12, .inl fR)), (bP9, .inl (cA, 12, .inl fP)), (bK, .inl (cA, 12, .inl fK))] [(cA, .int)] [] [] [0, 1, 2, 3, 4, 5] [] := ⟨rfl, rfl, rfl, rfl, by decide, rfl⟩
        refine ki hX_21 hP hD hS hA (kRunS (As := [.int pp, .int 1, .int 5]) (rest := []) F (c_X2_isIn l D pp 1 5 H.size) (va_cwS 3 hts gX2_send_X2_isIn rfl rfl rfl (by decide +kernel) ⟨Nat.le_of_ble_eq_true rfl, Nat.le_of_ble_eq_true rfl⟩) hK hP hD hX_21 rfl hl.1 rfl (Nat.le_of_ble_eq_true rfl) dX2_send_39 ⟨Nat.le_of_ble_eq_true rfl, Nat.le_of_ble_eq_true rfl⟩) (fun r_22 u_23 H locs hw_24 hP hD hS => ?_)
        have hw_24 : r_22 = bP (1 ≤ pp ∧ pp ≤ 5) := hw_24
        rw [hw_24]
        have hP : va_P D vwCl [(m0, .inr (2, [.int 0, .int (nI n), .int rg, .int st, .ref bV, .ref bW, .ref bR, .ref bP9, .ref bK, .ref bT, .ref bC])), (bV, .inl (cA, 12, .inl fV)), (bW, .inl (cA, 12, .inl fW)), (bR, .inl (cA, 12, .inl fR)), (bP9, .inl (cA, 12, .inl fP)), (bK, .inl (cA, 12, .inl fK))] H := hP
        have hD : va_D A [(m0, .inr (2, [.int 0, .int (nI n), .int rg, .int st, .ref bV, .ref bW, .ref bR, .ref bP9, .ref bK, .ref bT, .ref bC])), (bV, .inl (cA, 12, .inl fV)), (bW, .inl (cA, 12, .inl fW)), (bR, .inl (cA, 12, .inl fR)), (bP9, .inl (cA, 12, .inl fP)), (bK, .inl (cA, 12, .inl fK))] := hD
        refine lv_if_ne (tgt := 51) hx hb dX2_send_42 (by decide) (fun c_42 => ?_) (fun c_42 => ?_)
        · skip
          refine lv_aload_n hx hb dX2_send_51 rfl (lv_at hl 0 rfl) ?_
          refine va_get (D := D) (ci := 2) (v := .int (nI n)) (C := RX2) (T := TX2) (N := 11) hx hb hts uX2_X2_send hown hK hP 0 rfl rfl 1 (by decide) (hts (.fieldLink RX2 38 "RopeChoicesModel" "many" "I") (List.mem_of_getElem? (i := 2) rfl)) (fun _ h9 => h9) rfl dX2_send_52 ?_
          refine lv_bipush (v := 12) hx hb dX2_send_55 (by decide) ?_
          refine lv_icmp_eq (tgt := 68) hx hb dX2_send_57 (by decide) (fun c_57 => ?_) (fun c_57 => ?_)
          · skip
            have g_57 : n = 12 := nf_eq_t (by omega) (by omega) c_57
            refine lv_aload_n hx hb dX2_send_68 rfl (lv_at hl 0 rfl) ?_
            refine lv_iconst (v := 3) hx hb dX2_send_69 (by decide) ?_
            have hX_25 : Cut D A [(m0, .inr (2, [.int 0, .int (nI n), .int rg, .int st, .ref bV, .ref bW, .ref bR, .ref bP9, .ref bK, .ref bT, .ref bC])), (bV, .inl (cA, 12, .inl fV)), (bW, .inl (cA, 12, .inl fW)), (bR, .inl (cA, 12, .inl fR)), (bP9, .inl (cA, 12, .inl fP)), (bK, .inl (cA, 12, .inl fK))] [(m0, .inr (2, [.int 0, .int (nI n), .int rg, .int st, .ref bV, .ref bW, .ref bR, .ref bP9, .ref bK, .ref bT, .ref bC]))] [(bV, .inl (cA, 12, .inl fV)), (bW, .inl (cA, 12, .inl fW)), (bR, .inl (cA, 12, .inl fR)), (bP9, .inl (cA, 12, .inl fP)), (bK, .inl (cA, 12, .inl fK))] [(cA, .int)] [(cA, .int)] [0] [1, 2, 3, 4, 5] [0] := ⟨rfl, rfl, rfl, rfl, by decide, rfl⟩
            refine ki hX_25 hP hD hS hA (kRunV (q := (RX2, TX2, 11)) (As := [.int 3]) (rest := []) F (c_X2_fail l D cA m0 0 n rg st bV bW bR bP9 bK bT bC 3 H.size) (cwV 1 hts gX2_send_X2_fail rfl rfl rfl (by decide +kernel) ⟨Nat.le_of_ble_eq_true rfl, Nat.le_of_ble_eq_true rfl⟩) hK hP hD hX_25 0 rfl rfl rfl hl.1 rfl (Nat.le_of_ble_eq_true rfl) dX2_send_70 ⟨Nat.le_of_ble_eq_true rfl, Nat.le_of_ble_eq_true rfl⟩) (fun r_26 u_27 H locs hw_28 hP hD hS => ?_)
            have hw_28 : r_26 = 0 := hw_28
            rw [hw_28]
            have hP : va_P D vwCl [(bV, .inl (cA, 12, .inl fV)), (bW, .inl (cA, 12, .inl fW)), (bR, .inl (cA, 12, .inl fR)), (bP9, .inl (cA, 12, .inl fP)), (bK, .inl (cA, 12, .inl fK)), (m0, .inr (2, [.int 3, .int (nI n), .int rg, .int st, .ref bV, .ref bW, .ref bR, .ref bP9, .ref bK, .ref bT, .ref bC]))] H := hP
            have hD : va_D A [(bV, .inl (cA, 12, .inl fV)), (bW, .inl (cA, 12, .inl fW)), (bR, .inl (cA, 12, .inl fR)), (bP9, .inl (cA, 12, .inl fP)), (bK, .inl (cA, 12, .inl fK)), (m0, .inr (2, [.int 3, .int (nI n), .int rg, .int st, .ref bV, .ref bW, .ref bR, .ref bP9, .ref bK, .ref bT, .ref bC]))] := hD
            refine useQ hQ ?_
            exact e_i (v := 0) F hr hlocks hK hP hD hS [5, 0, 1, 2, 3, 4] [0] 3 ((cd3_3 (not_not_intro ⟨bP_ne c_9, bP_ne c_16⟩) (not_not_intro ⟨(isIn_B (lo := 0) (hi := 20) (by omega) (by omega)).mp (bP_ne c_32), (isIn_B (lo := 1) (hi := 5) (by omega) (by omega)).mp (bP_ne c_42)⟩) (fun z => absurd z.1 (by omega))).symm) rfl rfl rfl (Nat.le_of_ble_eq_true rfl) (Nat.le_of_ble_eq_true rfl) dX2_send_73
          · skip
            have g_57 : n ≠ 12 := nf_eq_f (by omega) (by omega) c_57
            refine lv_aload_n hx hb dX2_send_60 rfl (lv_at hl 0 rfl) ?_
            refine lv_iload_n hx hb dX2_send_61 rfl (lv_at hl 2 rfl) ?_
            have hX_29 : Cut D A [(m0, .inr (2, [.int 0, .int (nI n), .int rg, .int st, .ref bV, .ref bW, .ref bR, .ref bP9, .ref bK, .ref bT, .ref bC])), (bV, .inl (cA, 12, .inl fV)), (bW, .inl (cA, 12, .inl fW)), (bR, .inl (cA, 12, .inl fR)), (bP9, .inl (cA, 12, .inl fP)), (bK, .inl (cA, 12, .inl fK))] [(m0, .inr (2, [.int 0, .int (nI n), .int rg, .int st, .ref bV, .ref bW, .ref bR, .ref bP9, .ref bK, .ref bT, .ref bC])), (bK, .inl (cA, 12, .inl fK))] [(bV, .inl (cA, 12, .inl fV)), (bW, .inl (cA, 12, .inl fW)), (bR, .inl (cA, 12, .inl fR)), (bP9, .inl (cA, 12, .inl fP))] [(cA, .int)] [(cA, .int)] [0, 5] [1, 2, 3, 4] [0] := ⟨rfl, rfl, rfl, rfl, by decide, rfl⟩
            refine ki hX_29 hP hD hS hA (kRunV (q := (RX2, TX2, 11)) (As := [.int x]) (rest := []) F (c_X2_hasRoom l D cA m0 0 n rg st bV bW bR bP9 bK bT bC fK x hn H.size) (cwV 1 hts gX2_send_X2_hasRoom rfl rfl rfl (by decide +kernel) ⟨Nat.le_of_ble_eq_true rfl, Nat.le_of_ble_eq_true rfl⟩) hK hP hD hX_29 0 rfl rfl rfl hl.1 rfl (Nat.le_of_ble_eq_true rfl) dX2_send_62 ⟨Nat.le_of_ble_eq_true rfl, Nat.le_of_ble_eq_true rfl⟩) (fun r_30 u_31 H locs hw_32 hP hD hS => ?_)
            have hw_32 : r_30 = bP (crowd fK x n < st) := hw_32
            rw [hw_32]
            have hP : va_P D vwCl [(bV, .inl (cA, 12, .inl fV)), (bW, .inl (cA, 12, .inl fW)), (bR, .inl (cA, 12, .inl fR)), (bP9, .inl (cA, 12, .inl fP)), (m0, .inr (2, [.int 0, .int (nI n), .int rg, .int st, .ref bV, .ref bW, .ref bR, .ref bP9, .ref bK, .ref bT, .ref bC])), (bK, .inl (cA, 12, .inl fK))] H := hP
            have hD : va_D A [(bV, .inl (cA, 12, .inl fV)), (bW, .inl (cA, 12, .inl fW)), (bR, .inl (cA, 12, .inl fR)), (bP9, .inl (cA, 12, .inl fP)), (m0, .inr (2, [.int 0, .int (nI n), .int rg, .int st, .ref bV, .ref bW, .ref bR, .ref bP9, .ref bK, .ref bT, .ref bC])), (bK, .inl (cA, 12, .inl fK))] := hD
            refine lv_if_ne (tgt := 74) hx hb dX2_send_65 (by decide) (fun c_65 => ?_) (fun c_65 => ?_)
            · skip
              exact absurd (cd3_0 (not_not_intro ⟨bP_ne c_9, bP_ne c_16⟩) (not_not_intro ⟨(isIn_B (lo := 0) (hi := 20) (by omega) (by omega)).mp (bP_ne c_32), (isIn_B (lo := 1) (hi := 5) (by omega) (by omega)).mp (bP_ne c_42)⟩) (not_not_intro ⟨by omega, bP_ne c_65⟩)) hcd
            · skip
              refine lv_aload_n hx hb dX2_send_68 rfl (lv_at hl 0 rfl) ?_
              refine lv_iconst (v := 3) hx hb dX2_send_69 (by decide) ?_
              have hX_33 : Cut D A [(bV, .inl (cA, 12, .inl fV)), (bW, .inl (cA, 12, .inl fW)), (bR, .inl (cA, 12, .inl fR)), (bP9, .inl (cA, 12, .inl fP)), (m0, .inr (2, [.int 0, .int (nI n), .int rg, .int st, .ref bV, .ref bW, .ref bR, .ref bP9, .ref bK, .ref bT, .ref bC])), (bK, .inl (cA, 12, .inl fK))] [(m0, .inr (2, [.int 0, .int (nI n), .int rg, .int st, .ref bV, .ref bW, .ref bR, .ref bP9, .ref bK, .ref bT, .ref bC]))] [(bV, .inl (cA, 12, .inl fV)), (bW, .inl (cA, 12, .inl fW)), (bR, .inl (cA, 12, .inl fR)), (bP9, .inl (cA, 12, .inl fP)), (bK, .inl (cA, 12, .inl fK))] [(cA, .int)] [(cA, .int)] [4] [0, 1, 2, 3, 5] [0] := ⟨rfl, rfl, rfl, rfl, by decide, rfl⟩
              refine ki hX_33 hP hD hS hA (kRunV (q := (RX2, TX2, 11)) (As := [.int 3]) (rest := []) F (c_X2_fail l D cA m0 0 n rg st bV bW bR bP9 bK bT bC 3 H.size) (cwV 1 hts gX2_send_X2_fail rfl rfl rfl (by decide +kernel) ⟨Nat.le_of_ble_eq_true rfl, Nat.le_of_ble_eq_true rfl⟩) hK hP hD hX_33 4 rfl rfl rfl hl.1 rfl (Nat.le_of_ble_eq_true rfl) dX2_send_70 ⟨Nat.le_of_ble_eq_true rfl, Nat.le_of_ble_eq_true rfl⟩) (fun r_34 u_35 H locs hw_36 hP hD hS => ?_)
              have hw_36 : r_34 = 0 := hw_36
              rw [hw_36]
              have hP : va_P D vwCl [(bV, .inl (cA, 12, .inl fV)), (bW, .inl (cA, 12, .inl fW)), (bR, .inl (cA, 12, .inl fR)), (bP9, .inl (cA, 12, .inl fP)), (bK, .inl (cA, 12, .inl fK)), (m0, .inr (2, [.int 3, .int (nI n), .int rg, .int st, .ref bV, .ref bW, .ref bR, .ref bP9, .ref bK, .ref bT, .ref bC]))] H := hP
              have hD : va_D A [(bV, .inl (cA, 12, .inl fV)), (bW, .inl (cA, 12, .inl fW)), (bR, .inl (cA, 12, .inl fR)), (bP9, .inl (cA, 12, .inl fP)), (bK, .inl (cA, 12, .inl fK)), (m0, .inr (2, [.int 3, .int (nI n), .int rg, .int st, .ref bV, .ref bW, .ref bR, .ref bP9, .ref bK, .ref bT, .ref bC]))] := hD
              refine useQ hQ ?_
              exact e_i (v := 0) F hr hlocks hK hP hD hS [5, 0, 1, 2, 3, 4] [0] 3 ((cd3_3 (not_not_intro ⟨bP_ne c_9, bP_ne c_16⟩) (not_not_intro ⟨(isIn_B (lo := 0) (hi := 20) (by omega) (by omega)).mp (bP_ne c_32), (isIn_B (lo := 1) (hi := 5) (by omega) (by omega)).mp (bP_ne c_42)⟩) (fun z => bP_eq c_65 z.2)).symm) rfl rfl rfl (Nat.le_of_ble_eq_true rfl) (Nat.le_of_ble_eq_true rfl) dX2_send_73
        · skip
          refine lv_aload_n hx hb dX2_send_45 rfl (lv_at hl 0 rfl) ?_
          refine lv_iconst (v := 2) hx hb dX2_send_46 (by decide) ?_
          have hX_37 : Cut D A [(m0, .inr (2, [.int 0, .int (nI n), .int rg, .int st, .ref bV, .ref bW, .ref bR, .ref bP9, .ref bK, .ref bT, .ref bC])), (bV, .inl (cA, 12, .inl fV)), (bW, .inl (cA, 12, .inl fW)), (bR, .inl (cA, 12, .inl fR)), (bP9, .inl (cA, 12, .inl fP)), (bK, .inl (cA, 12, .inl fK))] [(m0, .inr (2, [.int 0, .int (nI n), .int rg, .int st, .ref bV, .ref bW, .ref bR, .ref bP9, .ref bK, .ref bT, .ref bC]))] [(bV, .inl (cA, 12, .inl fV)), (bW, .inl (cA, 12, .inl fW)), (bR, .inl (cA, 12, .inl fR)), (bP9, .inl (cA, 12, .inl fP)), (bK, .inl (cA, 12, .inl fK))] [(cA, .int)] [(cA, .int)] [0] [1, 2, 3, 4, 5] [0] := ⟨rfl, rfl, rfl, rfl, by decide, rfl⟩
          refine ki hX_37 hP hD hS hA (kRunV (q := (RX2, TX2, 11)) (As := [.int 2]) (rest := []) F (c_X2_fail l D cA m0 0 n rg st bV bW bR bP9 bK bT bC 2 H.size) (cwV 1 hts gX2_send_X2_fail rfl rfl rfl (by decide +kernel) ⟨Nat.le_of_ble_eq_true rfl, Nat.le_of_ble_eq_true rfl⟩) hK hP hD hX_37 0 rfl rfl rfl hl.1 rfl (Nat.le_of_ble_eq_true rfl) dX2_send_47 ⟨Nat.le_of_ble_eq_true rfl, Nat.le_of_ble_eq_true rfl⟩) (fun r_38 u_39 H locs hw_40 hP hD hS => ?_)
          have hw_40 : r_38 = 0 := hw_40
          rw [hw_40]
          have hP : va_P D vwCl [(bV, .inl (cA, 12, .inl fV)), (bW, .inl (cA, 12, .inl fW)), (bR, .inl (cA, 12, .inl fR)), (bP9, .inl (cA, 12, .inl fP)), (bK, .inl (cA, 12, .inl fK)), (m0, .inr (2, [.int 2, .int (nI n), .int rg, .int st, .ref bV, .ref bW, .ref bR, .ref bP9, .ref bK, .ref bT, .ref bC]))] H := hP
          have hD : va_D A [(bV, .inl (cA, 12, .inl fV)), (bW, .inl (cA, 12, .inl fW)), (bR, .inl (cA, 12, .inl fR)), (bP9, .inl (cA, 12, .inl fP)), (bK, .inl (cA, 12, .inl fK)), (m0, .inr (2, [.int 2, .int (nI n), .int rg, .int st, .ref bV, .ref bW, .ref bR, .ref bP9, .ref bK, .ref bT, .ref bC]))] := hD
          refine useQ hQ ?_
          exact e_i (v := 0) F hr hlocks hK hP hD hS [5, 0, 1, 2, 3, 4] [0] 2 ((cd3_2 (not_not_intro ⟨bP_ne c_9, bP_ne c_16⟩) (fun z => bP_eq c_42 ((isIn_B (lo := 1) (hi := 5) (by omega) (by omega)).mpr z.2))).symm) rfl rfl rfl (Nat.le_of_ble_eq_true rfl) (Nat.le_of_ble_eq_true rfl) dX2_send_50
    · skip
      refine lv_aload_n hx hb dX2_send_19 rfl (lv_at hl 0 rfl) ?_
      refine lv_iconst (v := 1) hx hb dX2_send_20 (by decide) ?_
      have hX_41 : Cut D A [(m0, .inr (2, [.int 0, .int (nI n), .int rg, .int st, .ref bV, .ref bW, .ref bR, .ref bP9, .ref bK, .ref bT, .ref bC])), (bV, .inl (cA, 12, .inl fV)), (bW, .inl (cA, 12, .inl fW)), (bR, .inl (cA, 12, .inl fR)), (bP9, .inl (cA, 12, .inl fP)), (bK, .inl (cA, 12, .inl fK))] [(m0, .inr (2, [.int 0, .int (nI n), .int rg, .int st, .ref bV, .ref bW, .ref bR, .ref bP9, .ref bK, .ref bT, .ref bC]))] [(bV, .inl (cA, 12, .inl fV)), (bW, .inl (cA, 12, .inl fW)), (bR, .inl (cA, 12, .inl fR)), (bP9, .inl (cA, 12, .inl fP)), (bK, .inl (cA, 12, .inl fK))] [(cA, .int)] [(cA, .int)] [0] [1, 2, 3, 4, 5] [0] := ⟨rfl, rfl, rfl, rfl, by decide, rfl⟩
      refine ki hX_41 hP hD hS hA (kRunV (q := (RX2, TX2, 11)) (As := [.int 1]) (rest := []) F (c_X2_fail l D cA m0 0 n rg st bV bW bR bP9 bK bT bC 1 H.size) (cwV 1 hts gX2_send_X2_fail rfl rfl rfl (by decide +kernel) ⟨Nat.le_of_ble_eq_true rfl, Nat.le_of_ble_eq_true rfl⟩) hK hP hD hX_41 0 rfl rfl rfl hl.1 rfl (Nat.le_of_ble_eq_true rfl) dX2_send_21 ⟨Nat.le_of_ble_eq_true rfl, Nat.le_of_ble_eq_true rfl⟩) (fun r_42 u_43 H locs hw_44 hP hD hS => ?_)
      have hw_44 : r_42 = 0 := hw_44
      rw [hw_44]
      have hP : va_P D vwCl [(bV, .inl (cA, 12, .inl fV)), (bW, .inl (cA, 12, .inl fW)), (bR, .inl (cA, 12, .inl fR)), (bP9, .inl (cA, 12, .inl fP)), (bK, .inl (cA, 12, .inl fK)), (m0, .inr (2, [.int 1, .int (nI n), .int rg, .int st, .ref bV, .ref bW, .ref bR, .ref bP9, .ref bK, .ref bT, .ref bC]))] H := hP
      have hD : va_D A [(bV, .inl (cA, 12, .inl fV)), (bW, .inl (cA, 12, .inl fW)), (bR, .inl (cA, 12, .inl fR)), (bP9, .inl (cA, 12, .inl fP)), (bK, .inl (cA, 12, .inl fK)), (m0, .inr (2, [.int 1, .int (nI n), .int rg, .int st, .ref bV, .ref bW, .ref bR, .ref bP9, .ref bK, .ref bT, .ref bC]))] := hD
      refine useQ hQ ?_
      exact e_i (v := 0) F hr hlocks hK hP hD hS [5, 0, 1, 2, 3, 4] [0] 1 ((cd3_1 (fun z => bP_eq c_16 z.2)).symm) rfl rfl rfl (Nat.le_of_ble_eq_true rfl) (Nat.le_of_ble_eq_true rfl) dX2_send_24
theorem uX2_X2_recall : ∀ w ∈ u_ws RX2 TX2 11, w ∈ wsX2_recall := (fun _ h => List.mem_cons_of_mem _ (List.mem_append_right _ h))
set_option maxHeartbeats 4000000 in
set_option maxRecDepth 100000 in
theorem c_X2_recall_ok (l : Launch) (D : va_G) (cA : ClassId) (m0 : Nat) (th : Int32) (n : Nat) (rg : Int32) (st : Int32) (bV : Nat) (bW : Nat) (bR : Nat) (bP9 : Nat) (bK : Nat) (bT : Nat) (bC : Nat) (fV : Nat → Int32) (fW : Nat → Int32) (fR : Nat → Int32) (fP : Nat → Int32) (fK : Nat → Int32) (d : Int32) (hn : n ≤ 12) (hcd : okD n d) (sz : Nat) : Met l yX2_recall wsX2_recall ({ frames := 2, cells := 0, slots := 0, locals := 43 } : Room) (va_Pc [.ref m0, .int d] (Wd D [(cA, .int)] [(m0, .inr (2, [.int th, .int (nI n), .int rg, .int st, .ref bV, .ref bW, .ref bR, .ref bP9, .ref bK, .ref bT, .ref bC])), (bV, .inl (cA, 12, .inl fV)), (bW, .inl (cA, 12, .inl fW)), (bR, .inl (cA, 12, .inl fR)), (bP9, .inl (cA, 12, .inl fP)), (bK, .inl (cA, 12, .inl fK))] sz)) (va_Qi (fun (r : Int32) (u : Nat) => u < n ∧ d = nI u ∧ r = fK u) (fun (u : Nat) t => We D [(cA, .int)] [(m0, .inr (2, [.int 0, .int (nI (n - 1)), .int rg, .int st, .ref bV, .ref bW, .ref bR, .ref bP9, .ref bK, .ref bT, .ref bC])), (bV, .inl (cA, 12, .inl (closeF fV u n))), (bW, .inl (cA, 12, .inl (closeF fW u n))), (bR, .inl (cA, 12, .inl (closeF fR u n))), (bP9, .inl (cA, 12, .inl (closeF fP u n))), (bK, .inl (cA, 12, .inl (closeF fK u n)))] (va_A [(m0, .inr (2, [.int th, .int (nI n), .int rg, .int st, .ref bV, .ref bW, .ref bR, .ref bP9, .ref bK, .ref bT, .ref bC])), (bV, .inl (cA, 12, .inl fV)), (bW, .inl (cA, 12, .inl fW)), (bR, .inl (cA, 12, .inl fR)), (bP9, .inl (cA, 12, .inl fP)), (bK, .inl (cA, 12, .inl fK))] sz) t) (va_A [(m0, .inr (2, [.int th, .int (nI n), .int rg, .int st, .ref bV, .ref bW, .ref bR, .ref bP9, .ref bK, .ref bT, .ref bC])), (bV, .inl (cA, 12, .inl fV)), (bW, .inl (cA, 12, .inl fW)), (bR, .inl (cA, 12, .inl fR)), (bP9, .inl (cA, 12, .inl fP)), (bK, .inl (cA, 12, .inl fK))] sz)) 0 0 (va_A [(m0, .inr (2, [.int th, .int (nI n), .int rg, .int st, .ref bV, .ref bW, .ref bR, .ref bP9, .ref bK, .ref bT, .ref bC])), (bV, .inl (cA, 12, .inl fV)), (bW, .inl (cA, 12, .inl fW)), (bR, .inl (cA, 12, .inl fR)), (bP9, .inl (cA, 12, .inl fP)), (bK, .inl (cA, 12, .inl fK))] sz) := by
  refine mk_met [.ref m0, .int d] (fun A => va_Qi (fun (r : Int32) (u : Nat) => u < n ∧ d = nI u ∧ r = fK u) (fun (u : Nat) t => We D [(cA, .int)] [(m0, .inr (2, [.int 0, .int (nI (n - 1)), .int rg, .int st, .ref bV, .ref bW, .ref bR, .ref bP9, .ref bK, .ref bT, .ref bC])), (bV, .inl (cA, 12, .inl (closeF fV u n))), (bW, .inl (cA, 12, .inl (closeF fW u n))), (bR, .inl (cA, 12, .inl (closeF fR u n))), (bP9, .inl (cA, 12, .inl (closeF fP u n))), (bK, .inl (cA, 12, .inl (closeF fK u n)))] A t) A) (by decide) rfl (Nat.le_of_ble_eq_true rfl) ?_
  intro p e s m args below meth c A ls F hr hlocks hname hP hK hD hA hl
  have hx := F.1
  have hb := F.2.1
  have hml := F.2.2.1
  have hown := F.2.2.2.1
  have hts := F.2.2.2.2
  have hS : va_S A s.heap s.heap [] := va_S.rf
  have hl : lv_has ls 3 [(0, .ref m0), (1, .int d)] := hl
  refine absQ (fun Q hQ => ?_)
  refine lv_aload_n hx hb dX2_recall_0 rfl (lv_at hl 0 rfl) ?_
  refine lv_iconst (v := 0) hx hb dX2_recall_1 (by decide) ?_
  refine va_put (D := D) (ci := 2) (v := .int 0) (ty := .int) (C := RX2) (T := TX2) (N := 11) hx hb hts uX2_X2_recall tyX2 tyX2_ok nmX2 hown hK hP hD hS 0 rfl rfl 0 (by decide) (hts (.fieldLink RX2 35 "RopeChoicesModel" "thrown" "I") (List.mem_of_getElem? (i := 1) rfl)) (fun _ h9 => h9) rfl (by decide +kernel) rfl rfl (Nat.le_of_ble_eq_true rfl) dX2_recall_2 (fun H locs hP hD hS => ?_)
  have hP : va_P D vwCl [(m0, .inr (2, [.int 0, .int (nI n), .int rg, .int st, .ref bV, .ref bW, .ref bR, .ref bP9, .ref bK, .ref bT, .ref bC])), (bV, .inl (cA, 12, .inl fV)), (bW, .inl (cA, 12, .inl fW)), (bR, .inl (cA, 12, .inl fR)), (bP9, .inl (cA, 12, .inl fP)), (bK, .inl (cA, 12, .inl fK))] H := hP
  have hD : va_D A [(m0, .inr (2, [.int 0, .int (nI n), .int rg, .int st, .ref bV, .ref bW, .ref bR, .ref bP9, .ref bK, .ref bT, .ref bC])), (bV, .inl (cA, 12, .inl fV)), (bW, .inl (cA, 12, .inl fW)), (bR, .inl (cA, 12, .inl fR)), (bP9, .inl (cA, 12, .inl fP)), (bK, .inl (cA, 12, .inl fK))] := hD
  refine lv_aload_n hx hb dX2_recall_5 rfl (lv_at hl 0 rfl) ?_
  refine lv_iload_n hx hb dX2_recall_6 rfl (lv_at hl 1 rfl) ?_
  have hX_1 : Cut D A [(m0, .inr (2, [.int 0, .int (nI n), .int rg, .int st, .ref bV, .ref bW, .ref bR, .ref bP9, .ref bK, .ref bT, .ref bC])), (bV, .inl (cA, 12, .inl fV)), (bW, .inl (cA, 12, .inl fW)), (bR, .inl (cA, 12, .inl fR)), (bP9, .inl (cA, 12, .inl fP)), (bK, .inl (cA, 12, .inl fK))] [(m0, .inr (2, [.int 0, .int (nI n), .int rg, .int st, .ref bV, .ref bW, .ref bR, .ref bP9, .ref bK, .ref bT, .ref bC]))] [(bV, .inl (cA, 12, .inl fV)), (bW, .inl (cA, 12, .inl fW)), (bR, .inl (cA, 12, .inl fR)), (bP9, .inl (cA, 12, .inl fP)), (bK, .inl (cA, 12, .inl fK))] [(cA, .int)] [(cA, .int)] [0] [1, 2, 3, 4, 5] [0] := ⟨rfl, rfl, rfl, rfl, by decide, rfl⟩
  refine ki hX_1 hP hD hS hA (kRunV (q := (RX2, TX2, 11)) (As := [.int d]) (rest := []) F (c_X2_isDelegate l D cA m0 0 n rg st bV bW bR bP9 bK bT bC d hn H.size) (cwV 1 hts gX2_recall_X2_isDelegate rfl rfl rfl (by decide +kernel) ⟨Nat.le_of_ble_eq_true rfl, Nat.le_of_ble_eq_true rfl⟩) hK hP hD hX_1 0 rfl rfl rfl hl.1 rfl (Nat.le_of_ble_eq_true rfl) dX2_recall_7 ⟨Nat.le_of_ble_eq_true rfl, Nat.le_of_ble_eq_true rfl⟩) (fun r_2 u_3 H locs hw_4 hP hD hS => ?_)
  have hw_4 : r_2 = bP (okD n d) := hw_4
  rw [hw_4]
  have hP : va_P D vwCl [(bV, .inl (cA, 12, .inl fV)), (bW, .inl (cA, 12, .inl fW)), (bR, .inl (cA, 12, .inl fR)), (bP9, .inl (cA, 12, .inl fP)), (bK, .inl (cA, 12, .inl fK)), (m0, .inr (2, [.int 0, .int (nI n), .int rg, .int st, .ref bV, .ref bW, .ref bR, .ref bP9, .ref bK, .ref bT, .ref bC]))] H := hP
  have hD : va_D A [(bV, .inl (cA, 12, .inl fV)), (bW, .inl (cA, 12, .inl fW)), (bR, .inl (cA, 12, .inl fR)), (bP9, .inl (cA, 12, .inl fP)), (bK, .inl (cA, 12, .inl fK)), (m0, .inr (2, [.int 0, .int (nI n), .int rg, .int st, .ref bV, .ref bW, .ref bR, .ref bP9, .ref bK, .ref bT, .ref bC]))] := hD
  refine lv_if_ne (tgt := 19) hx hb dX2_recall_10 (by decide) (fun c_10 => ?_) (fun c_10 => ?_)
  · skip
    obtain ⟨j, hj, hd9⟩ := (bP_ne c_10)
    subst hd9
    have hD9 : okD n (nI j) := ⟨j, hj, rfl⟩
    have hdn : dN (nI j) = j := dN_nI (by omega)
    refine lv_aload_n hx hb dX2_recall_19 rfl (lv_at hl 0 rfl) ?_
    refine va_get (D := D) (ci := 2) (v := .ref bK) (C := RX2) (T := TX2) (N := 11) hx hb hts uX2_X2_recall hown hK hP 5 rfl rfl 8 (by decide) (hts (.fieldLink RX2 26 "RopeChoicesModel" "plank" "[I") (List.mem_of_getElem? (i := 2) rfl)) (fun _ h9 => h9) rfl dX2_recall_20 ?_
    refine lv_iload_n hx hb dX2_recall_23 rfl (lv_at hl 1 rfl) ?_
    refine a_ld (k := j) hx hb hK hP 4 0 rfl rfl (by omega) (Nat.le_of_ble_eq_true rfl) dX2_recall_24 ?_
    refine lv_istore_n (lv' := [(2, .int (fK j)), (0, .ref m0), (1, .int (nI j))]) hx hb dX2_recall_25 rfl hl (by decide) rfl (fun ls hl => ?_)
    refine lv_aload_n hx hb dX2_recall_26 rfl (lv_at hl 1 rfl) ?_
    refine va_get (D := D) (ci := 2) (v := .ref bV) (C := RX2) (T := TX2) (N := 11) hx hb hts uX2_X2_recall hown hK hP 5 rfl rfl 4 (by decide) (hts (.fieldLink RX2 13 "RopeChoicesModel" "village" "[I") (List.mem_of_getElem? (i := 3) rfl)) (fun _ h9 => h9) rfl dX2_recall_27 ?_
    refine lv_iload_n hx hb dX2_recall_30 rfl (lv_at hl 2 rfl) ?_
    refine lv_aload_n hx hb dX2_recall_31 rfl (lv_at hl 1 rfl) ?_
    refine va_get (D := D) (ci := 2) (v := .int (nI n)) (C := RX2) (T := TX2) (N := 11) hx hb hts uX2_X2_recall hown hK hP 5 rfl rfl 1 (by decide) (hts (.fieldLink RX2 38 "RopeChoicesModel" "many" "I") (List.mem_of_getElem? (i := 4) rfl)) (fun _ h9 => h9) rfl dX2_recall_32 ?_
    have hX_5 : Cut D A [(bV, .inl (cA, 12, .inl fV)), (bW, .inl (cA, 12, .inl fW)), (bR, .inl (cA, 12, .inl fR)), (bP9, .inl (cA, 12, .inl fP)), (bK, .inl (cA, 12, .inl fK)), (m0, .inr (2, [.int 0, .int (nI n), .int rg, .int st, .ref bV, .ref bW, .ref bR, .ref bP9, .ref bK, .ref bT, .ref bC]))] [(bV, .inl (cA, 12, .inl fV))] [(bW, .inl (cA, 12, .inl fW)), (bR, .inl (cA, 12, .inl fR)), (bP9, .inl (cA, 12, .inl fP)), (bK, .inl (cA, 12, .inl fK)), (m0, .inr (2, [.int 0, .int (nI n), .int rg, .int st, .ref bV, .ref bW, .ref bR, .ref bP9, .ref bK, .ref bT, .ref bC]))] [(cA, .int)] [(cA, .int)] [0] [1, 2, 3, 4, 5] [0] := ⟨rfl, rfl, rfl, rfl, by decide, rfl⟩
    refine kv hX_5 hP hD hS hA (kRunS (As := [.ref bV, .int (nI j), .int (nI n)]) (rest := []) F (c_X2_close l D cA bV j n fV hn (by omega) H.size) (va_cwS 3 hts gX2_recall_X2_close rfl rfl rfl (by decide +kernel) ⟨Nat.le_of_ble_eq_true rfl, Nat.le_of_ble_eq_true rfl⟩) hK hP hD hX_5 rfl hl.1 rfl (Nat.le_of_ble_eq_true rfl) dX2_recall_35 ⟨Nat.le_of_ble_eq_true rfl, Nat.le_of_ble_eq_true rfl⟩) (fun u_7 H locs hw_8 hP hD hS => ?_)
    have hw_8 : True := hw_8
    have hP : va_P D vwCl [(bW, .inl (cA, 12, .inl fW)), (bR, .inl (cA, 12, .inl fR)), (bP9, .inl (cA, 12, .inl fP)), (bK, .inl (cA, 12, .inl fK)), (m0, .inr (2, [.int 0, .int (nI n), .int rg, .int st, .ref bV, .ref bW, .ref bR, .ref bP9, .ref bK, .ref bT, .ref bC])), (bV, .inl (cA, 12, .inl (closeF fV j n)))] H := hP
    have hD : va_D A [(bW, .inl (cA, 12, .inl fW)), (bR, .inl (cA, 12, .inl fR)), (bP9, .inl (cA, 12, .inl fP)), (bK, .inl (cA, 12, .inl fK)), (m0, .inr (2, [.int 0, .int (nI n), .int rg, .int st, .ref bV, .ref bW, .ref bR, .ref bP9, .ref bK, .ref bT, .ref bC])), (bV, .inl (cA, 12, .inl (closeF fV j n)))] := hD
    refine lv_aload_n hx hb dX2_recall_38 rfl (lv_at hl 1 rfl) ?_
    refine va_get (D := D) (ci := 2) (v := .ref bW) (C := RX2) (T := TX2) (N := 11) hx hb hts uX2_X2_recall hown hK hP 4 rfl rfl 5 (by decide) (hts (.fieldLink RX2 17 "RopeChoicesModel" "wish" "[I") (List.mem_of_getElem? (i := 5) rfl)) (fun _ h9 => h9) rfl dX2_recall_39 ?_
    refine lv_iload_n hx hb dX2_recall_42 rfl (lv_at hl 2 rfl) ?_
    refine lv_aload_n hx hb dX2_recall_43 rfl (lv_at hl 1 rfl) ?_
    refine va_get (D := D) (ci := 2) (v := .int (nI n)) (C := RX2) (T := TX2) (N := 11) hx hb hts uX2_X2_recall hown hK hP 4 rfl rfl 1 (by decide) (hts (.fieldLink RX2 38 "RopeChoicesModel" "many" "I") (List.mem_of_getElem? (i := 4) rfl)) (fun _ h9 => h9) rfl dX2_recall_44 ?_
    have hX_9 : Cut D A [(bW, .inl (cA, 12, .inl fW)), (bR, .inl (cA, 12, .inl fR)), (bP9, .inl (cA, 12, .inl fP)), (bK, .inl (cA, 12, .inl fK)), (m0, .inr (2, [.int 0, .int (nI n), .int rg, .int st, .ref bV, .ref bW, .ref bR, .ref bP9, .ref bK, .ref bT, .ref bC])), (bV, .inl (cA, 12, .inl (closeF fV j n)))] [(bW, .inl (cA, 12, .inl fW))] [(bR, .inl (cA, 12, .inl fR)), (bP9, .inl (cA, 12, .inl fP)), (bK, .inl (cA, 12, .inl fK)), (m0, .inr (2, [.int 0, .int (nI n), .int rg, .int st, .ref bV, .ref bW, .ref bR, .ref bP9, .ref bK, .ref bT, .ref bC])), (bV, .inl (cA, 12, .inl (closeF fV j n)))] [(cA, .int)] [(cA, .int)] [0] [1, 2, 3, 4, 5] [0] := ⟨rfl, rfl, rfl, rfl, by decide, rfl⟩
    refine kv hX_9 hP hD hS hA (kRunS (As := [.ref bW, .int (nI j), .int (nI n)]) (rest := []) F (c_X2_close l D cA bW j n fW hn (by omega) H.size) (va_cwS 3 hts gX2_recall_X2_close rfl rfl rfl (by decide +kernel) ⟨Nat.le_of_ble_eq_true rfl, Nat.le_of_ble_eq_true rfl⟩) hK hP hD hX_9 rfl hl.1 rfl (Nat.le_of_ble_eq_true rfl) dX2_recall_47 ⟨Nat.le_of_ble_eq_true rfl, Nat.le_of_ble_eq_true rfl⟩) (fun u_11 H locs hw_12 hP hD hS => ?_)
    have hw_12 : True := hw_12
    have hP : va_P D vwCl [(bR, .inl (cA, 12, .inl fR)), (bP9, .inl (cA, 12, .inl fP)), (bK, .inl (cA, 12, .inl fK)), (m0, .inr (2, [.int 0, .int (nI n), .int rg, .int st, .ref bV, .ref bW, .ref bR, .ref bP9, .ref bK, .ref bT, .ref bC])), (bV, .inl (cA, 12, .inl (closeF fV j n))), (bW, .inl (cA, 12, .inl (closeF fW j n)))] H := hP
    have hD : va_D A [(bR, .inl (cA, 12, .inl fR)), (bP9, .inl (cA, 12, .inl fP)), (bK, .inl (cA, 12, .inl fK)), (m0, .inr (2, [.int 0, .int (nI n), .int rg, .int st, .ref bV, .ref bW, .ref bR, .ref bP9, .ref bK, .ref bT, .ref bC])), (bV, .inl (cA, 12, .inl (closeF fV j n))), (bW, .inl (cA, 12, .inl (closeF fW j n)))] := hD
    refine lv_aload_n hx hb dX2_recall_50 rfl (lv_at hl 1 rfl) ?_
    refine va_get (D := D) (ci := 2) (v := .ref bR) (C := RX2) (T := TX2) (N := 11) hx hb hts uX2_X2_recall hown hK hP 3 rfl rfl 6 (by decide) (hts (.fieldLink RX2 20 "RopeChoicesModel" "reach" "[I") (List.mem_of_getElem? (i := 6) rfl)) (fun _ h9 => h9) rfl dX2_recall_51 ?_
    refine lv_iload_n hx hb dX2_recall_54 rfl (lv_at hl 2 rfl) ?_
    refine lv_aload_n hx hb dX2_recall_55 rfl (lv_at hl 1 rfl) ?_
    refine va_get (D := D) (ci := 2) (v := .int (nI n)) (C := RX2) (T := TX2) (N := 11) hx hb hts uX2_X2_recall hown hK hP 3 rfl rfl 1 (by decide) (hts (.fieldLink RX2 38 "RopeChoicesModel" "many" "I") (List.mem_of_getElem? (i := 4) rfl)) (fun _ h9 => h9) rfl dX2_recall_56 ?_
    have hX_13 : Cut D A [(bR, .inl (cA, 12, .inl fR)), (bP9, .inl (cA, 12, .inl fP)), (bK, .inl (cA, 12, .inl fK)), (m0, .inr (2, [.int 0, .int (nI n), .int rg, .int st, .ref bV, .ref bW, .ref bR, .ref bP9, .ref bK, .ref bT, .ref bC])), (bV, .inl (cA, 12, .inl (closeF fV j n))), (bW, .inl (cA, 12, .inl (closeF fW j n)))] [(bR, .inl (cA, 12, .inl fR))] [(bP9, .inl (cA, 12, .inl fP)), (bK, .inl (cA, 12, .inl fK)), (m0, .inr (2, [.int 0, .int (nI n), .int rg, .int st, .ref bV, .ref bW, .ref bR, .ref bP9, .ref bK, .ref bT, .ref bC])), (bV, .inl (cA, 12, .inl (closeF fV j n))), (bW, .inl (cA, 12, .inl (closeF fW j n)))] [(cA, .int)] [(cA, .int)] [0] [1, 2, 3, 4, 5] [0] := ⟨rfl, rfl, rfl, rfl, by decide, rfl⟩
    refine kv hX_13 hP hD hS hA (kRunS (As := [.ref bR, .int (nI j), .int (nI n)]) (rest := []) F (c_X2_close l D cA bR j n fR hn (by omega) H.size) (va_cwS 3 hts gX2_recall_X2_close rfl rfl rfl (by decide +kernel) ⟨Nat.le_of_ble_eq_true rfl, Nat.le_of_ble_eq_true rfl⟩) hK hP hD hX_13 rfl hl.1 rfl (Nat.le_of_ble_eq_true rfl) dX2_recall_59 ⟨Nat.le_of_ble_eq_true rfl, Nat.le_of_ble_eq_true rfl⟩) (fun u_15 H locs hw_16 hP hD hS => ?_)
    have hw_16 : True := hw_16
    have hP : va_P D vwCl [(bP9, .inl (cA, 12, .inl fP)), (bK, .inl (cA, 12, .inl fK)), (m0, .inr (2, [.int 0, .int (nI n), .int rg, .int st, .ref bV, .ref bW, .ref bR, .ref bP9, .ref bK, .ref bT, .ref bC])), (bV, .inl (cA, 12, .inl (closeF fV j n))), (bW, .inl (cA, 12, .inl (closeF fW j n))), (bR, .inl (cA, 12, .inl (closeF fR j n)))] H := hP
    have hD : va_D A [(bP9, .inl (cA, 12, .inl fP)), (bK, .inl (cA, 12, .inl fK)), (m0, .inr (2, [.int 0, .int (nI n), .int rg, .int st, .ref bV, .ref bW, .ref bR, .ref bP9, .ref bK, .ref bT, .ref bC])), (bV, .inl (cA, 12, .inl (closeF fV j n))), (bW, .inl (cA, 12, .inl (closeF fW j n))), (bR, .inl (cA, 12, .inl (closeF fR j n)))] := hD
    refine lv_aload_n hx hb dX2_recall_62 rfl (lv_at hl 1 rfl) ?_
    refine va_get (D := D) (ci := 2) (v := .ref bP9) (C := RX2) (T := TX2) (N := 11) hx hb hts uX2_X2_recall hown hK hP 2 rfl rfl 7 (by decide) (hts (.fieldLink RX2 23 "RopeChoicesModel" "pace" "[I") (List.mem_of_getElem? (i := 7) rfl)) (fun _ h9 => h9) rfl dX2_recall_63 ?_
    refine lv_iload_n hx hb dX2_recall_66 rfl (lv_at hl 2 rfl) ?_
    refine lv_aload_n hx hb dX2_recall_67 rfl (lv_at hl 1 rfl) ?_
    refine va_get (D := D) (ci := 2) (v := .int (nI n)) (C := RX2) (T := TX2) (N := 11) hx hb hts uX2_X2_recall hown hK hP 2 rfl rfl 1 (by decide) (hts (.fieldLink RX2 38 "RopeChoicesModel" "many" "I") (List.mem_of_getElem? (i := 4) rfl)) (fun _ h9 => h9) rfl dX2_recall_68 ?_
    have hX_17 : Cut D A [(bP9, .inl (cA, 12, .inl fP)), (bK, .inl (cA, 12, .inl fK)), (m0, .inr (2, [.int 0, .int (nI n), .int rg, .int st, .ref bV, .ref bW, .ref bR, .ref bP9, .ref bK, .ref bT, .ref bC])), (bV, .inl (cA, 12, .inl (closeF fV j n))), (bW, .inl (cA, 12, .inl (closeF fW j n))), (bR, .inl (cA, 12, .inl (closeF fR j n)))] [(bP9, .inl (cA, 12, .inl fP))] [(bK, .inl (cA, 12, .inl fK)), (m0, .inr (2, [.int 0, .int (nI n), .int rg, .int st, .ref bV, .ref bW, .ref bR, .ref bP9, .ref bK, .ref bT, .ref bC])), (bV, .inl (cA, 12, .inl (closeF fV j n))), (bW, .inl (cA, 12, .inl (closeF fW j n))), (bR, .inl (cA, 12, .inl (closeF fR j n)))] [(cA, .int)] [(cA, .int)] [0] [1, 2, 3, 4, 5] [0] := ⟨rfl, rfl, rfl, rfl, by decide, rfl⟩
    refine kv hX_17 hP hD hS hA (kRunS (As := [.ref bP9, .int (nI j), .int (nI n)]) (rest := []) F (c_X2_close l D cA bP9 j n fP hn (by omega) H.size) (va_cwS 3 hts gX2_recall_X2_close rfl rfl rfl (by decide +kernel) ⟨Nat.le_of_ble_eq_true rfl, Nat.le_of_ble_eq_true rfl⟩) hK hP hD hX_17 rfl hl.1 rfl (Nat.le_of_ble_eq_true rfl) dX2_recall_71 ⟨Nat.le_of_ble_eq_true rfl, Nat.le_of_ble_eq_true rfl⟩) (fun u_19 H locs hw_20 hP hD hS => ?_)
    have hw_20 : True := hw_20
    have hP : va_P D vwCl [(bK, .inl (cA, 12, .inl fK)), (m0, .inr (2, [.int 0, .int (nI n), .int rg, .int st, .ref bV, .ref bW, .ref bR, .ref bP9, .ref bK, .ref bT, .ref bC])), (bV, .inl (cA, 12, .inl (closeF fV j n))), (bW, .inl (cA, 12, .inl (closeF fW j n))), (bR, .inl (cA, 12, .inl (closeF fR j n))), (bP9, .inl (cA, 12, .inl (closeF fP j n)))] H := hP
    have hD : va_D A [(bK, .inl (cA, 12, .inl fK)), (m0, .inr (2, [.int 0, .int (nI n), .int rg, .int st, .ref bV, .ref bW, .ref bR, .ref bP9, .ref bK, .ref bT, .ref bC])), (bV, .inl (cA, 12, .inl (closeF fV j n))), (bW, .inl (cA, 12, .inl (closeF fW j n))), (bR, .inl (cA, 12, .inl (closeF fR j n))), (bP9, .inl (cA, 12, .inl (closeF fP j n)))] := hD
    refine lv_aload_n hx hb dX2_recall_74 rfl (lv_at hl 1 rfl) ?_
    refine va_get (D := D) (ci := 2) (v := .ref bK) (C := RX2) (T := TX2) (N := 11) hx hb hts uX2_X2_recall hown hK hP 1 rfl rfl 8 (by decide) (hts (.fieldLink RX2 26 "RopeChoicesModel" "plank" "[I") (List.mem_of_getElem? (i := 2) rfl)) (fun _ h9 => h9) rfl dX2_recall_75 ?_
    refine lv_iload_n hx hb dX2_recall_78 rfl (lv_at hl 2 rfl) ?_
    refine lv_aload_n hx hb dX2_recall_79 rfl (lv_at hl 1 rfl) ?_
    refine va_get (D := D) (ci := 2) (v := .int (nI n)) (C := RX2) (T := TX2) (N := 11) hx hb hts uX2_X2_recall hown hK hP 1 rfl rfl 1 (by decide) (hts (.fieldLink RX2 38 "RopeChoicesModel" "many" "I") (List.mem_of_getElem? (i := 4) rfl)) (fun _ h9 => h9) rfl dX2_recall_80 ?_
    have hX_21 : Cut D A [(bK, .inl (cA, 12, .inl fK)), (m0, .inr (2, [.int 0, .int (nI n), .int rg, .int st, .ref bV, .ref bW, .ref bR, .ref bP9, .ref bK, .ref bT, .ref bC])), (bV, .inl (cA, 12, .inl (closeF fV j n))), (bW, .inl (cA, 12, .inl (closeF fW j n))), (bR, .inl (cA, 12, .inl (closeF fR j n))), (bP9, .inl (cA, 12, .inl (closeF fP j n)))] [(bK, .inl (cA, 12, .inl fK))] [(m0, .inr (2, [.int 0, .int (nI n), .int rg, .int st, .ref bV, .ref bW, .ref bR, .ref bP9, .ref bK, .ref bT, .ref bC])), (bV, .inl (cA, 12, .inl (closeF fV j n))), (bW, .inl (cA, 12, .inl (closeF fW j n))), (bR, .inl (cA, 12, .inl (closeF fR j n))), (bP9, .inl (cA, 12, .inl (closeF fP j n)))] [(cA, .int)] [(cA, .int)] [0] [1, 2, 3, 4, 5] [0] := ⟨rfl, rfl, rfl, rfl, by decide, rfl⟩
    refine kv hX_21 hP hD hS hA (kRunS (As := [.ref bK, .int (nI j), .int (nI n)]) (rest := []) F (c_X2_close l D cA bK j n fK hn (by omega) H.size) (va_cwS 3 hts gX2_recall_X2_close rfl rfl rfl (by decide +kernel) ⟨Nat.le_of_ble_eq_true rfl, Nat.le_of_ble_eq_true rfl⟩) hK hP hD hX_21 rfl hl.1 rfl (Nat.le_of_ble_eq_true rfl) dX2_recall_83 ⟨Nat.le_of_ble_eq_true rfl, Nat.le_of_ble_eq_true rfl⟩) (fun u_23 H locs hw_24 hP hD hS => ?_)
    have hw_24 : True := hw_24
    have hP : va_P D vwCl [(m0, .inr (2, [.int 0, .int (nI n), .int rg, .int st, .ref bV, .ref bW, .ref bR, .ref bP9, .ref bK, .ref bT, .ref bC])), (bV, .inl (cA, 12, .inl (closeF fV j n))), (bW, .inl (cA, 12, .inl (closeF fW j n))), (bR, .inl (cA, 12, .inl (closeF fR j n))), (bP9, .inl (cA, 12, .inl (closeF fP j n))), (bK, .inl (cA, 12, .inl (closeF fK j n)))] H := hP
    have hD : va_D A [(m0, .inr (2, [.int 0, .int (nI n), .int rg, .int st, .ref bV, .ref bW, .ref bR, .ref bP9, .ref bK, .ref bT, .ref bC])), (bV, .inl (cA, 12, .inl (closeF fV j n))), (bW, .inl (cA, 12, .inl (closeF fW j n))), (bR, .inl (cA, 12, .inl (closeF fR j n))), (bP9, .inl (cA, 12, .inl (closeF fP j n))), (bK, .inl (cA, 12, .inl (closeF fK j n)))] := hD
    refine lv_aload_n hx hb dX2_recall_86 rfl (lv_at hl 1 rfl) ?_
    refine lv_dup hx hb dX2_recall_87 rfl ?_
    refine va_get (D := D) (ci := 2) (v := .int (nI n)) (C := RX2) (T := TX2) (N := 11) hx hb hts uX2_X2_recall hown hK hP 0 rfl rfl 1 (by decide) (hts (.fieldLink RX2 38 "RopeChoicesModel" "many" "I") (List.mem_of_getElem? (i := 4) rfl)) (fun _ h9 => h9) rfl dX2_recall_88 ?_
    refine lv_iconst (v := 1) hx hb dX2_recall_91 (by decide) ?_
    refine lv_isub hx hb dX2_recall_92 ?_
    refine topi (nI (n - 1)) (nI_m1 (by omega)) ?_
    refine va_put (D := D) (ci := 2) (v := .int (nI (n - 1))) (ty := .int) (C := RX2) (T := TX2) (N := 11) hx hb hts uX2_X2_recall tyX2 tyX2_ok nmX2 hown hK hP hD hS 0 rfl rfl 1 (by decide) (hts (.fieldLink RX2 38 "RopeChoicesModel" "many" "I") (List.mem_of_getElem? (i := 4) rfl)) (fun _ h9 => h9) rfl (by decide +kernel) rfl rfl (Nat.le_of_ble_eq_true rfl) dX2_recall_93 (fun H locs hP hD hS => ?_)
    have hP : va_P D vwCl [(m0, .inr (2, [.int 0, .int (nI (n - 1)), .int rg, .int st, .ref bV, .ref bW, .ref bR, .ref bP9, .ref bK, .ref bT, .ref bC])), (bV, .inl (cA, 12, .inl (closeF fV j n))), (bW, .inl (cA, 12, .inl (closeF fW j n))), (bR, .inl (cA, 12, .inl (closeF fR j n))), (bP9, .inl (cA, 12, .inl (closeF fP j n))), (bK, .inl (cA, 12, .inl (closeF fK j n)))] H := hP
    have hD : va_D A [(m0, .inr (2, [.int 0, .int (nI (n - 1)), .int rg, .int st, .ref bV, .ref bW, .ref bR, .ref bP9, .ref bK, .ref bT, .ref bC])), (bV, .inl (cA, 12, .inl (closeF fV j n))), (bW, .inl (cA, 12, .inl (closeF fW j n))), (bR, .inl (cA, 12, .inl (closeF fR j n))), (bP9, .inl (cA, 12, .inl (closeF fP j n))), (bK, .inl (cA, 12, .inl (closeF fK j n)))] := hD
    refine lv_iload_n hx hb dX2_recall_96 rfl (lv_at hl 0 rfl) ?_
    refine useQ hQ ?_
    exact e_i (v := (fK j)) F hr hlocks hK hP hD hS [0, 1, 2, 3, 4, 5] [0] j (⟨hj, rfl, rfl⟩) rfl rfl rfl (Nat.le_of_ble_eq_true rfl) (Nat.le_of_ble_eq_true rfl) dX2_recall_97
  · skip
    exact absurd hcd (bP_eq c_10)
set_option maxHeartbeats 4000000 in
set_option maxRecDepth 100000 in
theorem c_X2_recall_no (l : Launch) (D : va_G) (cA : ClassId) (m0 : Nat) (th : Int32) (n : Nat) (rg : Int32) (st : Int32) (bV : Nat) (bW : Nat) (bR : Nat) (bP9 : Nat) (bK : Nat) (bT : Nat) (bC : Nat) (fK : Nat → Int32) (d : Int32) (hn : n ≤ 12) (hcd : ¬ okD n d) (sz : Nat) : Met l yX2_recall wsX2_recall ({ frames := 2, cells := 0, slots := 0, locals := 43 } : Room) (va_Pc [.ref m0, .int d] (Wd D [(cA, .int)] [(m0, .inr (2, [.int th, .int (nI n), .int rg, .int st, .ref bV, .ref bW, .ref bR, .ref bP9, .ref bK, .ref bT, .ref bC])), (bK, .inl (cA, 12, .inl fK))] sz)) (va_Qi (fun (r : Int32) (_ : Unit) => True) (fun (_ : Unit) t => We D [(cA, .int)] [(m0, .inr (2, [.int 1, .int (nI n), .int rg, .int st, .ref bV, .ref bW, .ref bR, .ref bP9, .ref bK, .ref bT, .ref bC])), (bK, .inl (cA, 12, .inl fK))] (va_A [(m0, .inr (2, [.int th, .int (nI n), .int rg, .int st, .ref bV, .ref bW, .ref bR, .ref bP9, .ref bK, .ref bT, .ref bC])), (bK, .inl (cA, 12, .inl fK))] sz) t) (va_A [(m0, .inr (2, [.int th, .int (nI n), .int rg, .int st, .ref bV, .ref bW, .ref bR, .ref bP9, .ref bK, .ref bT, .ref bC])), (bK, .inl (cA, 12, .inl fK))] sz)) 0 0 (va_A [(m0, .inr (2, [.int th, .int (nI n), .int rg, .int st, .ref bV, .ref bW, .ref bR, .ref bP9, .ref bK, .ref bT, .ref bC])), (bK, .inl (cA, 12, .inl fK))] sz) := by
  refine mk_met [.ref m0, .int d] (fun A => va_Qi (fun (r : Int32) (_ : Unit) => True) (fun (_ : Unit) t => We D [(cA, .int)] [(m0, .inr (2, [.int 1, .int (nI n), .int rg, .int st, .ref bV, .ref bW, .ref bR, .ref bP9, .ref bK, .ref bT, .ref bC])), (bK, .inl (cA, 12, .inl fK))] A t) A) (by decide) rfl (Nat.le_of_ble_eq_true rfl) ?_
  intro p e s m args below meth c A ls F hr hlocks hname hP hK hD hA hl
  have hx := F.1
  have hb := F.2.1
  have hml := F.2.2.1
  have hown := F.2.2.2.1
  have hts := F.2.2.2.2
  have hS : va_S A s.heap s.heap [] := va_S.rf
  have hl : lv_has ls 3 [(0, .ref m0), (1, .int d)] := hl
  refine absQ (fun Q hQ => ?_)
  refine lv_aload_n hx hb dX2_recall_0 rfl (lv_at hl 0 rfl) ?_
  refine lv_iconst (v := 0) hx hb dX2_recall_1 (by decide) ?_
  refine va_put (D := D) (ci := 2) (v := .int 0) (ty := .int) (C := RX2) (T := TX2) (N := 11) hx hb hts uX2_X2_recall tyX2 tyX2_ok nmX2 hown hK hP hD hS 0 rfl rfl 0 (by decide) (hts (.fieldLink RX2 35 "RopeChoicesModel" "thrown" "I") (List.mem_of_getElem? (i := 1) rfl)) (fun _ h9 => h9) rfl (by decide +kernel) rfl rfl (Nat.le_of_ble_eq_true rfl) dX2_recall_2 (fun H locs hP hD hS => ?_)
  have hP : va_P D vwCl [(m0, .inr (2, [.int 0, .int (nI n), .int rg, .int st, .ref bV, .ref bW, .ref bR, .ref bP9, .ref bK, .ref bT, .ref bC])), (bK, .inl (cA, 12, .inl fK))] H := hP
  have hD : va_D A [(m0, .inr (2, [.int 0, .int (nI n), .int rg, .int st, .ref bV, .ref bW, .ref bR, .ref bP9, .ref bK, .ref bT, .ref bC])), (bK, .inl (cA, 12, .inl fK))] := hD
  refine lv_aload_n hx hb dX2_recall_5 rfl (lv_at hl 0 rfl) ?_
  refine lv_iload_n hx hb dX2_recall_6 rfl (lv_at hl 1 rfl) ?_
  have hX_1 : Cut D A [(m0, .inr (2, [.int 0, .int (nI n), .int rg, .int st, .ref bV, .ref bW, .ref bR, .ref bP9, .ref bK, .ref bT, .ref bC])), (bK, .inl (cA, 12, .inl fK))] [(m0, .inr (2, [.int 0, .int (nI n), .int rg, .int st, .ref bV, .ref bW, .ref bR, .ref bP9, .ref bK, .ref bT, .ref bC]))] [(bK, .inl (cA, 12, .inl fK))] [(cA, .int)] [(cA, .int)] [0] [1] [0] := ⟨rfl, rfl, rfl, rfl, by decide, rfl⟩
  refine ki hX_1 hP hD hS hA (kRunV (q := (RX2, TX2, 11)) (As := [.int d]) (rest := []) F (c_X2_isDelegate l D cA m0 0 n rg st bV bW bR bP9 bK bT bC d hn H.size) (cwV 1 hts gX2_recall_X2_isDelegate rfl rfl rfl (by decide +kernel) ⟨Nat.le_of_ble_eq_true rfl, Nat.le_of_ble_eq_true rfl⟩) hK hP hD hX_1 0 rfl rfl rfl hl.1 rfl (Nat.le_of_ble_eq_true rfl) dX2_recall_7 ⟨Nat.le_of_ble_eq_true rfl, Nat.le_of_ble_eq_true rfl⟩) (fun r_2 u_3 H locs hw_4 hP hD hS => ?_)
  have hw_4 : r_2 = bP (okD n d) := hw_4
  rw [hw_4]
  have hP : va_P D vwCl [(bK, .inl (cA, 12, .inl fK)), (m0, .inr (2, [.int 0, .int (nI n), .int rg, .int st, .ref bV, .ref bW, .ref bR, .ref bP9, .ref bK, .ref bT, .ref bC]))] H := hP
  have hD : va_D A [(bK, .inl (cA, 12, .inl fK)), (m0, .inr (2, [.int 0, .int (nI n), .int rg, .int st, .ref bV, .ref bW, .ref bR, .ref bP9, .ref bK, .ref bT, .ref bC]))] := hD
  refine lv_if_ne (tgt := 19) hx hb dX2_recall_10 (by decide) (fun c_10 => ?_) (fun c_10 => ?_)
  · skip
    exact absurd (bP_ne c_10) hcd
  · skip
    refine lv_aload_n hx hb dX2_recall_13 rfl (lv_at hl 0 rfl) ?_
    refine lv_iconst (v := 1) hx hb dX2_recall_14 (by decide) ?_
    have hX_5 : Cut D A [(bK, .inl (cA, 12, .inl fK)), (m0, .inr (2, [.int 0, .int (nI n), .int rg, .int st, .ref bV, .ref bW, .ref bR, .ref bP9, .ref bK, .ref bT, .ref bC]))] [(m0, .inr (2, [.int 0, .int (nI n), .int rg, .int st, .ref bV, .ref bW, .ref bR, .ref bP9, .ref bK, .ref bT, .ref bC]))] [(bK, .inl (cA, 12, .inl fK))] [(cA, .int)] [(cA, .int)] [1] [0] [0] := ⟨rfl, rfl, rfl, rfl, by decide, rfl⟩
    refine ki hX_5 hP hD hS hA (kRunV (q := (RX2, TX2, 11)) (As := [.int 1]) (rest := []) F (c_X2_fail l D cA m0 0 n rg st bV bW bR bP9 bK bT bC 1 H.size) (cwV 1 hts gX2_recall_X2_fail rfl rfl rfl (by decide +kernel) ⟨Nat.le_of_ble_eq_true rfl, Nat.le_of_ble_eq_true rfl⟩) hK hP hD hX_5 1 rfl rfl rfl hl.1 rfl (Nat.le_of_ble_eq_true rfl) dX2_recall_15 ⟨Nat.le_of_ble_eq_true rfl, Nat.le_of_ble_eq_true rfl⟩) (fun r_6 u_7 H locs hw_8 hP hD hS => ?_)
    have hw_8 : r_6 = 0 := hw_8
    rw [hw_8]
    have hP : va_P D vwCl [(bK, .inl (cA, 12, .inl fK)), (m0, .inr (2, [.int 1, .int (nI n), .int rg, .int st, .ref bV, .ref bW, .ref bR, .ref bP9, .ref bK, .ref bT, .ref bC]))] H := hP
    have hD : va_D A [(bK, .inl (cA, 12, .inl fK)), (m0, .inr (2, [.int 1, .int (nI n), .int rg, .int st, .ref bV, .ref bW, .ref bR, .ref bP9, .ref bK, .ref bT, .ref bC]))] := hD
    refine useQ hQ ?_
    exact e_i (v := 0) F hr hlocks hK hP hD hS [1, 0] [0] () trivial rfl rfl rfl (Nat.le_of_ble_eq_true rfl) (Nat.le_of_ble_eq_true rfl) dX2_recall_18
theorem uX2_X2_persuade : ∀ w ∈ u_ws RX2 TX2 11, w ∈ wsX2_persuade := (fun _ h => List.mem_cons_of_mem _ (List.mem_append_right _ h))
set_option maxHeartbeats 4000000 in
set_option maxRecDepth 100000 in
theorem c_X2_persuade_ok (l : Launch) (D : va_G) (cA : ClassId) (m0 : Nat) (th : Int32) (n : Nat) (rg : Int32) (st : Int32) (bV : Nat) (bW : Nat) (bR : Nat) (bP9 : Nat) (bK : Nat) (bT : Nat) (bC : Nat) (fW : Nat → Int32) (d : Int32) (x : Int32) (hn : n ≤ 12) (hcd : okD n d ∧ okD 41 x) (sz : Nat) : Met l yX2_persuade wsX2_persuade ({ frames := 2, cells := 0, slots := 0, locals := 43 } : Room) (va_Pc [.ref m0, .int d, .int x] (Wd D [(cA, .int)] [(m0, .inr (2, [.int th, .int (nI n), .int rg, .int st, .ref bV, .ref bW, .ref bR, .ref bP9, .ref bK, .ref bT, .ref bC])), (bW, .inl (cA, 12, .inl fW))] sz)) (va_Qi (fun (r : Int32) (u : Nat) => u < n ∧ d = nI u ∧ r = fW u) (fun (u : Nat) t => We D [(cA, .int)] [(m0, .inr (2, [.int 0, .int (nI n), .int rg, .int st, .ref bV, .ref bW, .ref bR, .ref bP9, .ref bK, .ref bT, .ref bC])), (bW, .inl (cA, 12, .inl (upd fW u x)))] (va_A [(m0, .inr (2, [.int th, .int (nI n), .int rg, .int st, .ref bV, .ref bW, .ref bR, .ref bP9, .ref bK, .ref bT, .ref bC])), (bW, .inl (cA, 12, .inl fW))] sz) t) (va_A [(m0, .inr (2, [.int th, .int (nI n), .int rg, .int st, .ref bV, .ref bW, .ref bR, .ref bP9, .ref bK, .ref bT, .ref bC])), (bW, .inl (cA, 12, .inl fW))] sz)) 0 0 (va_A [(m0, .inr (2, [.int th, .int (nI n), .int rg, .int st, .ref bV, .ref bW, .ref bR, .ref bP9, .ref bK, .ref bT, .ref bC])), (bW, .inl (cA, 12, .inl fW))] sz) := by
  refine mk_met [.ref m0, .int d, .int x] (fun A => va_Qi (fun (r : Int32) (u : Nat) => u < n ∧ d = nI u ∧ r = fW u) (fun (u : Nat) t => We D [(cA, .int)] [(m0, .inr (2, [.int 0, .int (nI n), .int rg, .int st, .ref bV, .ref bW, .ref bR, .ref bP9, .ref bK, .ref bT, .ref bC])), (bW, .inl (cA, 12, .inl (upd fW u x)))] A t) A) (by decide) rfl (Nat.le_of_ble_eq_true rfl) ?_
  intro p e s m args below meth c A ls F hr hlocks hname hP hK hD hA hl
  have hx := F.1
  have hb := F.2.1
  have hml := F.2.2.1
  have hown := F.2.2.2.1
  have hts := F.2.2.2.2
  have hS : va_S A s.heap s.heap [] := va_S.rf
  have hl : lv_has ls 4 [(0, .ref m0), (1, .int d), (2, .int x)] := hl
  refine absQ (fun Q hQ => ?_)
  refine lv_aload_n hx hb dX2_persuade_0 rfl (lv_at hl 0 rfl) ?_
  refine lv_iconst (v := 0) hx hb dX2_persuade_1 (by decide) ?_
  refine va_put (D := D) (ci := 2) (v := .int 0) (ty := .int) (C := RX2) (T := TX2) (N := 11) hx hb hts uX2_X2_persuade tyX2 tyX2_ok nmX2 hown hK hP hD hS 0 rfl rfl 0 (by decide) (hts (.fieldLink RX2 35 "RopeChoicesModel" "thrown" "I") (List.mem_of_getElem? (i := 1) rfl)) (fun _ h9 => h9) rfl (by decide +kernel) rfl rfl (Nat.le_of_ble_eq_true rfl) dX2_persuade_2 (fun H locs hP hD hS => ?_)
  have hP : va_P D vwCl [(m0, .inr (2, [.int 0, .int (nI n), .int rg, .int st, .ref bV, .ref bW, .ref bR, .ref bP9, .ref bK, .ref bT, .ref bC])), (bW, .inl (cA, 12, .inl fW))] H := hP
  have hD : va_D A [(m0, .inr (2, [.int 0, .int (nI n), .int rg, .int st, .ref bV, .ref bW, .ref bR, .ref bP9, .ref bK, .ref bT, .ref bC])), (bW, .inl (cA, 12, .inl fW))] := hD
  refine lv_aload_n hx hb dX2_persuade_5 rfl (lv_at hl 0 rfl) ?_
  refine lv_iload_n hx hb dX2_persuade_6 rfl (lv_at hl 1 rfl) ?_
  have hX_1 : Cut D A [(m0, .inr (2, [.int 0, .int (nI n), .int rg, .int st, .ref bV, .ref bW, .ref bR, .ref bP9, .ref bK, .ref bT, .ref bC])), (bW, .inl (cA, 12, .inl fW))] [(m0, .inr (2, [.int 0, .int (nI n), .int rg, .int st, .ref bV, .ref bW, .ref bR, .ref bP9, .ref bK, .ref bT, .ref bC]))] [(bW, .inl (cA, 12, .inl fW))] [(cA, .int)] [(cA, .int)] [0] [1] [0] := ⟨rfl, rfl, rfl, rfl, by decide, rfl⟩
  refine ki hX_1 hP hD hS hA (kRunV (q := (RX2, TX2, 11)) (As := [.int d]) (rest := []) F (c_X2_isDelegate l D cA m0 0 n rg st bV bW bR bP9 bK bT bC d hn H.size) (cwV 1 hts gX2_persuade_X2_isDelegate rfl rfl rfl (by decide +kernel) ⟨Nat.le_of_ble_eq_true rfl, Nat.le_of_ble_eq_true rfl⟩) hK hP hD hX_1 0 rfl rfl rfl hl.1 rfl (Nat.le_of_ble_eq_true rfl) dX2_persuade_7 ⟨Nat.le_of_ble_eq_true rfl, Nat.le_of_ble_eq_true rfl⟩) (fun r_2 u_3 H locs hw_4 hP hD hS => ?_)
  have hw_4 : r_2 = bP (okD n d) := hw_4
  rw [hw_4]
  have hP : va_P D vwCl [(bW, .inl (cA, 12, .inl fW)), (m0, .inr (2, [.int 0, .int (nI n), .int rg, .int st, .ref bV, .ref bW, .ref bR, .ref bP9, .ref bK, .ref bT, .ref bC]))] H := hP
  have hD : va_D A [(bW, .inl (cA, 12, .inl fW)), (m0, .inr (2, [.int 0, .int (nI n), .int rg, .int st, .ref bV, .ref bW, .ref bR, .ref bP9, .ref bK, .ref bT, .ref bC]))] := hD
  refine lv_if_eq (tgt := 20) hx hb dX2_persuade_10 (by decide) (fun c_10 => ?_) (fun c_10 => ?_)
  · skip
    exact absurd hcd.1 (bP_eq c_10)
  · skip
    refine lv_iload_n hx hb dX2_persuade_13 rfl (lv_at hl 2 rfl) ?_
    have hX_5 : Cut D A [(bW, .inl (cA, 12, .inl fW)), (m0, .inr (2, [.int 0, .int (nI n), .int rg, .int st, .ref bV, .ref bW, .ref bR, .ref bP9, .ref bK, .ref bT, .ref bC]))] [] [(bW, .inl (cA, 12, .inl fW)), (m0, .inr (2, [.int 0, .int (nI n), .int rg, .int st, .ref bV, .ref bW, .ref bR, .ref bP9, .ref bK, .ref bT, .ref bC]))] [(cA, .int)] [] [] [0, 1] [] := ⟨rfl, rfl, rfl, rfl, by decide, rfl⟩
    refine ki hX_5 hP hD hS hA (kRunS (As := [.int x]) (rest := []) F (c_X2_isPlank l D x H.size) (va_cwS 1 hts gX2_persuade_X2_isPlank rfl rfl rfl (by decide +kernel) ⟨Nat.le_of_ble_eq_true rfl, Nat.le_of_ble_eq_true rfl⟩) hK hP hD hX_5 rfl hl.1 rfl (Nat.le_of_ble_eq_true rfl) dX2_persuade_14 ⟨Nat.le_of_ble_eq_true rfl, Nat.le_of_ble_eq_true rfl⟩) (fun r_6 u_7 H locs hw_8 hP hD hS => ?_)
    have hw_8 : r_6 = bP (okD 41 x) := hw_8
    rw [hw_8]
    have hP : va_P D vwCl [(bW, .inl (cA, 12, .inl fW)), (m0, .inr (2, [.int 0, .int (nI n), .int rg, .int st, .ref bV, .ref bW, .ref bR, .ref bP9, .ref bK, .ref bT, .ref bC]))] H := hP
    have hD : va_D A [(bW, .inl (cA, 12, .inl fW)), (m0, .inr (2, [.int 0, .int (nI n), .int rg, .int st, .ref bV, .ref bW, .ref bR, .ref bP9, .ref bK, .ref bT, .ref bC]))] := hD
    refine lv_if_ne (tgt := 26) hx hb dX2_persuade_17 (by decide) (fun c_17 => ?_) (fun c_17 => ?_)
    · skip
      obtain ⟨j, hj, hd9⟩ := (bP_ne c_10)
      subst hd9
      have hD9 : okD n (nI j) := ⟨j, hj, rfl⟩
      have hdn : dN (nI j) = j := dN_nI (by omega)
      refine lv_aload_n hx hb dX2_persuade_26 rfl (lv_at hl 0 rfl) ?_
      refine va_get (D := D) (ci := 2) (v := .ref bW) (C := RX2) (T := TX2) (N := 11) hx hb hts uX2_X2_persuade hown hK hP 1 rfl rfl 5 (by decide) (hts (.fieldLink RX2 17 "RopeChoicesModel" "wish" "[I") (List.mem_of_getElem? (i := 2) rfl)) (fun _ h9 => h9) rfl dX2_persuade_27 ?_
      refine lv_iload_n hx hb dX2_persuade_30 rfl (lv_at hl 1 rfl) ?_
      refine a_ld (k := j) hx hb hK hP 0 0 rfl rfl (by omega) (Nat.le_of_ble_eq_true rfl) dX2_persuade_31 ?_
      refine lv_istore_n (lv' := [(3, .int (fW j)), (0, .ref m0), (1, .int (nI j)), (2, .int x)]) hx hb dX2_persuade_32 rfl hl (by decide) rfl (fun ls hl => ?_)
      refine lv_aload_n hx hb dX2_persuade_33 rfl (lv_at hl 1 rfl) ?_
      refine va_get (D := D) (ci := 2) (v := .ref bW) (C := RX2) (T := TX2) (N := 11) hx hb hts uX2_X2_persuade hown hK hP 1 rfl rfl 5 (by decide) (hts (.fieldLink RX2 17 "RopeChoicesModel" "wish" "[I") (List.mem_of_getElem? (i := 2) rfl)) (fun _ h9 => h9) rfl dX2_persuade_34 ?_
      refine lv_iload_n hx hb dX2_persuade_37 rfl (lv_at hl 2 rfl) ?_
      refine lv_iload_n hx hb dX2_persuade_38 rfl (lv_at hl 3 rfl) ?_
      refine a_st (k := j) hx hb hK hP hD hS 0 0 rfl rfl (by omega) (Nat.le_of_ble_eq_true rfl) dX2_persuade_39 (fun H locs hP hD hS => ?_)
      have hP : va_P D vwCl [(bW, .inl (cA, 12, .inl (upd fW j x))), (m0, .inr (2, [.int 0, .int (nI n), .int rg, .int st, .ref bV, .ref bW, .ref bR, .ref bP9, .ref bK, .ref bT, .ref bC]))] H := hP
      have hD : va_D A [(bW, .inl (cA, 12, .inl (upd fW j x))), (m0, .inr (2, [.int 0, .int (nI n), .int rg, .int st, .ref bV, .ref bW, .ref bR, .ref bP9, .ref bK, .ref bT, .ref bC]))] := hD
      refine lv_iload_n hx hb dX2_persuade_40 rfl (lv_at hl 0 rfl) ?_
      refine useQ hQ ?_
      exact e_i (v := (fW j)) F hr hlocks hK hP hD hS [1, 0] [0] j (⟨hj, rfl, rfl⟩) rfl rfl rfl (Nat.le_of_ble_eq_true rfl) (Nat.le_of_ble_eq_true rfl) dX2_persuade_41
    · skip
      exact absurd hcd.2 (bP_eq c_17)
set_option maxHeartbeats 4000000 in
set_option maxRecDepth 100000 in
theorem c_X2_persuade_no (l : Launch) (D : va_G) (cA : ClassId) (m0 : Nat) (th : Int32) (n : Nat) (rg : Int32) (st : Int32) (bV : Nat) (bW : Nat) (bR : Nat) (bP9 : Nat) (bK : Nat) (bT : Nat) (bC : Nat) (fW : Nat → Int32) (d : Int32) (x : Int32) (hn : n ≤ 12) (hcd : ¬ (okD n d ∧ okD 41 x)) (sz : Nat) : Met l yX2_persuade wsX2_persuade ({ frames := 2, cells := 0, slots := 0, locals := 43 } : Room) (va_Pc [.ref m0, .int d, .int x] (Wd D [(cA, .int)] [(m0, .inr (2, [.int th, .int (nI n), .int rg, .int st, .ref bV, .ref bW, .ref bR, .ref bP9, .ref bK, .ref bT, .ref bC])), (bW, .inl (cA, 12, .inl fW))] sz)) (va_Qi (fun (r : Int32) (_ : Unit) => True) (fun (_ : Unit) t => We D [(cA, .int)] [(m0, .inr (2, [.int 1, .int (nI n), .int rg, .int st, .ref bV, .ref bW, .ref bR, .ref bP9, .ref bK, .ref bT, .ref bC])), (bW, .inl (cA, 12, .inl fW))] (va_A [(m0, .inr (2, [.int th, .int (nI n), .int rg, .int st, .ref bV, .ref bW, .ref bR, .ref bP9, .ref bK, .ref bT, .ref bC])), (bW, .inl (cA, 12, .inl fW))] sz) t) (va_A [(m0, .inr (2, [.int th, .int (nI n), .int rg, .int st, .ref bV, .ref bW, .ref bR, .ref bP9, .ref bK, .ref bT, .ref bC])), (bW, .inl (cA, 12, .inl fW))] sz)) 0 0 (va_A [(m0, .inr (2, [.int th, .int (nI n), .int rg, .int st, .ref bV, .ref bW, .ref bR, .ref bP9, .ref bK, .ref bT, .ref bC])), (bW, .inl (cA, 12, .inl fW))] sz) := by
  refine mk_met [.ref m0, .int d, .int x] (fun A => va_Qi (fun (r : Int32) (_ : Unit) => True) (fun (_ : Unit) t => We D [(cA, .int)] [(m0, .inr (2, [.int 1, .int (nI n), .int rg, .int st, .ref bV, .ref bW, .ref bR, .ref bP9, .ref bK, .ref bT, .ref bC])), (bW, .inl (cA, 12, .inl fW))] A t) A) (by decide) rfl (Nat.le_of_ble_eq_true rfl) ?_
  intro p e s m args below meth c A ls F hr hlocks hname hP hK hD hA hl
  have hx := F.1
  have hb := F.2.1
  have hml := F.2.2.1
  have hown := F.2.2.2.1
  have hts := F.2.2.2.2
  have hS : va_S A s.heap s.heap [] := va_S.rf
  have hl : lv_has ls 4 [(0, .ref m0), (1, .int d), (2, .int x)] := hl
  refine absQ (fun Q hQ => ?_)
  refine lv_aload_n hx hb dX2_persuade_0 rfl (lv_at hl 0 rfl) ?_
  refine lv_iconst (v := 0) hx hb dX2_persuade_1 (by decide) ?_
  refine va_put (D := D) (ci := 2) (v := .int 0) (ty := .int) (C := RX2) (T := TX2) (N := 11) hx hb hts uX2_X2_persuade tyX2 tyX2_ok nmX2 hown hK hP hD hS 0 rfl rfl 0 (by decide) (hts (.fieldLink RX2 35 "RopeChoicesModel" "thrown" "I") (List.mem_of_getElem? (i := 1) rfl)) (fun _ h9 => h9) rfl (by decide +kernel) rfl rfl (Nat.le_of_ble_eq_true rfl) dX2_persuade_2 (fun H locs hP hD hS => ?_)
  have hP : va_P D vwCl [(m0, .inr (2, [.int 0, .int (nI n), .int rg, .int st, .ref bV, .ref bW, .ref bR, .ref bP9, .ref bK, .ref bT, .ref bC])), (bW, .inl (cA, 12, .inl fW))] H := hP
  have hD : va_D A [(m0, .inr (2, [.int 0, .int (nI n), .int rg, .int st, .ref bV, .ref bW, .ref bR, .ref bP9, .ref bK, .ref bT, .ref bC])), (bW, .inl (cA, 12, .inl fW))] := hD
  refine lv_aload_n hx hb dX2_persuade_5 rfl (lv_at hl 0 rfl) ?_
  refine lv_iload_n hx hb dX2_persuade_6 rfl (lv_at hl 1 rfl) ?_
  have hX_1 : Cut D A [(m0, .inr (2, [.int 0, .int (nI n), .int rg, .int st, .ref bV, .ref bW, .ref bR, .ref bP9, .ref bK, .ref bT, .ref bC])), (bW, .inl (cA, 12, .inl fW))] [(m0, .inr (2, [.int 0, .int (nI n), .int rg, .int st, .ref bV, .ref bW, .ref bR, .ref bP9, .ref bK, .ref bT, .ref bC]))] [(bW, .inl (cA, 12, .inl fW))] [(cA, .int)] [(cA, .int)] [0] [1] [0] := ⟨rfl, rfl, rfl, rfl, by decide, rfl⟩
  refine ki hX_1 hP hD hS hA (kRunV (q := (RX2, TX2, 11)) (As := [.int d]) (rest := []) F (c_X2_isDelegate l D cA m0 0 n rg st bV bW bR bP9 bK bT bC d hn H.size) (cwV 1 hts gX2_persuade_X2_isDelegate rfl rfl rfl (by decide +kernel) ⟨Nat.le_of_ble_eq_true rfl, Nat.le_of_ble_eq_true rfl⟩) hK hP hD hX_1 0 rfl rfl rfl hl.1 rfl (Nat.le_of_ble_eq_true rfl) dX2_persuade_7 ⟨Nat.le_of_ble_eq_true rfl, Nat.le_of_ble_eq_true rfl⟩) (fun r_2 u_3 H locs hw_4 hP hD hS => ?_)
  have hw_4 : r_2 = bP (okD n d) := hw_4
  rw [hw_4]
  have hP : va_P D vwCl [(bW, .inl (cA, 12, .inl fW)), (m0, .inr (2, [.int 0, .int (nI n), .int rg, .int st, .ref bV, .ref bW, .ref bR, .ref bP9, .ref bK, .ref bT, .ref bC]))] H := hP
  have hD : va_D A [(bW, .inl (cA, 12, .inl fW)), (m0, .inr (2, [.int 0, .int (nI n), .int rg, .int st, .ref bV, .ref bW, .ref bR, .ref bP9, .ref bK, .ref bT, .ref bC]))] := hD
  refine lv_if_eq (tgt := 20) hx hb dX2_persuade_10 (by decide) (fun c_10 => ?_) (fun c_10 => ?_)
  · skip
    refine lv_aload_n hx hb dX2_persuade_20 rfl (lv_at hl 0 rfl) ?_
    refine lv_iconst (v := 1) hx hb dX2_persuade_21 (by decide) ?_
    have hX_5 : Cut D A [(bW, .inl (cA, 12, .inl fW)), (m0, .inr (2, [.int 0, .int (nI n), .int rg, .int st, .ref bV, .ref bW, .ref bR, .ref bP9, .ref bK, .ref bT, .ref bC]))] [(m0, .inr (2, [.int 0, .int (nI n), .int rg, .int st, .ref bV, .ref bW, .ref bR, .ref bP9, .ref bK, .ref bT, .ref bC]))] [(bW, .inl (cA, 12, .inl fW))] [(cA, .int)] [(cA, .int)] [1] [0] [0] := ⟨rfl, rfl, rfl, rfl, by decide, rfl⟩
    refine ki hX_5 hP hD hS hA (kRunV (q := (RX2, TX2, 11)) (As := [.int 1]) (rest := []) F (c_X2_fail l D cA m0 0 n rg st bV bW bR bP9 bK bT bC 1 H.size) (cwV 1 hts gX2_persuade_X2_fail rfl rfl rfl (by decide +kernel) ⟨Nat.le_of_ble_eq_true rfl, Nat.le_of_ble_eq_true rfl⟩) hK hP hD hX_5 1 rfl rfl rfl hl.1 rfl (Nat.le_of_ble_eq_true rfl) dX2_persuade_22 ⟨Nat.le_of_ble_eq_true rfl, Nat.le_of_ble_eq_true rfl⟩) (fun r_6 u_7 H locs hw_8 hP hD hS => ?_)
    have hw_8 : r_6 = 0 := hw_8
    rw [hw_8]
    have hP : va_P D vwCl [(bW, .inl (cA, 12, .inl fW)), (m0, .inr (2, [.int 1, .int (nI n), .int rg, .int st, .ref bV, .ref bW, .ref bR, .ref bP9, .ref bK, .ref bT, .ref bC]))] H := hP
    have hD : va_D A [(bW, .inl (cA, 12, .inl fW)), (m0, .inr (2, [.int 1, .int (nI n), .int rg, .int st, .ref bV, .ref bW, .ref bR, .ref bP9, .ref bK, .ref bT, .ref bC]))] := hD
    refine useQ hQ ?_
    exact e_i (v := 0) F hr hlocks hK hP hD hS [1, 0] [0] () trivial rfl rfl rfl (Nat.le_of_ble_eq_true rfl) (Nat.le_of_ble_eq_true rfl) dX2_persuade_25
  · skip
    refine lv_iload_n hx hb dX2_persuade_13 rfl (lv_at hl 2 rfl) ?_
    have hX_9 : Cut D A [(bW, .inl (cA, 12, .inl fW)), (m0, .inr (2, [.int 0, .int (nI n), .int rg, .int st, .ref bV, .ref bW, .ref bR, .ref bP9, .ref bK, .ref bT, .ref bC]))] [] [(bW, .inl (cA, 12, .inl fW)), (m0, .inr (2, [.int 0, .int (nI n), .int rg, .int st, .ref bV, .ref bW, .ref bR, .ref bP9, .ref bK, .ref bT, .ref bC]))] [(cA, .int)] [] [] [0, 1] [] := ⟨rfl, rfl, rfl, rfl, by decide, rfl⟩
    refine ki hX_9 hP hD hS hA (kRunS (As := [.int x]) (rest := []) F (c_X2_isPlank l D x H.size) (va_cwS 1 hts gX2_persuade_X2_isPlank rfl rfl rfl (by decide +kernel) ⟨Nat.le_of_ble_eq_true rfl, Nat.le_of_ble_eq_true rfl⟩) hK hP hD hX_9 rfl hl.1 rfl (Nat.le_of_ble_eq_true rfl) dX2_persuade_14 ⟨Nat.le_of_ble_eq_true rfl, Nat.le_of_ble_eq_true rfl⟩) (fun r_10 u_11 H locs hw_12 hP hD hS => ?_)
    have hw_12 : r_10 = bP (okD 41 x) := hw_12
    rw [hw_12]
    have hP : va_P D vwCl [(bW, .inl (cA, 12, .inl fW)), (m0, .inr (2, [.int 0, .int (nI n), .int rg, .int st, .ref bV, .ref bW, .ref bR, .ref bP9, .ref bK, .ref bT, .ref bC]))] H := hP
    have hD : va_D A [(bW, .inl (cA, 12, .inl fW)), (m0, .inr (2, [.int 0, .int (nI n), .int rg, .int st, .ref bV, .ref bW, .ref bR, .ref bP9, .ref bK, .ref bT, .ref bC]))] := hD
    refine lv_if_ne (tgt := 26) hx hb dX2_persuade_17 (by decide) (fun c_17 => ?_) (fun c_17 => ?_)
    · skip
      exact absurd ⟨bP_ne c_10, bP_ne c_17⟩ hcd
    · skip
      refine lv_aload_n hx hb dX2_persuade_20 rfl (lv_at hl 0 rfl) ?_
      refine lv_iconst (v := 1) hx hb dX2_persuade_21 (by decide) ?_
      have hX_13 : Cut D A [(bW, .inl (cA, 12, .inl fW)), (m0, .inr (2, [.int 0, .int (nI n), .int rg, .int st, .ref bV, .ref bW, .ref bR, .ref bP9, .ref bK, .ref bT, .ref bC]))] [(m0, .inr (2, [.int 0, .int (nI n), .int rg, .int st, .ref bV, .ref bW, .ref bR, .ref bP9, .ref bK, .ref bT, .ref bC]))] [(bW, .inl (cA, 12, .inl fW))] [(cA, .int)] [(cA, .int)] [1] [0] [0] := ⟨rfl, rfl, rfl, rfl, by decide, rfl⟩
      refine ki hX_13 hP hD hS hA (kRunV (q := (RX2, TX2, 11)) (As := [.int 1]) (rest := []) F (c_X2_fail l D cA m0 0 n rg st bV bW bR bP9 bK bT bC 1 H.size) (cwV 1 hts gX2_persuade_X2_fail rfl rfl rfl (by decide +kernel) ⟨Nat.le_of_ble_eq_true rfl, Nat.le_of_ble_eq_true rfl⟩) hK hP hD hX_13 1 rfl rfl rfl hl.1 rfl (Nat.le_of_ble_eq_true rfl) dX2_persuade_22 ⟨Nat.le_of_ble_eq_true rfl, Nat.le_of_ble_eq_true rfl⟩) (fun r_14 u_15 H locs hw_16 hP hD hS => ?_)
      have hw_16 : r_14 = 0 := hw_16
      rw [hw_16]
      have hP : va_P D vwCl [(bW, .inl (cA, 12, .inl fW)), (m0, .inr (2, [.int 1, .int (nI n), .int rg, .int st, .ref bV, .ref bW, .ref bR, .ref bP9, .ref bK, .ref bT, .ref bC]))] H := hP
      have hD : va_D A [(bW, .inl (cA, 12, .inl fW)), (m0, .inr (2, [.int 1, .int (nI n), .int rg, .int st, .ref bV, .ref bW, .ref bR, .ref bP9, .ref bK, .ref bT, .ref bC]))] := hD
      refine useQ hQ ?_
      exact e_i (v := 0) F hr hlocks hK hP hD hS [1, 0] [0] () trivial rfl rfl rfl (Nat.le_of_ble_eq_true rfl) (Nat.le_of_ble_eq_true rfl) dX2_persuade_25
theorem uX2_X2_lead : ∀ w ∈ u_ws RX2 TX2 11, w ∈ wsX2_lead := (fun _ h => List.mem_cons_of_mem _ (List.mem_append_right _ h))
set_option maxHeartbeats 4000000 in
set_option maxRecDepth 100000 in
theorem c_X2_lead_ok (l : Launch) (D : va_G) (cA : ClassId) (m0 : Nat) (th : Int32) (n : Nat) (rg : Int32) (st : Int32) (bV : Nat) (bW : Nat) (bR : Nat) (bP9 : Nat) (bK : Nat) (bT : Nat) (bC : Nat) (fW : Nat → Int32) (fR : Nat → Int32) (fK : Nat → Int32) (d : Int32) (x : Int32) (hn : n ≤ 12) (hcd : cd2 (¬ (okD n d ∧ okD 41 x)) (¬ canP fW fR fK n st (dN d) x) = 0) (sz : Nat) : Met l yX2_lead wsX2_lead ({ frames := 3, cells := 0, slots := 0, locals := 74 } : Room) (va_Pc [.ref m0, .int d, .int x] (Wd D [(cA, .int)] [(m0, .inr (2, [.int th, .int (nI n), .int rg, .int st, .ref bV, .ref bW, .ref bR, .ref bP9, .ref bK, .ref bT, .ref bC])), (bW, .inl (cA, 12, .inl fW)), (bR, .inl (cA, 12, .inl fR)), (bK, .inl (cA, 12, .inl fK))] sz)) (va_Qi (fun (r : Int32) (u : Nat) => u < n ∧ d = nI u ∧ r = fK u) (fun (u : Nat) t => We D [(cA, .int)] [(m0, .inr (2, [.int 0, .int (nI n), .int rg, .int st, .ref bV, .ref bW, .ref bR, .ref bP9, .ref bK, .ref bT, .ref bC])), (bW, .inl (cA, 12, .inl fW)), (bR, .inl (cA, 12, .inl fR)), (bK, .inl (cA, 12, .inl (upd fK u x)))] (va_A [(m0, .inr (2, [.int th, .int (nI n), .int rg, .int st, .ref bV, .ref bW, .ref bR, .ref bP9, .ref bK, .ref bT, .ref bC])), (bW, .inl (cA, 12, .inl fW)), (bR, .inl (cA, 12, .inl fR)), (bK, .inl (cA, 12, .inl fK))] sz) t) (va_A [(m0, .inr (2, [.int th, .int (nI n), .int rg, .int st, .ref bV, .ref bW, .ref bR, .ref bP9, .ref bK, .ref bT, .ref bC])), (bW, .inl (cA, 12, .inl fW)), (bR, .inl (cA, 12, .inl fR)), (bK, .inl (cA, 12, .inl fK))] sz)) 0 0 (va_A [(m0, .inr (2, [.int th, .int (nI n), .int rg, .int st, .ref bV, .ref bW, .ref bR, .ref bP9, .ref bK, .ref bT, .ref bC])), (bW, .inl (cA, 12, .inl fW)), (bR, .inl (cA, 12, .inl fR)), (bK, .inl (cA, 12, .inl fK))] sz) := by
  refine mk_met [.ref m0, .int d, .int x] (fun A => va_Qi (fun (r : Int32) (u : Nat) => u < n ∧ d = nI u ∧ r = fK u) (fun (u : Nat) t => We D [(cA, .int)] [(m0, .inr (2, [.int 0, .int (nI n), .int rg, .int st, .ref bV, .ref bW, .ref bR, .ref bP9, .ref bK, .ref bT, .ref bC])), (bW, .inl (cA, 12, .inl fW)), (bR, .inl (cA, 12, .inl fR)), (bK, .inl (cA, 12, .inl (upd fK u x)))] A t) A) (by decide) rfl (Nat.le_of_ble_eq_true rfl) ?_
  intro p e s m args below meth c A ls F hr hlocks hname hP hK hD hA hl
  have hx := F.1
  have hb := F.2.1
  have hml := F.2.2.1
  have hown := F.2.2.2.1
  have hts := F.2.2.2.2
  have hS : va_S A s.heap s.heap [] := va_S.rf
  have hl : lv_has ls 4 [(0, .ref m0), (1, .int d), (2, .int x)] := hl
  refine absQ (fun Q hQ => ?_)
  refine lv_aload_n hx hb dX2_lead_0 rfl (lv_at hl 0 rfl) ?_
  refine lv_iconst (v := 0) hx hb dX2_lead_1 (by decide) ?_
  refine va_put (D := D) (ci := 2) (v := .int 0) (ty := .int) (C := RX2) (T := TX2) (N := 11) hx hb hts uX2_X2_lead tyX2 tyX2_ok nmX2 hown hK hP hD hS 0 rfl rfl 0 (by decide) (hts (.fieldLink RX2 35 "RopeChoicesModel" "thrown" "I") (List.mem_of_getElem? (i := 1) rfl)) (fun _ h9 => h9) rfl (by decide +kernel) rfl rfl (Nat.le_of_ble_eq_true rfl) dX2_lead_2 (fun H locs hP hD hS => ?_)
  have hP : va_P D vwCl [(m0, .inr (2, [.int 0, .int (nI n), .int rg, .int st, .ref bV, .ref bW, .ref bR, .ref bP9, .ref bK, .ref bT, .ref bC])), (bW, .inl (cA, 12, .inl fW)), (bR, .inl (cA, 12, .inl fR)), (bK, .inl (cA, 12, .inl fK))] H := hP
  have hD : va_D A [(m0, .inr (2, [.int 0, .int (nI n), .int rg, .int st, .ref bV, .ref bW, .ref bR, .ref bP9, .ref bK, .ref bT, .ref bC])), (bW, .inl (cA, 12, .inl fW)), (bR, .inl (cA, 12, .inl fR)), (bK, .inl (cA, 12, .inl fK))] := hD
  refine lv_aload_n hx hb dX2_lead_5 rfl (lv_at hl 0 rfl) ?_
  refine lv_iload_n hx hb dX2_lead_6 rfl (lv_at hl 1 rfl) ?_
  have hX_1 : Cut D A [(m0, .inr (2, [.int 0, .int (nI n), .int rg, .int st, .ref bV, .ref bW, .ref bR, .ref bP9, .ref bK, .ref bT, .ref bC])), (bW, .inl (cA, 12, .inl fW)), (bR, .inl (cA, 12, .inl fR)), (bK, .inl (cA, 12, .inl fK))] [(m0, .inr (2, [.int 0, .int (nI n), .int rg, .int st, .ref bV, .ref bW, .ref bR, .ref bP9, .ref bK, .ref bT, .ref bC]))] [(bW, .inl (cA, 12, .inl fW)), (bR, .inl (cA, 12, .inl fR)), (bK, .inl (cA, 12, .inl fK))] [(cA, .int)] [(cA, .int)] [0] [1, 2, 3] [0] := ⟨rfl, rfl, rfl, rfl, by decide, rfl⟩
  refine ki hX_1 hP hD hS hA (kRunV (q := (RX2, TX2, 11)) (As := [.int d]) (rest := []) F (c_X2_isDelegate l D cA m0 0 n rg st bV bW bR bP9 bK bT bC d hn H.size) (cwV 1 hts gX2_lead_X2_isDelegate rfl rfl rfl (by decide +kernel) ⟨Nat.le_of_ble_eq_true rfl, Nat.le_of_ble_eq_true rfl⟩) hK hP hD hX_1 0 rfl rfl rfl hl.1 rfl (Nat.le_of_ble_eq_true rfl) dX2_lead_7 ⟨Nat.le_of_ble_eq_true rfl, Nat.le_of_ble_eq_true rfl⟩) (fun r_2 u_3 H locs hw_4 hP hD hS => ?_)
  have hw_4 : r_2 = bP (okD n d) := hw_4
  rw [hw_4]
  have hP : va_P D vwCl [(bW, .inl (cA, 12, .inl fW)), (bR, .inl (cA, 12, .inl fR)), (bK, .inl (cA, 12, .inl fK)), (m0, .inr (2, [.int 0, .int (nI n), .int rg, .int st, .ref bV, .ref bW, .ref bR, .ref bP9, .ref bK, .ref bT, .ref bC]))] H := hP
  have hD : va_D A [(bW, .inl (cA, 12, .inl fW)), (bR, .inl (cA, 12, .inl fR)), (bK, .inl (cA, 12, .inl fK)), (m0, .inr (2, [.int 0, .int (nI n), .int rg, .int st, .ref bV, .ref bW, .ref bR, .ref bP9, .ref bK, .ref bT, .ref bC]))] := hD
  refine lv_if_eq (tgt := 20) hx hb dX2_lead_10 (by decide) (fun c_10 => ?_) (fun c_10 => ?_)
  · skip
    exact cx1 (cd2_1 (fun z => bP_eq c_10 z.1)) hcd
  · skip
    refine lv_iload_n hx hb dX2_lead_13 rfl (lv_at hl 2 rfl) ?_
    have hX_5 : Cut D A [(bW, .inl (cA, 12, .inl fW)), (bR, .inl (cA, 12, .inl fR)), (bK, .inl (cA, 12, .inl fK)), (m0, .inr (2, [.int 0, .int (nI n), .int rg, .int st, .ref bV, .ref bW, .ref bR, .ref bP9, .ref bK, .ref bT, .ref bC]))] [] [(bW, .inl (cA, 12, .inl fW)), (bR, .inl (cA, 12, .inl fR)), (bK, .inl (cA, 12, .inl fK)), (m0, .inr (2, [.int 0, .int (nI n), .int rg, .int st, .ref bV, .ref bW, .ref bR, .ref bP9, .ref bK, .ref bT, .ref bC]))] [(cA, .int)] [] [] [0, 1, 2, 3] [] := ⟨rfl, rfl, rfl, rfl, by decide, rfl⟩
    refine ki hX_5 hP hD hS hA (kRunS (As := [.int x]) (rest := []) F (c_X2_isPlank l D x H.size) (va_cwS 1 hts gX2_lead_X2_isPlank rfl rfl rfl (by decide +kernel) ⟨Nat.le_of_ble_eq_true rfl, Nat.le_of_ble_eq_true rfl⟩) hK hP hD hX_5 rfl hl.1 rfl (Nat.le_of_ble_eq_true rfl) dX2_lead_14 ⟨Nat.le_of_ble_eq_true rfl, Nat.le_of_ble_eq_true rfl⟩) (fun r_6 u_7 H locs hw_8 hP hD hS => ?_)
    have hw_8 : r_6 = bP (okD 41 x) := hw_8
    rw [hw_8]
    have hP : va_P D vwCl [(bW, .inl (cA, 12, .inl fW)), (bR, .inl (cA, 12, .inl fR)), (bK, .inl (cA, 12, .inl fK)), (m0, .inr (2, [.int 0, .int (nI n), .int rg, .int st, .ref bV, .ref bW, .ref bR, .ref bP9, .ref bK, .ref bT, .ref bC]))] H := hP
    have hD : va_D A [(bW, .inl (cA, 12, .inl fW)), (bR, .inl (cA, 12, .inl fR)), (bK, .inl (cA, 12, .inl fK)), (m0, .inr (2, [.int 0, .int (nI n), .int rg, .int st, .ref bV, .ref bW, .ref bR, .ref bP9, .ref bK, .ref bT, .ref bC]))] := hD
    refine lv_if_ne (tgt := 26) hx hb dX2_lead_17 (by decide) (fun c_17 => ?_) (fun c_17 => ?_)
    · skip
      obtain ⟨j, hj, hd9⟩ := (bP_ne c_10)
      subst hd9
      have hD9 : okD n (nI j) := ⟨j, hj, rfl⟩
      have hdn : dN (nI j) = j := dN_nI (by omega)
      refine lv_aload_n hx hb dX2_lead_26 rfl (lv_at hl 0 rfl) ?_
      refine lv_iload_n hx hb dX2_lead_27 rfl (lv_at hl 1 rfl) ?_
      refine lv_iload_n hx hb dX2_lead_28 rfl (lv_at hl 2 rfl) ?_
      have hX_9 : Cut D A [(bW, .inl (cA, 12, .inl fW)), (bR, .inl (cA, 12, .inl fR)), (bK, .inl (cA, 12, .inl fK)), (m0, .inr (2, [.int 0, .int (nI n), .int rg, .int st, .ref bV, .ref bW, .ref bR, .ref bP9, .ref bK, .ref bT, .ref bC]))] [(m0, .inr (2, [.int 0, .int (nI n), .int rg, .int st, .ref bV, .ref bW, .ref bR, .ref bP9, .ref bK, .ref bT, .ref bC])), (bW, .inl (cA, 12, .inl fW)), (bR, .inl (cA, 12, .inl fR)), (bK, .inl (cA, 12, .inl fK))] [] [(cA, .int)] [(cA, .int)] [3, 0, 1, 2] [] [0] := ⟨rfl, rfl, rfl, rfl, by decide, rfl⟩
      refine ki hX_9 hP hD hS hA (kRunV (q := (RX2, TX2, 11)) (As := [.int (nI j), .int x]) (rest := []) F (c_X2_can l D cA m0 0 n rg st bV bW bR bP9 bK bT bC fW fR fK j x hn (by omega) H.size) (cwV 2 hts gX2_lead_X2_can rfl rfl rfl (by decide +kernel) ⟨Nat.le_of_ble_eq_true rfl, Nat.le_of_ble_eq_true rfl⟩) hK hP hD hX_9 3 rfl rfl rfl hl.1 rfl (Nat.le_of_ble_eq_true rfl) dX2_lead_29 ⟨Nat.le_of_ble_eq_true rfl, Nat.le_of_ble_eq_true rfl⟩) (fun r_10 u_11 H locs hw_12 hP hD hS => ?_)
      have hw_12 : r_10 = bP (canP fW fR fK n st j x) := hw_12
      rw [hw_12]
      have hP : va_P D vwCl [(m0, .inr (2, [.int 0, .int (nI n), .int rg, .int st, .ref bV, .ref bW, .ref bR, .ref bP9, .ref bK, .ref bT, .ref bC])), (bW, .inl (cA, 12, .inl fW)), (bR, .inl (cA, 12, .inl fR)), (bK, .inl (cA, 12, .inl fK))] H := hP
      have hD : va_D A [(m0, .inr (2, [.int 0, .int (nI n), .int rg, .int st, .ref bV, .ref bW, .ref bR, .ref bP9, .ref bK, .ref bT, .ref bC])), (bW, .inl (cA, 12, .inl fW)), (bR, .inl (cA, 12, .inl fR)), (bK, .inl (cA, 12, .inl fK))] := hD
      refine lv_if_ne (tgt := 41) hx hb dX2_lead_32 (by decide) (fun c_32 => ?_) (fun c_32 => ?_)
      · skip
        refine lv_aload_n hx hb dX2_lead_41 rfl (lv_at hl 0 rfl) ?_
        refine va_get (D := D) (ci := 2) (v := .ref bK) (C := RX2) (T := TX2) (N := 11) hx hb hts uX2_X2_lead hown hK hP 0 rfl rfl 8 (by decide) (hts (.fieldLink RX2 26 "RopeChoicesModel" "plank" "[I") (List.mem_of_getElem? (i := 2) rfl)) (fun _ h9 => h9) rfl dX2_lead_42 ?_
        refine lv_iload_n hx hb dX2_lead_45 rfl (lv_at hl 1 rfl) ?_
        refine a_ld (k := j) hx hb hK hP 3 0 rfl rfl (by omega) (Nat.le_of_ble_eq_true rfl) dX2_lead_46 ?_
        refine lv_istore_n (lv' := [(3, .int (fK j)), (0, .ref m0), (1, .int (nI j)), (2, .int x)]) hx hb dX2_lead_47 rfl hl (by decide) rfl (fun ls hl => ?_)
        refine lv_aload_n hx hb dX2_lead_48 rfl (lv_at hl 1 rfl) ?_
        refine va_get (D := D) (ci := 2) (v := .ref bK) (C := RX2) (T := TX2) (N := 11) hx hb hts uX2_X2_lead hown hK hP 0 rfl rfl 8 (by decide) (hts (.fieldLink RX2 26 "RopeChoicesModel" "plank" "[I") (List.mem_of_getElem? (i := 2) rfl)) (fun _ h9 => h9) rfl dX2_lead_49 ?_
        refine lv_iload_n hx hb dX2_lead_52 rfl (lv_at hl 2 rfl) ?_
        refine lv_iload_n hx hb dX2_lead_53 rfl (lv_at hl 3 rfl) ?_
        refine a_st (k := j) hx hb hK hP hD hS 3 0 rfl rfl (by omega) (Nat.le_of_ble_eq_true rfl) dX2_lead_54 (fun H locs hP hD hS => ?_)
        have hP : va_P D vwCl [(m0, .inr (2, [.int 0, .int (nI n), .int rg, .int st, .ref bV, .ref bW, .ref bR, .ref bP9, .ref bK, .ref bT, .ref bC])), (bW, .inl (cA, 12, .inl fW)), (bR, .inl (cA, 12, .inl fR)), (bK, .inl (cA, 12, .inl (upd fK j x)))] H := hP
        have hD : va_D A [(m0, .inr (2, [.int 0, .int (nI n), .int rg, .int st, .ref bV, .ref bW, .ref bR, .ref bP9, .ref bK, .ref bT, .ref bC])), (bW, .inl (cA, 12, .inl fW)), (bR, .inl (cA, 12, .inl fR)), (bK, .inl (cA, 12, .inl (upd fK j x)))] := hD
        refine lv_iload_n hx hb dX2_lead_55 rfl (lv_at hl 0 rfl) ?_
        refine useQ hQ ?_
        exact e_i (v := (fK j)) F hr hlocks hK hP hD hS [0, 1, 2, 3] [0] j (⟨hj, rfl, rfl⟩) rfl rfl rfl (Nat.le_of_ble_eq_true rfl) (Nat.le_of_ble_eq_true rfl) dX2_lead_56
      · skip
        exact cx2 (cd2_2 (not_not_intro ⟨hD9, bP_ne c_17⟩) (by rw [hdn]; exact bP_eq c_32)) hcd
    · skip
      exact cx1 (cd2_1 (fun z => bP_eq c_17 z.2)) hcd
set_option maxHeartbeats 4000000 in
set_option maxRecDepth 100000 in
theorem c_X2_lead_no (l : Launch) (D : va_G) (cA : ClassId) (m0 : Nat) (th : Int32) (n : Nat) (rg : Int32) (st : Int32) (bV : Nat) (bW : Nat) (bR : Nat) (bP9 : Nat) (bK : Nat) (bT : Nat) (bC : Nat) (fW : Nat → Int32) (fR : Nat → Int32) (fK : Nat → Int32) (d : Int32) (x : Int32) (hn : n ≤ 12) (hcd : ¬ cd2 (¬ (okD n d ∧ okD 41 x)) (¬ canP fW fR fK n st (dN d) x) = 0) (sz : Nat) : Met l yX2_lead wsX2_lead ({ frames := 3, cells := 0, slots := 0, locals := 74 } : Room) (va_Pc [.ref m0, .int d, .int x] (Wd D [(cA, .int)] [(m0, .inr (2, [.int th, .int (nI n), .int rg, .int st, .ref bV, .ref bW, .ref bR, .ref bP9, .ref bK, .ref bT, .ref bC])), (bW, .inl (cA, 12, .inl fW)), (bR, .inl (cA, 12, .inl fR)), (bK, .inl (cA, 12, .inl fK))] sz)) (va_Qi (fun (r : Int32) (u : Int32) => u = cd2 (¬ (okD n d ∧ okD 41 x)) (¬ canP fW fR fK n st (dN d) x)) (fun (u : Int32) t => We D [(cA, .int)] [(m0, .inr (2, [.int u, .int (nI n), .int rg, .int st, .ref bV, .ref bW, .ref bR, .ref bP9, .ref bK, .ref bT, .ref bC])), (bW, .inl (cA, 12, .inl fW)), (bR, .inl (cA, 12, .inl fR)), (bK, .inl (cA, 12, .inl fK))] (va_A [(m0, .inr (2, [.int th, .int (nI n), .int rg, .int st, .ref bV, .ref bW, .ref bR, .ref bP9, .ref bK, .ref bT, .ref bC])), (bW, .inl (cA, 12, .inl fW)), (bR, .inl (cA, 12, .inl fR)), (bK, .inl (cA, 12, .inl fK))] sz) t) (va_A [(m0, .inr (2, [.int th, .int (nI n), .int rg, .int st, .ref bV, .ref bW, .ref bR, .ref bP9, .ref bK, .ref bT, .ref bC])), (bW, .inl (cA, 12, .inl fW)), (bR, .inl (cA, 12, .inl fR)), (bK, .inl (cA, 12, .inl fK))] sz)) 0 0 (va_A [(m0, .inr (2, [.int th, .int (nI n), .int rg, .int st, .ref bV, .ref bW, .ref bR, .ref bP9, .ref bK, .ref bT, .ref bC])), (bW, .inl (cA, 12, .inl fW)), (bR, .inl (cA, 12, .inl fR)), (bK, .inl (cA, 12, .inl fK))] sz) := by
  refine mk_met [.ref m0, .int d, .int x] (fun A => va_Qi (fun (r : Int32) (u : Int32) => u = cd2 (¬ (okD n d ∧ okD 41 x)) (¬ canP fW fR fK n st (dN d) x)) (fun (u : Int32) t => We D [(cA, .int)] [(m0, .inr (2, [.int u, .int (nI n), .int rg, .int st, .ref bV, .ref bW, .ref bR, .ref bP9, .ref bK, .ref bT, .ref bC])), (bW, .inl (cA, 12, .inl fW)), (bR, .inl (cA, 12, .inl fR)), (bK, .inl (cA, 12, .inl fK))] A t) A) (by decide) rfl (Nat.le_of_ble_eq_true rfl) ?_
  intro p e s m args below meth c A ls F hr hlocks hname hP hK hD hA hl
  have hx := F.1
  have hb := F.2.1
  have hml := F.2.2.1
  have hown := F.2.2.2.1
  have hts := F.2.2.2.2
  have hS : va_S A s.heap s.heap [] := va_S.rf
  have hl : lv_has ls 4 [(0, .ref m0), (1, .int d), (2, .int x)] := hl
  refine absQ (fun Q hQ => ?_)
  refine lv_aload_n hx hb dX2_lead_0 rfl (lv_at hl 0 rfl) ?_
  refine lv_iconst (v := 0) hx hb dX2_lead_1 (by decide) ?_
  refine va_put (D := D) (ci := 2) (v := .int 0) (ty := .int) (C := RX2) (T := TX2) (N := 11) hx hb hts uX2_X2_lead tyX2 tyX2_ok nmX2 hown hK hP hD hS 0 rfl rfl 0 (by decide) (hts (.fieldLink RX2 35 "RopeChoicesModel" "thrown" "I") (List.mem_of_getElem? (i := 1) rfl)) (fun _ h9 => h9) rfl (by decide +kernel) rfl rfl (Nat.le_of_ble_eq_true rfl) dX2_lead_2 (fun H locs hP hD hS => ?_)
  have hP : va_P D vwCl [(m0, .inr (2, [.int 0, .int (nI n), .int rg, .int st, .ref bV, .ref bW, .ref bR, .ref bP9, .ref bK, .ref bT, .ref bC])), (bW, .inl (cA, 12, .inl fW)), (bR, .inl (cA, 12, .inl fR)), (bK, .inl (cA, 12, .inl fK))] H := hP
  have hD : va_D A [(m0, .inr (2, [.int 0, .int (nI n), .int rg, .int st, .ref bV, .ref bW, .ref bR, .ref bP9, .ref bK, .ref bT, .ref bC])), (bW, .inl (cA, 12, .inl fW)), (bR, .inl (cA, 12, .inl fR)), (bK, .inl (cA, 12, .inl fK))] := hD
  refine lv_aload_n hx hb dX2_lead_5 rfl (lv_at hl 0 rfl) ?_
  refine lv_iload_n hx hb dX2_lead_6 rfl (lv_at hl 1 rfl) ?_
  have hX_1 : Cut D A [(m0, .inr (2, [.int 0, .int (nI n), .int rg, .int st, .ref bV, .ref bW, .ref bR, .ref bP9, .ref bK, .ref bT, .ref bC])), (bW, .inl (cA, 12, .inl fW)), (bR, .inl (cA, 12, .inl fR)), (bK, .inl (cA, 12, .inl fK))] [(m0, .inr (2, [.int 0, .int (nI n), .int rg, .int st, .ref bV, .ref bW, .ref bR, .ref bP9, .ref bK, .ref bT, .ref bC]))] [(bW, .inl (cA, 12, .inl fW)), (bR, .inl (cA, 12, .inl fR)), (bK, .inl (cA, 12, .inl fK))] [(cA, .int)] [(cA, .int)] [0] [1, 2, 3] [0] := ⟨rfl, rfl, rfl, rfl, by decide, rfl⟩
  refine ki hX_1 hP hD hS hA (kRunV (q := (RX2, TX2, 11)) (As := [.int d]) (rest := []) F (c_X2_isDelegate l D cA m0 0 n rg st bV bW bR bP9 bK bT bC d hn H.size) (cwV 1 hts gX2_lead_X2_isDelegate rfl rfl rfl (by decide +kernel) ⟨Nat.le_of_ble_eq_true rfl, Nat.le_of_ble_eq_true rfl⟩) hK hP hD hX_1 0 rfl rfl rfl hl.1 rfl (Nat.le_of_ble_eq_true rfl) dX2_lead_7 ⟨Nat.le_of_ble_eq_true rfl, Nat.le_of_ble_eq_true rfl⟩) (fun r_2 u_3 H locs hw_4 hP hD hS => ?_)
  have hw_4 : r_2 = bP (okD n d) := hw_4
  rw [hw_4]
  have hP : va_P D vwCl [(bW, .inl (cA, 12, .inl fW)), (bR, .inl (cA, 12, .inl fR)), (bK, .inl (cA, 12, .inl fK)), (m0, .inr (2, [.int 0, .int (nI n), .int rg, .int st, .ref bV, .ref bW, .ref bR, .ref bP9, .ref bK, .ref bT, .ref bC]))] H := hP
  have hD : va_D A [(bW, .inl (cA, 12, .inl fW)), (bR, .inl (cA, 12, .inl fR)), (bK, .inl (cA, 12, .inl fK)), (m0, .inr (2, [.int 0, .int (nI n), .int rg, .int st, .ref bV, .ref bW, .ref bR, .ref bP9, .ref bK, .ref bT, .ref bC]))] := hD
  refine lv_if_eq (tgt := 20) hx hb dX2_lead_10 (by decide) (fun c_10 => ?_) (fun c_10 => ?_)
  · skip
    refine lv_aload_n hx hb dX2_lead_20 rfl (lv_at hl 0 rfl) ?_
    refine lv_iconst (v := 1) hx hb dX2_lead_21 (by decide) ?_
    have hX_5 : Cut D A [(bW, .inl (cA, 12, .inl fW)), (bR, .inl (cA, 12, .inl fR)), (bK, .inl (cA, 12, .inl fK)), (m0, .inr (2, [.int 0, .int (nI n), .int rg, .int st, .ref bV, .ref bW, .ref bR, .ref bP9, .ref bK, .ref bT, .ref bC]))] [(m0, .inr (2, [.int 0, .int (nI n), .int rg, .int st, .ref bV, .ref bW, .ref bR, .ref bP9, .ref bK, .ref bT, .ref bC]))] [(bW, .inl (cA, 12, .inl fW)), (bR, .inl (cA, 12, .inl fR)), (bK, .inl (cA, 12, .inl fK))] [(cA, .int)] [(cA, .int)] [3] [0, 1, 2] [0] := ⟨rfl, rfl, rfl, rfl, by decide, rfl⟩
    refine ki hX_5 hP hD hS hA (kRunV (q := (RX2, TX2, 11)) (As := [.int 1]) (rest := []) F (c_X2_fail l D cA m0 0 n rg st bV bW bR bP9 bK bT bC 1 H.size) (cwV 1 hts gX2_lead_X2_fail rfl rfl rfl (by decide +kernel) ⟨Nat.le_of_ble_eq_true rfl, Nat.le_of_ble_eq_true rfl⟩) hK hP hD hX_5 3 rfl rfl rfl hl.1 rfl (Nat.le_of_ble_eq_true rfl) dX2_lead_22 ⟨Nat.le_of_ble_eq_true rfl, Nat.le_of_ble_eq_true rfl⟩) (fun r_6 u_7 H locs hw_8 hP hD hS => ?_)
    have hw_8 : r_6 = 0 := hw_8
    rw [hw_8]
    have hP : va_P D vwCl [(bW, .inl (cA, 12, .inl fW)), (bR, .inl (cA, 12, .inl fR)), (bK, .inl (cA, 12, .inl fK)), (m0, .inr (2, [.int 1, .int (nI n), .int rg, .int st, .ref bV, .ref bW, .ref bR, .ref bP9, .ref bK, .ref bT, .ref bC]))] H := hP
    have hD : va_D A [(bW, .inl (cA, 12, .inl fW)), (bR, .inl (cA, 12, .inl fR)), (bK, .inl (cA, 12, .inl fK)), (m0, .inr (2, [.int 1, .int (nI n), .int rg, .int st, .ref bV, .ref bW, .ref bR, .ref bP9, .ref bK, .ref bT, .ref bC]))] := hD
    refine useQ hQ ?_
    exact e_i (v := 0) F hr hlocks hK hP hD hS [3, 0, 1, 2] [0] 1 ((cd2_1 (fun z => bP_eq c_10 z.1)).symm) rfl rfl rfl (Nat.le_of_ble_eq_true rfl) (Nat.le_of_ble_eq_true rfl) dX2_lead_25
  · skip
    refine lv_iload_n hx hb dX2_lead_13 rfl (lv_at hl 2 rfl) ?_
    have hX_9 : Cut D A [(bW, .inl (cA, 12, .inl fW)), (bR, .inl (cA, 12, .inl fR)), (bK, .inl (cA, 12, .inl fK)), (m0, .inr (2, [.int 0, .int (nI n), .int rg, .int st, .ref bV, .ref bW, .ref bR, .ref bP9, .ref bK, .ref bT, .ref bC]))] [] [(bW, .inl (cA, 12, .inl fW)), (bR, .inl (cA, 12, .inl fR)), (bK, .inl (cA, 12, .inl fK)), (m0, .inr (2, [.int 0, .int (nI n), .int rg, .int st, .ref bV, .ref bW, .ref bR, .ref bP9, .ref bK, .ref bT, .ref bC]))] [(cA, .int)] [] [] [0, 1, 2, 3] [] := ⟨rfl, rfl, rfl, rfl, by decide, rfl⟩
    refine ki hX_9 hP hD hS hA (kRunS (As := [.int x]) (rest := []) F (c_X2_isPlank l D x H.size) (va_cwS 1 hts gX2_lead_X2_isPlank rfl rfl rfl (by decide +kernel) ⟨Nat.le_of_ble_eq_true rfl, Nat.le_of_ble_eq_true rfl⟩) hK hP hD hX_9 rfl hl.1 rfl (Nat.le_of_ble_eq_true rfl) dX2_lead_14 ⟨Nat.le_of_ble_eq_true rfl, Nat.le_of_ble_eq_true rfl⟩) (fun r_10 u_11 H locs hw_12 hP hD hS => ?_)
    have hw_12 : r_10 = bP (okD 41 x) := hw_12
    rw [hw_12]
    have hP : va_P D vwCl [(bW, .inl (cA, 12, .inl fW)), (bR, .inl (cA, 12, .inl fR)), (bK, .inl (cA, 12, .inl fK)), (m0, .inr (2, [.int 0, .int (nI n), .int rg, .int st, .ref bV, .ref bW, .ref bR, .ref bP9, .ref bK, .ref bT, .ref bC]))] H := hP
    have hD : va_D A [(bW, .inl (cA, 12, .inl fW)), (bR, .inl (cA, 12, .inl fR)), (bK, .inl (cA, 12, .inl fK)), (m0, .inr (2, [.int 0, .int (nI n), .int rg, .int st, .ref bV, .ref bW, .ref bR, .ref bP9, .ref bK, .ref bT, .ref bC]))] := hD
    refine lv_if_ne (tgt := 26) hx hb dX2_lead_17 (by decide) (fun c_17 => ?_) (fun c_17 => ?_)
    · skip
      obtain ⟨j, hj, hd9⟩ := (bP_ne c_10)
      subst hd9
      have hD9 : okD n (nI j) := ⟨j, hj, rfl⟩
      have hdn : dN (nI j) = j := dN_nI (by omega)
      refine lv_aload_n hx hb dX2_lead_26 rfl (lv_at hl 0 rfl) ?_
      refine lv_iload_n hx hb dX2_lead_27 rfl (lv_at hl 1 rfl) ?_
      refine lv_iload_n hx hb dX2_lead_28 rfl (lv_at hl 2 rfl) ?_
      have hX_13 : Cut D A [(bW, .inl (cA, 12, .inl fW)), (bR, .inl (cA, 12, .inl fR)), (bK, .inl (cA, 12, .inl fK)), (m0, .inr (2, [.int 0, .int (nI n), .int rg, .int st, .ref bV, .ref bW, .ref bR, .ref bP9, .ref bK, .ref bT, .ref bC]))] [(m0, .inr (2, [.int 0, .int (nI n), .int rg, .int st, .ref bV, .ref bW, .ref bR, .ref bP9, .ref bK, .ref bT, .ref bC])), (bW, .inl (cA, 12, .inl fW)), (bR, .inl (cA, 12, .inl fR)), (bK, .inl (cA, 12, .inl fK))] [] [(cA, .int)] [(cA, .int)] [3, 0, 1, 2] [] [0] := ⟨rfl, rfl, rfl, rfl, by decide, rfl⟩
      refine ki hX_13 hP hD hS hA (kRunV (q := (RX2, TX2, 11)) (As := [.int (nI j), .int x]) (rest := []) F (c_X2_can l D cA m0 0 n rg st bV bW bR bP9 bK bT bC fW fR fK j x hn (by omega) H.size) (cwV 2 hts gX2_lead_X2_can rfl rfl rfl (by decide +kernel) ⟨Nat.le_of_ble_eq_true rfl, Nat.le_of_ble_eq_true rfl⟩) hK hP hD hX_13 3 rfl rfl rfl hl.1 rfl (Nat.le_of_ble_eq_true rfl) dX2_lead_29 ⟨Nat.le_of_ble_eq_true rfl, Nat.le_of_ble_eq_true rfl⟩) (fun r_14 u_15 H locs hw_16 hP hD hS => ?_)
      have hw_16 : r_14 = bP (canP fW fR fK n st j x) := hw_16
      rw [hw_16]
      have hP : va_P D vwCl [(m0, .inr (2, [.int 0, .int (nI n), .int rg, .int st, .ref bV, .ref bW, .ref bR, .ref bP9, .ref bK, .ref bT, .ref bC])), (bW, .inl (cA, 12, .inl fW)), (bR, .inl (cA, 12, .inl fR)), (bK, .inl (cA, 12, .inl fK))] H := hP
      have hD : va_D A [(m0, .inr (2, [.int 0, .int (nI n), .int rg, .int st, .ref bV, .ref bW, .ref bR, .ref bP9, .ref bK, .ref bT, .ref bC])), (bW, .inl (cA, 12, .inl fW)), (bR, .inl (cA, 12, .inl fR)), (bK, .inl (cA, 12, .inl fK))] := hD
      refine lv_if_ne (tgt := 41) hx hb dX2_lead_32 (by decide) (fun c_32 => ?_) (fun c_32 => ?_)
      · skip
        exact absurd (cd2_0 (not_not_intro ⟨hD9, bP_ne c_17⟩) (by rw [hdn]; exact not_not_intro (bP_ne c_32))) hcd
      · skip
        refine lv_aload_n hx hb dX2_lead_35 rfl (lv_at hl 0 rfl) ?_
        refine lv_iconst (v := 2) hx hb dX2_lead_36 (by decide) ?_
        have hX_17 : Cut D A [(m0, .inr (2, [.int 0, .int (nI n), .int rg, .int st, .ref bV, .ref bW, .ref bR, .ref bP9, .ref bK, .ref bT, .ref bC])), (bW, .inl (cA, 12, .inl fW)), (bR, .inl (cA, 12, .inl fR)), (bK, .inl (cA, 12, .inl fK))] [(m0, .inr (2, [.int 0, .int (nI n), .int rg, .int st, .ref bV, .ref bW, .ref bR, .ref bP9, .ref bK, .ref bT, .ref bC]))] [(bW, .inl (cA, 12, .inl fW)), (bR, .inl (cA, 12, .inl fR)), (bK, .inl (cA, 12, .inl fK))] [(cA, .int)] [(cA, .int)] [0] [1, 2, 3] [0] := ⟨rfl, rfl, rfl, rfl, by decide, rfl⟩
        refine ki hX_17 hP hD hS hA (kRunV (q := (RX2, TX2, 11)) (As := [.int 2]) (rest := []) F (c_X2_fail l D cA m0 0 n rg st bV bW bR bP9 bK bT bC 2 H.size) (cwV 1 hts gX2_lead_X2_fail rfl rfl rfl (by decide +kernel) ⟨Nat.le_of_ble_eq_true rfl, Nat.le_of_ble_eq_true rfl⟩) hK hP hD hX_17 0 rfl rfl rfl hl.1 rfl (Nat.le_of_ble_eq_true rfl) dX2_lead_37 ⟨Nat.le_of_ble_eq_true rfl, Nat.le_of_ble_eq_true rfl⟩) (fun r_18 u_19 H locs hw_20 hP hD hS => ?_)
        have hw_20 : r_18 = 0 := hw_20
        rw [hw_20]
        have hP : va_P D vwCl [(bW, .inl (cA, 12, .inl fW)), (bR, .inl (cA, 12, .inl fR)), (bK, .inl (cA, 12, .inl fK)), (m0, .inr (2, [.int 2, .int (nI n), .int rg, .int st, .ref bV, .ref bW, .ref bR, .ref bP9, .ref bK, .ref bT, .ref bC]))] H := hP
        have hD : va_D A [(bW, .inl (cA, 12, .inl fW)), (bR, .inl (cA, 12, .inl fR)), (bK, .inl (cA, 12, .inl fK)), (m0, .inr (2, [.int 2, .int (nI n), .int rg, .int st, .ref bV, .ref bW, .ref bR, .ref bP9, .ref bK, .ref bT, .ref bC]))] := hD
        refine useQ hQ ?_
        exact e_i (v := 0) F hr hlocks hK hP hD hS [3, 0, 1, 2] [0] 2 ((cd2_2 (not_not_intro ⟨hD9, bP_ne c_17⟩) (by rw [hdn]; exact bP_eq c_32)).symm) rfl rfl rfl (Nat.le_of_ble_eq_true rfl) (Nat.le_of_ble_eq_true rfl) dX2_lead_40
    · skip
      refine lv_aload_n hx hb dX2_lead_20 rfl (lv_at hl 0 rfl) ?_
      refine lv_iconst (v := 1) hx hb dX2_lead_21 (by decide) ?_
      have hX_21 : Cut D A [(bW, .inl (cA, 12, .inl fW)), (bR, .inl (cA, 12, .inl fR)), (bK, .inl (cA, 12, .inl fK)), (m0, .inr (2, [.int 0, .int (nI n), .int rg, .int st, .ref bV, .ref bW, .ref bR, .ref bP9, .ref bK, .ref bT, .ref bC]))] [(m0, .inr (2, [.int 0, .int (nI n), .int rg, .int st, .ref bV, .ref bW, .ref bR, .ref bP9, .ref bK, .ref bT, .ref bC]))] [(bW, .inl (cA, 12, .inl fW)), (bR, .inl (cA, 12, .inl fR)), (bK, .inl (cA, 12, .inl fK))] [(cA, .int)] [(cA, .int)] [3] [0, 1, 2] [0] := ⟨rfl, rfl, rfl, rfl, by decide, rfl⟩
      refine ki hX_21 hP hD hS hA (kRunV (q := (RX2, TX2, 11)) (As := [.int 1]) (rest := []) F (c_X2_fail l D cA m0 0 n rg st bV bW bR bP9 bK bT bC 1 H.size) (cwV 1 hts gX2_lead_X2_fail rfl rfl rfl (by decide +kernel) ⟨Nat.le_of_ble_eq_true rfl, Nat.le_of_ble_eq_true rfl⟩) hK hP hD hX_21 3 rfl rfl rfl hl.1 rfl (Nat.le_of_ble_eq_true rfl) dX2_lead_22 ⟨Nat.le_of_ble_eq_true rfl, Nat.le_of_ble_eq_true rfl⟩) (fun r_22 u_23 H locs hw_24 hP hD hS => ?_)
      have hw_24 : r_22 = 0 := hw_24
      rw [hw_24]
      have hP : va_P D vwCl [(bW, .inl (cA, 12, .inl fW)), (bR, .inl (cA, 12, .inl fR)), (bK, .inl (cA, 12, .inl fK)), (m0, .inr (2, [.int 1, .int (nI n), .int rg, .int st, .ref bV, .ref bW, .ref bR, .ref bP9, .ref bK, .ref bT, .ref bC]))] H := hP
      have hD : va_D A [(bW, .inl (cA, 12, .inl fW)), (bR, .inl (cA, 12, .inl fR)), (bK, .inl (cA, 12, .inl fK)), (m0, .inr (2, [.int 1, .int (nI n), .int rg, .int st, .ref bV, .ref bW, .ref bR, .ref bP9, .ref bK, .ref bT, .ref bC]))] := hD
      refine useQ hQ ?_
      exact e_i (v := 0) F hr hlocks hK hP hD hS [3, 0, 1, 2] [0] 1 ((cd2_1 (fun z => bP_eq c_17 z.2)).symm) rfl rfl rfl (Nat.le_of_ble_eq_true rfl) (Nat.le_of_ble_eq_true rfl) dX2_lead_25
theorem uX2_X2_setStrength : ∀ w ∈ u_ws RX2 TX2 11, w ∈ wsX2_setStrength := (fun _ h => List.mem_cons_of_mem _ (List.mem_append_right _ h))
set_option maxHeartbeats 4000000 in
set_option maxRecDepth 100000 in
theorem c_X2_setStrength_ok (l : Launch) (D : va_G) (cA : ClassId) (m0 : Nat) (th : Int32) (n : Nat) (rg : Int32) (st : Int32) (bV : Nat) (bW : Nat) (bR : Nat) (bP9 : Nat) (bK : Nat) (bT : Nat) (bC : Nat) (x : Int32) (hcd : okB 1 12 x) (sz : Nat) : Met l yX2_setStrength wsX2_setStrength ({ frames := 1, cells := 0, slots := 0, locals := 22 } : Room) (va_Pc [.ref m0, .int x] (Wd D [(cA, .int)] [(m0, .inr (2, [.int th, .int (nI n), .int rg, .int st, .ref bV, .ref bW, .ref bR, .ref bP9, .ref bK, .ref bT, .ref bC]))] sz)) (va_Qi (fun (r : Int32) (_ : Unit) => r = st) (fun (_ : Unit) t => We D [(cA, .int)] [(m0, .inr (2, [.int 0, .int (nI n), .int rg, .int x, .ref bV, .ref bW, .ref bR, .ref bP9, .ref bK, .ref bT, .ref bC]))] (va_A [(m0, .inr (2, [.int th, .int (nI n), .int rg, .int st, .ref bV, .ref bW, .ref bR, .ref bP9, .ref bK, .ref bT, .ref bC]))] sz) t) (va_A [(m0, .inr (2, [.int th, .int (nI n), .int rg, .int st, .ref bV, .ref bW, .ref bR, .ref bP9, .ref bK, .ref bT, .ref bC]))] sz)) 0 0 (va_A [(m0, .inr (2, [.int th, .int (nI n), .int rg, .int st, .ref bV, .ref bW, .ref bR, .ref bP9, .ref bK, .ref bT, .ref bC]))] sz) := by
  refine mk_met [.ref m0, .int x] (fun A => va_Qi (fun (r : Int32) (_ : Unit) => r = st) (fun (_ : Unit) t => We D [(cA, .int)] [(m0, .inr (2, [.int 0, .int (nI n), .int rg, .int x, .ref bV, .ref bW, .ref bR, .ref bP9, .ref bK, .ref bT, .ref bC]))] A t) A) (by decide) rfl (Nat.le_of_ble_eq_true rfl) ?_
  intro p e s m args below meth c A ls F hr hlocks hname hP hK hD hA hl
  have hx := F.1
  have hb := F.2.1
  have hml := F.2.2.1
  have hown := F.2.2.2.1
  have hts := F.2.2.2.2
  have hS : va_S A s.heap s.heap [] := va_S.rf
  have hl : lv_has ls 3 [(0, .ref m0), (1, .int x)] := hl
  refine absQ (fun Q hQ => ?_)
  refine lv_aload_n hx hb dX2_setStrength_0 rfl (lv_at hl 0 rfl) ?_
  refine lv_iconst (v := 0) hx hb dX2_setStrength_1 (by decide) ?_
  refine va_put (D := D) (ci := 2) (v := .int 0) (ty := .int) (C := RX2) (T := TX2) (N := 11) hx hb hts uX2_X2_setStrength tyX2 tyX2_ok nmX2 hown hK hP hD hS 0 rfl rfl 0 (by decide) (hts (.fieldLink RX2 35 "RopeChoicesModel" "thrown" "I") (List.mem_of_getElem? (i := 1) rfl)) (fun _ h9 => h9) rfl (by decide +kernel) rfl rfl (Nat.le_of_ble_eq_true rfl) dX2_setStrength_2 (fun H locs hP hD hS => ?_)
  have hP : va_P D vwCl [(m0, .inr (2, [.int 0, .int (nI n), .int rg, .int st, .ref bV, .ref bW, .ref bR, .ref bP9, .ref bK, .ref bT, .ref bC]))] H := hP
  have hD : va_D A [(m0, .inr (2, [.int 0, .int (nI n), .int rg, .int st, .ref bV, .ref bW, .ref bR, .ref bP9, .ref bK, .ref bT, .ref bC]))] := hD
  refine lv_iload_n hx hb dX2_setStrength_5 rfl (lv_at hl 1 rfl) ?_
  refine lv_iconst (v := 1) hx hb dX2_setStrength_6 (by decide) ?_
  refine lv_bipush (v := 12) hx hb dX2_setStrength_7 (by decide) ?_
  have hX_1 : Cut D A [(m0, .inr (2, [.int 0, .int (nI n), .int rg, .int st, .ref bV, .ref bW, .ref bR, .ref bP9, .ref bK, .ref bT, .ref bC]))] [] [(m0, .inr (2, [.int 0, .int (nI n), .int rg, .int st, .ref bV, .ref bW, .ref bR, .ref bP9, .ref bK, .ref bT, .ref bC]))] [(cA, .int)] [] [] [0] [] := ⟨rfl, rfl, rfl, rfl, by decide, rfl⟩
  refine ki hX_1 hP hD hS hA (kRunS (As := [.int x, .int 1, .int 12]) (rest := []) F (c_X2_isIn l D x 1 12 H.size) (va_cwS 3 hts gX2_setStrength_X2_isIn rfl rfl rfl (by decide +kernel) ⟨Nat.le_of_ble_eq_true rfl, Nat.le_of_ble_eq_true rfl⟩) hK hP hD hX_1 rfl hl.1 rfl (Nat.le_of_ble_eq_true rfl) dX2_setStrength_9 ⟨Nat.le_of_ble_eq_true rfl, Nat.le_of_ble_eq_true rfl⟩) (fun r_2 u_3 H locs hw_4 hP hD hS => ?_)
  have hw_4 : r_2 = bP (1 ≤ x ∧ x ≤ 12) := hw_4
  rw [hw_4]
  have hP : va_P D vwCl [(m0, .inr (2, [.int 0, .int (nI n), .int rg, .int st, .ref bV, .ref bW, .ref bR, .ref bP9, .ref bK, .ref bT, .ref bC]))] H := hP
  have hD : va_D A [(m0, .inr (2, [.int 0, .int (nI n), .int rg, .int st, .ref bV, .ref bW, .ref bR, .ref bP9, .ref bK, .ref bT, .ref bC]))] := hD
  refine lv_if_ne (tgt := 21) hx hb dX2_setStrength_12 (by decide) (fun c_12 => ?_) (fun c_12 => ?_)
  · skip
    refine lv_aload_n hx hb dX2_setStrength_21 rfl (lv_at hl 0 rfl) ?_
    refine va_get (D := D) (ci := 2) (v := .int st) (C := RX2) (T := TX2) (N := 11) hx hb hts uX2_X2_setStrength hown hK hP 0 rfl rfl 3 (by decide) (hts (.fieldLink RX2 7 "RopeChoicesModel" "strength" "I") (List.mem_of_getElem? (i := 2) rfl)) (fun _ h9 => h9) rfl dX2_setStrength_22 ?_
    refine lv_istore_n (lv' := [(2, .int st), (0, .ref m0), (1, .int x)]) hx hb dX2_setStrength_25 rfl hl (by decide) rfl (fun ls hl => ?_)
    refine lv_aload_n hx hb dX2_setStrength_26 rfl (lv_at hl 1 rfl) ?_
    refine lv_iload_n hx hb dX2_setStrength_27 rfl (lv_at hl 2 rfl) ?_
    refine va_put (D := D) (ci := 2) (v := .int x) (ty := .int) (C := RX2) (T := TX2) (N := 11) hx hb hts uX2_X2_setStrength tyX2 tyX2_ok nmX2 hown hK hP hD hS 0 rfl rfl 3 (by decide) (hts (.fieldLink RX2 7 "RopeChoicesModel" "strength" "I") (List.mem_of_getElem? (i := 2) rfl)) (fun _ h9 => h9) rfl (by decide +kernel) rfl rfl (Nat.le_of_ble_eq_true rfl) dX2_setStrength_28 (fun H locs hP hD hS => ?_)
    have hP : va_P D vwCl [(m0, .inr (2, [.int 0, .int (nI n), .int rg, .int x, .ref bV, .ref bW, .ref bR, .ref bP9, .ref bK, .ref bT, .ref bC]))] H := hP
    have hD : va_D A [(m0, .inr (2, [.int 0, .int (nI n), .int rg, .int x, .ref bV, .ref bW, .ref bR, .ref bP9, .ref bK, .ref bT, .ref bC]))] := hD
    refine lv_iload_n hx hb dX2_setStrength_31 rfl (lv_at hl 0 rfl) ?_
    refine useQ hQ ?_
    exact e_i (v := st) F hr hlocks hK hP hD hS [0] [0] () rfl rfl rfl rfl (Nat.le_of_ble_eq_true rfl) (Nat.le_of_ble_eq_true rfl) dX2_setStrength_32
  · skip
    exact absurd ((isIn_B (lo := 1) (hi := 12) (by omega) (by omega)).mpr hcd) (bP_eq c_12)
set_option maxHeartbeats 4000000 in
set_option maxRecDepth 100000 in
theorem c_X2_setStrength_no (l : Launch) (D : va_G) (cA : ClassId) (m0 : Nat) (th : Int32) (n : Nat) (rg : Int32) (st : Int32) (bV : Nat) (bW : Nat) (bR : Nat) (bP9 : Nat) (bK : Nat) (bT : Nat) (bC : Nat) (x : Int32) (hcd : ¬ okB 1 12 x) (sz : Nat) : Met l yX2_setStrength wsX2_setStrength ({ frames := 1, cells := 0, slots := 0, locals := 22 } : Room) (va_Pc [.ref m0, .int x] (Wd D [(cA, .int)] [(m0, .inr (2, [.int th, .int (nI n), .int rg, .int st, .ref bV, .ref bW, .ref bR, .ref bP9, .ref bK, .ref bT, .ref bC]))] sz)) (va_Qi (fun (r : Int32) (_ : Unit) => True) (fun (_ : Unit) t => We D [(cA, .int)] [(m0, .inr (2, [.int 1, .int (nI n), .int rg, .int st, .ref bV, .ref bW, .ref bR, .ref bP9, .ref bK, .ref bT, .ref bC]))] (va_A [(m0, .inr (2, [.int th, .int (nI n), .int rg, .int st, .ref bV, .ref bW, .ref bR, .ref bP9, .ref bK, .ref bT, .ref bC]))] sz) t) (va_A [(m0, .inr (2, [.int th, .int (nI n), .int rg, .int st, .ref bV, .ref bW, .ref bR, .ref bP9, .ref bK, .ref bT, .ref bC]))] sz)) 0 0 (va_A [(m0, .inr (2, [.int th, .int (nI n), .int rg, .int st, .ref bV, .ref bW, .ref bR, .ref bP9, .ref bK, .ref bT, .ref bC]))] sz) := by
  refine mk_met [.ref m0, .int x] (fun A => va_Qi (fun (r : Int32) (_ : Unit) => True) (fun (_ : Unit) t => We D [(cA, .int)] [(m0, .inr (2, [.int 1, .int (nI n), .int rg, .int st, .ref bV, .ref bW, .ref bR, .ref bP9, .ref bK, .ref bT, .ref bC]))] A t) A) (by decide) rfl (Nat.le_of_ble_eq_true rfl) ?_
  intro p e s m args below meth c A ls F hr hlocks hname hP hK hD hA hl
  have hx := F.1
  have hb := F.2.1
  have hml := F.2.2.1
  have hown := F.2.2.2.1
  have hts := F.2.2.2.2
  have hS : va_S A s.heap s.heap [] := va_S.rf
  have hl : lv_has ls 3 [(0, .ref m0), (1, .int x)] := hl
  refine absQ (fun Q hQ => ?_)
  refine lv_aload_n hx hb dX2_setStrength_0 rfl (lv_at hl 0 rfl) ?_
  refine lv_iconst (v := 0) hx hb dX2_setStrength_1 (by decide) ?_
  refine va_put (D := D) (ci := 2) (v := .int 0) (ty := .int) (C := RX2) (T := TX2) (N := 11) hx hb hts uX2_X2_setStrength tyX2 tyX2_ok nmX2 hown hK hP hD hS 0 rfl rfl 0 (by decide) (hts (.fieldLink RX2 35 "RopeChoicesModel" "thrown" "I") (List.mem_of_getElem? (i := 1) rfl)) (fun _ h9 => h9) rfl (by decide +kernel) rfl rfl (Nat.le_of_ble_eq_true rfl) dX2_setStrength_2 (fun H locs hP hD hS => ?_)
  have hP : va_P D vwCl [(m0, .inr (2, [.int 0, .int (nI n), .int rg, .int st, .ref bV, .ref bW, .ref bR, .ref bP9, .ref bK, .ref bT, .ref bC]))] H := hP
  have hD : va_D A [(m0, .inr (2, [.int 0, .int (nI n), .int rg, .int st, .ref bV, .ref bW, .ref bR, .ref bP9, .ref bK, .ref bT, .ref bC]))] := hD
  refine lv_iload_n hx hb dX2_setStrength_5 rfl (lv_at hl 1 rfl) ?_
  refine lv_iconst (v := 1) hx hb dX2_setStrength_6 (by decide) ?_
  refine lv_bipush (v := 12) hx hb dX2_setStrength_7 (by decide) ?_
  have hX_1 : Cut D A [(m0, .inr (2, [.int 0, .int (nI n), .int rg, .int st, .ref bV, .ref bW, .ref bR, .ref bP9, .ref bK, .ref bT, .ref bC]))] [] [(m0, .inr (2, [.int 0, .int (nI n), .int rg, .int st, .ref bV, .ref bW, .ref bR, .ref bP9, .ref bK, .ref bT, .ref bC]))] [(cA, .int)] [] [] [0] [] := ⟨rfl, rfl, rfl, rfl, by decide, rfl⟩
  refine ki hX_1 hP hD hS hA (kRunS (As := [.int x, .int 1, .int 12]) (rest := []) F (c_X2_isIn l D x 1 12 H.size) (va_cwS 3 hts gX2_setStrength_X2_isIn rfl rfl rfl (by decide +kernel) ⟨Nat.le_of_ble_eq_true rfl, Nat.le_of_ble_eq_true rfl⟩) hK hP hD hX_1 rfl hl.1 rfl (Nat.le_of_ble_eq_true rfl) dX2_setStrength_9 ⟨Nat.le_of_ble_eq_true rfl, Nat.le_of_ble_eq_true rfl⟩) (fun r_2 u_3 H locs hw_4 hP hD hS => ?_)
  have hw_4 : r_2 = bP (1 ≤ x ∧ x ≤ 12) := hw_4
  rw [hw_4]
  have hP : va_P D vwCl [(m0, .inr (2, [.int 0, .int (nI n), .int rg, .int st, .ref bV, .ref bW, .ref bR, .ref bP9, .ref bK, .ref bT, .ref bC]))] H := hP
  have hD : va_D A [(m0, .inr (2, [.int 0, .int (nI n), .int rg, .int st, .ref bV, .ref bW, .ref bR, .ref bP9, .ref bK, .ref bT, .ref bC]))] := hD
  refine lv_if_ne (tgt := 21) hx hb dX2_setStrength_12 (by decide) (fun c_12 => ?_) (fun c_12 => ?_)
  · skip
    exact absurd ((isIn_B (lo := 1) (hi := 12) (by omega) (by omega)).mp (bP_ne c_12)) hcd
  · skip
    refine lv_aload_n hx hb dX2_setStrength_15 rfl (lv_at hl 0 rfl) ?_
    refine lv_iconst (v := 1) hx hb dX2_setStrength_16 (by decide) ?_
    have hX_5 : Cut D A [(m0, .inr (2, [.int 0, .int (nI n), .int rg, .int st, .ref bV, .ref bW, .ref bR, .ref bP9, .ref bK, .ref bT, .ref bC]))] [(m0, .inr (2, [.int 0, .int (nI n), .int rg, .int st, .ref bV, .ref bW, .ref bR, .ref bP9, .ref bK, .ref bT, .ref bC]))] [] [(cA, .int)] [(cA, .int)] [0] [] [0] := ⟨rfl, rfl, rfl, rfl, by decide, rfl⟩
    refine ki hX_5 hP hD hS hA (kRunV (q := (RX2, TX2, 11)) (As := [.int 1]) (rest := []) F (c_X2_fail l D cA m0 0 n rg st bV bW bR bP9 bK bT bC 1 H.size) (cwV 1 hts gX2_setStrength_X2_fail rfl rfl rfl (by decide +kernel) ⟨Nat.le_of_ble_eq_true rfl, Nat.le_of_ble_eq_true rfl⟩) hK hP hD hX_5 0 rfl rfl rfl hl.1 rfl (Nat.le_of_ble_eq_true rfl) dX2_setStrength_17 ⟨Nat.le_of_ble_eq_true rfl, Nat.le_of_ble_eq_true rfl⟩) (fun r_6 u_7 H locs hw_8 hP hD hS => ?_)
    have hw_8 : r_6 = 0 := hw_8
    rw [hw_8]
    have hP : va_P D vwCl [(m0, .inr (2, [.int 1, .int (nI n), .int rg, .int st, .ref bV, .ref bW, .ref bR, .ref bP9, .ref bK, .ref bT, .ref bC]))] H := hP
    have hD : va_D A [(m0, .inr (2, [.int 1, .int (nI n), .int rg, .int st, .ref bV, .ref bW, .ref bR, .ref bP9, .ref bK, .ref bT, .ref bC]))] := hD
    refine useQ hQ ?_
    exact e_i (v := 0) F hr hlocks hK hP hD hS [0] [0] () trivial rfl rfl rfl (Nat.le_of_ble_eq_true rfl) (Nat.le_of_ble_eq_true rfl) dX2_setStrength_20
theorem uX2_X2_passRounds : ∀ w ∈ u_ws RX2 TX2 11, w ∈ wsX2_passRounds := (fun _ h => List.mem_cons_of_mem _ (List.mem_append_right _ h))
set_option maxHeartbeats 4000000 in
set_option maxRecDepth 100000 in
theorem c_X2_passRounds_ok (l : Launch) (D : va_G) (cA : ClassId) (m0 : Nat) (th : Int32) (n : Nat) (rg : Int32) (st : Int32) (bV : Nat) (bW : Nat) (bR : Nat) (bP9 : Nat) (bK : Nat) (bT : Nat) (bC : Nat) (fV : Nat → Int32) (fW : Nat → Int32) (fR : Nat → Int32) (fP : Nat → Int32) (fK : Nat → Int32) (fC : Nat → Int32) (x : Int32) (hn : n ≤ 12) (hI : Inv fW fR fP fK n) (hcd : okB 1 50 x) (sz : Nat) : Met l yX2_passRounds wsX2_passRounds ({ frames := 3, cells := 0, slots := 0, locals := 77 } : Room) (va_Pc [.ref m0, .int x] (Wd D [(cA, .int)] [(m0, .inr (2, [.int th, .int (nI n), .int rg, .int st, .ref bV, .ref bW, .ref bR, .ref bP9, .ref bK, .ref bT, .ref bC])), (bV, .inl (cA, 12, .inl fV)), (bW, .inl (cA, 12, .inl fW)), (bR, .inl (cA, 12, .inl fR)), (bP9, .inl (cA, 12, .inl fP)), (bK, .inl (cA, 12, .inl fK)), (bC, .inl (cA, 41, .inl fC))] sz)) (va_Qi (fun (r : Int32) (u : Nat → Int32) => r = (rnds fW fR fP n st fK (dN x)).2) (fun (u : Nat → Int32) t => We D [(cA, .int)] [(m0, .inr (2, [.int 0, .int (nI n), .int (rg + x), .int st, .ref bV, .ref bW, .ref bR, .ref bP9, .ref bK, .ref bT, .ref bC])), (bV, .inl (cA, 12, .inl fV)), (bW, .inl (cA, 12, .inl fW)), (bR, .inl (cA, 12, .inl fR)), (bP9, .inl (cA, 12, .inl fP)), (bK, .inl (cA, 12, .inl ((rnds fW fR fP n st fK (dN x)).1))), (bC, .inl (cA, 41, .inl u))] (va_A [(m0, .inr (2, [.int th, .int (nI n), .int rg, .int st, .ref bV, .ref bW, .ref bR, .ref bP9, .ref bK, .ref bT, .ref bC])), (bV, .inl (cA, 12, .inl fV)), (bW, .inl (cA, 12, .inl fW)), (bR, .inl (cA, 12, .inl fR)), (bP9, .inl (cA, 12, .inl fP)), (bK, .inl (cA, 12, .inl fK)), (bC, .inl (cA, 41, .inl fC))] sz) t) (va_A [(m0, .inr (2, [.int th, .int (nI n), .int rg, .int st, .ref bV, .ref bW, .ref bR, .ref bP9, .ref bK, .ref bT, .ref bC])), (bV, .inl (cA, 12, .inl fV)), (bW, .inl (cA, 12, .inl fW)), (bR, .inl (cA, 12, .inl fR)), (bP9, .inl (cA, 12, .inl fP)), (bK, .inl (cA, 12, .inl fK)), (bC, .inl (cA, 41, .inl fC))] sz)) 0 0 (va_A [(m0, .inr (2, [.int th, .int (nI n), .int rg, .int st, .ref bV, .ref bW, .ref bR, .ref bP9, .ref bK, .ref bT, .ref bC])), (bV, .inl (cA, 12, .inl fV)), (bW, .inl (cA, 12, .inl fW)), (bR, .inl (cA, 12, .inl fR)), (bP9, .inl (cA, 12, .inl fP)), (bK, .inl (cA, 12, .inl fK)), (bC, .inl (cA, 41, .inl fC))] sz) := by
  refine mk_met [.ref m0, .int x] (fun A => va_Qi (fun (r : Int32) (u : Nat → Int32) => r = (rnds fW fR fP n st fK (dN x)).2) (fun (u : Nat → Int32) t => We D [(cA, .int)] [(m0, .inr (2, [.int 0, .int (nI n), .int (rg + x), .int st, .ref bV, .ref bW, .ref bR, .ref bP9, .ref bK, .ref bT, .ref bC])), (bV, .inl (cA, 12, .inl fV)), (bW, .inl (cA, 12, .inl fW)), (bR, .inl (cA, 12, .inl fR)), (bP9, .inl (cA, 12, .inl fP)), (bK, .inl (cA, 12, .inl ((rnds fW fR fP n st fK (dN x)).1))), (bC, .inl (cA, 41, .inl u))] A t) A) (by decide) rfl (Nat.le_of_ble_eq_true rfl) ?_
  intro p e s m args below meth c A ls F hr hlocks hname hP hK hD hA hl
  have hx := F.1
  have hb := F.2.1
  have hml := F.2.2.1
  have hown := F.2.2.2.1
  have hts := F.2.2.2.2
  have hS : va_S A s.heap s.heap [] := va_S.rf
  have hl : lv_has ls 4 [(0, .ref m0), (1, .int x)] := hl
  refine absQ (fun Q hQ => ?_)
  refine lv_aload_n hx hb dX2_passRounds_0 rfl (lv_at hl 0 rfl) ?_
  refine lv_iconst (v := 0) hx hb dX2_passRounds_1 (by decide) ?_
  refine va_put (D := D) (ci := 2) (v := .int 0) (ty := .int) (C := RX2) (T := TX2) (N := 11) hx hb hts uX2_X2_passRounds tyX2 tyX2_ok nmX2 hown hK hP hD hS 0 rfl rfl 0 (by decide) (hts (.fieldLink RX2 35 "RopeChoicesModel" "thrown" "I") (List.mem_of_getElem? (i := 1) rfl)) (fun _ h9 => h9) rfl (by decide +kernel) rfl rfl (Nat.le_of_ble_eq_true rfl) dX2_passRounds_2 (fun H locs hP hD hS => ?_)
  have hP : va_P D vwCl [(m0, .inr (2, [.int 0, .int (nI n), .int rg, .int st, .ref bV, .ref bW, .ref bR, .ref bP9, .ref bK, .ref bT, .ref bC])), (bV, .inl (cA, 12, .inl fV)), (bW, .inl (cA, 12, .inl fW)), (bR, .inl (cA, 12, .inl fR)), (bP9, .inl (cA, 12, .inl fP)), (bK, .inl (cA, 12, .inl fK)), (bC, .inl (cA, 41, .inl fC))] H := hP
  have hD : va_D A [(m0, .inr (2, [.int 0, .int (nI n), .int rg, .int st, .ref bV, .ref bW, .ref bR, .ref bP9, .ref bK, .ref bT, .ref bC])), (bV, .inl (cA, 12, .inl fV)), (bW, .inl (cA, 12, .inl fW)), (bR, .inl (cA, 12, .inl fR)), (bP9, .inl (cA, 12, .inl fP)), (bK, .inl (cA, 12, .inl fK)), (bC, .inl (cA, 41, .inl fC))] := hD
  refine lv_iload_n hx hb dX2_passRounds_5 rfl (lv_at hl 1 rfl) ?_
  refine lv_iconst (v := 1) hx hb dX2_passRounds_6 (by decide) ?_
  refine lv_bipush (v := 50) hx hb dX2_passRounds_7 (by decide) ?_
  have hX_1 : Cut D A [(m0, .inr (2, [.int 0, .int (nI n), .int rg, .int st, .ref bV, .ref bW, .ref bR, .ref bP9, .ref bK, .ref bT, .ref bC])), (bV, .inl (cA, 12, .inl fV)), (bW, .inl (cA, 12, .inl fW)), (bR, .inl (cA, 12, .inl fR)), (bP9, .inl (cA, 12, .inl fP)), (bK, .inl (cA, 12, .inl fK)), (bC, .inl (cA, 41, .inl fC))] [] [(m0, .inr (2, [.int 0, .int (nI n), .int rg, .int st, .ref bV, .ref bW, .ref bR, .ref bP9, .ref bK, .ref bT, .ref bC])), (bV, .inl (cA, 12, .inl fV)), (bW, .inl (cA, 12, .inl fW)), (bR, .inl (cA, 12, .inl fR)), (bP9, .inl (cA, 12, .inl fP)), (bK, .inl (cA, 12, .inl fK)), (bC, .inl (cA, 41, .inl fC))] [(cA, .int)] [] [] [0, 1, 2, 3, 4, 5, 6] [] := ⟨rfl, rfl, rfl, rfl, by decide, rfl⟩
  refine ki hX_1 hP hD hS hA (kRunS (As := [.int x, .int 1, .int 50]) (rest := []) F (c_X2_isIn l D x 1 50 H.size) (va_cwS 3 hts gX2_passRounds_X2_isIn rfl rfl rfl (by decide +kernel) ⟨Nat.le_of_ble_eq_true rfl, Nat.le_of_ble_eq_true rfl⟩) hK hP hD hX_1 rfl hl.1 rfl (Nat.le_of_ble_eq_true rfl) dX2_passRounds_9 ⟨Nat.le_of_ble_eq_true rfl, Nat.le_of_ble_eq_true rfl⟩) (fun r_2 u_3 H locs hw_4 hP hD hS => ?_)
  have hw_4 : r_2 = bP (1 ≤ x ∧ x ≤ 50) := hw_4
  rw [hw_4]
  have hP : va_P D vwCl [(m0, .inr (2, [.int 0, .int (nI n), .int rg, .int st, .ref bV, .ref bW, .ref bR, .ref bP9, .ref bK, .ref bT, .ref bC])), (bV, .inl (cA, 12, .inl fV)), (bW, .inl (cA, 12, .inl fW)), (bR, .inl (cA, 12, .inl fR)), (bP9, .inl (cA, 12, .inl fP)), (bK, .inl (cA, 12, .inl fK)), (bC, .inl (cA, 41, .inl fC))] H := hP
  have hD : va_D A [(m0, .inr (2, [.int 0, .int (nI n), .int rg, .int st, .ref bV, .ref bW, .ref bR, .ref bP9, .ref bK, .ref bT, .ref bC])), (bV, .inl (cA, 12, .inl fV)), (bW, .inl (cA, 12, .inl fW)), (bR, .inl (cA, 12, .inl fR)), (bP9, .inl (cA, 12, .inl fP)), (bK, .inl (cA, 12, .inl fK)), (bC, .inl (cA, 41, .inl fC))] := hD
  refine lv_if_ne (tgt := 21) hx hb dX2_passRounds_12 (by decide) (fun c_12 => ?_) (fun c_12 => ?_)
  · skip
    have hB9 := ((isIn_B (lo := 1) (hi := 50) (by omega) (by omega)).mp (bP_ne c_12))
    obtain ⟨rd, hb1, hb2, hd8⟩ := ((isIn_B (lo := 1) (hi := 50) (by omega) (by omega)).mp (bP_ne c_12))
    subst hd8
    have hbn : dN (nI rd) = rd := dN_nI (by omega)
    refine lv_iconst (v := 0) hx hb dX2_passRounds_21 (by decide) ?_
    refine lv_istore_n (lv' := [(2, .int 0), (0, .ref m0), (1, .int (nI rd))]) hx hb dX2_passRounds_22 rfl hl (by decide) rfl (fun ls hl => ?_)
    refine lv_iconst (v := 0) hx hb dX2_passRounds_23 (by decide) ?_
    refine lv_istore_n (lv' := [(3, .int 0), (2, .int 0), (0, .ref m0), (1, .int (nI rd))]) hx hb dX2_passRounds_24 rfl hl (by decide) rfl (fun ls hl => ?_)
    have loop25 : ∀ (k : Nat) (i : Nat) (v : Int32) (g : Nat → Int32) (gC : Nat → Int32), (rd < i + k) → (i ≤ rd) → ((g, v) = rnds fW fR fP n st fK i) →  ∀ (H : Heap) (locs : List Loc), va_P D vwCl [(m0, .inr (2, [.int 0, .int (nI n), .int rg, .int st, .ref bV, .ref bW, .ref bR, .ref bP9, .ref bK, .ref bT, .ref bC])), (bV, .inl (cA, 12, .inl fV)), (bW, .inl (cA, 12, .inl fW)), (bR, .inl (cA, 12, .inl fR)), (bP9, .inl (cA, 12, .inl fP)), (bK, .inl (cA, 12, .inl g)), (bC, .inl (cA, 41, .inl gC))] H → va_D A [(m0, .inr (2, [.int 0, .int (nI n), .int rg, .int st, .ref bV, .ref bW, .ref bR, .ref bP9, .ref bK, .ref bT, .ref bC])), (bV, .inl (cA, 12, .inl fV)), (bW, .inl (cA, 12, .inl fW)), (bR, .inl (cA, 12, .inl fR)), (bP9, .inl (cA, 12, .inl fP)), (bK, .inl (cA, 12, .inl g)), (bC, .inl (cA, 41, .inl gC))] → va_S A s.heap H locs → ∀ ls : Array Slot, lv_has ls 4 [(3, .int (nI i)), (2, .int v), (0, .ref m0), (1, .int (nI rd))] → W p l e ({ frames := 3, cells := 0, slots := 0, locals := 77 } : Room) s m args below meth c H locs 0 0 Q (F0 m 25 ls []) := by
      intro k
      induction k with
      | zero =>
        intro i v g gC hk hi hT
        exact absurd hk (by omega)
      | succ k ih25 =>
        intro i v g gC hk hi hT H locs hP hD hS ls hl
        have hG : Inv fW fR fP g n := by
          have h9 := rnds_ok (st := st) hI i
          rw [← hT] at h9
          exact h9
        refine lv_iload_n hx hb dX2_passRounds_25 rfl (lv_at hl 0 rfl) ?_
        refine lv_iload_n hx hb dX2_passRounds_26 rfl (lv_at hl 3 rfl) ?_
        refine lv_icmp_ge (tgt := 43) hx hb dX2_passRounds_27 (by decide) (fun c_27 => ?_) (fun c_27 => ?_)
        · skip
          have g_27 : rd ≤ i := nf_ge_t (by omega) (by omega) c_27
          rw [show i = rd by omega] at hT
          have eq_5 : g = ((rnds fW fR fP n st fK (dN (nI rd))).1) := by rw [hbn]; exact congrArg Prod.fst hT
          rw [eq_5] at hP hD
          have hP : va_P D vwCl [(m0, .inr (2, [.int 0, .int (nI n), .int rg, .int st, .ref bV, .ref bW, .ref bR, .ref bP9, .ref bK, .ref bT, .ref bC])), (bV, .inl (cA, 12, .inl fV)), (bW, .inl (cA, 12, .inl fW)), (bR, .inl (cA, 12, .inl fR)), (bP9, .inl (cA, 12, .inl fP)), (bK, .inl (cA, 12, .inl ((rnds fW fR fP n st fK (dN (nI rd))).1))), (bC, .inl (cA, 41, .inl gC))] H := hP
          have hD : va_D A [(m0, .inr (2, [.int 0, .int (nI n), .int rg, .int st, .ref bV, .ref bW, .ref bR, .ref bP9, .ref bK, .ref bT, .ref bC])), (bV, .inl (cA, 12, .inl fV)), (bW, .inl (cA, 12, .inl fW)), (bR, .inl (cA, 12, .inl fR)), (bP9, .inl (cA, 12, .inl fP)), (bK, .inl (cA, 12, .inl ((rnds fW fR fP n st fK (dN (nI rd))).1))), (bC, .inl (cA, 41, .inl gC))] := hD
          refine lv_aload_n hx hb dX2_passRounds_43 rfl (lv_at hl 2 rfl) ?_
          refine lv_dup hx hb dX2_passRounds_44 rfl ?_
          refine va_get (D := D) (ci := 2) (v := .int rg) (C := RX2) (T := TX2) (N := 11) hx hb hts uX2_X2_passRounds hown hK hP 0 rfl rfl 2 (by decide) (hts (.fieldLink RX2 110 "RopeChoicesModel" "rounds" "I") (List.mem_of_getElem? (i := 2) rfl)) (fun _ h9 => h9) rfl dX2_passRounds_45 ?_
          refine lv_iload_n hx hb dX2_passRounds_48 rfl (lv_at hl 3 rfl) ?_
          refine lv_iadd hx hb dX2_passRounds_49 ?_
          refine va_put (D := D) (ci := 2) (v := .int (rg + (nI rd))) (ty := .int) (C := RX2) (T := TX2) (N := 11) hx hb hts uX2_X2_passRounds tyX2 tyX2_ok nmX2 hown hK hP hD hS 0 rfl rfl 2 (by decide) (hts (.fieldLink RX2 110 "RopeChoicesModel" "rounds" "I") (List.mem_of_getElem? (i := 2) rfl)) (fun _ h9 => h9) rfl (by decide +kernel) rfl rfl (Nat.le_of_ble_eq_true rfl) dX2_passRounds_50 (fun H locs hP hD hS => ?_)
          have hP : va_P D vwCl [(m0, .inr (2, [.int 0, .int (nI n), .int (rg + (nI rd)), .int st, .ref bV, .ref bW, .ref bR, .ref bP9, .ref bK, .ref bT, .ref bC])), (bV, .inl (cA, 12, .inl fV)), (bW, .inl (cA, 12, .inl fW)), (bR, .inl (cA, 12, .inl fR)), (bP9, .inl (cA, 12, .inl fP)), (bK, .inl (cA, 12, .inl ((rnds fW fR fP n st fK (dN (nI rd))).1))), (bC, .inl (cA, 41, .inl gC))] H := hP
          have hD : va_D A [(m0, .inr (2, [.int 0, .int (nI n), .int (rg + (nI rd)), .int st, .ref bV, .ref bW, .ref bR, .ref bP9, .ref bK, .ref bT, .ref bC])), (bV, .inl (cA, 12, .inl fV)), (bW, .inl (cA, 12, .inl fW)), (bR, .inl (cA, 12, .inl fR)), (bP9, .inl (cA, 12, .inl fP)), (bK, .inl (cA, 12, .inl ((rnds fW fR fP n st fK (dN (nI rd))).1))), (bC, .inl (cA, 41, .inl gC))] := hD
          refine lv_iload_n hx hb dX2_passRounds_53 rfl (lv_at hl 1 rfl) ?_
          refine useQ hQ ?_
          exact e_i (v := v) F hr hlocks hK hP hD hS [0, 1, 2, 3, 4, 5, 6] [0] gC (by rw [hbn]; exact congrArg Prod.snd hT) rfl rfl rfl (Nat.le_of_ble_eq_true rfl) (Nat.le_of_ble_eq_true rfl) dX2_passRounds_54
        · skip
          have g_27 : i < rd := nf_ge_f (by omega) (by omega) c_27
          refine lv_iload_n hx hb dX2_passRounds_30 rfl (lv_at hl 1 rfl) ?_
          refine lv_aload_n hx hb dX2_passRounds_31 rfl (lv_at hl 2 rfl) ?_
          have hX_6 : Cut D A [(m0, .inr (2, [.int 0, .int (nI n), .int rg, .int st, .ref bV, .ref bW, .ref bR, .ref bP9, .ref bK, .ref bT, .ref bC])), (bV, .inl (cA, 12, .inl fV)), (bW, .inl (cA, 12, .inl fW)), (bR, .inl (cA, 12, .inl fR)), (bP9, .inl (cA, 12, .inl fP)), (bK, .inl (cA, 12, .inl g)), (bC, .inl (cA, 41, .inl gC))] [(m0, .inr (2, [.int 0, .int (nI n), .int rg, .int st, .ref bV, .ref bW, .ref bR, .ref bP9, .ref bK, .ref bT, .ref bC])), (bV, .inl (cA, 12, .inl fV)), (bW, .inl (cA, 12, .inl fW)), (bR, .inl (cA, 12, .inl fR)), (bP9, .inl (cA, 12, .inl fP)), (bK, .inl (cA, 12, .inl g)), (bC, .inl (cA, 41, .inl gC))] [] [(cA, .int)] [(cA, .int)] [0, 1, 2, 3, 4, 5, 6] [] [0] := ⟨rfl, rfl, rfl, rfl, by decide, rfl⟩
          refine ki hX_6 hP hD hS hA (kRunV (q := (RX2, TX2, 11)) (As := []) (rest := [.int v]) F (c_X2_roundOn l D cA m0 0 n rg st bV bW bR bP9 bK bT bC fV fW fR fP g gC hn hG H.size) (cwV 0 hts gX2_passRounds_X2_roundOn rfl rfl rfl (by decide +kernel) ⟨Nat.le_of_ble_eq_true rfl, Nat.le_of_ble_eq_true rfl⟩) hK hP hD hX_6 0 rfl rfl rfl hl.1 rfl (Nat.le_of_ble_eq_true rfl) dX2_passRounds_32 ⟨Nat.le_of_ble_eq_true rfl, Nat.le_of_ble_eq_true rfl⟩) (fun r_7 u_8 H locs hw_9 hP hD hS => ?_)
          have hw_9 : r_7 = rndM fW fR fP n st g := hw_9
          rw [hw_9]
          have hP : va_P D vwCl [(m0, .inr (2, [.int 0, .int (nI n), .int rg, .int st, .ref bV, .ref bW, .ref bR, .ref bP9, .ref bK, .ref bT, .ref bC])), (bV, .inl (cA, 12, .inl fV)), (bW, .inl (cA, 12, .inl fW)), (bR, .inl (cA, 12, .inl fR)), (bP9, .inl (cA, 12, .inl fP)), (bK, .inl (cA, 12, .inl (rndF fW fR fP n st g))), (bC, .inl (cA, 41, .inl u_8))] H := hP
          have hD : va_D A [(m0, .inr (2, [.int 0, .int (nI n), .int rg, .int st, .ref bV, .ref bW, .ref bR, .ref bP9, .ref bK, .ref bT, .ref bC])), (bV, .inl (cA, 12, .inl fV)), (bW, .inl (cA, 12, .inl fW)), (bR, .inl (cA, 12, .inl fR)), (bP9, .inl (cA, 12, .inl fP)), (bK, .inl (cA, 12, .inl (rndF fW fR fP n st g))), (bC, .inl (cA, 41, .inl u_8))] := hD
          refine lv_iadd hx hb dX2_passRounds_35 ?_
          refine lv_istore_n (lv' := [(2, .int (v + (rndM fW fR fP n st g))), (3, .int (nI i)), (0, .ref m0), (1, .int (nI rd))]) hx hb dX2_passRounds_36 rfl hl (by decide) rfl (fun ls hl => ?_)
          refine lv_iinc (v := nI (i + 1)) (lv' := [(3, .int (nI (i + 1))), (2, .int (v + (rndM fW fR fP n st g))), (0, .ref m0), (1, .int (nI rd))]) hx hb dX2_passRounds_37 hl (k := 1) rfl (nI_1 _) (by decide) rfl (fun ls hl => ?_)
          refine lv_goto (tgt := 25) hx hb dX2_passRounds_40 (by decide) ?_
          exact ih25 (i + 1) (v + (rndM fW fR fP n st g)) (rndF fW fR fP n st g) u_8 (by omega) (by omega) (by rw [rnds_s, ← hT]) _ _ (hP.sub [0, 1, 2, 3, 4, 5, 6] rfl) (hD.sub [0, 1, 2, 3, 4, 5, 6] (by decide) rfl) hS ls (lv_sub hl [0, 1, 2, 3] rfl)
    exact loop25 (rd + 1) 0 0 fK fC (by omega) (Nat.zero_le _) rfl _ _ (hP.sub [0, 1, 2, 3, 4, 5, 6] rfl) (hD.sub [0, 1, 2, 3, 4, 5, 6] (by decide) rfl) hS ls (lv_sub hl [0, 1, 2, 3] rfl)
  · skip
    exact absurd ((isIn_B (lo := 1) (hi := 50) (by omega) (by omega)).mpr hcd) (bP_eq c_12)
set_option maxHeartbeats 4000000 in
set_option maxRecDepth 100000 in
theorem c_X2_passRounds_no (l : Launch) (D : va_G) (cA : ClassId) (m0 : Nat) (th : Int32) (n : Nat) (rg : Int32) (st : Int32) (bV : Nat) (bW : Nat) (bR : Nat) (bP9 : Nat) (bK : Nat) (bT : Nat) (bC : Nat) (x : Int32) (hcd : ¬ okB 1 50 x) (sz : Nat) : Met l yX2_passRounds wsX2_passRounds ({ frames := 3, cells := 0, slots := 0, locals := 77 } : Room) (va_Pc [.ref m0, .int x] (Wd D [(cA, .int)] [(m0, .inr (2, [.int th, .int (nI n), .int rg, .int st, .ref bV, .ref bW, .ref bR, .ref bP9, .ref bK, .ref bT, .ref bC]))] sz)) (va_Qi (fun (r : Int32) (_ : Unit) => True) (fun (_ : Unit) t => We D [(cA, .int)] [(m0, .inr (2, [.int 1, .int (nI n), .int rg, .int st, .ref bV, .ref bW, .ref bR, .ref bP9, .ref bK, .ref bT, .ref bC]))] (va_A [(m0, .inr (2, [.int th, .int (nI n), .int rg, .int st, .ref bV, .ref bW, .ref bR, .ref bP9, .ref bK, .ref bT, .ref bC]))] sz) t) (va_A [(m0, .inr (2, [.int th, .int (nI n), .int rg, .int st, .ref bV, .ref bW, .ref bR, .ref bP9, .ref bK, .ref bT, .ref bC]))] sz)) 0 0 (va_A [(m0, .inr (2, [.int th, .int (nI n), .int rg, .int st, .ref bV, .ref bW, .ref bR, .ref bP9, .ref bK, .ref bT, .ref bC]))] sz) := by
  refine mk_met [.ref m0, .int x] (fun A => va_Qi (fun (r : Int32) (_ : Unit) => True) (fun (_ : Unit) t => We D [(cA, .int)] [(m0, .inr (2, [.int 1, .int (nI n), .int rg, .int st, .ref bV, .ref bW, .ref bR, .ref bP9, .ref bK, .ref bT, .ref bC]))] A t) A) (by decide) rfl (Nat.le_of_ble_eq_true rfl) ?_
  intro p e s m args below meth c A ls F hr hlocks hname hP hK hD hA hl
  have hx := F.1
  have hb := F.2.1
  have hml := F.2.2.1
  have hown := F.2.2.2.1
  have hts := F.2.2.2.2
  have hS : va_S A s.heap s.heap [] := va_S.rf
  have hl : lv_has ls 4 [(0, .ref m0), (1, .int x)] := hl
  refine absQ (fun Q hQ => ?_)
  refine lv_aload_n hx hb dX2_passRounds_0 rfl (lv_at hl 0 rfl) ?_
  refine lv_iconst (v := 0) hx hb dX2_passRounds_1 (by decide) ?_
  refine va_put (D := D) (ci := 2) (v := .int 0) (ty := .int) (C := RX2) (T := TX2) (N := 11) hx hb hts uX2_X2_passRounds tyX2 tyX2_ok nmX2 hown hK hP hD hS 0 rfl rfl 0 (by decide) (hts (.fieldLink RX2 35 "RopeChoicesModel" "thrown" "I") (List.mem_of_getElem? (i := 1) rfl)) (fun _ h9 => h9) rfl (by decide +kernel) rfl rfl (Nat.le_of_ble_eq_true rfl) dX2_passRounds_2 (fun H locs hP hD hS => ?_)
  have hP : va_P D vwCl [(m0, .inr (2, [.int 0, .int (nI n), .int rg, .int st, .ref bV, .ref bW, .ref bR, .ref bP9, .ref bK, .ref bT, .ref bC]))] H := hP
  have hD : va_D A [(m0, .inr (2, [.int 0, .int (nI n), .int rg, .int st, .ref bV, .ref bW, .ref bR, .ref bP9, .ref bK, .ref bT, .ref bC]))] := hD
  refine lv_iload_n hx hb dX2_passRounds_5 rfl (lv_at hl 1 rfl) ?_
  refine lv_iconst (v := 1) hx hb dX2_passRounds_6 (by decide) ?_
  refine lv_bipush (v := 50) hx hb dX2_passRounds_7 (by decide) ?_
  have hX_1 : Cut D A [(m0, .inr (2, [.int 0, .int (nI n), .int rg, .int st, .ref bV, .ref bW, .ref bR, .ref bP9, .ref bK, .ref bT, .ref bC]))] [] [(m0, .inr (2, [.int 0, .int (nI n), .int rg, .int st, .ref bV, .ref bW, .ref bR, .ref bP9, .ref bK, .ref bT, .ref bC]))] [(cA, .int)] [] [] [0] [] := ⟨rfl, rfl, rfl, rfl, by decide, rfl⟩
  refine ki hX_1 hP hD hS hA (kRunS (As := [.int x, .int 1, .int 50]) (rest := []) F (c_X2_isIn l D x 1 50 H.size) (va_cwS 3 hts gX2_passRounds_X2_isIn rfl rfl rfl (by decide +kernel) ⟨Nat.le_of_ble_eq_true rfl, Nat.le_of_ble_eq_true rfl⟩) hK hP hD hX_1 rfl hl.1 rfl (Nat.le_of_ble_eq_true rfl) dX2_passRounds_9 ⟨Nat.le_of_ble_eq_true rfl, Nat.le_of_ble_eq_true rfl⟩) (fun r_2 u_3 H locs hw_4 hP hD hS => ?_)
  have hw_4 : r_2 = bP (1 ≤ x ∧ x ≤ 50) := hw_4
  rw [hw_4]
  have hP : va_P D vwCl [(m0, .inr (2, [.int 0, .int (nI n), .int rg, .int st, .ref bV, .ref bW, .ref bR, .ref bP9, .ref bK, .ref bT, .ref bC]))] H := hP
  have hD : va_D A [(m0, .inr (2, [.int 0, .int (nI n), .int rg, .int st, .ref bV, .ref bW, .ref bR, .ref bP9, .ref bK, .ref bT, .ref bC]))] := hD
  refine lv_if_ne (tgt := 21) hx hb dX2_passRounds_12 (by decide) (fun c_12 => ?_) (fun c_12 => ?_)
  · skip
    exact absurd ((isIn_B (lo := 1) (hi := 50) (by omega) (by omega)).mp (bP_ne c_12)) hcd
  · skip
    refine lv_aload_n hx hb dX2_passRounds_15 rfl (lv_at hl 0 rfl) ?_
    refine lv_iconst (v := 1) hx hb dX2_passRounds_16 (by decide) ?_
    have hX_5 : Cut D A [(m0, .inr (2, [.int 0, .int (nI n), .int rg, .int st, .ref bV, .ref bW, .ref bR, .ref bP9, .ref bK, .ref bT, .ref bC]))] [(m0, .inr (2, [.int 0, .int (nI n), .int rg, .int st, .ref bV, .ref bW, .ref bR, .ref bP9, .ref bK, .ref bT, .ref bC]))] [] [(cA, .int)] [(cA, .int)] [0] [] [0] := ⟨rfl, rfl, rfl, rfl, by decide, rfl⟩
    refine ki hX_5 hP hD hS hA (kRunV (q := (RX2, TX2, 11)) (As := [.int 1]) (rest := []) F (c_X2_fail l D cA m0 0 n rg st bV bW bR bP9 bK bT bC 1 H.size) (cwV 1 hts gX2_passRounds_X2_fail rfl rfl rfl (by decide +kernel) ⟨Nat.le_of_ble_eq_true rfl, Nat.le_of_ble_eq_true rfl⟩) hK hP hD hX_5 0 rfl rfl rfl hl.1 rfl (Nat.le_of_ble_eq_true rfl) dX2_passRounds_17 ⟨Nat.le_of_ble_eq_true rfl, Nat.le_of_ble_eq_true rfl⟩) (fun r_6 u_7 H locs hw_8 hP hD hS => ?_)
    have hw_8 : r_6 = 0 := hw_8
    rw [hw_8]
    have hP : va_P D vwCl [(m0, .inr (2, [.int 1, .int (nI n), .int rg, .int st, .ref bV, .ref bW, .ref bR, .ref bP9, .ref bK, .ref bT, .ref bC]))] H := hP
    have hD : va_D A [(m0, .inr (2, [.int 1, .int (nI n), .int rg, .int st, .ref bV, .ref bW, .ref bR, .ref bP9, .ref bK, .ref bT, .ref bC]))] := hD
    refine useQ hQ ?_
    exact e_i (v := 0) F hr hlocks hK hP hD hS [0] [0] () trivial rfl rfl rfl (Nat.le_of_ble_eq_true rfl) (Nat.le_of_ble_eq_true rfl) dX2_passRounds_20
theorem uX2_X2_plankIn : ∀ w ∈ u_ws RX2 TX2 11, w ∈ wsX2_plankIn := (fun _ h => List.mem_cons_of_mem _ (List.mem_append_right _ h))
set_option maxHeartbeats 4000000 in
set_option maxRecDepth 100000 in
theorem c_X2_plankIn (l : Launch) (D : va_G) (cA : ClassId) (m0 : Nat) (th : Int32) (n : Nat) (rg : Int32) (st : Int32) (bV : Nat) (bW : Nat) (bR : Nat) (bP9 : Nat) (bK : Nat) (bT : Nat) (bC : Nat) (fV : Nat → Int32) (fW : Nat → Int32) (fR : Nat → Int32) (fP : Nat → Int32) (fK : Nat → Int32) (fC : Nat → Int32) (fT : Nat → Int32) (d : Int32) (x : Int32) (hn : n ≤ 12) (hI : Inv fW fR fP fK n) (sz : Nat) : Met l yX2_plankIn wsX2_plankIn ({ frames := 3, cells := 0, slots := 0, locals := 80 } : Room) (va_Pc [.ref m0, .int d, .int x] (Wd D [(cA, .int)] [(m0, .inr (2, [.int th, .int (nI n), .int rg, .int st, .ref bV, .ref bW, .ref bR, .ref bP9, .ref bK, .ref bT, .ref bC])), (bV, .inl (cA, 12, .inl fV)), (bW, .inl (cA, 12, .inl fW)), (bR, .inl (cA, 12, .inl fR)), (bP9, .inl (cA, 12, .inl fP)), (bK, .inl (cA, 12, .inl fK)), (bC, .inl (cA, 41, .inl fC)), (bT, .inl (cA, 12, .inl fT))] sz)) (va_Qi (fun (r : Int32) (u : (Int32 × (Nat → Int32)) × (Nat → Int32)) => u.1.1 = cd2 (¬ okD n d) (¬ okB 1 50 x) ∧ (cd2 (¬ okD n d) (¬ okB 1 50 x) = 0 → r = (rnds fW fR fP n st fK (dN x)).1 (dN d))) (fun (u : (Int32 × (Nat → Int32)) × (Nat → Int32)) t => We D [(cA, .int)] [(m0, .inr (2, [.int u.1.1, .int (nI n), .int rg, .int st, .ref bV, .ref bW, .ref bR, .ref bP9, .ref bK, .ref bT, .ref bC])), (bV, .inl (cA, 12, .inl fV)), (bW, .inl (cA, 12, .inl fW)), (bR, .inl (cA, 12, .inl fR)), (bP9, .inl (cA, 12, .inl fP)), (bK, .inl (cA, 12, .inl fK)), (bC, .inl (cA, 41, .inl u.1.2)), (bT, .inl (cA, 12, .inl u.2))] (va_A [(m0, .inr (2, [.int th, .int (nI n), .int rg, .int st, .ref bV, .ref bW, .ref bR, .ref bP9, .ref bK, .ref bT, .ref bC])), (bV, .inl (cA, 12, .inl fV)), (bW, .inl (cA, 12, .inl fW)), (bR, .inl (cA, 12, .inl fR)), (bP9, .inl (cA, 12, .inl fP)), (bK, .inl (cA, 12, .inl fK)), (bC, .inl (cA, 41, .inl fC)), (bT, .inl (cA, 12, .inl fT))] sz) t) (va_A [(m0, .inr (2, [.int th, .int (nI n), .int rg, .int st, .ref bV, .ref bW, .ref bR, .ref bP9, .ref bK, .ref bT, .ref bC])), (bV, .inl (cA, 12, .inl fV)), (bW, .inl (cA, 12, .inl fW)), (bR, .inl (cA, 12, .inl fR)), (bP9, .inl (cA, 12, .inl fP)), (bK, .inl (cA, 12, .inl fK)), (bC, .inl (cA, 41, .inl fC)), (bT, .inl (cA, 12, .inl fT))] sz)) 0 0 (va_A [(m0, .inr (2, [.int th, .int (nI n), .int rg, .int st, .ref bV, .ref bW, .ref bR, .ref bP9, .ref bK, .ref bT, .ref bC])), (bV, .inl (cA, 12, .inl fV)), (bW, .inl (cA, 12, .inl fW)), (bR, .inl (cA, 12, .inl fR)), (bP9, .inl (cA, 12, .inl fP)), (bK, .inl (cA, 12, .inl fK)), (bC, .inl (cA, 41, .inl fC)), (bT, .inl (cA, 12, .inl fT))] sz) := by
  refine mk_met [.ref m0, .int d, .int x] (fun A => va_Qi (fun (r : Int32) (u : (Int32 × (Nat → Int32)) × (Nat → Int32)) => u.1.1 = cd2 (¬ okD n d) (¬ okB 1 50 x) ∧ (cd2 (¬ okD n d) (¬ okB 1 50 x) = 0 → r = (rnds fW fR fP n st fK (dN x)).1 (dN d))) (fun (u : (Int32 × (Nat → Int32)) × (Nat → Int32)) t => We D [(cA, .int)] [(m0, .inr (2, [.int u.1.1, .int (nI n), .int rg, .int st, .ref bV, .ref bW, .ref bR, .ref bP9, .ref bK, .ref bT, .ref bC])), (bV, .inl (cA, 12, .inl fV)), (bW, .inl (cA, 12, .inl fW)), (bR, .inl (cA, 12, .inl fR)), (bP9, .inl (cA, 12, .inl fP)), (bK, .inl (cA, 12, .inl fK)), (bC, .inl (cA, 41, .inl u.1.2)), (bT, .inl (cA, 12, .inl u.2))] A t) A) (by decide) rfl (Nat.le_of_ble_eq_true rfl) ?_
  intro p e s m args below meth c A ls F hr hlocks hname hP hK hD hA hl
  have hx := F.1
  have hb := F.2.1
  have hml := F.2.2.1
  have hown := F.2.2.2.1
  have hts := F.2.2.2.2
  have hS : va_S A s.heap s.heap [] := va_S.rf
  have hl : lv_has ls 4 [(0, .ref m0), (1, .int d), (2, .int x)] := hl
  refine absQ (fun Q hQ => ?_)
  refine lv_aload_n hx hb dX2_plankIn_0 rfl (lv_at hl 0 rfl) ?_
  refine lv_iconst (v := 0) hx hb dX2_plankIn_1 (by decide) ?_
  refine va_put (D := D) (ci := 2) (v := .int 0) (ty := .int) (C := RX2) (T := TX2) (N := 11) hx hb hts uX2_X2_plankIn tyX2 tyX2_ok nmX2 hown hK hP hD hS 0 rfl rfl 0 (by decide) (hts (.fieldLink RX2 35 "RopeChoicesModel" "thrown" "I") (List.mem_of_getElem? (i := 1) rfl)) (fun _ h9 => h9) rfl (by decide +kernel) rfl rfl (Nat.le_of_ble_eq_true rfl) dX2_plankIn_2 (fun H locs hP hD hS => ?_)
  have hP : va_P D vwCl [(m0, .inr (2, [.int 0, .int (nI n), .int rg, .int st, .ref bV, .ref bW, .ref bR, .ref bP9, .ref bK, .ref bT, .ref bC])), (bV, .inl (cA, 12, .inl fV)), (bW, .inl (cA, 12, .inl fW)), (bR, .inl (cA, 12, .inl fR)), (bP9, .inl (cA, 12, .inl fP)), (bK, .inl (cA, 12, .inl fK)), (bC, .inl (cA, 41, .inl fC)), (bT, .inl (cA, 12, .inl fT))] H := hP
  have hD : va_D A [(m0, .inr (2, [.int 0, .int (nI n), .int rg, .int st, .ref bV, .ref bW, .ref bR, .ref bP9, .ref bK, .ref bT, .ref bC])), (bV, .inl (cA, 12, .inl fV)), (bW, .inl (cA, 12, .inl fW)), (bR, .inl (cA, 12, .inl fR)), (bP9, .inl (cA, 12, .inl fP)), (bK, .inl (cA, 12, .inl fK)), (bC, .inl (cA, 41, .inl fC)), (bT, .inl (cA, 12, .inl fT))] := hD
  refine lv_aload_n hx hb dX2_plankIn_5 rfl (lv_at hl 0 rfl) ?_
  refine lv_iload_n hx hb dX2_plankIn_6 rfl (lv_at hl 1 rfl) ?_
  have hX_1 : Cut D A [(m0, .inr (2, [.int 0, .int (nI n), .int rg, .int st, .ref bV, .ref bW, .ref bR, .ref bP9, .ref bK, .ref bT, .ref bC])), (bV, .inl (cA, 12, .inl fV)), (bW, .inl (cA, 12, .inl fW)), (bR, .inl (cA, 12, .inl fR)), (bP9, .inl (cA, 12, .inl fP)), (bK, .inl (cA, 12, .inl fK)), (bC, .inl (cA, 41, .inl fC)), (bT, .inl (cA, 12, .inl fT))] [(m0, .inr (2, [.int 0, .int (nI n), .int rg, .int st, .ref bV, .ref bW, .ref bR, .ref bP9, .ref bK, .ref bT, .ref bC]))] [(bV, .inl (cA, 12, .inl fV)), (bW, .inl (cA, 12, .inl fW)), (bR, .inl (cA, 12, .inl fR)), (bP9, .inl (cA, 12, .inl fP)), (bK, .inl (cA, 12, .inl fK)), (bC, .inl (cA, 41, .inl fC)), (bT, .inl (cA, 12, .inl fT))] [(cA, .int)] [(cA, .int)] [0] [1, 2, 3, 4, 5, 6, 7] [0] := ⟨rfl, rfl, rfl, rfl, by decide, rfl⟩
  refine ki hX_1 hP hD hS hA (kRunV (q := (RX2, TX2, 11)) (As := [.int d]) (rest := []) F (c_X2_isDelegate l D cA m0 0 n rg st bV bW bR bP9 bK bT bC d hn H.size) (cwV 1 hts gX2_plankIn_X2_isDelegate rfl rfl rfl (by decide +kernel) ⟨Nat.le_of_ble_eq_true rfl, Nat.le_of_ble_eq_true rfl⟩) hK hP hD hX_1 0 rfl rfl rfl hl.1 rfl (Nat.le_of_ble_eq_true rfl) dX2_plankIn_7 ⟨Nat.le_of_ble_eq_true rfl, Nat.le_of_ble_eq_true rfl⟩) (fun r_2 u_3 H locs hw_4 hP hD hS => ?_)
  have hw_4 : r_2 = bP (okD n d) := hw_4
  rw [hw_4]
  have hP : va_P D vwCl [(bV, .inl (cA, 12, .inl fV)), (bW, .inl (cA, 12, .inl fW)), (bR, .inl (cA, 12, .inl fR)), (bP9, .inl (cA, 12, .inl fP)), (bK, .inl (cA, 12, .inl fK)), (bC, .inl (cA, 41, .inl fC)), (bT, .inl (cA, 12, .inl fT)), (m0, .inr (2, [.int 0, .int (nI n), .int rg, .int st, .ref bV, .ref bW, .ref bR, .ref bP9, .ref bK, .ref bT, .ref bC]))] H := hP
  have hD : va_D A [(bV, .inl (cA, 12, .inl fV)), (bW, .inl (cA, 12, .inl fW)), (bR, .inl (cA, 12, .inl fR)), (bP9, .inl (cA, 12, .inl fP)), (bK, .inl (cA, 12, .inl fK)), (bC, .inl (cA, 41, .inl fC)), (bT, .inl (cA, 12, .inl fT)), (m0, .inr (2, [.int 0, .int (nI n), .int rg, .int st, .ref bV, .ref bW, .ref bR, .ref bP9, .ref bK, .ref bT, .ref bC]))] := hD
  refine lv_if_ne (tgt := 19) hx hb dX2_plankIn_10 (by decide) (fun c_10 => ?_) (fun c_10 => ?_)
  · skip
    obtain ⟨j, hj, hd9⟩ := (bP_ne c_10)
    subst hd9
    have hD9 : okD n (nI j) := ⟨j, hj, rfl⟩
    have hdn : dN (nI j) = j := dN_nI (by omega)
    refine lv_iload_n hx hb dX2_plankIn_19 rfl (lv_at hl 2 rfl) ?_
    refine lv_iconst (v := 1) hx hb dX2_plankIn_20 (by decide) ?_
    refine lv_bipush (v := 50) hx hb dX2_plankIn_21 (by decide) ?_
    have hX_5 : Cut D A [(bV, .inl (cA, 12, .inl fV)), (bW, .inl (cA, 12, .inl fW)), (bR, .inl (cA, 12, .inl fR)), (bP9, .inl (cA, 12, .inl fP)), (bK, .inl (cA, 12, .inl fK)), (bC, .inl (cA, 41, .inl fC)), (bT, .inl (cA, 12, .inl fT)), (m0, .inr (2, [.int 0, .int (nI n), .int rg, .int st, .ref bV, .ref bW, .ref bR, .ref bP9, .ref bK, .ref bT, .ref bC]))] [] [(bV, .inl (cA, 12, .inl fV)), (bW, .inl (cA, 12, .inl fW)), (bR, .inl (cA, 12, .inl fR)), (bP9, .inl (cA, 12, .inl fP)), (bK, .inl (cA, 12, .inl fK)), (bC, .inl (cA, 41, .inl fC)), (bT, .inl (cA, 12, .inl fT)), (m0, .inr (2, [.int 0, .int (nI n), .int rg, .int st, .ref bV, .ref bW, .ref bR, .ref bP9, .ref bK, .ref bT, .ref bC]))] [(cA, .int)] [] [] [0, 1, 2, 3, 4, 5, 6, 7] [] := ⟨rfl, rfl, rfl, rfl, by decide, rfl⟩
    refine ki hX_5 hP hD hS hA (kRunS (As := [.int x, .int 1, .int 50]) (rest := []) F (c_X2_isIn l D x 1 50 H.size) (va_cwS 3 hts gX2_plankIn_X2_isIn rfl rfl rfl (by decide +kernel) ⟨Nat.le_of_ble_eq_true rfl, Nat.le_of_ble_eq_true rfl⟩) hK hP hD hX_5 rfl hl.1 rfl (Nat.le_of_ble_eq_true rfl) dX2_plankIn_23 ⟨Nat.le_of_ble_eq_true rfl, Nat.le_of_ble_eq_true rfl⟩) (fun r_6 u_7 H locs hw_8 hP hD hS => ?_)
    have hw_8 : r_6 = bP (1 ≤ x ∧ x ≤ 50) := hw_8
    rw [hw_8]
    have hP : va_P D vwCl [(bV, .inl (cA, 12, .inl fV)), (bW, .inl (cA, 12, .inl fW)), (bR, .inl (cA, 12, .inl fR)), (bP9, .inl (cA, 12, .inl fP)), (bK, .inl (cA, 12, .inl fK)), (bC, .inl (cA, 41, .inl fC)), (bT, .inl (cA, 12, .inl fT)), (m0, .inr (2, [.int 0, .int (nI n), .int rg, .int st, .ref bV, .ref bW, .ref bR, .ref bP9, .ref bK, .ref bT, .ref bC]))] H := hP
    have hD : va_D A [(bV, .inl (cA, 12, .inl fV)), (bW, .inl (cA, 12, .inl fW)), (bR, .inl (cA, 12, .inl fR)), (bP9, .inl (cA, 12, .inl fP)), (bK, .inl (cA, 12, .inl fK)), (bC, .inl (cA, 41, .inl fC)), (bT, .inl (cA, 12, .inl fT)), (m0, .inr (2, [.int 0, .int (nI n), .int rg, .int st, .ref bV, .ref bW, .ref bR, .ref bP9, .ref bK, .ref bT, .ref bC]))] := hD
    refine lv_if_ne (tgt := 35) hx hb dX2_plankIn_26 (by decide) (fun c_26 => ?_) (fun c_26 => ?_)
    · skip
      have hB9 := ((isIn_B (lo := 1) (hi := 50) (by omega) (by omega)).mp (bP_ne c_26))
      obtain ⟨rd, hb1, hb2, hd8⟩ := ((isIn_B (lo := 1) (hi := 50) (by omega) (by omega)).mp (bP_ne c_26))
      subst hd8
      have hbn : dN (nI rd) = rd := dN_nI (by omega)
      refine lv_aload_n hx hb dX2_plankIn_35 rfl (lv_at hl 0 rfl) ?_
      have hX_9 : Cut D A [(bV, .inl (cA, 12, .inl fV)), (bW, .inl (cA, 12, .inl fW)), (bR, .inl (cA, 12, .inl fR)), (bP9, .inl (cA, 12, .inl fP)), (bK, .inl (cA, 12, .inl fK)), (bC, .inl (cA, 41, .inl fC)), (bT, .inl (cA, 12, .inl fT)), (m0, .inr (2, [.int 0, .int (nI n), .int rg, .int st, .ref bV, .ref bW, .ref bR, .ref bP9, .ref bK, .ref bT, .ref bC]))] [(m0, .inr (2, [.int 0, .int (nI n), .int rg, .int st, .ref bV, .ref bW, .ref bR, .ref bP9, .ref bK, .ref bT, .ref bC])), (bK, .inl (cA, 12, .inl fK)), (bT, .inl (cA, 12, .inl fT))] [(bV, .inl (cA, 12, .inl fV)), (bW, .inl (cA, 12, .inl fW)), (bR, .inl (cA, 12, .inl fR)), (bP9, .inl (cA, 12, .inl fP)), (bC, .inl (cA, 41, .inl fC))] [(cA, .int)] [(cA, .int)] [7, 4, 6] [0, 1, 2, 3, 5] [0] := ⟨rfl, rfl, rfl, rfl, by decide, rfl⟩
      refine kv hX_9 hP hD hS hA (kRunV (q := (RX2, TX2, 11)) (As := []) (rest := []) F (c_X2_keep l D cA m0 0 n rg st bV bW bR bP9 bK bT bC fK fT H.size) (cwV 0 hts gX2_plankIn_X2_keep rfl rfl rfl (by decide +kernel) ⟨Nat.le_of_ble_eq_true rfl, Nat.le_of_ble_eq_true rfl⟩) hK hP hD hX_9 7 rfl rfl rfl hl.1 rfl (Nat.le_of_ble_eq_true rfl) dX2_plankIn_36 ⟨Nat.le_of_ble_eq_true rfl, Nat.le_of_ble_eq_true rfl⟩) (fun u_11 H locs hw_12 hP hD hS => ?_)
      have hw_12 : True := hw_12
      have hP : va_P D vwCl [(bV, .inl (cA, 12, .inl fV)), (bW, .inl (cA, 12, .inl fW)), (bR, .inl (cA, 12, .inl fR)), (bP9, .inl (cA, 12, .inl fP)), (bC, .inl (cA, 41, .inl fC)), (m0, .inr (2, [.int 0, .int (nI n), .int rg, .int st, .ref bV, .ref bW, .ref bR, .ref bP9, .ref bK, .ref bT, .ref bC])), (bK, .inl (cA, 12, .inl fK)), (bT, .inl (cA, 12, .inl (copyF fK fT 12)))] H := hP
      have hD : va_D A [(bV, .inl (cA, 12, .inl fV)), (bW, .inl (cA, 12, .inl fW)), (bR, .inl (cA, 12, .inl fR)), (bP9, .inl (cA, 12, .inl fP)), (bC, .inl (cA, 41, .inl fC)), (m0, .inr (2, [.int 0, .int (nI n), .int rg, .int st, .ref bV, .ref bW, .ref bR, .ref bP9, .ref bK, .ref bT, .ref bC])), (bK, .inl (cA, 12, .inl fK)), (bT, .inl (cA, 12, .inl (copyF fK fT 12)))] := hD
      refine lv_iconst (v := 0) hx hb dX2_plankIn_39 (by decide) ?_
      refine lv_istore_n (lv' := [(3, .int 0), (0, .ref m0), (1, .int (nI j)), (2, .int (nI rd))]) hx hb dX2_plankIn_40 rfl hl (by decide) rfl (fun ls hl => ?_)
      have loop41 : ∀ (k : Nat) (i : Nat) (g : Nat → Int32) (gC : Nat → Int32), (rd < i + k) → (i ≤ rd) → (g = (rnds fW fR fP n st fK i).1) →  ∀ (H : Heap) (locs : List Loc), va_P D vwCl [(bV, .inl (cA, 12, .inl fV)), (bW, .inl (cA, 12, .inl fW)), (bR, .inl (cA, 12, .inl fR)), (bP9, .inl (cA, 12, .inl fP)), (bC, .inl (cA, 41, .inl gC)), (m0, .inr (2, [.int 0, .int (nI n), .int rg, .int st, .ref bV, .ref bW, .ref bR, .ref bP9, .ref bK, .ref bT, .ref bC])), (bK, .inl (cA, 12, .inl g)), (bT, .inl (cA, 12, .inl (copyF fK fT 12)))] H → va_D A [(bV, .inl (cA, 12, .inl fV)), (bW, .inl (cA, 12, .inl fW)), (bR, .inl (cA, 12, .inl fR)), (bP9, .inl (cA, 12, .inl fP)), (bC, .inl (cA, 41, .inl gC)), (m0, .inr (2, [.int 0, .int (nI n), .int rg, .int st, .ref bV, .ref bW, .ref bR, .ref bP9, .ref bK, .ref bT, .ref bC])), (bK, .inl (cA, 12, .inl g)), (bT, .inl (cA, 12, .inl (copyF fK fT 12)))] → va_S A s.heap H locs → ∀ ls : Array Slot, lv_has ls 4 [(3, .int (nI i)), (0, .ref m0), (1, .int (nI j)), (2, .int (nI rd))] → W p l e ({ frames := 3, cells := 0, slots := 0, locals := 80 } : Room) s m args below meth c H locs 0 0 Q (F0 m 41 ls []) := by
        intro k
        induction k with
        | zero =>
          intro i g gC hk hi hT
          exact absurd hk (by omega)
        | succ k ih41 =>
          intro i g gC hk hi hT H locs hP hD hS ls hl
          have hG : Inv fW fR fP g n := by
            have h9 := rnds_ok (st := st) hI i
            rw [hT]; exact h9
          refine lv_iload_n hx hb dX2_plankIn_41 rfl (lv_at hl 0 rfl) ?_
          refine lv_iload_n hx hb dX2_plankIn_42 rfl (lv_at hl 3 rfl) ?_
          refine lv_icmp_ge (tgt := 57) hx hb dX2_plankIn_43 (by decide) (fun c_43 => ?_) (fun c_43 => ?_)
          · skip
            have g_43 : rd ≤ i := nf_ge_t (by omega) (by omega) c_43
            rw [show i = rd by omega] at hT
            refine lv_aload_n hx hb dX2_plankIn_57 rfl (lv_at hl 1 rfl) ?_
            refine va_get (D := D) (ci := 2) (v := .ref bK) (C := RX2) (T := TX2) (N := 11) hx hb hts uX2_X2_plankIn hown hK hP 5 rfl rfl 8 (by decide) (hts (.fieldLink RX2 26 "RopeChoicesModel" "plank" "[I") (List.mem_of_getElem? (i := 2) rfl)) (fun _ h9 => h9) rfl dX2_plankIn_58 ?_
            refine lv_iload_n hx hb dX2_plankIn_61 rfl (lv_at hl 2 rfl) ?_
            refine a_ld (k := j) hx hb hK hP 6 0 rfl rfl (by omega) (Nat.le_of_ble_eq_true rfl) dX2_plankIn_62 ?_
            refine lv_istore_n (lv' := [(3, .int (g j)), (0, .ref m0), (1, .int (nI j)), (2, .int (nI rd))]) hx hb dX2_plankIn_63 rfl hl (by decide) rfl (fun ls hl => ?_)
            refine lv_aload_n hx hb dX2_plankIn_64 rfl (lv_at hl 1 rfl) ?_
            have hX_13 : Cut D A [(bV, .inl (cA, 12, .inl fV)), (bW, .inl (cA, 12, .inl fW)), (bR, .inl (cA, 12, .inl fR)), (bP9, .inl (cA, 12, .inl fP)), (bC, .inl (cA, 41, .inl gC)), (m0, .inr (2, [.int 0, .int (nI n), .int rg, .int st, .ref bV, .ref bW, .ref bR, .ref bP9, .ref bK, .ref bT, .ref bC])), (bK, .inl (cA, 12, .inl g)), (bT, .inl (cA, 12, .inl (copyF fK fT 12)))] [(m0, .inr (2, [.int 0, .int (nI n), .int rg, .int st, .ref bV, .ref bW, .ref bR, .ref bP9, .ref bK, .ref bT, .ref bC])), (bK, .inl (cA, 12, .inl g)), (bT, .inl (cA, 12, .inl (copyF fK fT 12)))] [(bV, .inl (cA, 12, .inl fV)), (bW, .inl (cA, 12, .inl fW)), (bR, .inl (cA, 12, .inl fR)), (bP9, .inl (cA, 12, .inl fP)), (bC, .inl (cA, 41, .inl gC))] [(cA, .int)] [(cA, .int)] [5, 6, 7] [0, 1, 2, 3, 4] [0] := ⟨rfl, rfl, rfl, rfl, by decide, rfl⟩
            refine kv hX_13 hP hD hS hA (kRunV (q := (RX2, TX2, 11)) (As := []) (rest := []) F (c_X2_bringBack l D cA m0 0 n rg st bV bW bR bP9 bK bT bC g (copyF fK fT 12) H.size) (cwV 0 hts gX2_plankIn_X2_bringBack rfl rfl rfl (by decide +kernel) ⟨Nat.le_of_ble_eq_true rfl, Nat.le_of_ble_eq_true rfl⟩) hK hP hD hX_13 5 rfl rfl rfl hl.1 rfl (Nat.le_of_ble_eq_true rfl) dX2_plankIn_65 ⟨Nat.le_of_ble_eq_true rfl, Nat.le_of_ble_eq_true rfl⟩) (fun u_15 H locs hw_16 hP hD hS => ?_)
            have hw_16 : True := hw_16
            have hP : va_P D vwCl [(bV, .inl (cA, 12, .inl fV)), (bW, .inl (cA, 12, .inl fW)), (bR, .inl (cA, 12, .inl fR)), (bP9, .inl (cA, 12, .inl fP)), (bC, .inl (cA, 41, .inl gC)), (m0, .inr (2, [.int 0, .int (nI n), .int rg, .int st, .ref bV, .ref bW, .ref bR, .ref bP9, .ref bK, .ref bT, .ref bC])), (bK, .inl (cA, 12, .inl (copyF (copyF fK fT 12) g 12))), (bT, .inl (cA, 12, .inl (copyF fK fT 12)))] H := hP
            have hD : va_D A [(bV, .inl (cA, 12, .inl fV)), (bW, .inl (cA, 12, .inl fW)), (bR, .inl (cA, 12, .inl fR)), (bP9, .inl (cA, 12, .inl fP)), (bC, .inl (cA, 41, .inl gC)), (m0, .inr (2, [.int 0, .int (nI n), .int rg, .int st, .ref bV, .ref bW, .ref bR, .ref bP9, .ref bK, .ref bT, .ref bC])), (bK, .inl (cA, 12, .inl (copyF (copyF fK fT 12) g 12))), (bT, .inl (cA, 12, .inl (copyF fK fT 12)))] := hD
            obtain ⟨hP, hD⟩ := w_cg (g := fK) hP hD 6 rfl (fun i9 h9 => by simp [copyF, h9])
            have hP : va_P D vwCl [(bV, .inl (cA, 12, .inl fV)), (bW, .inl (cA, 12, .inl fW)), (bR, .inl (cA, 12, .inl fR)), (bP9, .inl (cA, 12, .inl fP)), (bC, .inl (cA, 41, .inl gC)), (m0, .inr (2, [.int 0, .int (nI n), .int rg, .int st, .ref bV, .ref bW, .ref bR, .ref bP9, .ref bK, .ref bT, .ref bC])), (bK, .inl (cA, 12, .inl fK)), (bT, .inl (cA, 12, .inl (copyF fK fT 12)))] H := hP
            have hD : va_D A [(bV, .inl (cA, 12, .inl fV)), (bW, .inl (cA, 12, .inl fW)), (bR, .inl (cA, 12, .inl fR)), (bP9, .inl (cA, 12, .inl fP)), (bC, .inl (cA, 41, .inl gC)), (m0, .inr (2, [.int 0, .int (nI n), .int rg, .int st, .ref bV, .ref bW, .ref bR, .ref bP9, .ref bK, .ref bT, .ref bC])), (bK, .inl (cA, 12, .inl fK)), (bT, .inl (cA, 12, .inl (copyF fK fT 12)))] := hD
            refine lv_iload_n hx hb dX2_plankIn_68 rfl (lv_at hl 0 rfl) ?_
            refine useQ hQ ?_
            exact e_i (v := (g j)) F hr hlocks hK hP hD hS [5, 0, 1, 2, 3, 6, 4, 7] [0] ((0, gC), (copyF fK fT 12)) (⟨(cd2_0 (not_not_intro hD9) (not_not_intro hB9)).symm, fun _ => by rw [hdn, hbn, hT]⟩) rfl rfl rfl (Nat.le_of_ble_eq_true rfl) (Nat.le_of_ble_eq_true rfl) dX2_plankIn_69
          · skip
            have g_43 : i < rd := nf_ge_f (by omega) (by omega) c_43
            refine lv_aload_n hx hb dX2_plankIn_46 rfl (lv_at hl 1 rfl) ?_
            have hX_17 : Cut D A [(bV, .inl (cA, 12, .inl fV)), (bW, .inl (cA, 12, .inl fW)), (bR, .inl (cA, 12, .inl fR)), (bP9, .inl (cA, 12, .inl fP)), (bC, .inl (cA, 41, .inl gC)), (m0, .inr (2, [.int 0, .int (nI n), .int rg, .int st, .ref bV, .ref bW, .ref bR, .ref bP9, .ref bK, .ref bT, .ref bC])), (bK, .inl (cA, 12, .inl g)), (bT, .inl (cA, 12, .inl (copyF fK fT 12)))] [(m0, .inr (2, [.int 0, .int (nI n), .int rg, .int st, .ref bV, .ref bW, .ref bR, .ref bP9, .ref bK, .ref bT, .ref bC])), (bV, .inl (cA, 12, .inl fV)), (bW, .inl (cA, 12, .inl fW)), (bR, .inl (cA, 12, .inl fR)), (bP9, .inl (cA, 12, .inl fP)), (bK, .inl (cA, 12, .inl g)), (bC, .inl (cA, 41, .inl gC))] [(bT, .inl (cA, 12, .inl (copyF fK fT 12)))] [(cA, .int)] [(cA, .int)] [5, 0, 1, 2, 3, 6, 4] [7] [0] := ⟨rfl, rfl, rfl, rfl, by decide, rfl⟩
            refine ki hX_17 hP hD hS hA (kRunV (q := (RX2, TX2, 11)) (As := []) (rest := []) F (c_X2_roundOn l D cA m0 0 n rg st bV bW bR bP9 bK bT bC fV fW fR fP g gC hn hG H.size) (cwV 0 hts gX2_plankIn_X2_roundOn rfl rfl rfl (by decide +kernel) ⟨Nat.le_of_ble_eq_true rfl, Nat.le_of_ble_eq_true rfl⟩) hK hP hD hX_17 5 rfl rfl rfl hl.1 rfl (Nat.le_of_ble_eq_true rfl) dX2_plankIn_47 ⟨Nat.le_of_ble_eq_true rfl, Nat.le_of_ble_eq_true rfl⟩) (fun r_18 u_19 H locs hw_20 hP hD hS => ?_)
            have hw_20 : r_18 = rndM fW fR fP n st g := hw_20
            rw [hw_20]
            have hP : va_P D vwCl [(bT, .inl (cA, 12, .inl (copyF fK fT 12))), (m0, .inr (2, [.int 0, .int (nI n), .int rg, .int st, .ref bV, .ref bW, .ref bR, .ref bP9, .ref bK, .ref bT, .ref bC])), (bV, .inl (cA, 12, .inl fV)), (bW, .inl (cA, 12, .inl fW)), (bR, .inl (cA, 12, .inl fR)), (bP9, .inl (cA, 12, .inl fP)), (bK, .inl (cA, 12, .inl (rndF fW fR fP n st g))), (bC, .inl (cA, 41, .inl u_19))] H := hP
            have hD : va_D A [(bT, .inl (cA, 12, .inl (copyF fK fT 12))), (m0, .inr (2, [.int 0, .int (nI n), .int rg, .int st, .ref bV, .ref bW, .ref bR, .ref bP9, .ref bK, .ref bT, .ref bC])), (bV, .inl (cA, 12, .inl fV)), (bW, .inl (cA, 12, .inl fW)), (bR, .inl (cA, 12, .inl fR)), (bP9, .inl (cA, 12, .inl fP)), (bK, .inl (cA, 12, .inl (rndF fW fR fP n st g))), (bC, .inl (cA, 41, .inl u_19))] := hD
            refine lv_pop hx hb dX2_plankIn_50 rfl ?_
            refine lv_iinc (v := nI (i + 1)) (lv' := [(3, .int (nI (i + 1))), (0, .ref m0), (1, .int (nI j)), (2, .int (nI rd))]) hx hb dX2_plankIn_51 hl (k := 0) rfl (nI_1 _) (by decide) rfl (fun ls hl => ?_)
            refine lv_goto (tgt := 41) hx hb dX2_plankIn_54 (by decide) ?_
            exact ih41 (i + 1) (rndF fW fR fP n st g) u_19 (by omega) (by omega) (by rw [rnds_s, hT]) _ _ (hP.sub [2, 3, 4, 5, 7, 1, 6, 0] rfl) (hD.sub [2, 3, 4, 5, 7, 1, 6, 0] (by decide) rfl) hS ls (lv_sub hl [0, 1, 2, 3] rfl)
      exact loop41 (rd + 1) 0 fK fC (by omega) (Nat.zero_le _) rfl _ _ (hP.sub [0, 1, 2, 3, 4, 5, 6, 7] rfl) (hD.sub [0, 1, 2, 3, 4, 5, 6, 7] (by decide) rfl) hS ls (lv_sub hl [0, 1, 2, 3] rfl)
    · skip
      refine lv_aload_n hx hb dX2_plankIn_29 rfl (lv_at hl 0 rfl) ?_
      refine lv_iconst (v := 2) hx hb dX2_plankIn_30 (by decide) ?_
      have hX_21 : Cut D A [(bV, .inl (cA, 12, .inl fV)), (bW, .inl (cA, 12, .inl fW)), (bR, .inl (cA, 12, .inl fR)), (bP9, .inl (cA, 12, .inl fP)), (bK, .inl (cA, 12, .inl fK)), (bC, .inl (cA, 41, .inl fC)), (bT, .inl (cA, 12, .inl fT)), (m0, .inr (2, [.int 0, .int (nI n), .int rg, .int st, .ref bV, .ref bW, .ref bR, .ref bP9, .ref bK, .ref bT, .ref bC]))] [(m0, .inr (2, [.int 0, .int (nI n), .int rg, .int st, .ref bV, .ref bW, .ref bR, .ref bP9, .ref bK, .ref bT, .ref bC]))] [(bV, .inl (cA, 12, .inl fV)), (bW, .inl (cA, 12, .inl fW)), (bR, .inl (cA, 12, .inl fR)), (bP9, .inl (cA, 12, .inl fP)), (bK, .inl (cA, 12, .inl fK)), (bC, .inl (cA, 41, .inl fC)), (bT, .inl (cA, 12, .inl fT))] [(cA, .int)] [(cA, .int)] [7] [0, 1, 2, 3, 4, 5, 6] [0] := ⟨rfl, rfl, rfl, rfl, by decide, rfl⟩
      refine ki hX_21 hP hD hS hA (kRunV (q := (RX2, TX2, 11)) (As := [.int 2]) (rest := []) F (c_X2_fail l D cA m0 0 n rg st bV bW bR bP9 bK bT bC 2 H.size) (cwV 1 hts gX2_plankIn_X2_fail rfl rfl rfl (by decide +kernel) ⟨Nat.le_of_ble_eq_true rfl, Nat.le_of_ble_eq_true rfl⟩) hK hP hD hX_21 7 rfl rfl rfl hl.1 rfl (Nat.le_of_ble_eq_true rfl) dX2_plankIn_31 ⟨Nat.le_of_ble_eq_true rfl, Nat.le_of_ble_eq_true rfl⟩) (fun r_22 u_23 H locs hw_24 hP hD hS => ?_)
      have hw_24 : r_22 = 0 := hw_24
      rw [hw_24]
      have hP : va_P D vwCl [(bV, .inl (cA, 12, .inl fV)), (bW, .inl (cA, 12, .inl fW)), (bR, .inl (cA, 12, .inl fR)), (bP9, .inl (cA, 12, .inl fP)), (bK, .inl (cA, 12, .inl fK)), (bC, .inl (cA, 41, .inl fC)), (bT, .inl (cA, 12, .inl fT)), (m0, .inr (2, [.int 2, .int (nI n), .int rg, .int st, .ref bV, .ref bW, .ref bR, .ref bP9, .ref bK, .ref bT, .ref bC]))] H := hP
      have hD : va_D A [(bV, .inl (cA, 12, .inl fV)), (bW, .inl (cA, 12, .inl fW)), (bR, .inl (cA, 12, .inl fR)), (bP9, .inl (cA, 12, .inl fP)), (bK, .inl (cA, 12, .inl fK)), (bC, .inl (cA, 41, .inl fC)), (bT, .inl (cA, 12, .inl fT)), (m0, .inr (2, [.int 2, .int (nI n), .int rg, .int st, .ref bV, .ref bW, .ref bR, .ref bP9, .ref bK, .ref bT, .ref bC]))] := hD
      refine useQ hQ ?_
      exact e_i (v := 0) F hr hlocks hK hP hD hS [7, 0, 1, 2, 3, 4, 5, 6] [0] ((2, fC), fT) (⟨(cd2_2 (not_not_intro hD9) (fun z => bP_eq c_26 ((isIn_B (lo := 1) (hi := 50) (by omega) (by omega)).mpr z))).symm, fun z => cx2 (cd2_2 (not_not_intro hD9) (fun z => bP_eq c_26 ((isIn_B (lo := 1) (hi := 50) (by omega) (by omega)).mpr z))) z⟩) rfl rfl rfl (Nat.le_of_ble_eq_true rfl) (Nat.le_of_ble_eq_true rfl) dX2_plankIn_34
  · skip
    refine lv_aload_n hx hb dX2_plankIn_13 rfl (lv_at hl 0 rfl) ?_
    refine lv_iconst (v := 1) hx hb dX2_plankIn_14 (by decide) ?_
    have hX_25 : Cut D A [(bV, .inl (cA, 12, .inl fV)), (bW, .inl (cA, 12, .inl fW)), (bR, .inl (cA, 12, .inl fR)), (bP9, .inl (cA, 12, .inl fP)), (bK, .inl (cA, 12, .inl fK)), (bC, .inl (cA, 41, .inl fC)), (bT, .inl (cA, 12, .inl fT)), (m0, .inr (2, [.int 0, .int (nI n), .int rg, .int st, .ref bV, .ref bW, .ref bR, .ref bP9, .ref bK, .ref bT, .ref bC]))] [(m0, .inr (2, [.int 0, .int (nI n), .int rg, .int st, .ref bV, .ref bW, .ref bR, .ref bP9, .ref bK, .ref bT, .ref bC]))] [(bV, .inl (cA, 12, .inl fV)), (bW, .inl (cA, 12, .inl fW)), (bR, .inl (cA, 12, .inl fR)), (bP9, .inl (cA, 12, .inl fP)), (bK, .inl (cA, 12, .inl fK)), (bC, .inl (cA, 41, .inl fC)), (bT, .inl (cA, 12, .inl fT))] [(cA, .int)] [(cA, .int)] [7] [0, 1, 2, 3, 4, 5, 6] [0] := ⟨rfl, rfl, rfl, rfl, by decide, rfl⟩
    refine ki hX_25 hP hD hS hA (kRunV (q := (RX2, TX2, 11)) (As := [.int 1]) (rest := []) F (c_X2_fail l D cA m0 0 n rg st bV bW bR bP9 bK bT bC 1 H.size) (cwV 1 hts gX2_plankIn_X2_fail rfl rfl rfl (by decide +kernel) ⟨Nat.le_of_ble_eq_true rfl, Nat.le_of_ble_eq_true rfl⟩) hK hP hD hX_25 7 rfl rfl rfl hl.1 rfl (Nat.le_of_ble_eq_true rfl) dX2_plankIn_15 ⟨Nat.le_of_ble_eq_true rfl, Nat.le_of_ble_eq_true rfl⟩) (fun r_26 u_27 H locs hw_28 hP hD hS => ?_)
    have hw_28 : r_26 = 0 := hw_28
    rw [hw_28]
    have hP : va_P D vwCl [(bV, .inl (cA, 12, .inl fV)), (bW, .inl (cA, 12, .inl fW)), (bR, .inl (cA, 12, .inl fR)), (bP9, .inl (cA, 12, .inl fP)), (bK, .inl (cA, 12, .inl fK)), (bC, .inl (cA, 41, .inl fC)), (bT, .inl (cA, 12, .inl fT)), (m0, .inr (2, [.int 1, .int (nI n), .int rg, .int st, .ref bV, .ref bW, .ref bR, .ref bP9, .ref bK, .ref bT, .ref bC]))] H := hP
    have hD : va_D A [(bV, .inl (cA, 12, .inl fV)), (bW, .inl (cA, 12, .inl fW)), (bR, .inl (cA, 12, .inl fR)), (bP9, .inl (cA, 12, .inl fP)), (bK, .inl (cA, 12, .inl fK)), (bC, .inl (cA, 41, .inl fC)), (bT, .inl (cA, 12, .inl fT)), (m0, .inr (2, [.int 1, .int (nI n), .int rg, .int st, .ref bV, .ref bW, .ref bR, .ref bP9, .ref bK, .ref bT, .ref bC]))] := hD
    refine useQ hQ ?_
    exact e_i (v := 0) F hr hlocks hK hP hD hS [7, 0, 1, 2, 3, 4, 5, 6] [0] ((1, fC), fT) (⟨(cd2_1 (bP_eq c_10)).symm, fun z => cx1 (cd2_1 (bP_eq c_10)) z⟩) rfl rfl rfl (Nat.le_of_ble_eq_true rfl) (Nat.le_of_ble_eq_true rfl) dX2_plankIn_18
theorem uX2_X2_compromiseIn : ∀ w ∈ u_ws RX2 TX2 11, w ∈ wsX2_compromiseIn := (fun _ h => List.mem_cons_of_mem _ (List.mem_append_right _ h))
set_option maxHeartbeats 4000000 in
set_option maxRecDepth 100000 in
theorem c_X2_compromiseIn (l : Launch) (D : va_G) (cA : ClassId) (m0 : Nat) (th : Int32) (n : Nat) (rg : Int32) (st : Int32) (bV : Nat) (bW : Nat) (bR : Nat) (bP9 : Nat) (bK : Nat) (bT : Nat) (bC : Nat) (fV : Nat → Int32) (fW : Nat → Int32) (fR : Nat → Int32) (fP : Nat → Int32) (fK : Nat → Int32) (fC : Nat → Int32) (fT : Nat → Int32) (x : Int32) (hn : n ≤ 12) (hI : Inv fW fR fP fK n) (sz : Nat) : Met l yX2_compromiseIn wsX2_compromiseIn ({ frames := 3, cells := 0, slots := 0, locals := 80 } : Room) (va_Pc [.ref m0, .int x] (Wd D [(cA, .int)] [(m0, .inr (2, [.int th, .int (nI n), .int rg, .int st, .ref bV, .ref bW, .ref bR, .ref bP9, .ref bK, .ref bT, .ref bC])), (bV, .inl (cA, 12, .inl fV)), (bW, .inl (cA, 12, .inl fW)), (bR, .inl (cA, 12, .inl fR)), (bP9, .inl (cA, 12, .inl fP)), (bK, .inl (cA, 12, .inl fK)), (bC, .inl (cA, 41, .inl fC)), (bT, .inl (cA, 12, .inl fT))] sz)) (va_Qi (fun (r : Int32) (u : (Int32 × (Nat → Int32)) × (Nat → Int32)) => u.1.1 = cd2 (¬ okB 1 50 x) (n = 0) ∧ (cd2 (¬ okB 1 50 x) (n = 0) = 0 → r = midF (rnds fW fR fP n st fK (dN x)).1 n)) (fun (u : (Int32 × (Nat → Int32)) × (Nat → Int32)) t => We D [(cA, .int)] [(m0, .inr (2, [.int u.1.1, .int (nI n), .int rg, .int st, .ref bV, .ref bW, .ref bR, .ref bP9, .ref bK, .ref bT, .ref bC])), (bV, .inl (cA, 12, .inl fV)), (bW, .inl (cA, 12, .inl fW)), (bR, .inl (cA, 12, .inl fR)), (bP9, .inl (cA, 12, .inl fP)), (bK, .inl (cA, 12, .inl fK)), (bC, .inl (cA, 41, .inl u.1.2)), (bT, .inl (cA, 12, .inl u.2))] (va_A [(m0, .inr (2, [.int th, .int (nI n), .int rg, .int st, .ref bV, .ref bW, .ref bR, .ref bP9, .ref bK, .ref bT, .ref bC])), (bV, .inl (cA, 12, .inl fV)), (bW, .inl (cA, 12, .inl fW)), (bR, .inl (cA, 12, .inl fR)), (bP9, .inl (cA, 12, .inl fP)), (bK, .inl (cA, 12, .inl fK)), (bC, .inl (cA, 41, .inl fC)), (bT, .inl (cA, 12, .inl fT))] sz) t) (va_A [(m0, .inr (2, [.int th, .int (nI n), .int rg, .int st, .ref bV, .ref bW, .ref bR, .ref bP9, .ref bK, .ref bT, .ref bC])), (bV, .inl (cA, 12, .inl fV)), (bW, .inl (cA, 12, .inl fW)), (bR, .inl (cA, 12, .inl fR)), (bP9, .inl (cA, 12, .inl fP)), (bK, .inl (cA, 12, .inl fK)), (bC, .inl (cA, 41, .inl fC)), (bT, .inl (cA, 12, .inl fT))] sz)) 0 0 (va_A [(m0, .inr (2, [.int th, .int (nI n), .int rg, .int st, .ref bV, .ref bW, .ref bR, .ref bP9, .ref bK, .ref bT, .ref bC])), (bV, .inl (cA, 12, .inl fV)), (bW, .inl (cA, 12, .inl fW)), (bR, .inl (cA, 12, .inl fR)), (bP9, .inl (cA, 12, .inl fP)), (bK, .inl (cA, 12, .inl fK)), (bC, .inl (cA, 41, .inl fC)), (bT, .inl (cA, 12, .inl fT))] sz) := by
  refine mk_met [.ref m0, .int x] (fun A => va_Qi (fun (r : Int32) (u : (Int32 × (Nat → Int32)) × (Nat → Int32)) => u.1.1 = cd2 (¬ okB 1 50 x) (n = 0) ∧ (cd2 (¬ okB 1 50 x) (n = 0) = 0 → r = midF (rnds fW fR fP n st fK (dN x)).1 n)) (fun (u : (Int32 × (Nat → Int32)) × (Nat → Int32)) t => We D [(cA, .int)] [(m0, .inr (2, [.int u.1.1, .int (nI n), .int rg, .int st, .ref bV, .ref bW, .ref bR, .ref bP9, .ref bK, .ref bT, .ref bC])), (bV, .inl (cA, 12, .inl fV)), (bW, .inl (cA, 12, .inl fW)), (bR, .inl (cA, 12, .inl fR)), (bP9, .inl (cA, 12, .inl fP)), (bK, .inl (cA, 12, .inl fK)), (bC, .inl (cA, 41, .inl u.1.2)), (bT, .inl (cA, 12, .inl u.2))] A t) A) (by decide) rfl (Nat.le_of_ble_eq_true rfl) ?_
  intro p e s m args below meth c A ls F hr hlocks hname hP hK hD hA hl
  have hx := F.1
  have hb := F.2.1
  have hml := F.2.2.1
  have hown := F.2.2.2.1
  have hts := F.2.2.2.2
  have hS : va_S A s.heap s.heap [] := va_S.rf
  have hl : lv_has ls 3 [(0, .ref m0), (1, .int x)] := hl
  refine absQ (fun Q hQ => ?_)
  refine lv_aload_n hx hb dX2_compromiseIn_0 rfl (lv_at hl 0 rfl) ?_
  refine lv_iconst (v := 0) hx hb dX2_compromiseIn_1 (by decide) ?_
  refine va_put (D := D) (ci := 2) (v := .int 0) (ty := .int) (C := RX2) (T := TX2) (N := 11) hx hb hts uX2_X2_compromiseIn tyX2 tyX2_ok nmX2 hown hK hP hD hS 0 rfl rfl 0 (by decide) (hts (.fieldLink RX2 35 "RopeChoicesModel" "thrown" "I") (List.mem_of_getElem? (i := 1) rfl)) (fun _ h9 => h9) rfl (by decide +kernel) rfl rfl (Nat.le_of_ble_eq_true rfl) dX2_compromiseIn_2 (fun H locs hP hD hS => ?_)
  have hP : va_P D vwCl [(m0, .inr (2, [.int 0, .int (nI n), .int rg, .int st, .ref bV, .ref bW, .ref bR, .ref bP9, .ref bK, .ref bT, .ref bC])), (bV, .inl (cA, 12, .inl fV)), (bW, .inl (cA, 12, .inl fW)), (bR, .inl (cA, 12, .inl fR)), (bP9, .inl (cA, 12, .inl fP)), (bK, .inl (cA, 12, .inl fK)), (bC, .inl (cA, 41, .inl fC)), (bT, .inl (cA, 12, .inl fT))] H := hP
  have hD : va_D A [(m0, .inr (2, [.int 0, .int (nI n), .int rg, .int st, .ref bV, .ref bW, .ref bR, .ref bP9, .ref bK, .ref bT, .ref bC])), (bV, .inl (cA, 12, .inl fV)), (bW, .inl (cA, 12, .inl fW)), (bR, .inl (cA, 12, .inl fR)), (bP9, .inl (cA, 12, .inl fP)), (bK, .inl (cA, 12, .inl fK)), (bC, .inl (cA, 41, .inl fC)), (bT, .inl (cA, 12, .inl fT))] := hD
  refine lv_iload_n hx hb dX2_compromiseIn_5 rfl (lv_at hl 1 rfl) ?_
  refine lv_iconst (v := 1) hx hb dX2_compromiseIn_6 (by decide) ?_
  refine lv_bipush (v := 50) hx hb dX2_compromiseIn_7 (by decide) ?_
  have hX_1 : Cut D A [(m0, .inr (2, [.int 0, .int (nI n), .int rg, .int st, .ref bV, .ref bW, .ref bR, .ref bP9, .ref bK, .ref bT, .ref bC])), (bV, .inl (cA, 12, .inl fV)), (bW, .inl (cA, 12, .inl fW)), (bR, .inl (cA, 12, .inl fR)), (bP9, .inl (cA, 12, .inl fP)), (bK, .inl (cA, 12, .inl fK)), (bC, .inl (cA, 41, .inl fC)), (bT, .inl (cA, 12, .inl fT))] [] [(m0, .inr (2, [.int 0, .int (nI n), .int rg, .int st, .ref bV, .ref bW, .ref bR, .ref bP9, .ref bK, .ref bT, .ref bC])), (bV, .inl (cA, 12, .inl fV)), (bW, .inl (cA, 12, .inl fW)), (bR, .inl (cA, 12, .inl fR)), (bP9, .inl (cA, 12, .inl fP)), (bK, .inl (cA, 12, .inl fK)), (bC, .inl (cA, 41, .inl fC)), (bT, .inl (cA, 12, .inl fT))] [(cA, .int)] [] [] [0, 1, 2, 3, 4, 5, 6, 7] [] := ⟨rfl, rfl, rfl, rfl, by decide, rfl⟩
  refine ki hX_1 hP hD hS hA (kRunS (As := [.int x, .int 1, .int 50]) (rest := []) F (c_X2_isIn l D x 1 50 H.size) (va_cwS 3 hts gX2_compromiseIn_X2_isIn rfl rfl rfl (by decide +kernel) ⟨Nat.le_of_ble_eq_true rfl, Nat.le_of_ble_eq_true rfl⟩) hK hP hD hX_1 rfl hl.1 rfl (Nat.le_of_ble_eq_true rfl) dX2_compromiseIn_9 ⟨Nat.le_of_ble_eq_true rfl, Nat.le_of_ble_eq_true rfl⟩) (fun r_2 u_3 H locs hw_4 hP hD hS => ?_)
  have hw_4 : r_2 = bP (1 ≤ x ∧ x ≤ 50) := hw_4
  rw [hw_4]
  have hP : va_P D vwCl [(m0, .inr (2, [.int 0, .int (nI n), .int rg, .int st, .ref bV, .ref bW, .ref bR, .ref bP9, .ref bK, .ref bT, .ref bC])), (bV, .inl (cA, 12, .inl fV)), (bW, .inl (cA, 12, .inl fW)), (bR, .inl (cA, 12, .inl fR)), (bP9, .inl (cA, 12, .inl fP)), (bK, .inl (cA, 12, .inl fK)), (bC, .inl (cA, 41, .inl fC)), (bT, .inl (cA, 12, .inl fT))] H := hP
  have hD : va_D A [(m0, .inr (2, [.int 0, .int (nI n), .int rg, .int st, .ref bV, .ref bW, .ref bR, .ref bP9, .ref bK, .ref bT, .ref bC])), (bV, .inl (cA, 12, .inl fV)), (bW, .inl (cA, 12, .inl fW)), (bR, .inl (cA, 12, .inl fR)), (bP9, .inl (cA, 12, .inl fP)), (bK, .inl (cA, 12, .inl fK)), (bC, .inl (cA, 41, .inl fC)), (bT, .inl (cA, 12, .inl fT))] := hD
  refine lv_if_ne (tgt := 21) hx hb dX2_compromiseIn_12 (by decide) (fun c_12 => ?_) (fun c_12 => ?_)
  · skip
    have hB9 := ((isIn_B (lo := 1) (hi := 50) (by omega) (by omega)).mp (bP_ne c_12))
    obtain ⟨rd, hb1, hb2, hd8⟩ := ((isIn_B (lo := 1) (hi := 50) (by omega) (by omega)).mp (bP_ne c_12))
    subst hd8
    have hbn : dN (nI rd) = rd := dN_nI (by omega)
    refine lv_aload_n hx hb dX2_compromiseIn_21 rfl (lv_at hl 0 rfl) ?_
    refine va_get (D := D) (ci := 2) (v := .int (nI n)) (C := RX2) (T := TX2) (N := 11) hx hb hts uX2_X2_compromiseIn hown hK hP 0 rfl rfl 1 (by decide) (hts (.fieldLink RX2 38 "RopeChoicesModel" "many" "I") (List.mem_of_getElem? (i := 2) rfl)) (fun _ h9 => h9) rfl dX2_compromiseIn_22 ?_
    refine lv_if_ne (tgt := 34) hx hb dX2_compromiseIn_25 (by decide) (fun c_25 => ?_) (fun c_25 => ?_)
    · skip
      have g_25 : n ≠ 0 := nf_ne_t (by omega) (by omega) c_25
      refine lv_aload_n hx hb dX2_compromiseIn_34 rfl (lv_at hl 0 rfl) ?_
      have hX_5 : Cut D A [(m0, .inr (2, [.int 0, .int (nI n), .int rg, .int st, .ref bV, .ref bW, .ref bR, .ref bP9, .ref bK, .ref bT, .ref bC])), (bV, .inl (cA, 12, .inl fV)), (bW, .inl (cA, 12, .inl fW)), (bR, .inl (cA, 12, .inl fR)), (bP9, .inl (cA, 12, .inl fP)), (bK, .inl (cA, 12, .inl fK)), (bC, .inl (cA, 41, .inl fC)), (bT, .inl (cA, 12, .inl fT))] [(m0, .inr (2, [.int 0, .int (nI n), .int rg, .int st, .ref bV, .ref bW, .ref bR, .ref bP9, .ref bK, .ref bT, .ref bC])), (bK, .inl (cA, 12, .inl fK)), (bT, .inl (cA, 12, .inl fT))] [(bV, .inl (cA, 12, .inl fV)), (bW, .inl (cA, 12, .inl fW)), (bR, .inl (cA, 12, .inl fR)), (bP9, .inl (cA, 12, .inl fP)), (bC, .inl (cA, 41, .inl fC))] [(cA, .int)] [(cA, .int)] [0, 5, 7] [1, 2, 3, 4, 6] [0] := ⟨rfl, rfl, rfl, rfl, by decide, rfl⟩
      refine kv hX_5 hP hD hS hA (kRunV (q := (RX2, TX2, 11)) (As := []) (rest := []) F (c_X2_keep l D cA m0 0 n rg st bV bW bR bP9 bK bT bC fK fT H.size) (cwV 0 hts gX2_compromiseIn_X2_keep rfl rfl rfl (by decide +kernel) ⟨Nat.le_of_ble_eq_true rfl, Nat.le_of_ble_eq_true rfl⟩) hK hP hD hX_5 0 rfl rfl rfl hl.1 rfl (Nat.le_of_ble_eq_true rfl) dX2_compromiseIn_35 ⟨Nat.le_of_ble_eq_true rfl, Nat.le_of_ble_eq_true rfl⟩) (fun u_7 H locs hw_8 hP hD hS => ?_)
      have hw_8 : True := hw_8
      have hP : va_P D vwCl [(bV, .inl (cA, 12, .inl fV)), (bW, .inl (cA, 12, .inl fW)), (bR, .inl (cA, 12, .inl fR)), (bP9, .inl (cA, 12, .inl fP)), (bC, .inl (cA, 41, .inl fC)), (m0, .inr (2, [.int 0, .int (nI n), .int rg, .int st, .ref bV, .ref bW, .ref bR, .ref bP9, .ref bK, .ref bT, .ref bC])), (bK, .inl (cA, 12, .inl fK)), (bT, .inl (cA, 12, .inl (copyF fK fT 12)))] H := hP
      have hD : va_D A [(bV, .inl (cA, 12, .inl fV)), (bW, .inl (cA, 12, .inl fW)), (bR, .inl (cA, 12, .inl fR)), (bP9, .inl (cA, 12, .inl fP)), (bC, .inl (cA, 41, .inl fC)), (m0, .inr (2, [.int 0, .int (nI n), .int rg, .int st, .ref bV, .ref bW, .ref bR, .ref bP9, .ref bK, .ref bT, .ref bC])), (bK, .inl (cA, 12, .inl fK)), (bT, .inl (cA, 12, .inl (copyF fK fT 12)))] := hD
      refine lv_iconst (v := 0) hx hb dX2_compromiseIn_38 (by decide) ?_
      refine lv_istore_n (lv' := [(2, .int 0), (0, .ref m0), (1, .int (nI rd))]) hx hb dX2_compromiseIn_39 rfl hl (by decide) rfl (fun ls hl => ?_)
      have loop40 : ∀ (k : Nat) (i : Nat) (g : Nat → Int32) (gC : Nat → Int32), (rd < i + k) → (i ≤ rd) → (g = (rnds fW fR fP n st fK i).1) →  ∀ (H : Heap) (locs : List Loc), va_P D vwCl [(bV, .inl (cA, 12, .inl fV)), (bW, .inl (cA, 12, .inl fW)), (bR, .inl (cA, 12, .inl fR)), (bP9, .inl (cA, 12, .inl fP)), (bC, .inl (cA, 41, .inl gC)), (m0, .inr (2, [.int 0, .int (nI n), .int rg, .int st, .ref bV, .ref bW, .ref bR, .ref bP9, .ref bK, .ref bT, .ref bC])), (bK, .inl (cA, 12, .inl g)), (bT, .inl (cA, 12, .inl (copyF fK fT 12)))] H → va_D A [(bV, .inl (cA, 12, .inl fV)), (bW, .inl (cA, 12, .inl fW)), (bR, .inl (cA, 12, .inl fR)), (bP9, .inl (cA, 12, .inl fP)), (bC, .inl (cA, 41, .inl gC)), (m0, .inr (2, [.int 0, .int (nI n), .int rg, .int st, .ref bV, .ref bW, .ref bR, .ref bP9, .ref bK, .ref bT, .ref bC])), (bK, .inl (cA, 12, .inl g)), (bT, .inl (cA, 12, .inl (copyF fK fT 12)))] → va_S A s.heap H locs → ∀ ls : Array Slot, lv_has ls 3 [(2, .int (nI i)), (0, .ref m0), (1, .int (nI rd))] → W p l e ({ frames := 3, cells := 0, slots := 0, locals := 80 } : Room) s m args below meth c H locs 0 0 Q (F0 m 40 ls []) := by
        intro k
        induction k with
        | zero =>
          intro i g gC hk hi hT
          exact absurd hk (by omega)
        | succ k ih40 =>
          intro i g gC hk hi hT H locs hP hD hS ls hl
          have hG : Inv fW fR fP g n := by
            have h9 := rnds_ok (st := st) hI i
            rw [hT]; exact h9
          refine lv_iload_n hx hb dX2_compromiseIn_40 rfl (lv_at hl 0 rfl) ?_
          refine lv_iload_n hx hb dX2_compromiseIn_41 rfl (lv_at hl 2 rfl) ?_
          refine lv_icmp_ge (tgt := 56) hx hb dX2_compromiseIn_42 (by decide) (fun c_42 => ?_) (fun c_42 => ?_)
          · skip
            have g_42 : rd ≤ i := nf_ge_t (by omega) (by omega) c_42
            rw [show i = rd by omega] at hT
            refine lv_aload_n hx hb dX2_compromiseIn_56 rfl (lv_at hl 1 rfl) ?_
            have hX_9 : Cut D A [(bV, .inl (cA, 12, .inl fV)), (bW, .inl (cA, 12, .inl fW)), (bR, .inl (cA, 12, .inl fR)), (bP9, .inl (cA, 12, .inl fP)), (bC, .inl (cA, 41, .inl gC)), (m0, .inr (2, [.int 0, .int (nI n), .int rg, .int st, .ref bV, .ref bW, .ref bR, .ref bP9, .ref bK, .ref bT, .ref bC])), (bK, .inl (cA, 12, .inl g)), (bT, .inl (cA, 12, .inl (copyF fK fT 12)))] [(m0, .inr (2, [.int 0, .int (nI n), .int rg, .int st, .ref bV, .ref bW, .ref bR, .ref bP9, .ref bK, .ref bT, .ref bC])), (bV, .inl (cA, 12, .inl fV)), (bK, .inl (cA, 12, .inl g)), (bC, .inl (cA, 41, .inl gC))] [(bW, .inl (cA, 12, .inl fW)), (bR, .inl (cA, 12, .inl fR)), (bP9, .inl (cA, 12, .inl fP)), (bT, .inl (cA, 12, .inl (copyF fK fT 12)))] [(cA, .int)] [(cA, .int)] [5, 0, 6, 4] [1, 2, 3, 7] [0] := ⟨rfl, rfl, rfl, rfl, by decide, rfl⟩
            refine ki hX_9 hP hD hS hA (kRunV (q := (RX2, TX2, 11)) (As := []) (rest := []) F (c_X2_middle l D cA m0 0 n rg st bV bW bR bP9 bK bT bC fV g gC hn hG.K H.size) (cwV 0 hts gX2_compromiseIn_X2_middle rfl rfl rfl (by decide +kernel) ⟨Nat.le_of_ble_eq_true rfl, Nat.le_of_ble_eq_true rfl⟩) hK hP hD hX_9 5 rfl rfl rfl hl.1 rfl (Nat.le_of_ble_eq_true rfl) dX2_compromiseIn_57 ⟨Nat.le_of_ble_eq_true rfl, Nat.le_of_ble_eq_true rfl⟩) (fun r_10 u_11 H locs hw_12 hP hD hS => ?_)
            have hw_12 : r_10 = midM g n := hw_12
            rw [hw_12]
            have hP : va_P D vwCl [(bW, .inl (cA, 12, .inl fW)), (bR, .inl (cA, 12, .inl fR)), (bP9, .inl (cA, 12, .inl fP)), (bT, .inl (cA, 12, .inl (copyF fK fT 12))), (m0, .inr (2, [.int 0, .int (nI n), .int rg, .int st, .ref bV, .ref bW, .ref bR, .ref bP9, .ref bK, .ref bT, .ref bC])), (bV, .inl (cA, 12, .inl fV)), (bK, .inl (cA, 12, .inl g)), (bC, .inl (cA, 41, .inl u_11))] H := hP
            have hD : va_D A [(bW, .inl (cA, 12, .inl fW)), (bR, .inl (cA, 12, .inl fR)), (bP9, .inl (cA, 12, .inl fP)), (bT, .inl (cA, 12, .inl (copyF fK fT 12))), (m0, .inr (2, [.int 0, .int (nI n), .int rg, .int st, .ref bV, .ref bW, .ref bR, .ref bP9, .ref bK, .ref bT, .ref bC])), (bV, .inl (cA, 12, .inl fV)), (bK, .inl (cA, 12, .inl g)), (bC, .inl (cA, 41, .inl u_11))] := hD
            refine topi (midF (rnds fW fR fP n st fK (dN (nI rd))).1 n) (by rw [midM_ne g_25, hbn, hT]) ?_
            refine lv_istore_n (lv' := [(2, .int (midF (rnds fW fR fP n st fK (dN (nI rd))).1 n)), (0, .ref m0), (1, .int (nI rd))]) hx hb dX2_compromiseIn_60 rfl hl (by decide) rfl (fun ls hl => ?_)
            refine lv_aload_n hx hb dX2_compromiseIn_61 rfl (lv_at hl 1 rfl) ?_
            have hX_13 : Cut D A [(bW, .inl (cA, 12, .inl fW)), (bR, .inl (cA, 12, .inl fR)), (bP9, .inl (cA, 12, .inl fP)), (bT, .inl (cA, 12, .inl (copyF fK fT 12))), (m0, .inr (2, [.int 0, .int (nI n), .int rg, .int st, .ref bV, .ref bW, .ref bR, .ref bP9, .ref bK, .ref bT, .ref bC])), (bV, .inl (cA, 12, .inl fV)), (bK, .inl (cA, 12, .inl g)), (bC, .inl (cA, 41, .inl u_11))] [(m0, .inr (2, [.int 0, .int (nI n), .int rg, .int st, .ref bV, .ref bW, .ref bR, .ref bP9, .ref bK, .ref bT, .ref bC])), (bK, .inl (cA, 12, .inl g)), (bT, .inl (cA, 12, .inl (copyF fK fT 12)))] [(bW, .inl (cA, 12, .inl fW)), (bR, .inl (cA, 12, .inl fR)), (bP9, .inl (cA, 12, .inl fP)), (bV, .inl (cA, 12, .inl fV)), (bC, .inl (cA, 41, .inl u_11))] [(cA, .int)] [(cA, .int)] [4, 6, 3] [0, 1, 2, 5, 7] [0] := ⟨rfl, rfl, rfl, rfl, by decide, rfl⟩
            refine kv hX_13 hP hD hS hA (kRunV (q := (RX2, TX2, 11)) (As := []) (rest := []) F (c_X2_bringBack l D cA m0 0 n rg st bV bW bR bP9 bK bT bC g (copyF fK fT 12) H.size) (cwV 0 hts gX2_compromiseIn_X2_bringBack rfl rfl rfl (by decide +kernel) ⟨Nat.le_of_ble_eq_true rfl, Nat.le_of_ble_eq_true rfl⟩) hK hP hD hX_13 4 rfl rfl rfl hl.1 rfl (Nat.le_of_ble_eq_true rfl) dX2_compromiseIn_62 ⟨Nat.le_of_ble_eq_true rfl, Nat.le_of_ble_eq_true rfl⟩) (fun u_15 H locs hw_16 hP hD hS => ?_)
            have hw_16 : True := hw_16
            have hP : va_P D vwCl [(bW, .inl (cA, 12, .inl fW)), (bR, .inl (cA, 12, .inl fR)), (bP9, .inl (cA, 12, .inl fP)), (bV, .inl (cA, 12, .inl fV)), (bC, .inl (cA, 41, .inl u_11)), (m0, .inr (2, [.int 0, .int (nI n), .int rg, .int st, .ref bV, .ref bW, .ref bR, .ref bP9, .ref bK, .ref bT, .ref bC])), (bK, .inl (cA, 12, .inl (copyF (copyF fK fT 12) g 12))), (bT, .inl (cA, 12, .inl (copyF fK fT 12)))] H := hP
            have hD : va_D A [(bW, .inl (cA, 12, .inl fW)), (bR, .inl (cA, 12, .inl fR)), (bP9, .inl (cA, 12, .inl fP)), (bV, .inl (cA, 12, .inl fV)), (bC, .inl (cA, 41, .inl u_11)), (m0, .inr (2, [.int 0, .int (nI n), .int rg, .int st, .ref bV, .ref bW, .ref bR, .ref bP9, .ref bK, .ref bT, .ref bC])), (bK, .inl (cA, 12, .inl (copyF (copyF fK fT 12) g 12))), (bT, .inl (cA, 12, .inl (copyF fK fT 12)))] := hD
            obtain ⟨hP, hD⟩ := w_cg (g := fK) hP hD 6 rfl (fun i9 h9 => by simp [copyF, h9])
            have hP : va_P D vwCl [(bW, .inl (cA, 12, .inl fW)), (bR, .inl (cA, 12, .inl fR)), (bP9, .inl (cA, 12, .inl fP)), (bV, .inl (cA, 12, .inl fV)), (bC, .inl (cA, 41, .inl u_11)), (m0, .inr (2, [.int 0, .int (nI n), .int rg, .int st, .ref bV, .ref bW, .ref bR, .ref bP9, .ref bK, .ref bT, .ref bC])), (bK, .inl (cA, 12, .inl fK)), (bT, .inl (cA, 12, .inl (copyF fK fT 12)))] H := hP
            have hD : va_D A [(bW, .inl (cA, 12, .inl fW)), (bR, .inl (cA, 12, .inl fR)), (bP9, .inl (cA, 12, .inl fP)), (bV, .inl (cA, 12, .inl fV)), (bC, .inl (cA, 41, .inl u_11)), (m0, .inr (2, [.int 0, .int (nI n), .int rg, .int st, .ref bV, .ref bW, .ref bR, .ref bP9, .ref bK, .ref bT, .ref bC])), (bK, .inl (cA, 12, .inl fK)), (bT, .inl (cA, 12, .inl (copyF fK fT 12)))] := hD
            refine lv_iload_n hx hb dX2_compromiseIn_65 rfl (lv_at hl 0 rfl) ?_
            refine useQ hQ ?_
            exact e_i (v := midF (rnds fW fR fP n st fK (dN (nI rd))).1 n) F hr hlocks hK hP hD hS [5, 3, 0, 1, 2, 6, 4, 7] [0] ((0, u_11), (copyF fK fT 12)) (⟨(cd2_0 (not_not_intro hB9) g_25).symm, fun _ => rfl⟩) rfl rfl rfl (Nat.le_of_ble_eq_true rfl) (Nat.le_of_ble_eq_true rfl) dX2_compromiseIn_66
          · skip
            have g_42 : i < rd := nf_ge_f (by omega) (by omega) c_42
            refine lv_aload_n hx hb dX2_compromiseIn_45 rfl (lv_at hl 1 rfl) ?_
            have hX_17 : Cut D A [(bV, .inl (cA, 12, .inl fV)), (bW, .inl (cA, 12, .inl fW)), (bR, .inl (cA, 12, .inl fR)), (bP9, .inl (cA, 12, .inl fP)), (bC, .inl (cA, 41, .inl gC)), (m0, .inr (2, [.int 0, .int (nI n), .int rg, .int st, .ref bV, .ref bW, .ref bR, .ref bP9, .ref bK, .ref bT, .ref bC])), (bK, .inl (cA, 12, .inl g)), (bT, .inl (cA, 12, .inl (copyF fK fT 12)))] [(m0, .inr (2, [.int 0, .int (nI n), .int rg, .int st, .ref bV, .ref bW, .ref bR, .ref bP9, .ref bK, .ref bT, .ref bC])), (bV, .inl (cA, 12, .inl fV)), (bW, .inl (cA, 12, .inl fW)), (bR, .inl (cA, 12, .inl fR)), (bP9, .inl (cA, 12, .inl fP)), (bK, .inl (cA, 12, .inl g)), (bC, .inl (cA, 41, .inl gC))] [(bT, .inl (cA, 12, .inl (copyF fK fT 12)))] [(cA, .int)] [(cA, .int)] [5, 0, 1, 2, 3, 6, 4] [7] [0] := ⟨rfl, rfl, rfl, rfl, by decide, rfl⟩
            refine ki hX_17 hP hD hS hA (kRunV (q := (RX2, TX2, 11)) (As := []) (rest := []) F (c_X2_roundOn l D cA m0 0 n rg st bV bW bR bP9 bK bT bC fV fW fR fP g gC hn hG H.size) (cwV 0 hts gX2_compromiseIn_X2_roundOn rfl rfl rfl (by decide +kernel) ⟨Nat.le_of_ble_eq_true rfl, Nat.le_of_ble_eq_true rfl⟩) hK hP hD hX_17 5 rfl rfl rfl hl.1 rfl (Nat.le_of_ble_eq_true rfl) dX2_compromiseIn_46 ⟨Nat.le_of_ble_eq_true rfl, Nat.le_of_ble_eq_true rfl⟩) (fun r_18 u_19 H locs hw_20 hP hD hS => ?_)
            have hw_20 : r_18 = rndM fW fR fP n st g := hw_20
            rw [hw_20]
            have hP : va_P D vwCl [(bT, .inl (cA, 12, .inl (copyF fK fT 12))), (m0, .inr (2, [.int 0, .int (nI n), .int rg, .int st, .ref bV, .ref bW, .ref bR, .ref bP9, .ref bK, .ref bT, .ref bC])), (bV, .inl (cA, 12, .inl fV)), (bW, .inl (cA, 12, .inl fW)), (bR, .inl (cA, 12, .inl fR)), (bP9, .inl (cA, 12, .inl fP)), (bK, .inl (cA, 12, .inl (rndF fW fR fP n st g))), (bC, .inl (cA, 41, .inl u_19))] H := hP
            have hD : va_D A [(bT, .inl (cA, 12, .inl (copyF fK fT 12))), (m0, .inr (2, [.int 0, .int (nI n), .int rg, .int st, .ref bV, .ref bW, .ref bR, .ref bP9, .ref bK, .ref bT, .ref bC])), (bV, .inl (cA, 12, .inl fV)), (bW, .inl (cA, 12, .inl fW)), (bR, .inl (cA, 12, .inl fR)), (bP9, .inl (cA, 12, .inl fP)), (bK, .inl (cA, 12, .inl (rndF fW fR fP n st g))), (bC, .inl (cA, 41, .inl u_19))] := hD
            refine lv_pop hx hb dX2_compromiseIn_49 rfl ?_
            refine lv_iinc (v := nI (i + 1)) (lv' := [(2, .int (nI (i + 1))), (0, .ref m0), (1, .int (nI rd))]) hx hb dX2_compromiseIn_50 hl (k := 0) rfl (nI_1 _) (by decide) rfl (fun ls hl => ?_)
            refine lv_goto (tgt := 40) hx hb dX2_compromiseIn_53 (by decide) ?_
            exact ih40 (i + 1) (rndF fW fR fP n st g) u_19 (by omega) (by omega) (by rw [rnds_s, hT]) _ _ (hP.sub [2, 3, 4, 5, 7, 1, 6, 0] rfl) (hD.sub [2, 3, 4, 5, 7, 1, 6, 0] (by decide) rfl) hS ls (lv_sub hl [0, 1, 2] rfl)
      exact loop40 (rd + 1) 0 fK fC (by omega) (Nat.zero_le _) rfl _ _ (hP.sub [0, 1, 2, 3, 4, 5, 6, 7] rfl) (hD.sub [0, 1, 2, 3, 4, 5, 6, 7] (by decide) rfl) hS ls (lv_sub hl [0, 1, 2] rfl)
    · skip
      have g_25 : n = 0 := nf_ne_f (by omega) (by omega) c_25
      refine lv_aload_n hx hb dX2_compromiseIn_28 rfl (lv_at hl 0 rfl) ?_
      refine lv_iconst (v := 2) hx hb dX2_compromiseIn_29 (by decide) ?_
      have hX_21 : Cut D A [(m0, .inr (2, [.int 0, .int (nI n), .int rg, .int st, .ref bV, .ref bW, .ref bR, .ref bP9, .ref bK, .ref bT, .ref bC])), (bV, .inl (cA, 12, .inl fV)), (bW, .inl (cA, 12, .inl fW)), (bR, .inl (cA, 12, .inl fR)), (bP9, .inl (cA, 12, .inl fP)), (bK, .inl (cA, 12, .inl fK)), (bC, .inl (cA, 41, .inl fC)), (bT, .inl (cA, 12, .inl fT))] [(m0, .inr (2, [.int 0, .int (nI n), .int rg, .int st, .ref bV, .ref bW, .ref bR, .ref bP9, .ref bK, .ref bT, .ref bC]))] [(bV, .inl (cA, 12, .inl fV)), (bW, .inl (cA, 12, .inl fW)), (bR, .inl (cA, 12, .inl fR)), (bP9, .inl (cA, 12, .inl fP)), (bK, .inl (cA, 12, .inl fK)), (bC, .inl (cA, 41, .inl fC)), (bT, .inl (cA, 12, .inl fT))] [(cA, .int)] [(cA, .int)] [0] [1, 2, 3, 4, 5, 6, 7] [0] := ⟨rfl, rfl, rfl, rfl, by decide, rfl⟩
      refine ki hX_21 hP hD hS hA (kRunV (q := (RX2, TX2, 11)) (As := [.int 2]) (rest := []) F (c_X2_fail l D cA m0 0 n rg st bV bW bR bP9 bK bT bC 2 H.size) (cwV 1 hts gX2_compromiseIn_X2_fail rfl rfl rfl (by decide +kernel) ⟨Nat.le_of_ble_eq_true rfl, Nat.le_of_ble_eq_true rfl⟩) hK hP hD hX_21 0 rfl rfl rfl hl.1 rfl (Nat.le_of_ble_eq_true rfl) dX2_compromiseIn_30 ⟨Nat.le_of_ble_eq_true rfl, Nat.le_of_ble_eq_true rfl⟩) (fun r_22 u_23 H locs hw_24 hP hD hS => ?_)
      have hw_24 : r_22 = 0 := hw_24
      rw [hw_24]
      have hP : va_P D vwCl [(bV, .inl (cA, 12, .inl fV)), (bW, .inl (cA, 12, .inl fW)), (bR, .inl (cA, 12, .inl fR)), (bP9, .inl (cA, 12, .inl fP)), (bK, .inl (cA, 12, .inl fK)), (bC, .inl (cA, 41, .inl fC)), (bT, .inl (cA, 12, .inl fT)), (m0, .inr (2, [.int 2, .int (nI n), .int rg, .int st, .ref bV, .ref bW, .ref bR, .ref bP9, .ref bK, .ref bT, .ref bC]))] H := hP
      have hD : va_D A [(bV, .inl (cA, 12, .inl fV)), (bW, .inl (cA, 12, .inl fW)), (bR, .inl (cA, 12, .inl fR)), (bP9, .inl (cA, 12, .inl fP)), (bK, .inl (cA, 12, .inl fK)), (bC, .inl (cA, 41, .inl fC)), (bT, .inl (cA, 12, .inl fT)), (m0, .inr (2, [.int 2, .int (nI n), .int rg, .int st, .ref bV, .ref bW, .ref bR, .ref bP9, .ref bK, .ref bT, .ref bC]))] := hD
      refine useQ hQ ?_
      exact e_i (v := 0) F hr hlocks hK hP hD hS [7, 0, 1, 2, 3, 4, 5, 6] [0] ((2, fC), fT) (⟨(cd2_2 (not_not_intro hB9) g_25).symm, fun z => cx2 (cd2_2 (not_not_intro hB9) g_25) z⟩) rfl rfl rfl (Nat.le_of_ble_eq_true rfl) (Nat.le_of_ble_eq_true rfl) dX2_compromiseIn_33
  · skip
    refine lv_aload_n hx hb dX2_compromiseIn_15 rfl (lv_at hl 0 rfl) ?_
    refine lv_iconst (v := 1) hx hb dX2_compromiseIn_16 (by decide) ?_
    have hX_25 : Cut D A [(m0, .inr (2, [.int 0, .int (nI n), .int rg, .int st, .ref bV, .ref bW, .ref bR, .ref bP9, .ref bK, .ref bT, .ref bC])), (bV, .inl (cA, 12, .inl fV)), (bW, .inl (cA, 12, .inl fW)), (bR, .inl (cA, 12, .inl fR)), (bP9, .inl (cA, 12, .inl fP)), (bK, .inl (cA, 12, .inl fK)), (bC, .inl (cA, 41, .inl fC)), (bT, .inl (cA, 12, .inl fT))] [(m0, .inr (2, [.int 0, .int (nI n), .int rg, .int st, .ref bV, .ref bW, .ref bR, .ref bP9, .ref bK, .ref bT, .ref bC]))] [(bV, .inl (cA, 12, .inl fV)), (bW, .inl (cA, 12, .inl fW)), (bR, .inl (cA, 12, .inl fR)), (bP9, .inl (cA, 12, .inl fP)), (bK, .inl (cA, 12, .inl fK)), (bC, .inl (cA, 41, .inl fC)), (bT, .inl (cA, 12, .inl fT))] [(cA, .int)] [(cA, .int)] [0] [1, 2, 3, 4, 5, 6, 7] [0] := ⟨rfl, rfl, rfl, rfl, by decide, rfl⟩
    refine ki hX_25 hP hD hS hA (kRunV (q := (RX2, TX2, 11)) (As := [.int 1]) (rest := []) F (c_X2_fail l D cA m0 0 n rg st bV bW bR bP9 bK bT bC 1 H.size) (cwV 1 hts gX2_compromiseIn_X2_fail rfl rfl rfl (by decide +kernel) ⟨Nat.le_of_ble_eq_true rfl, Nat.le_of_ble_eq_true rfl⟩) hK hP hD hX_25 0 rfl rfl rfl hl.1 rfl (Nat.le_of_ble_eq_true rfl) dX2_compromiseIn_17 ⟨Nat.le_of_ble_eq_true rfl, Nat.le_of_ble_eq_true rfl⟩) (fun r_26 u_27 H locs hw_28 hP hD hS => ?_)
    have hw_28 : r_26 = 0 := hw_28
    rw [hw_28]
    have hP : va_P D vwCl [(bV, .inl (cA, 12, .inl fV)), (bW, .inl (cA, 12, .inl fW)), (bR, .inl (cA, 12, .inl fR)), (bP9, .inl (cA, 12, .inl fP)), (bK, .inl (cA, 12, .inl fK)), (bC, .inl (cA, 41, .inl fC)), (bT, .inl (cA, 12, .inl fT)), (m0, .inr (2, [.int 1, .int (nI n), .int rg, .int st, .ref bV, .ref bW, .ref bR, .ref bP9, .ref bK, .ref bT, .ref bC]))] H := hP
    have hD : va_D A [(bV, .inl (cA, 12, .inl fV)), (bW, .inl (cA, 12, .inl fW)), (bR, .inl (cA, 12, .inl fR)), (bP9, .inl (cA, 12, .inl fP)), (bK, .inl (cA, 12, .inl fK)), (bC, .inl (cA, 41, .inl fC)), (bT, .inl (cA, 12, .inl fT)), (m0, .inr (2, [.int 1, .int (nI n), .int rg, .int st, .ref bV, .ref bW, .ref bR, .ref bP9, .ref bK, .ref bT, .ref bC]))] := hD
    refine useQ hQ ?_
    exact e_i (v := 0) F hr hlocks hK hP hD hS [7, 0, 1, 2, 3, 4, 5, 6] [0] ((1, fC), fT) (⟨(cd2_1 (fun z => bP_eq c_12 ((isIn_B (lo := 1) (hi := 50) (by omega) (by omega)).mpr z))).symm, fun z => cx1 (cd2_1 (fun z => bP_eq c_12 ((isIn_B (lo := 1) (hi := 50) (by omega) (by omega)).mpr z))) z⟩) rfl rfl rfl (Nat.le_of_ble_eq_true rfl) (Nat.le_of_ble_eq_true rfl) dX2_compromiseIn_20
theorem uX2_X2_roundsUntilTreaty : ∀ w ∈ u_ws RX2 TX2 11, w ∈ wsX2_roundsUntilTreaty := (fun _ h => List.mem_cons_of_mem _ (List.mem_append_right _ h))
set_option maxHeartbeats 4000000 in
set_option maxRecDepth 100000 in
theorem c_X2_roundsUntilTreaty (l : Launch) (D : va_G) (cA : ClassId) (m0 : Nat) (th : Int32) (n : Nat) (rg : Int32) (st : Int32) (bV : Nat) (bW : Nat) (bR : Nat) (bP9 : Nat) (bK : Nat) (bT : Nat) (bC : Nat) (fV : Nat → Int32) (fW : Nat → Int32) (fR : Nat → Int32) (fP : Nat → Int32) (fK : Nat → Int32) (fC : Nat → Int32) (fT : Nat → Int32) (hn : n ≤ 12) (hI : Inv fW fR fP fK n) (sz : Nat) : Met l yX2_roundsUntilTreaty wsX2_roundsUntilTreaty ({ frames := 3, cells := 0, slots := 0, locals := 80 } : Room) (va_Pc [.ref m0] (Wd D [(cA, .int)] [(m0, .inr (2, [.int th, .int (nI n), .int rg, .int st, .ref bV, .ref bW, .ref bR, .ref bP9, .ref bK, .ref bT, .ref bC])), (bV, .inl (cA, 12, .inl fV)), (bW, .inl (cA, 12, .inl fW)), (bR, .inl (cA, 12, .inl fR)), (bP9, .inl (cA, 12, .inl fP)), (bK, .inl (cA, 12, .inl fK)), (bC, .inl (cA, 41, .inl fC)), (bT, .inl (cA, 12, .inl fT))] sz)) (va_Qi (fun (r : Int32) (u : (Nat → Int32) × (Nat → Int32)) => r = untilT fV fW fR fP n st fK) (fun (u : (Nat → Int32) × (Nat → Int32)) t => We D [(cA, .int)] [(m0, .inr (2, [.int 0, .int (nI n), .int rg, .int st, .ref bV, .ref bW, .ref bR, .ref bP9, .ref bK, .ref bT, .ref bC])), (bV, .inl (cA, 12, .inl fV)), (bW, .inl (cA, 12, .inl fW)), (bR, .inl (cA, 12, .inl fR)), (bP9, .inl (cA, 12, .inl fP)), (bK, .inl (cA, 12, .inl fK)), (bC, .inl (cA, 41, .inl u.1)), (bT, .inl (cA, 12, .inl u.2))] (va_A [(m0, .inr (2, [.int th, .int (nI n), .int rg, .int st, .ref bV, .ref bW, .ref bR, .ref bP9, .ref bK, .ref bT, .ref bC])), (bV, .inl (cA, 12, .inl fV)), (bW, .inl (cA, 12, .inl fW)), (bR, .inl (cA, 12, .inl fR)), (bP9, .inl (cA, 12, .inl fP)), (bK, .inl (cA, 12, .inl fK)), (bC, .inl (cA, 41, .inl fC)), (bT, .inl (cA, 12, .inl fT))] sz) t) (va_A [(m0, .inr (2, [.int th, .int (nI n), .int rg, .int st, .ref bV, .ref bW, .ref bR, .ref bP9, .ref bK, .ref bT, .ref bC])), (bV, .inl (cA, 12, .inl fV)), (bW, .inl (cA, 12, .inl fW)), (bR, .inl (cA, 12, .inl fR)), (bP9, .inl (cA, 12, .inl fP)), (bK, .inl (cA, 12, .inl fK)), (bC, .inl (cA, 41, .inl fC)), (bT, .inl (cA, 12, .inl fT))] sz)) 0 0 (va_A [(m0, .inr (2, [.int th, .int (nI n), .int rg, .int st, .ref bV, .ref bW, .ref bR, .ref bP9, .ref bK, .ref bT, .ref bC])), (bV, .inl (cA, 12, .inl fV)), (bW, .inl (cA, 12, .inl fW)), (bR, .inl (cA, 12, .inl fR)), (bP9, .inl (cA, 12, .inl fP)), (bK, .inl (cA, 12, .inl fK)), (bC, .inl (cA, 41, .inl fC)), (bT, .inl (cA, 12, .inl fT))] sz) := by
  refine mk_met [.ref m0] (fun A => va_Qi (fun (r : Int32) (u : (Nat → Int32) × (Nat → Int32)) => r = untilT fV fW fR fP n st fK) (fun (u : (Nat → Int32) × (Nat → Int32)) t => We D [(cA, .int)] [(m0, .inr (2, [.int 0, .int (nI n), .int rg, .int st, .ref bV, .ref bW, .ref bR, .ref bP9, .ref bK, .ref bT, .ref bC])), (bV, .inl (cA, 12, .inl fV)), (bW, .inl (cA, 12, .inl fW)), (bR, .inl (cA, 12, .inl fR)), (bP9, .inl (cA, 12, .inl fP)), (bK, .inl (cA, 12, .inl fK)), (bC, .inl (cA, 41, .inl u.1)), (bT, .inl (cA, 12, .inl u.2))] A t) A) (by decide) rfl (Nat.le_of_ble_eq_true rfl) ?_
  intro p e s m args below meth c A ls F hr hlocks hname hP hK hD hA hl
  have hx := F.1
  have hb := F.2.1
  have hml := F.2.2.1
  have hown := F.2.2.2.1
  have hts := F.2.2.2.2
  have hS : va_S A s.heap s.heap [] := va_S.rf
  have hl : lv_has ls 2 [(0, .ref m0)] := hl
  refine absQ (fun Q hQ => ?_)
  refine lv_aload_n hx hb dX2_roundsUntilTreaty_0 rfl (lv_at hl 0 rfl) ?_
  refine lv_iconst (v := 0) hx hb dX2_roundsUntilTreaty_1 (by decide) ?_
  refine va_put (D := D) (ci := 2) (v := .int 0) (ty := .int) (C := RX2) (T := TX2) (N := 11) hx hb hts uX2_X2_roundsUntilTreaty tyX2 tyX2_ok nmX2 hown hK hP hD hS 0 rfl rfl 0 (by decide) (hts (.fieldLink RX2 35 "RopeChoicesModel" "thrown" "I") (List.mem_of_getElem? (i := 1) rfl)) (fun _ h9 => h9) rfl (by decide +kernel) rfl rfl (Nat.le_of_ble_eq_true rfl) dX2_roundsUntilTreaty_2 (fun H locs hP hD hS => ?_)
  have hP : va_P D vwCl [(m0, .inr (2, [.int 0, .int (nI n), .int rg, .int st, .ref bV, .ref bW, .ref bR, .ref bP9, .ref bK, .ref bT, .ref bC])), (bV, .inl (cA, 12, .inl fV)), (bW, .inl (cA, 12, .inl fW)), (bR, .inl (cA, 12, .inl fR)), (bP9, .inl (cA, 12, .inl fP)), (bK, .inl (cA, 12, .inl fK)), (bC, .inl (cA, 41, .inl fC)), (bT, .inl (cA, 12, .inl fT))] H := hP
  have hD : va_D A [(m0, .inr (2, [.int 0, .int (nI n), .int rg, .int st, .ref bV, .ref bW, .ref bR, .ref bP9, .ref bK, .ref bT, .ref bC])), (bV, .inl (cA, 12, .inl fV)), (bW, .inl (cA, 12, .inl fW)), (bR, .inl (cA, 12, .inl fR)), (bP9, .inl (cA, 12, .inl fP)), (bK, .inl (cA, 12, .inl fK)), (bC, .inl (cA, 41, .inl fC)), (bT, .inl (cA, 12, .inl fT))] := hD
  refine lv_aload_n hx hb dX2_roundsUntilTreaty_5 rfl (lv_at hl 0 rfl) ?_
  have hX_1 : Cut D A [(m0, .inr (2, [.int 0, .int (nI n), .int rg, .int st, .ref bV, .ref bW, .ref bR, .ref bP9, .ref bK, .ref bT, .ref bC])), (bV, .inl (cA, 12, .inl fV)), (bW, .inl (cA, 12, .inl fW)), (bR, .inl (cA, 12, .inl fR)), (bP9, .inl (cA, 12, .inl fP)), (bK, .inl (cA, 12, .inl fK)), (bC, .inl (cA, 41, .inl fC)), (bT, .inl (cA, 12, .inl fT))] [(m0, .inr (2, [.int 0, .int (nI n), .int rg, .int st, .ref bV, .ref bW, .ref bR, .ref bP9, .ref bK, .ref bT, .ref bC])), (bK, .inl (cA, 12, .inl fK)), (bT, .inl (cA, 12, .inl fT))] [(bV, .inl (cA, 12, .inl fV)), (bW, .inl (cA, 12, .inl fW)), (bR, .inl (cA, 12, .inl fR)), (bP9, .inl (cA, 12, .inl fP)), (bC, .inl (cA, 41, .inl fC))] [(cA, .int)] [(cA, .int)] [0, 5, 7] [1, 2, 3, 4, 6] [0] := ⟨rfl, rfl, rfl, rfl, by decide, rfl⟩
  refine kv hX_1 hP hD hS hA (kRunV (q := (RX2, TX2, 11)) (As := []) (rest := []) F (c_X2_keep l D cA m0 0 n rg st bV bW bR bP9 bK bT bC fK fT H.size) (cwV 0 hts gX2_roundsUntilTreaty_X2_keep rfl rfl rfl (by decide +kernel) ⟨Nat.le_of_ble_eq_true rfl, Nat.le_of_ble_eq_true rfl⟩) hK hP hD hX_1 0 rfl rfl rfl hl.1 rfl (Nat.le_of_ble_eq_true rfl) dX2_roundsUntilTreaty_6 ⟨Nat.le_of_ble_eq_true rfl, Nat.le_of_ble_eq_true rfl⟩) (fun u_3 H locs hw_4 hP hD hS => ?_)
  have hw_4 : True := hw_4
  have hP : va_P D vwCl [(bV, .inl (cA, 12, .inl fV)), (bW, .inl (cA, 12, .inl fW)), (bR, .inl (cA, 12, .inl fR)), (bP9, .inl (cA, 12, .inl fP)), (bC, .inl (cA, 41, .inl fC)), (m0, .inr (2, [.int 0, .int (nI n), .int rg, .int st, .ref bV, .ref bW, .ref bR, .ref bP9, .ref bK, .ref bT, .ref bC])), (bK, .inl (cA, 12, .inl fK)), (bT, .inl (cA, 12, .inl (copyF fK fT 12)))] H := hP
  have hD : va_D A [(bV, .inl (cA, 12, .inl fV)), (bW, .inl (cA, 12, .inl fW)), (bR, .inl (cA, 12, .inl fR)), (bP9, .inl (cA, 12, .inl fP)), (bC, .inl (cA, 41, .inl fC)), (m0, .inr (2, [.int 0, .int (nI n), .int rg, .int st, .ref bV, .ref bW, .ref bR, .ref bP9, .ref bK, .ref bT, .ref bC])), (bK, .inl (cA, 12, .inl fK)), (bT, .inl (cA, 12, .inl (copyF fK fT 12)))] := hD
  refine lv_iconst (v := 0) hx hb dX2_roundsUntilTreaty_9 (by decide) ?_
  refine lv_istore_n (lv' := [(1, .int 0), (0, .ref m0)]) hx hb dX2_roundsUntilTreaty_10 rfl hl (by decide) rfl (fun ls hl => ?_)
  have loop11 : ∀ (k : Nat) (i : Nat) (g : Nat → Int32) (gC : Nat → Int32), (101 < i + k) → (i ≤ 101) → (g = (rnds fW fR fP n st fK i).1) → (∀ j, j < i → ¬ agreeP fV (rnds fW fR fP n st fK j).1 n) →  ∀ (H : Heap) (locs : List Loc), va_P D vwCl [(bV, .inl (cA, 12, .inl fV)), (bW, .inl (cA, 12, .inl fW)), (bR, .inl (cA, 12, .inl fR)), (bP9, .inl (cA, 12, .inl fP)), (bC, .inl (cA, 41, .inl gC)), (m0, .inr (2, [.int 0, .int (nI n), .int rg, .int st, .ref bV, .ref bW, .ref bR, .ref bP9, .ref bK, .ref bT, .ref bC])), (bK, .inl (cA, 12, .inl g)), (bT, .inl (cA, 12, .inl (copyF fK fT 12)))] H → va_D A [(bV, .inl (cA, 12, .inl fV)), (bW, .inl (cA, 12, .inl fW)), (bR, .inl (cA, 12, .inl fR)), (bP9, .inl (cA, 12, .inl fP)), (bC, .inl (cA, 41, .inl gC)), (m0, .inr (2, [.int 0, .int (nI n), .int rg, .int st, .ref bV, .ref bW, .ref bR, .ref bP9, .ref bK, .ref bT, .ref bC])), (bK, .inl (cA, 12, .inl g)), (bT, .inl (cA, 12, .inl (copyF fK fT 12)))] → va_S A s.heap H locs → ∀ ls : Array Slot, lv_has ls 2 [(1, .int (nI i)), (0, .ref m0)] → W p l e ({ frames := 3, cells := 0, slots := 0, locals := 80 } : Room) s m args below meth c H locs 0 0 Q (F0 m 11 ls []) := by
    intro k
    induction k with
    | zero =>
      intro i g gC hk hi hT hfst
      exact absurd hk (by omega)
    | succ k ih11 =>
      intro i g gC hk hi hT hfst H locs hP hD hS ls hl
      have hG : Inv fW fR fP g n := by
        rw [hT]; exact rnds_ok hI i
      refine lv_iload_n hx hb dX2_roundsUntilTreaty_11 rfl (lv_at hl 0 rfl) ?_
      refine lv_bipush (v := 100) hx hb dX2_roundsUntilTreaty_12 (by decide) ?_
      refine lv_icmp_gt (tgt := 35) hx hb dX2_roundsUntilTreaty_14 (by decide) (fun c_14 => ?_) (fun c_14 => ?_)
      · skip
        have g_14 : 100 < i := nf_gt_t (by omega) (by omega) c_14
        refine lv_aload_n hx hb dX2_roundsUntilTreaty_35 rfl (lv_at hl 1 rfl) ?_
        have hX_5 : Cut D A [(bV, .inl (cA, 12, .inl fV)), (bW, .inl (cA, 12, .inl fW)), (bR, .inl (cA, 12, .inl fR)), (bP9, .inl (cA, 12, .inl fP)), (bC, .inl (cA, 41, .inl gC)), (m0, .inr (2, [.int 0, .int (nI n), .int rg, .int st, .ref bV, .ref bW, .ref bR, .ref bP9, .ref bK, .ref bT, .ref bC])), (bK, .inl (cA, 12, .inl g)), (bT, .inl (cA, 12, .inl (copyF fK fT 12)))] [(m0, .inr (2, [.int 0, .int (nI n), .int rg, .int st, .ref bV, .ref bW, .ref bR, .ref bP9, .ref bK, .ref bT, .ref bC])), (bK, .inl (cA, 12, .inl g)), (bT, .inl (cA, 12, .inl (copyF fK fT 12)))] [(bV, .inl (cA, 12, .inl fV)), (bW, .inl (cA, 12, .inl fW)), (bR, .inl (cA, 12, .inl fR)), (bP9, .inl (cA, 12, .inl fP)), (bC, .inl (cA, 41, .inl gC))] [(cA, .int)] [(cA, .int)] [5, 6, 7] [0, 1, 2, 3, 4] [0] := ⟨rfl, rfl, rfl, rfl, by decide, rfl⟩
        refine kv hX_5 hP hD hS hA (kRunV (q := (RX2, TX2, 11)) (As := []) (rest := []) F (c_X2_bringBack l D cA m0 0 n rg st bV bW bR bP9 bK bT bC g (copyF fK fT 12) H.size) (cwV 0 hts gX2_roundsUntilTreaty_X2_bringBack rfl rfl rfl (by decide +kernel) ⟨Nat.le_of_ble_eq_true rfl, Nat.le_of_ble_eq_true rfl⟩) hK hP hD hX_5 5 rfl rfl rfl hl.1 rfl (Nat.le_of_ble_eq_true rfl) dX2_roundsUntilTreaty_36 ⟨Nat.le_of_ble_eq_true rfl, Nat.le_of_ble_eq_true rfl⟩) (fun u_7 H locs hw_8 hP hD hS => ?_)
        have hw_8 : True := hw_8
        have hP : va_P D vwCl [(bV, .inl (cA, 12, .inl fV)), (bW, .inl (cA, 12, .inl fW)), (bR, .inl (cA, 12, .inl fR)), (bP9, .inl (cA, 12, .inl fP)), (bC, .inl (cA, 41, .inl gC)), (m0, .inr (2, [.int 0, .int (nI n), .int rg, .int st, .ref bV, .ref bW, .ref bR, .ref bP9, .ref bK, .ref bT, .ref bC])), (bK, .inl (cA, 12, .inl (copyF (copyF fK fT 12) g 12))), (bT, .inl (cA, 12, .inl (copyF fK fT 12)))] H := hP
        have hD : va_D A [(bV, .inl (cA, 12, .inl fV)), (bW, .inl (cA, 12, .inl fW)), (bR, .inl (cA, 12, .inl fR)), (bP9, .inl (cA, 12, .inl fP)), (bC, .inl (cA, 41, .inl gC)), (m0, .inr (2, [.int 0, .int (nI n), .int rg, .int st, .ref bV, .ref bW, .ref bR, .ref bP9, .ref bK, .ref bT, .ref bC])), (bK, .inl (cA, 12, .inl (copyF (copyF fK fT 12) g 12))), (bT, .inl (cA, 12, .inl (copyF fK fT 12)))] := hD
        obtain ⟨hP, hD⟩ := w_cg (g := fK) hP hD 6 rfl (fun i9 h9 => by simp [copyF, h9])
        have hP : va_P D vwCl [(bV, .inl (cA, 12, .inl fV)), (bW, .inl (cA, 12, .inl fW)), (bR, .inl (cA, 12, .inl fR)), (bP9, .inl (cA, 12, .inl fP)), (bC, .inl (cA, 41, .inl gC)), (m0, .inr (2, [.int 0, .int (nI n), .int rg, .int st, .ref bV, .ref bW, .ref bR, .ref bP9, .ref bK, .ref bT, .ref bC])), (bK, .inl (cA, 12, .inl fK)), (bT, .inl (cA, 12, .inl (copyF fK fT 12)))] H := hP
        have hD : va_D A [(bV, .inl (cA, 12, .inl fV)), (bW, .inl (cA, 12, .inl fW)), (bR, .inl (cA, 12, .inl fR)), (bP9, .inl (cA, 12, .inl fP)), (bC, .inl (cA, 41, .inl gC)), (m0, .inr (2, [.int 0, .int (nI n), .int rg, .int st, .ref bV, .ref bW, .ref bR, .ref bP9, .ref bK, .ref bT, .ref bC])), (bK, .inl (cA, 12, .inl fK)), (bT, .inl (cA, 12, .inl (copyF fK fT 12)))] := hD
        refine lv_iload_n hx hb dX2_roundsUntilTreaty_39 rfl (lv_at hl 0 rfl) ?_
        refine lv_bipush (v := 100) hx hb dX2_roundsUntilTreaty_40 (by decide) ?_
        refine lv_icmp_le (tgt := 49) hx hb dX2_roundsUntilTreaty_42 (by decide) (fun c_42 => ?_) (fun c_42 => ?_)
        · skip
          have g_42 : i ≤ 100 := nf_le_t (by omega) (by omega) c_42
          exact absurd g_42 (by omega)
        · skip
          have g_42 : 100 < i := nf_le_f (by omega) (by omega) c_42
          refine lv_iconst (v := (-1)) hx hb dX2_roundsUntilTreaty_45 (by decide) ?_
          refine lv_goto (tgt := 50) hx hb dX2_roundsUntilTreaty_46 (by decide) ?_
          refine useQ hQ ?_
          exact e_i (v := (-1)) F hr hlocks hK hP hD hS [5, 0, 1, 2, 3, 6, 4, 7] [0] (gC, (copyF fK fT 12)) (fstF_eq (fun _ => Iff.rfl) (Or.inr ⟨rfl, fun k9 hk9 => hfst k9 (by omega)⟩)) rfl rfl rfl (Nat.le_of_ble_eq_true rfl) (Nat.le_of_ble_eq_true rfl) dX2_roundsUntilTreaty_50
      · skip
        have g_14 : i ≤ 100 := nf_gt_f (by omega) (by omega) c_14
        refine lv_aload_n hx hb dX2_roundsUntilTreaty_17 rfl (lv_at hl 1 rfl) ?_
        have hX_9 : Cut D A [(bV, .inl (cA, 12, .inl fV)), (bW, .inl (cA, 12, .inl fW)), (bR, .inl (cA, 12, .inl fR)), (bP9, .inl (cA, 12, .inl fP)), (bC, .inl (cA, 41, .inl gC)), (m0, .inr (2, [.int 0, .int (nI n), .int rg, .int st, .ref bV, .ref bW, .ref bR, .ref bP9, .ref bK, .ref bT, .ref bC])), (bK, .inl (cA, 12, .inl g)), (bT, .inl (cA, 12, .inl (copyF fK fT 12)))] [(m0, .inr (2, [.int 0, .int (nI n), .int rg, .int st, .ref bV, .ref bW, .ref bR, .ref bP9, .ref bK, .ref bT, .ref bC])), (bV, .inl (cA, 12, .inl fV)), (bK, .inl (cA, 12, .inl g))] [(bW, .inl (cA, 12, .inl fW)), (bR, .inl (cA, 12, .inl fR)), (bP9, .inl (cA, 12, .inl fP)), (bC, .inl (cA, 41, .inl gC)), (bT, .inl (cA, 12, .inl (copyF fK fT 12)))] [(cA, .int)] [(cA, .int)] [5, 0, 6] [1, 2, 3, 4, 7] [0] := ⟨rfl, rfl, rfl, rfl, by decide, rfl⟩
        refine ki hX_9 hP hD hS hA (kRunV (q := (RX2, TX2, 11)) (As := []) (rest := []) F (c_X2_agree l D cA m0 0 n rg st bV bW bR bP9 bK bT bC fV g hn hG.K H.size) (cwV 0 hts gX2_roundsUntilTreaty_X2_agree rfl rfl rfl (by decide +kernel) ⟨Nat.le_of_ble_eq_true rfl, Nat.le_of_ble_eq_true rfl⟩) hK hP hD hX_9 5 rfl rfl rfl hl.1 rfl (Nat.le_of_ble_eq_true rfl) dX2_roundsUntilTreaty_18 ⟨Nat.le_of_ble_eq_true rfl, Nat.le_of_ble_eq_true rfl⟩) (fun r_10 u_11 H locs hw_12 hP hD hS => ?_)
        have hw_12 : r_10 = bP (agreeP fV g n) := hw_12
        rw [hw_12]
        have hP : va_P D vwCl [(bW, .inl (cA, 12, .inl fW)), (bR, .inl (cA, 12, .inl fR)), (bP9, .inl (cA, 12, .inl fP)), (bC, .inl (cA, 41, .inl gC)), (bT, .inl (cA, 12, .inl (copyF fK fT 12))), (m0, .inr (2, [.int 0, .int (nI n), .int rg, .int st, .ref bV, .ref bW, .ref bR, .ref bP9, .ref bK, .ref bT, .ref bC])), (bV, .inl (cA, 12, .inl fV)), (bK, .inl (cA, 12, .inl g))] H := hP
        have hD : va_D A [(bW, .inl (cA, 12, .inl fW)), (bR, .inl (cA, 12, .inl fR)), (bP9, .inl (cA, 12, .inl fP)), (bC, .inl (cA, 41, .inl gC)), (bT, .inl (cA, 12, .inl (copyF fK fT 12))), (m0, .inr (2, [.int 0, .int (nI n), .int rg, .int st, .ref bV, .ref bW, .ref bR, .ref bP9, .ref bK, .ref bT, .ref bC])), (bV, .inl (cA, 12, .inl fV)), (bK, .inl (cA, 12, .inl g))] := hD
        refine lv_if_ne (tgt := 35) hx hb dX2_roundsUntilTreaty_21 (by decide) (fun c_21 => ?_) (fun c_21 => ?_)
        · skip
          have hP9 : agreeP fV (rnds fW fR fP n st fK i).1 n := by rw [← hT]; exact bP_ne c_21
          refine lv_aload_n hx hb dX2_roundsUntilTreaty_35 rfl (lv_at hl 1 rfl) ?_
          have hX_13 : Cut D A [(bW, .inl (cA, 12, .inl fW)), (bR, .inl (cA, 12, .inl fR)), (bP9, .inl (cA, 12, .inl fP)), (bC, .inl (cA, 41, .inl gC)), (bT, .inl (cA, 12, .inl (copyF fK fT 12))), (m0, .inr (2, [.int 0, .int (nI n), .int rg, .int st, .ref bV, .ref bW, .ref bR, .ref bP9, .ref bK, .ref bT, .ref bC])), (bV, .inl (cA, 12, .inl fV)), (bK, .inl (cA, 12, .inl g))] [(m0, .inr (2, [.int 0, .int (nI n), .int rg, .int st, .ref bV, .ref bW, .ref bR, .ref bP9, .ref bK, .ref bT, .ref bC])), (bK, .inl (cA, 12, .inl g)), (bT, .inl (cA, 12, .inl (copyF fK fT 12)))] [(bW, .inl (cA, 12, .inl fW)), (bR, .inl (cA, 12, .inl fR)), (bP9, .inl (cA, 12, .inl fP)), (bC, .inl (cA, 41, .inl gC)), (bV, .inl (cA, 12, .inl fV))] [(cA, .int)] [(cA, .int)] [5, 7, 4] [0, 1, 2, 3, 6] [0] := ⟨rfl, rfl, rfl, rfl, by decide, rfl⟩
          refine kv hX_13 hP hD hS hA (kRunV (q := (RX2, TX2, 11)) (As := []) (rest := []) F (c_X2_bringBack l D cA m0 0 n rg st bV bW bR bP9 bK bT bC g (copyF fK fT 12) H.size) (cwV 0 hts gX2_roundsUntilTreaty_X2_bringBack rfl rfl rfl (by decide +kernel) ⟨Nat.le_of_ble_eq_true rfl, Nat.le_of_ble_eq_true rfl⟩) hK hP hD hX_13 5 rfl rfl rfl hl.1 rfl (Nat.le_of_ble_eq_true rfl) dX2_roundsUntilTreaty_36 ⟨Nat.le_of_ble_eq_true rfl, Nat.le_of_ble_eq_true rfl⟩) (fun u_15 H locs hw_16 hP hD hS => ?_)
          have hw_16 : True := hw_16
          have hP : va_P D vwCl [(bW, .inl (cA, 12, .inl fW)), (bR, .inl (cA, 12, .inl fR)), (bP9, .inl (cA, 12, .inl fP)), (bC, .inl (cA, 41, .inl gC)), (bV, .inl (cA, 12, .inl fV)), (m0, .inr (2, [.int 0, .int (nI n), .int rg, .int st, .ref bV, .ref bW, .ref bR, .ref bP9, .ref bK, .ref bT, .ref bC])), (bK, .inl (cA, 12, .inl (copyF (copyF fK fT 12) g 12))), (bT, .inl (cA, 12, .inl (copyF fK fT 12)))] H := hP
          have hD : va_D A [(bW, .inl (cA, 12, .inl fW)), (bR, .inl (cA, 12, .inl fR)), (bP9, .inl (cA, 12, .inl fP)), (bC, .inl (cA, 41, .inl gC)), (bV, .inl (cA, 12, .inl fV)), (m0, .inr (2, [.int 0, .int (nI n), .int rg, .int st, .ref bV, .ref bW, .ref bR, .ref bP9, .ref bK, .ref bT, .ref bC])), (bK, .inl (cA, 12, .inl (copyF (copyF fK fT 12) g 12))), (bT, .inl (cA, 12, .inl (copyF fK fT 12)))] := hD
          obtain ⟨hP, hD⟩ := w_cg (g := fK) hP hD 6 rfl (fun i9 h9 => by simp [copyF, h9])
          have hP : va_P D vwCl [(bW, .inl (cA, 12, .inl fW)), (bR, .inl (cA, 12, .inl fR)), (bP9, .inl (cA, 12, .inl fP)), (bC, .inl (cA, 41, .inl gC)), (bV, .inl (cA, 12, .inl fV)), (m0, .inr (2, [.int 0, .int (nI n), .int rg, .int st, .ref bV, .ref bW, .ref bR, .ref bP9, .ref bK, .ref bT, .ref bC])), (bK, .inl (cA, 12, .inl fK)), (bT, .inl (cA, 12, .inl (copyF fK fT 12)))] H := hP
          have hD : va_D A [(bW, .inl (cA, 12, .inl fW)), (bR, .inl (cA, 12, .inl fR)), (bP9, .inl (cA, 12, .inl fP)), (bC, .inl (cA, 41, .inl gC)), (bV, .inl (cA, 12, .inl fV)), (m0, .inr (2, [.int 0, .int (nI n), .int rg, .int st, .ref bV, .ref bW, .ref bR, .ref bP9, .ref bK, .ref bT, .ref bC])), (bK, .inl (cA, 12, .inl fK)), (bT, .inl (cA, 12, .inl (copyF fK fT 12)))] := hD
          refine lv_iload_n hx hb dX2_roundsUntilTreaty_39 rfl (lv_at hl 0 rfl) ?_
          refine lv_bipush (v := 100) hx hb dX2_roundsUntilTreaty_40 (by decide) ?_
          refine lv_icmp_le (tgt := 49) hx hb dX2_roundsUntilTreaty_42 (by decide) (fun c_42 => ?_) (fun c_42 => ?_)
          · skip
            have g_42 : i ≤ 100 := nf_le_t (by omega) (by omega) c_42
            refine lv_iload_n hx hb dX2_roundsUntilTreaty_49 rfl (lv_at hl 0 rfl) ?_
            refine useQ hQ ?_
            exact e_i (v := nI i) F hr hlocks hK hP hD hS [5, 4, 0, 1, 2, 6, 3, 7] [0] (gC, (copyF fK fT 12)) (fstF_eq (fun _ => Iff.rfl) (Or.inl ⟨i, by omega, rfl, hP9, hfst⟩)) rfl rfl rfl (Nat.le_of_ble_eq_true rfl) (Nat.le_of_ble_eq_true rfl) dX2_roundsUntilTreaty_50
          · skip
            have g_42 : 100 < i := nf_le_f (by omega) (by omega) c_42
            exact absurd g_42 (by omega)
        · skip
          have hnP : ¬ agreeP fV (rnds fW fR fP n st fK i).1 n := by rw [← hT]; exact bP_eq c_21
          refine lv_aload_n hx hb dX2_roundsUntilTreaty_24 rfl (lv_at hl 1 rfl) ?_
          have hX_17 : Cut D A [(bW, .inl (cA, 12, .inl fW)), (bR, .inl (cA, 12, .inl fR)), (bP9, .inl (cA, 12, .inl fP)), (bC, .inl (cA, 41, .inl gC)), (bT, .inl (cA, 12, .inl (copyF fK fT 12))), (m0, .inr (2, [.int 0, .int (nI n), .int rg, .int st, .ref bV, .ref bW, .ref bR, .ref bP9, .ref bK, .ref bT, .ref bC])), (bV, .inl (cA, 12, .inl fV)), (bK, .inl (cA, 12, .inl g))] [(m0, .inr (2, [.int 0, .int (nI n), .int rg, .int st, .ref bV, .ref bW, .ref bR, .ref bP9, .ref bK, .ref bT, .ref bC])), (bV, .inl (cA, 12, .inl fV)), (bW, .inl (cA, 12, .inl fW)), (bR, .inl (cA, 12, .inl fR)), (bP9, .inl (cA, 12, .inl fP)), (bK, .inl (cA, 12, .inl g)), (bC, .inl (cA, 41, .inl gC))] [(bT, .inl (cA, 12, .inl (copyF fK fT 12)))] [(cA, .int)] [(cA, .int)] [5, 6, 0, 1, 2, 7, 3] [4] [0] := ⟨rfl, rfl, rfl, rfl, by decide, rfl⟩
          refine ki hX_17 hP hD hS hA (kRunV (q := (RX2, TX2, 11)) (As := []) (rest := []) F (c_X2_roundOn l D cA m0 0 n rg st bV bW bR bP9 bK bT bC fV fW fR fP g gC hn hG H.size) (cwV 0 hts gX2_roundsUntilTreaty_X2_roundOn rfl rfl rfl (by decide +kernel) ⟨Nat.le_of_ble_eq_true rfl, Nat.le_of_ble_eq_true rfl⟩) hK hP hD hX_17 5 rfl rfl rfl hl.1 rfl (Nat.le_of_ble_eq_true rfl) dX2_roundsUntilTreaty_25 ⟨Nat.le_of_ble_eq_true rfl, Nat.le_of_ble_eq_true rfl⟩) (fun r_18 u_19 H locs hw_20 hP hD hS => ?_)
          have hw_20 : r_18 = rndM fW fR fP n st g := hw_20
          rw [hw_20]
          have hP : va_P D vwCl [(bT, .inl (cA, 12, .inl (copyF fK fT 12))), (m0, .inr (2, [.int 0, .int (nI n), .int rg, .int st, .ref bV, .ref bW, .ref bR, .ref bP9, .ref bK, .ref bT, .ref bC])), (bV, .inl (cA, 12, .inl fV)), (bW, .inl (cA, 12, .inl fW)), (bR, .inl (cA, 12, .inl fR)), (bP9, .inl (cA, 12, .inl fP)), (bK, .inl (cA, 12, .inl (rndF fW fR fP n st g))), (bC, .inl (cA, 41, .inl u_19))] H := hP
          have hD : va_D A [(bT, .inl (cA, 12, .inl (copyF fK fT 12))), (m0, .inr (2, [.int 0, .int (nI n), .int rg, .int st, .ref bV, .ref bW, .ref bR, .ref bP9, .ref bK, .ref bT, .ref bC])), (bV, .inl (cA, 12, .inl fV)), (bW, .inl (cA, 12, .inl fW)), (bR, .inl (cA, 12, .inl fR)), (bP9, .inl (cA, 12, .inl fP)), (bK, .inl (cA, 12, .inl (rndF fW fR fP n st g))), (bC, .inl (cA, 41, .inl u_19))] := hD
          refine lv_pop hx hb dX2_roundsUntilTreaty_28 rfl ?_
          refine lv_iinc (v := nI (i + 1)) (lv' := [(1, .int (nI (i + 1))), (0, .ref m0)]) hx hb dX2_roundsUntilTreaty_29 hl (k := 0) rfl (nI_1 _) (by decide) rfl (fun ls hl => ?_)
          refine lv_goto (tgt := 11) hx hb dX2_roundsUntilTreaty_32 (by decide) ?_
          exact ih11 (i + 1) (rndF fW fR fP n st g) u_19 (by omega) (by omega) (by rw [rnds_s, hT]) (fun j a => if h : j = i then (h ▸ hnP) else hfst j (by omega)) _ _ (hP.sub [2, 3, 4, 5, 7, 1, 6, 0] rfl) (hD.sub [2, 3, 4, 5, 7, 1, 6, 0] (by decide) rfl) hS ls (lv_sub hl [0, 1] rfl)
  exact loop11 (102) 0 fK fC (by omega) (by omega) rfl (fun j a => absurd a (Nat.not_lt_zero _)) _ _ (hP.sub [0, 1, 2, 3, 4, 5, 6, 7] rfl) (hD.sub [0, 1, 2, 3, 4, 5, 6, 7] (by decide) rfl) hS ls (lv_sub hl [0, 1] rfl)
set_option maxHeartbeats 4000000 in
set_option maxRecDepth 100000 in
theorem c_X2_untilStill (l : Launch) (D : va_G) (cA : ClassId) (m0 : Nat) (th : Int32) (n : Nat) (rg : Int32) (st : Int32) (bV : Nat) (bW : Nat) (bR : Nat) (bP9 : Nat) (bK : Nat) (bT : Nat) (bC : Nat) (fV : Nat → Int32) (fW : Nat → Int32) (fR : Nat → Int32) (fP : Nat → Int32) (fK : Nat → Int32) (fC : Nat → Int32) (fT : Nat → Int32) (hn : n ≤ 12) (hI : Inv fW fR fP fK n) (sz : Nat) : Met l yX2_untilStill wsX2_untilStill ({ frames := 3, cells := 0, slots := 0, locals := 80 } : Room) (va_Pc [.ref m0] (Wd D [(cA, .int)] [(m0, .inr (2, [.int th, .int (nI n), .int rg, .int st, .ref bV, .ref bW, .ref bR, .ref bP9, .ref bK, .ref bT, .ref bC])), (bV, .inl (cA, 12, .inl fV)), (bW, .inl (cA, 12, .inl fW)), (bR, .inl (cA, 12, .inl fR)), (bP9, .inl (cA, 12, .inl fP)), (bK, .inl (cA, 12, .inl fK)), (bC, .inl (cA, 41, .inl fC)), (bT, .inl (cA, 12, .inl fT))] sz)) (va_Qi (fun (r : Int32) (u : (Nat → Int32) × (Nat → Int32)) => r = untilS fW fR fP n st fK) (fun (u : (Nat → Int32) × (Nat → Int32)) t => We D [(cA, .int)] [(m0, .inr (2, [.int th, .int (nI n), .int rg, .int st, .ref bV, .ref bW, .ref bR, .ref bP9, .ref bK, .ref bT, .ref bC])), (bV, .inl (cA, 12, .inl fV)), (bW, .inl (cA, 12, .inl fW)), (bR, .inl (cA, 12, .inl fR)), (bP9, .inl (cA, 12, .inl fP)), (bK, .inl (cA, 12, .inl fK)), (bC, .inl (cA, 41, .inl u.1)), (bT, .inl (cA, 12, .inl u.2))] (va_A [(m0, .inr (2, [.int th, .int (nI n), .int rg, .int st, .ref bV, .ref bW, .ref bR, .ref bP9, .ref bK, .ref bT, .ref bC])), (bV, .inl (cA, 12, .inl fV)), (bW, .inl (cA, 12, .inl fW)), (bR, .inl (cA, 12, .inl fR)), (bP9, .inl (cA, 12, .inl fP)), (bK, .inl (cA, 12, .inl fK)), (bC, .inl (cA, 41, .inl fC)), (bT, .inl (cA, 12, .inl fT))] sz) t) (va_A [(m0, .inr (2, [.int th, .int (nI n), .int rg, .int st, .ref bV, .ref bW, .ref bR, .ref bP9, .ref bK, .ref bT, .ref bC])), (bV, .inl (cA, 12, .inl fV)), (bW, .inl (cA, 12, .inl fW)), (bR, .inl (cA, 12, .inl fR)), (bP9, .inl (cA, 12, .inl fP)), (bK, .inl (cA, 12, .inl fK)), (bC, .inl (cA, 41, .inl fC)), (bT, .inl (cA, 12, .inl fT))] sz)) 0 0 (va_A [(m0, .inr (2, [.int th, .int (nI n), .int rg, .int st, .ref bV, .ref bW, .ref bR, .ref bP9, .ref bK, .ref bT, .ref bC])), (bV, .inl (cA, 12, .inl fV)), (bW, .inl (cA, 12, .inl fW)), (bR, .inl (cA, 12, .inl fR)), (bP9, .inl (cA, 12, .inl fP)), (bK, .inl (cA, 12, .inl fK)), (bC, .inl (cA, 41, .inl fC)), (bT, .inl (cA, 12, .inl fT))] sz) := by
  refine mk_met [.ref m0] (fun A => va_Qi (fun (r : Int32) (u : (Nat → Int32) × (Nat → Int32)) => r = untilS fW fR fP n st fK) (fun (u : (Nat → Int32) × (Nat → Int32)) t => We D [(cA, .int)] [(m0, .inr (2, [.int th, .int (nI n), .int rg, .int st, .ref bV, .ref bW, .ref bR, .ref bP9, .ref bK, .ref bT, .ref bC])), (bV, .inl (cA, 12, .inl fV)), (bW, .inl (cA, 12, .inl fW)), (bR, .inl (cA, 12, .inl fR)), (bP9, .inl (cA, 12, .inl fP)), (bK, .inl (cA, 12, .inl fK)), (bC, .inl (cA, 41, .inl u.1)), (bT, .inl (cA, 12, .inl u.2))] A t) A) (by decide) rfl (Nat.le_of_ble_eq_true rfl) ?_
  intro p e s m args below meth c A ls F hr hlocks hname hP hK hD hA hl
  have hx := F.1
  have hb := F.2.1
  have hml := F.2.2.1
  have hown := F.2.2.2.1
  have hts := F.2.2.2.2
  have hS : va_S A s.heap s.heap [] := va_S.rf
  have hl : lv_has ls 2 [(0, .ref m0)] := hl
  refine absQ (fun Q hQ => ?_)
  refine lv_aload_n hx hb dX2_untilStill_0 rfl (lv_at hl 0 rfl) ?_
  have hX_1 : Cut D A [(m0, .inr (2, [.int th, .int (nI n), .int rg, .int st, .ref bV, .ref bW, .ref bR, .ref bP9, .ref bK, .ref bT, .ref bC])), (bV, .inl (cA, 12, .inl fV)), (bW, .inl (cA, 12, .inl fW)), (bR, .inl (cA, 12, .inl fR)), (bP9, .inl (cA, 12, .inl fP)), (bK, .inl (cA, 12, .inl fK)), (bC, .inl (cA, 41, .inl fC)), (bT, .inl (cA, 12, .inl fT))] [(m0, .inr (2, [.int th, .int (nI n), .int rg, .int st, .ref bV, .ref bW, .ref bR, .ref bP9, .ref bK, .ref bT, .ref bC])), (bK, .inl (cA, 12, .inl fK)), (bT, .inl (cA, 12, .inl fT))] [(bV, .inl (cA, 12, .inl fV)), (bW, .inl (cA, 12, .inl fW)), (bR, .inl (cA, 12, .inl fR)), (bP9, .inl (cA, 12, .inl fP)), (bC, .inl (cA, 41, .inl fC))] [(cA, .int)] [(cA, .int)] [0, 5, 7] [1, 2, 3, 4, 6] [0] := ⟨rfl, rfl, rfl, rfl, by decide, rfl⟩
  refine kv hX_1 hP hD hS hA (kRunV (q := (RX2, TX2, 11)) (As := []) (rest := []) F (c_X2_keep l D cA m0 th n rg st bV bW bR bP9 bK bT bC fK fT s.heap.size) (cwV 0 hts gX2_untilStill_X2_keep rfl rfl rfl (by decide +kernel) ⟨Nat.le_of_ble_eq_true rfl, Nat.le_of_ble_eq_true rfl⟩) hK hP hD hX_1 0 rfl rfl rfl hl.1 rfl (Nat.le_of_ble_eq_true rfl) dX2_untilStill_1 ⟨Nat.le_of_ble_eq_true rfl, Nat.le_of_ble_eq_true rfl⟩) (fun u_3 H locs hw_4 hP hD hS => ?_)
  have hw_4 : True := hw_4
  have hP : va_P D vwCl [(bV, .inl (cA, 12, .inl fV)), (bW, .inl (cA, 12, .inl fW)), (bR, .inl (cA, 12, .inl fR)), (bP9, .inl (cA, 12, .inl fP)), (bC, .inl (cA, 41, .inl fC)), (m0, .inr (2, [.int th, .int (nI n), .int rg, .int st, .ref bV, .ref bW, .ref bR, .ref bP9, .ref bK, .ref bT, .ref bC])), (bK, .inl (cA, 12, .inl fK)), (bT, .inl (cA, 12, .inl (copyF fK fT 12)))] H := hP
  have hD : va_D A [(bV, .inl (cA, 12, .inl fV)), (bW, .inl (cA, 12, .inl fW)), (bR, .inl (cA, 12, .inl fR)), (bP9, .inl (cA, 12, .inl fP)), (bC, .inl (cA, 41, .inl fC)), (m0, .inr (2, [.int th, .int (nI n), .int rg, .int st, .ref bV, .ref bW, .ref bR, .ref bP9, .ref bK, .ref bT, .ref bC])), (bK, .inl (cA, 12, .inl fK)), (bT, .inl (cA, 12, .inl (copyF fK fT 12)))] := hD
  refine lv_iconst (v := 0) hx hb dX2_untilStill_4 (by decide) ?_
  refine lv_istore_n (lv' := [(1, .int 0), (0, .ref m0)]) hx hb dX2_untilStill_5 rfl hl (by decide) rfl (fun ls hl => ?_)
  have loop6 : ∀ (k : Nat) (i : Nat) (g : Nat → Int32) (gC : Nat → Int32), (101 < i + k) → (i ≤ 101) → (g = (rnds fW fR fP n st fK i).1) → (∀ j, j < i → ¬ rndM fW fR fP n st (rnds fW fR fP n st fK j).1 = 0) →  ∀ (H : Heap) (locs : List Loc), va_P D vwCl [(bV, .inl (cA, 12, .inl fV)), (bW, .inl (cA, 12, .inl fW)), (bR, .inl (cA, 12, .inl fR)), (bP9, .inl (cA, 12, .inl fP)), (bC, .inl (cA, 41, .inl gC)), (m0, .inr (2, [.int th, .int (nI n), .int rg, .int st, .ref bV, .ref bW, .ref bR, .ref bP9, .ref bK, .ref bT, .ref bC])), (bK, .inl (cA, 12, .inl g)), (bT, .inl (cA, 12, .inl (copyF fK fT 12)))] H → va_D A [(bV, .inl (cA, 12, .inl fV)), (bW, .inl (cA, 12, .inl fW)), (bR, .inl (cA, 12, .inl fR)), (bP9, .inl (cA, 12, .inl fP)), (bC, .inl (cA, 41, .inl gC)), (m0, .inr (2, [.int th, .int (nI n), .int rg, .int st, .ref bV, .ref bW, .ref bR, .ref bP9, .ref bK, .ref bT, .ref bC])), (bK, .inl (cA, 12, .inl g)), (bT, .inl (cA, 12, .inl (copyF fK fT 12)))] → va_S A s.heap H locs → ∀ ls : Array Slot, lv_has ls 2 [(1, .int (nI i)), (0, .ref m0)] → W p l e ({ frames := 3, cells := 0, slots := 0, locals := 80 } : Room) s m args below meth c H locs 0 0 Q (F0 m 6 ls []) := by
    intro k
    induction k with
    | zero =>
      intro i g gC hk hi hT hfst
      exact absurd hk (by omega)
    | succ k ih6 =>
      intro i g gC hk hi hT hfst H locs hP hD hS ls hl
      have hG : Inv fW fR fP g n := by
        rw [hT]; exact rnds_ok hI i
      refine lv_iload_n hx hb dX2_untilStill_6 rfl (lv_at hl 0 rfl) ?_
      refine lv_bipush (v := 100) hx hb dX2_untilStill_7 (by decide) ?_
      refine lv_icmp_gt (tgt := 25) hx hb dX2_untilStill_9 (by decide) (fun c_9 => ?_) (fun c_9 => ?_)
      · skip
        have g_9 : 100 < i := nf_gt_t (by omega) (by omega) c_9
        refine lv_aload_n hx hb dX2_untilStill_25 rfl (lv_at hl 1 rfl) ?_
        have hX_5 : Cut D A [(bV, .inl (cA, 12, .inl fV)), (bW, .inl (cA, 12, .inl fW)), (bR, .inl (cA, 12, .inl fR)), (bP9, .inl (cA, 12, .inl fP)), (bC, .inl (cA, 41, .inl gC)), (m0, .inr (2, [.int th, .int (nI n), .int rg, .int st, .ref bV, .ref bW, .ref bR, .ref bP9, .ref bK, .ref bT, .ref bC])), (bK, .inl (cA, 12, .inl g)), (bT, .inl (cA, 12, .inl (copyF fK fT 12)))] [(m0, .inr (2, [.int th, .int (nI n), .int rg, .int st, .ref bV, .ref bW, .ref bR, .ref bP9, .ref bK, .ref bT, .ref bC])), (bK, .inl (cA, 12, .inl g)), (bT, .inl (cA, 12, .inl (copyF fK fT 12)))] [(bV, .inl (cA, 12, .inl fV)), (bW, .inl (cA, 12, .inl fW)), (bR, .inl (cA, 12, .inl fR)), (bP9, .inl (cA, 12, .inl fP)), (bC, .inl (cA, 41, .inl gC))] [(cA, .int)] [(cA, .int)] [5, 6, 7] [0, 1, 2, 3, 4] [0] := ⟨rfl, rfl, rfl, rfl, by decide, rfl⟩
        refine kv hX_5 hP hD hS hA (kRunV (q := (RX2, TX2, 11)) (As := []) (rest := []) F (c_X2_bringBack l D cA m0 th n rg st bV bW bR bP9 bK bT bC g (copyF fK fT 12) H.size) (cwV 0 hts gX2_untilStill_X2_bringBack rfl rfl rfl (by decide +kernel) ⟨Nat.le_of_ble_eq_true rfl, Nat.le_of_ble_eq_true rfl⟩) hK hP hD hX_5 5 rfl rfl rfl hl.1 rfl (Nat.le_of_ble_eq_true rfl) dX2_untilStill_26 ⟨Nat.le_of_ble_eq_true rfl, Nat.le_of_ble_eq_true rfl⟩) (fun u_7 H locs hw_8 hP hD hS => ?_)
        have hw_8 : True := hw_8
        have hP : va_P D vwCl [(bV, .inl (cA, 12, .inl fV)), (bW, .inl (cA, 12, .inl fW)), (bR, .inl (cA, 12, .inl fR)), (bP9, .inl (cA, 12, .inl fP)), (bC, .inl (cA, 41, .inl gC)), (m0, .inr (2, [.int th, .int (nI n), .int rg, .int st, .ref bV, .ref bW, .ref bR, .ref bP9, .ref bK, .ref bT, .ref bC])), (bK, .inl (cA, 12, .inl (copyF (copyF fK fT 12) g 12))), (bT, .inl (cA, 12, .inl (copyF fK fT 12)))] H := hP
        have hD : va_D A [(bV, .inl (cA, 12, .inl fV)), (bW, .inl (cA, 12, .inl fW)), (bR, .inl (cA, 12, .inl fR)), (bP9, .inl (cA, 12, .inl fP)), (bC, .inl (cA, 41, .inl gC)), (m0, .inr (2, [.int th, .int (nI n), .int rg, .int st, .ref bV, .ref bW, .ref bR, .ref bP9, .ref bK, .ref bT, .ref bC])), (bK, .inl (cA, 12, .inl (copyF (copyF fK fT 12) g 12))), (bT, .inl (cA, 12, .inl (copyF fK fT 12)))] := hD
        obtain ⟨hP, hD⟩ := w_cg (g := fK) hP hD 6 rfl (fun i9 h9 => by simp [copyF, h9])
        have hP : va_P D vwCl [(bV, .inl (cA, 12, .inl fV)), (bW, .inl (cA, 12, .inl fW)), (bR, .inl (cA, 12, .inl fR)), (bP9, .inl (cA, 12, .inl fP)), (bC, .inl (cA, 41, .inl gC)), (m0, .inr (2, [.int th, .int (nI n), .int rg, .int st, .ref bV, .ref bW, .ref bR, .ref bP9, .ref bK, .ref bT, .ref bC])), (bK, .inl (cA, 12, .inl fK)), (bT, .inl (cA, 12, .inl (copyF fK fT 12)))] H := hP
        have hD : va_D A [(bV, .inl (cA, 12, .inl fV)), (bW, .inl (cA, 12, .inl fW)), (bR, .inl (cA, 12, .inl fR)), (bP9, .inl (cA, 12, .inl fP)), (bC, .inl (cA, 41, .inl gC)), (m0, .inr (2, [.int th, .int (nI n), .int rg, .int st, .ref bV, .ref bW, .ref bR, .ref bP9, .ref bK, .ref bT, .ref bC])), (bK, .inl (cA, 12, .inl fK)), (bT, .inl (cA, 12, .inl (copyF fK fT 12)))] := hD
        refine lv_iload_n hx hb dX2_untilStill_29 rfl (lv_at hl 0 rfl) ?_
        refine lv_bipush (v := 100) hx hb dX2_untilStill_30 (by decide) ?_
        refine lv_icmp_le (tgt := 39) hx hb dX2_untilStill_32 (by decide) (fun c_32 => ?_) (fun c_32 => ?_)
        · skip
          have g_32 : i ≤ 100 := nf_le_t (by omega) (by omega) c_32
          exact absurd g_32 (by omega)
        · skip
          have g_32 : 100 < i := nf_le_f (by omega) (by omega) c_32
          refine lv_iconst (v := (-1)) hx hb dX2_untilStill_35 (by decide) ?_
          refine lv_goto (tgt := 40) hx hb dX2_untilStill_36 (by decide) ?_
          refine useQ hQ ?_
          exact e_i (v := (-1)) F hr hlocks hK hP hD hS [5, 0, 1, 2, 3, 6, 4, 7] [0] (gC, (copyF fK fT 12)) (fstF_eq (fun _ => Iff.rfl) (Or.inr ⟨rfl, fun k9 hk9 => hfst k9 (by omega)⟩)) rfl rfl rfl (Nat.le_of_ble_eq_true rfl) (Nat.le_of_ble_eq_true rfl) dX2_untilStill_40
      · skip
        have g_9 : i ≤ 100 := nf_gt_f (by omega) (by omega) c_9
        refine lv_aload_n hx hb dX2_untilStill_12 rfl (lv_at hl 1 rfl) ?_
        have hX_9 : Cut D A [(bV, .inl (cA, 12, .inl fV)), (bW, .inl (cA, 12, .inl fW)), (bR, .inl (cA, 12, .inl fR)), (bP9, .inl (cA, 12, .inl fP)), (bC, .inl (cA, 41, .inl gC)), (m0, .inr (2, [.int th, .int (nI n), .int rg, .int st, .ref bV, .ref bW, .ref bR, .ref bP9, .ref bK, .ref bT, .ref bC])), (bK, .inl (cA, 12, .inl g)), (bT, .inl (cA, 12, .inl (copyF fK fT 12)))] [(m0, .inr (2, [.int th, .int (nI n), .int rg, .int st, .ref bV, .ref bW, .ref bR, .ref bP9, .ref bK, .ref bT, .ref bC])), (bV, .inl (cA, 12, .inl fV)), (bW, .inl (cA, 12, .inl fW)), (bR, .inl (cA, 12, .inl fR)), (bP9, .inl (cA, 12, .inl fP)), (bK, .inl (cA, 12, .inl g)), (bC, .inl (cA, 41, .inl gC))] [(bT, .inl (cA, 12, .inl (copyF fK fT 12)))] [(cA, .int)] [(cA, .int)] [5, 0, 1, 2, 3, 6, 4] [7] [0] := ⟨rfl, rfl, rfl, rfl, by decide, rfl⟩
        refine ki hX_9 hP hD hS hA (kRunV (q := (RX2, TX2, 11)) (As := []) (rest := []) F (c_X2_roundOn l D cA m0 th n rg st bV bW bR bP9 bK bT bC fV fW fR fP g gC hn hG H.size) (cwV 0 hts gX2_untilStill_X2_roundOn rfl rfl rfl (by decide +kernel) ⟨Nat.le_of_ble_eq_true rfl, Nat.le_of_ble_eq_true rfl⟩) hK hP hD hX_9 5 rfl rfl rfl hl.1 rfl (Nat.le_of_ble_eq_true rfl) dX2_untilStill_13 ⟨Nat.le_of_ble_eq_true rfl, Nat.le_of_ble_eq_true rfl⟩) (fun r_10 u_11 H locs hw_12 hP hD hS => ?_)
        have hw_12 : r_10 = rndM fW fR fP n st g := hw_12
        rw [hw_12]
        have hP : va_P D vwCl [(bT, .inl (cA, 12, .inl (copyF fK fT 12))), (m0, .inr (2, [.int th, .int (nI n), .int rg, .int st, .ref bV, .ref bW, .ref bR, .ref bP9, .ref bK, .ref bT, .ref bC])), (bV, .inl (cA, 12, .inl fV)), (bW, .inl (cA, 12, .inl fW)), (bR, .inl (cA, 12, .inl fR)), (bP9, .inl (cA, 12, .inl fP)), (bK, .inl (cA, 12, .inl (rndF fW fR fP n st g))), (bC, .inl (cA, 41, .inl u_11))] H := hP
        have hD : va_D A [(bT, .inl (cA, 12, .inl (copyF fK fT 12))), (m0, .inr (2, [.int th, .int (nI n), .int rg, .int st, .ref bV, .ref bW, .ref bR, .ref bP9, .ref bK, .ref bT, .ref bC])), (bV, .inl (cA, 12, .inl fV)), (bW, .inl (cA, 12, .inl fW)), (bR, .inl (cA, 12, .inl fR)), (bP9, .inl (cA, 12, .inl fP)), (bK, .inl (cA, 12, .inl (rndF fW fR fP n st g))), (bC, .inl (cA, 41, .inl u_11))] := hD
        refine lv_if_le (tgt := 25) hx hb dX2_untilStill_16 (by decide) (fun c_16 => ?_) (fun c_16 => ?_)
        · skip
          have hP9 : rndM fW fR fP n st (rnds fW fR fP n st fK i).1 = 0 := by rw [← hT]; exact (moves_0 hn).mp c_16
          refine lv_aload_n hx hb dX2_untilStill_25 rfl (lv_at hl 1 rfl) ?_
          have hX_13 : Cut D A [(bT, .inl (cA, 12, .inl (copyF fK fT 12))), (m0, .inr (2, [.int th, .int (nI n), .int rg, .int st, .ref bV, .ref bW, .ref bR, .ref bP9, .ref bK, .ref bT, .ref bC])), (bV, .inl (cA, 12, .inl fV)), (bW, .inl (cA, 12, .inl fW)), (bR, .inl (cA, 12, .inl fR)), (bP9, .inl (cA, 12, .inl fP)), (bK, .inl (cA, 12, .inl (rndF fW fR fP n st g))), (bC, .inl (cA, 41, .inl u_11))] [(m0, .inr (2, [.int th, .int (nI n), .int rg, .int st, .ref bV, .ref bW, .ref bR, .ref bP9, .ref bK, .ref bT, .ref bC])), (bK, .inl (cA, 12, .inl (rndF fW fR fP n st g))), (bT, .inl (cA, 12, .inl (copyF fK fT 12)))] [(bV, .inl (cA, 12, .inl fV)), (bW, .inl (cA, 12, .inl fW)), (bR, .inl (cA, 12, .inl fR)), (bP9, .inl (cA, 12, .inl fP)), (bC, .inl (cA, 41, .inl u_11))] [(cA, .int)] [(cA, .int)] [1, 6, 0] [2, 3, 4, 5, 7] [0] := ⟨rfl, rfl, rfl, rfl, by decide, rfl⟩
          refine kv hX_13 hP hD hS hA (kRunV (q := (RX2, TX2, 11)) (As := []) (rest := []) F (c_X2_bringBack l D cA m0 th n rg st bV bW bR bP9 bK bT bC (rndF fW fR fP n st g) (copyF fK fT 12) H.size) (cwV 0 hts gX2_untilStill_X2_bringBack rfl rfl rfl (by decide +kernel) ⟨Nat.le_of_ble_eq_true rfl, Nat.le_of_ble_eq_true rfl⟩) hK hP hD hX_13 1 rfl rfl rfl hl.1 rfl (Nat.le_of_ble_eq_true rfl) dX2_untilStill_26 ⟨Nat.le_of_ble_eq_true rfl, Nat.le_of_ble_eq_true rfl⟩) (fun u_15 H locs hw_16 hP hD hS => ?_)
          have hw_16 : True := hw_16
          have hP : va_P D vwCl [(bV, .inl (cA, 12, .inl fV)), (bW, .inl (cA, 12, .inl fW)), (bR, .inl (cA, 12, .inl fR)), (bP9, .inl (cA, 12, .inl fP)), (bC, .inl (cA, 41, .inl u_11)), (m0, .inr (2, [.int th, .int (nI n), .int rg, .int st, .ref bV, .ref bW, .ref bR, .ref bP9, .ref bK, .ref bT, .ref bC])), (bK, .inl (cA, 12, .inl (copyF (copyF fK fT 12) (rndF fW fR fP n st g) 12))), (bT, .inl (cA, 12, .inl (copyF fK fT 12)))] H := hP
          have hD : va_D A [(bV, .inl (cA, 12, .inl fV)), (bW, .inl (cA, 12, .inl fW)), (bR, .inl (cA, 12, .inl fR)), (bP9, .inl (cA, 12, .inl fP)), (bC, .inl (cA, 41, .inl u_11)), (m0, .inr (2, [.int th, .int (nI n), .int rg, .int st, .ref bV, .ref bW, .ref bR, .ref bP9, .ref bK, .ref bT, .ref bC])), (bK, .inl (cA, 12, .inl (copyF (copyF fK fT 12) (rndF fW fR fP n st g) 12))), (bT, .inl (cA, 12, .inl (copyF fK fT 12)))] := hD
          obtain ⟨hP, hD⟩ := w_cg (g := fK) hP hD 6 rfl (fun i9 h9 => by simp [copyF, h9])
          have hP : va_P D vwCl [(bV, .inl (cA, 12, .inl fV)), (bW, .inl (cA, 12, .inl fW)), (bR, .inl (cA, 12, .inl fR)), (bP9, .inl (cA, 12, .inl fP)), (bC, .inl (cA, 41, .inl u_11)), (m0, .inr (2, [.int th, .int (nI n), .int rg, .int st, .ref bV, .ref bW, .ref bR, .ref bP9, .ref bK, .ref bT, .ref bC])), (bK, .inl (cA, 12, .inl fK)), (bT, .inl (cA, 12, .inl (copyF fK fT 12)))] H := hP
          have hD : va_D A [(bV, .inl (cA, 12, .inl fV)), (bW, .inl (cA, 12, .inl fW)), (bR, .inl (cA, 12, .inl fR)), (bP9, .inl (cA, 12, .inl fP)), (bC, .inl (cA, 41, .inl u_11)), (m0, .inr (2, [.int th, .int (nI n), .int rg, .int st, .ref bV, .ref bW, .ref bR, .ref bP9, .ref bK, .ref bT, .ref bC])), (bK, .inl (cA, 12, .inl fK)), (bT, .inl (cA, 12, .inl (copyF fK fT 12)))] := hD
          refine lv_iload_n hx hb dX2_untilStill_29 rfl (lv_at hl 0 rfl) ?_
          refine lv_bipush (v := 100) hx hb dX2_untilStill_30 (by decide) ?_
          refine lv_icmp_le (tgt := 39) hx hb dX2_untilStill_32 (by decide) (fun c_32 => ?_) (fun c_32 => ?_)
          · skip
            have g_32 : i ≤ 100 := nf_le_t (by omega) (by omega) c_32
            refine lv_iload_n hx hb dX2_untilStill_39 rfl (lv_at hl 0 rfl) ?_
            refine useQ hQ ?_
            exact e_i (v := nI i) F hr hlocks hK hP hD hS [5, 0, 1, 2, 3, 6, 4, 7] [0] (u_11, (copyF fK fT 12)) (fstF_eq (fun _ => Iff.rfl) (Or.inl ⟨i, by omega, rfl, hP9, hfst⟩)) rfl rfl rfl (Nat.le_of_ble_eq_true rfl) (Nat.le_of_ble_eq_true rfl) dX2_untilStill_40
          · skip
            have g_32 : 100 < i := nf_le_f (by omega) (by omega) c_32
            exact absurd g_32 (by omega)
        · skip
          have hnP : ¬ rndM fW fR fP n st (rnds fW fR fP n st fK i).1 = 0 := by rw [← hT]; exact fun z => c_16 ((moves_0 hn).mpr z)
          refine lv_iinc (v := nI (i + 1)) (lv' := [(1, .int (nI (i + 1))), (0, .ref m0)]) hx hb dX2_untilStill_19 hl (k := 0) rfl (nI_1 _) (by decide) rfl (fun ls hl => ?_)
          refine lv_goto (tgt := 6) hx hb dX2_untilStill_22 (by decide) ?_
          exact ih6 (i + 1) (rndF fW fR fP n st g) u_11 (by omega) (by omega) (by rw [rnds_s, hT]) (fun j a => if h : j = i then (h ▸ hnP) else hfst j (by omega)) _ _ (hP.sub [2, 3, 4, 5, 7, 1, 6, 0] rfl) (hD.sub [2, 3, 4, 5, 7, 1, 6, 0] (by decide) rfl) hS ls (lv_sub hl [0, 1] rfl)
  exact loop6 (102) 0 fK fC (by omega) (by omega) rfl (fun j a => absurd a (Nat.not_lt_zero _)) _ _ (hP.sub [0, 1, 2, 3, 4, 5, 6, 7] rfl) (hD.sub [0, 1, 2, 3, 4, 5, 6, 7] (by decide) rfl) hS ls (lv_sub hl [0, 1] rfl)
set_option maxHeartbeats 4000000 in
set_option maxRecDepth 100000 in
theorem c_X2_roundsUntilStill (l : Launch) (D : va_G) (cA : ClassId) (m0 : Nat) (th : Int32) (n : Nat) (rg : Int32) (st : Int32) (bV : Nat) (bW : Nat) (bR : Nat) (bP9 : Nat) (bK : Nat) (bT : Nat) (bC : Nat) (fV : Nat → Int32) (fW : Nat → Int32) (fR : Nat → Int32) (fP : Nat → Int32) (fK : Nat → Int32) (fC : Nat → Int32) (fT : Nat → Int32) (hn : n ≤ 12) (hI : Inv fW fR fP fK n) (sz : Nat) : Met l yX2_roundsUntilStill wsX2_roundsUntilStill ({ frames := 4, cells := 0, slots := 0, locals := 101 } : Room) (va_Pc [.ref m0] (Wd D [(cA, .int)] [(m0, .inr (2, [.int th, .int (nI n), .int rg, .int st, .ref bV, .ref bW, .ref bR, .ref bP9, .ref bK, .ref bT, .ref bC])), (bV, .inl (cA, 12, .inl fV)), (bW, .inl (cA, 12, .inl fW)), (bR, .inl (cA, 12, .inl fR)), (bP9, .inl (cA, 12, .inl fP)), (bK, .inl (cA, 12, .inl fK)), (bC, .inl (cA, 41, .inl fC)), (bT, .inl (cA, 12, .inl fT))] sz)) (va_Qi (fun (r : Int32) (u : (Nat → Int32) × (Nat → Int32)) => r = untilS fW fR fP n st fK) (fun (u : (Nat → Int32) × (Nat → Int32)) t => We D [(cA, .int)] [(m0, .inr (2, [.int 0, .int (nI n), .int rg, .int st, .ref bV, .ref bW, .ref bR, .ref bP9, .ref bK, .ref bT, .ref bC])), (bV, .inl (cA, 12, .inl fV)), (bW, .inl (cA, 12, .inl fW)), (bR, .inl (cA, 12, .inl fR)), (bP9, .inl (cA, 12, .inl fP)), (bK, .inl (cA, 12, .inl fK)), (bC, .inl (cA, 41, .inl u.1)), (bT, .inl (cA, 12, .inl u.2))] (va_A [(m0, .inr (2, [.int th, .int (nI n), .int rg, .int st, .ref bV, .ref bW, .ref bR, .ref bP9, .ref bK, .ref bT, .ref bC])), (bV, .inl (cA, 12, .inl fV)), (bW, .inl (cA, 12, .inl fW)), (bR, .inl (cA, 12, .inl fR)), (bP9, .inl (cA, 12, .inl fP)), (bK, .inl (cA, 12, .inl fK)), (bC, .inl (cA, 41, .inl fC)), (bT, .inl (cA, 12, .inl fT))] sz) t) (va_A [(m0, .inr (2, [.int th, .int (nI n), .int rg, .int st, .ref bV, .ref bW, .ref bR, .ref bP9, .ref bK, .ref bT, .ref bC])), (bV, .inl (cA, 12, .inl fV)), (bW, .inl (cA, 12, .inl fW)), (bR, .inl (cA, 12, .inl fR)), (bP9, .inl (cA, 12, .inl fP)), (bK, .inl (cA, 12, .inl fK)), (bC, .inl (cA, 41, .inl fC)), (bT, .inl (cA, 12, .inl fT))] sz)) 0 0 (va_A [(m0, .inr (2, [.int th, .int (nI n), .int rg, .int st, .ref bV, .ref bW, .ref bR, .ref bP9, .ref bK, .ref bT, .ref bC])), (bV, .inl (cA, 12, .inl fV)), (bW, .inl (cA, 12, .inl fW)), (bR, .inl (cA, 12, .inl fR)), (bP9, .inl (cA, 12, .inl fP)), (bK, .inl (cA, 12, .inl fK)), (bC, .inl (cA, 41, .inl fC)), (bT, .inl (cA, 12, .inl fT))] sz) := by
  refine mk_met [.ref m0] (fun A => va_Qi (fun (r : Int32) (u : (Nat → Int32) × (Nat → Int32)) => r = untilS fW fR fP n st fK) (fun (u : (Nat → Int32) × (Nat → Int32)) t => We D [(cA, .int)] [(m0, .inr (2, [.int 0, .int (nI n), .int rg, .int st, .ref bV, .ref bW, .ref bR, .ref bP9, .ref bK, .ref bT, .ref bC])), (bV, .inl (cA, 12, .inl fV)), (bW, .inl (cA, 12, .inl fW)), (bR, .inl (cA, 12, .inl fR)), (bP9, .inl (cA, 12, .inl fP)), (bK, .inl (cA, 12, .inl fK)), (bC, .inl (cA, 41, .inl u.1)), (bT, .inl (cA, 12, .inl u.2))] A t) A) (by decide) rfl (Nat.le_of_ble_eq_true rfl) ?_
  intro p e s m args below meth c A ls F hr hlocks hname hP hK hD hA hl
  have hx := F.1
  have hb := F.2.1
  have hml := F.2.2.1
  have hown := F.2.2.2.1
  have hts := F.2.2.2.2
  have hS : va_S A s.heap s.heap [] := va_S.rf
  have hl : lv_has ls 1 [(0, .ref m0)] := hl
  refine absQ (fun Q hQ => ?_)
  refine lv_aload_n hx hb dX2_roundsUntilStill_0 rfl (lv_at hl 0 rfl) ?_
  refine lv_aload_n hx hb dX2_roundsUntilStill_1 rfl (lv_at hl 0 rfl) ?_
  have hX_1 : Cut D A [(m0, .inr (2, [.int th, .int (nI n), .int rg, .int st, .ref bV, .ref bW, .ref bR, .ref bP9, .ref bK, .ref bT, .ref bC])), (bV, .inl (cA, 12, .inl fV)), (bW, .inl (cA, 12, .inl fW)), (bR, .inl (cA, 12, .inl fR)), (bP9, .inl (cA, 12, .inl fP)), (bK, .inl (cA, 12, .inl fK)), (bC, .inl (cA, 41, .inl fC)), (bT, .inl (cA, 12, .inl fT))] [(m0, .inr (2, [.int th, .int (nI n), .int rg, .int st, .ref bV, .ref bW, .ref bR, .ref bP9, .ref bK, .ref bT, .ref bC])), (bV, .inl (cA, 12, .inl fV)), (bW, .inl (cA, 12, .inl fW)), (bR, .inl (cA, 12, .inl fR)), (bP9, .inl (cA, 12, .inl fP)), (bK, .inl (cA, 12, .inl fK)), (bC, .inl (cA, 41, .inl fC)), (bT, .inl (cA, 12, .inl fT))] [] [(cA, .int)] [(cA, .int)] [0, 1, 2, 3, 4, 5, 6, 7] [] [0] := ⟨rfl, rfl, rfl, rfl, by decide, rfl⟩
  refine ki hX_1 hP hD hS hA (kRunV (q := (RX2, TX2, 11)) (As := []) (rest := [.ref m0]) F (c_X2_untilStill l D cA m0 th n rg st bV bW bR bP9 bK bT bC fV fW fR fP fK fC fT hn hI s.heap.size) (cwV 0 hts gX2_roundsUntilStill_X2_untilStill rfl rfl rfl (by decide +kernel) ⟨Nat.le_of_ble_eq_true rfl, Nat.le_of_ble_eq_true rfl⟩) hK hP hD hX_1 0 rfl rfl rfl hl.1 rfl (Nat.le_of_ble_eq_true rfl) dX2_roundsUntilStill_2 ⟨Nat.le_of_ble_eq_true rfl, Nat.le_of_ble_eq_true rfl⟩) (fun r_2 u_3 H locs hw_4 hP hD hS => ?_)
  have hw_4 : r_2 = untilS fW fR fP n st fK := hw_4
  rw [hw_4]
  have hP : va_P D vwCl [(m0, .inr (2, [.int th, .int (nI n), .int rg, .int st, .ref bV, .ref bW, .ref bR, .ref bP9, .ref bK, .ref bT, .ref bC])), (bV, .inl (cA, 12, .inl fV)), (bW, .inl (cA, 12, .inl fW)), (bR, .inl (cA, 12, .inl fR)), (bP9, .inl (cA, 12, .inl fP)), (bK, .inl (cA, 12, .inl fK)), (bC, .inl (cA, 41, .inl u_3.1)), (bT, .inl (cA, 12, .inl u_3.2))] H := hP
  have hD : va_D A [(m0, .inr (2, [.int th, .int (nI n), .int rg, .int st, .ref bV, .ref bW, .ref bR, .ref bP9, .ref bK, .ref bT, .ref bC])), (bV, .inl (cA, 12, .inl fV)), (bW, .inl (cA, 12, .inl fW)), (bR, .inl (cA, 12, .inl fR)), (bP9, .inl (cA, 12, .inl fP)), (bK, .inl (cA, 12, .inl fK)), (bC, .inl (cA, 41, .inl u_3.1)), (bT, .inl (cA, 12, .inl u_3.2))] := hD
  have hX_5 : Cut D A [(m0, .inr (2, [.int th, .int (nI n), .int rg, .int st, .ref bV, .ref bW, .ref bR, .ref bP9, .ref bK, .ref bT, .ref bC])), (bV, .inl (cA, 12, .inl fV)), (bW, .inl (cA, 12, .inl fW)), (bR, .inl (cA, 12, .inl fR)), (bP9, .inl (cA, 12, .inl fP)), (bK, .inl (cA, 12, .inl fK)), (bC, .inl (cA, 41, .inl u_3.1)), (bT, .inl (cA, 12, .inl u_3.2))] [(m0, .inr (2, [.int th, .int (nI n), .int rg, .int st, .ref bV, .ref bW, .ref bR, .ref bP9, .ref bK, .ref bT, .ref bC]))] [(bV, .inl (cA, 12, .inl fV)), (bW, .inl (cA, 12, .inl fW)), (bR, .inl (cA, 12, .inl fR)), (bP9, .inl (cA, 12, .inl fP)), (bK, .inl (cA, 12, .inl fK)), (bC, .inl (cA, 41, .inl u_3.1)), (bT, .inl (cA, 12, .inl u_3.2))] [(cA, .int)] [(cA, .int)] [0] [1, 2, 3, 4, 5, 6, 7] [0] := ⟨rfl, rfl, rfl, rfl, by decide, rfl⟩
  refine ki hX_5 hP hD hS hA (kRunV (q := (RX2, TX2, 11)) (As := [.int (untilS fW fR fP n st fK)]) (rest := []) F (c_X2_told l D cA m0 th n rg st bV bW bR bP9 bK bT bC (untilS fW fR fP n st fK) H.size) (cwV 1 hts gX2_roundsUntilStill_X2_told rfl rfl rfl (by decide +kernel) ⟨Nat.le_of_ble_eq_true rfl, Nat.le_of_ble_eq_true rfl⟩) hK hP hD hX_5 0 rfl rfl rfl hl.1 rfl (Nat.le_of_ble_eq_true rfl) dX2_roundsUntilStill_5 ⟨Nat.le_of_ble_eq_true rfl, Nat.le_of_ble_eq_true rfl⟩) (fun r_6 u_7 H locs hw_8 hP hD hS => ?_)
  have hw_8 : r_6 = (untilS fW fR fP n st fK) := hw_8
  rw [hw_8]
  have hP : va_P D vwCl [(bV, .inl (cA, 12, .inl fV)), (bW, .inl (cA, 12, .inl fW)), (bR, .inl (cA, 12, .inl fR)), (bP9, .inl (cA, 12, .inl fP)), (bK, .inl (cA, 12, .inl fK)), (bC, .inl (cA, 41, .inl u_3.1)), (bT, .inl (cA, 12, .inl u_3.2)), (m0, .inr (2, [.int 0, .int (nI n), .int rg, .int st, .ref bV, .ref bW, .ref bR, .ref bP9, .ref bK, .ref bT, .ref bC]))] H := hP
  have hD : va_D A [(bV, .inl (cA, 12, .inl fV)), (bW, .inl (cA, 12, .inl fW)), (bR, .inl (cA, 12, .inl fR)), (bP9, .inl (cA, 12, .inl fP)), (bK, .inl (cA, 12, .inl fK)), (bC, .inl (cA, 41, .inl u_3.1)), (bT, .inl (cA, 12, .inl u_3.2)), (m0, .inr (2, [.int 0, .int (nI n), .int rg, .int st, .ref bV, .ref bW, .ref bR, .ref bP9, .ref bK, .ref bT, .ref bC]))] := hD
  refine useQ hQ ?_
  exact e_i (v := (untilS fW fR fP n st fK)) F hr hlocks hK hP hD hS [7, 0, 1, 2, 3, 4, 5, 6] [0] (u_3.1, u_3.2) rfl rfl rfl rfl (Nat.le_of_ble_eq_true rfl) (Nat.le_of_ble_eq_true rfl) dX2_roundsUntilStill_8
theorem uX2_X2_meanPlank : ∀ w ∈ u_ws RX2 TX2 11, w ∈ wsX2_meanPlank := (fun _ h => List.mem_cons_of_mem _ (List.mem_append_right _ h))
set_option maxHeartbeats 4000000 in
set_option maxRecDepth 100000 in
theorem c_X2_meanPlank (l : Launch) (D : va_G) (cA : ClassId) (m0 : Nat) (th : Int32) (n : Nat) (rg : Int32) (st : Int32) (bV : Nat) (bW : Nat) (bR : Nat) (bP9 : Nat) (bK : Nat) (bT : Nat) (bC : Nat) (fK : Nat → Int32) (hn : n ≤ 12) (hI : ∀ i, i < n → okD 41 (fK i)) (sz : Nat) : Met l yX2_meanPlank wsX2_meanPlank ({ frames := 0, cells := 0, slots := 0, locals := 0 } : Room) (va_Pc [.ref m0] (Wd D [(cA, .int)] [(m0, .inr (2, [.int th, .int (nI n), .int rg, .int st, .ref bV, .ref bW, .ref bR, .ref bP9, .ref bK, .ref bT, .ref bC])), (bK, .inl (cA, 12, .inl fK))] sz)) (va_Qd (fun (r : UInt64) (_ : Unit) => r = meanD fK n) (fun (_ : Unit) t => We D [(cA, .int)] [(m0, .inr (2, [.int 0, .int (nI n), .int rg, .int st, .ref bV, .ref bW, .ref bR, .ref bP9, .ref bK, .ref bT, .ref bC])), (bK, .inl (cA, 12, .inl fK))] (va_A [(m0, .inr (2, [.int th, .int (nI n), .int rg, .int st, .ref bV, .ref bW, .ref bR, .ref bP9, .ref bK, .ref bT, .ref bC])), (bK, .inl (cA, 12, .inl fK))] sz) t) (va_A [(m0, .inr (2, [.int th, .int (nI n), .int rg, .int st, .ref bV, .ref bW, .ref bR, .ref bP9, .ref bK, .ref bT, .ref bC])), (bK, .inl (cA, 12, .inl fK))] sz)) 0 0 (va_A [(m0, .inr (2, [.int th, .int (nI n), .int rg, .int st, .ref bV, .ref bW, .ref bR, .ref bP9, .ref bK, .ref bT, .ref bC])), (bK, .inl (cA, 12, .inl fK))] sz) := by
  refine mk_met [.ref m0] (fun A => va_Qd (fun (r : UInt64) (_ : Unit) => r = meanD fK n) (fun (_ : Unit) t => We D [(cA, .int)] [(m0, .inr (2, [.int 0, .int (nI n), .int rg, .int st, .ref bV, .ref bW, .ref bR, .ref bP9, .ref bK, .ref bT, .ref bC])), (bK, .inl (cA, 12, .inl fK))] A t) A) (by decide) rfl (Nat.le_of_ble_eq_true rfl) ?_
  intro p e s m args below meth c A ls F hr hlocks hname hP hK hD hA hl
  have hx := F.1
  have hb := F.2.1
  have hml := F.2.2.1
  have hown := F.2.2.2.1
  have hts := F.2.2.2.2
  have hS : va_S A s.heap s.heap [] := va_S.rf
  have hl : lv_has ls 3 [(0, .ref m0)] := hl
  refine absQ (fun Q hQ => ?_)
  refine lv_aload_n hx hb dX2_meanPlank_0 rfl (lv_at hl 0 rfl) ?_
  refine lv_iconst (v := 0) hx hb dX2_meanPlank_1 (by decide) ?_
  refine va_put (D := D) (ci := 2) (v := .int 0) (ty := .int) (C := RX2) (T := TX2) (N := 11) hx hb hts uX2_X2_meanPlank tyX2 tyX2_ok nmX2 hown hK hP hD hS 0 rfl rfl 0 (by decide) (hts (.fieldLink RX2 35 "RopeChoicesModel" "thrown" "I") (List.mem_of_getElem? (i := 1) rfl)) (fun _ h9 => h9) rfl (by decide +kernel) rfl rfl (Nat.le_of_ble_eq_true rfl) dX2_meanPlank_2 (fun H locs hP hD hS => ?_)
  have hP : va_P D vwCl [(m0, .inr (2, [.int 0, .int (nI n), .int rg, .int st, .ref bV, .ref bW, .ref bR, .ref bP9, .ref bK, .ref bT, .ref bC])), (bK, .inl (cA, 12, .inl fK))] H := hP
  have hD : va_D A [(m0, .inr (2, [.int 0, .int (nI n), .int rg, .int st, .ref bV, .ref bW, .ref bR, .ref bP9, .ref bK, .ref bT, .ref bC])), (bK, .inl (cA, 12, .inl fK))] := hD
  refine lv_iconst (v := 0) hx hb dX2_meanPlank_5 (by decide) ?_
  refine lv_istore_n (lv' := [(1, .int 0), (0, .ref m0)]) hx hb dX2_meanPlank_6 rfl hl (by decide) rfl (fun ls hl => ?_)
  refine lv_iconst (v := 0) hx hb dX2_meanPlank_7 (by decide) ?_
  refine lv_istore_n (lv' := [(2, .int 0), (1, .int 0), (0, .ref m0)]) hx hb dX2_meanPlank_8 rfl hl (by decide) rfl (fun ls hl => ?_)
  have loop9 : ∀ (k : Nat) (i : Nat) (v : Int32), (n < i + k) → (i ≤ n) → (v = sumF fK i) →  ∀ (H : Heap) (locs : List Loc), va_P D vwCl [(m0, .inr (2, [.int 0, .int (nI n), .int rg, .int st, .ref bV, .ref bW, .ref bR, .ref bP9, .ref bK, .ref bT, .ref bC])), (bK, .inl (cA, 12, .inl fK))] H → va_D A [(m0, .inr (2, [.int 0, .int (nI n), .int rg, .int st, .ref bV, .ref bW, .ref bR, .ref bP9, .ref bK, .ref bT, .ref bC])), (bK, .inl (cA, 12, .inl fK))] → va_S A s.heap H locs → ∀ ls : Array Slot, lv_has ls 3 [(2, .int (nI i)), (1, .int v), (0, .ref m0)] → W p l e ({ frames := 0, cells := 0, slots := 0, locals := 0 } : Room) s m args below meth c H locs 0 0 Q (F0 m 9 ls []) := by
    intro k
    induction k with
    | zero =>
      intro i v hk hi hv
      exact absurd hk (by omega)
    | succ k ih9 =>
      intro i v hk hi hv H locs hP hD hS ls hl
      refine lv_iload_n hx hb dX2_meanPlank_9 rfl (lv_at hl 0 rfl) ?_
      refine lv_aload_n hx hb dX2_meanPlank_10 rfl (lv_at hl 2 rfl) ?_
      refine va_get (D := D) (ci := 2) (v := .int (nI n)) (C := RX2) (T := TX2) (N := 11) hx hb hts uX2_X2_meanPlank hown hK hP 0 rfl rfl 1 (by decide) (hts (.fieldLink RX2 38 "RopeChoicesModel" "many" "I") (List.mem_of_getElem? (i := 2) rfl)) (fun _ h9 => h9) rfl dX2_meanPlank_11 ?_
      refine lv_icmp_ge (tgt := 32) hx hb dX2_meanPlank_14 (by decide) (fun c_14 => ?_) (fun c_14 => ?_)
      · skip
        have g_14 : n ≤ i := nf_ge_t (by omega) (by omega) c_14
        rw [show i = n by omega] at hv
        refine lv_aload_n hx hb dX2_meanPlank_32 rfl (lv_at hl 2 rfl) ?_
        refine va_get (D := D) (ci := 2) (v := .int (nI n)) (C := RX2) (T := TX2) (N := 11) hx hb hts uX2_X2_meanPlank hown hK hP 0 rfl rfl 1 (by decide) (hts (.fieldLink RX2 38 "RopeChoicesModel" "many" "I") (List.mem_of_getElem? (i := 2) rfl)) (fun _ h9 => h9) rfl dX2_meanPlank_33 ?_
        refine lv_if_ne (tgt := 43) hx hb dX2_meanPlank_36 (by decide) (fun c_36 => ?_) (fun c_36 => ?_)
        · skip
          have g_36 : n ≠ 0 := nf_ne_t (by omega) (by omega) c_36
          refine lv_iload_n hx hb dX2_meanPlank_43 rfl (lv_at hl 1 rfl) ?_
          refine lv_i2d hx hb dX2_meanPlank_44 ?_
          refine lv_aload_n hx hb dX2_meanPlank_45 rfl (lv_at hl 2 rfl) ?_
          refine va_get (D := D) (ci := 2) (v := .int (nI n)) (C := RX2) (T := TX2) (N := 11) hx hb hts uX2_X2_meanPlank hown hK hP 0 rfl rfl 1 (by decide) (hts (.fieldLink RX2 38 "RopeChoicesModel" "many" "I") (List.mem_of_getElem? (i := 2) rfl)) (fun _ h9 => h9) rfl dX2_meanPlank_46 ?_
          refine lv_i2d hx hb dX2_meanPlank_49 ?_
          refine lv_ddiv hx hb dX2_meanPlank_50 (by rw [hv]; exact mean_n hn g_36 hI) ?_
          refine useQ hQ ?_
          exact e_d (v := FP.ddiv (FP.i2d v) (FP.i2d (nI n))) F hr hlocks hK hP hD hS [0, 1] [0] () (by rw [hv]; exact mean_s g_36) rfl rfl rfl (Nat.le_of_ble_eq_true rfl) (Nat.le_of_ble_eq_true rfl) dX2_meanPlank_51
        · skip
          have g_36 : n = 0 := nf_ne_f (by omega) (by omega) c_36
          refine lv_dconst0 hx hb dX2_meanPlank_39 ?_
          refine lv_goto (tgt := 51) hx hb dX2_meanPlank_40 (by decide) ?_
          refine useQ hQ ?_
          exact e_d (v := FP.dconst0) F hr hlocks hK hP hD hS [0, 1] [0] () (mean_0 g_36) rfl rfl rfl (Nat.le_of_ble_eq_true rfl) (Nat.le_of_ble_eq_true rfl) dX2_meanPlank_51
      · skip
        have g_14 : i < n := nf_ge_f (by omega) (by omega) c_14
        refine lv_iload_n hx hb dX2_meanPlank_17 rfl (lv_at hl 1 rfl) ?_
        refine lv_aload_n hx hb dX2_meanPlank_18 rfl (lv_at hl 2 rfl) ?_
        refine va_get (D := D) (ci := 2) (v := .ref bK) (C := RX2) (T := TX2) (N := 11) hx hb hts uX2_X2_meanPlank hown hK hP 0 rfl rfl 8 (by decide) (hts (.fieldLink RX2 26 "RopeChoicesModel" "plank" "[I") (List.mem_of_getElem? (i := 3) rfl)) (fun _ h9 => h9) rfl dX2_meanPlank_19 ?_
        refine lv_iload_n hx hb dX2_meanPlank_22 rfl (lv_at hl 0 rfl) ?_
        refine a_ld (k := i) hx hb hK hP 1 0 rfl rfl (by omega) (Nat.le_of_ble_eq_true rfl) dX2_meanPlank_23 ?_
        refine lv_iadd hx hb dX2_meanPlank_24 ?_
        refine lv_istore_n (lv' := [(1, .int (v + (fK i))), (2, .int (nI i)), (0, .ref m0)]) hx hb dX2_meanPlank_25 rfl hl (by decide) rfl (fun ls hl => ?_)
        refine lv_iinc (v := nI (i + 1)) (lv' := [(2, .int (nI (i + 1))), (1, .int (v + (fK i))), (0, .ref m0)]) hx hb dX2_meanPlank_26 hl (k := 1) rfl (nI_1 _) (by decide) rfl (fun ls hl => ?_)
        refine lv_goto (tgt := 9) hx hb dX2_meanPlank_29 (by decide) ?_
        exact ih9 (i + 1) (v + (fK i)) (by omega) (by omega) (by rw [sumF_s, hv]) _ _ (hP.sub [0, 1] rfl) (hD.sub [0, 1] (by decide) rfl) hS ls (lv_sub hl [0, 1, 2] rfl)
  exact loop9 (n + 1) 0 0 (by omega) (Nat.zero_le _) rfl _ _ (hP.sub [0, 1] rfl) (hD.sub [0, 1] (by decide) rfl) hS ls (lv_sub hl [0, 1, 2] rfl)
theorem uX2_X2_init : ∀ w ∈ u_ws RX2 TX2 11, w ∈ wsX2_init := (fun _ h => List.mem_cons_of_mem _ (List.mem_append_right _ h))
set_option maxHeartbeats 4000000 in
set_option maxRecDepth 100000 in
theorem c_X2_init (l : Launch) (D : va_G) (cA : ClassId) (m0 : Nat)  (sz : Nat) : Met l yX2_init wsX2_init ({ frames := 1, cells := 7, slots := 113, locals := 20 } : Room) (va_Pc [.ref m0] (Wd D [(cA, .int)] [(m0, .inr (2, [.int 0, .int 0, .int 0, .int 0, .null, .null, .null, .null, .null, .null, .null]))] sz)) (va_Qv (fun (u : Nat × Nat × Nat × Nat × Nat × Nat × Nat) => True) (fun (u : Nat × Nat × Nat × Nat × Nat × Nat × Nat) t => We D [(cA, .int)] [(m0, .inr (2, [.int 0, .int (nI 0), .int 0, .int 12, .ref u.1, .ref u.2.1, .ref u.2.2.1, .ref u.2.2.2.1, .ref u.2.2.2.2.1, .ref u.2.2.2.2.2.1, .ref u.2.2.2.2.2.2])), (u.1, .inl (cA, 12, .inl (fun _ => 0))), (u.2.1, .inl (cA, 12, .inl (fun _ => 0))), (u.2.2.1, .inl (cA, 12, .inl (fun _ => 0))), (u.2.2.2.1, .inl (cA, 12, .inl (fun _ => 0))), (u.2.2.2.2.1, .inl (cA, 12, .inl (fun _ => 0))), (u.2.2.2.2.2.1, .inl (cA, 12, .inl (fun _ => 0))), (u.2.2.2.2.2.2, .inl (cA, 41, .inl (fun _ => 0)))] (va_A [(m0, .inr (2, [.int 0, .int 0, .int 0, .int 0, .null, .null, .null, .null, .null, .null, .null]))] sz) t) (va_A [(m0, .inr (2, [.int 0, .int 0, .int 0, .int 0, .null, .null, .null, .null, .null, .null, .null]))] sz)) 7 113 (va_A [(m0, .inr (2, [.int 0, .int 0, .int 0, .int 0, .null, .null, .null, .null, .null, .null, .null]))] sz) := by
  refine mk_met [.ref m0] (fun A => va_Qv (fun (u : Nat × Nat × Nat × Nat × Nat × Nat × Nat) => True) (fun (u : Nat × Nat × Nat × Nat × Nat × Nat × Nat) t => We D [(cA, .int)] [(m0, .inr (2, [.int 0, .int (nI 0), .int 0, .int 12, .ref u.1, .ref u.2.1, .ref u.2.2.1, .ref u.2.2.2.1, .ref u.2.2.2.2.1, .ref u.2.2.2.2.2.1, .ref u.2.2.2.2.2.2])), (u.1, .inl (cA, 12, .inl (fun _ => 0))), (u.2.1, .inl (cA, 12, .inl (fun _ => 0))), (u.2.2.1, .inl (cA, 12, .inl (fun _ => 0))), (u.2.2.2.1, .inl (cA, 12, .inl (fun _ => 0))), (u.2.2.2.2.1, .inl (cA, 12, .inl (fun _ => 0))), (u.2.2.2.2.2.1, .inl (cA, 12, .inl (fun _ => 0))), (u.2.2.2.2.2.2, .inl (cA, 41, .inl (fun _ => 0)))] A t) A) (by decide) rfl (Nat.le_of_ble_eq_true rfl) ?_
  intro p e s m args below meth c A ls F hr hlocks hname hP hK hD hA hl
  have hx := F.1
  have hb := F.2.1
  have hml := F.2.2.1
  have hown := F.2.2.2.1
  have hts := F.2.2.2.2
  have hS : va_S A s.heap s.heap [] := va_S.rf
  have hl : lv_has ls 1 [(0, .ref m0)] := hl
  refine absQ (fun Q hQ => ?_)
  refine lv_aload_n hx hb dX2_init_0 rfl (lv_at hl 0 rfl) ?_
  refine W.objInit hx hb hown (hts (.methodLink RX2 1 objectInit) (List.mem_of_getElem? (i := 1) rfl)) (hts (.instanceMethod objectInit) (List.mem_of_getElem? (i := 2) rfl)) (hts (.code objectInit ⟨#[0xb1]⟩ 1 none) (List.mem_of_getElem? (i := 3) rfl)) rfl (hl.1.trans hml.symm) rfl dX2_init_1 (Nat.le_of_ble_eq_true rfl) (Nat.le_of_ble_eq_true rfl) ?_
  refine W.eq (g2 := F0 m 4 ls []) rfl ?_
  refine lv_aload_n hx hb dX2_init_4 rfl (lv_at hl 0 rfl) ?_
  refine lv_bipush (v := 12) hx hb dX2_init_5 (by decide) ?_
  refine va_put (D := D) (ci := 2) (v := .int 12) (ty := .int) (C := RX2) (T := TX2) (N := 11) hx hb hts uX2_X2_init tyX2 tyX2_ok nmX2 hown hK hP hD hS 0 rfl rfl 3 (by decide) (hts (.fieldLink RX2 7 "RopeChoicesModel" "strength" "I") (List.mem_of_getElem? (i := 4) rfl)) (fun _ h9 => h9) rfl (by decide +kernel) rfl rfl (Nat.le_of_ble_eq_true rfl) dX2_init_7 (fun H locs hP hD hS => ?_)
  have hP : va_P D vwCl [(m0, .inr (2, [.int 0, .int 0, .int 0, .int 12, .null, .null, .null, .null, .null, .null, .null]))] H := hP
  have hD : va_D A [(m0, .inr (2, [.int 0, .int 0, .int 0, .int 12, .null, .null, .null, .null, .null, .null, .null]))] := hD
  refine lv_aload_n hx hb dX2_init_10 rfl (lv_at hl 0 rfl) ?_
  refine lv_bipush (v := 12) hx hb dX2_init_11 (by decide) ?_
  refine a_new hx hb (hts (.arrayClass .int) (List.mem_of_getElem? (i := 5) rfl)) hK hP hD hS hA 0 (N := 12) rfl (by decide) rfl (Nat.le_of_ble_eq_true rfl) (Nat.le_of_ble_eq_true rfl) (Nat.le_of_ble_eq_true rfl) dX2_init_13 (fun q13 H hP hD hS => ?_)
  have hP : va_P D vwCl [(m0, .inr (2, [.int 0, .int 0, .int 0, .int 12, .null, .null, .null, .null, .null, .null, .null])), (q13, .inl (cA, 12, .inl (fun _ => 0)))] H := hP
  have hD : va_D A [(m0, .inr (2, [.int 0, .int 0, .int 0, .int 12, .null, .null, .null, .null, .null, .null, .null])), (q13, .inl (cA, 12, .inl (fun _ => 0)))] := hD
  refine va_putF (D := D) (ci := 2) (v := .ref q13) (ty := (.array .int)) (C := RX2) (T := TX2) (N := 11) hx hb hts uX2_X2_init tyX2 tyX2_ok nmX2 hown hK hP hD hS 0 rfl rfl 4 (by decide) (hts (.fieldLink RX2 13 "RopeChoicesModel" "village" "[I") (List.mem_of_getElem? (i := 6) rfl)) (fun _ h9 => h9) rfl hname rfl (by decide +kernel) rfl rfl (Nat.le_of_ble_eq_true rfl) dX2_init_15 (fun H locs hP hD hS => ?_)
  have hP : va_P D vwCl [(m0, .inr (2, [.int 0, .int 0, .int 0, .int 12, .ref q13, .null, .null, .null, .null, .null, .null])), (q13, .inl (cA, 12, .inl (fun _ => 0)))] H := hP
  have hD : va_D A [(m0, .inr (2, [.int 0, .int 0, .int 0, .int 12, .ref q13, .null, .null, .null, .null, .null, .null])), (q13, .inl (cA, 12, .inl (fun _ => 0)))] := hD
  refine lv_aload_n hx hb dX2_init_18 rfl (lv_at hl 0 rfl) ?_
  refine lv_bipush (v := 12) hx hb dX2_init_19 (by decide) ?_
  refine a_new hx hb (hts (.arrayClass .int) (List.mem_of_getElem? (i := 5) rfl)) hK hP hD hS hA 0 (N := 12) rfl (by decide) rfl (Nat.le_of_ble_eq_true rfl) (Nat.le_of_ble_eq_true rfl) (Nat.le_of_ble_eq_true rfl) dX2_init_21 (fun q21 H hP hD hS => ?_)
  have hP : va_P D vwCl [(m0, .inr (2, [.int 0, .int 0, .int 0, .int 12, .ref q13, .null, .null, .null, .null, .null, .null])), (q13, .inl (cA, 12, .inl (fun _ => 0))), (q21, .inl (cA, 12, .inl (fun _ => 0)))] H := hP
  have hD : va_D A [(m0, .inr (2, [.int 0, .int 0, .int 0, .int 12, .ref q13, .null, .null, .null, .null, .null, .null])), (q13, .inl (cA, 12, .inl (fun _ => 0))), (q21, .inl (cA, 12, .inl (fun _ => 0)))] := hD
  refine va_putF (D := D) (ci := 2) (v := .ref q21) (ty := (.array .int)) (C := RX2) (T := TX2) (N := 11) hx hb hts uX2_X2_init tyX2 tyX2_ok nmX2 hown hK hP hD hS 0 rfl rfl 5 (by decide) (hts (.fieldLink RX2 17 "RopeChoicesModel" "wish" "[I") (List.mem_of_getElem? (i := 7) rfl)) (fun _ h9 => h9) rfl hname rfl (by decide +kernel) rfl rfl (Nat.le_of_ble_eq_true rfl) dX2_init_23 (fun H locs hP hD hS => ?_)
  have hP : va_P D vwCl [(m0, .inr (2, [.int 0, .int 0, .int 0, .int 12, .ref q13, .ref q21, .null, .null, .null, .null, .null])), (q13, .inl (cA, 12, .inl (fun _ => 0))), (q21, .inl (cA, 12, .inl (fun _ => 0)))] H := hP
  have hD : va_D A [(m0, .inr (2, [.int 0, .int 0, .int 0, .int 12, .ref q13, .ref q21, .null, .null, .null, .null, .null])), (q13, .inl (cA, 12, .inl (fun _ => 0))), (q21, .inl (cA, 12, .inl (fun _ => 0)))] := hD
  refine lv_aload_n hx hb dX2_init_26 rfl (lv_at hl 0 rfl) ?_
  refine lv_bipush (v := 12) hx hb dX2_init_27 (by decide) ?_
  refine a_new hx hb (hts (.arrayClass .int) (List.mem_of_getElem? (i := 5) rfl)) hK hP hD hS hA 0 (N := 12) rfl (by decide) rfl (Nat.le_of_ble_eq_true rfl) (Nat.le_of_ble_eq_true rfl) (Nat.le_of_ble_eq_true rfl) dX2_init_29 (fun q29 H hP hD hS => ?_)
  have hP : va_P D vwCl [(m0, .inr (2, [.int 0, .int 0, .int 0, .int 12, .ref q13, .ref q21, .null, .null, .null, .null, .null])), (q13, .inl (cA, 12, .inl (fun _ => 0))), (q21, .inl (cA, 12, .inl (fun _ => 0))), (q29, .inl (cA, 12, .inl (fun _ => 0)))] H := hP
  have hD : va_D A [(m0, .inr (2, [.int 0, .int 0, .int 0, .int 12, .ref q13, .ref q21, .null, .null, .null, .null, .null])), (q13, .inl (cA, 12, .inl (fun _ => 0))), (q21, .inl (cA, 12, .inl (fun _ => 0))), (q29, .inl (cA, 12, .inl (fun _ => 0)))] := hD
  refine va_putF (D := D) (ci := 2) (v := .ref q29) (ty := (.array .int)) (C := RX2) (T := TX2) (N := 11) hx hb hts uX2_X2_init tyX2 tyX2_ok nmX2 hown hK hP hD hS 0 rfl rfl 6 (by decide) (hts (.fieldLink RX2 20 "RopeChoicesModel" "reach" "[I") (List.mem_of_getElem? (i := 8) rfl)) (fun _ h9 => h9) rfl hname rfl (by decide +kernel) rfl rfl (Nat.le_of_ble_eq_true rfl) dX2_init_31 (fun H locs hP hD hS => ?_)
  have hP : va_P D vwCl [(m0, .inr (2, [.int 0, .int 0, .int 0, .int 12, .ref q13, .ref q21, .ref q29, .null, .null, .null, .null])), (q13, .inl (cA, 12, .inl (fun _ => 0))), (q21, .inl (cA, 12, .inl (fun _ => 0))), (q29, .inl (cA, 12, .inl (fun _ => 0)))] H := hP
  have hD : va_D A [(m0, .inr (2, [.int 0, .int 0, .int 0, .int 12, .ref q13, .ref q21, .ref q29, .null, .null, .null, .null])), (q13, .inl (cA, 12, .inl (fun _ => 0))), (q21, .inl (cA, 12, .inl (fun _ => 0))), (q29, .inl (cA, 12, .inl (fun _ => 0)))] := hD
  refine lv_aload_n hx hb dX2_init_34 rfl (lv_at hl 0 rfl) ?_
  refine lv_bipush (v := 12) hx hb dX2_init_35 (by decide) ?_
  refine a_new hx hb (hts (.arrayClass .int) (List.mem_of_getElem? (i := 5) rfl)) hK hP hD hS hA 0 (N := 12) rfl (by decide) rfl (Nat.le_of_ble_eq_true rfl) (Nat.le_of_ble_eq_true rfl) (Nat.le_of_ble_eq_true rfl) dX2_init_37 (fun q37 H hP hD hS => ?_)
  have hP : va_P D vwCl [(m0, .inr (2, [.int 0, .int 0, .int 0, .int 12, .ref q13, .ref q21, .ref q29, .null, .null, .null, .null])), (q13, .inl (cA, 12, .inl (fun _ => 0))), (q21, .inl (cA, 12, .inl (fun _ => 0))), (q29, .inl (cA, 12, .inl (fun _ => 0))), (q37, .inl (cA, 12, .inl (fun _ => 0)))] H := hP
  have hD : va_D A [(m0, .inr (2, [.int 0, .int 0, .int 0, .int 12, .ref q13, .ref q21, .ref q29, .null, .null, .null, .null])), (q13, .inl (cA, 12, .inl (fun _ => 0))), (q21, .inl (cA, 12, .inl (fun _ => 0))), (q29, .inl (cA, 12, .inl (fun _ => 0))), (q37, .inl (cA, 12, .inl (fun _ => 0)))] := hD
  refine va_putF (D := D) (ci := 2) (v := .ref q37) (ty := (.array .int)) (C := RX2) (T := TX2) (N := 11) hx hb hts uX2_X2_init tyX2 tyX2_ok nmX2 hown hK hP hD hS 0 rfl rfl 7 (by decide) (hts (.fieldLink RX2 23 "RopeChoicesModel" "pace" "[I") (List.mem_of_getElem? (i := 9) rfl)) (fun _ h9 => h9) rfl hname rfl (by decide +kernel) rfl rfl (Nat.le_of_ble_eq_true rfl) dX2_init_39 (fun H locs hP hD hS => ?_)
  have hP : va_P D vwCl [(m0, .inr (2, [.int 0, .int 0, .int 0, .int 12, .ref q13, .ref q21, .ref q29, .ref q37, .null, .null, .null])), (q13, .inl (cA, 12, .inl (fun _ => 0))), (q21, .inl (cA, 12, .inl (fun _ => 0))), (q29, .inl (cA, 12, .inl (fun _ => 0))), (q37, .inl (cA, 12, .inl (fun _ => 0)))] H := hP
  have hD : va_D A [(m0, .inr (2, [.int 0, .int 0, .int 0, .int 12, .ref q13, .ref q21, .ref q29, .ref q37, .null, .null, .null])), (q13, .inl (cA, 12, .inl (fun _ => 0))), (q21, .inl (cA, 12, .inl (fun _ => 0))), (q29, .inl (cA, 12, .inl (fun _ => 0))), (q37, .inl (cA, 12, .inl (fun _ => 0)))] := hD
  refine lv_aload_n hx hb dX2_init_42 rfl (lv_at hl 0 rfl) ?_
  refine lv_bipush (v := 12) hx hb dX2_init_43 (by decide) ?_
  refine a_new hx hb (hts (.arrayClass .int) (List.mem_of_getElem? (i := 5) rfl)) hK hP hD hS hA 0 (N := 12) rfl (by decide) rfl (Nat.le_of_ble_eq_true rfl) (Nat.le_of_ble_eq_true rfl) (Nat.le_of_ble_eq_true rfl) dX2_init_45 (fun q45 H hP hD hS => ?_)
  have hP : va_P D vwCl [(m0, .inr (2, [.int 0, .int 0, .int 0, .int 12, .ref q13, .ref q21, .ref q29, .ref q37, .null, .null, .null])), (q13, .inl (cA, 12, .inl (fun _ => 0))), (q21, .inl (cA, 12, .inl (fun _ => 0))), (q29, .inl (cA, 12, .inl (fun _ => 0))), (q37, .inl (cA, 12, .inl (fun _ => 0))), (q45, .inl (cA, 12, .inl (fun _ => 0)))] H := hP
  have hD : va_D A [(m0, .inr (2, [.int 0, .int 0, .int 0, .int 12, .ref q13, .ref q21, .ref q29, .ref q37, .null, .null, .null])), (q13, .inl (cA, 12, .inl (fun _ => 0))), (q21, .inl (cA, 12, .inl (fun _ => 0))), (q29, .inl (cA, 12, .inl (fun _ => 0))), (q37, .inl (cA, 12, .inl (fun _ => 0))), (q45, .inl (cA, 12, .inl (fun _ => 0)))] := hD
  refine va_putF (D := D) (ci := 2) (v := .ref q45) (ty := (.array .int)) (C := RX2) (T := TX2) (N := 11) hx hb hts uX2_X2_init tyX2 tyX2_ok nmX2 hown hK hP hD hS 0 rfl rfl 8 (by decide) (hts (.fieldLink RX2 26 "RopeChoicesModel" "plank" "[I") (List.mem_of_getElem? (i := 10) rfl)) (fun _ h9 => h9) rfl hname rfl (by decide +kernel) rfl rfl (Nat.le_of_ble_eq_true rfl) dX2_init_47 (fun H locs hP hD hS => ?_)
  have hP : va_P D vwCl [(m0, .inr (2, [.int 0, .int 0, .int 0, .int 12, .ref q13, .ref q21, .ref q29, .ref q37, .ref q45, .null, .null])), (q13, .inl (cA, 12, .inl (fun _ => 0))), (q21, .inl (cA, 12, .inl (fun _ => 0))), (q29, .inl (cA, 12, .inl (fun _ => 0))), (q37, .inl (cA, 12, .inl (fun _ => 0))), (q45, .inl (cA, 12, .inl (fun _ => 0)))] H := hP
  have hD : va_D A [(m0, .inr (2, [.int 0, .int 0, .int 0, .int 12, .ref q13, .ref q21, .ref q29, .ref q37, .ref q45, .null, .null])), (q13, .inl (cA, 12, .inl (fun _ => 0))), (q21, .inl (cA, 12, .inl (fun _ => 0))), (q29, .inl (cA, 12, .inl (fun _ => 0))), (q37, .inl (cA, 12, .inl (fun _ => 0))), (q45, .inl (cA, 12, .inl (fun _ => 0)))] := hD
  refine lv_aload_n hx hb dX2_init_50 rfl (lv_at hl 0 rfl) ?_
  refine lv_bipush (v := 12) hx hb dX2_init_51 (by decide) ?_
  refine a_new hx hb (hts (.arrayClass .int) (List.mem_of_getElem? (i := 5) rfl)) hK hP hD hS hA 0 (N := 12) rfl (by decide) rfl (Nat.le_of_ble_eq_true rfl) (Nat.le_of_ble_eq_true rfl) (Nat.le_of_ble_eq_true rfl) dX2_init_53 (fun q53 H hP hD hS => ?_)
  have hP : va_P D vwCl [(m0, .inr (2, [.int 0, .int 0, .int 0, .int 12, .ref q13, .ref q21, .ref q29, .ref q37, .ref q45, .null, .null])), (q13, .inl (cA, 12, .inl (fun _ => 0))), (q21, .inl (cA, 12, .inl (fun _ => 0))), (q29, .inl (cA, 12, .inl (fun _ => 0))), (q37, .inl (cA, 12, .inl (fun _ => 0))), (q45, .inl (cA, 12, .inl (fun _ => 0))), (q53, .inl (cA, 12, .inl (fun _ => 0)))] H := hP
  have hD : va_D A [(m0, .inr (2, [.int 0, .int 0, .int 0, .int 12, .ref q13, .ref q21, .ref q29, .ref q37, .ref q45, .null, .null])), (q13, .inl (cA, 12, .inl (fun _ => 0))), (q21, .inl (cA, 12, .inl (fun _ => 0))), (q29, .inl (cA, 12, .inl (fun _ => 0))), (q37, .inl (cA, 12, .inl (fun _ => 0))), (q45, .inl (cA, 12, .inl (fun _ => 0))), (q53, .inl (cA, 12, .inl (fun _ => 0)))] := hD
  refine va_putF (D := D) (ci := 2) (v := .ref q53) (ty := (.array .int)) (C := RX2) (T := TX2) (N := 11) hx hb hts uX2_X2_init tyX2 tyX2_ok nmX2 hown hK hP hD hS 0 rfl rfl 9 (by decide) (hts (.fieldLink RX2 29 "RopeChoicesModel" "kept" "[I") (List.mem_of_getElem? (i := 11) rfl)) (fun _ h9 => h9) rfl hname rfl (by decide +kernel) rfl rfl (Nat.le_of_ble_eq_true rfl) dX2_init_55 (fun H locs hP hD hS => ?_)
  have hP : va_P D vwCl [(m0, .inr (2, [.int 0, .int 0, .int 0, .int 12, .ref q13, .ref q21, .ref q29, .ref q37, .ref q45, .ref q53, .null])), (q13, .inl (cA, 12, .inl (fun _ => 0))), (q21, .inl (cA, 12, .inl (fun _ => 0))), (q29, .inl (cA, 12, .inl (fun _ => 0))), (q37, .inl (cA, 12, .inl (fun _ => 0))), (q45, .inl (cA, 12, .inl (fun _ => 0))), (q53, .inl (cA, 12, .inl (fun _ => 0)))] H := hP
  have hD : va_D A [(m0, .inr (2, [.int 0, .int 0, .int 0, .int 12, .ref q13, .ref q21, .ref q29, .ref q37, .ref q45, .ref q53, .null])), (q13, .inl (cA, 12, .inl (fun _ => 0))), (q21, .inl (cA, 12, .inl (fun _ => 0))), (q29, .inl (cA, 12, .inl (fun _ => 0))), (q37, .inl (cA, 12, .inl (fun _ => 0))), (q45, .inl (cA, 12, .inl (fun _ => 0))), (q53, .inl (cA, 12, .inl (fun _ => 0)))] := hD
  refine lv_aload_n hx hb dX2_init_58 rfl (lv_at hl 0 rfl) ?_
  refine lv_bipush (v := 41) hx hb dX2_init_59 (by decide) ?_
  refine a_new hx hb (hts (.arrayClass .int) (List.mem_of_getElem? (i := 5) rfl)) hK hP hD hS hA 0 (N := 41) rfl (by decide) rfl (Nat.le_of_ble_eq_true rfl) (Nat.le_of_ble_eq_true rfl) (Nat.le_of_ble_eq_true rfl) dX2_init_61 (fun q61 H hP hD hS => ?_)
  have hP : va_P D vwCl [(m0, .inr (2, [.int 0, .int 0, .int 0, .int 12, .ref q13, .ref q21, .ref q29, .ref q37, .ref q45, .ref q53, .null])), (q13, .inl (cA, 12, .inl (fun _ => 0))), (q21, .inl (cA, 12, .inl (fun _ => 0))), (q29, .inl (cA, 12, .inl (fun _ => 0))), (q37, .inl (cA, 12, .inl (fun _ => 0))), (q45, .inl (cA, 12, .inl (fun _ => 0))), (q53, .inl (cA, 12, .inl (fun _ => 0))), (q61, .inl (cA, 41, .inl (fun _ => 0)))] H := hP
  have hD : va_D A [(m0, .inr (2, [.int 0, .int 0, .int 0, .int 12, .ref q13, .ref q21, .ref q29, .ref q37, .ref q45, .ref q53, .null])), (q13, .inl (cA, 12, .inl (fun _ => 0))), (q21, .inl (cA, 12, .inl (fun _ => 0))), (q29, .inl (cA, 12, .inl (fun _ => 0))), (q37, .inl (cA, 12, .inl (fun _ => 0))), (q45, .inl (cA, 12, .inl (fun _ => 0))), (q53, .inl (cA, 12, .inl (fun _ => 0))), (q61, .inl (cA, 41, .inl (fun _ => 0)))] := hD
  refine va_putF (D := D) (ci := 2) (v := .ref q61) (ty := (.array .int)) (C := RX2) (T := TX2) (N := 11) hx hb hts uX2_X2_init tyX2 tyX2_ok nmX2 hown hK hP hD hS 0 rfl rfl 10 (by decide) (hts (.fieldLink RX2 32 "RopeChoicesModel" "count" "[I") (List.mem_of_getElem? (i := 12) rfl)) (fun _ h9 => h9) rfl hname rfl (by decide +kernel) rfl rfl (Nat.le_of_ble_eq_true rfl) dX2_init_63 (fun H locs hP hD hS => ?_)
  have hP : va_P D vwCl [(m0, .inr (2, [.int 0, .int 0, .int 0, .int 12, .ref q13, .ref q21, .ref q29, .ref q37, .ref q45, .ref q53, .ref q61])), (q13, .inl (cA, 12, .inl (fun _ => 0))), (q21, .inl (cA, 12, .inl (fun _ => 0))), (q29, .inl (cA, 12, .inl (fun _ => 0))), (q37, .inl (cA, 12, .inl (fun _ => 0))), (q45, .inl (cA, 12, .inl (fun _ => 0))), (q53, .inl (cA, 12, .inl (fun _ => 0))), (q61, .inl (cA, 41, .inl (fun _ => 0)))] H := hP
  have hD : va_D A [(m0, .inr (2, [.int 0, .int 0, .int 0, .int 12, .ref q13, .ref q21, .ref q29, .ref q37, .ref q45, .ref q53, .ref q61])), (q13, .inl (cA, 12, .inl (fun _ => 0))), (q21, .inl (cA, 12, .inl (fun _ => 0))), (q29, .inl (cA, 12, .inl (fun _ => 0))), (q37, .inl (cA, 12, .inl (fun _ => 0))), (q45, .inl (cA, 12, .inl (fun _ => 0))), (q53, .inl (cA, 12, .inl (fun _ => 0))), (q61, .inl (cA, 41, .inl (fun _ => 0)))] := hD
  refine useQ hQ ?_
  exact e_v F hr hlocks hK hP hD hS [0, 1, 2, 3, 4, 5, 6, 7] [0] (q13, q21, q29, q37, q45, q53, q61) trivial rfl rfl rfl (Nat.le_of_ble_eq_true rfl) (Nat.le_of_ble_eq_true rfl) dX2_init_66
