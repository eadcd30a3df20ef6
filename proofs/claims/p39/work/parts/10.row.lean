theorem uX0_X0_empty : ∀ w ∈ u_ws RX0 TX0 2, w ∈ wsX0_empty := (fun _ h => List.mem_cons_of_mem _ (List.mem_append_right _ h))
set_option maxHeartbeats 4000000 in
set_option maxRecDepth 100000 in
theorem c_X0_empty (l : Launch) (D : va_G) (cA : ClassId) (aQ : Nat) (aS : Nat) (lv : Int32) (fS : Nat → Int32)  (sz : Nat) : Met l yX0_empty wsX0_empty ({ frames := 0, cells := 0, slots := 0, locals := 0 } : Room) (va_Pc [.ref aQ] (Wd D [(cA, .int)] [(aQ, .inr (0, [.ref aS, .int lv])), (aS, .inl (cA, 12, .inl fS))] sz)) (va_Qv (fun (_ : Unit) => True) (fun (_ : Unit) t => We D [(cA, .int)] [(aQ, .inr (0, [.ref aS, .int (nI 0)])), (aS, .inl (cA, 12, .inl fS))] (va_A [(aQ, .inr (0, [.ref aS, .int lv])), (aS, .inl (cA, 12, .inl fS))] sz) t) (va_A [(aQ, .inr (0, [.ref aS, .int lv])), (aS, .inl (cA, 12, .inl fS))] sz)) 0 0 (va_A [(aQ, .inr (0, [.ref aS, .int lv])), (aS, .inl (cA, 12, .inl fS))] sz) := by
  refine mk_met [.ref aQ] (fun A => va_Qv (fun (_ : Unit) => True) (fun (_ : Unit) t => We D [(cA, .int)] [(aQ, .inr (0, [.ref aS, .int (nI 0)])), (aS, .inl (cA, 12, .inl fS))] A t) A) (by decide) rfl (Nat.le_of_ble_eq_true rfl) ?_
  intro p e s m args below meth c A ls F hr hlocks hname hP hK hD hA hl
  have hx := F.1
  have hb := F.2.1
  have hml := F.2.2.1
  have hown := F.2.2.2.1
  have hts := F.2.2.2.2
  have hS : va_S A s.heap s.heap [] := va_S.rf
  have hl : lv_has ls 1 [(0, .ref aQ)] := hl
  refine absQ (fun Q hQ => ?_)
  refine lv_aload_n hx hb dX0_empty_0 rfl (lv_at hl 0 rfl) ?_
  refine lv_iconst (v := 0) hx hb dX0_empty_1 (by decide) ?_
  refine va_put (D := D) (ci := 0) (v := .int 0) (ty := .int) (C := RX0) (T := TX0) (N := 2) hx hb hts uX0_X0_empty tyX0 tyX0_ok nmX0 hown hK hP hD hS 0 rfl rfl 1 (by decide) (hts (.fieldLink RX0 15 "RopeChoices$PlankRow" "length" "I") (List.mem_of_getElem? (i := 1) rfl)) (fun _ h9 => h9) rfl (by decide +kernel) rfl rfl (Nat.le_of_ble_eq_true rfl) dX0_empty_2 (fun H locs hP hD hS => ?_)
  have hP : va_P D vwCl [(aQ, .inr (0, [.ref aS, .int 0])), (aS, .inl (cA, 12, .inl fS))] H := hP
  have hD : va_D A [(aQ, .inr (0, [.ref aS, .int 0])), (aS, .inl (cA, 12, .inl fS))] := hD
  refine useQ hQ ?_
  exact e_v F hr hlocks hK hP hD hS [0, 1] [0] () trivial rfl rfl rfl (Nat.le_of_ble_eq_true rfl) (Nat.le_of_ble_eq_true rfl) dX0_empty_5
theorem uX0_X0_isBare : ∀ w ∈ u_ws RX0 TX0 2, w ∈ wsX0_isBare := (fun _ h => List.mem_cons_of_mem _ (List.mem_append_right _ h))
set_option maxHeartbeats 4000000 in
set_option maxRecDepth 100000 in
theorem c_X0_isBare (l : Launch) (D : va_G) (cA : ClassId) (aQ : Nat) (aS : Nat) (ln : Nat) (fS : Nat → Int32) (h12 : ln ≤ 12) (sz : Nat) : Met l yX0_isBare wsX0_isBare ({ frames := 0, cells := 0, slots := 0, locals := 0 } : Room) (va_Pc [.ref aQ] (Wd D [(cA, .int)] [(aQ, .inr (0, [.ref aS, .int (nI ln)])), (aS, .inl (cA, 12, .inl fS))] sz)) (va_Qi (fun (r : Int32) (_ : Unit) => r = bP (ln = 0)) (fun (_ : Unit) t => We D [(cA, .int)] [(aQ, .inr (0, [.ref aS, .int (nI ln)])), (aS, .inl (cA, 12, .inl fS))] (va_A [(aQ, .inr (0, [.ref aS, .int (nI ln)])), (aS, .inl (cA, 12, .inl fS))] sz) t) (va_A [(aQ, .inr (0, [.ref aS, .int (nI ln)])), (aS, .inl (cA, 12, .inl fS))] sz)) 0 0 (va_A [(aQ, .inr (0, [.ref aS, .int (nI ln)])), (aS, .inl (cA, 12, .inl fS))] sz) := by
  refine mk_met [.ref aQ] (fun A => va_Qi (fun (r : Int32) (_ : Unit) => r = bP (ln = 0)) (fun (_ : Unit) t => We D [(cA, .int)] [(aQ, .inr (0, [.ref aS, .int (nI ln)])), (aS, .inl (cA, 12, .inl fS))] A t) A) (by decide) rfl (Nat.le_of_ble_eq_true rfl) ?_
  intro p e s m args below meth c A ls F hr hlocks hname hP hK hD hA hl
  have hx := F.1
  have hb := F.2.1
  have hml := F.2.2.1
  have hown := F.2.2.2.1
  have hts := F.2.2.2.2
  have hS : va_S A s.heap s.heap [] := va_S.rf
  have hl : lv_has ls 1 [(0, .ref aQ)] := hl
  refine absQ (fun Q hQ => ?_)
  refine lv_aload_n hx hb dX0_isBare_0 rfl (lv_at hl 0 rfl) ?_
  refine va_get (D := D) (ci := 0) (v := .int (nI ln)) (C := RX0) (T := TX0) (N := 2) hx hb hts uX0_X0_isBare hown hK hP 0 rfl rfl 1 (by decide) (hts (.fieldLink RX0 15 "RopeChoices$PlankRow" "length" "I") (List.mem_of_getElem? (i := 1) rfl)) (fun _ h9 => h9) rfl dX0_isBare_1 ?_
  refine lv_if_ne (tgt := 11) hx hb dX0_isBare_4 (by decide) (fun c_4 => ?_) (fun c_4 => ?_)
  · skip
    have g_4 : ln ≠ 0 := nf_ne_t (by omega) (by omega) c_4
    refine lv_iconst (v := 0) hx hb dX0_isBare_11 (by decide) ?_
    refine useQ hQ ?_
    exact e_z (v := 0) F hr hlocks hK hP hD hS [0, 1] [0] () (by first | exact Or.inl rfl | exact Or.inr rfl | exact bP_01 _) (bP_f g_4) rfl rfl rfl (Nat.le_of_ble_eq_true rfl) (Nat.le_of_ble_eq_true rfl) dX0_isBare_12
  · skip
    have g_4 : ln = 0 := nf_ne_f (by omega) (by omega) c_4
    refine lv_iconst (v := 1) hx hb dX0_isBare_7 (by decide) ?_
    refine lv_goto (tgt := 12) hx hb dX0_isBare_8 (by decide) ?_
    refine useQ hQ ?_
    exact e_z (v := 1) F hr hlocks hK hP hD hS [0, 1] [0] () (by first | exact Or.inl rfl | exact Or.inr rfl | exact bP_01 _) (bP_t g_4) rfl rfl rfl (Nat.le_of_ble_eq_true rfl) (Nat.le_of_ble_eq_true rfl) dX0_isBare_12
theorem uX0_X0_put : ∀ w ∈ u_ws RX0 TX0 2, w ∈ wsX0_put := (fun _ h => List.mem_cons_of_mem _ (List.mem_append_right _ h))
set_option maxHeartbeats 4000000 in
set_option maxRecDepth 100000 in
theorem c_X0_put (l : Launch) (D : va_G) (cA : ClassId) (aQ : Nat) (aS : Nat) (ln : Nat) (fS : Nat → Int32) (plank : Int32) (h12 : ln < 12) (sz : Nat) : Met l yX0_put wsX0_put ({ frames := 0, cells := 0, slots := 0, locals := 0 } : Room) (va_Pc [.ref aQ, .int plank] (Wd D [(cA, .int)] [(aQ, .inr (0, [.ref aS, .int (nI ln)])), (aS, .inl (cA, 12, .inl fS))] sz)) (va_Qv (fun (g : Nat → Int32) => Ins fS ln plank g) (fun (g : Nat → Int32) t => We D [(cA, .int)] [(aQ, .inr (0, [.ref aS, .int (nI (ln + 1))])), (aS, .inl (cA, 12, .inl g))] (va_A [(aQ, .inr (0, [.ref aS, .int (nI ln)])), (aS, .inl (cA, 12, .inl fS))] sz) t) (va_A [(aQ, .inr (0, [.ref aS, .int (nI ln)])), (aS, .inl (cA, 12, .inl fS))] sz)) 0 0 (va_A [(aQ, .inr (0, [.ref aS, .int (nI ln)])), (aS, .inl (cA, 12, .inl fS))] sz) := by
  refine mk_met [.ref aQ, .int plank] (fun A => va_Qv (fun (g : Nat → Int32) => Ins fS ln plank g) (fun (g : Nat → Int32) t => We D [(cA, .int)] [(aQ, .inr (0, [.ref aS, .int (nI (ln + 1))])), (aS, .inl (cA, 12, .inl g))] A t) A) (by decide) rfl (Nat.le_of_ble_eq_true rfl) ?_
  intro p e s m args below meth c A ls F hr hlocks hname hP hK hD hA hl
  have hx := F.1
  have hb := F.2.1
  have hml := F.2.2.1
  have hown := F.2.2.2.1
  have hts := F.2.2.2.2
  have hS : va_S A s.heap s.heap [] := va_S.rf
  have hl : lv_has ls 3 [(0, .ref aQ), (1, .int plank)] := hl
  refine absQ (fun Q hQ => ?_)
  refine lv_aload_n hx hb dX0_put_0 rfl (lv_at hl 0 rfl) ?_
  refine va_get (D := D) (ci := 0) (v := .int (nI ln)) (C := RX0) (T := TX0) (N := 2) hx hb hts uX0_X0_put hown hK hP 0 rfl rfl 1 (by decide) (hts (.fieldLink RX0 15 "RopeChoices$PlankRow" "length" "I") (List.mem_of_getElem? (i := 1) rfl)) (fun _ h9 => h9) rfl dX0_put_1 ?_
  refine lv_bipush (v := 12) hx hb dX0_put_4 (by decide) ?_
  refine lv_icmp_lt (tgt := 10) hx hb dX0_put_6 (by decide) (fun c_6 => ?_) (fun c_6 => ?_)
  · skip
    have g_6 : ln < 12 := nf_lt_t (by omega) (by omega) c_6
    refine lv_aload_n hx hb dX0_put_10 rfl (lv_at hl 0 rfl) ?_
    refine va_get (D := D) (ci := 0) (v := .int (nI ln)) (C := RX0) (T := TX0) (N := 2) hx hb hts uX0_X0_put hown hK hP 0 rfl rfl 1 (by decide) (hts (.fieldLink RX0 15 "RopeChoices$PlankRow" "length" "I") (List.mem_of_getElem? (i := 1) rfl)) (fun _ h9 => h9) rfl dX0_put_11 ?_
    refine lv_istore_n (lv' := [(2, .int (nI ln)), (0, .ref aQ), (1, .int plank)]) hx hb dX0_put_14 rfl hl (by decide) rfl (fun ls hl => ?_)
    have loop15 : ∀ (k : Nat) (j : Nat) (g : Nat → Int32), (j < k) → (InsL fS ln plank j g) →  ∀ (H : Heap) (locs : List Loc), va_P D vwCl [(aQ, .inr (0, [.ref aS, .int (nI ln)])), (aS, .inl (cA, 12, .inl g))] H → va_D A [(aQ, .inr (0, [.ref aS, .int (nI ln)])), (aS, .inl (cA, 12, .inl g))] → va_S A s.heap H locs → ∀ ls : Array Slot, lv_has ls 3 [(2, .int (nI j)), (0, .ref aQ), (1, .int plank)] → W p l e ({ frames := 0, cells := 0, slots := 0, locals := 0 } : Room) s m args below meth c H locs 0 0 Q (F0 m 15 ls []) := by
      intro k
      induction k with
      | zero =>
        intro j g hk hI
        exact absurd hk (by omega)
      | succ k ih15 =>
        intro j g hk hI H locs hP hD hS ls hl
        have hp := hI.1
        refine lv_iload_n hx hb dX0_put_15 rfl (lv_at hl 0 rfl) ?_
        refine lv_if_le (tgt := 51) hx hb dX0_put_16 (by decide) (fun c_16 => ?_) (fun c_16 => ?_)
        · skip
          have g_16 : j ≤ 0 := nf_le_t (by omega) (by omega) c_16
          refine lv_aload_n hx hb dX0_put_51 rfl (lv_at hl 1 rfl) ?_
          refine va_get (D := D) (ci := 0) (v := .ref aS) (C := RX0) (T := TX0) (N := 2) hx hb hts uX0_X0_put hown hK hP 0 rfl rfl 0 (by decide) (hts (.fieldLink RX0 9 "RopeChoices$PlankRow" "sorted" "[I") (List.mem_of_getElem? (i := 2) rfl)) (fun _ h9 => h9) rfl dX0_put_52 ?_
          refine lv_iload_n hx hb dX0_put_55 rfl (lv_at hl 0 rfl) ?_
          refine lv_iload_n hx hb dX0_put_56 rfl (lv_at hl 2 rfl) ?_
          refine a_st (k := j) hx hb hK hP hD hS 1 0 rfl rfl (by omega) (Nat.le_of_ble_eq_true rfl) dX0_put_57 (fun H locs hP hD hS => ?_)
          have hP : va_P D vwCl [(aQ, .inr (0, [.ref aS, .int (nI ln)])), (aS, .inl (cA, 12, .inl (upd g j plank)))] H := hP
          have hD : va_D A [(aQ, .inr (0, [.ref aS, .int (nI ln)])), (aS, .inl (cA, 12, .inl (upd g j plank)))] := hD
          refine lv_aload_n hx hb dX0_put_58 rfl (lv_at hl 1 rfl) ?_
          refine lv_dup hx hb dX0_put_59 rfl ?_
          refine va_get (D := D) (ci := 0) (v := .int (nI ln)) (C := RX0) (T := TX0) (N := 2) hx hb hts uX0_X0_put hown hK hP 0 rfl rfl 1 (by decide) (hts (.fieldLink RX0 15 "RopeChoices$PlankRow" "length" "I") (List.mem_of_getElem? (i := 1) rfl)) (fun _ h9 => h9) rfl dX0_put_60 ?_
          refine lv_iconst (v := 1) hx hb dX0_put_63 (by decide) ?_
          refine lv_iadd hx hb dX0_put_64 ?_
          refine topi (nI (ln + 1)) (nI_1 _) ?_
          refine va_put (D := D) (ci := 0) (v := .int (nI (ln + 1))) (ty := .int) (C := RX0) (T := TX0) (N := 2) hx hb hts uX0_X0_put tyX0 tyX0_ok nmX0 hown hK hP hD hS 0 rfl rfl 1 (by decide) (hts (.fieldLink RX0 15 "RopeChoices$PlankRow" "length" "I") (List.mem_of_getElem? (i := 1) rfl)) (fun _ h9 => h9) rfl (by decide +kernel) rfl rfl (Nat.le_of_ble_eq_true rfl) dX0_put_65 (fun H locs hP hD hS => ?_)
          have hP : va_P D vwCl [(aQ, .inr (0, [.ref aS, .int (nI (ln + 1))])), (aS, .inl (cA, 12, .inl (upd g j plank)))] H := hP
          have hD : va_D A [(aQ, .inr (0, [.ref aS, .int (nI (ln + 1))])), (aS, .inl (cA, 12, .inl (upd g j plank)))] := hD
          refine useQ hQ ?_
          exact e_v F hr hlocks hK hP hD hS [0, 1] [0] _ (insL_end hI (Or.inl g_16)) rfl rfl rfl (Nat.le_of_ble_eq_true rfl) (Nat.le_of_ble_eq_true rfl) dX0_put_68
        · skip
          have g_16 : 0 < j := nf_le_f (by omega) (by omega) c_16
          refine lv_aload_n hx hb dX0_put_19 rfl (lv_at hl 1 rfl) ?_
          refine va_get (D := D) (ci := 0) (v := .ref aS) (C := RX0) (T := TX0) (N := 2) hx hb hts uX0_X0_put hown hK hP 0 rfl rfl 0 (by decide) (hts (.fieldLink RX0 9 "RopeChoices$PlankRow" "sorted" "[I") (List.mem_of_getElem? (i := 2) rfl)) (fun _ h9 => h9) rfl dX0_put_20 ?_
          refine lv_iload_n hx hb dX0_put_23 rfl (lv_at hl 0 rfl) ?_
          refine lv_iconst (v := 1) hx hb dX0_put_24 (by decide) ?_
          refine lv_isub hx hb dX0_put_25 ?_
          refine topi (nI (j - 1)) (nI_m1 g_16) ?_
          refine a_ld (k := j - 1) hx hb hK hP 1 0 rfl rfl (by omega) (Nat.le_of_ble_eq_true rfl) dX0_put_26 ?_
          refine lv_iload_n hx hb dX0_put_27 rfl (lv_at hl 2 rfl) ?_
          refine lv_icmp_le (tgt := 51) hx hb dX0_put_28 (by decide) (fun c_28 => ?_) (fun c_28 => ?_)
          · skip
            refine lv_aload_n hx hb dX0_put_51 rfl (lv_at hl 1 rfl) ?_
            refine va_get (D := D) (ci := 0) (v := .ref aS) (C := RX0) (T := TX0) (N := 2) hx hb hts uX0_X0_put hown hK hP 0 rfl rfl 0 (by decide) (hts (.fieldLink RX0 9 "RopeChoices$PlankRow" "sorted" "[I") (List.mem_of_getElem? (i := 2) rfl)) (fun _ h9 => h9) rfl dX0_put_52 ?_
            refine lv_iload_n hx hb dX0_put_55 rfl (lv_at hl 0 rfl) ?_
            refine lv_iload_n hx hb dX0_put_56 rfl (lv_at hl 2 rfl) ?_
            refine a_st (k := j) hx hb hK hP hD hS 1 0 rfl rfl (by omega) (Nat.le_of_ble_eq_true rfl) dX0_put_57 (fun H locs hP hD hS => ?_)
            have hP : va_P D vwCl [(aQ, .inr (0, [.ref aS, .int (nI ln)])), (aS, .inl (cA, 12, .inl (upd g j plank)))] H := hP
            have hD : va_D A [(aQ, .inr (0, [.ref aS, .int (nI ln)])), (aS, .inl (cA, 12, .inl (upd g j plank)))] := hD
            refine lv_aload_n hx hb dX0_put_58 rfl (lv_at hl 1 rfl) ?_
            refine lv_dup hx hb dX0_put_59 rfl ?_
            refine va_get (D := D) (ci := 0) (v := .int (nI ln)) (C := RX0) (T := TX0) (N := 2) hx hb hts uX0_X0_put hown hK hP 0 rfl rfl 1 (by decide) (hts (.fieldLink RX0 15 "RopeChoices$PlankRow" "length" "I") (List.mem_of_getElem? (i := 1) rfl)) (fun _ h9 => h9) rfl dX0_put_60 ?_
            refine lv_iconst (v := 1) hx hb dX0_put_63 (by decide) ?_
            refine lv_iadd hx hb dX0_put_64 ?_
            refine topi (nI (ln + 1)) (nI_1 _) ?_
            refine va_put (D := D) (ci := 0) (v := .int (nI (ln + 1))) (ty := .int) (C := RX0) (T := TX0) (N := 2) hx hb hts uX0_X0_put tyX0 tyX0_ok nmX0 hown hK hP hD hS 0 rfl rfl 1 (by decide) (hts (.fieldLink RX0 15 "RopeChoices$PlankRow" "length" "I") (List.mem_of_getElem? (i := 1) rfl)) (fun _ h9 => h9) rfl (by decide +kernel) rfl rfl (Nat.le_of_ble_eq_true rfl) dX0_put_65 (fun H locs hP hD hS => ?_)
            have hP : va_P D vwCl [(aQ, .inr (0, [.ref aS, .int (nI (ln + 1))])), (aS, .inl (cA, 12, .inl (upd g j plank)))] H := hP
            have hD : va_D A [(aQ, .inr (0, [.ref aS, .int (nI (ln + 1))])), (aS, .inl (cA, 12, .inl (upd g j plank)))] := hD
            refine useQ hQ ?_
            exact e_v F hr hlocks hK hP hD hS [0, 1] [0] _ (insL_end hI (Or.inr c_28)) rfl rfl rfl (Nat.le_of_ble_eq_true rfl) (Nat.le_of_ble_eq_true rfl) dX0_put_68
          · skip
            refine lv_aload_n hx hb dX0_put_31 rfl (lv_at hl 1 rfl) ?_
            refine va_get (D := D) (ci := 0) (v := .ref aS) (C := RX0) (T := TX0) (N := 2) hx hb hts uX0_X0_put hown hK hP 0 rfl rfl 0 (by decide) (hts (.fieldLink RX0 9 "RopeChoices$PlankRow" "sorted" "[I") (List.mem_of_getElem? (i := 2) rfl)) (fun _ h9 => h9) rfl dX0_put_32 ?_
            refine lv_iload_n hx hb dX0_put_35 rfl (lv_at hl 0 rfl) ?_
            refine lv_aload_n hx hb dX0_put_36 rfl (lv_at hl 1 rfl) ?_
            refine va_get (D := D) (ci := 0) (v := .ref aS) (C := RX0) (T := TX0) (N := 2) hx hb hts uX0_X0_put hown hK hP 0 rfl rfl 0 (by decide) (hts (.fieldLink RX0 9 "RopeChoices$PlankRow" "sorted" "[I") (List.mem_of_getElem? (i := 2) rfl)) (fun _ h9 => h9) rfl dX0_put_37 ?_
            refine lv_iload_n hx hb dX0_put_40 rfl (lv_at hl 0 rfl) ?_
            refine lv_iconst (v := 1) hx hb dX0_put_41 (by decide) ?_
            refine lv_isub hx hb dX0_put_42 ?_
            refine topi (nI (j - 1)) (nI_m1 g_16) ?_
            refine a_ld (k := j - 1) hx hb hK hP 1 0 rfl rfl (by omega) (Nat.le_of_ble_eq_true rfl) dX0_put_43 ?_
            refine a_st (k := j) hx hb hK hP hD hS 1 0 rfl rfl (by omega) (Nat.le_of_ble_eq_true rfl) dX0_put_44 (fun H locs hP hD hS => ?_)
            have hP : va_P D vwCl [(aQ, .inr (0, [.ref aS, .int (nI ln)])), (aS, .inl (cA, 12, .inl (upd g j (g (j - 1)))))] H := hP
            have hD : va_D A [(aQ, .inr (0, [.ref aS, .int (nI ln)])), (aS, .inl (cA, 12, .inl (upd g j (g (j - 1)))))] := hD
            refine lv_iinc (v := nI (j - 1)) (lv' := [(2, .int (nI (j - 1))), (0, .ref aQ), (1, .int plank)]) hx hb dX0_put_45 hl (k := 0) rfl (nI_inc_m1 g_16) (by decide) rfl (fun ls hl => ?_)
            refine lv_goto (tgt := 15) hx hb dX0_put_48 (by decide) ?_
            exact ih15 (j - 1) (upd g j (g (j - 1))) (by omega) (insL_s hI g_16 c_28) _ _ (hP.sub [0, 1] rfl) (hD.sub [0, 1] (by decide) rfl) hS ls (lv_sub hl [0, 1, 2] rfl)
    exact loop15 (ln + 1) ln fS (by omega) (insL_0 _ _ _) _ _ (hP.sub [0, 1] rfl) (hD.sub [0, 1] (by decide) rfl) hS ls (lv_sub hl [0, 1, 2] rfl)
  · skip
    have g_6 : 12 ≤ ln := nf_lt_f (by omega) (by omega) c_6
    exact absurd h12 (by omega)
theorem uX0_X0_middle : ∀ w ∈ u_ws RX0 TX0 2, w ∈ wsX0_middle := (fun _ h => List.mem_cons_of_mem _ (List.mem_append_right _ h))
set_option maxHeartbeats 4000000 in
set_option maxRecDepth 100000 in
theorem c_X0_middle (l : Launch) (D : va_G) (cA : ClassId) (aQ : Nat) (aS : Nat) (ln : Nat) (fS : Nat → Int32) (h12 : ln ≤ 12) (sz : Nat) : Met l yX0_middle wsX0_middle ({ frames := 0, cells := 0, slots := 0, locals := 0 } : Room) (va_Pc [.ref aQ] (Wd D [(cA, .int)] [(aQ, .inr (0, [.ref aS, .int (nI ln)])), (aS, .inl (cA, 12, .inl fS))] sz)) (va_Qi (fun (r : Int32) (_ : Unit) => r = midRow fS ln) (fun (_ : Unit) t => We D [(cA, .int)] [(aQ, .inr (0, [.ref aS, .int (nI ln)])), (aS, .inl (cA, 12, .inl fS))] (va_A [(aQ, .inr (0, [.ref aS, .int (nI ln)])), (aS, .inl (cA, 12, .inl fS))] sz) t) (va_A [(aQ, .inr (0, [.ref aS, .int (nI ln)])), (aS, .inl (cA, 12, .inl fS))] sz)) 0 0 (va_A [(aQ, .inr (0, [.ref aS, .int (nI ln)])), (aS, .inl (cA, 12, .inl fS))] sz) := by
  refine mk_met [.ref aQ] (fun A => va_Qi (fun (r : Int32) (_ : Unit) => r = midRow fS ln) (fun (_ : Unit) t => We D [(cA, .int)] [(aQ, .inr (0, [.ref aS, .int (nI ln)])), (aS, .inl (cA, 12, .inl fS))] A t) A) (by decide) rfl (Nat.le_of_ble_eq_true rfl) ?_
  intro p e s m args below meth c A ls F hr hlocks hname hP hK hD hA hl
  have hx := F.1
  have hb := F.2.1
  have hml := F.2.2.1
  have hown := F.2.2.2.1
  have hts := F.2.2.2.2
  have hS : va_S A s.heap s.heap [] := va_S.rf
  have hl : lv_has ls 1 [(0, .ref aQ)] := hl
  refine absQ (fun Q hQ => ?_)
  refine lv_aload_n hx hb dX0_middle_0 rfl (lv_at hl 0 rfl) ?_
  refine va_get (D := D) (ci := 0) (v := .int (nI ln)) (C := RX0) (T := TX0) (N := 2) hx hb hts uX0_X0_middle hown hK hP 0 rfl rfl 1 (by decide) (hts (.fieldLink RX0 15 "RopeChoices$PlankRow" "length" "I") (List.mem_of_getElem? (i := 1) rfl)) (fun _ h9 => h9) rfl dX0_middle_1 ?_
  refine lv_if_ne (tgt := 11) hx hb dX0_middle_4 (by decide) (fun c_4 => ?_) (fun c_4 => ?_)
  · skip
    have g_4 : ln ≠ 0 := nf_ne_t (by omega) (by omega) c_4
    refine lv_aload_n hx hb dX0_middle_11 rfl (lv_at hl 0 rfl) ?_
    refine va_get (D := D) (ci := 0) (v := .ref aS) (C := RX0) (T := TX0) (N := 2) hx hb hts uX0_X0_middle hown hK hP 0 rfl rfl 0 (by decide) (hts (.fieldLink RX0 9 "RopeChoices$PlankRow" "sorted" "[I") (List.mem_of_getElem? (i := 2) rfl)) (fun _ h9 => h9) rfl dX0_middle_12 ?_
    refine lv_aload_n hx hb dX0_middle_15 rfl (lv_at hl 0 rfl) ?_
    refine va_get (D := D) (ci := 0) (v := .int (nI ln)) (C := RX0) (T := TX0) (N := 2) hx hb hts uX0_X0_middle hown hK hP 0 rfl rfl 1 (by decide) (hts (.fieldLink RX0 15 "RopeChoices$PlankRow" "length" "I") (List.mem_of_getElem? (i := 1) rfl)) (fun _ h9 => h9) rfl dX0_middle_16 ?_
    refine lv_iconst (v := 1) hx hb dX0_middle_19 (by decide) ?_
    refine lv_isub hx hb dX0_middle_20 ?_
    refine topi (nI (ln - 1)) (nI_m1 (Nat.pos_of_ne_zero g_4)) ?_
    refine lv_iconst (v := 2) hx hb dX0_middle_21 (by decide) ?_
    refine lv_idiv hx hb dX0_middle_22 (by decide) ?_
    refine topi (nI ((ln - 1) / 2)) (nI_div2 _ (by omega)) ?_
    refine a_ld (k := (ln - 1) / 2) hx hb hK hP 1 0 rfl rfl (by omega) (Nat.le_of_ble_eq_true rfl) dX0_middle_23 ?_
    refine useQ hQ ?_
    exact e_i (v := (fS ((ln - 1) / 2))) F hr hlocks hK hP hD hS [0, 1] [0] () (midRow_s g_4) rfl rfl rfl (Nat.le_of_ble_eq_true rfl) (Nat.le_of_ble_eq_true rfl) dX0_middle_24
  · skip
    have g_4 : ln = 0 := nf_ne_f (by omega) (by omega) c_4
    refine lv_iconst (v := 0) hx hb dX0_middle_7 (by decide) ?_
    refine lv_goto (tgt := 24) hx hb dX0_middle_8 (by decide) ?_
    refine useQ hQ ?_
    exact e_i (v := 0) F hr hlocks hK hP hD hS [0, 1] [0] () (midRow_0 g_4) rfl rfl rfl (Nat.le_of_ble_eq_true rfl) (Nat.le_of_ble_eq_true rfl) dX0_middle_24
