theorem uX1_X1_distanceOfEnds : ∀ w ∈ u_ws RX1 TX1 10, w ∈ wsX1_distanceOfEnds := (fun _ h => List.mem_cons_of_mem _ (List.mem_append_right _ h))
set_option maxHeartbeats 4000000 in
set_option maxRecDepth 100000 in
theorem c_X1_distanceOfEnds (l : Launch) (D : va_G) (cA : ClassId) (h0 : Nat) (n : Nat) (rg : Int32) (st : Int32) (aV : Nat) (aW : Nat) (aR : Nat) (aP : Nat) (aK : Nat) (aL : Nat) (aQ : Nat) (w : Nat) (fw : Nat → Int32) (hn : n ≤ 12) (sz : Nat) : Met l yX1_distanceOfEnds wsX1_distanceOfEnds ({ frames := 1, cells := 0, slots := 0, locals := 30 } : Room) (va_Pc [.ref h0, .ref w] (Wd D [(cA, .int)] [(h0, .inr (1, [.int (nI n), .int rg, .int st, .ref aV, .ref aW, .ref aR, .ref aP, .ref aK, .ref aL, .ref aQ])), (w, .inl (cA, 12, .inl fw))] sz)) (va_Qi (fun (r : Int32) (_ : Unit) => r = wide fw n) (fun (_ : Unit) t => We D [(cA, .int)] [(h0, .inr (1, [.int (nI n), .int rg, .int st, .ref aV, .ref aW, .ref aR, .ref aP, .ref aK, .ref aL, .ref aQ])), (w, .inl (cA, 12, .inl fw))] (va_A [(h0, .inr (1, [.int (nI n), .int rg, .int st, .ref aV, .ref aW, .ref aR, .ref aP, .ref aK, .ref aL, .ref aQ])), (w, .inl (cA, 12, .inl fw))] sz) t) (va_A [(h0, .inr (1, [.int (nI n), .int rg, .int st, .ref aV, .ref aW, .ref aR, .ref aP, .ref aK, .ref aL, .ref aQ])), (w, .inl (cA, 12, .inl fw))] sz)) 0 0 (va_A [(h0, .inr (1, [.int (nI n), .int rg, .int st, .ref aV, .ref aW, .ref aR, .ref aP, .ref aK, .ref aL, .ref aQ])), (w, .inl (cA, 12, .inl fw))] sz) := by
  refine mk_met [.ref h0, .ref w] (fun A => va_Qi (fun (r : Int32) (_ : Unit) => r = wide fw n) (fun (_ : Unit) t => We D [(cA, .int)] [(h0, .inr (1, [.int (nI n), .int rg, .int st, .ref aV, .ref aW, .ref aR, .ref aP, .ref aK, .ref aL, .ref aQ])), (w, .inl (cA, 12, .inl fw))] A t) A) (by decide) rfl (Nat.le_of_ble_eq_true rfl) ?_
  intro p e s m args below meth c A ls F hr hlocks hname hP hK hD hA hl
  have hx := F.1
  have hb := F.2.1
  have hml := F.2.2.1
  have hown := F.2.2.2.1
  have hts := F.2.2.2.2
  have hS : va_S A s.heap s.heap [] := va_S.rf
  have hl : lv_has ls 5 [(0, .ref h0), (1, .ref w)] := hl
  refine absQ (fun Q hQ => ?_)
  refine lv_bipush (v := 40) hx hb dX1_distanceOfEnds_0 (by decide) ?_
  refine lv_istore_n (lv' := [(2, .int 40), (0, .ref h0), (1, .ref w)]) hx hb dX1_distanceOfEnds_2 rfl hl (by decide) rfl (fun ls hl => ?_)
  refine lv_iconst (v := 0) hx hb dX1_distanceOfEnds_3 (by decide) ?_
  refine lv_istore_n (lv' := [(3, .int 0), (2, .int 40), (0, .ref h0), (1, .ref w)]) hx hb dX1_distanceOfEnds_4 rfl hl (by decide) rfl (fun ls hl => ?_)
  refine lv_iconst (v := 0) hx hb dX1_distanceOfEnds_5 (by decide) ?_
  refine lv_istore (lv' := [(4, .int 0), (3, .int 0), (2, .int 40), (0, .ref h0), (1, .ref w)]) hx hb dX1_distanceOfEnds_6 hl (by decide) rfl (fun ls hl => ?_)
  have loop8 : ∀ (k : Nat) (i : Nat) (lo : Int32) (up : Int32), (n < i + k) → (i ≤ n) → (lo = loEnd fw 40 i) → (up = hiEnd fw i) →  ∀ (H : Heap) (locs : List Loc), va_P D vwCl [(h0, .inr (1, [.int (nI n), .int rg, .int st, .ref aV, .ref aW, .ref aR, .ref aP, .ref aK, .ref aL, .ref aQ])), (w, .inl (cA, 12, .inl fw))] H → va_D A [(h0, .inr (1, [.int (nI n), .int rg, .int st, .ref aV, .ref aW, .ref aR, .ref aP, .ref aK, .ref aL, .ref aQ])), (w, .inl (cA, 12, .inl fw))] → va_S A s.heap H locs → ∀ ls : Array Slot, lv_has ls 5 [(4, .int (nI i)), (3, .int up), (2, .int lo), (0, .ref h0), (1, .ref w)] → W p l e ({ frames := 1, cells := 0, slots := 0, locals := 30 } : Room) s m args below meth c H locs 0 0 Q (F0 m 8 ls []) := by
    intro k
    induction k with
    | zero =>
      intro i lo up hk hi hlo hup
      exact absurd hk (by omega)
    | succ k ih8 =>
      intro i lo up hk hi hlo hup H locs hP hD hS ls hl
      refine lv_iload hx hb dX1_distanceOfEnds_8 (lv_at hl 0 rfl) ?_
      refine lv_aload_n hx hb dX1_distanceOfEnds_10 rfl (lv_at hl 3 rfl) ?_
      refine va_get (D := D) (ci := 1) (v := .int (nI n)) (C := RX1) (T := TX1) (N := 10) hx hb hts uX1_X1_distanceOfEnds hown hK hP 0 rfl rfl 0 (by decide) (hts (.fieldLink RX1 7 "RopeChoices" "count" "I") (List.mem_of_getElem? (i := 1) rfl)) (fun _ h9 => h9) rfl dX1_distanceOfEnds_11 ?_
      refine lv_icmp_ge (tgt := 41) hx hb dX1_distanceOfEnds_14 (by decide) (fun c_14 => ?_) (fun c_14 => ?_)
      · skip
        have g_14 : n ≤ i := nf_ge_t (by omega) (by omega) c_14
        refine lv_iconst (v := 0) hx hb dX1_distanceOfEnds_41 (by decide) ?_
        refine lv_iload_n hx hb dX1_distanceOfEnds_42 rfl (lv_at hl 1 rfl) ?_
        refine lv_iload_n hx hb dX1_distanceOfEnds_43 rfl (lv_at hl 2 rfl) ?_
        refine lv_isub hx hb dX1_distanceOfEnds_44 ?_
        refine va_mmax hx hb (hml.trans hl.1.symm) hown (hts (.methodLink RX1 260 Lib.Math.max.name) (List.mem_of_getElem? (i := 6) rfl)) (hts (.static Lib.Math.max.name) (List.mem_of_getElem? (i := 7) rfl)) (hts (.initialized "java/lang/Math") (List.mem_of_getElem? (i := 4) rfl)) (hts (.code Lib.Math.max.name Lib.Math.max.code 2 (some .int)) (List.mem_of_getElem? (i := 8) rfl)) (Nat.le_of_ble_eq_true rfl) (Nat.le_of_ble_eq_true rfl) (Nat.le_of_ble_eq_true rfl) (Nat.le_of_ble_eq_true rfl) dX1_distanceOfEnds_45 ?_
        refine topi (jmax 0 (up - lo)) rfl ?_
        refine useQ hQ ?_
        exact e_i (v := (jmax 0 (up - lo))) F hr hlocks hK hP hD hS [0, 1] [0] () (by rw [hlo, hup, show i = n by omega]; rfl) rfl rfl rfl (Nat.le_of_ble_eq_true rfl) (Nat.le_of_ble_eq_true rfl) dX1_distanceOfEnds_48
      · skip
        have g_14 : i < n := nf_ge_f (by omega) (by omega) c_14
        refine lv_iload_n hx hb dX1_distanceOfEnds_17 rfl (lv_at hl 2 rfl) ?_
        refine lv_aload_n hx hb dX1_distanceOfEnds_18 rfl (lv_at hl 4 rfl) ?_
        refine lv_iload hx hb dX1_distanceOfEnds_19 (lv_at hl 0 rfl) ?_
        refine a_ld (k := i) hx hb hK hP 1 0 rfl rfl (by omega) (Nat.le_of_ble_eq_true rfl) dX1_distanceOfEnds_21 ?_
        refine va_mmin hx hb (hml.trans hl.1.symm) hown (hts (.methodLink RX1 146 Lib.Math.min.name) (List.mem_of_getElem? (i := 2) rfl)) (hts (.static Lib.Math.min.name) (List.mem_of_getElem? (i := 3) rfl)) (hts (.initialized "java/lang/Math") (List.mem_of_getElem? (i := 4) rfl)) (hts (.code Lib.Math.min.name Lib.Math.min.code 2 (some .int)) (List.mem_of_getElem? (i := 5) rfl)) (Nat.le_of_ble_eq_true rfl) (Nat.le_of_ble_eq_true rfl) (Nat.le_of_ble_eq_true rfl) (Nat.le_of_ble_eq_true rfl) dX1_distanceOfEnds_22 ?_
        refine topi (jmin lo (fw i)) rfl ?_
        refine lv_istore_n (lv' := [(2, .int (jmin lo (fw i))), (4, .int (nI i)), (3, .int up), (0, .ref h0), (1, .ref w)]) hx hb dX1_distanceOfEnds_25 rfl hl (by decide) rfl (fun ls hl => ?_)
        refine lv_iload_n hx hb dX1_distanceOfEnds_26 rfl (lv_at hl 2 rfl) ?_
        refine lv_aload_n hx hb dX1_distanceOfEnds_27 rfl (lv_at hl 4 rfl) ?_
        refine lv_iload hx hb dX1_distanceOfEnds_28 (lv_at hl 1 rfl) ?_
        refine a_ld (k := i) hx hb hK hP 1 0 rfl rfl (by omega) (Nat.le_of_ble_eq_true rfl) dX1_distanceOfEnds_30 ?_
        refine va_mmax hx hb (hml.trans hl.1.symm) hown (hts (.methodLink RX1 260 Lib.Math.max.name) (List.mem_of_getElem? (i := 6) rfl)) (hts (.static Lib.Math.max.name) (List.mem_of_getElem? (i := 7) rfl)) (hts (.initialized "java/lang/Math") (List.mem_of_getElem? (i := 4) rfl)) (hts (.code Lib.Math.max.name Lib.Math.max.code 2 (some .int)) (List.mem_of_getElem? (i := 8) rfl)) (Nat.le_of_ble_eq_true rfl) (Nat.le_of_ble_eq_true rfl) (Nat.le_of_ble_eq_true rfl) (Nat.le_of_ble_eq_true rfl) dX1_distanceOfEnds_31 ?_
        refine topi (jmax up (fw i)) rfl ?_
        refine lv_istore_n (lv' := [(3, .int (jmax up (fw i))), (2, .int (jmin lo (fw i))), (4, .int (nI i)), (0, .ref h0), (1, .ref w)]) hx hb dX1_distanceOfEnds_34 rfl hl (by decide) rfl (fun ls hl => ?_)
        refine lv_iinc (v := nI (i + 1)) (lv' := [(4, .int (nI (i + 1))), (3, .int (jmax up (fw i))), (2, .int (jmin lo (fw i))), (0, .ref h0), (1, .ref w)]) hx hb dX1_distanceOfEnds_35 hl (k := 2) rfl (nI_1 _) (by decide) rfl (fun ls hl => ?_)
        refine lv_goto (tgt := 8) hx hb dX1_distanceOfEnds_38 (by decide) ?_
        exact ih8 (i + 1) (jmin lo (fw i)) (jmax up (fw i)) (by omega) (by omega) (by rw [loEnd_s, hlo]) (by rw [hiEnd_s, hup]) _ _ (hP.sub [0, 1] rfl) (hD.sub [0, 1] (by decide) rfl) hS ls (lv_sub hl [0, 1, 2, 3, 4] rfl)
  exact loop8 (n + 1) 0 40 0 (by omega) (Nat.zero_le _) rfl rfl _ _ (hP.sub [0, 1] rfl) (hD.sub [0, 1] (by decide) rfl) hS ls (lv_sub hl [0, 1, 2, 3, 4] rfl)
theorem uX1_X1_hasTwoVillages : ∀ w ∈ u_ws RX1 TX1 10, w ∈ wsX1_hasTwoVillages := (fun _ h => List.mem_cons_of_mem _ (List.mem_append_right _ h))
set_option maxHeartbeats 4000000 in
set_option maxRecDepth 100000 in
theorem c_X1_hasTwoVillages (l : Launch) (D : va_G) (cA : ClassId) (h0 : Nat) (n : Nat) (rg : Int32) (st : Int32) (aV : Nat) (aW : Nat) (aR : Nat) (aP : Nat) (aK : Nat) (aL : Nat) (aQ : Nat) (fV : Nat → Int32) (hn : n ≤ 12) (sz : Nat) : Met l yX1_hasTwoVillages wsX1_hasTwoVillages ({ frames := 0, cells := 0, slots := 0, locals := 0 } : Room) (va_Pc [.ref h0] (Wd D [(cA, .int)] [(h0, .inr (1, [.int (nI n), .int rg, .int st, .ref aV, .ref aW, .ref aR, .ref aP, .ref aK, .ref aL, .ref aQ])), (aV, .inl (cA, 12, .inl fV))] sz)) (va_Qi (fun (r : Int32) (_ : Unit) => r = bP (twoV fV n)) (fun (_ : Unit) t => We D [(cA, .int)] [(h0, .inr (1, [.int (nI n), .int rg, .int st, .ref aV, .ref aW, .ref aR, .ref aP, .ref aK, .ref aL, .ref aQ])), (aV, .inl (cA, 12, .inl fV))] (va_A [(h0, .inr (1, [.int (nI n), .int rg, .int st, .ref aV, .ref aW, .ref aR, .ref aP, .ref aK, .ref aL, .ref aQ])), (aV, .inl (cA, 12, .inl fV))] sz) t) (va_A [(h0, .inr (1, [.int (nI n), .int rg, .int st, .ref aV, .ref aW, .ref aR, .ref aP, .ref aK, .ref aL, .ref aQ])), (aV, .inl (cA, 12, .inl fV))] sz)) 0 0 (va_A [(h0, .inr (1, [.int (nI n), .int rg, .int st, .ref aV, .ref aW, .ref aR, .ref aP, .ref aK, .ref aL, .ref aQ])), (aV, .inl (cA, 12, .inl fV))] sz) := by
  refine mk_met [.ref h0] (fun A => va_Qi (fun (r : Int32) (_ : Unit) => r = bP (twoV fV n)) (fun (_ : Unit) t => We D [(cA, .int)] [(h0, .inr (1, [.int (nI n), .int rg, .int st, .ref aV, .ref aW, .ref aR, .ref aP, .ref aK, .ref aL, .ref aQ])), (aV, .inl (cA, 12, .inl fV))] A t) A) (by decide) rfl (Nat.le_of_ble_eq_true rfl) ?_
  intro p e s m args below meth c A ls F hr hlocks hname hP hK hD hA hl
  have hx := F.1
  have hb := F.2.1
  have hml := F.2.2.1
  have hown := F.2.2.2.1
  have hts := F.2.2.2.2
  have hS : va_S A s.heap s.heap [] := va_S.rf
  have hl : lv_has ls 2 [(0, .ref h0)] := hl
  refine absQ (fun Q hQ => ?_)
  refine lv_iconst (v := 1) hx hb dX1_hasTwoVillages_0 (by decide) ?_
  refine lv_istore_n (lv' := [(1, .int 1), (0, .ref h0)]) hx hb dX1_hasTwoVillages_1 rfl hl (by decide) rfl (fun ls hl => ?_)
  have loop2 : ∀ (k : Nat) (i : Nat), (n + 1 < i + k) → (1 ≤ i) → (i ≤ n + 1) → (∀ j, 1 ≤ j → j < i → fV j = fV (j - 1)) →  ∀ (H : Heap) (locs : List Loc), va_P D vwCl [(h0, .inr (1, [.int (nI n), .int rg, .int st, .ref aV, .ref aW, .ref aR, .ref aP, .ref aK, .ref aL, .ref aQ])), (aV, .inl (cA, 12, .inl fV))] H → va_D A [(h0, .inr (1, [.int (nI n), .int rg, .int st, .ref aV, .ref aW, .ref aR, .ref aP, .ref aK, .ref aL, .ref aQ])), (aV, .inl (cA, 12, .inl fV))] → va_S A s.heap H locs → ∀ ls : Array Slot, lv_has ls 2 [(1, .int (nI i)), (0, .ref h0)] → W p l e ({ frames := 0, cells := 0, slots := 0, locals := 0 } : Room) s m args below meth c H locs 0 0 Q (F0 m 2 ls []) := by
    intro k
    induction k with
    | zero =>
      intro i hk hi hle hno
      exact absurd hk (by omega)
    | succ k ih2 =>
      intro i hk hi hle hno H locs hP hD hS ls hl
      refine lv_iload_n hx hb dX1_hasTwoVillages_2 rfl (lv_at hl 0 rfl) ?_
      refine lv_aload_n hx hb dX1_hasTwoVillages_3 rfl (lv_at hl 1 rfl) ?_
      refine va_get (D := D) (ci := 1) (v := .int (nI n)) (C := RX1) (T := TX1) (N := 10) hx hb hts uX1_X1_hasTwoVillages hown hK hP 0 rfl rfl 0 (by decide) (hts (.fieldLink RX1 7 "RopeChoices" "count" "I") (List.mem_of_getElem? (i := 1) rfl)) (fun _ h9 => h9) rfl dX1_hasTwoVillages_4 ?_
      refine lv_icmp_ge (tgt := 35) hx hb dX1_hasTwoVillages_7 (by decide) (fun c_7 => ?_) (fun c_7 => ?_)
      · skip
        have g_7 : n ≤ i := nf_ge_t (by omega) (by omega) c_7
        refine lv_iconst (v := 0) hx hb dX1_hasTwoVillages_35 (by decide) ?_
        refine useQ hQ ?_
        exact e_z (v := 0) F hr hlocks hK hP hD hS [0, 1] [0] () (by first | exact Or.inl rfl | exact Or.inr rfl | exact bP_01 _) (bP_f (fun ⟨j, a, b, z⟩ => z (hno j a (by omega)))) rfl rfl rfl (Nat.le_of_ble_eq_true rfl) (Nat.le_of_ble_eq_true rfl) dX1_hasTwoVillages_36
      · skip
        have g_7 : i < n := nf_ge_f (by omega) (by omega) c_7
        refine lv_aload_n hx hb dX1_hasTwoVillages_10 rfl (lv_at hl 1 rfl) ?_
        refine va_get (D := D) (ci := 1) (v := .ref aV) (C := RX1) (T := TX1) (N := 10) hx hb hts uX1_X1_hasTwoVillages hown hK hP 0 rfl rfl 3 (by decide) (hts (.fieldLink RX1 19 "RopeChoices" "villages" "[I") (List.mem_of_getElem? (i := 2) rfl)) (fun _ h9 => h9) rfl dX1_hasTwoVillages_11 ?_
        refine lv_iload_n hx hb dX1_hasTwoVillages_14 rfl (lv_at hl 0 rfl) ?_
        refine a_ld (k := i) hx hb hK hP 1 0 rfl rfl (by omega) (Nat.le_of_ble_eq_true rfl) dX1_hasTwoVillages_15 ?_
        refine lv_aload_n hx hb dX1_hasTwoVillages_16 rfl (lv_at hl 1 rfl) ?_
        refine va_get (D := D) (ci := 1) (v := .ref aV) (C := RX1) (T := TX1) (N := 10) hx hb hts uX1_X1_hasTwoVillages hown hK hP 0 rfl rfl 3 (by decide) (hts (.fieldLink RX1 19 "RopeChoices" "villages" "[I") (List.mem_of_getElem? (i := 2) rfl)) (fun _ h9 => h9) rfl dX1_hasTwoVillages_17 ?_
        refine lv_iload_n hx hb dX1_hasTwoVillages_20 rfl (lv_at hl 0 rfl) ?_
        refine lv_iconst (v := 1) hx hb dX1_hasTwoVillages_21 (by decide) ?_
        refine lv_isub hx hb dX1_hasTwoVillages_22 ?_
        refine topi (nI (i - 1)) (nI_m1 (by omega)) ?_
        refine a_ld (k := i - 1) hx hb hK hP 1 0 rfl rfl (by omega) (Nat.le_of_ble_eq_true rfl) dX1_hasTwoVillages_23 ?_
        refine lv_icmp_eq (tgt := 29) hx hb dX1_hasTwoVillages_24 (by decide) (fun c_24 => ?_) (fun c_24 => ?_)
        · skip
          refine lv_iinc (v := nI (i + 1)) (lv' := [(1, .int (nI (i + 1))), (0, .ref h0)]) hx hb dX1_hasTwoVillages_29 hl (k := 0) rfl (nI_1 _) (by decide) rfl (fun ls hl => ?_)
          refine lv_goto (tgt := 2) hx hb dX1_hasTwoVillages_32 (by decide) ?_
          exact ih2 (i + 1) (by omega) (by omega) (by omega) (fun j a b => if h : j = i then h ▸ c_24 else hno j a (by omega)) _ _ (hP.sub [0, 1] rfl) (hD.sub [0, 1] (by decide) rfl) hS ls (lv_sub hl [0, 1] rfl)
        · skip
          refine lv_iconst (v := 1) hx hb dX1_hasTwoVillages_27 (by decide) ?_
          refine useQ hQ ?_
          exact e_z (v := 1) F hr hlocks hK hP hD hS [0, 1] [0] () (by first | exact Or.inl rfl | exact Or.inr rfl | exact bP_01 _) (bP_t ⟨i, hi, g_7, c_24⟩) rfl rfl rfl (Nat.le_of_ble_eq_true rfl) (Nat.le_of_ble_eq_true rfl) dX1_hasTwoVillages_28
  exact loop2 (n + 1) 1 (by omega) (Nat.le_refl 1) (by omega) (fun j a b => absurd b (by omega)) _ _ (hP.sub [0, 1] rfl) (hD.sub [0, 1] (by decide) rfl) hS ls (lv_sub hl [0, 1] rfl)
set_option maxHeartbeats 4000000 in
set_option maxRecDepth 100000 in
theorem c_X1_agreesAt (l : Launch) (D : va_G) (cA : ClassId) (h0 : Nat) (n : Nat) (rg : Int32) (st : Int32) (aV : Nat) (aW : Nat) (aR : Nat) (aP : Nat) (aK : Nat) (aL : Nat) (aQ : Nat) (w : Nat) (fw : Nat → Int32) (fV : Nat → Int32) (hn : n ≤ 12) (sz : Nat) : Met l yX1_agreesAt wsX1_agreesAt ({ frames := 2, cells := 0, slots := 0, locals := 54 } : Room) (va_Pc [.ref h0, .ref w] (Wd D [(cA, .int)] [(h0, .inr (1, [.int (nI n), .int rg, .int st, .ref aV, .ref aW, .ref aR, .ref aP, .ref aK, .ref aL, .ref aQ])), (w, .inl (cA, 12, .inl fw)), (aV, .inl (cA, 12, .inl fV))] sz)) (va_Qi (fun (r : Int32) (_ : Unit) => r = bP (agreeP fV fw n)) (fun (_ : Unit) t => We D [(cA, .int)] [(h0, .inr (1, [.int (nI n), .int rg, .int st, .ref aV, .ref aW, .ref aR, .ref aP, .ref aK, .ref aL, .ref aQ])), (w, .inl (cA, 12, .inl fw)), (aV, .inl (cA, 12, .inl fV))] (va_A [(h0, .inr (1, [.int (nI n), .int rg, .int st, .ref aV, .ref aW, .ref aR, .ref aP, .ref aK, .ref aL, .ref aQ])), (w, .inl (cA, 12, .inl fw)), (aV, .inl (cA, 12, .inl fV))] sz) t) (va_A [(h0, .inr (1, [.int (nI n), .int rg, .int st, .ref aV, .ref aW, .ref aR, .ref aP, .ref aK, .ref aL, .ref aQ])), (w, .inl (cA, 12, .inl fw)), (aV, .inl (cA, 12, .inl fV))] sz)) 0 0 (va_A [(h0, .inr (1, [.int (nI n), .int rg, .int st, .ref aV, .ref aW, .ref aR, .ref aP, .ref aK, .ref aL, .ref aQ])), (w, .inl (cA, 12, .inl fw)), (aV, .inl (cA, 12, .inl fV))] sz) := by
  refine mk_met [.ref h0, .ref w] (fun A => va_Qi (fun (r : Int32) (_ : Unit) => r = bP (agreeP fV fw n)) (fun (_ : Unit) t => We D [(cA, .int)] [(h0, .inr (1, [.int (nI n), .int rg, .int st, .ref aV, .ref aW, .ref aR, .ref aP, .ref aK, .ref aL, .ref aQ])), (w, .inl (cA, 12, .inl fw)), (aV, .inl (cA, 12, .inl fV))] A t) A) (by decide) rfl (Nat.le_of_ble_eq_true rfl) ?_
  intro p e s m args below meth c A ls F hr hlocks hname hP hK hD hA hl
  have hx := F.1
  have hb := F.2.1
  have hml := F.2.2.1
  have hown := F.2.2.2.1
  have hts := F.2.2.2.2
  have hS : va_S A s.heap s.heap [] := va_S.rf
  have hl : lv_has ls 2 [(0, .ref h0), (1, .ref w)] := hl
  refine absQ (fun Q hQ => ?_)
  refine lv_aload_n hx hb dX1_agreesAt_0 rfl (lv_at hl 0 rfl) ?_
  have hX_1 : Cut D A [(h0, .inr (1, [.int (nI n), .int rg, .int st, .ref aV, .ref aW, .ref aR, .ref aP, .ref aK, .ref aL, .ref aQ])), (w, .inl (cA, 12, .inl fw)), (aV, .inl (cA, 12, .inl fV))] [(h0, .inr (1, [.int (nI n), .int rg, .int st, .ref aV, .ref aW, .ref aR, .ref aP, .ref aK, .ref aL, .ref aQ])), (aV, .inl (cA, 12, .inl fV))] [(w, .inl (cA, 12, .inl fw))] [(cA, .int)] [(cA, .int)] [0, 2] [1] [0] := ⟨rfl, rfl, rfl, rfl, by decide, rfl⟩
  refine ki hX_1 hP hD hS hA (kRunV (q := (RX1, TX1, 10)) (As := []) (rest := []) F (c_X1_hasTwoVillages l D cA h0 n rg st aV aW aR aP aK aL aQ fV hn s.heap.size) (cwV 0 hts gX1_agreesAt_X1_hasTwoVillages rfl rfl rfl (by decide +kernel) ⟨Nat.le_of_ble_eq_true rfl, Nat.le_of_ble_eq_true rfl⟩) hK hP hD hX_1 0 rfl rfl rfl hl.1 rfl (Nat.le_of_ble_eq_true rfl) dX1_agreesAt_1 ⟨Nat.le_of_ble_eq_true rfl, Nat.le_of_ble_eq_true rfl⟩) (fun r_2 u_3 H locs hw_4 hP hD hS => ?_)
  have hw_4 : r_2 = bP (twoV fV n) := hw_4
  rw [hw_4]
  have hP : va_P D vwCl [(w, .inl (cA, 12, .inl fw)), (h0, .inr (1, [.int (nI n), .int rg, .int st, .ref aV, .ref aW, .ref aR, .ref aP, .ref aK, .ref aL, .ref aQ])), (aV, .inl (cA, 12, .inl fV))] H := hP
  have hD : va_D A [(w, .inl (cA, 12, .inl fw)), (h0, .inr (1, [.int (nI n), .int rg, .int st, .ref aV, .ref aW, .ref aR, .ref aP, .ref aK, .ref aL, .ref aQ])), (aV, .inl (cA, 12, .inl fV))] := hD
  refine lv_if_eq (tgt := 20) hx hb dX1_agreesAt_4 (by decide) (fun c_4 => ?_) (fun c_4 => ?_)
  · skip
    refine lv_iconst (v := 0) hx hb dX1_agreesAt_20 (by decide) ?_
    refine useQ hQ ?_
    exact e_z (v := 0) F hr hlocks hK hP hD hS [1, 0, 2] [0] () (by first | exact Or.inl rfl | exact Or.inr rfl | exact bP_01 _) (bP_f (fun z => bP_eq c_4 z.1)) rfl rfl rfl (Nat.le_of_ble_eq_true rfl) (Nat.le_of_ble_eq_true rfl) dX1_agreesAt_21
  · skip
    refine lv_aload_n hx hb dX1_agreesAt_7 rfl (lv_at hl 0 rfl) ?_
    refine lv_aload_n hx hb dX1_agreesAt_8 rfl (lv_at hl 1 rfl) ?_
    have hX_5 : Cut D A [(w, .inl (cA, 12, .inl fw)), (h0, .inr (1, [.int (nI n), .int rg, .int st, .ref aV, .ref aW, .ref aR, .ref aP, .ref aK, .ref aL, .ref aQ])), (aV, .inl (cA, 12, .inl fV))] [(h0, .inr (1, [.int (nI n), .int rg, .int st, .ref aV, .ref aW, .ref aR, .ref aP, .ref aK, .ref aL, .ref aQ])), (w, .inl (cA, 12, .inl fw))] [(aV, .inl (cA, 12, .inl fV))] [(cA, .int)] [(cA, .int)] [1, 0] [2] [0] := ⟨rfl, rfl, rfl, rfl, by decide, rfl⟩
    refine ki hX_5 hP hD hS hA (kRunV (q := (RX1, TX1, 10)) (As := [.ref w]) (rest := []) F (c_X1_distanceOfEnds l D cA h0 n rg st aV aW aR aP aK aL aQ w fw hn H.size) (cwV 1 hts gX1_agreesAt_X1_distanceOfEnds rfl rfl rfl (by decide +kernel) ⟨Nat.le_of_ble_eq_true rfl, Nat.le_of_ble_eq_true rfl⟩) hK hP hD hX_5 1 rfl rfl rfl hl.1 rfl (Nat.le_of_ble_eq_true rfl) dX1_agreesAt_9 ⟨Nat.le_of_ble_eq_true rfl, Nat.le_of_ble_eq_true rfl⟩) (fun r_6 u_7 H locs hw_8 hP hD hS => ?_)
    have hw_8 : r_6 = wide fw n := hw_8
    rw [hw_8]
    have hP : va_P D vwCl [(aV, .inl (cA, 12, .inl fV)), (h0, .inr (1, [.int (nI n), .int rg, .int st, .ref aV, .ref aW, .ref aR, .ref aP, .ref aK, .ref aL, .ref aQ])), (w, .inl (cA, 12, .inl fw))] H := hP
    have hD : va_D A [(aV, .inl (cA, 12, .inl fV)), (h0, .inr (1, [.int (nI n), .int rg, .int st, .ref aV, .ref aW, .ref aR, .ref aP, .ref aK, .ref aL, .ref aQ])), (w, .inl (cA, 12, .inl fw))] := hD
    refine lv_iconst (v := 2) hx hb dX1_agreesAt_12 (by decide) ?_
    refine lv_icmp_gt (tgt := 20) hx hb dX1_agreesAt_13 (by decide) (fun c_13 => ?_) (fun c_13 => ?_)
    · skip
      refine lv_iconst (v := 0) hx hb dX1_agreesAt_20 (by decide) ?_
      refine useQ hQ ?_
      exact e_z (v := 0) F hr hlocks hK hP hD hS [1, 2, 0] [0] () (by first | exact Or.inl rfl | exact Or.inr rfl | exact bP_01 _) (bP_f (fun z => Int32.not_le.mpr c_13 z.2)) rfl rfl rfl (Nat.le_of_ble_eq_true rfl) (Nat.le_of_ble_eq_true rfl) dX1_agreesAt_21
    · skip
      refine lv_iconst (v := 1) hx hb dX1_agreesAt_16 (by decide) ?_
      refine lv_goto (tgt := 21) hx hb dX1_agreesAt_17 (by decide) ?_
      refine useQ hQ ?_
      exact e_z (v := 1) F hr hlocks hK hP hD hS [1, 2, 0] [0] () (by first | exact Or.inl rfl | exact Or.inr rfl | exact bP_01 _) (bP_t ⟨bP_ne c_4, Int32.not_lt.mp c_13⟩) rfl rfl rfl (Nat.le_of_ble_eq_true rfl) (Nat.le_of_ble_eq_true rfl) dX1_agreesAt_21
theorem uX1_X1_discontentOfAll : ∀ w ∈ u_ws RX1 TX1 10, w ∈ wsX1_discontentOfAll := (fun _ h => List.mem_cons_of_mem _ (List.mem_append_right _ h))
set_option maxHeartbeats 4000000 in
set_option maxRecDepth 100000 in
theorem c_X1_discontentOfAll (l : Launch) (D : va_G) (cA : ClassId) (h0 : Nat) (n : Nat) (rg : Int32) (st : Int32) (aV : Nat) (aW : Nat) (aR : Nat) (aP : Nat) (aK : Nat) (aL : Nat) (aQ : Nat) (fW : Nat → Int32) (x : Int32) (hn : n ≤ 12) (sz : Nat) : Met l yX1_discontentOfAll wsX1_discontentOfAll ({ frames := 2, cells := 0, slots := 0, locals := 52 } : Room) (va_Pc [.ref h0, .int x] (Wd D [(cA, .int)] [(h0, .inr (1, [.int (nI n), .int rg, .int st, .ref aV, .ref aW, .ref aR, .ref aP, .ref aK, .ref aL, .ref aQ])), (aW, .inl (cA, 12, .inl fW))] sz)) (va_Qi (fun (r : Int32) (_ : Unit) => r = disAll fW x n) (fun (_ : Unit) t => We D [(cA, .int)] [(h0, .inr (1, [.int (nI n), .int rg, .int st, .ref aV, .ref aW, .ref aR, .ref aP, .ref aK, .ref aL, .ref aQ])), (aW, .inl (cA, 12, .inl fW))] (va_A [(h0, .inr (1, [.int (nI n), .int rg, .int st, .ref aV, .ref aW, .ref aR, .ref aP, .ref aK, .ref aL, .ref aQ])), (aW, .inl (cA, 12, .inl fW))] sz) t) (va_A [(h0, .inr (1, [.int (nI n), .int rg, .int st, .ref aV, .ref aW, .ref aR, .ref aP, .ref aK, .ref aL, .ref aQ])), (aW, .inl (cA, 12, .inl fW))] sz)) 0 0 (va_A [(h0, .inr (1, [.int (nI n), .int rg, .int st, .ref aV, .ref aW, .ref aR, .ref aP, .ref aK, .ref aL, .ref aQ])), (aW, .inl (cA, 12, .inl fW))] sz) := by
  refine mk_met [.ref h0, .int x] (fun A => va_Qi (fun (r : Int32) (_ : Unit) => r = disAll fW x n) (fun (_ : Unit) t => We D [(cA, .int)] [(h0, .inr (1, [.int (nI n), .int rg, .int st, .ref aV, .ref aW, .ref aR, .ref aP, .ref aK, .ref aL, .ref aQ])), (aW, .inl (cA, 12, .inl fW))] A t) A) (by decide) rfl (Nat.le_of_ble_eq_true rfl) ?_
  intro p e s m args below meth c A ls F hr hlocks hname hP hK hD hA hl
  have hx := F.1
  have hb := F.2.1
  have hml := F.2.2.1
  have hown := F.2.2.2.1
  have hts := F.2.2.2.2
  have hS : va_S A s.heap s.heap [] := va_S.rf
  have hl : lv_has ls 4 [(0, .ref h0), (1, .int x)] := hl
  refine absQ (fun Q hQ => ?_)
  refine lv_iconst (v := 0) hx hb dX1_discontentOfAll_0 (by decide) ?_
  refine lv_istore_n (lv' := [(2, .int 0), (0, .ref h0), (1, .int x)]) hx hb dX1_discontentOfAll_1 rfl hl (by decide) rfl (fun ls hl => ?_)
  refine lv_iconst (v := 0) hx hb dX1_discontentOfAll_2 (by decide) ?_
  refine lv_istore_n (lv' := [(3, .int 0), (2, .int 0), (0, .ref h0), (1, .int x)]) hx hb dX1_discontentOfAll_3 rfl hl (by decide) rfl (fun ls hl => ?_)
  have loop4 : ∀ (k : Nat) (i : Nat) (v : Int32), (n < i + k) → (i ≤ n) → (v = disAll fW x i) →  ∀ (H : Heap) (locs : List Loc), va_P D vwCl [(h0, .inr (1, [.int (nI n), .int rg, .int st, .ref aV, .ref aW, .ref aR, .ref aP, .ref aK, .ref aL, .ref aQ])), (aW, .inl (cA, 12, .inl fW))] H → va_D A [(h0, .inr (1, [.int (nI n), .int rg, .int st, .ref aV, .ref aW, .ref aR, .ref aP, .ref aK, .ref aL, .ref aQ])), (aW, .inl (cA, 12, .inl fW))] → va_S A s.heap H locs → ∀ ls : Array Slot, lv_has ls 4 [(3, .int (nI i)), (2, .int v), (0, .ref h0), (1, .int x)] → W p l e ({ frames := 2, cells := 0, slots := 0, locals := 52 } : Room) s m args below meth c H locs 0 0 Q (F0 m 4 ls []) := by
    intro k
    induction k with
    | zero =>
      intro i v hk hi hv
      exact absurd hk (by omega)
    | succ k ih4 =>
      intro i v hk hi hv H locs hP hD hS ls hl
      refine lv_iload_n hx hb dX1_discontentOfAll_4 rfl (lv_at hl 0 rfl) ?_
      refine lv_aload_n hx hb dX1_discontentOfAll_5 rfl (lv_at hl 2 rfl) ?_
      refine va_get (D := D) (ci := 1) (v := .int (nI n)) (C := RX1) (T := TX1) (N := 10) hx hb hts uX1_X1_discontentOfAll hown hK hP 0 rfl rfl 0 (by decide) (hts (.fieldLink RX1 7 "RopeChoices" "count" "I") (List.mem_of_getElem? (i := 1) rfl)) (fun _ h9 => h9) rfl dX1_discontentOfAll_6 ?_
      refine lv_icmp_ge (tgt := 27) hx hb dX1_discontentOfAll_9 (by decide) (fun c_9 => ?_) (fun c_9 => ?_)
      · skip
        have g_9 : n ≤ i := nf_ge_t (by omega) (by omega) c_9
        refine lv_iload_n hx hb dX1_discontentOfAll_27 rfl (lv_at hl 1 rfl) ?_
        refine useQ hQ ?_
        exact e_i (v := v) F hr hlocks hK hP hD hS [0, 1] [0] () (by rw [hv, show i = n by omega]) rfl rfl rfl (Nat.le_of_ble_eq_true rfl) (Nat.le_of_ble_eq_true rfl) dX1_discontentOfAll_28
      · skip
        have g_9 : i < n := nf_ge_f (by omega) (by omega) c_9
        refine lv_iload_n hx hb dX1_discontentOfAll_12 rfl (lv_at hl 1 rfl) ?_
        refine lv_aload_n hx hb dX1_discontentOfAll_13 rfl (lv_at hl 2 rfl) ?_
        refine lv_iload_n hx hb dX1_discontentOfAll_14 rfl (lv_at hl 0 rfl) ?_
        refine lv_iload_n hx hb dX1_discontentOfAll_15 rfl (lv_at hl 3 rfl) ?_
        have hX_1 : Cut D A [(h0, .inr (1, [.int (nI n), .int rg, .int st, .ref aV, .ref aW, .ref aR, .ref aP, .ref aK, .ref aL, .ref aQ])), (aW, .inl (cA, 12, .inl fW))] [(h0, .inr (1, [.int (nI n), .int rg, .int st, .ref aV, .ref aW, .ref aR, .ref aP, .ref aK, .ref aL, .ref aQ])), (aW, .inl (cA, 12, .inl fW))] [] [(cA, .int)] [(cA, .int)] [0, 1] [] [0] := ⟨rfl, rfl, rfl, rfl, by decide, rfl⟩
        refine ki hX_1 hP hD hS hA (kRunV (q := (RX1, TX1, 10)) (As := [.int (nI i), .int x]) (rest := [.int v]) F (c_X1_discontent l D cA h0 n rg st aV aW aR aP aK aL aQ fW i x hn (by omega) H.size) (cwV 2 hts gX1_discontentOfAll_X1_discontent rfl rfl rfl (by decide +kernel) ⟨Nat.le_of_ble_eq_true rfl, Nat.le_of_ble_eq_true rfl⟩) hK hP hD hX_1 0 rfl rfl rfl hl.1 rfl (Nat.le_of_ble_eq_true rfl) dX1_discontentOfAll_16 ⟨Nat.le_of_ble_eq_true rfl, Nat.le_of_ble_eq_true rfl⟩) (fun r_2 u_3 H locs hw_4 hP hD hS => ?_)
        have hw_4 : r_2 = jabs (x - fW i) := hw_4
        rw [hw_4]
        have hP : va_P D vwCl [(h0, .inr (1, [.int (nI n), .int rg, .int st, .ref aV, .ref aW, .ref aR, .ref aP, .ref aK, .ref aL, .ref aQ])), (aW, .inl (cA, 12, .inl fW))] H := hP
        have hD : va_D A [(h0, .inr (1, [.int (nI n), .int rg, .int st, .ref aV, .ref aW, .ref aR, .ref aP, .ref aK, .ref aL, .ref aQ])), (aW, .inl (cA, 12, .inl fW))] := hD
        refine lv_iadd hx hb dX1_discontentOfAll_19 ?_
        refine lv_istore_n (lv' := [(2, .int (v + (jabs (x - fW i)))), (3, .int (nI i)), (0, .ref h0), (1, .int x)]) hx hb dX1_discontentOfAll_20 rfl hl (by decide) rfl (fun ls hl => ?_)
        refine lv_iinc (v := nI (i + 1)) (lv' := [(3, .int (nI (i + 1))), (2, .int (v + (jabs (x - fW i)))), (0, .ref h0), (1, .int x)]) hx hb dX1_discontentOfAll_21 hl (k := 1) rfl (nI_1 _) (by decide) rfl (fun ls hl => ?_)
        refine lv_goto (tgt := 4) hx hb dX1_discontentOfAll_24 (by decide) ?_
        exact ih4 (i + 1) (v + (jabs (x - fW i))) (by omega) (by omega) (by rw [disAll_s, hv]) _ _ (hP.sub [0, 1] rfl) (hD.sub [0, 1] (by decide) rfl) hS ls (lv_sub hl [0, 1, 2, 3] rfl)
  exact loop4 (n + 1) 0 0 (by omega) (Nat.zero_le _) rfl _ _ (hP.sub [0, 1] rfl) (hD.sub [0, 1] (by decide) rfl) hS ls (lv_sub hl [0, 1, 2, 3] rfl)
theorem uX1_X1_countVotes : ∀ w ∈ u_ws RX1 TX1 10, w ∈ wsX1_countVotes := (fun _ h => List.mem_cons_of_mem _ (List.mem_append_right _ h))
set_option maxHeartbeats 4000000 in
set_option maxRecDepth 100000 in
theorem c_X1_countVotes (l : Launch) (D : va_G) (cA : ClassId) (h0 : Nat) (n : Nat) (rg : Int32) (st : Int32) (aV : Nat) (aW : Nat) (aR : Nat) (aP : Nat) (aK : Nat) (aL : Nat) (aQ : Nat) (fW : Nat → Int32) (x : Int32) (y : Int32) (hn : n ≤ 12) (sz : Nat) : Met l yX1_countVotes wsX1_countVotes ({ frames := 2, cells := 0, slots := 0, locals := 52 } : Room) (va_Pc [.ref h0, .int x, .int y] (Wd D [(cA, .int)] [(h0, .inr (1, [.int (nI n), .int rg, .int st, .ref aV, .ref aW, .ref aR, .ref aP, .ref aK, .ref aL, .ref aQ])), (aW, .inl (cA, 12, .inl fW))] sz)) (va_Qi (fun (r : Int32) (_ : Unit) => r = votes fW x y n) (fun (_ : Unit) t => We D [(cA, .int)] [(h0, .inr (1, [.int (nI n), .int rg, .int st, .ref aV, .ref aW, .ref aR, .ref aP, .ref aK, .ref aL, .ref aQ])), (aW, .inl (cA, 12, .inl fW))] (va_A [(h0, .inr (1, [.int (nI n), .int rg, .int st, .ref aV, .ref aW, .ref aR, .ref aP, .ref aK, .ref aL, .ref aQ])), (aW, .inl (cA, 12, .inl fW))] sz) t) (va_A [(h0, .inr (1, [.int (nI n), .int rg, .int st, .ref aV, .ref aW, .ref aR, .ref aP, .ref aK, .ref aL, .ref aQ])), (aW, .inl (cA, 12, .inl fW))] sz)) 0 0 (va_A [(h0, .inr (1, [.int (nI n), .int rg, .int st, .ref aV, .ref aW, .ref aR, .ref aP, .ref aK, .ref aL, .ref aQ])), (aW, .inl (cA, 12, .inl fW))] sz) := by
  refine mk_met [.ref h0, .int x, .int y] (fun A => va_Qi (fun (r : Int32) (_ : Unit) => r = votes fW x y n) (fun (_ : Unit) t => We D [(cA, .int)] [(h0, .inr (1, [.int (nI n), .int rg, .int st, .ref aV, .ref aW, .ref aR, .ref aP, .ref aK, .ref aL, .ref aQ])), (aW, .inl (cA, 12, .inl fW))] A t) A) (by decide) rfl (Nat.le_of_ble_eq_true rfl) ?_
  intro p e s m args below meth c A ls F hr hlocks hname hP hK hD hA hl
  have hx := F.1
  have hb := F.2.1
  have hml := F.2.2.1
  have hown := F.2.2.2.1
  have hts := F.2.2.2.2
  have hS : va_S A s.heap s.heap [] := va_S.rf
  have hl : lv_has ls 5 [(0, .ref h0), (1, .int x), (2, .int y)] := hl
  refine absQ (fun Q hQ => ?_)
  refine lv_iconst (v := 0) hx hb dX1_countVotes_0 (by decide) ?_
  refine lv_istore_n (lv' := [(3, .int 0), (0, .ref h0), (1, .int x), (2, .int y)]) hx hb dX1_countVotes_1 rfl hl (by decide) rfl (fun ls hl => ?_)
  refine lv_iconst (v := 0) hx hb dX1_countVotes_2 (by decide) ?_
  refine lv_istore (lv' := [(4, .int 0), (3, .int 0), (0, .ref h0), (1, .int x), (2, .int y)]) hx hb dX1_countVotes_3 hl (by decide) rfl (fun ls hl => ?_)
  have loop5 : ∀ (k : Nat) (i : Nat) (v : Int32), (n < i + k) → (i ≤ n) → (v = votes fW x y i) →  ∀ (H : Heap) (locs : List Loc), va_P D vwCl [(h0, .inr (1, [.int (nI n), .int rg, .int st, .ref aV, .ref aW, .ref aR, .ref aP, .ref aK, .ref aL, .ref aQ])), (aW, .inl (cA, 12, .inl fW))] H → va_D A [(h0, .inr (1, [.int (nI n), .int rg, .int st, .ref aV, .ref aW, .ref aR, .ref aP, .ref aK, .ref aL, .ref aQ])), (aW, .inl (cA, 12, .inl fW))] → va_S A s.heap H locs → ∀ ls : Array Slot, lv_has ls 5 [(4, .int (nI i)), (3, .int v), (0, .ref h0), (1, .int x), (2, .int y)] → W p l e ({ frames := 2, cells := 0, slots := 0, locals := 52 } : Room) s m args below meth c H locs 0 0 Q (F0 m 5 ls []) := by
    intro k
    induction k with
    | zero =>
      intro i v hk hi hv
      exact absurd hk (by omega)
    | succ k ih5 =>
      intro i v hk hi hv H locs hP hD hS ls hl
      refine lv_iload hx hb dX1_countVotes_5 (lv_at hl 0 rfl) ?_
      refine lv_aload_n hx hb dX1_countVotes_7 rfl (lv_at hl 2 rfl) ?_
      refine va_get (D := D) (ci := 1) (v := .int (nI n)) (C := RX1) (T := TX1) (N := 10) hx hb hts uX1_X1_countVotes hown hK hP 0 rfl rfl 0 (by decide) (hts (.fieldLink RX1 7 "RopeChoices" "count" "I") (List.mem_of_getElem? (i := 1) rfl)) (fun _ h9 => h9) rfl dX1_countVotes_8 ?_
      refine lv_icmp_ge (tgt := 40) hx hb dX1_countVotes_11 (by decide) (fun c_11 => ?_) (fun c_11 => ?_)
      · skip
        have g_11 : n ≤ i := nf_ge_t (by omega) (by omega) c_11
        refine lv_iload_n hx hb dX1_countVotes_40 rfl (lv_at hl 1 rfl) ?_
        refine useQ hQ ?_
        exact e_i (v := v) F hr hlocks hK hP hD hS [0, 1] [0] () (by rw [hv, show i = n by omega]) rfl rfl rfl (Nat.le_of_ble_eq_true rfl) (Nat.le_of_ble_eq_true rfl) dX1_countVotes_41
      · skip
        have g_11 : i < n := nf_ge_f (by omega) (by omega) c_11
        refine lv_aload_n hx hb dX1_countVotes_14 rfl (lv_at hl 2 rfl) ?_
        refine lv_iload hx hb dX1_countVotes_15 (lv_at hl 0 rfl) ?_
        refine lv_iload_n hx hb dX1_countVotes_17 rfl (lv_at hl 3 rfl) ?_
        have hX_1 : Cut D A [(h0, .inr (1, [.int (nI n), .int rg, .int st, .ref aV, .ref aW, .ref aR, .ref aP, .ref aK, .ref aL, .ref aQ])), (aW, .inl (cA, 12, .inl fW))] [(h0, .inr (1, [.int (nI n), .int rg, .int st, .ref aV, .ref aW, .ref aR, .ref aP, .ref aK, .ref aL, .ref aQ])), (aW, .inl (cA, 12, .inl fW))] [] [(cA, .int)] [(cA, .int)] [0, 1] [] [0] := ⟨rfl, rfl, rfl, rfl, by decide, rfl⟩
        refine ki hX_1 hP hD hS hA (kRunV (q := (RX1, TX1, 10)) (As := [.int (nI i), .int x]) (rest := []) F (c_X1_discontent l D cA h0 n rg st aV aW aR aP aK aL aQ fW i x hn (by omega) H.size) (cwV 2 hts gX1_countVotes_X1_discontent rfl rfl rfl (by decide +kernel) ⟨Nat.le_of_ble_eq_true rfl, Nat.le_of_ble_eq_true rfl⟩) hK hP hD hX_1 0 rfl rfl rfl hl.1 rfl (Nat.le_of_ble_eq_true rfl) dX1_countVotes_18 ⟨Nat.le_of_ble_eq_true rfl, Nat.le_of_ble_eq_true rfl⟩) (fun r_2 u_3 H locs hw_4 hP hD hS => ?_)
        have hw_4 : r_2 = jabs (x - fW i) := hw_4
        rw [hw_4]
        have hP : va_P D vwCl [(h0, .inr (1, [.int (nI n), .int rg, .int st, .ref aV, .ref aW, .ref aR, .ref aP, .ref aK, .ref aL, .ref aQ])), (aW, .inl (cA, 12, .inl fW))] H := hP
        have hD : va_D A [(h0, .inr (1, [.int (nI n), .int rg, .int st, .ref aV, .ref aW, .ref aR, .ref aP, .ref aK, .ref aL, .ref aQ])), (aW, .inl (cA, 12, .inl fW))] := hD
        refine lv_aload_n hx hb dX1_countVotes_21 rfl (lv_at hl 2 rfl) ?_
        refine lv_iload hx hb dX1_countVotes_22 (lv_at hl 0 rfl) ?_
        refine lv_iload_n hx hb dX1_countVotes_24 rfl (lv_at hl 4 rfl) ?_
        have hX_5 : Cut D A [(h0, .inr (1, [.int (nI n), .int rg, .int st, .ref aV, .ref aW, .ref aR, .ref aP, .ref aK, .ref aL, .ref aQ])), (aW, .inl (cA, 12, .inl fW))] [(h0, .inr (1, [.int (nI n), .int rg, .int st, .ref aV, .ref aW, .ref aR, .ref aP, .ref aK, .ref aL, .ref aQ])), (aW, .inl (cA, 12, .inl fW))] [] [(cA, .int)] [(cA, .int)] [0, 1] [] [0] := ⟨rfl, rfl, rfl, rfl, by decide, rfl⟩
        refine ki hX_5 hP hD hS hA (kRunV (q := (RX1, TX1, 10)) (As := [.int (nI i), .int y]) (rest := [.int (jabs (x - fW i))]) F (c_X1_discontent l D cA h0 n rg st aV aW aR aP aK aL aQ fW i y hn (by omega) H.size) (cwV 2 hts gX1_countVotes_X1_discontent rfl rfl rfl (by decide +kernel) ⟨Nat.le_of_ble_eq_true rfl, Nat.le_of_ble_eq_true rfl⟩) hK hP hD hX_5 0 rfl rfl rfl hl.1 rfl (Nat.le_of_ble_eq_true rfl) dX1_countVotes_25 ⟨Nat.le_of_ble_eq_true rfl, Nat.le_of_ble_eq_true rfl⟩) (fun r_6 u_7 H locs hw_8 hP hD hS => ?_)
        have hw_8 : r_6 = jabs (y - fW i) := hw_8
        rw [hw_8]
        have hP : va_P D vwCl [(h0, .inr (1, [.int (nI n), .int rg, .int st, .ref aV, .ref aW, .ref aR, .ref aP, .ref aK, .ref aL, .ref aQ])), (aW, .inl (cA, 12, .inl fW))] H := hP
        have hD : va_D A [(h0, .inr (1, [.int (nI n), .int rg, .int st, .ref aV, .ref aW, .ref aR, .ref aP, .ref aK, .ref aL, .ref aQ])), (aW, .inl (cA, 12, .inl fW))] := hD
        refine lv_icmp_ge (tgt := 34) hx hb dX1_countVotes_28 (by decide) (fun c_28 => ?_) (fun c_28 => ?_)
        · skip
          refine lv_iinc (v := nI (i + 1)) (lv' := [(4, .int (nI (i + 1))), (3, .int v), (0, .ref h0), (1, .int x), (2, .int y)]) hx hb dX1_countVotes_34 hl (k := 0) rfl (nI_1 _) (by decide) rfl (fun ls hl => ?_)
          refine lv_goto (tgt := 5) hx hb dX1_countVotes_37 (by decide) ?_
          exact ih5 (i + 1) v (by omega) (by omega) (by rw [votes_s, if_neg (Int32.not_lt.mpr c_28), hv]) _ _ (hP.sub [0, 1] rfl) (hD.sub [0, 1] (by decide) rfl) hS ls (lv_sub hl [0, 1, 2, 3, 4] rfl)
        · skip
          refine lv_iinc (v := (v + 1)) (lv' := [(3, .int (v + 1)), (4, .int (nI i)), (0, .ref h0), (1, .int x), (2, .int y)]) hx hb dX1_countVotes_31 hl (k := 1) rfl rfl (by decide) rfl (fun ls hl => ?_)
          refine lv_iinc (v := nI (i + 1)) (lv' := [(4, .int (nI (i + 1))), (3, .int (v + 1)), (0, .ref h0), (1, .int x), (2, .int y)]) hx hb dX1_countVotes_34 hl (k := 1) rfl (nI_1 _) (by decide) rfl (fun ls hl => ?_)
          refine lv_goto (tgt := 5) hx hb dX1_countVotes_37 (by decide) ?_
          exact ih5 (i + 1) (v + 1) (by omega) (by omega) (by rw [votes_s, if_pos (Int32.not_le.mp c_28), hv]) _ _ (hP.sub [0, 1] rfl) (hD.sub [0, 1] (by decide) rfl) hS ls (lv_sub hl [0, 1, 2, 3, 4] rfl)
  exact loop5 (n + 1) 0 0 (by omega) (Nat.zero_le _) rfl _ _ (hP.sub [0, 1] rfl) (hD.sub [0, 1] (by decide) rfl) hS ls (lv_sub hl [0, 1, 2, 3, 4] rfl)
theorem uX1_X1_middleOfAll : ∀ w ∈ u_ws RX1 TX1 10, w ∈ wsX1_middleOfAll := (fun _ h => List.mem_cons_of_mem _ (List.mem_append_left _ (List.mem_append_right _ h)))
set_option maxHeartbeats 4000000 in
set_option maxRecDepth 100000 in
theorem c_X1_middleOfAll (l : Launch) (D : va_G) (cA : ClassId) (h0 : Nat) (n : Nat) (rg : Int32) (st : Int32) (aV : Nat) (aW : Nat) (aR : Nat) (aP : Nat) (aK : Nat) (aL : Nat) (aQ : Nat) (w : Nat) (fw : Nat → Int32) (aS : Nat) (lv : Int32) (fS : Nat → Int32) (hn : n ≤ 12) (sz : Nat) : Met l yX1_middleOfAll wsX1_middleOfAll ({ frames := 1, cells := 0, slots := 0, locals := 22 } : Room) (va_Pc [.ref h0, .ref w] (Wd D [(cA, .int)] [(h0, .inr (1, [.int (nI n), .int rg, .int st, .ref aV, .ref aW, .ref aR, .ref aP, .ref aK, .ref aL, .ref aQ])), (w, .inl (cA, 12, .inl fw)), (aQ, .inr (0, [.ref aS, .int lv])), (aS, .inl (cA, 12, .inl fS))] sz)) (va_Qi (fun (r : Int32) (u : (Nat → Int32) × Int32) => r = midF fw n) (fun (u : (Nat → Int32) × Int32) t => We D [(cA, .int)] [(h0, .inr (1, [.int (nI n), .int rg, .int st, .ref aV, .ref aW, .ref aR, .ref aP, .ref aK, .ref aL, .ref aQ])), (w, .inl (cA, 12, .inl fw)), (aQ, .inr (0, [.ref aS, .int u.2])), (aS, .inl (cA, 12, .inl u.1))] (va_A [(h0, .inr (1, [.int (nI n), .int rg, .int st, .ref aV, .ref aW, .ref aR, .ref aP, .ref aK, .ref aL, .ref aQ])), (w, .inl (cA, 12, .inl fw)), (aQ, .inr (0, [.ref aS, .int lv])), (aS, .inl (cA, 12, .inl fS))] sz) t) (va_A [(h0, .inr (1, [.int (nI n), .int rg, .int st, .ref aV, .ref aW, .ref aR, .ref aP, .ref aK, .ref aL, .ref aQ])), (w, .inl (cA, 12, .inl fw)), (aQ, .inr (0, [.ref aS, .int lv])), (aS, .inl (cA, 12, .inl fS))] sz)) 0 0 (va_A [(h0, .inr (1, [.int (nI n), .int rg, .int st, .ref aV, .ref aW, .ref aR, .ref aP, .ref aK, .ref aL, .ref aQ])), (w, .inl (cA, 12, .inl fw)), (aQ, .inr (0, [.ref aS, .int lv])), (aS, .inl (cA, 12, .inl fS))] sz) := by
  refine mk_met [.ref h0, .ref w] (fun A => va_Qi (fun (r : Int32) (u : (Nat → Int32) × Int32) => r = midF fw n) (fun (u : (Nat → Int32) × Int32) t => We D [(cA, .int)] [(h0, .inr (1, [.int (nI n), .int rg, .int st, .ref aV, .ref aW, .ref aR, .ref aP, .ref aK, .ref aL, .ref aQ])), (w, .inl (cA, 12, .inl fw)), (aQ, .inr (0, [.ref aS, .int u.2])), (aS, .inl (cA, 12, .inl u.1))] A t) A) (by decide) rfl (Nat.le_of_ble_eq_true rfl) ?_
  intro p e s m args below meth c A ls F hr hlocks hname hP hK hD hA hl
  have hx := F.1
  have hb := F.2.1
  have hml := F.2.2.1
  have hown := F.2.2.2.1
  have hts := F.2.2.2.2
  have hS : va_S A s.heap s.heap [] := va_S.rf
  have hl : lv_has ls 3 [(0, .ref h0), (1, .ref w)] := hl
  refine absQ (fun Q hQ => ?_)
  refine lv_aload_n hx hb dX1_middleOfAll_0 rfl (lv_at hl 0 rfl) ?_
  refine va_get (D := D) (ci := 1) (v := .ref aQ) (C := RX1) (T := TX1) (N := 10) hx hb hts uX1_X1_middleOfAll hown hK hP 0 rfl rfl 9 (by decide) (hts (.fieldLink RX1 41 "RopeChoices" "row" "LRopeChoices$PlankRow;") (List.mem_of_getElem? (i := 1) rfl)) (fun _ h9 => h9) rfl dX1_middleOfAll_1 ?_
  have hX_1 : Cut D A [(h0, .inr (1, [.int (nI n), .int rg, .int st, .ref aV, .ref aW, .ref aR, .ref aP, .ref aK, .ref aL, .ref aQ])), (w, .inl (cA, 12, .inl fw)), (aQ, .inr (0, [.ref aS, .int lv])), (aS, .inl (cA, 12, .inl fS))] [(aQ, .inr (0, [.ref aS, .int lv])), (aS, .inl (cA, 12, .inl fS))] [(h0, .inr (1, [.int (nI n), .int rg, .int st, .ref aV, .ref aW, .ref aR, .ref aP, .ref aK, .ref aL, .ref aQ])), (w, .inl (cA, 12, .inl fw))] [(cA, .int)] [(cA, .int)] [2, 3] [0, 1] [0] := ⟨rfl, rfl, rfl, rfl, by decide, rfl⟩
  refine kv hX_1 hP hD hS hA (kRunV (q := (RX0, TX0, 2)) (As := []) (rest := []) F (c_X0_empty l D cA aQ aS lv fS s.heap.size) (cwV 0 hts gX1_middleOfAll_X0_empty rfl rfl rfl (by decide +kernel) ⟨Nat.le_of_ble_eq_true rfl, Nat.le_of_ble_eq_true rfl⟩) hK hP hD hX_1 2 rfl rfl rfl hl.1 rfl (Nat.le_of_ble_eq_true rfl) dX1_middleOfAll_4 ⟨Nat.le_of_ble_eq_true rfl, Nat.le_of_ble_eq_true rfl⟩) (fun u_3 H locs hw_4 hP hD hS => ?_)
  have hw_4 : True := hw_4
  have hP : va_P D vwCl [(h0, .inr (1, [.int (nI n), .int rg, .int st, .ref aV, .ref aW, .ref aR, .ref aP, .ref aK, .ref aL, .ref aQ])), (w, .inl (cA, 12, .inl fw)), (aQ, .inr (0, [.ref aS, .int (nI 0)])), (aS, .inl (cA, 12, .inl fS))] H := hP
  have hD : va_D A [(h0, .inr (1, [.int (nI n), .int rg, .int st, .ref aV, .ref aW, .ref aR, .ref aP, .ref aK, .ref aL, .ref aQ])), (w, .inl (cA, 12, .inl fw)), (aQ, .inr (0, [.ref aS, .int (nI 0)])), (aS, .inl (cA, 12, .inl fS))] := hD
  refine lv_iconst (v := 0) hx hb dX1_middleOfAll_7 (by decide) ?_
  refine lv_istore_n (lv' := [(2, .int 0), (0, .ref h0), (1, .ref w)]) hx hb dX1_middleOfAll_8 rfl hl (by decide) rfl (fun ls hl => ?_)
  have loop9 : ∀ (k : Nat) (i : Nat) (g : Nat → Int32), (n < i + k) → (i ≤ n) → (RowOf g i fw allS i) →  ∀ (H : Heap) (locs : List Loc), va_P D vwCl [(h0, .inr (1, [.int (nI n), .int rg, .int st, .ref aV, .ref aW, .ref aR, .ref aP, .ref aK, .ref aL, .ref aQ])), (w, .inl (cA, 12, .inl fw)), (aQ, .inr (0, [.ref aS, .int (nI i)])), (aS, .inl (cA, 12, .inl g))] H → va_D A [(h0, .inr (1, [.int (nI n), .int rg, .int st, .ref aV, .ref aW, .ref aR, .ref aP, .ref aK, .ref aL, .ref aQ])), (w, .inl (cA, 12, .inl fw)), (aQ, .inr (0, [.ref aS, .int (nI i)])), (aS, .inl (cA, 12, .inl g))] → va_S A s.heap H locs → ∀ ls : Array Slot, lv_has ls 3 [(2, .int (nI i)), (0, .ref h0), (1, .ref w)] → W p l e ({ frames := 1, cells := 0, slots := 0, locals := 22 } : Room) s m args below meth c H locs 0 0 Q (F0 m 9 ls []) := by
    intro k
    induction k with
    | zero =>
      intro i g hk hi hR
      exact absurd hk (by omega)
    | succ k ih9 =>
      intro i g hk hi hR H locs hP hD hS ls hl
      refine lv_iload_n hx hb dX1_middleOfAll_9 rfl (lv_at hl 0 rfl) ?_
      refine lv_aload_n hx hb dX1_middleOfAll_10 rfl (lv_at hl 1 rfl) ?_
      refine va_get (D := D) (ci := 1) (v := .int (nI n)) (C := RX1) (T := TX1) (N := 10) hx hb hts uX1_X1_middleOfAll hown hK hP 0 rfl rfl 0 (by decide) (hts (.fieldLink RX1 7 "RopeChoices" "count" "I") (List.mem_of_getElem? (i := 2) rfl)) (fun _ h9 => h9) rfl dX1_middleOfAll_11 ?_
      refine lv_icmp_ge (tgt := 33) hx hb dX1_middleOfAll_14 (by decide) (fun c_14 => ?_) (fun c_14 => ?_)
      · skip
        have g_14 : n ≤ i := nf_ge_t (by omega) (by omega) c_14
        refine lv_aload_n hx hb dX1_middleOfAll_33 rfl (lv_at hl 1 rfl) ?_
        refine va_get (D := D) (ci := 1) (v := .ref aQ) (C := RX1) (T := TX1) (N := 10) hx hb hts uX1_X1_middleOfAll hown hK hP 0 rfl rfl 9 (by decide) (hts (.fieldLink RX1 41 "RopeChoices" "row" "LRopeChoices$PlankRow;") (List.mem_of_getElem? (i := 1) rfl)) (fun _ h9 => h9) rfl dX1_middleOfAll_34 ?_
        have hX_5 : Cut D A [(h0, .inr (1, [.int (nI n), .int rg, .int st, .ref aV, .ref aW, .ref aR, .ref aP, .ref aK, .ref aL, .ref aQ])), (w, .inl (cA, 12, .inl fw)), (aQ, .inr (0, [.ref aS, .int (nI i)])), (aS, .inl (cA, 12, .inl g))] [(aQ, .inr (0, [.ref aS, .int (nI i)])), (aS, .inl (cA, 12, .inl g))] [(h0, .inr (1, [.int (nI n), .int rg, .int st, .ref aV, .ref aW, .ref aR, .ref aP, .ref aK, .ref aL, .ref aQ])), (w, .inl (cA, 12, .inl fw))] [(cA, .int)] [(cA, .int)] [2, 3] [0, 1] [0] := ⟨rfl, rfl, rfl, rfl, by decide, rfl⟩
        refine ki hX_5 hP hD hS hA (kRunV (q := (RX0, TX0, 2)) (As := []) (rest := []) F (c_X0_middle l D cA aQ aS i g (by omega) H.size) (cwV 0 hts gX1_middleOfAll_X0_middle rfl rfl rfl (by decide +kernel) ⟨Nat.le_of_ble_eq_true rfl, Nat.le_of_ble_eq_true rfl⟩) hK hP hD hX_5 2 rfl rfl rfl hl.1 rfl (Nat.le_of_ble_eq_true rfl) dX1_middleOfAll_37 ⟨Nat.le_of_ble_eq_true rfl, Nat.le_of_ble_eq_true rfl⟩) (fun r_6 u_7 H locs hw_8 hP hD hS => ?_)
        have hw_8 : r_6 = midRow g i := hw_8
        rw [hw_8]
        have hP : va_P D vwCl [(h0, .inr (1, [.int (nI n), .int rg, .int st, .ref aV, .ref aW, .ref aR, .ref aP, .ref aK, .ref aL, .ref aQ])), (w, .inl (cA, 12, .inl fw)), (aQ, .inr (0, [.ref aS, .int (nI i)])), (aS, .inl (cA, 12, .inl g))] H := hP
        have hD : va_D A [(h0, .inr (1, [.int (nI n), .int rg, .int st, .ref aV, .ref aW, .ref aR, .ref aP, .ref aK, .ref aL, .ref aQ])), (w, .inl (cA, 12, .inl fw)), (aQ, .inr (0, [.ref aS, .int (nI i)])), (aS, .inl (cA, 12, .inl g))] := hD
        refine useQ hQ ?_
        exact e_i (v := midRow g i) F hr hlocks hK hP hD hS [0, 1, 2, 3] [0] (g, nI i) (mid_of hR (show i = n by omega)) rfl rfl rfl (Nat.le_of_ble_eq_true rfl) (Nat.le_of_ble_eq_true rfl) dX1_middleOfAll_40
      · skip
        have g_14 : i < n := nf_ge_f (by omega) (by omega) c_14
        refine lv_aload_n hx hb dX1_middleOfAll_17 rfl (lv_at hl 1 rfl) ?_
        refine va_get (D := D) (ci := 1) (v := .ref aQ) (C := RX1) (T := TX1) (N := 10) hx hb hts uX1_X1_middleOfAll hown hK hP 0 rfl rfl 9 (by decide) (hts (.fieldLink RX1 41 "RopeChoices" "row" "LRopeChoices$PlankRow;") (List.mem_of_getElem? (i := 1) rfl)) (fun _ h9 => h9) rfl dX1_middleOfAll_18 ?_
        refine lv_aload_n hx hb dX1_middleOfAll_21 rfl (lv_at hl 2 rfl) ?_
        refine lv_iload_n hx hb dX1_middleOfAll_22 rfl (lv_at hl 0 rfl) ?_
        refine a_ld (k := i) hx hb hK hP 1 0 rfl rfl (by omega) (Nat.le_of_ble_eq_true rfl) dX1_middleOfAll_23 ?_
        have hX_9 : Cut D A [(h0, .inr (1, [.int (nI n), .int rg, .int st, .ref aV, .ref aW, .ref aR, .ref aP, .ref aK, .ref aL, .ref aQ])), (w, .inl (cA, 12, .inl fw)), (aQ, .inr (0, [.ref aS, .int (nI i)])), (aS, .inl (cA, 12, .inl g))] [(aQ, .inr (0, [.ref aS, .int (nI i)])), (aS, .inl (cA, 12, .inl g))] [(h0, .inr (1, [.int (nI n), .int rg, .int st, .ref aV, .ref aW, .ref aR, .ref aP, .ref aK, .ref aL, .ref aQ])), (w, .inl (cA, 12, .inl fw))] [(cA, .int)] [(cA, .int)] [2, 3] [0, 1] [0] := ⟨rfl, rfl, rfl, rfl, by decide, rfl⟩
        refine kv hX_9 hP hD hS hA (kRunV (q := (RX0, TX0, 2)) (As := [.int (fw i)]) (rest := []) F (c_X0_put l D cA aQ aS i g (fw i) (by omega) H.size) (cwV 1 hts gX1_middleOfAll_X0_put rfl rfl rfl (by decide +kernel) ⟨Nat.le_of_ble_eq_true rfl, Nat.le_of_ble_eq_true rfl⟩) hK hP hD hX_9 2 rfl rfl rfl hl.1 rfl (Nat.le_of_ble_eq_true rfl) dX1_middleOfAll_24 ⟨Nat.le_of_ble_eq_true rfl, Nat.le_of_ble_eq_true rfl⟩) (fun u_11 H locs hw_12 hP hD hS => ?_)
        have hw_12 : Ins g i (fw i) u_11 := hw_12
        have hP : va_P D vwCl [(h0, .inr (1, [.int (nI n), .int rg, .int st, .ref aV, .ref aW, .ref aR, .ref aP, .ref aK, .ref aL, .ref aQ])), (w, .inl (cA, 12, .inl fw)), (aQ, .inr (0, [.ref aS, .int (nI (i + 1))])), (aS, .inl (cA, 12, .inl u_11))] H := hP
        have hD : va_D A [(h0, .inr (1, [.int (nI n), .int rg, .int st, .ref aV, .ref aW, .ref aR, .ref aP, .ref aK, .ref aL, .ref aQ])), (w, .inl (cA, 12, .inl fw)), (aQ, .inr (0, [.ref aS, .int (nI (i + 1))])), (aS, .inl (cA, 12, .inl u_11))] := hD
        refine lv_iinc (v := nI (i + 1)) (lv' := [(2, .int (nI (i + 1))), (0, .ref h0), (1, .ref w)]) hx hb dX1_middleOfAll_27 hl (k := 0) rfl (nI_1 _) (by decide) rfl (fun ls hl => ?_)
        refine lv_goto (tgt := 9) hx hb dX1_middleOfAll_30 (by decide) ?_
        exact ih9 (i + 1) u_11 (by omega) (by omega) (rowOf_put hR rfl hw_12) _ _ (hP.sub [0, 1, 2, 3] rfl) (hD.sub [0, 1, 2, 3] (by decide) rfl) hS ls (lv_sub hl [0, 1, 2] rfl)
  exact loop9 (n + 1) 0 fS (by omega) (Nat.zero_le _) (rowOf_0 _ _ _) _ _ (hP.sub [0, 1, 2, 3] rfl) (hD.sub [0, 1, 2, 3] (by decide) rfl) hS ls (lv_sub hl [0, 1, 2] rfl)
theorem uX1_X1_gatherVillage : ∀ w ∈ u_ws RX1 TX1 10, w ∈ wsX1_gatherVillage := (fun _ h => List.mem_cons_of_mem _ (List.mem_append_left _ (List.mem_append_right _ h)))
set_option maxHeartbeats 4000000 in
set_option maxRecDepth 100000 in
theorem c_X1_gatherVillage (l : Launch) (D : va_G) (cA : ClassId) (h0 : Nat) (n : Nat) (rg : Int32) (st : Int32) (aV : Nat) (aW : Nat) (aR : Nat) (aP : Nat) (aK : Nat) (aL : Nat) (aQ : Nat) (fV : Nat → Int32) (fK : Nat → Int32) (aS : Nat) (lv : Int32) (fS : Nat → Int32) (v : Int32) (hn : n ≤ 12) (sz : Nat) : Met l yX1_gatherVillage wsX1_gatherVillage ({ frames := 1, cells := 0, slots := 0, locals := 22 } : Room) (va_Pc [.ref h0, .int v] (Wd D [(cA, .int)] [(h0, .inr (1, [.int (nI n), .int rg, .int st, .ref aV, .ref aW, .ref aR, .ref aP, .ref aK, .ref aL, .ref aQ])), (aV, .inl (cA, 12, .inl fV)), (aK, .inl (cA, 12, .inl fK)), (aQ, .inr (0, [.ref aS, .int lv])), (aS, .inl (cA, 12, .inl fS))] sz)) (va_Qv (fun (u : (Nat → Int32) × Nat) => RowOf u.1 u.2 fK (selV fV v) n) (fun (u : (Nat → Int32) × Nat) t => We D [(cA, .int)] [(h0, .inr (1, [.int (nI n), .int rg, .int st, .ref aV, .ref aW, .ref aR, .ref aP, .ref aK, .ref aL, .ref aQ])), (aV, .inl (cA, 12, .inl fV)), (aK, .inl (cA, 12, .inl fK)), (aQ, .inr (0, [.ref aS, .int (nI u.2)])), (aS, .inl (cA, 12, .inl u.1))] (va_A [(h0, .inr (1, [.int (nI n), .int rg, .int st, .ref aV, .ref aW, .ref aR, .ref aP, .ref aK, .ref aL, .ref aQ])), (aV, .inl (cA, 12, .inl fV)), (aK, .inl (cA, 12, .inl fK)), (aQ, .inr (0, [.ref aS, .int lv])), (aS, .inl (cA, 12, .inl fS))] sz) t) (va_A [(h0, .inr (1, [.int (nI n), .int rg, .int st, .ref aV, .ref aW, .ref aR, .ref aP, .ref aK, .ref aL, .ref aQ])), (aV, .inl (cA, 12, .inl fV)), (aK, .inl (cA, 12, .inl fK)), (aQ, .inr (0, [.ref aS, .int lv])), (aS, .inl (cA, 12, .inl fS))] sz)) 0 0 (va_A [(h0, .inr (1, [.int (nI n), .int rg, .int st, .ref aV, .ref aW, .ref aR, .ref aP, .ref aK, .ref aL, .ref aQ])), (aV, .inl (cA, 12, .inl fV)), (aK, .inl (cA, 12, .inl fK)), (aQ, .inr (0, [.ref aS, .int lv])), (aS, .inl (cA, 12, .inl fS))] sz) := by
  refine mk_met [.ref h0, .int v] (fun A => va_Qv (fun (u : (Nat → Int32) × Nat) => RowOf u.1 u.2 fK (selV fV v) n) (fun (u : (Nat → Int32) × Nat) t => We D [(cA, .int)] [(h0, .inr (1, [.int (nI n), .int rg, .int st, .ref aV, .ref aW, .ref aR, .ref aP, .ref aK, .ref aL, .ref aQ])), (aV, .inl (cA, 12, .inl fV)), (aK, .inl (cA, 12, .inl fK)), (aQ, .inr (0, [.ref aS, .int (nI u.2)])), (aS, .inl (cA, 12, .inl u.1))] A t) A) (by decide) rfl (Nat.le_of_ble_eq_true rfl) ?_
  intro p e s m args below meth c A ls F hr hlocks hname hP hK hD hA hl
  have hx := F.1
  have hb := F.2.1
  have hml := F.2.2.1
  have hown := F.2.2.2.1
  have hts := F.2.2.2.2
  have hS : va_S A s.heap s.heap [] := va_S.rf
  have hl : lv_has ls 3 [(0, .ref h0), (1, .int v)] := hl
  refine absQ (fun Q hQ => ?_)
  refine lv_aload_n hx hb dX1_gatherVillage_0 rfl (lv_at hl 0 rfl) ?_
  refine va_get (D := D) (ci := 1) (v := .ref aQ) (C := RX1) (T := TX1) (N := 10) hx hb hts uX1_X1_gatherVillage hown hK hP 0 rfl rfl 9 (by decide) (hts (.fieldLink RX1 41 "RopeChoices" "row" "LRopeChoices$PlankRow;") (List.mem_of_getElem? (i := 1) rfl)) (fun _ h9 => h9) rfl dX1_gatherVillage_1 ?_
  have hX_1 : Cut D A [(h0, .inr (1, [.int (nI n), .int rg, .int st, .ref aV, .ref aW, .ref aR, .ref aP, .ref aK, .ref aL, .ref aQ])), (aV, .inl (cA, 12, .inl fV)), (aK, .inl (cA, 12, .inl fK)), (aQ, .inr (0, [.ref aS, .int lv])), (aS, .inl (cA, 12, .inl fS))] [(aQ, .inr (0, [.ref aS, .int lv])), (aS, .inl (cA, 12, .inl fS))] [(h0, .inr (1, [.int (nI n), .int rg, .int st, .ref aV, .ref aW, .ref aR, .ref aP, .ref aK, .ref aL, .ref aQ])), (aV, .inl (cA, 12, .inl fV)), (aK, .inl (cA, 12, .inl fK))] [(cA, .int)] [(cA, .int)] [3, 4] [0, 1, 2] [0] := ⟨rfl, rfl, rfl, rfl, by decide, rfl⟩
  refine kv hX_1 hP hD hS hA (kRunV (q := (RX0, TX0, 2)) (As := []) (rest := []) F (c_X0_empty l D cA aQ aS lv fS s.heap.size) (cwV 0 hts gX1_gatherVillage_X0_empty rfl rfl rfl (by decide +kernel) ⟨Nat.le_of_ble_eq_true rfl, Nat.le_of_ble_eq_true rfl⟩) hK hP hD hX_1 3 rfl rfl rfl hl.1 rfl (Nat.le_of_ble_eq_true rfl) dX1_gatherVillage_4 ⟨Nat.le_of_ble_eq_true rfl, Nat.le_of_ble_eq_true rfl⟩) (fun u_3 H locs hw_4 hP hD hS => ?_)
  have hw_4 : True := hw_4
  have hP : va_P D vwCl [(h0, .inr (1, [.int (nI n), .int rg, .int st, .ref aV, .ref aW, .ref aR, .ref aP, .ref aK, .ref aL, .ref aQ])), (aV, .inl (cA, 12, .inl fV)), (aK, .inl (cA, 12, .inl fK)), (aQ, .inr (0, [.ref aS, .int (nI 0)])), (aS, .inl (cA, 12, .inl fS))] H := hP
  have hD : va_D A [(h0, .inr (1, [.int (nI n), .int rg, .int st, .ref aV, .ref aW, .ref aR, .ref aP, .ref aK, .ref aL, .ref aQ])), (aV, .inl (cA, 12, .inl fV)), (aK, .inl (cA, 12, .inl fK)), (aQ, .inr (0, [.ref aS, .int (nI 0)])), (aS, .inl (cA, 12, .inl fS))] := hD
  refine lv_iconst (v := 0) hx hb dX1_gatherVillage_7 (by decide) ?_
  refine lv_istore_n (lv' := [(2, .int 0), (0, .ref h0), (1, .int v)]) hx hb dX1_gatherVillage_8 rfl hl (by decide) rfl (fun ls hl => ?_)
  have loop9 : ∀ (k : Nat) (i : Nat) (j : Nat) (g : Nat → Int32), (n < i + k) → (i ≤ n) → (RowOf g j fK (selV fV v) i) →  ∀ (H : Heap) (locs : List Loc), va_P D vwCl [(h0, .inr (1, [.int (nI n), .int rg, .int st, .ref aV, .ref aW, .ref aR, .ref aP, .ref aK, .ref aL, .ref aQ])), (aV, .inl (cA, 12, .inl fV)), (aK, .inl (cA, 12, .inl fK)), (aQ, .inr (0, [.ref aS, .int (nI j)])), (aS, .inl (cA, 12, .inl g))] H → va_D A [(h0, .inr (1, [.int (nI n), .int rg, .int st, .ref aV, .ref aW, .ref aR, .ref aP, .ref aK, .ref aL, .ref aQ])), (aV, .inl (cA, 12, .inl fV)), (aK, .inl (cA, 12, .inl fK)), (aQ, .inr (0, [.ref aS, .int (nI j)])), (aS, .inl (cA, 12, .inl g))] → va_S A s.heap H locs → ∀ ls : Array Slot, lv_has ls 3 [(2, .int (nI i)), (0, .ref h0), (1, .int v)] → W p l e ({ frames := 1, cells := 0, slots := 0, locals := 22 } : Room) s m args below meth c H locs 0 0 Q (F0 m 9 ls []) := by
    intro k
    induction k with
    | zero =>
      intro i j g hk hi hR
      exact absurd hk (by omega)
    | succ k ih9 =>
      intro i j g hk hi hR H locs hP hD hS ls hl
      have hj9 : j ≤ i := by rw [hR.2.1]; exact tot_le _ _
      refine lv_iload_n hx hb dX1_gatherVillage_9 rfl (lv_at hl 0 rfl) ?_
      refine lv_aload_n hx hb dX1_gatherVillage_10 rfl (lv_at hl 1 rfl) ?_
      refine va_get (D := D) (ci := 1) (v := .int (nI n)) (C := RX1) (T := TX1) (N := 10) hx hb hts uX1_X1_gatherVillage hown hK hP 0 rfl rfl 0 (by decide) (hts (.fieldLink RX1 7 "RopeChoices" "count" "I") (List.mem_of_getElem? (i := 2) rfl)) (fun _ h9 => h9) rfl dX1_gatherVillage_11 ?_
      refine lv_icmp_ge (tgt := 46) hx hb dX1_gatherVillage_14 (by decide) (fun c_14 => ?_) (fun c_14 => ?_)
      · skip
        have g_14 : n ≤ i := nf_ge_t (by omega) (by omega) c_14
        refine useQ hQ ?_
        exact e_v F hr hlocks hK hP hD hS [0, 1, 2, 3, 4] [0] (g, j) ((show i = n by omega) ▸ hR) rfl rfl rfl (Nat.le_of_ble_eq_true rfl) (Nat.le_of_ble_eq_true rfl) dX1_gatherVillage_46
      · skip
        have g_14 : i < n := nf_ge_f (by omega) (by omega) c_14
        refine lv_aload_n hx hb dX1_gatherVillage_17 rfl (lv_at hl 1 rfl) ?_
        refine va_get (D := D) (ci := 1) (v := .ref aV) (C := RX1) (T := TX1) (N := 10) hx hb hts uX1_X1_gatherVillage hown hK hP 0 rfl rfl 3 (by decide) (hts (.fieldLink RX1 19 "RopeChoices" "villages" "[I") (List.mem_of_getElem? (i := 3) rfl)) (fun _ h9 => h9) rfl dX1_gatherVillage_18 ?_
        refine lv_iload_n hx hb dX1_gatherVillage_21 rfl (lv_at hl 0 rfl) ?_
        refine a_ld (k := i) hx hb hK hP 1 0 rfl rfl (by omega) (Nat.le_of_ble_eq_true rfl) dX1_gatherVillage_22 ?_
        refine lv_iload_n hx hb dX1_gatherVillage_23 rfl (lv_at hl 2 rfl) ?_
        refine lv_icmp_ne (tgt := 40) hx hb dX1_gatherVillage_24 (by decide) (fun c_24 => ?_) (fun c_24 => ?_)
        · skip
          refine lv_iinc (v := nI (i + 1)) (lv' := [(2, .int (nI (i + 1))), (0, .ref h0), (1, .int v)]) hx hb dX1_gatherVillage_40 hl (k := 0) rfl (nI_1 _) (by decide) rfl (fun ls hl => ?_)
          refine lv_goto (tgt := 9) hx hb dX1_gatherVillage_43 (by decide) ?_
          exact ih9 (i + 1) j g (by omega) (by omega) (rowOf_not hR (by simp [selV, c_24])) _ _ (hP.sub [0, 1, 2, 3, 4] rfl) (hD.sub [0, 1, 2, 3, 4] (by decide) rfl) hS ls (lv_sub hl [0, 1, 2] rfl)
        · skip
          refine lv_aload_n hx hb dX1_gatherVillage_27 rfl (lv_at hl 1 rfl) ?_
          refine va_get (D := D) (ci := 1) (v := .ref aQ) (C := RX1) (T := TX1) (N := 10) hx hb hts uX1_X1_gatherVillage hown hK hP 0 rfl rfl 9 (by decide) (hts (.fieldLink RX1 41 "RopeChoices" "row" "LRopeChoices$PlankRow;") (List.mem_of_getElem? (i := 1) rfl)) (fun _ h9 => h9) rfl dX1_gatherVillage_28 ?_
          refine lv_aload_n hx hb dX1_gatherVillage_31 rfl (lv_at hl 1 rfl) ?_
          refine va_get (D := D) (ci := 1) (v := .ref aK) (C := RX1) (T := TX1) (N := 10) hx hb hts uX1_X1_gatherVillage hown hK hP 0 rfl rfl 7 (by decide) (hts (.fieldLink RX1 32 "RopeChoices" "planks" "[I") (List.mem_of_getElem? (i := 4) rfl)) (fun _ h9 => h9) rfl dX1_gatherVillage_32 ?_
          refine lv_iload_n hx hb dX1_gatherVillage_35 rfl (lv_at hl 0 rfl) ?_
          refine a_ld (k := i) hx hb hK hP 2 0 rfl rfl (by omega) (Nat.le_of_ble_eq_true rfl) dX1_gatherVillage_36 ?_
          have hX_5 : Cut D A [(h0, .inr (1, [.int (nI n), .int rg, .int st, .ref aV, .ref aW, .ref aR, .ref aP, .ref aK, .ref aL, .ref aQ])), (aV, .inl (cA, 12, .inl fV)), (aK, .inl (cA, 12, .inl fK)), (aQ, .inr (0, [.ref aS, .int (nI j)])), (aS, .inl (cA, 12, .inl g))] [(aQ, .inr (0, [.ref aS, .int (nI j)])), (aS, .inl (cA, 12, .inl g))] [(h0, .inr (1, [.int (nI n), .int rg, .int st, .ref aV, .ref aW, .ref aR, .ref aP, .ref aK, .ref aL, .ref aQ])), (aV, .inl (cA, 12, .inl fV)), (aK, .inl (cA, 12, .inl fK))] [(cA, .int)] [(cA, .int)] [3, 4] [0, 1, 2] [0] := ⟨rfl, rfl, rfl, rfl, by decide, rfl⟩
          refine kv hX_5 hP hD hS hA (kRunV (q := (RX0, TX0, 2)) (As := [.int (fK i)]) (rest := []) F (c_X0_put l D cA aQ aS j g (fK i) (by omega) H.size) (cwV 1 hts gX1_gatherVillage_X0_put rfl rfl rfl (by decide +kernel) ⟨Nat.le_of_ble_eq_true rfl, Nat.le_of_ble_eq_true rfl⟩) hK hP hD hX_5 3 rfl rfl rfl hl.1 rfl (Nat.le_of_ble_eq_true rfl) dX1_gatherVillage_37 ⟨Nat.le_of_ble_eq_true rfl, Nat.le_of_ble_eq_true rfl⟩) (fun u_7 H locs hw_8 hP hD hS => ?_)
          have hw_8 : Ins g j (fK i) u_7 := hw_8
          have hP : va_P D vwCl [(h0, .inr (1, [.int (nI n), .int rg, .int st, .ref aV, .ref aW, .ref aR, .ref aP, .ref aK, .ref aL, .ref aQ])), (aV, .inl (cA, 12, .inl fV)), (aK, .inl (cA, 12, .inl fK)), (aQ, .inr (0, [.ref aS, .int (nI (j + 1))])), (aS, .inl (cA, 12, .inl u_7))] H := hP
          have hD : va_D A [(h0, .inr (1, [.int (nI n), .int rg, .int st, .ref aV, .ref aW, .ref aR, .ref aP, .ref aK, .ref aL, .ref aQ])), (aV, .inl (cA, 12, .inl fV)), (aK, .inl (cA, 12, .inl fK)), (aQ, .inr (0, [.ref aS, .int (nI (j + 1))])), (aS, .inl (cA, 12, .inl u_7))] := hD
          refine lv_iinc (v := nI (i + 1)) (lv' := [(2, .int (nI (i + 1))), (0, .ref h0), (1, .int v)]) hx hb dX1_gatherVillage_40 hl (k := 0) rfl (nI_1 _) (by decide) rfl (fun ls hl => ?_)
          refine lv_goto (tgt := 9) hx hb dX1_gatherVillage_43 (by decide) ?_
          exact ih9 (i + 1) (j + 1) u_7 (by omega) (by omega) (rowOf_put hR (by simp [selV, c_24]) hw_8) _ _ (hP.sub [0, 1, 2, 3, 4] rfl) (hD.sub [0, 1, 2, 3, 4] (by decide) rfl) hS ls (lv_sub hl [0, 1, 2] rfl)
  exact loop9 (n + 1) 0 0 fS (by omega) (Nat.zero_le _) (rowOf_0 _ _ _) _ _ (hP.sub [0, 1, 2, 3, 4] rfl) (hD.sub [0, 1, 2, 3, 4] (by decide) rfl) hS ls (lv_sub hl [0, 1, 2] rfl)
theorem uX1_X1_gatherOthers : ∀ w ∈ u_ws RX1 TX1 10, w ∈ wsX1_gatherOthers := (fun _ h => List.mem_cons_of_mem _ (List.mem_append_left _ (List.mem_append_right _ h)))
set_option maxHeartbeats 4000000 in
set_option maxRecDepth 100000 in
theorem c_X1_gatherOthers (l : Launch) (D : va_G) (cA : ClassId) (h0 : Nat) (n : Nat) (rg : Int32) (st : Int32) (aV : Nat) (aW : Nat) (aR : Nat) (aP : Nat) (aK : Nat) (aL : Nat) (aQ : Nat) (fK : Nat → Int32) (aS : Nat) (lv : Int32) (fS : Nat → Int32) (d : Nat) (hn : n ≤ 12) (hd : d < n) (sz : Nat) : Met l yX1_gatherOthers wsX1_gatherOthers ({ frames := 1, cells := 0, slots := 0, locals := 22 } : Room) (va_Pc [.ref h0, .int (nI d)] (Wd D [(cA, .int)] [(h0, .inr (1, [.int (nI n), .int rg, .int st, .ref aV, .ref aW, .ref aR, .ref aP, .ref aK, .ref aL, .ref aQ])), (aK, .inl (cA, 12, .inl fK)), (aQ, .inr (0, [.ref aS, .int lv])), (aS, .inl (cA, 12, .inl fS))] sz)) (va_Qv (fun (u : (Nat → Int32) × Nat) => RowOf u.1 u.2 fK (selX d) n) (fun (u : (Nat → Int32) × Nat) t => We D [(cA, .int)] [(h0, .inr (1, [.int (nI n), .int rg, .int st, .ref aV, .ref aW, .ref aR, .ref aP, .ref aK, .ref aL, .ref aQ])), (aK, .inl (cA, 12, .inl fK)), (aQ, .inr (0, [.ref aS, .int (nI u.2)])), (aS, .inl (cA, 12, .inl u.1))] (va_A [(h0, .inr (1, [.int (nI n), .int rg, .int st, .ref aV, .ref aW, .ref aR, .ref aP, .ref aK, .ref aL, .ref aQ])), (aK, .inl (cA, 12, .inl fK)), (aQ, .inr (0, [.ref aS, .int lv])), (aS, .inl (cA, 12, .inl fS))] sz) t) (va_A [(h0, .inr (1, [.int (nI n), .int rg, .int st, .ref aV, .ref aW, .ref aR, .ref aP, .ref aK, .ref aL, .ref aQ])), (aK, .inl (cA, 12, .inl fK)), (aQ, .inr (0, [.ref aS, .int lv])), (aS, .inl (cA, 12, .inl fS))] sz)) 0 0 (va_A [(h0, .inr (1, [.int (nI n), .int rg, .int st, .ref aV, .ref aW, .ref aR, .ref aP, .ref aK, .ref aL, .ref aQ])), (aK, .inl (cA, 12, .inl fK)), (aQ, .inr (0, [.ref aS, .int lv])), (aS, .inl (cA, 12, .inl fS))] sz) := by
  refine mk_met [.ref h0, .int (nI d)] (fun A => va_Qv (fun (u : (Nat → Int32) × Nat) => RowOf u.1 u.2 fK (selX d) n) (fun (u : (Nat → Int32) × Nat) t => We D [(cA, .int)] [(h0, .inr (1, [.int (nI n), .int rg, .int st, .ref aV, .ref aW, .ref aR, .ref aP, .ref aK, .ref aL, .ref aQ])), (aK, .inl (cA, 12, .inl fK)), (aQ, .inr (0, [.ref aS, .int (nI u.2)])), (aS, .inl (cA, 12, .inl u.1))] A t) A) (by decide) rfl (Nat.le_of_ble_eq_true rfl) ?_
  intro p e s m args below meth c A ls F hr hlocks hname hP hK hD hA hl
  have hx := F.1
  have hb := F.2.1
  have hml := F.2.2.1
  have hown := F.2.2.2.1
  have hts := F.2.2.2.2
  have hS : va_S A s.heap s.heap [] := va_S.rf
  have hl : lv_has ls 3 [(0, .ref h0), (1, .int (nI d))] := hl
  refine absQ (fun Q hQ => ?_)
  refine lv_aload_n hx hb dX1_gatherOthers_0 rfl (lv_at hl 0 rfl) ?_
  refine va_get (D := D) (ci := 1) (v := .ref aQ) (C := RX1) (T := TX1) (N := 10) hx hb hts uX1_X1_gatherOthers hown hK hP 0 rfl rfl 9 (by decide) (hts (.fieldLink RX1 41 "RopeChoices" "row" "LRopeChoices$PlankRow;") (List.mem_of_getElem? (i := 1) rfl)) (fun _ h9 => h9) rfl dX1_gatherOthers_1 ?_
  have hX_1 : Cut D A [(h0, .inr (1, [.int (nI n), .int rg, .int st, .ref aV, .ref aW, .ref aR, .ref aP, .ref aK, .ref aL, .ref aQ])), (aK, .inl (cA, 12, .inl fK)), (aQ, .inr (0, [.ref aS, .int lv])), (aS, .inl (cA, 12, .inl fS))] [(aQ, .inr (0, [.ref aS, .int lv])), (aS, .inl (cA, 12, .inl fS))] [(h0, .inr (1, [.int (nI n), .int rg, .int st, .ref aV, .ref aW, .ref aR, .ref aP, .ref aK, .ref aL, .ref aQ])), (aK, .inl (cA, 12, .inl fK))] [(cA, .int)] [(cA, .int)] [2, 3] [0, 1] [0] := ⟨rfl, rfl, rfl, rfl, by decide, rfl⟩
  refine kv hX_1 hP hD hS hA (kRunV (q := (RX0, TX0, 2)) (As := []) (rest := []) F (c_X0_empty l D cA aQ aS lv fS s.heap.size) (cwV 0 hts gX1_gatherOthers_X0_empty rfl rfl rfl (by decide +kernel) ⟨Nat.le_of_ble_eq_true rfl, Nat.le_of_ble_eq_true rfl⟩) hK hP hD hX_1 2 rfl rfl rfl hl.1 rfl (Nat.le_of_ble_eq_true rfl) dX1_gatherOthers_4 ⟨Nat.le_of_ble_eq_true rfl, Nat.le_of_ble_eq_true rfl⟩) (fun u_3 H locs hw_4 hP hD hS => ?_)
  have hw_4 : True := hw_4
  have hP : va_P D vwCl [(h0, .inr (1, [.int (nI n), .int rg, .int st, .ref aV, .ref aW, .ref aR, .ref aP, .ref aK, .ref aL, .ref aQ])), (aK, .inl (cA, 12, .inl fK)), (aQ, .inr (0, [.ref aS, .int (nI 0)])), (aS, .inl (cA, 12, .inl fS))] H := hP
  have hD : va_D A [(h0, .inr (1, [.int (nI n), .int rg, .int st, .ref aV, .ref aW, .ref aR, .ref aP, .ref aK, .ref aL, .ref aQ])), (aK, .inl (cA, 12, .inl fK)), (aQ, .inr (0, [.ref aS, .int (nI 0)])), (aS, .inl (cA, 12, .inl fS))] := hD
  refine lv_iconst (v := 0) hx hb dX1_gatherOthers_7 (by decide) ?_
  refine lv_istore_n (lv' := [(2, .int 0), (0, .ref h0), (1, .int (nI d))]) hx hb dX1_gatherOthers_8 rfl hl (by decide) rfl (fun ls hl => ?_)
  have loop9 : ∀ (k : Nat) (i : Nat) (j : Nat) (g : Nat → Int32), (n < i + k) → (i ≤ n) → (RowOf g j fK (selX d) i) →  ∀ (H : Heap) (locs : List Loc), va_P D vwCl [(h0, .inr (1, [.int (nI n), .int rg, .int st, .ref aV, .ref aW, .ref aR, .ref aP, .ref aK, .ref aL, .ref aQ])), (aK, .inl (cA, 12, .inl fK)), (aQ, .inr (0, [.ref aS, .int (nI j)])), (aS, .inl (cA, 12, .inl g))] H → va_D A [(h0, .inr (1, [.int (nI n), .int rg, .int st, .ref aV, .ref aW, .ref aR, .ref aP, .ref aK, .ref aL, .ref aQ])), (aK, .inl (cA, 12, .inl fK)), (aQ, .inr (0, [.ref aS, .int (nI j)])), (aS, .inl (cA, 12, .inl g))] → va_S A s.heap H locs → ∀ ls : Array Slot, lv_has ls 3 [(2, .int (nI i)), (0, .ref h0), (1, .int (nI d))] → W p l e ({ frames := 1, cells := 0, slots := 0, locals := 22 } : Room) s m args below meth c H locs 0 0 Q (F0 m 9 ls []) := by
    intro k
    induction k with
    | zero =>
      intro i j g hk hi hR
      exact absurd hk (by omega)
    | succ k ih9 =>
      intro i j g hk hi hR H locs hP hD hS ls hl
      have hj9 : j ≤ i := by rw [hR.2.1]; exact tot_le _ _
      refine lv_iload_n hx hb dX1_gatherOthers_9 rfl (lv_at hl 0 rfl) ?_
      refine lv_aload_n hx hb dX1_gatherOthers_10 rfl (lv_at hl 1 rfl) ?_
      refine va_get (D := D) (ci := 1) (v := .int (nI n)) (C := RX1) (T := TX1) (N := 10) hx hb hts uX1_X1_gatherOthers hown hK hP 0 rfl rfl 0 (by decide) (hts (.fieldLink RX1 7 "RopeChoices" "count" "I") (List.mem_of_getElem? (i := 2) rfl)) (fun _ h9 => h9) rfl dX1_gatherOthers_11 ?_
      refine lv_icmp_ge (tgt := 41) hx hb dX1_gatherOthers_14 (by decide) (fun c_14 => ?_) (fun c_14 => ?_)
      · skip
        have g_14 : n ≤ i := nf_ge_t (by omega) (by omega) c_14
        refine useQ hQ ?_
        exact e_v F hr hlocks hK hP hD hS [0, 1, 2, 3] [0] (g, j) ((show i = n by omega) ▸ hR) rfl rfl rfl (Nat.le_of_ble_eq_true rfl) (Nat.le_of_ble_eq_true rfl) dX1_gatherOthers_41
      · skip
        have g_14 : i < n := nf_ge_f (by omega) (by omega) c_14
        refine lv_iload_n hx hb dX1_gatherOthers_17 rfl (lv_at hl 0 rfl) ?_
        refine lv_iload_n hx hb dX1_gatherOthers_18 rfl (lv_at hl 2 rfl) ?_
        refine lv_icmp_eq (tgt := 35) hx hb dX1_gatherOthers_19 (by decide) (fun c_19 => ?_) (fun c_19 => ?_)
        · skip
          have g_19 : i = d := nf_eq_t (by omega) (by omega) c_19
          refine lv_iinc (v := nI (i + 1)) (lv' := [(2, .int (nI (i + 1))), (0, .ref h0), (1, .int (nI d))]) hx hb dX1_gatherOthers_35 hl (k := 0) rfl (nI_1 _) (by decide) rfl (fun ls hl => ?_)
          refine lv_goto (tgt := 9) hx hb dX1_gatherOthers_38 (by decide) ?_
          exact ih9 (i + 1) j g (by omega) (by omega) (rowOf_not hR (by simp [selX, g_19])) _ _ (hP.sub [0, 1, 2, 3] rfl) (hD.sub [0, 1, 2, 3] (by decide) rfl) hS ls (lv_sub hl [0, 1, 2] rfl)
        · skip
          have g_19 : i ≠ d := nf_eq_f (by omega) (by omega) c_19
          refine lv_aload_n hx hb dX1_gatherOthers_22 rfl (lv_at hl 1 rfl) ?_
          refine va_get (D := D) (ci := 1) (v := .ref aQ) (C := RX1) (T := TX1) (N := 10) hx hb hts uX1_X1_gatherOthers hown hK hP 0 rfl rfl 9 (by decide) (hts (.fieldLink RX1 41 "RopeChoices" "row" "LRopeChoices$PlankRow;") (List.mem_of_getElem? (i := 1) rfl)) (fun _ h9 => h9) rfl dX1_gatherOthers_23 ?_
          refine lv_aload_n hx hb dX1_gatherOthers_26 rfl (lv_at hl 1 rfl) ?_
          refine va_get (D := D) (ci := 1) (v := .ref aK) (C := RX1) (T := TX1) (N := 10) hx hb hts uX1_X1_gatherOthers hown hK hP 0 rfl rfl 7 (by decide) (hts (.fieldLink RX1 32 "RopeChoices" "planks" "[I") (List.mem_of_getElem? (i := 3) rfl)) (fun _ h9 => h9) rfl dX1_gatherOthers_27 ?_
          refine lv_iload_n hx hb dX1_gatherOthers_30 rfl (lv_at hl 0 rfl) ?_
          refine a_ld (k := i) hx hb hK hP 1 0 rfl rfl (by omega) (Nat.le_of_ble_eq_true rfl) dX1_gatherOthers_31 ?_
          have hX_5 : Cut D A [(h0, .inr (1, [.int (nI n), .int rg, .int st, .ref aV, .ref aW, .ref aR, .ref aP, .ref aK, .ref aL, .ref aQ])), (aK, .inl (cA, 12, .inl fK)), (aQ, .inr (0, [.ref aS, .int (nI j)])), (aS, .inl (cA, 12, .inl g))] [(aQ, .inr (0, [.ref aS, .int (nI j)])), (aS, .inl (cA, 12, .inl g))] [(h0, .inr (1, [.int (nI n), .int rg, .int st, .ref aV, .ref aW, .ref aR, .ref aP, .ref aK, .ref aL, .ref aQ])), (aK, .inl (cA, 12, .inl fK))] [(cA, .int)] [(cA, .int)] [2, 3] [0, 1] [0] := ⟨rfl, rfl, rfl, rfl, by decide, rfl⟩
          refine kv hX_5 hP hD hS hA (kRunV (q := (RX0, TX0, 2)) (As := [.int (fK i)]) (rest := []) F (c_X0_put l D cA aQ aS j g (fK i) (by omega) H.size) (cwV 1 hts gX1_gatherOthers_X0_put rfl rfl rfl (by decide +kernel) ⟨Nat.le_of_ble_eq_true rfl, Nat.le_of_ble_eq_true rfl⟩) hK hP hD hX_5 2 rfl rfl rfl hl.1 rfl (Nat.le_of_ble_eq_true rfl) dX1_gatherOthers_32 ⟨Nat.le_of_ble_eq_true rfl, Nat.le_of_ble_eq_true rfl⟩) (fun u_7 H locs hw_8 hP hD hS => ?_)
          have hw_8 : Ins g j (fK i) u_7 := hw_8
          have hP : va_P D vwCl [(h0, .inr (1, [.int (nI n), .int rg, .int st, .ref aV, .ref aW, .ref aR, .ref aP, .ref aK, .ref aL, .ref aQ])), (aK, .inl (cA, 12, .inl fK)), (aQ, .inr (0, [.ref aS, .int (nI (j + 1))])), (aS, .inl (cA, 12, .inl u_7))] H := hP
          have hD : va_D A [(h0, .inr (1, [.int (nI n), .int rg, .int st, .ref aV, .ref aW, .ref aR, .ref aP, .ref aK, .ref aL, .ref aQ])), (aK, .inl (cA, 12, .inl fK)), (aQ, .inr (0, [.ref aS, .int (nI (j + 1))])), (aS, .inl (cA, 12, .inl u_7))] := hD
          refine lv_iinc (v := nI (i + 1)) (lv' := [(2, .int (nI (i + 1))), (0, .ref h0), (1, .int (nI d))]) hx hb dX1_gatherOthers_35 hl (k := 0) rfl (nI_1 _) (by decide) rfl (fun ls hl => ?_)
          refine lv_goto (tgt := 9) hx hb dX1_gatherOthers_38 (by decide) ?_
          exact ih9 (i + 1) (j + 1) u_7 (by omega) (by omega) (rowOf_put hR (by simp [selX, g_19]) hw_8) _ _ (hP.sub [0, 1, 2, 3] rfl) (hD.sub [0, 1, 2, 3] (by decide) rfl) hS ls (lv_sub hl [0, 1, 2] rfl)
  exact loop9 (n + 1) 0 0 fS (by omega) (Nat.zero_le _) (rowOf_0 _ _ _) _ _ (hP.sub [0, 1, 2, 3] rfl) (hD.sub [0, 1, 2, 3] (by decide) rfl) hS ls (lv_sub hl [0, 1, 2] rfl)
theorem uX1_X1_copyPlanksToLater : ∀ w ∈ u_ws RX1 TX1 10, w ∈ wsX1_copyPlanksToLater := (fun _ h => List.mem_cons_of_mem _ (List.mem_append_right _ h))
set_option maxHeartbeats 4000000 in
set_option maxRecDepth 100000 in
theorem c_X1_copyPlanksToLater (l : Launch) (D : va_G) (cA : ClassId) (h0 : Nat) (n : Nat) (rg : Int32) (st : Int32) (aV : Nat) (aW : Nat) (aR : Nat) (aP : Nat) (aK : Nat) (aL : Nat) (aQ : Nat) (fK : Nat → Int32) (fL : Nat → Int32) (hn : n ≤ 12) (sz : Nat) : Met l yX1_copyPlanksToLater wsX1_copyPlanksToLater ({ frames := 0, cells := 0, slots := 0, locals := 0 } : Room) (va_Pc [.ref h0] (Wd D [(cA, .int)] [(h0, .inr (1, [.int (nI n), .int rg, .int st, .ref aV, .ref aW, .ref aR, .ref aP, .ref aK, .ref aL, .ref aQ])), (aK, .inl (cA, 12, .inl fK)), (aL, .inl (cA, 12, .inl fL))] sz)) (va_Qv (fun (_ : Unit) => True) (fun (_ : Unit) t => We D [(cA, .int)] [(h0, .inr (1, [.int (nI n), .int rg, .int st, .ref aV, .ref aW, .ref aR, .ref aP, .ref aK, .ref aL, .ref aQ])), (aK, .inl (cA, 12, .inl fK)), (aL, .inl (cA, 12, .inl (copyF fK fL n)))] (va_A [(h0, .inr (1, [.int (nI n), .int rg, .int st, .ref aV, .ref aW, .ref aR, .ref aP, .ref aK, .ref aL, .ref aQ])), (aK, .inl (cA, 12, .inl fK)), (aL, .inl (cA, 12, .inl fL))] sz) t) (va_A [(h0, .inr (1, [.int (nI n), .int rg, .int st, .ref aV, .ref aW, .ref aR, .ref aP, .ref aK, .ref aL, .ref aQ])), (aK, .inl (cA, 12, .inl fK)), (aL, .inl (cA, 12, .inl fL))] sz)) 0 0 (va_A [(h0, .inr (1, [.int (nI n), .int rg, .int st, .ref aV, .ref aW, .ref aR, .ref aP, .ref aK, .ref aL, .ref aQ])), (aK, .inl (cA, 12, .inl fK)), (aL, .inl (cA, 12, .inl fL))] sz) := by
  refine mk_met [.ref h0] (fun A => va_Qv (fun (_ : Unit) => True) (fun (_ : Unit) t => We D [(cA, .int)] [(h0, .inr (1, [.int (nI n), .int rg, .int st, .ref aV, .ref aW, .ref aR, .ref aP, .ref aK, .ref aL, .ref aQ])), (aK, .inl (cA, 12, .inl fK)), (aL, .inl (cA, 12, .inl (copyF fK fL n)))] A t) A) (by decide) rfl (Nat.le_of_ble_eq_true rfl) ?_
  intro p e s m args below meth c A ls F hr hlocks hname hP hK hD hA hl
  have hx := F.1
  have hb := F.2.1
  have hml := F.2.2.1
  have hown := F.2.2.2.1
  have hts := F.2.2.2.2
  have hS : va_S A s.heap s.heap [] := va_S.rf
  have hl : lv_has ls 2 [(0, .ref h0)] := hl
  refine absQ (fun Q hQ => ?_)
  refine lv_iconst (v := 0) hx hb dX1_copyPlanksToLater_0 (by decide) ?_
  refine lv_istore_n (lv' := [(1, .int 0), (0, .ref h0)]) hx hb dX1_copyPlanksToLater_1 rfl hl (by decide) rfl (fun ls hl => ?_)
  have loop2 : ∀ (k : Nat) (i : Nat) (g : Nat → Int32), (n < i + k) → (i ≤ n) → (g = copyF fK fL i) →  ∀ (H : Heap) (locs : List Loc), va_P D vwCl [(h0, .inr (1, [.int (nI n), .int rg, .int st, .ref aV, .ref aW, .ref aR, .ref aP, .ref aK, .ref aL, .ref aQ])), (aK, .inl (cA, 12, .inl fK)), (aL, .inl (cA, 12, .inl g))] H → va_D A [(h0, .inr (1, [.int (nI n), .int rg, .int st, .ref aV, .ref aW, .ref aR, .ref aP, .ref aK, .ref aL, .ref aQ])), (aK, .inl (cA, 12, .inl fK)), (aL, .inl (cA, 12, .inl g))] → va_S A s.heap H locs → ∀ ls : Array Slot, lv_has ls 2 [(1, .int (nI i)), (0, .ref h0)] → W p l e ({ frames := 0, cells := 0, slots := 0, locals := 0 } : Room) s m args below meth c H locs 0 0 Q (F0 m 2 ls []) := by
    intro k
    induction k with
    | zero =>
      intro i g hk hi hg
      exact absurd hk (by omega)
    | succ k ih2 =>
      intro i g hk hi hg H locs hP hD hS ls hl
      refine lv_iload_n hx hb dX1_copyPlanksToLater_2 rfl (lv_at hl 0 rfl) ?_
      refine lv_aload_n hx hb dX1_copyPlanksToLater_3 rfl (lv_at hl 1 rfl) ?_
      refine va_get (D := D) (ci := 1) (v := .int (nI n)) (C := RX1) (T := TX1) (N := 10) hx hb hts uX1_X1_copyPlanksToLater hown hK hP 0 rfl rfl 0 (by decide) (hts (.fieldLink RX1 7 "RopeChoices" "count" "I") (List.mem_of_getElem? (i := 1) rfl)) (fun _ h9 => h9) rfl dX1_copyPlanksToLater_4 ?_
      refine lv_icmp_ge (tgt := 28) hx hb dX1_copyPlanksToLater_7 (by decide) (fun c_7 => ?_) (fun c_7 => ?_)
      · skip
        have g_7 : n ≤ i := nf_ge_t (by omega) (by omega) c_7
        have eq_1 : g = (copyF fK fL n) := by rw [hg, show i = n by omega]
        rw [eq_1] at hP hD
        have hP : va_P D vwCl [(h0, .inr (1, [.int (nI n), .int rg, .int st, .ref aV, .ref aW, .ref aR, .ref aP, .ref aK, .ref aL, .ref aQ])), (aK, .inl (cA, 12, .inl fK)), (aL, .inl (cA, 12, .inl (copyF fK fL n)))] H := hP
        have hD : va_D A [(h0, .inr (1, [.int (nI n), .int rg, .int st, .ref aV, .ref aW, .ref aR, .ref aP, .ref aK, .ref aL, .ref aQ])), (aK, .inl (cA, 12, .inl fK)), (aL, .inl (cA, 12, .inl (copyF fK fL n)))] := hD
        refine useQ hQ ?_
        exact e_v F hr hlocks hK hP hD hS [0, 1, 2] [0] () trivial rfl rfl rfl (Nat.le_of_ble_eq_true rfl) (Nat.le_of_ble_eq_true rfl) dX1_copyPlanksToLater_28
      · skip
        have g_7 : i < n := nf_ge_f (by omega) (by omega) c_7
        refine lv_aload_n hx hb dX1_copyPlanksToLater_10 rfl (lv_at hl 1 rfl) ?_
        refine va_get (D := D) (ci := 1) (v := .ref aL) (C := RX1) (T := TX1) (N := 10) hx hb hts uX1_X1_copyPlanksToLater hown hK hP 0 rfl rfl 8 (by decide) (hts (.fieldLink RX1 35 "RopeChoices" "laterPlanks" "[I") (List.mem_of_getElem? (i := 2) rfl)) (fun _ h9 => h9) rfl dX1_copyPlanksToLater_11 ?_
        refine lv_iload_n hx hb dX1_copyPlanksToLater_14 rfl (lv_at hl 0 rfl) ?_
        refine lv_aload_n hx hb dX1_copyPlanksToLater_15 rfl (lv_at hl 1 rfl) ?_
        refine va_get (D := D) (ci := 1) (v := .ref aK) (C := RX1) (T := TX1) (N := 10) hx hb hts uX1_X1_copyPlanksToLater hown hK hP 0 rfl rfl 7 (by decide) (hts (.fieldLink RX1 32 "RopeChoices" "planks" "[I") (List.mem_of_getElem? (i := 3) rfl)) (fun _ h9 => h9) rfl dX1_copyPlanksToLater_16 ?_
        refine lv_iload_n hx hb dX1_copyPlanksToLater_19 rfl (lv_at hl 0 rfl) ?_
        refine a_ld (k := i) hx hb hK hP 1 0 rfl rfl (by omega) (Nat.le_of_ble_eq_true rfl) dX1_copyPlanksToLater_20 ?_
        refine a_st (k := i) hx hb hK hP hD hS 2 0 rfl rfl (by omega) (Nat.le_of_ble_eq_true rfl) dX1_copyPlanksToLater_21 (fun H locs hP hD hS => ?_)
        have hP : va_P D vwCl [(h0, .inr (1, [.int (nI n), .int rg, .int st, .ref aV, .ref aW, .ref aR, .ref aP, .ref aK, .ref aL, .ref aQ])), (aK, .inl (cA, 12, .inl fK)), (aL, .inl (cA, 12, .inl (upd g i (fK i))))] H := hP
        have hD : va_D A [(h0, .inr (1, [.int (nI n), .int rg, .int st, .ref aV, .ref aW, .ref aR, .ref aP, .ref aK, .ref aL, .ref aQ])), (aK, .inl (cA, 12, .inl fK)), (aL, .inl (cA, 12, .inl (upd g i (fK i))))] := hD
        refine lv_iinc (v := nI (i + 1)) (lv' := [(1, .int (nI (i + 1))), (0, .ref h0)]) hx hb dX1_copyPlanksToLater_22 hl (k := 0) rfl (nI_1 _) (by decide) rfl (fun ls hl => ?_)
        refine lv_goto (tgt := 2) hx hb dX1_copyPlanksToLater_25 (by decide) ?_
        exact ih2 (i + 1) (upd g i (fK i)) (by omega) (by omega) (copyF_s hg) _ _ (hP.sub [0, 1, 2] rfl) (hD.sub [0, 1, 2] (by decide) rfl) hS ls (lv_sub hl [0, 1] rfl)
  exact loop2 (n + 1) 0 fL (by omega) (Nat.zero_le _) (copyF_0 _ _) _ _ (hP.sub [0, 1, 2] rfl) (hD.sub [0, 1, 2] (by decide) rfl) hS ls (lv_sub hl [0, 1] rfl)
theorem uX1_X1_goRound : ∀ w ∈ u_ws RX1 TX1 10, w ∈ wsX1_goRound := (fun _ h => List.mem_cons_of_mem _ (List.mem_append_left _ (List.mem_append_right _ h)))
set_option maxHeartbeats 4000000 in
set_option maxRecDepth 100000 in
theorem c_X1_goRound (l : Launch) (D : va_G) (cA : ClassId) (h0 : Nat) (n : Nat) (rg : Int32) (st : Int32) (aV : Nat) (aW : Nat) (aR : Nat) (aP : Nat) (aK : Nat) (aL : Nat) (aQ : Nat) (w : Nat) (fw : Nat → Int32) (fW : Nat → Int32) (fR : Nat → Int32) (fP : Nat → Int32) (aS : Nat) (lv : Int32) (fS : Nat → Int32) (hn : n ≤ 12) (sz : Nat) : Met l yX1_goRound wsX1_goRound ({ frames := 4, cells := 0, slots := 0, locals := 99 } : Room) (va_Pc [.ref h0, .ref w] (Wd D [(cA, .int)] [(h0, .inr (1, [.int (nI n), .int rg, .int st, .ref aV, .ref aW, .ref aR, .ref aP, .ref aK, .ref aL, .ref aQ])), (w, .inl (cA, 12, .inl fw)), (aW, .inl (cA, 12, .inl fW)), (aR, .inl (cA, 12, .inl fR)), (aP, .inl (cA, 12, .inl fP)), (aQ, .inr (0, [.ref aS, .int lv])), (aS, .inl (cA, 12, .inl fS))] sz)) (va_Qi (fun (r : Int32) (u : (Nat → Int32) × Int32) => r = rndM fW fR fP n st fw) (fun (u : (Nat → Int32) × Int32) t => We D [(cA, .int)] [(h0, .inr (1, [.int (nI n), .int rg, .int st, .ref aV, .ref aW, .ref aR, .ref aP, .ref aK, .ref aL, .ref aQ])), (w, .inl (cA, 12, .inl (rndF fW fR fP n st fw))), (aW, .inl (cA, 12, .inl fW)), (aR, .inl (cA, 12, .inl fR)), (aP, .inl (cA, 12, .inl fP)), (aQ, .inr (0, [.ref aS, .int u.2])), (aS, .inl (cA, 12, .inl u.1))] (va_A [(h0, .inr (1, [.int (nI n), .int rg, .int st, .ref aV, .ref aW, .ref aR, .ref aP, .ref aK, .ref aL, .ref aQ])), (w, .inl (cA, 12, .inl fw)), (aW, .inl (cA, 12, .inl fW)), (aR, .inl (cA, 12, .inl fR)), (aP, .inl (cA, 12, .inl fP)), (aQ, .inr (0, [.ref aS, .int lv])), (aS, .inl (cA, 12, .inl fS))] sz) t) (va_A [(h0, .inr (1, [.int (nI n), .int rg, .int st, .ref aV, .ref aW, .ref aR, .ref aP, .ref aK, .ref aL, .ref aQ])), (w, .inl (cA, 12, .inl fw)), (aW, .inl (cA, 12, .inl fW)), (aR, .inl (cA, 12, .inl fR)), (aP, .inl (cA, 12, .inl fP)), (aQ, .inr (0, [.ref aS, .int lv])), (aS, .inl (cA, 12, .inl fS))] sz)) 0 0 (va_A [(h0, .inr (1, [.int (nI n), .int rg, .int st, .ref aV, .ref aW, .ref aR, .ref aP, .ref aK, .ref aL, .ref aQ])), (w, .inl (cA, 12, .inl fw)), (aW, .inl (cA, 12, .inl fW)), (aR, .inl (cA, 12, .inl fR)), (aP, .inl (cA, 12, .inl fP)), (aQ, .inr (0, [.ref aS, .int lv])), (aS, .inl (cA, 12, .inl fS))] sz) := by
  refine mk_met [.ref h0, .ref w] (fun A => va_Qi (fun (r : Int32) (u : (Nat → Int32) × Int32) => r = rndM fW fR fP n st fw) (fun (u : (Nat → Int32) × Int32) t => We D [(cA, .int)] [(h0, .inr (1, [.int (nI n), .int rg, .int st, .ref aV, .ref aW, .ref aR, .ref aP, .ref aK, .ref aL, .ref aQ])), (w, .inl (cA, 12, .inl (rndF fW fR fP n st fw))), (aW, .inl (cA, 12, .inl fW)), (aR, .inl (cA, 12, .inl fR)), (aP, .inl (cA, 12, .inl fP)), (aQ, .inr (0, [.ref aS, .int u.2])), (aS, .inl (cA, 12, .inl u.1))] A t) A) (by decide) rfl (Nat.le_of_ble_eq_true rfl) ?_
  intro p e s m args below meth c A ls F hr hlocks hname hP hK hD hA hl
  have hx := F.1
  have hb := F.2.1
  have hml := F.2.2.1
  have hown := F.2.2.2.1
  have hts := F.2.2.2.2
  have hS : va_S A s.heap s.heap [] := va_S.rf
  have hl : lv_has ls 6 [(0, .ref h0), (1, .ref w)] := hl
  refine absQ (fun Q hQ => ?_)
  refine lv_aload_n hx hb dX1_goRound_0 rfl (lv_at hl 0 rfl) ?_
  refine lv_aload_n hx hb dX1_goRound_1 rfl (lv_at hl 1 rfl) ?_
  have hX_1 : Cut D A [(h0, .inr (1, [.int (nI n), .int rg, .int st, .ref aV, .ref aW, .ref aR, .ref aP, .ref aK, .ref aL, .ref aQ])), (w, .inl (cA, 12, .inl fw)), (aW, .inl (cA, 12, .inl fW)), (aR, .inl (cA, 12, .inl fR)), (aP, .inl (cA, 12, .inl fP)), (aQ, .inr (0, [.ref aS, .int lv])), (aS, .inl (cA, 12, .inl fS))] [(h0, .inr (1, [.int (nI n), .int rg, .int st, .ref aV, .ref aW, .ref aR, .ref aP, .ref aK, .ref aL, .ref aQ])), (w, .inl (cA, 12, .inl fw)), (aQ, .inr (0, [.ref aS, .int lv])), (aS, .inl (cA, 12, .inl fS))] [(aW, .inl (cA, 12, .inl fW)), (aR, .inl (cA, 12, .inl fR)), (aP, .inl (cA, 12, .inl fP))] [(cA, .int)] [(cA, .int)] [0, 1, 5, 6] [2, 3, 4] [0] := ⟨rfl, rfl, rfl, rfl, by decide, rfl⟩
  refine ki hX_1 hP hD hS hA (kRunV (q := (RX1, TX1, 10)) (As := [.ref w]) (rest := []) F (c_X1_middleOfAll l D cA h0 n rg st aV aW aR aP aK aL aQ w fw aS lv fS hn s.heap.size) (cwV 1 hts gX1_goRound_X1_middleOfAll rfl rfl rfl (by decide +kernel) ⟨Nat.le_of_ble_eq_true rfl, Nat.le_of_ble_eq_true rfl⟩) hK hP hD hX_1 0 rfl rfl rfl hl.1 rfl (Nat.le_of_ble_eq_true rfl) dX1_goRound_2 ⟨Nat.le_of_ble_eq_true rfl, Nat.le_of_ble_eq_true rfl⟩) (fun r_2 u_3 H locs hw_4 hP hD hS => ?_)
  have hw_4 : r_2 = midF fw n := hw_4
  rw [hw_4]
  have hP : va_P D vwCl [(aW, .inl (cA, 12, .inl fW)), (aR, .inl (cA, 12, .inl fR)), (aP, .inl (cA, 12, .inl fP)), (h0, .inr (1, [.int (nI n), .int rg, .int st, .ref aV, .ref aW, .ref aR, .ref aP, .ref aK, .ref aL, .ref aQ])), (w, .inl (cA, 12, .inl fw)), (aQ, .inr (0, [.ref aS, .int u_3.2])), (aS, .inl (cA, 12, .inl u_3.1))] H := hP
  have hD : va_D A [(aW, .inl (cA, 12, .inl fW)), (aR, .inl (cA, 12, .inl fR)), (aP, .inl (cA, 12, .inl fP)), (h0, .inr (1, [.int (nI n), .int rg, .int st, .ref aV, .ref aW, .ref aR, .ref aP, .ref aK, .ref aL, .ref aQ])), (w, .inl (cA, 12, .inl fw)), (aQ, .inr (0, [.ref aS, .int u_3.2])), (aS, .inl (cA, 12, .inl u_3.1))] := hD
  refine lv_istore_n (lv' := [(2, .int (midF fw n)), (0, .ref h0), (1, .ref w)]) hx hb dX1_goRound_5 rfl hl (by decide) rfl (fun ls hl => ?_)
  refine lv_iconst (v := 0) hx hb dX1_goRound_6 (by decide) ?_
  refine lv_istore_n (lv' := [(3, .int 0), (2, .int (midF fw n)), (0, .ref h0), (1, .ref w)]) hx hb dX1_goRound_7 rfl hl (by decide) rfl (fun ls hl => ?_)
  refine lv_iconst (v := 0) hx hb dX1_goRound_8 (by decide) ?_
  refine lv_istore (lv' := [(4, .int 0), (3, .int 0), (2, .int (midF fw n)), (0, .ref h0), (1, .ref w)]) hx hb dX1_goRound_9 hl (by decide) rfl (fun ls hl => ?_)
  have loop11 : ∀ (k : Nat) (i : Nat) (v : Int32) (g : Nat → Int32), (n < i + k) → (i ≤ n) → ((g, v) = turns fW fR fP n st fw i) →  ∀ (H : Heap) (locs : List Loc), va_P D vwCl [(h0, .inr (1, [.int (nI n), .int rg, .int st, .ref aV, .ref aW, .ref aR, .ref aP, .ref aK, .ref aL, .ref aQ])), (w, .inl (cA, 12, .inl g)), (aW, .inl (cA, 12, .inl fW)), (aR, .inl (cA, 12, .inl fR)), (aP, .inl (cA, 12, .inl fP)), (aQ, .inr (0, [.ref aS, .int u_3.2])), (aS, .inl (cA, 12, .inl u_3.1))] H → va_D A [(h0, .inr (1, [.int (nI n), .int rg, .int st, .ref aV, .ref aW, .ref aR, .ref aP, .ref aK, .ref aL, .ref aQ])), (w, .inl (cA, 12, .inl g)), (aW, .inl (cA, 12, .inl fW)), (aR, .inl (cA, 12, .inl fR)), (aP, .inl (cA, 12, .inl fP)), (aQ, .inr (0, [.ref aS, .int u_3.2])), (aS, .inl (cA, 12, .inl u_3.1))] → va_S A s.heap H locs → ∀ ls : Array Slot, lv_has ls 6 [(4, .int (nI i)), (3, .int v), (2, .int (midF fw n)), (0, .ref h0), (1, .ref w)] → W p l e ({ frames := 4, cells := 0, slots := 0, locals := 99 } : Room) s m args below meth c H locs 0 0 Q (F0 m 11 ls []) := by
    intro k
    induction k with
    | zero =>
      intro i v g hk hi hT
      exact absurd hk (by omega)
    | succ k ih11 =>
      intro i v g hk hi hT H locs hP hD hS ls hl
      refine lv_iload hx hb dX1_goRound_11 (lv_at hl 0 rfl) ?_
      refine lv_aload_n hx hb dX1_goRound_13 rfl (lv_at hl 3 rfl) ?_
      refine va_get (D := D) (ci := 1) (v := .int (nI n)) (C := RX1) (T := TX1) (N := 10) hx hb hts uX1_X1_goRound hown hK hP 0 rfl rfl 0 (by decide) (hts (.fieldLink RX1 7 "RopeChoices" "count" "I") (List.mem_of_getElem? (i := 1) rfl)) (fun _ h9 => h9) rfl dX1_goRound_14 ?_
      refine lv_icmp_ge (tgt := 67) hx hb dX1_goRound_17 (by decide) (fun c_17 => ?_) (fun c_17 => ?_)
      · skip
        have g_17 : n ≤ i := nf_ge_t (by omega) (by omega) c_17
        refine lv_iload_n hx hb dX1_goRound_67 rfl (lv_at hl 1 rfl) ?_
        rw [show i = n by omega] at hT
        have eq_5 : g = (rndF fW fR fP n st fw) := congrArg Prod.fst hT
        rw [eq_5] at hP hD
        have hP : va_P D vwCl [(h0, .inr (1, [.int (nI n), .int rg, .int st, .ref aV, .ref aW, .ref aR, .ref aP, .ref aK, .ref aL, .ref aQ])), (w, .inl (cA, 12, .inl (rndF fW fR fP n st fw))), (aW, .inl (cA, 12, .inl fW)), (aR, .inl (cA, 12, .inl fR)), (aP, .inl (cA, 12, .inl fP)), (aQ, .inr (0, [.ref aS, .int u_3.2])), (aS, .inl (cA, 12, .inl u_3.1))] H := hP
        have hD : va_D A [(h0, .inr (1, [.int (nI n), .int rg, .int st, .ref aV, .ref aW, .ref aR, .ref aP, .ref aK, .ref aL, .ref aQ])), (w, .inl (cA, 12, .inl (rndF fW fR fP n st fw))), (aW, .inl (cA, 12, .inl fW)), (aR, .inl (cA, 12, .inl fR)), (aP, .inl (cA, 12, .inl fP)), (aQ, .inr (0, [.ref aS, .int u_3.2])), (aS, .inl (cA, 12, .inl u_3.1))] := hD
        refine useQ hQ ?_
        exact e_i (v := v) F hr hlocks hK hP hD hS [0, 1, 2, 3, 4, 5, 6] [0] (u_3.1, u_3.2) (congrArg Prod.snd hT) rfl rfl rfl (Nat.le_of_ble_eq_true rfl) (Nat.le_of_ble_eq_true rfl) dX1_goRound_68
      · skip
        have g_17 : i < n := nf_ge_f (by omega) (by omega) c_17
        refine lv_aload_n hx hb dX1_goRound_20 rfl (lv_at hl 3 rfl) ?_
        refine lv_iload hx hb dX1_goRound_21 (lv_at hl 0 rfl) ?_
        refine lv_aload_n hx hb dX1_goRound_23 rfl (lv_at hl 4 rfl) ?_
        refine lv_iload hx hb dX1_goRound_24 (lv_at hl 0 rfl) ?_
        refine a_ld (k := i) hx hb hK hP 1 0 rfl rfl (by omega) (Nat.le_of_ble_eq_true rfl) dX1_goRound_26 ?_
        refine lv_iload_n hx hb dX1_goRound_27 rfl (lv_at hl 2 rfl) ?_
        have hX_6 : Cut D A [(h0, .inr (1, [.int (nI n), .int rg, .int st, .ref aV, .ref aW, .ref aR, .ref aP, .ref aK, .ref aL, .ref aQ])), (w, .inl (cA, 12, .inl g)), (aW, .inl (cA, 12, .inl fW)), (aR, .inl (cA, 12, .inl fR)), (aP, .inl (cA, 12, .inl fP)), (aQ, .inr (0, [.ref aS, .int u_3.2])), (aS, .inl (cA, 12, .inl u_3.1))] [(h0, .inr (1, [.int (nI n), .int rg, .int st, .ref aV, .ref aW, .ref aR, .ref aP, .ref aK, .ref aL, .ref aQ])), (aW, .inl (cA, 12, .inl fW)), (aR, .inl (cA, 12, .inl fR)), (aP, .inl (cA, 12, .inl fP))] [(w, .inl (cA, 12, .inl g)), (aQ, .inr (0, [.ref aS, .int u_3.2])), (aS, .inl (cA, 12, .inl u_3.1))] [(cA, .int)] [(cA, .int)] [0, 2, 3, 4] [1, 5, 6] [0] := ⟨rfl, rfl, rfl, rfl, by decide, rfl⟩
        refine ki hX_6 hP hD hS hA (kRunV (q := (RX1, TX1, 10)) (As := [.int (nI i), .int (g i), .int (midF fw n)]) (rest := []) F (c_X1_stepFrom l D cA h0 n rg st aV aW aR aP aK aL aQ fW fR fP i (g i) (midF fw n) hn (by omega) H.size) (cwV 3 hts gX1_goRound_X1_stepFrom rfl rfl rfl (by decide +kernel) ⟨Nat.le_of_ble_eq_true rfl, Nat.le_of_ble_eq_true rfl⟩) hK hP hD hX_6 0 rfl rfl rfl hl.1 rfl (Nat.le_of_ble_eq_true rfl) dX1_goRound_28 ⟨Nat.le_of_ble_eq_true rfl, Nat.le_of_ble_eq_true rfl⟩) (fun r_7 u_8 H locs hw_9 hP hD hS => ?_)
        have hw_9 : r_7 = stepC (fW i) (fR i) (fP i) (g i) (midF fw n) := hw_9
        rw [hw_9]
        have hP : va_P D vwCl [(w, .inl (cA, 12, .inl g)), (aQ, .inr (0, [.ref aS, .int u_3.2])), (aS, .inl (cA, 12, .inl u_3.1)), (h0, .inr (1, [.int (nI n), .int rg, .int st, .ref aV, .ref aW, .ref aR, .ref aP, .ref aK, .ref aL, .ref aQ])), (aW, .inl (cA, 12, .inl fW)), (aR, .inl (cA, 12, .inl fR)), (aP, .inl (cA, 12, .inl fP))] H := hP
        have hD : va_D A [(w, .inl (cA, 12, .inl g)), (aQ, .inr (0, [.ref aS, .int u_3.2])), (aS, .inl (cA, 12, .inl u_3.1)), (h0, .inr (1, [.int (nI n), .int rg, .int st, .ref aV, .ref aW, .ref aR, .ref aP, .ref aK, .ref aL, .ref aQ])), (aW, .inl (cA, 12, .inl fW)), (aR, .inl (cA, 12, .inl fR)), (aP, .inl (cA, 12, .inl fP))] := hD
        refine lv_istore (lv' := [(5, .int (stepC (fW i) (fR i) (fP i) (g i) (midF fw n))), (4, .int (nI i)), (3, .int v), (2, .int (midF fw n)), (0, .ref h0), (1, .ref w)]) hx hb dX1_goRound_31 hl (by decide) rfl (fun ls hl => ?_)
        refine lv_iload hx hb dX1_goRound_33 (lv_at hl 0 rfl) ?_
        refine lv_aload_n hx hb dX1_goRound_35 rfl (lv_at hl 5 rfl) ?_
        refine lv_iload hx hb dX1_goRound_36 (lv_at hl 1 rfl) ?_
        refine a_ld (k := i) hx hb hK hP 0 0 rfl rfl (by omega) (Nat.le_of_ble_eq_true rfl) dX1_goRound_38 ?_
        refine lv_icmp_eq (tgt := 61) hx hb dX1_goRound_39 (by decide) (fun c_39 => ?_) (fun c_39 => ?_)
        · skip
          refine lv_iinc (v := nI (i + 1)) (lv' := [(4, .int (nI (i + 1))), (5, .int (stepC (fW i) (fR i) (fP i) (g i) (midF fw n))), (3, .int v), (2, .int (midF fw n)), (0, .ref h0), (1, .ref w)]) hx hb dX1_goRound_61 hl (k := 1) rfl (nI_1 _) (by decide) rfl (fun ls hl => ?_)
          refine lv_goto (tgt := 11) hx hb dX1_goRound_64 (by decide) ?_
          exact ih11 (i + 1) v g (by omega) (by omega) (turns_stay hT (Or.inl c_39)) _ _ (hP.sub [3, 0, 4, 5, 6, 1, 2] rfl) (hD.sub [3, 0, 4, 5, 6, 1, 2] (by decide) rfl) hS ls (lv_sub hl [0, 2, 3, 4, 5] rfl)
        · skip
          refine lv_aload_n hx hb dX1_goRound_42 rfl (lv_at hl 4 rfl) ?_
          refine lv_aload_n hx hb dX1_goRound_43 rfl (lv_at hl 5 rfl) ?_
          refine lv_iload hx hb dX1_goRound_44 (lv_at hl 0 rfl) ?_
          have hX_10 : Cut D A [(w, .inl (cA, 12, .inl g)), (aQ, .inr (0, [.ref aS, .int u_3.2])), (aS, .inl (cA, 12, .inl u_3.1)), (h0, .inr (1, [.int (nI n), .int rg, .int st, .ref aV, .ref aW, .ref aR, .ref aP, .ref aK, .ref aL, .ref aQ])), (aW, .inl (cA, 12, .inl fW)), (aR, .inl (cA, 12, .inl fR)), (aP, .inl (cA, 12, .inl fP))] [(h0, .inr (1, [.int (nI n), .int rg, .int st, .ref aV, .ref aW, .ref aR, .ref aP, .ref aK, .ref aL, .ref aQ])), (w, .inl (cA, 12, .inl g))] [(aQ, .inr (0, [.ref aS, .int u_3.2])), (aS, .inl (cA, 12, .inl u_3.1)), (aW, .inl (cA, 12, .inl fW)), (aR, .inl (cA, 12, .inl fR)), (aP, .inl (cA, 12, .inl fP))] [(cA, .int)] [(cA, .int)] [3, 0] [1, 2, 4, 5, 6] [0] := ⟨rfl, rfl, rfl, rfl, by decide, rfl⟩
          refine ki hX_10 hP hD hS hA (kRunV (q := (RX1, TX1, 10)) (As := [.ref w, .int (stepC (fW i) (fR i) (fP i) (g i) (midF fw n))]) (rest := []) F (c_X1_hasRoom l D cA h0 n rg st aV aW aR aP aK aL aQ w g (stepC (fW i) (fR i) (fP i) (g i) (midF fw n)) hn H.size) (cwV 2 hts gX1_goRound_X1_hasRoom rfl rfl rfl (by decide +kernel) ⟨Nat.le_of_ble_eq_true rfl, Nat.le_of_ble_eq_true rfl⟩) hK hP hD hX_10 3 rfl rfl rfl hl.1 rfl (Nat.le_of_ble_eq_true rfl) dX1_goRound_46 ⟨Nat.le_of_ble_eq_true rfl, Nat.le_of_ble_eq_true rfl⟩) (fun r_11 u_12 H locs hw_13 hP hD hS => ?_)
          have hw_13 : r_11 = bP (crowd g (stepC (fW i) (fR i) (fP i) (g i) (midF fw n)) n < st) := hw_13
          rw [hw_13]
          have hP : va_P D vwCl [(aQ, .inr (0, [.ref aS, .int u_3.2])), (aS, .inl (cA, 12, .inl u_3.1)), (aW, .inl (cA, 12, .inl fW)), (aR, .inl (cA, 12, .inl fR)), (aP, .inl (cA, 12, .inl fP)), (h0, .inr (1, [.int (nI n), .int rg, .int st, .ref aV, .ref aW, .ref aR, .ref aP, .ref aK, .ref aL, .ref aQ])), (w, .inl (cA, 12, .inl g))] H := hP
          have hD : va_D A [(aQ, .inr (0, [.ref aS, .int u_3.2])), (aS, .inl (cA, 12, .inl u_3.1)), (aW, .inl (cA, 12, .inl fW)), (aR, .inl (cA, 12, .inl fR)), (aP, .inl (cA, 12, .inl fP)), (h0, .inr (1, [.int (nI n), .int rg, .int st, .ref aV, .ref aW, .ref aR, .ref aP, .ref aK, .ref aL, .ref aQ])), (w, .inl (cA, 12, .inl g))] := hD
          refine lv_if_eq (tgt := 61) hx hb dX1_goRound_49 (by decide) (fun c_49 => ?_) (fun c_49 => ?_)
          · skip
            refine lv_iinc (v := nI (i + 1)) (lv' := [(4, .int (nI (i + 1))), (5, .int (stepC (fW i) (fR i) (fP i) (g i) (midF fw n))), (3, .int v), (2, .int (midF fw n)), (0, .ref h0), (1, .ref w)]) hx hb dX1_goRound_61 hl (k := 1) rfl (nI_1 _) (by decide) rfl (fun ls hl => ?_)
            refine lv_goto (tgt := 11) hx hb dX1_goRound_64 (by decide) ?_
            exact ih11 (i + 1) v g (by omega) (by omega) (turns_stay hT (Or.inr (bP_eq c_49))) _ _ (hP.sub [5, 6, 2, 3, 4, 0, 1] rfl) (hD.sub [5, 6, 2, 3, 4, 0, 1] (by decide) rfl) hS ls (lv_sub hl [0, 2, 3, 4, 5] rfl)
          · skip
            refine lv_aload_n hx hb dX1_goRound_52 rfl (lv_at hl 5 rfl) ?_
            refine lv_iload hx hb dX1_goRound_53 (lv_at hl 1 rfl) ?_
            refine lv_iload hx hb dX1_goRound_55 (lv_at hl 0 rfl) ?_
            refine a_st (k := i) hx hb hK hP hD hS 6 0 rfl rfl (by omega) (Nat.le_of_ble_eq_true rfl) dX1_goRound_57 (fun H locs hP hD hS => ?_)
            have hP : va_P D vwCl [(aQ, .inr (0, [.ref aS, .int u_3.2])), (aS, .inl (cA, 12, .inl u_3.1)), (aW, .inl (cA, 12, .inl fW)), (aR, .inl (cA, 12, .inl fR)), (aP, .inl (cA, 12, .inl fP)), (h0, .inr (1, [.int (nI n), .int rg, .int st, .ref aV, .ref aW, .ref aR, .ref aP, .ref aK, .ref aL, .ref aQ])), (w, .inl (cA, 12, .inl (upd g i (stepC (fW i) (fR i) (fP i) (g i) (midF fw n)))))] H := hP
            have hD : va_D A [(aQ, .inr (0, [.ref aS, .int u_3.2])), (aS, .inl (cA, 12, .inl u_3.1)), (aW, .inl (cA, 12, .inl fW)), (aR, .inl (cA, 12, .inl fR)), (aP, .inl (cA, 12, .inl fP)), (h0, .inr (1, [.int (nI n), .int rg, .int st, .ref aV, .ref aW, .ref aR, .ref aP, .ref aK, .ref aL, .ref aQ])), (w, .inl (cA, 12, .inl (upd g i (stepC (fW i) (fR i) (fP i) (g i) (midF fw n)))))] := hD
            refine lv_iinc (v := (v + 1)) (lv' := [(3, .int (v + 1)), (5, .int (stepC (fW i) (fR i) (fP i) (g i) (midF fw n))), (4, .int (nI i)), (2, .int (midF fw n)), (0, .ref h0), (1, .ref w)]) hx hb dX1_goRound_58 hl (k := 2) rfl rfl (by decide) rfl (fun ls hl => ?_)
            refine lv_iinc (v := nI (i + 1)) (lv' := [(4, .int (nI (i + 1))), (3, .int (v + 1)), (5, .int (stepC (fW i) (fR i) (fP i) (g i) (midF fw n))), (2, .int (midF fw n)), (0, .ref h0), (1, .ref w)]) hx hb dX1_goRound_61 hl (k := 2) rfl (nI_1 _) (by decide) rfl (fun ls hl => ?_)
            refine lv_goto (tgt := 11) hx hb dX1_goRound_64 (by decide) ?_
            exact ih11 (i + 1) (v + 1) (upd g i (stepC (fW i) (fR i) (fP i) (g i) (midF fw n))) (by omega) (by omega) (turns_go hT c_39 (bP_ne c_49)) _ _ (hP.sub [5, 6, 2, 3, 4, 0, 1] rfl) (hD.sub [5, 6, 2, 3, 4, 0, 1] (by decide) rfl) hS ls (lv_sub hl [0, 1, 3, 4, 5] rfl)
  exact loop11 (n + 1) 0 0 fw (by omega) (Nat.zero_le _) rfl _ _ (hP.sub [3, 4, 0, 1, 2, 5, 6] rfl) (hD.sub [3, 4, 0, 1, 2, 5, 6] (by decide) rfl) hS ls (lv_sub hl [0, 1, 2, 3, 4] rfl)
set_option maxHeartbeats 4000000 in
set_option maxRecDepth 100000 in
theorem c_X1_goRounds (l : Launch) (D : va_G) (cA : ClassId) (h0 : Nat) (n : Nat) (rg : Int32) (st : Int32) (aV : Nat) (aW : Nat) (aR : Nat) (aP : Nat) (aK : Nat) (aL : Nat) (aQ : Nat) (w : Nat) (fw : Nat → Int32) (fW : Nat → Int32) (fR : Nat → Int32) (fP : Nat → Int32) (aS : Nat) (lv : Int32) (fS : Nat → Int32) (rd : Nat) (hn : n ≤ 12) (hrd : rd ≤ 50) (sz : Nat) : Met l yX1_goRounds wsX1_goRounds ({ frames := 5, cells := 0, slots := 0, locals := 124 } : Room) (va_Pc [.ref h0, .ref w, .int (nI rd)] (Wd D [(cA, .int)] [(h0, .inr (1, [.int (nI n), .int rg, .int st, .ref aV, .ref aW, .ref aR, .ref aP, .ref aK, .ref aL, .ref aQ])), (w, .inl (cA, 12, .inl fw)), (aW, .inl (cA, 12, .inl fW)), (aR, .inl (cA, 12, .inl fR)), (aP, .inl (cA, 12, .inl fP)), (aQ, .inr (0, [.ref aS, .int lv])), (aS, .inl (cA, 12, .inl fS))] sz)) (va_Qi (fun (r : Int32) (u : (Nat → Int32) × Int32) => r = (rnds fW fR fP n st fw rd).2) (fun (u : (Nat → Int32) × Int32) t => We D [(cA, .int)] [(h0, .inr (1, [.int (nI n), .int rg, .int st, .ref aV, .ref aW, .ref aR, .ref aP, .ref aK, .ref aL, .ref aQ])), (w, .inl (cA, 12, .inl ((rnds fW fR fP n st fw rd).1))), (aW, .inl (cA, 12, .inl fW)), (aR, .inl (cA, 12, .inl fR)), (aP, .inl (cA, 12, .inl fP)), (aQ, .inr (0, [.ref aS, .int u.2])), (aS, .inl (cA, 12, .inl u.1))] (va_A [(h0, .inr (1, [.int (nI n), .int rg, .int st, .ref aV, .ref aW, .ref aR, .ref aP, .ref aK, .ref aL, .ref aQ])), (w, .inl (cA, 12, .inl fw)), (aW, .inl (cA, 12, .inl fW)), (aR, .inl (cA, 12, .inl fR)), (aP, .inl (cA, 12, .inl fP)), (aQ, .inr (0, [.ref aS, .int lv])), (aS, .inl (cA, 12, .inl fS))] sz) t) (va_A [(h0, .inr (1, [.int (nI n), .int rg, .int st, .ref aV, .ref aW, .ref aR, .ref aP, .ref aK, .ref aL, .ref aQ])), (w, .inl (cA, 12, .inl fw)), (aW, .inl (cA, 12, .inl fW)), (aR, .inl (cA, 12, .inl fR)), (aP, .inl (cA, 12, .inl fP)), (aQ, .inr (0, [.ref aS, .int lv])), (aS, .inl (cA, 12, .inl fS))] sz)) 0 0 (va_A [(h0, .inr (1, [.int (nI n), .int rg, .int st, .ref aV, .ref aW, .ref aR, .ref aP, .ref aK, .ref aL, .ref aQ])), (w, .inl (cA, 12, .inl fw)), (aW, .inl (cA, 12, .inl fW)), (aR, .inl (cA, 12, .inl fR)), (aP, .inl (cA, 12, .inl fP)), (aQ, .inr (0, [.ref aS, .int lv])), (aS, .inl (cA, 12, .inl fS))] sz) := by
  refine mk_met [.ref h0, .ref w, .int (nI rd)] (fun A => va_Qi (fun (r : Int32) (u : (Nat → Int32) × Int32) => r = (rnds fW fR fP n st fw rd).2) (fun (u : (Nat → Int32) × Int32) t => We D [(cA, .int)] [(h0, .inr (1, [.int (nI n), .int rg, .int st, .ref aV, .ref aW, .ref aR, .ref aP, .ref aK, .ref aL, .ref aQ])), (w, .inl (cA, 12, .inl ((rnds fW fR fP n st fw rd).1))), (aW, .inl (cA, 12, .inl fW)), (aR, .inl (cA, 12, .inl fR)), (aP, .inl (cA, 12, .inl fP)), (aQ, .inr (0, [.ref aS, .int u.2])), (aS, .inl (cA, 12, .inl u.1))] A t) A) (by decide) rfl (Nat.le_of_ble_eq_true rfl) ?_
  intro p e s m args below meth c A ls F hr hlocks hname hP hK hD hA hl
  have hx := F.1
  have hb := F.2.1
  have hml := F.2.2.1
  have hown := F.2.2.2.1
  have hts := F.2.2.2.2
  have hS : va_S A s.heap s.heap [] := va_S.rf
  have hl : lv_has ls 5 [(0, .ref h0), (1, .ref w), (2, .int (nI rd))] := hl
  refine absQ (fun Q hQ => ?_)
  refine lv_iconst (v := 0) hx hb dX1_goRounds_0 (by decide) ?_
  refine lv_istore_n (lv' := [(3, .int 0), (0, .ref h0), (1, .ref w), (2, .int (nI rd))]) hx hb dX1_goRounds_1 rfl hl (by decide) rfl (fun ls hl => ?_)
  refine lv_iconst (v := 0) hx hb dX1_goRounds_2 (by decide) ?_
  refine lv_istore (lv' := [(4, .int 0), (3, .int 0), (0, .ref h0), (1, .ref w), (2, .int (nI rd))]) hx hb dX1_goRounds_3 hl (by decide) rfl (fun ls hl => ?_)
  have loop5 : ∀ (k : Nat) (i : Nat) (v : Int32) (g : Nat → Int32) (lw : Int32) (gS : Nat → Int32), (rd < i + k) → (i ≤ rd) → ((g, v) = rnds fW fR fP n st fw i) →  ∀ (H : Heap) (locs : List Loc), va_P D vwCl [(h0, .inr (1, [.int (nI n), .int rg, .int st, .ref aV, .ref aW, .ref aR, .ref aP, .ref aK, .ref aL, .ref aQ])), (w, .inl (cA, 12, .inl g)), (aW, .inl (cA, 12, .inl fW)), (aR, .inl (cA, 12, .inl fR)), (aP, .inl (cA, 12, .inl fP)), (aQ, .inr (0, [.ref aS, .int lw])), (aS, .inl (cA, 12, .inl gS))] H → va_D A [(h0, .inr (1, [.int (nI n), .int rg, .int st, .ref aV, .ref aW, .ref aR, .ref aP, .ref aK, .ref aL, .ref aQ])), (w, .inl (cA, 12, .inl g)), (aW, .inl (cA, 12, .inl fW)), (aR, .inl (cA, 12, .inl fR)), (aP, .inl (cA, 12, .inl fP)), (aQ, .inr (0, [.ref aS, .int lw])), (aS, .inl (cA, 12, .inl gS))] → va_S A s.heap H locs → ∀ ls : Array Slot, lv_has ls 5 [(4, .int (nI i)), (3, .int v), (0, .ref h0), (1, .ref w), (2, .int (nI rd))] → W p l e ({ frames := 5, cells := 0, slots := 0, locals := 124 } : Room) s m args below meth c H locs 0 0 Q (F0 m 5 ls []) := by
    intro k
    induction k with
    | zero =>
      intro i v g lw gS hk hi hT
      exact absurd hk (by omega)
    | succ k ih5 =>
      intro i v g lw gS hk hi hT H locs hP hD hS ls hl
      refine lv_iload hx hb dX1_goRounds_5 (lv_at hl 0 rfl) ?_
      refine lv_iload_n hx hb dX1_goRounds_7 rfl (lv_at hl 4 rfl) ?_
      refine lv_icmp_ge (tgt := 25) hx hb dX1_goRounds_8 (by decide) (fun c_8 => ?_) (fun c_8 => ?_)
      · skip
        have g_8 : rd ≤ i := nf_ge_t (by omega) (by omega) c_8
        refine lv_iload_n hx hb dX1_goRounds_25 rfl (lv_at hl 1 rfl) ?_
        rw [show i = rd by omega] at hT
        have eq_1 : g = ((rnds fW fR fP n st fw rd).1) := congrArg Prod.fst hT
        rw [eq_1] at hP hD
        have hP : va_P D vwCl [(h0, .inr (1, [.int (nI n), .int rg, .int st, .ref aV, .ref aW, .ref aR, .ref aP, .ref aK, .ref aL, .ref aQ])), (w, .inl (cA, 12, .inl ((rnds fW fR fP n st fw rd).1))), (aW, .inl (cA, 12, .inl fW)), (aR, .inl (cA, 12, .inl fR)), (aP, .inl (cA, 12, .inl fP)), (aQ, .inr (0, [.ref aS, .int lw])), (aS, .inl (cA, 12, .inl gS))] H := hP
        have hD : va_D A [(h0, .inr (1, [.int (nI n), .int rg, .int st, .ref aV, .ref aW, .ref aR, .ref aP, .ref aK, .ref aL, .ref aQ])), (w, .inl (cA, 12, .inl ((rnds fW fR fP n st fw rd).1))), (aW, .inl (cA, 12, .inl fW)), (aR, .inl (cA, 12, .inl fR)), (aP, .inl (cA, 12, .inl fP)), (aQ, .inr (0, [.ref aS, .int lw])), (aS, .inl (cA, 12, .inl gS))] := hD
        refine useQ hQ ?_
        exact e_i (v := v) F hr hlocks hK hP hD hS [0, 1, 2, 3, 4, 5, 6] [0] (gS, lw) (congrArg Prod.snd hT) rfl rfl rfl (Nat.le_of_ble_eq_true rfl) (Nat.le_of_ble_eq_true rfl) dX1_goRounds_26
      · skip
        have g_8 : i < rd := nf_ge_f (by omega) (by omega) c_8
        refine lv_iload_n hx hb dX1_goRounds_11 rfl (lv_at hl 1 rfl) ?_
        refine lv_aload_n hx hb dX1_goRounds_12 rfl (lv_at hl 2 rfl) ?_
        refine lv_aload_n hx hb dX1_goRounds_13 rfl (lv_at hl 3 rfl) ?_
        have hX_2 : Cut D A [(h0, .inr (1, [.int (nI n), .int rg, .int st, .ref aV, .ref aW, .ref aR, .ref aP, .ref aK, .ref aL, .ref aQ])), (w, .inl (cA, 12, .inl g)), (aW, .inl (cA, 12, .inl fW)), (aR, .inl (cA, 12, .inl fR)), (aP, .inl (cA, 12, .inl fP)), (aQ, .inr (0, [.ref aS, .int lw])), (aS, .inl (cA, 12, .inl gS))] [(h0, .inr (1, [.int (nI n), .int rg, .int st, .ref aV, .ref aW, .ref aR, .ref aP, .ref aK, .ref aL, .ref aQ])), (w, .inl (cA, 12, .inl g)), (aW, .inl (cA, 12, .inl fW)), (aR, .inl (cA, 12, .inl fR)), (aP, .inl (cA, 12, .inl fP)), (aQ, .inr (0, [.ref aS, .int lw])), (aS, .inl (cA, 12, .inl gS))] [] [(cA, .int)] [(cA, .int)] [0, 1, 2, 3, 4, 5, 6] [] [0] := ⟨rfl, rfl, rfl, rfl, by decide, rfl⟩
        refine ki hX_2 hP hD hS hA (kRunV (q := (RX1, TX1, 10)) (As := [.ref w]) (rest := [.int v]) F (c_X1_goRound l D cA h0 n rg st aV aW aR aP aK aL aQ w g fW fR fP aS lw gS hn H.size) (cwV 1 hts gX1_goRounds_X1_goRound rfl rfl rfl (by decide +kernel) ⟨Nat.le_of_ble_eq_true rfl, Nat.le_of_ble_eq_true rfl⟩) hK hP hD hX_2 0 rfl rfl rfl hl.1 rfl (Nat.le_of_ble_eq_true rfl) dX1_goRounds_14 ⟨Nat.le_of_ble_eq_true rfl, Nat.le_of_ble_eq_true rfl⟩) (fun r_3 u_4 H locs hw_5 hP hD hS => ?_)
        have hw_5 : r_3 = rndM fW fR fP n st g := hw_5
        rw [hw_5]
        have hP : va_P D vwCl [(h0, .inr (1, [.int (nI n), .int rg, .int st, .ref aV, .ref aW, .ref aR, .ref aP, .ref aK, .ref aL, .ref aQ])), (w, .inl (cA, 12, .inl (rndF fW fR fP n st g))), (aW, .inl (cA, 12, .inl fW)), (aR, .inl (cA, 12, .inl fR)), (aP, .inl (cA, 12, .inl fP)), (aQ, .inr (0, [.ref aS, .int u_4.2])), (aS, .inl (cA, 12, .inl u_4.1))] H := hP
        have hD : va_D A [(h0, .inr (1, [.int (nI n), .int rg, .int st, .ref aV, .ref aW, .ref aR, .ref aP, .ref aK, .ref aL, .ref aQ])), (w, .inl (cA, 12, .inl (rndF fW fR fP n st g))), (aW, .inl (cA, 12, .inl fW)), (aR, .inl (cA, 12, .inl fR)), (aP, .inl (cA, 12, .inl fP)), (aQ, .inr (0, [.ref aS, .int u_4.2])), (aS, .inl (cA, 12, .inl u_4.1))] := hD
        refine lv_iadd hx hb dX1_goRounds_17 ?_
        refine lv_istore_n (lv' := [(3, .int (v + (rndM fW fR fP n st g))), (4, .int (nI i)), (0, .ref h0), (1, .ref w), (2, .int (nI rd))]) hx hb dX1_goRounds_18 rfl hl (by decide) rfl (fun ls hl => ?_)
        refine lv_iinc (v := nI (i + 1)) (lv' := [(4, .int (nI (i + 1))), (3, .int (v + (rndM fW fR fP n st g))), (0, .ref h0), (1, .ref w), (2, .int (nI rd))]) hx hb dX1_goRounds_19 hl (k := 1) rfl (nI_1 _) (by decide) rfl (fun ls hl => ?_)
        refine lv_goto (tgt := 5) hx hb dX1_goRounds_22 (by decide) ?_
        exact ih5 (i + 1) (v + (rndM fW fR fP n st g)) (rndF fW fR fP n st g) u_4.2 u_4.1 (by omega) (by omega) (by rw [rnds_s, ← hT]) _ _ (hP.sub [0, 1, 2, 3, 4, 5, 6] rfl) (hD.sub [0, 1, 2, 3, 4, 5, 6] (by decide) rfl) hS ls (lv_sub hl [0, 1, 2, 3, 4] rfl)
  exact loop5 (rd + 1) 0 0 fw lv fS (by omega) (Nat.zero_le _) rfl _ _ (hP.sub [0, 1, 2, 3, 4, 5, 6] rfl) (hD.sub [0, 1, 2, 3, 4, 5, 6] (by decide) rfl) hS ls (lv_sub hl [0, 1, 2, 3, 4] rfl)
