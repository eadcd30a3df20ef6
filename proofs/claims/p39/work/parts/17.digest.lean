theorem uX1_X1_meanPlank : ∀ w ∈ u_ws RX1 TX1 10, w ∈ wsX1_meanPlank := (fun _ h => List.mem_cons_of_mem _ (List.mem_append_right _ h))
set_option maxHeartbeats 4000000 in
set_option maxRecDepth 100000 in
theorem c_X1_meanPlank (l : Launch) (D : va_G) (cA : ClassId) (h0 : Nat) (n : Nat) (rg : Int32) (st : Int32) (aV : Nat) (aW : Nat) (aR : Nat) (aP : Nat) (aK : Nat) (aL : Nat) (aQ : Nat) (fK : Nat → Int32) (hn : n ≤ 12) (hI : ∀ i, i < n → okD 41 (fK i)) (sz : Nat) : Met l yX1_meanPlank wsX1_meanPlank ({ frames := 0, cells := 0, slots := 0, locals := 0 } : Room) (va_Pc [.ref h0] (Wd D [(cA, .int)] [(h0, .inr (1, [.int (nI n), .int rg, .int st, .ref aV, .ref aW, .ref aR, .ref aP, .ref aK, .ref aL, .ref aQ])), (aK, .inl (cA, 12, .inl fK))] sz)) (va_Qd (fun (r : UInt64) (_ : Unit) => r = meanD fK n) (fun (_ : Unit) t => We D [(cA, .int)] [(h0, .inr (1, [.int (nI n), .int rg, .int st, .ref aV, .ref aW, .ref aR, .ref aP, .ref aK, .ref aL, .ref aQ])), (aK, .inl (cA, 12, .inl fK))] (va_A [(h0, .inr (1, [.int (nI n), .int rg, .int st, .ref aV, .ref aW, .ref aR, .ref aP, .ref aK, .ref aL, .ref aQ])), (aK, .inl (cA, 12, .inl fK))] sz) t) (va_A [(h0, .inr (1, [.int (nI n), .int rg, .int st, .ref aV, .ref aW, .ref aR, .ref aP, .ref aK, .ref aL, .ref aQ])), (aK, .inl (cA, 12, .inl fK))] sz)) 0 0 (va_A [(h0, .inr (1, [.int (nI n), .int rg, .int st, .ref aV, .ref aW, .ref aR, .ref aP, .ref aK, .ref aL, .ref aQ])), (aK, .inl (cA, 12, .inl fK))] sz) := by
  refine mk_met [.ref h0] (fun A => va_Qd (fun (r : UInt64) (_ : Unit) => r = meanD fK n) (fun (_ : Unit) t => We D [(cA, .int)] [(h0, .inr (1, [.int (nI n), .int rg, .int st, .ref aV, .ref aW, .ref aR, .ref aP, .ref aK, .ref aL, .ref aQ])), (aK, .inl (cA, 12, .inl fK))] A t) A) (by decide) rfl (Nat.le_of_ble_eq_true rfl) ?_
  intro p e s m args below meth c A ls F hr hlocks hname hP hK hD hA hl
  have hx := F.1
  have hb := F.2.1
  have hml := F.2.2.1
  have hown := F.2.2.2.1
  have hts := F.2.2.2.2
  have hS : va_S A s.heap s.heap [] := va_S.rf
  have hl : lv_has ls 3 [(0, .ref h0)] := hl
  refine absQ (fun Q hQ => ?_)
  refine lv_aload_n hx hb dX1_meanPlank_0 rfl (lv_at hl 0 rfl) ?_
  refine va_get (D := D) (ci := 1) (v := .int (nI n)) (C := RX1) (T := TX1) (N := 10) hx hb hts uX1_X1_meanPlank hown hK hP 0 rfl rfl 0 (by decide) (hts (.fieldLink RX1 7 "RopeChoices" "count" "I") (List.mem_of_getElem? (i := 1) rfl)) (fun _ h9 => h9) rfl dX1_meanPlank_1 ?_
  refine lv_if_ne (tgt := 9) hx hb dX1_meanPlank_4 (by decide) (fun c_4 => ?_) (fun c_4 => ?_)
  · skip
    have g_4 : n ≠ 0 := nf_ne_t (by omega) (by omega) c_4
    refine lv_iconst (v := 0) hx hb dX1_meanPlank_9 (by decide) ?_
    refine lv_istore_n (lv' := [(1, .int 0), (0, .ref h0)]) hx hb dX1_meanPlank_10 rfl hl (by decide) rfl (fun ls hl => ?_)
    refine lv_iconst (v := 0) hx hb dX1_meanPlank_11 (by decide) ?_
    refine lv_istore_n (lv' := [(2, .int 0), (1, .int 0), (0, .ref h0)]) hx hb dX1_meanPlank_12 rfl hl (by decide) rfl (fun ls hl => ?_)
    have loop13 : ∀ (k : Nat) (i : Nat) (v : Int32), (n < i + k) → (i ≤ n) → (v = sumF fK i) →  ∀ (H : Heap) (locs : List Loc), va_P D vwCl [(h0, .inr (1, [.int (nI n), .int rg, .int st, .ref aV, .ref aW, .ref aR, .ref aP, .ref aK, .ref aL, .ref aQ])), (aK, .inl (cA, 12, .inl fK))] H → va_D A [(h0, .inr (1, [.int (nI n), .int rg, .int st, .ref aV, .ref aW, .ref aR, .ref aP, .ref aK, .ref aL, .ref aQ])), (aK, .inl (cA, 12, .inl fK))] → va_S A s.heap H locs → ∀ ls : Array Slot, lv_has ls 3 [(2, .int (nI i)), (1, .int v), (0, .ref h0)] → W p l e ({ frames := 0, cells := 0, slots := 0, locals := 0 } : Room) s m args below meth c H locs 0 0 Q (F0 m 13 ls []) := by
      intro k
      induction k with
      | zero =>
        intro i v hk hi hv
        exact absurd hk (by omega)
      | succ k ih13 =>
        intro i v hk hi hv H locs hP hD hS ls hl
        refine lv_iload_n hx hb dX1_meanPlank_13 rfl (lv_at hl 0 rfl) ?_
        refine lv_aload_n hx hb dX1_meanPlank_14 rfl (lv_at hl 2 rfl) ?_
        refine va_get (D := D) (ci := 1) (v := .int (nI n)) (C := RX1) (T := TX1) (N := 10) hx hb hts uX1_X1_meanPlank hown hK hP 0 rfl rfl 0 (by decide) (hts (.fieldLink RX1 7 "RopeChoices" "count" "I") (List.mem_of_getElem? (i := 1) rfl)) (fun _ h9 => h9) rfl dX1_meanPlank_15 ?_
        refine lv_icmp_ge (tgt := 36) hx hb dX1_meanPlank_18 (by decide) (fun c_18 => ?_) (fun c_18 => ?_)
        · skip
          have g_18 : n ≤ i := nf_ge_t (by omega) (by omega) c_18
          rw [show i = n by omega] at hv
          refine lv_iload_n hx hb dX1_meanPlank_36 rfl (lv_at hl 1 rfl) ?_
          refine lv_i2d hx hb dX1_meanPlank_37 ?_
          refine lv_aload_n hx hb dX1_meanPlank_38 rfl (lv_at hl 2 rfl) ?_
          refine va_get (D := D) (ci := 1) (v := .int (nI n)) (C := RX1) (T := TX1) (N := 10) hx hb hts uX1_X1_meanPlank hown hK hP 0 rfl rfl 0 (by decide) (hts (.fieldLink RX1 7 "RopeChoices" "count" "I") (List.mem_of_getElem? (i := 1) rfl)) (fun _ h9 => h9) rfl dX1_meanPlank_39 ?_
          refine lv_i2d hx hb dX1_meanPlank_42 ?_
          refine lv_ddiv hx hb dX1_meanPlank_43 (by rw [hv]; exact mean_n hn g_4 hI) ?_
          refine useQ hQ ?_
          exact e_d (v := FP.ddiv (FP.i2d v) (FP.i2d (nI n))) F hr hlocks hK hP hD hS [0, 1] [0] () (by rw [hv]; exact mean_s g_4) rfl rfl rfl (Nat.le_of_ble_eq_true rfl) (Nat.le_of_ble_eq_true rfl) dX1_meanPlank_44
        · skip
          have g_18 : i < n := nf_ge_f (by omega) (by omega) c_18
          refine lv_iload_n hx hb dX1_meanPlank_21 rfl (lv_at hl 1 rfl) ?_
          refine lv_aload_n hx hb dX1_meanPlank_22 rfl (lv_at hl 2 rfl) ?_
          refine va_get (D := D) (ci := 1) (v := .ref aK) (C := RX1) (T := TX1) (N := 10) hx hb hts uX1_X1_meanPlank hown hK hP 0 rfl rfl 7 (by decide) (hts (.fieldLink RX1 32 "RopeChoices" "planks" "[I") (List.mem_of_getElem? (i := 2) rfl)) (fun _ h9 => h9) rfl dX1_meanPlank_23 ?_
          refine lv_iload_n hx hb dX1_meanPlank_26 rfl (lv_at hl 0 rfl) ?_
          refine a_ld (k := i) hx hb hK hP 1 0 rfl rfl (by omega) (Nat.le_of_ble_eq_true rfl) dX1_meanPlank_27 ?_
          refine lv_iadd hx hb dX1_meanPlank_28 ?_
          refine lv_istore_n (lv' := [(1, .int (v + (fK i))), (2, .int (nI i)), (0, .ref h0)]) hx hb dX1_meanPlank_29 rfl hl (by decide) rfl (fun ls hl => ?_)
          refine lv_iinc (v := nI (i + 1)) (lv' := [(2, .int (nI (i + 1))), (1, .int (v + (fK i))), (0, .ref h0)]) hx hb dX1_meanPlank_30 hl (k := 1) rfl (nI_1 _) (by decide) rfl (fun ls hl => ?_)
          refine lv_goto (tgt := 13) hx hb dX1_meanPlank_33 (by decide) ?_
          exact ih13 (i + 1) (v + (fK i)) (by omega) (by omega) (by rw [sumF_s, hv]) _ _ (hP.sub [0, 1] rfl) (hD.sub [0, 1] (by decide) rfl) hS ls (lv_sub hl [0, 1, 2] rfl)
    exact loop13 (n + 1) 0 0 (by omega) (Nat.zero_le _) rfl _ _ (hP.sub [0, 1] rfl) (hD.sub [0, 1] (by decide) rfl) hS ls (lv_sub hl [0, 1, 2] rfl)
  · skip
    have g_4 : n = 0 := nf_ne_f (by omega) (by omega) c_4
    refine lv_dconst0 hx hb dX1_meanPlank_7 ?_
    refine useQ hQ ?_
    exact e_d (v := FP.dconst0) F hr hlocks hK hP hD hS [0, 1] [0] () (mean_0 g_4) rfl rfl rfl (Nat.le_of_ble_eq_true rfl) (Nat.le_of_ble_eq_true rfl) dX1_meanPlank_8
