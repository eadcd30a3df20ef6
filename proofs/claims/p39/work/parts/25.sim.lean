theorem uX2_X2_add : ∀ w ∈ u_ws RX2 TX2 3, w ∈ wsX2_add := (fun _ h => List.mem_cons_of_mem _ (List.mem_append_right _ h))
set_option maxHeartbeats 4000000 in
set_option maxRecDepth 100000 in
theorem c_X2_add (l : Launch) (hl0 : l.stackTraces = false) (D : va_G) (cA : ClassId) (cR : ClassId) (sa : Nat) (rg : Int32) (st : Int32) (sd : Nat) (n : Nat) (ad : Nat → Nat) (fV : Nat → Int32) (fW : Nat → Int32) (fR : Nat → Int32) (fP : Nat → Int32) (fK : Nat → Int32) (q : Nat) (v0 : Int32) (w0 : Int32) (r0 : Int32) (p0 : Int32) (k0 : Int32) (hn : n ≤ 12) (sz : Nat) : Met l yX2_add wsX2_add ({ frames := 0, cells := 1, slots := 13, locals := 0 } : Room) (va_Pc [.ref sa, .ref q] (Wx D [(cA, .int), (cR, .array .int)] ([(sa, .inr (2, [.int rg, .int st, .ref sd])), (sd, .inl (cR, n, .inr (.inr (.inr (.inr (refsF n ad)))))), (q, .inl (cA, 5, .inl (row5 v0 w0 r0 p0 k0)))] ++ rowsC cA n ad fV fW fR fP fK) sz)) (va_Qv (fun (u : Nat) => True) (fun (u : Nat) t => We D [(cA, .int), (cR, .array .int)] ([(sa, .inr (2, [.int rg, .int st, .ref u])), (u, .inl (cR, (n + 1), .inr (.inr (.inr (.inr (refsF (n + 1) (va_up ad n q)))))))] ++ rowsC cA (n + 1) (va_up ad n q) (upd fV n v0) (upd fW n w0) (upd fR n r0) (upd fP n p0) (upd fK n k0)) (va_A ([(sa, .inr (2, [.int rg, .int st, .ref sd])), (sd, .inl (cR, n, .inr (.inr (.inr (.inr (refsF n ad)))))), (q, .inl (cA, 5, .inl (row5 v0 w0 r0 p0 k0)))] ++ rowsC cA n ad fV fW fR fP fK) sz) t) (va_A ([(sa, .inr (2, [.int rg, .int st, .ref sd])), (sd, .inl (cR, n, .inr (.inr (.inr (.inr (refsF n ad)))))), (q, .inl (cA, 5, .inl (row5 v0 w0 r0 p0 k0)))] ++ rowsC cA n ad fV fW fR fP fK) sz)) 1 13 (va_A ([(sa, .inr (2, [.int rg, .int st, .ref sd])), (sd, .inl (cR, n, .inr (.inr (.inr (.inr (refsF n ad)))))), (q, .inl (cA, 5, .inl (row5 v0 w0 r0 p0 k0)))] ++ rowsC cA n ad fV fW fR fP fK) sz) := by
  refine mk_z (y := yX2_add) (ws := wsX2_add) (tys := [(cA, .int), (cR, .array .int)]) (wc := ([(sa, .inr (2, [.int rg, .int st, .ref sd])), (sd, .inl (cR, n, .inr (.inr (.inr (.inr (refsF n ad)))))), (q, .inl (cA, 5, .inl (row5 v0 w0 r0 p0 k0)))] ++ rowsC cA n ad fV fW fR fP fK)) (sz := sz) (mc := 1) (ms := 13) (cc := cX2_add) (maxL := 4) (ret := none) [.ref sa, .ref q] (fun A => va_Qv (fun (u : Nat) => True) (fun (u : Nat) t => We D [(cA, .int), (cR, .array .int)] ([(sa, .inr (2, [.int rg, .int st, .ref u])), (u, .inl (cR, (n + 1), .inr (.inr (.inr (.inr (refsF (n + 1) (va_up ad n q)))))))] ++ rowsC cA (n + 1) (va_up ad n q) (upd fV n v0) (upd fW n w0) (upd fR n r0) (upd fP n p0) (upd fK n k0)) A t) A) (by decide) rfl (Nat.le_of_ble_eq_true rfl) ?_
  intro p e s m args below meth c A ls F hr hlocks hname hP hK hD hXE hA hl
  have hx := F.1
  have hb := F.2.1
  have hml := F.2.2.1
  have hown := F.2.2.2.1
  have hts := F.2.2.2.2
  have hS : va_S A s.heap s.heap [] := va_S.rf
  have hNa := qNa_of hXE
  have hCl := qCl_of hXE
  have hNe := qNe_of hXE
  have hl : lv_has ls 4 [(0, .ref sa), (1, .ref q)] := hl
  refine absQ (fun Q hQ => ?_)
  refine lv_aload_n hx hb dX2_add_0 rfl (lv_at hl 0 rfl) ?_
  refine va_get (D := D) (ci := 2) (v := .ref sd) (C := RX2) (T := TX2) (N := 3) hx hb hts uX2_X2_add hown hK hP 0 rfl rfl 2 (by decide) (hts (.fieldLink RX2 15 "RopeChoicesLaw$Sim" "delegates" "[[I") (List.mem_of_getElem? (i := 1) rfl)) (fun _ h9 => h9) rfl dX2_add_1 ?_
  refine va_alen (v := nI n) hx hb hK hP 1 1 rfl rfl rfl dX2_add_4 ?_
  refine lv_iconst (v := 1) hx hb dX2_add_5 (by decide) ?_
  refine lv_iadd hx hb dX2_add_6 ?_
  refine topi (nI (n + 1)) (nI_1 _) ?_
  refine q_new hx hb hown (hts (.classLink RX2 13 "[I") (List.mem_of_getElem? (i := 2) rfl)) hNa hK hP hD hS hA 1 rfl (N' := n + 1) (nI_pos (by omega)) (nI_clamp (by omega)) (by omega) (Nat.le_of_ble_eq_true rfl) (show 0 + (n + 1) ≤ 13 by omega) dX2_add_7 (fun q7 H hP hD hS => ?_)
  have hP := va_P.swap hP
  have hD := va_D.swap hD
  have hP : va_P D vwCl ([(sa, .inr (2, [.int rg, .int st, .ref sd])), (sd, .inl (cR, n, .inr (.inr (.inr (.inr (refsF n ad)))))), (q, .inl (cA, 5, .inl (row5 v0 w0 r0 p0 k0))), (q7, .inl (cR, (n + 1), .inr (.inr (.inr (.inr (fun _ => none))))))] ++ rowsC cA n ad fV fW fR fP fK) H := hP
  have hD : va_D A ([(sa, .inr (2, [.int rg, .int st, .ref sd])), (sd, .inl (cR, n, .inr (.inr (.inr (.inr (refsF n ad)))))), (q, .inl (cA, 5, .inl (row5 v0 w0 r0 p0 k0))), (q7, .inl (cR, (n + 1), .inr (.inr (.inr (.inr (fun _ => none))))))] ++ rowsC cA n ad fV fW fR fP fK) := hD
  refine lv_astore_n (lv' := [(2, .ref q7), (0, .ref sa), (1, .ref q)]) hx hb dX2_add_10 rfl hl (by decide) rfl (fun ls hl => ?_)
  have eq_1 : (fun _ => none : Nat → Option Nat) = (refsF 0 ad) := refsF_0 _
  rw [eq_1] at hP hD
  have hP : va_P D vwCl ([(sa, .inr (2, [.int rg, .int st, .ref sd])), (sd, .inl (cR, n, .inr (.inr (.inr (.inr (refsF n ad)))))), (q, .inl (cA, 5, .inl (row5 v0 w0 r0 p0 k0))), (q7, .inl (cR, (n + 1), .inr (.inr (.inr (.inr (refsF 0 ad))))))] ++ rowsC cA n ad fV fW fR fP fK) H := hP
  have hD : va_D A ([(sa, .inr (2, [.int rg, .int st, .ref sd])), (sd, .inl (cR, n, .inr (.inr (.inr (.inr (refsF n ad)))))), (q, .inl (cA, 5, .inl (row5 v0 w0 r0 p0 k0))), (q7, .inl (cR, (n + 1), .inr (.inr (.inr (.inr (refsF 0 ad))))))] ++ rowsC cA n ad fV fW fR fP fK) := hD
  refine lv_iconst (v := 0) hx hb dX2_add_11 (by decide) ?_
  refine lv_istore_n (lv' := [(3, .int 0), (2, .ref q7), (0, .ref sa), (1, .ref q)]) hx hb dX2_add_12 rfl hl (by decide) rfl (fun ls hl => ?_)
  have loop13 : ∀ (k : Nat) (i : Nat), (n < i + k) → (i ≤ n) →  ∀ (H : Heap) (locs : List Loc), va_P D vwCl ([(sa, .inr (2, [.int rg, .int st, .ref sd])), (sd, .inl (cR, n, .inr (.inr (.inr (.inr (refsF n ad)))))), (q, .inl (cA, 5, .inl (row5 v0 w0 r0 p0 k0))), (q7, .inl (cR, (n + 1), .inr (.inr (.inr (.inr (refsF i ad))))))] ++ rowsC cA n ad fV fW fR fP fK) H → va_D A ([(sa, .inr (2, [.int rg, .int st, .ref sd])), (sd, .inl (cR, n, .inr (.inr (.inr (.inr (refsF n ad)))))), (q, .inl (cA, 5, .inl (row5 v0 w0 r0 p0 k0))), (q7, .inl (cR, (n + 1), .inr (.inr (.inr (.inr (refsF i ad))))))] ++ rowsC cA n ad fV fW fR fP fK) → va_S A s.heap H locs → ∀ ls : Array Slot, lv_has ls 4 [(3, .int (nI i)), (2, .ref q7), (0, .ref sa), (1, .ref q)] → W p l e ({ frames := 0, cells := 1, slots := 13, locals := 0 } : Room) s m args below meth c H locs 1 (0 + (n + 1)) Q (F0 m 13 ls []) := by
    intro k
    induction k with
    | zero =>
      intro i hk hi
      exact absurd hk (by omega)
    | succ k ih13 =>
      intro i hk hi H locs hP hD hS ls hl
      refine lv_iload_n hx hb dX2_add_13 rfl (lv_at hl 0 rfl) ?_
      refine lv_aload_n hx hb dX2_add_14 rfl (lv_at hl 2 rfl) ?_
      refine va_get (D := D) (ci := 2) (v := .ref sd) (C := RX2) (T := TX2) (N := 3) hx hb hts uX2_X2_add hown hK hP 0 rfl rfl 2 (by decide) (hts (.fieldLink RX2 15 "RopeChoicesLaw$Sim" "delegates" "[[I") (List.mem_of_getElem? (i := 1) rfl)) (fun _ h9 => h9) rfl dX2_add_15 ?_
      refine va_alen (v := nI n) hx hb hK hP 1 1 rfl rfl rfl dX2_add_18 ?_
      refine lv_icmp_ge (tgt := 37) hx hb dX2_add_19 (by decide) (fun c_19 => ?_) (fun c_19 => ?_)
      · skip
        have g_19 : n ≤ i := nf_ge_t (by omega) (by omega) c_19
        rw [show i = n by omega] at hP hD
        have hP : va_P D vwCl ([(sa, .inr (2, [.int rg, .int st, .ref sd])), (sd, .inl (cR, n, .inr (.inr (.inr (.inr (refsF n ad)))))), (q, .inl (cA, 5, .inl (row5 v0 w0 r0 p0 k0))), (q7, .inl (cR, (n + 1), .inr (.inr (.inr (.inr (refsF n ad))))))] ++ rowsC cA n ad fV fW fR fP fK) H := hP
        have hD : va_D A ([(sa, .inr (2, [.int rg, .int st, .ref sd])), (sd, .inl (cR, n, .inr (.inr (.inr (.inr (refsF n ad)))))), (q, .inl (cA, 5, .inl (row5 v0 w0 r0 p0 k0))), (q7, .inl (cR, (n + 1), .inr (.inr (.inr (.inr (refsF n ad))))))] ++ rowsC cA n ad fV fW fR fP fK) := hD
        refine lv_aload_n hx hb dX2_add_37 rfl (lv_at hl 1 rfl) ?_
        refine lv_aload_n hx hb dX2_add_38 rfl (lv_at hl 2 rfl) ?_
        refine va_get (D := D) (ci := 2) (v := .ref sd) (C := RX2) (T := TX2) (N := 3) hx hb hts uX2_X2_add hown hK hP 0 rfl rfl 2 (by decide) (hts (.fieldLink RX2 15 "RopeChoicesLaw$Sim" "delegates" "[[I") (List.mem_of_getElem? (i := 1) rfl)) (fun _ h9 => h9) rfl dX2_add_39 ?_
        refine va_alen (v := nI n) hx hb hK hP 1 1 rfl rfl rfl dX2_add_42 ?_
        refine lv_aload_n hx hb dX2_add_43 rfl (lv_at hl 3 rfl) ?_
        refine q_st hx hb hNa hK hP hD hS 3 1 0 2 (k := n) rfl rfl rfl rfl (by omega) (by omega) dX2_add_44 (fun H locs hP hD hS => ?_)
        have hP : va_P D vwCl ([(sa, .inr (2, [.int rg, .int st, .ref sd])), (sd, .inl (cR, n, .inr (.inr (.inr (.inr (refsF n ad)))))), (q, .inl (cA, 5, .inl (row5 v0 w0 r0 p0 k0))), (q7, .inl (cR, (n + 1), .inr (.inr (.inr (.inr (va_up (refsF n ad) n (some q)))))))] ++ rowsC cA n ad fV fW fR fP fK) H := hP
        have hD : va_D A ([(sa, .inr (2, [.int rg, .int st, .ref sd])), (sd, .inl (cR, n, .inr (.inr (.inr (.inr (refsF n ad)))))), (q, .inl (cA, 5, .inl (row5 v0 w0 r0 p0 k0))), (q7, .inl (cR, (n + 1), .inr (.inr (.inr (.inr (va_up (refsF n ad) n (some q)))))))] ++ rowsC cA n ad fV fW fR fP fK) := hD
        have eq_2 : (va_up (refsF n ad) n (some q)) = (refsF (n + 1) (va_up ad n q)) := refsF_s
        rw [eq_2] at hP hD
        have hP : va_P D vwCl ([(sa, .inr (2, [.int rg, .int st, .ref sd])), (sd, .inl (cR, n, .inr (.inr (.inr (.inr (refsF n ad)))))), (q, .inl (cA, 5, .inl (row5 v0 w0 r0 p0 k0))), (q7, .inl (cR, (n + 1), .inr (.inr (.inr (.inr (refsF (n + 1) (va_up ad n q)))))))] ++ rowsC cA n ad fV fW fR fP fK) H := hP
        have hD : va_D A ([(sa, .inr (2, [.int rg, .int st, .ref sd])), (sd, .inl (cR, n, .inr (.inr (.inr (.inr (refsF n ad)))))), (q, .inl (cA, 5, .inl (row5 v0 w0 r0 p0 k0))), (q7, .inl (cR, (n + 1), .inr (.inr (.inr (.inr (refsF (n + 1) (va_up ad n q)))))))] ++ rowsC cA n ad fV fW fR fP fK) := hD
        refine lv_aload_n hx hb dX2_add_45 rfl (lv_at hl 2 rfl) ?_
        refine lv_aload_n hx hb dX2_add_46 rfl (lv_at hl 1 rfl) ?_
        refine va_put (D := D) (ci := 2) (v := .ref q7) (ty := (.array (.array .int))) (C := RX2) (T := TX2) (N := 3) hx hb hts uX2_X2_add tyX2 tyX2_ok nmX2 hown hK hP hD hS 0 rfl rfl 2 (by decide) (hts (.fieldLink RX2 15 "RopeChoicesLaw$Sim" "delegates" "[[I") (List.mem_of_getElem? (i := 1) rfl)) (fun _ h9 => h9) rfl (by decide +kernel) rfl rfl (Nat.le_of_ble_eq_true rfl) dX2_add_47 (fun H locs hP hD hS => ?_)
        have hP : va_P D vwCl ([(sa, .inr (2, [.int rg, .int st, .ref q7])), (sd, .inl (cR, n, .inr (.inr (.inr (.inr (refsF n ad)))))), (q, .inl (cA, 5, .inl (row5 v0 w0 r0 p0 k0))), (q7, .inl (cR, (n + 1), .inr (.inr (.inr (.inr (refsF (n + 1) (va_up ad n q)))))))] ++ rowsC cA n ad fV fW fR fP fK) H := hP
        have hD : va_D A ([(sa, .inr (2, [.int rg, .int st, .ref q7])), (sd, .inl (cR, n, .inr (.inr (.inr (.inr (refsF n ad)))))), (q, .inl (cA, 5, .inl (row5 v0 w0 r0 p0 k0))), (q7, .inl (cR, (n + 1), .inr (.inr (.inr (.inr (refsF (n + 1) (va_up ad n q)))))))] ++ rowsC cA n ad fV fW fR fP fK) := hD
        have hP := va_P.swap (show va_P D vwCl (([(sa, .inr (2, [.int rg, .int st, .ref q7])), (q7, .inl (cR, (n + 1), .inr (.inr (.inr (.inr (refsF (n + 1) (va_up ad n q)))))))] ++ [(q, .inl (cA, 5, .inl (row5 v0 w0 r0 p0 k0)))]) ++ rowsC cA n ad fV fW fR fP fK) H from hP.part [0, 3, 2] rfl)
        have hD := va_D.swap (show va_D A (([(sa, .inr (2, [.int rg, .int st, .ref q7])), (q7, .inl (cR, (n + 1), .inr (.inr (.inr (.inr (refsF (n + 1) (va_up ad n q)))))))] ++ [(q, .inl (cA, 5, .inl (row5 v0 w0 r0 p0 k0)))]) ++ rowsC cA n ad fV fW fR fP fK) from hD.part [0, 3, 2] (by decide) rfl)
        rw [List.append_assoc, rowsC_push] at hP hD
        have hP : va_P D vwCl ([(sa, .inr (2, [.int rg, .int st, .ref q7])), (q7, .inl (cR, (n + 1), .inr (.inr (.inr (.inr (refsF (n + 1) (va_up ad n q)))))))] ++ rowsC cA (n + 1) (va_up ad n q) (upd fV n v0) (upd fW n w0) (upd fR n r0) (upd fP n p0) (upd fK n k0)) H := hP
        have hD : va_D A ([(sa, .inr (2, [.int rg, .int st, .ref q7])), (q7, .inl (cR, (n + 1), .inr (.inr (.inr (.inr (refsF (n + 1) (va_up ad n q)))))))] ++ rowsC cA (n + 1) (va_up ad n q) (upd fV n v0) (upd fW n w0) (upd fR n r0) (upd fP n p0) (upd fK n k0)) := hD
        refine useQ hQ ?_
        exact q_v F hr hlocks hK hP hD hS [0, 1] [0, 1] q7 trivial rfl rfl rfl rfl (Nat.le_of_ble_eq_true rfl) (show (0 + (n + 1)) ≤ 13 by omega) dX2_add_50
      · skip
        have g_19 : i < n := nf_ge_f (by omega) (by omega) c_19
        refine lv_aload_n hx hb dX2_add_22 rfl (lv_at hl 1 rfl) ?_
        refine lv_iload_n hx hb dX2_add_23 rfl (lv_at hl 0 rfl) ?_
        refine lv_aload_n hx hb dX2_add_24 rfl (lv_at hl 2 rfl) ?_
        refine va_get (D := D) (ci := 2) (v := .ref sd) (C := RX2) (T := TX2) (N := 3) hx hb hts uX2_X2_add hown hK hP 0 rfl rfl 2 (by decide) (hts (.fieldLink RX2 15 "RopeChoicesLaw$Sim" "delegates" "[[I") (List.mem_of_getElem? (i := 1) rfl)) (fun _ h9 => h9) rfl dX2_add_25 ?_
        refine lv_iload_n hx hb dX2_add_28 rfl (lv_at hl 0 rfl) ?_
        refine q_ld hx hb hK hP 1 1 rfl rfl (by omega) (by omega) (refsF_at (by omega)) dX2_add_29 ?_
        refine q_st hx hb hNa hK hP hD hS 3 1 0 (4 + i) (k := i) rfl rfl rfl (tl_at (X := [(sa, .inr (2, [.int rg, .int st, .ref sd])), (sd, .inl (cR, n, .inr (.inr (.inr (.inr (refsF n ad)))))), (q, .inl (cA, 5, .inl (row5 v0 w0 r0 p0 k0))), (q7, .inl (cR, (n + 1), .inr (.inr (.inr (.inr (refsF i ad))))))]) (rowsC_at (by omega))) (by omega) (by omega) dX2_add_30 (fun H locs hP hD hS => ?_)
        have hP : va_P D vwCl ([(sa, .inr (2, [.int rg, .int st, .ref sd])), (sd, .inl (cR, n, .inr (.inr (.inr (.inr (refsF n ad)))))), (q, .inl (cA, 5, .inl (row5 v0 w0 r0 p0 k0))), (q7, .inl (cR, (n + 1), .inr (.inr (.inr (.inr (va_up (refsF i ad) i (some (ad i))))))))] ++ rowsC cA n ad fV fW fR fP fK) H := hP
        have hD : va_D A ([(sa, .inr (2, [.int rg, .int st, .ref sd])), (sd, .inl (cR, n, .inr (.inr (.inr (.inr (refsF n ad)))))), (q, .inl (cA, 5, .inl (row5 v0 w0 r0 p0 k0))), (q7, .inl (cR, (n + 1), .inr (.inr (.inr (.inr (va_up (refsF i ad) i (some (ad i))))))))] ++ rowsC cA n ad fV fW fR fP fK) := hD
        have eq_3 : (va_up (refsF i ad) i (some (ad i))) = (refsF (i + 1) ad) := refsF_e rfl
        rw [eq_3] at hP hD
        have hP : va_P D vwCl ([(sa, .inr (2, [.int rg, .int st, .ref sd])), (sd, .inl (cR, n, .inr (.inr (.inr (.inr (refsF n ad)))))), (q, .inl (cA, 5, .inl (row5 v0 w0 r0 p0 k0))), (q7, .inl (cR, (n + 1), .inr (.inr (.inr (.inr (refsF (i + 1) ad))))))] ++ rowsC cA n ad fV fW fR fP fK) H := hP
        have hD : va_D A ([(sa, .inr (2, [.int rg, .int st, .ref sd])), (sd, .inl (cR, n, .inr (.inr (.inr (.inr (refsF n ad)))))), (q, .inl (cA, 5, .inl (row5 v0 w0 r0 p0 k0))), (q7, .inl (cR, (n + 1), .inr (.inr (.inr (.inr (refsF (i + 1) ad))))))] ++ rowsC cA n ad fV fW fR fP fK) := hD
        refine lv_iinc (v := nI (i + 1)) (lv' := [(3, .int (nI (i + 1))), (2, .ref q7), (0, .ref sa), (1, .ref q)]) hx hb dX2_add_31 hl (k := 0) rfl (nI_1 _) (by decide) rfl (fun ls hl => ?_)
        refine lv_goto (tgt := 13) hx hb dX2_add_34 (by decide) ?_
        exact ih13 (i + 1) (by omega) (by omega) _ _ (hP.part [0, 1, 2, 3] rfl) (hD.part [0, 1, 2, 3] (by decide) rfl) hS ls (lv_sub hl [0, 1, 2, 3] rfl)
  exact loop13 (n + 1) 0 (by omega) (Nat.zero_le _) _ _ (hP.part [0, 1, 2, 3] rfl) (hD.part [0, 1, 2, 3] (by decide) rfl) hS ls (lv_sub hl [0, 1, 2, 3] rfl)
theorem uX2_X2_remove : ∀ w ∈ u_ws RX2 TX2 3, w ∈ wsX2_remove := (fun _ h => List.mem_cons_of_mem _ (List.mem_append_right _ h))
set_option maxHeartbeats 4000000 in
set_option maxRecDepth 100000 in
theorem c_X2_remove (l : Launch) (hl0 : l.stackTraces = false) (D : va_G) (cA : ClassId) (cR : ClassId) (sa : Nat) (rg : Int32) (st : Int32) (sd : Nat) (n : Nat) (ad : Nat → Nat) (fV : Nat → Int32) (fW : Nat → Int32) (fR : Nat → Int32) (fP : Nat → Int32) (fK : Nat → Int32) (j : Nat) (hn : n ≤ 12) (hj : j < n) (sz : Nat) : Met l yX2_remove wsX2_remove ({ frames := 0, cells := 1, slots := 12, locals := 0 } : Room) (va_Pc [.ref sa, .int (nI j)] (Wx D [(cA, .int), (cR, .array .int)] ([(sa, .inr (2, [.int rg, .int st, .ref sd])), (sd, .inl (cR, n, .inr (.inr (.inr (.inr (refsF n ad))))))] ++ rowsC cA n ad fV fW fR fP fK) sz)) (va_Qv (fun (u : Nat) => True) (fun (u : Nat) t => We D [(cA, .int), (cR, .array .int)] ([(sa, .inr (2, [.int rg, .int st, .ref u])), (u, .inl (cR, (n - 1), .inr (.inr (.inr (.inr (refsF (n - 1) (adC ad j)))))))] ++ rowsC cA (n - 1) (adC ad j) (closeF fV j n) (closeF fW j n) (closeF fR j n) (closeF fP j n) (closeF fK j n)) (va_A ([(sa, .inr (2, [.int rg, .int st, .ref sd])), (sd, .inl (cR, n, .inr (.inr (.inr (.inr (refsF n ad))))))] ++ rowsC cA n ad fV fW fR fP fK) sz) t) (va_A ([(sa, .inr (2, [.int rg, .int st, .ref sd])), (sd, .inl (cR, n, .inr (.inr (.inr (.inr (refsF n ad))))))] ++ rowsC cA n ad fV fW fR fP fK) sz)) 1 12 (va_A ([(sa, .inr (2, [.int rg, .int st, .ref sd])), (sd, .inl (cR, n, .inr (.inr (.inr (.inr (refsF n ad))))))] ++ rowsC cA n ad fV fW fR fP fK) sz) := by
  refine mk_z (y := yX2_remove) (ws := wsX2_remove) (tys := [(cA, .int), (cR, .array .int)]) (wc := ([(sa, .inr (2, [.int rg, .int st, .ref sd])), (sd, .inl (cR, n, .inr (.inr (.inr (.inr (refsF n ad))))))] ++ rowsC cA n ad fV fW fR fP fK)) (sz := sz) (mc := 1) (ms := 12) (cc := cX2_remove) (maxL := 4) (ret := none) [.ref sa, .int (nI j)] (fun A => va_Qv (fun (u : Nat) => True) (fun (u : Nat) t => We D [(cA, .int), (cR, .array .int)] ([(sa, .inr (2, [.int rg, .int st, .ref u])), (u, .inl (cR, (n - 1), .inr (.inr (.inr (.inr (refsF (n - 1) (adC ad j)))))))] ++ rowsC cA (n - 1) (adC ad j) (closeF fV j n) (closeF fW j n) (closeF fR j n) (closeF fP j n) (closeF fK j n)) A t) A) (by decide) rfl (Nat.le_of_ble_eq_true rfl) ?_
  intro p e s m args below meth c A ls F hr hlocks hname hP hK hD hXE hA hl
  have hx := F.1
  have hb := F.2.1
  have hml := F.2.2.1
  have hown := F.2.2.2.1
  have hts := F.2.2.2.2
  have hS : va_S A s.heap s.heap [] := va_S.rf
  have hNa := qNa_of hXE
  have hCl := qCl_of hXE
  have hNe := qNe_of hXE
  have hl : lv_has ls 4 [(0, .ref sa), (1, .int (nI j))] := hl
  refine absQ (fun Q hQ => ?_)
  refine lv_aload_n hx hb dX2_remove_0 rfl (lv_at hl 0 rfl) ?_
  refine va_get (D := D) (ci := 2) (v := .ref sd) (C := RX2) (T := TX2) (N := 3) hx hb hts uX2_X2_remove hown hK hP 0 rfl rfl 2 (by decide) (hts (.fieldLink RX2 15 "RopeChoicesLaw$Sim" "delegates" "[[I") (List.mem_of_getElem? (i := 1) rfl)) (fun _ h9 => h9) rfl dX2_remove_1 ?_
  refine va_alen (v := nI n) hx hb hK hP 1 1 rfl rfl rfl dX2_remove_4 ?_
  refine lv_iconst (v := 1) hx hb dX2_remove_5 (by decide) ?_
  refine lv_isub hx hb dX2_remove_6 ?_
  refine topi (nI (n - 1)) (nI_m1 (by omega)) ?_
  refine q_new hx hb hown (hts (.classLink RX2 13 "[I") (List.mem_of_getElem? (i := 2) rfl)) hNa hK hP hD hS hA 1 rfl (N' := n - 1) (nI_pos (by omega)) (nI_clamp (by omega)) (by omega) (Nat.le_of_ble_eq_true rfl) (show 0 + (n - 1) ≤ 12 by omega) dX2_remove_7 (fun q7 H hP hD hS => ?_)
  have hP := va_P.swap hP
  have hD := va_D.swap hD
  have hP : va_P D vwCl ([(sa, .inr (2, [.int rg, .int st, .ref sd])), (sd, .inl (cR, n, .inr (.inr (.inr (.inr (refsF n ad)))))), (q7, .inl (cR, (n - 1), .inr (.inr (.inr (.inr (fun _ => none))))))] ++ rowsC cA n ad fV fW fR fP fK) H := hP
  have hD : va_D A ([(sa, .inr (2, [.int rg, .int st, .ref sd])), (sd, .inl (cR, n, .inr (.inr (.inr (.inr (refsF n ad)))))), (q7, .inl (cR, (n - 1), .inr (.inr (.inr (.inr (fun _ => none))))))] ++ rowsC cA n ad fV fW fR fP fK) := hD
  refine lv_astore_n (lv' := [(2, .ref q7), (0, .ref sa), (1, .int (nI j))]) hx hb dX2_remove_10 rfl hl (by decide) rfl (fun ls hl => ?_)
  have eq_1 : (fun _ => none : Nat → Option Nat) = (refsF 0 (adC ad j)) := refsF_0 _
  rw [eq_1] at hP hD
  have hP : va_P D vwCl ([(sa, .inr (2, [.int rg, .int st, .ref sd])), (sd, .inl (cR, n, .inr (.inr (.inr (.inr (refsF n ad)))))), (q7, .inl (cR, (n - 1), .inr (.inr (.inr (.inr (refsF 0 (adC ad j)))))))] ++ rowsC cA n ad fV fW fR fP fK) H := hP
  have hD : va_D A ([(sa, .inr (2, [.int rg, .int st, .ref sd])), (sd, .inl (cR, n, .inr (.inr (.inr (.inr (refsF n ad)))))), (q7, .inl (cR, (n - 1), .inr (.inr (.inr (.inr (refsF 0 (adC ad j)))))))] ++ rowsC cA n ad fV fW fR fP fK) := hD
  refine lv_iconst (v := 0) hx hb dX2_remove_11 (by decide) ?_
  refine lv_istore_n (lv' := [(3, .int 0), (2, .ref q7), (0, .ref sa), (1, .int (nI j))]) hx hb dX2_remove_12 rfl hl (by decide) rfl (fun ls hl => ?_)
  have loop13 : ∀ (k : Nat) (i : Nat), (n < i + k) → (i ≤ n - 1) →  ∀ (H : Heap) (locs : List Loc), va_P D vwCl ([(sa, .inr (2, [.int rg, .int st, .ref sd])), (sd, .inl (cR, n, .inr (.inr (.inr (.inr (refsF n ad)))))), (q7, .inl (cR, (n - 1), .inr (.inr (.inr (.inr (refsF i (adC ad j)))))))] ++ rowsC cA n ad fV fW fR fP fK) H → va_D A ([(sa, .inr (2, [.int rg, .int st, .ref sd])), (sd, .inl (cR, n, .inr (.inr (.inr (.inr (refsF n ad)))))), (q7, .inl (cR, (n - 1), .inr (.inr (.inr (.inr (refsF i (adC ad j)))))))] ++ rowsC cA n ad fV fW fR fP fK) → va_S A s.heap H locs → ∀ ls : Array Slot, lv_has ls 4 [(3, .int (nI i)), (2, .ref q7), (0, .ref sa), (1, .int (nI j))] → W p l e ({ frames := 0, cells := 1, slots := 12, locals := 0 } : Room) s m args below meth c H locs 1 (0 + (n - 1)) Q (F0 m 13 ls []) := by
    intro k
    induction k with
    | zero =>
      intro i hk hi
      exact absurd hk (by omega)
    | succ k ih13 =>
      intro i hk hi H locs hP hD hS ls hl
      refine lv_iload_n hx hb dX2_remove_13 rfl (lv_at hl 0 rfl) ?_
      refine lv_aload_n hx hb dX2_remove_14 rfl (lv_at hl 1 rfl) ?_
      refine va_alen (v := nI (n - 1)) hx hb hK hP 2 1 rfl rfl rfl dX2_remove_15 ?_
      refine lv_icmp_ge (tgt := 45) hx hb dX2_remove_16 (by decide) (fun c_16 => ?_) (fun c_16 => ?_)
      · skip
        have g_16 : n - 1 ≤ i := nf_ge_t (by omega) (by omega) c_16
        rw [show i = n - 1 by omega] at hP hD
        have hP : va_P D vwCl ([(sa, .inr (2, [.int rg, .int st, .ref sd])), (sd, .inl (cR, n, .inr (.inr (.inr (.inr (refsF n ad)))))), (q7, .inl (cR, (n - 1), .inr (.inr (.inr (.inr (refsF (n - 1) (adC ad j)))))))] ++ rowsC cA n ad fV fW fR fP fK) H := hP
        have hD : va_D A ([(sa, .inr (2, [.int rg, .int st, .ref sd])), (sd, .inl (cR, n, .inr (.inr (.inr (.inr (refsF n ad)))))), (q7, .inl (cR, (n - 1), .inr (.inr (.inr (.inr (refsF (n - 1) (adC ad j)))))))] ++ rowsC cA n ad fV fW fR fP fK) := hD
        refine lv_aload_n hx hb dX2_remove_45 rfl (lv_at hl 2 rfl) ?_
        refine lv_aload_n hx hb dX2_remove_46 rfl (lv_at hl 1 rfl) ?_
        refine va_put (D := D) (ci := 2) (v := .ref q7) (ty := (.array (.array .int))) (C := RX2) (T := TX2) (N := 3) hx hb hts uX2_X2_remove tyX2 tyX2_ok nmX2 hown hK hP hD hS 0 rfl rfl 2 (by decide) (hts (.fieldLink RX2 15 "RopeChoicesLaw$Sim" "delegates" "[[I") (List.mem_of_getElem? (i := 1) rfl)) (fun _ h9 => h9) rfl (by decide +kernel) rfl rfl (Nat.le_of_ble_eq_true rfl) dX2_remove_47 (fun H locs hP hD hS => ?_)
        have hP : va_P D vwCl ([(sa, .inr (2, [.int rg, .int st, .ref q7])), (sd, .inl (cR, n, .inr (.inr (.inr (.inr (refsF n ad)))))), (q7, .inl (cR, (n - 1), .inr (.inr (.inr (.inr (refsF (n - 1) (adC ad j)))))))] ++ rowsC cA n ad fV fW fR fP fK) H := hP
        have hD : va_D A ([(sa, .inr (2, [.int rg, .int st, .ref q7])), (sd, .inl (cR, n, .inr (.inr (.inr (.inr (refsF n ad)))))), (q7, .inl (cR, (n - 1), .inr (.inr (.inr (.inr (refsF (n - 1) (adC ad j)))))))] ++ rowsC cA n ad fV fW fR fP fK) := hD
        have hP := rm_P hj (show va_P D vwCl ([(sa, .inr (2, [.int rg, .int st, .ref q7])), (q7, .inl (cR, (n - 1), .inr (.inr (.inr (.inr (refsF (n - 1) (adC ad j)))))))] ++ rowsC cA n ad fV fW fR fP fK) H from hP.part [0, 2] rfl)
        have hD := rm_D hj (show va_D A ([(sa, .inr (2, [.int rg, .int st, .ref q7])), (q7, .inl (cR, (n - 1), .inr (.inr (.inr (.inr (refsF (n - 1) (adC ad j)))))))] ++ rowsC cA n ad fV fW fR fP fK) from hD.part [0, 2] (by decide) rfl)
        have hP : va_P D vwCl ([(sa, .inr (2, [.int rg, .int st, .ref q7])), (q7, .inl (cR, (n - 1), .inr (.inr (.inr (.inr (refsF (n - 1) (adC ad j)))))))] ++ rowsC cA (n - 1) (adC ad j) (closeF fV j n) (closeF fW j n) (closeF fR j n) (closeF fP j n) (closeF fK j n)) H := hP
        have hD : va_D A ([(sa, .inr (2, [.int rg, .int st, .ref q7])), (q7, .inl (cR, (n - 1), .inr (.inr (.inr (.inr (refsF (n - 1) (adC ad j)))))))] ++ rowsC cA (n - 1) (adC ad j) (closeF fV j n) (closeF fW j n) (closeF fR j n) (closeF fP j n) (closeF fK j n)) := hD
        refine useQ hQ ?_
        exact q_v F hr hlocks hK hP hD hS [0, 1] [0, 1] q7 trivial rfl rfl rfl rfl (Nat.le_of_ble_eq_true rfl) (show (0 + (n - 1)) ≤ 12 by omega) dX2_remove_50
      · skip
        have g_16 : i < n - 1 := nf_ge_f (by omega) (by omega) c_16
        refine lv_aload_n hx hb dX2_remove_19 rfl (lv_at hl 1 rfl) ?_
        refine lv_iload_n hx hb dX2_remove_20 rfl (lv_at hl 0 rfl) ?_
        refine lv_aload_n hx hb dX2_remove_21 rfl (lv_at hl 2 rfl) ?_
        refine va_get (D := D) (ci := 2) (v := .ref sd) (C := RX2) (T := TX2) (N := 3) hx hb hts uX2_X2_remove hown hK hP 0 rfl rfl 2 (by decide) (hts (.fieldLink RX2 15 "RopeChoicesLaw$Sim" "delegates" "[[I") (List.mem_of_getElem? (i := 1) rfl)) (fun _ h9 => h9) rfl dX2_remove_22 ?_
        refine lv_iload_n hx hb dX2_remove_25 rfl (lv_at hl 0 rfl) ?_
        refine lv_iload_n hx hb dX2_remove_26 rfl (lv_at hl 3 rfl) ?_
        refine lv_icmp_ge (tgt := 34) hx hb dX2_remove_27 (by decide) (fun c_27 => ?_) (fun c_27 => ?_)
        · skip
          have g_27 : j ≤ i := nf_ge_t (by omega) (by omega) c_27
          refine lv_iload_n hx hb dX2_remove_34 rfl (lv_at hl 0 rfl) ?_
          refine lv_iconst (v := 1) hx hb dX2_remove_35 (by decide) ?_
          refine lv_iadd hx hb dX2_remove_36 ?_
          refine topi (nI (i + 1)) (nI_1 _) ?_
          refine q_ld hx hb hK hP 1 1 rfl rfl (by omega) (by omega) (refsF_at (by omega)) dX2_remove_37 ?_
          refine q_st hx hb hNa hK hP hD hS 2 1 0 (3 + (i + 1)) (k := i) rfl rfl rfl (tl_at (X := [(sa, .inr (2, [.int rg, .int st, .ref sd])), (sd, .inl (cR, n, .inr (.inr (.inr (.inr (refsF n ad)))))), (q7, .inl (cR, (n - 1), .inr (.inr (.inr (.inr (refsF i (adC ad j)))))))]) (rowsC_at (by omega))) (by omega) (by omega) dX2_remove_38 (fun H locs hP hD hS => ?_)
          have hP : va_P D vwCl ([(sa, .inr (2, [.int rg, .int st, .ref sd])), (sd, .inl (cR, n, .inr (.inr (.inr (.inr (refsF n ad)))))), (q7, .inl (cR, (n - 1), .inr (.inr (.inr (.inr (va_up (refsF i (adC ad j)) i (some (ad (i + 1)))))))))] ++ rowsC cA n ad fV fW fR fP fK) H := hP
          have hD : va_D A ([(sa, .inr (2, [.int rg, .int st, .ref sd])), (sd, .inl (cR, n, .inr (.inr (.inr (.inr (refsF n ad)))))), (q7, .inl (cR, (n - 1), .inr (.inr (.inr (.inr (va_up (refsF i (adC ad j)) i (some (ad (i + 1)))))))))] ++ rowsC cA n ad fV fW fR fP fK) := hD
          have eq_2 : (va_up (refsF i (adC ad j)) i (some (ad (i + 1)))) = (refsF (i + 1) (adC ad j)) := refsF_e (if_pos g_27)
          rw [eq_2] at hP hD
          have hP : va_P D vwCl ([(sa, .inr (2, [.int rg, .int st, .ref sd])), (sd, .inl (cR, n, .inr (.inr (.inr (.inr (refsF n ad)))))), (q7, .inl (cR, (n - 1), .inr (.inr (.inr (.inr (refsF (i + 1) (adC ad j)))))))] ++ rowsC cA n ad fV fW fR fP fK) H := hP
          have hD : va_D A ([(sa, .inr (2, [.int rg, .int st, .ref sd])), (sd, .inl (cR, n, .inr (.inr (.inr (.inr (refsF n ad)))))), (q7, .inl (cR, (n - 1), .inr (.inr (.inr (.inr (refsF (i + 1) (adC ad j)))))))] ++ rowsC cA n ad fV fW fR fP fK) := hD
          refine lv_iinc (v := nI (i + 1)) (lv' := [(3, .int (nI (i + 1))), (2, .ref q7), (0, .ref sa), (1, .int (nI j))]) hx hb dX2_remove_39 hl (k := 0) rfl (nI_1 _) (by decide) rfl (fun ls hl => ?_)
          refine lv_goto (tgt := 13) hx hb dX2_remove_42 (by decide) ?_
          exact ih13 (i + 1) (by omega) (by omega) _ _ (hP.part [0, 1, 2] rfl) (hD.part [0, 1, 2] (by decide) rfl) hS ls (lv_sub hl [0, 1, 2, 3] rfl)
        · skip
          have g_27 : i < j := nf_ge_f (by omega) (by omega) c_27
          refine lv_iload_n hx hb dX2_remove_30 rfl (lv_at hl 0 rfl) ?_
          refine lv_goto (tgt := 37) hx hb dX2_remove_31 (by decide) ?_
          refine q_ld hx hb hK hP 1 1 rfl rfl (by omega) (by omega) (refsF_at (by omega)) dX2_remove_37 ?_
          refine q_st hx hb hNa hK hP hD hS 2 1 0 (3 + i) (k := i) rfl rfl rfl (tl_at (X := [(sa, .inr (2, [.int rg, .int st, .ref sd])), (sd, .inl (cR, n, .inr (.inr (.inr (.inr (refsF n ad)))))), (q7, .inl (cR, (n - 1), .inr (.inr (.inr (.inr (refsF i (adC ad j)))))))]) (rowsC_at (by omega))) (by omega) (by omega) dX2_remove_38 (fun H locs hP hD hS => ?_)
          have hP : va_P D vwCl ([(sa, .inr (2, [.int rg, .int st, .ref sd])), (sd, .inl (cR, n, .inr (.inr (.inr (.inr (refsF n ad)))))), (q7, .inl (cR, (n - 1), .inr (.inr (.inr (.inr (va_up (refsF i (adC ad j)) i (some (ad i))))))))] ++ rowsC cA n ad fV fW fR fP fK) H := hP
          have hD : va_D A ([(sa, .inr (2, [.int rg, .int st, .ref sd])), (sd, .inl (cR, n, .inr (.inr (.inr (.inr (refsF n ad)))))), (q7, .inl (cR, (n - 1), .inr (.inr (.inr (.inr (va_up (refsF i (adC ad j)) i (some (ad i))))))))] ++ rowsC cA n ad fV fW fR fP fK) := hD
          have eq_3 : (va_up (refsF i (adC ad j)) i (some (ad i))) = (refsF (i + 1) (adC ad j)) := refsF_e (if_neg (by omega))
          rw [eq_3] at hP hD
          have hP : va_P D vwCl ([(sa, .inr (2, [.int rg, .int st, .ref sd])), (sd, .inl (cR, n, .inr (.inr (.inr (.inr (refsF n ad)))))), (q7, .inl (cR, (n - 1), .inr (.inr (.inr (.inr (refsF (i + 1) (adC ad j)))))))] ++ rowsC cA n ad fV fW fR fP fK) H := hP
          have hD : va_D A ([(sa, .inr (2, [.int rg, .int st, .ref sd])), (sd, .inl (cR, n, .inr (.inr (.inr (.inr (refsF n ad)))))), (q7, .inl (cR, (n - 1), .inr (.inr (.inr (.inr (refsF (i + 1) (adC ad j)))))))] ++ rowsC cA n ad fV fW fR fP fK) := hD
          refine lv_iinc (v := nI (i + 1)) (lv' := [(3, .int (nI (i + 1))), (2, .ref q7), (0, .ref sa), (1, .int (nI j))]) hx hb dX2_remove_39 hl (k := 0) rfl (nI_1 _) (by decide) rfl (fun ls hl => ?_)
          refine lv_goto (tgt := 13) hx hb dX2_remove_42 (by decide) ?_
          exact ih13 (i + 1) (by omega) (by omega) _ _ (hP.part [0, 1, 2] rfl) (hD.part [0, 1, 2] (by decide) rfl) hS ls (lv_sub hl [0, 1, 2, 3] rfl)
  exact loop13 (n + 1) 0 (by omega) (Nat.zero_le _) _ _ (hP.part [0, 1, 2] rfl) (hD.part [0, 1, 2] (by decide) rfl) hS ls (lv_sub hl [0, 1, 2, 3] rfl)
