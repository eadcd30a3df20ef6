theorem uX2_X2_init : ∀ w ∈ u_ws RX2 TX2 3, w ∈ wsX2_init := (fun _ h => List.mem_cons_of_mem _ (List.mem_append_right _ h))
set_option maxHeartbeats 4000000 in
set_option maxRecDepth 100000 in
theorem c_X2_init (l : Launch) (hl0 : l.stackTraces = false) (D : va_G) (cA : ClassId) (cR : ClassId) (sa : Nat)  (sz : Nat) : Met l yX2_init wsX2_init ({ frames := 1, cells := 1, slots := 0, locals := 20 } : Room) (va_Pc [.ref sa] (Wx D [(cA, .int), (cR, .array .int)] [(sa, .inr (2, [.int 0, .int 0, .null]))] sz)) (va_Qv (fun (u : Nat) => True) (fun (u : Nat) t => We D [(cA, .int), (cR, .array .int)] [(sa, .inr (2, [.int 0, .int 12, .ref u])), (u, .inl (cR, 0, .inr (.inr (.inr (.inr (refsF 0 (fun _ => 0)))))))] (va_A [(sa, .inr (2, [.int 0, .int 0, .null]))] sz) t) (va_A [(sa, .inr (2, [.int 0, .int 0, .null]))] sz)) 1 0 (va_A [(sa, .inr (2, [.int 0, .int 0, .null]))] sz) := by
  refine mk_z (y := yX2_init) (ws := wsX2_init) (tys := [(cA, .int), (cR, .array .int)]) (wc := [(sa, .inr (2, [.int 0, .int 0, .null]))]) (sz := sz) (mc := 1) (ms := 0) (cc := cX2_init) (maxL := 1) (ret := none) [.ref sa] (fun A => va_Qv (fun (u : Nat) => True) (fun (u : Nat) t => We D [(cA, .int), (cR, .array .int)] [(sa, .inr (2, [.int 0, .int 12, .ref u])), (u, .inl (cR, 0, .inr (.inr (.inr (.inr (refsF 0 (fun _ => 0)))))))] A t) A) (by decide) rfl (Nat.le_of_ble_eq_true rfl) ?_
  intro p e s m args below meth c A ls F hr hlocks hname hP hK hD hXE hA hl
  have hx := F.1
  have hb := F.2.1
  have hml := F.2.2.1
  have hown := F.2.2.2.1
  have hts := F.2.2.2.2
  have hS : va_S A s.heap s.heap [] := va_S.rf
  have hNa := qNa_of hXE
  have hCl := qCl_of hXE
  have hNe := qNe_of hXE
  have hl : lv_has ls 1 [(0, .ref sa)] := hl
  refine absQ (fun Q hQ => ?_)
  refine lv_aload_n hx hb dX2_init_0 rfl (lv_at hl 0 rfl) ?_
  refine W.objInit hx hb hown (hts (.methodLink RX2 1 objectInit) (List.mem_of_getElem? (i := 1) rfl)) (hts (.instanceMethod objectInit) (List.mem_of_getElem? (i := 2) rfl)) (hts (.code objectInit ⟨#[0xb1]⟩ 1 none) (List.mem_of_getElem? (i := 3) rfl)) rfl (hl.1.trans hml.symm) rfl dX2_init_1 (Nat.le_of_ble_eq_true rfl) (Nat.le_of_ble_eq_true rfl) ?_
  refine W.eq (g2 := F0 m 4 ls []) rfl ?_
  refine lv_aload_n hx hb dX2_init_4 rfl (lv_at hl 0 rfl) ?_
  refine lv_bipush (v := 12) hx hb dX2_init_5 (by decide) ?_
  refine va_put (D := D) (ci := 2) (v := .int 12) (ty := .int) (C := RX2) (T := TX2) (N := 3) hx hb hts uX2_X2_init tyX2 tyX2_ok nmX2 hown hK hP hD hS 0 rfl rfl 1 (by decide) (hts (.fieldLink RX2 7 "RopeChoicesLaw$Sim" "strength" "I") (List.mem_of_getElem? (i := 4) rfl)) (fun _ h9 => h9) rfl (by decide +kernel) rfl rfl (Nat.le_of_ble_eq_true rfl) dX2_init_7 (fun H locs hP hD hS => ?_)
  have hP : va_P D vwCl [(sa, .inr (2, [.int 0, .int 12, .null]))] H := hP
  have hD : va_D A [(sa, .inr (2, [.int 0, .int 12, .null]))] := hD
  refine lv_aload_n hx hb dX2_init_10 rfl (lv_at hl 0 rfl) ?_
  refine lv_iconst (v := 0) hx hb dX2_init_11 (by decide) ?_
  refine q_new hx hb hown (hts (.classLink RX2 13 "[I") (List.mem_of_getElem? (i := 5) rfl)) hNa hK hP hD hS hA 1 rfl (N' := 0) (by decide) rfl (by omega) (Nat.le_of_ble_eq_true rfl) (Nat.le_of_ble_eq_true rfl) dX2_init_12 (fun q12 H hP hD hS => ?_)
  have hP : va_P D vwCl [(sa, .inr (2, [.int 0, .int 12, .null])), (q12, .inl (cR, 0, .inr (.inr (.inr (.inr (fun _ => none))))))] H := hP
  have hD : va_D A [(sa, .inr (2, [.int 0, .int 12, .null])), (q12, .inl (cR, 0, .inr (.inr (.inr (.inr (fun _ => none))))))] := hD
  refine va_put (D := D) (ci := 2) (v := .ref q12) (ty := (.array (.array .int))) (C := RX2) (T := TX2) (N := 3) hx hb hts uX2_X2_init tyX2 tyX2_ok nmX2 hown hK hP hD hS 0 rfl rfl 2 (by decide) (hts (.fieldLink RX2 15 "RopeChoicesLaw$Sim" "delegates" "[[I") (List.mem_of_getElem? (i := 6) rfl)) (fun _ h9 => h9) rfl (by decide +kernel) rfl rfl (Nat.le_of_ble_eq_true rfl) dX2_init_15 (fun H locs hP hD hS => ?_)
  have hP : va_P D vwCl [(sa, .inr (2, [.int 0, .int 12, .ref q12])), (q12, .inl (cR, 0, .inr (.inr (.inr (.inr (fun _ => none))))))] H := hP
  have hD : va_D A [(sa, .inr (2, [.int 0, .int 12, .ref q12])), (q12, .inl (cR, 0, .inr (.inr (.inr (.inr (fun _ => none))))))] := hD
  have eq_1 : (fun _ => none : Nat → Option Nat) = (refsF 0 (fun _ => 0)) := refsF_0 _
  rw [eq_1] at hP hD
  have hP : va_P D vwCl [(sa, .inr (2, [.int 0, .int 12, .ref q12])), (q12, .inl (cR, 0, .inr (.inr (.inr (.inr (refsF 0 (fun _ => 0)))))))] H := hP
  have hD : va_D A [(sa, .inr (2, [.int 0, .int 12, .ref q12])), (q12, .inl (cR, 0, .inr (.inr (.inr (.inr (refsF 0 (fun _ => 0)))))))] := hD
  refine useQ hQ ?_
  exact e_v F hr hlocks hK hP hD hS [0, 1] [0, 1] q12 trivial rfl rfl rfl (Nat.le_of_ble_eq_true rfl) (Nat.le_of_ble_eq_true rfl) dX2_init_18
theorem uX2_X2_on : ∀ w ∈ u_ws RX2 TX2 3, w ∈ wsX2_on := (fun _ h => List.mem_cons_of_mem _ (List.mem_append_right _ h))
set_option maxHeartbeats 4000000 in
set_option maxRecDepth 100000 in
theorem c_X2_on (l : Launch) (hl0 : l.stackTraces = false) (D : va_G) (cA : ClassId) (cR : ClassId) (sa : Nat) (rg : Int32) (st : Int32) (sd : Nat) (n : Nat) (ad : Nat → Nat) (fV : Nat → Int32) (fW : Nat → Int32) (fR : Nat → Int32) (fP : Nat → Int32) (fK : Nat → Int32) (x : Int32) (hn : n ≤ 12) (sz : Nat) : Met l yX2_on wsX2_on ({ frames := 0, cells := 0, slots := 0, locals := 0 } : Room) (va_Pc [.ref sa, .int x] (Wx D [(cA, .int), (cR, .array .int)] ([(sa, .inr (2, [.int rg, .int st, .ref sd])), (sd, .inl (cR, n, .inr (.inr (.inr (.inr (refsF n ad))))))] ++ rowsC cA n ad fV fW fR fP fK) sz)) (va_Qi (fun (r : Int32) (_ : Unit) => r = crowd fK x n) (fun (_ : Unit) t => We D [(cA, .int), (cR, .array .int)] ([(sa, .inr (2, [.int rg, .int st, .ref sd])), (sd, .inl (cR, n, .inr (.inr (.inr (.inr (refsF n ad))))))] ++ rowsC cA n ad fV fW fR fP fK) (va_A ([(sa, .inr (2, [.int rg, .int st, .ref sd])), (sd, .inl (cR, n, .inr (.inr (.inr (.inr (refsF n ad))))))] ++ rowsC cA n ad fV fW fR fP fK) sz) t) (va_A ([(sa, .inr (2, [.int rg, .int st, .ref sd])), (sd, .inl (cR, n, .inr (.inr (.inr (.inr (refsF n ad))))))] ++ rowsC cA n ad fV fW fR fP fK) sz)) 0 0 (va_A ([(sa, .inr (2, [.int rg, .int st, .ref sd])), (sd, .inl (cR, n, .inr (.inr (.inr (.inr (refsF n ad))))))] ++ rowsC cA n ad fV fW fR fP fK) sz) := by
  refine mk_z (y := yX2_on) (ws := wsX2_on) (tys := [(cA, .int), (cR, .array .int)]) (wc := ([(sa, .inr (2, [.int rg, .int st, .ref sd])), (sd, .inl (cR, n, .inr (.inr (.inr (.inr (refsF n ad))))))] ++ rowsC cA n ad fV fW fR fP fK)) (sz := sz) (mc := 0) (ms := 0) (cc := cX2_on) (maxL := 7) (ret := (some .int)) [.ref sa, .int x] (fun A => va_Qi (fun (r : Int32) (_ : Unit) => r = crowd fK x n) (fun (_ : Unit) t => We D [(cA, .int), (cR, .array .int)] ([(sa, .inr (2, [.int rg, .int st, .ref sd])), (sd, .inl (cR, n, .inr (.inr (.inr (.inr (refsF n ad))))))] ++ rowsC cA n ad fV fW fR fP fK) A t) A) (by decide) rfl (Nat.le_of_ble_eq_true rfl) ?_
  intro p e s m args below meth c A ls F hr hlocks hname hP hK hD hXE hA hl
  have hx := F.1
  have hb := F.2.1
  have hml := F.2.2.1
  have hown := F.2.2.2.1
  have hts := F.2.2.2.2
  have hS : va_S A s.heap s.heap [] := va_S.rf
  have hNa := qNa_of hXE
  have hCl := qCl_of hXE
  have hNe := qNe_of hXE
  have hl : lv_has ls 7 [(0, .ref sa), (1, .int x)] := hl
  refine absQ (fun Q hQ => ?_)
  refine lv_iconst (v := 0) hx hb dX2_on_0 (by decide) ?_
  refine lv_istore_n (lv' := [(2, .int 0), (0, .ref sa), (1, .int x)]) hx hb dX2_on_1 rfl hl (by decide) rfl (fun ls hl => ?_)
  refine lv_aload_n hx hb dX2_on_2 rfl (lv_at hl 1 rfl) ?_
  refine va_get (D := D) (ci := 2) (v := .ref sd) (C := RX2) (T := TX2) (N := 3) hx hb hts uX2_X2_on hown hK hP 0 rfl rfl 2 (by decide) (hts (.fieldLink RX2 15 "RopeChoicesLaw$Sim" "delegates" "[[I") (List.mem_of_getElem? (i := 1) rfl)) (fun _ h9 => h9) rfl dX2_on_3 ?_
  refine lv_astore_n (lv' := [(3, .ref sd), (2, .int 0), (0, .ref sa), (1, .int x)]) hx hb dX2_on_6 rfl hl (by decide) rfl (fun ls hl => ?_)
  refine lv_aload_n hx hb dX2_on_7 rfl (lv_at hl 0 rfl) ?_
  refine va_alen (v := nI n) hx hb hK hP 1 1 rfl rfl rfl dX2_on_8 ?_
  refine lv_istore (lv' := [(4, .int (nI n)), (3, .ref sd), (2, .int 0), (0, .ref sa), (1, .int x)]) hx hb dX2_on_9 hl (by decide) rfl (fun ls hl => ?_)
  refine lv_iconst (v := 0) hx hb dX2_on_11 (by decide) ?_
  refine lv_istore (lv' := [(5, .int 0), (4, .int (nI n)), (3, .ref sd), (2, .int 0), (0, .ref sa), (1, .int x)]) hx hb dX2_on_12 hl (by decide) rfl (fun ls hl => ?_)
  have loop14 : ∀ (k : Nat) (i : Nat) (v : Int32), (n < i + k) → (i ≤ n) → (v = crowd fK x i) →  ∀ (H : Heap) (locs : List Loc), va_P D vwCl ([(sa, .inr (2, [.int rg, .int st, .ref sd])), (sd, .inl (cR, n, .inr (.inr (.inr (.inr (refsF n ad))))))] ++ rowsC cA n ad fV fW fR fP fK) H → va_D A ([(sa, .inr (2, [.int rg, .int st, .ref sd])), (sd, .inl (cR, n, .inr (.inr (.inr (.inr (refsF n ad))))))] ++ rowsC cA n ad fV fW fR fP fK) → va_S A s.heap H locs → ∀ ls : Array Slot, lv_has ls 7 [(5, .int (nI i)), (4, .int (nI n)), (3, .ref sd), (2, .int v), (0, .ref sa), (1, .int x)] → W p l e ({ frames := 0, cells := 0, slots := 0, locals := 0 } : Room) s m args below meth c H locs 0 0 Q (F0 m 14 ls []) := by
    intro k
    induction k with
    | zero =>
      intro i v hk hi hv
      exact absurd hk (by omega)
    | succ k ih14 =>
      intro i v hk hi hv H locs hP hD hS ls hl
      refine lv_iload hx hb dX2_on_14 (lv_at hl 0 rfl) ?_
      refine lv_iload hx hb dX2_on_16 (lv_at hl 1 rfl) ?_
      refine lv_icmp_ge (tgt := 49) hx hb dX2_on_18 (by decide) (fun c_18 => ?_) (fun c_18 => ?_)
      · skip
        have g_18 : n ≤ i := nf_ge_t (by omega) (by omega) c_18
        refine lv_iload_n hx hb dX2_on_49 rfl (lv_at hl 3 rfl) ?_
        refine useQ hQ ?_
        exact q_i (v := v) F hr hlocks hK hP hD hS [0, 1] [0, 1] () (by rw [hv, show i = n by omega]) rfl rfl rfl rfl (Nat.le_of_ble_eq_true rfl) (Nat.le_of_ble_eq_true rfl) dX2_on_50
      · skip
        have g_18 : i < n := nf_ge_f (by omega) (by omega) c_18
        refine lv_aload_n hx hb dX2_on_21 rfl (lv_at hl 2 rfl) ?_
        refine lv_iload hx hb dX2_on_22 (lv_at hl 0 rfl) ?_
        refine q_ld hx hb hK hP 1 1 rfl rfl (by omega) (by omega) (refsF_at (by omega)) dX2_on_24 ?_
        refine lv_astore (lv' := [(6, .ref (ad i)), (5, .int (nI i)), (4, .int (nI n)), (3, .ref sd), (2, .int v), (0, .ref sa), (1, .int x)]) hx hb dX2_on_25 hl (by decide) rfl (fun ls hl => ?_)
        refine lv_iload_n hx hb dX2_on_27 rfl (lv_at hl 4 rfl) ?_
        refine lv_aload hx hb dX2_on_28 (lv_at hl 0 rfl) ?_
        refine lv_iconst (v := 4) hx hb dX2_on_30 (by decide) ?_
        refine r_ld hx hb hK hP 0 rfl (k := i) (by omega) 4 (by omega) (x := (fK i)) rfl dX2_on_31 ?_
        refine lv_iload_n hx hb dX2_on_32 rfl (lv_at hl 6 rfl) ?_
        refine lv_icmp_ne (tgt := 40) hx hb dX2_on_33 (by decide) (fun c_33 => ?_) (fun c_33 => ?_)
        · skip
          refine lv_iconst (v := 0) hx hb dX2_on_40 (by decide) ?_
          refine lv_iadd hx hb dX2_on_41 ?_
          refine lv_istore_n (lv' := [(2, .int (v + 0)), (6, .ref (ad i)), (5, .int (nI i)), (4, .int (nI n)), (3, .ref sd), (0, .ref sa), (1, .int x)]) hx hb dX2_on_42 rfl hl (by decide) rfl (fun ls hl => ?_)
          refine lv_iinc (v := nI (i + 1)) (lv' := [(5, .int (nI (i + 1))), (2, .int (v + 0)), (6, .ref (ad i)), (4, .int (nI n)), (3, .ref sd), (0, .ref sa), (1, .int x)]) hx hb dX2_on_43 hl (k := 2) rfl (nI_1 _) (by decide) rfl (fun ls hl => ?_)
          refine lv_goto (tgt := 14) hx hb dX2_on_46 (by decide) ?_
          exact ih14 (i + 1) (v + 0) (by omega) (by omega) (crowd_n hv c_33) _ _ (hP.part [0, 1] rfl) (hD.part [0, 1] (by decide) rfl) hS ls (lv_sub hl [0, 3, 4, 1, 5, 6] rfl)
        · skip
          refine lv_iconst (v := 1) hx hb dX2_on_36 (by decide) ?_
          refine lv_goto (tgt := 41) hx hb dX2_on_37 (by decide) ?_
          refine lv_iadd hx hb dX2_on_41 ?_
          refine lv_istore_n (lv' := [(2, .int (v + 1)), (6, .ref (ad i)), (5, .int (nI i)), (4, .int (nI n)), (3, .ref sd), (0, .ref sa), (1, .int x)]) hx hb dX2_on_42 rfl hl (by decide) rfl (fun ls hl => ?_)
          refine lv_iinc (v := nI (i + 1)) (lv' := [(5, .int (nI (i + 1))), (2, .int (v + 1)), (6, .ref (ad i)), (4, .int (nI n)), (3, .ref sd), (0, .ref sa), (1, .int x)]) hx hb dX2_on_43 hl (k := 2) rfl (nI_1 _) (by decide) rfl (fun ls hl => ?_)
          refine lv_goto (tgt := 14) hx hb dX2_on_46 (by decide) ?_
          exact ih14 (i + 1) (v + 1) (by omega) (by omega) (crowd_p hv c_33) _ _ (hP.part [0, 1] rfl) (hD.part [0, 1] (by decide) rfl) hS ls (lv_sub hl [0, 3, 4, 1, 5, 6] rfl)
  exact loop14 (n + 1) 0 0 (by omega) (Nat.zero_le _) rfl _ _ (hP.part [0, 1] rfl) (hD.part [0, 1] (by decide) rfl) hS ls (lv_sub hl [0, 1, 2, 3, 4, 5] rfl)
theorem uX2_X2_discontent : ∀ w ∈ u_ws RX2 TX2 3, w ∈ wsX2_discontent := (fun _ h => List.mem_cons_of_mem _ (List.mem_append_right _ h))
set_option maxHeartbeats 4000000 in
set_option maxRecDepth 100000 in
theorem c_X2_discontent (l : Launch) (hl0 : l.stackTraces = false) (D : va_G) (cA : ClassId) (cR : ClassId) (sa : Nat) (rg : Int32) (st : Int32) (sd : Nat) (n : Nat) (ad : Nat → Nat) (fV : Nat → Int32) (fW : Nat → Int32) (fR : Nat → Int32) (fP : Nat → Int32) (fK : Nat → Int32) (x : Int32) (hn : n ≤ 12) (hV : Inv fW fR fP fK n) (hx9 : okD 41 x) (sz : Nat) : Met l yX2_discontent wsX2_discontent ({ frames := 1, cells := 0, slots := 0, locals := 40 } : Room) (va_Pc [.ref sa, .int x] (Wx D [(cA, .int), (cR, .array .int)] ([(sa, .inr (2, [.int rg, .int st, .ref sd])), (sd, .inl (cR, n, .inr (.inr (.inr (.inr (refsF n ad))))))] ++ rowsC cA n ad fV fW fR fP fK) sz)) (va_Qi (fun (r : Int32) (_ : Unit) => r = disAll fW x n) (fun (_ : Unit) t => We D [(cA, .int), (cR, .array .int)] ([(sa, .inr (2, [.int rg, .int st, .ref sd])), (sd, .inl (cR, n, .inr (.inr (.inr (.inr (refsF n ad))))))] ++ rowsC cA n ad fV fW fR fP fK) (va_A ([(sa, .inr (2, [.int rg, .int st, .ref sd])), (sd, .inl (cR, n, .inr (.inr (.inr (.inr (refsF n ad))))))] ++ rowsC cA n ad fV fW fR fP fK) sz) t) (va_A ([(sa, .inr (2, [.int rg, .int st, .ref sd])), (sd, .inl (cR, n, .inr (.inr (.inr (.inr (refsF n ad))))))] ++ rowsC cA n ad fV fW fR fP fK) sz)) 0 0 (va_A ([(sa, .inr (2, [.int rg, .int st, .ref sd])), (sd, .inl (cR, n, .inr (.inr (.inr (.inr (refsF n ad))))))] ++ rowsC cA n ad fV fW fR fP fK) sz) := by
  refine mk_z (y := yX2_discontent) (ws := wsX2_discontent) (tys := [(cA, .int), (cR, .array .int)]) (wc := ([(sa, .inr (2, [.int rg, .int st, .ref sd])), (sd, .inl (cR, n, .inr (.inr (.inr (.inr (refsF n ad))))))] ++ rowsC cA n ad fV fW fR fP fK)) (sz := sz) (mc := 0) (ms := 0) (cc := cX2_discontent) (maxL := 7) (ret := (some .int)) [.ref sa, .int x] (fun A => va_Qi (fun (r : Int32) (_ : Unit) => r = disAll fW x n) (fun (_ : Unit) t => We D [(cA, .int), (cR, .array .int)] ([(sa, .inr (2, [.int rg, .int st, .ref sd])), (sd, .inl (cR, n, .inr (.inr (.inr (.inr (refsF n ad))))))] ++ rowsC cA n ad fV fW fR fP fK) A t) A) (by decide) rfl (Nat.le_of_ble_eq_true rfl) ?_
  intro p e s m args below meth c A ls F hr hlocks hname hP hK hD hXE hA hl
  have hx := F.1
  have hb := F.2.1
  have hml := F.2.2.1
  have hown := F.2.2.2.1
  have hts := F.2.2.2.2
  have hS : va_S A s.heap s.heap [] := va_S.rf
  have hNa := qNa_of hXE
  have hCl := qCl_of hXE
  have hNe := qNe_of hXE
  have hl : lv_has ls 7 [(0, .ref sa), (1, .int x)] := hl
  refine absQ (fun Q hQ => ?_)
  refine lv_iconst (v := 0) hx hb dX2_discontent_0 (by decide) ?_
  refine lv_istore_n (lv' := [(2, .int 0), (0, .ref sa), (1, .int x)]) hx hb dX2_discontent_1 rfl hl (by decide) rfl (fun ls hl => ?_)
  refine lv_aload_n hx hb dX2_discontent_2 rfl (lv_at hl 1 rfl) ?_
  refine va_get (D := D) (ci := 2) (v := .ref sd) (C := RX2) (T := TX2) (N := 3) hx hb hts uX2_X2_discontent hown hK hP 0 rfl rfl 2 (by decide) (hts (.fieldLink RX2 15 "RopeChoicesLaw$Sim" "delegates" "[[I") (List.mem_of_getElem? (i := 1) rfl)) (fun _ h9 => h9) rfl dX2_discontent_3 ?_
  refine lv_astore_n (lv' := [(3, .ref sd), (2, .int 0), (0, .ref sa), (1, .int x)]) hx hb dX2_discontent_6 rfl hl (by decide) rfl (fun ls hl => ?_)
  refine lv_aload_n hx hb dX2_discontent_7 rfl (lv_at hl 0 rfl) ?_
  refine va_alen (v := nI n) hx hb hK hP 1 1 rfl rfl rfl dX2_discontent_8 ?_
  refine lv_istore (lv' := [(4, .int (nI n)), (3, .ref sd), (2, .int 0), (0, .ref sa), (1, .int x)]) hx hb dX2_discontent_9 hl (by decide) rfl (fun ls hl => ?_)
  refine lv_iconst (v := 0) hx hb dX2_discontent_11 (by decide) ?_
  refine lv_istore (lv' := [(5, .int 0), (4, .int (nI n)), (3, .ref sd), (2, .int 0), (0, .ref sa), (1, .int x)]) hx hb dX2_discontent_12 hl (by decide) rfl (fun ls hl => ?_)
  have loop14 : ∀ (k : Nat) (i : Nat) (v : Int32), (n < i + k) → (i ≤ n) → (v = disAll fW x i) →  ∀ (H : Heap) (locs : List Loc), va_P D vwCl ([(sa, .inr (2, [.int rg, .int st, .ref sd])), (sd, .inl (cR, n, .inr (.inr (.inr (.inr (refsF n ad))))))] ++ rowsC cA n ad fV fW fR fP fK) H → va_D A ([(sa, .inr (2, [.int rg, .int st, .ref sd])), (sd, .inl (cR, n, .inr (.inr (.inr (.inr (refsF n ad))))))] ++ rowsC cA n ad fV fW fR fP fK) → va_S A s.heap H locs → ∀ ls : Array Slot, lv_has ls 7 [(5, .int (nI i)), (4, .int (nI n)), (3, .ref sd), (2, .int v), (0, .ref sa), (1, .int x)] → W p l e ({ frames := 1, cells := 0, slots := 0, locals := 40 } : Room) s m args below meth c H locs 0 0 Q (F0 m 14 ls []) := by
    intro k
    induction k with
    | zero =>
      intro i v hk hi hv
      exact absurd hk (by omega)
    | succ k ih14 =>
      intro i v hk hi hv H locs hP hD hS ls hl
      refine lv_iload hx hb dX2_discontent_14 (lv_at hl 0 rfl) ?_
      refine lv_iload hx hb dX2_discontent_16 (lv_at hl 1 rfl) ?_
      refine lv_icmp_ge (tgt := 45) hx hb dX2_discontent_18 (by decide) (fun c_18 => ?_) (fun c_18 => ?_)
      · skip
        have g_18 : n ≤ i := nf_ge_t (by omega) (by omega) c_18
        refine lv_iload_n hx hb dX2_discontent_45 rfl (lv_at hl 3 rfl) ?_
        refine useQ hQ ?_
        exact q_i (v := v) F hr hlocks hK hP hD hS [0, 1] [0, 1] () (by rw [hv, show i = n by omega]) rfl rfl rfl rfl (Nat.le_of_ble_eq_true rfl) (Nat.le_of_ble_eq_true rfl) dX2_discontent_46
      · skip
        have g_18 : i < n := nf_ge_f (by omega) (by omega) c_18
        refine lv_aload_n hx hb dX2_discontent_21 rfl (lv_at hl 2 rfl) ?_
        refine lv_iload hx hb dX2_discontent_22 (lv_at hl 0 rfl) ?_
        refine q_ld hx hb hK hP 1 1 rfl rfl (by omega) (by omega) (refsF_at (by omega)) dX2_discontent_24 ?_
        refine lv_astore (lv' := [(6, .ref (ad i)), (5, .int (nI i)), (4, .int (nI n)), (3, .ref sd), (2, .int v), (0, .ref sa), (1, .int x)]) hx hb dX2_discontent_25 hl (by decide) rfl (fun ls hl => ?_)
        refine lv_iload_n hx hb dX2_discontent_27 rfl (lv_at hl 4 rfl) ?_
        refine lv_aload hx hb dX2_discontent_28 (lv_at hl 0 rfl) ?_
        refine lv_iconst (v := 1) hx hb dX2_discontent_30 (by decide) ?_
        refine r_ld hx hb hK hP 0 rfl (k := i) (by omega) 1 (by omega) (x := (fW i)) rfl dX2_discontent_31 ?_
        refine lv_iload_n hx hb dX2_discontent_32 rfl (lv_at hl 6 rfl) ?_
        refine lv_isub hx hb dX2_discontent_33 ?_
        refine va_mabs hx hb (hml.trans hl.1.symm) hown (hts (.methodLink RX2 19 Lib.Math.abs.name) (List.mem_of_getElem? (i := 2) rfl)) (hts (.static Lib.Math.abs.name) (List.mem_of_getElem? (i := 3) rfl)) (hts (.initialized "java/lang/Math") (List.mem_of_getElem? (i := 4) rfl)) (hts (.code Lib.Math.abs.name Lib.Math.abs.code 1 (some .int)) (List.mem_of_getElem? (i := 5) rfl)) (Nat.le_of_ble_eq_true rfl) (Nat.le_of_ble_eq_true rfl) (Nat.le_of_ble_eq_true rfl) (Nat.le_of_ble_eq_true rfl) dX2_discontent_34 ?_
        refine topi (jabs ((fW i) - x)) rfl ?_
        refine lv_iadd hx hb dX2_discontent_37 ?_
        refine lv_istore_n (lv' := [(2, .int (v + (jabs ((fW i) - x)))), (6, .ref (ad i)), (5, .int (nI i)), (4, .int (nI n)), (3, .ref sd), (0, .ref sa), (1, .int x)]) hx hb dX2_discontent_38 rfl hl (by decide) rfl (fun ls hl => ?_)
        refine lv_iinc (v := nI (i + 1)) (lv' := [(5, .int (nI (i + 1))), (2, .int (v + (jabs ((fW i) - x)))), (6, .ref (ad i)), (4, .int (nI n)), (3, .ref sd), (0, .ref sa), (1, .int x)]) hx hb dX2_discontent_39 hl (k := 2) rfl (nI_1 _) (by decide) rfl (fun ls hl => ?_)
        refine lv_goto (tgt := 14) hx hb dX2_discontent_42 (by decide) ?_
        exact ih14 (i + 1) (v + (jabs ((fW i) - x))) (by omega) (by omega) (dis_s hv (hV i (by omega)).1 hx9) _ _ (hP.part [0, 1] rfl) (hD.part [0, 1] (by decide) rfl) hS ls (lv_sub hl [0, 3, 4, 1, 5, 6] rfl)
  exact loop14 (n + 1) 0 0 (by omega) (Nat.zero_le _) rfl _ _ (hP.part [0, 1] rfl) (hD.part [0, 1] (by decide) rfl) hS ls (lv_sub hl [0, 1, 2, 3, 4, 5] rfl)
theorem uX2_X2_spread : ∀ w ∈ u_ws RX2 TX2 3, w ∈ wsX2_spread := (fun _ h => List.mem_cons_of_mem _ (List.mem_append_right _ h))
set_option maxHeartbeats 4000000 in
set_option maxRecDepth 100000 in
theorem c_X2_spread (l : Launch) (hl0 : l.stackTraces = false) (D : va_G) (cA : ClassId) (cR : ClassId) (sa : Nat) (rg : Int32) (st : Int32) (sd : Nat) (n : Nat) (ad : Nat → Nat) (fV : Nat → Int32) (fW : Nat → Int32) (fR : Nat → Int32) (fP : Nat → Int32) (fK : Nat → Int32) (hn : n ≤ 12) (hI : ∀ i, i < n → okD 41 (fK i)) (sz : Nat) : Met l yX2_spread wsX2_spread ({ frames := 1, cells := 0, slots := 0, locals := 40 } : Room) (va_Pc [.ref sa] (Wx D [(cA, .int), (cR, .array .int)] ([(sa, .inr (2, [.int rg, .int st, .ref sd])), (sd, .inl (cR, n, .inr (.inr (.inr (.inr (refsF n ad))))))] ++ rowsC cA n ad fV fW fR fP fK) sz)) (va_Qi (fun (r : Int32) (_ : Unit) => r = wide fK n) (fun (_ : Unit) t => We D [(cA, .int), (cR, .array .int)] ([(sa, .inr (2, [.int rg, .int st, .ref sd])), (sd, .inl (cR, n, .inr (.inr (.inr (.inr (refsF n ad))))))] ++ rowsC cA n ad fV fW fR fP fK) (va_A ([(sa, .inr (2, [.int rg, .int st, .ref sd])), (sd, .inl (cR, n, .inr (.inr (.inr (.inr (refsF n ad))))))] ++ rowsC cA n ad fV fW fR fP fK) sz) t) (va_A ([(sa, .inr (2, [.int rg, .int st, .ref sd])), (sd, .inl (cR, n, .inr (.inr (.inr (.inr (refsF n ad))))))] ++ rowsC cA n ad fV fW fR fP fK) sz)) 0 0 (va_A ([(sa, .inr (2, [.int rg, .int st, .ref sd])), (sd, .inl (cR, n, .inr (.inr (.inr (.inr (refsF n ad))))))] ++ rowsC cA n ad fV fW fR fP fK) sz) := by
  refine mk_z (y := yX2_spread) (ws := wsX2_spread) (tys := [(cA, .int), (cR, .array .int)]) (wc := ([(sa, .inr (2, [.int rg, .int st, .ref sd])), (sd, .inl (cR, n, .inr (.inr (.inr (.inr (refsF n ad))))))] ++ rowsC cA n ad fV fW fR fP fK)) (sz := sz) (mc := 0) (ms := 0) (cc := cX2_spread) (maxL := 10) (ret := (some .int)) [.ref sa] (fun A => va_Qi (fun (r : Int32) (_ : Unit) => r = wide fK n) (fun (_ : Unit) t => We D [(cA, .int), (cR, .array .int)] ([(sa, .inr (2, [.int rg, .int st, .ref sd])), (sd, .inl (cR, n, .inr (.inr (.inr (.inr (refsF n ad))))))] ++ rowsC cA n ad fV fW fR fP fK) A t) A) (by decide) rfl (Nat.le_of_ble_eq_true rfl) ?_
  intro p e s m args below meth c A ls F hr hlocks hname hP hK hD hXE hA hl
  have hx := F.1
  have hb := F.2.1
  have hml := F.2.2.1
  have hown := F.2.2.2.1
  have hts := F.2.2.2.2
  have hS : va_S A s.heap s.heap [] := va_S.rf
  have hNa := qNa_of hXE
  have hCl := qCl_of hXE
  have hNe := qNe_of hXE
  have hl : lv_has ls 10 [(0, .ref sa)] := hl
  refine absQ (fun Q hQ => ?_)
  refine lv_iconst (v := 0) hx hb dX2_spread_0 (by decide) ?_
  refine lv_istore_n (lv' := [(1, .int 0), (0, .ref sa)]) hx hb dX2_spread_1 rfl hl (by decide) rfl (fun ls hl => ?_)
  refine lv_aload_n hx hb dX2_spread_2 rfl (lv_at hl 1 rfl) ?_
  refine va_get (D := D) (ci := 2) (v := .ref sd) (C := RX2) (T := TX2) (N := 3) hx hb hts uX2_X2_spread hown hK hP 0 rfl rfl 2 (by decide) (hts (.fieldLink RX2 15 "RopeChoicesLaw$Sim" "delegates" "[[I") (List.mem_of_getElem? (i := 1) rfl)) (fun _ h9 => h9) rfl dX2_spread_3 ?_
  refine lv_astore_n (lv' := [(2, .ref sd), (1, .int 0), (0, .ref sa)]) hx hb dX2_spread_6 rfl hl (by decide) rfl (fun ls hl => ?_)
  refine lv_aload_n hx hb dX2_spread_7 rfl (lv_at hl 0 rfl) ?_
  refine va_alen (v := nI n) hx hb hK hP 1 1 rfl rfl rfl dX2_spread_8 ?_
  refine lv_istore_n (lv' := [(3, .int (nI n)), (2, .ref sd), (1, .int 0), (0, .ref sa)]) hx hb dX2_spread_9 rfl hl (by decide) rfl (fun ls hl => ?_)
  refine lv_iconst (v := 0) hx hb dX2_spread_10 (by decide) ?_
  refine lv_istore (lv' := [(4, .int 0), (3, .int (nI n)), (2, .ref sd), (1, .int 0), (0, .ref sa)]) hx hb dX2_spread_11 hl (by decide) rfl (fun ls hl => ?_)
  have loop13 : ∀ (k : Nat) (i : Nat) (v : Int32), (n < i + k) → (i ≤ n) → (Far fK n i 0 v) →  ∀ (H : Heap) (locs : List Loc), va_P D vwCl ([(sa, .inr (2, [.int rg, .int st, .ref sd])), (sd, .inl (cR, n, .inr (.inr (.inr (.inr (refsF n ad))))))] ++ rowsC cA n ad fV fW fR fP fK) H → va_D A ([(sa, .inr (2, [.int rg, .int st, .ref sd])), (sd, .inl (cR, n, .inr (.inr (.inr (.inr (refsF n ad))))))] ++ rowsC cA n ad fV fW fR fP fK) → va_S A s.heap H locs → ∀ ls : Array Slot, lv_has ls 10 [(4, .int (nI i)), (3, .int (nI n)), (2, .ref sd), (1, .int v), (0, .ref sa)] → W p l e ({ frames := 1, cells := 0, slots := 0, locals := 40 } : Room) s m args below meth c H locs 0 0 Q (F0 m 13 ls []) := by
    intro k
    induction k with
    | zero =>
      intro i v hk hi hF
      exact absurd hk (by omega)
    | succ k ih13 =>
      intro i v hk hi hF H locs hP hD hS ls hl
      refine lv_iload hx hb dX2_spread_13 (lv_at hl 0 rfl) ?_
      refine lv_iload_n hx hb dX2_spread_15 rfl (lv_at hl 1 rfl) ?_
      refine lv_icmp_ge (tgt := 79) hx hb dX2_spread_16 (by decide) (fun c_16 => ?_) (fun c_16 => ?_)
      · skip
        have g_16 : n ≤ i := nf_ge_t (by omega) (by omega) c_16
        refine lv_iload_n hx hb dX2_spread_79 rfl (lv_at hl 3 rfl) ?_
        refine useQ hQ ?_
        exact q_i (v := v) F hr hlocks hK hP hD hS [0, 1] [0, 1] () (far_end hI hF (by omega)) rfl rfl rfl rfl (Nat.le_of_ble_eq_true rfl) (Nat.le_of_ble_eq_true rfl) dX2_spread_80
      · skip
        have g_16 : i < n := nf_ge_f (by omega) (by omega) c_16
        refine lv_aload_n hx hb dX2_spread_19 rfl (lv_at hl 2 rfl) ?_
        refine lv_iload hx hb dX2_spread_20 (lv_at hl 0 rfl) ?_
        refine q_ld hx hb hK hP 1 1 rfl rfl (by omega) (by omega) (refsF_at (by omega)) dX2_spread_22 ?_
        refine lv_astore (lv' := [(5, .ref (ad i)), (4, .int (nI i)), (3, .int (nI n)), (2, .ref sd), (1, .int v), (0, .ref sa)]) hx hb dX2_spread_23 hl (by decide) rfl (fun ls hl => ?_)
        refine lv_aload_n hx hb dX2_spread_25 rfl (lv_at hl 5 rfl) ?_
        refine va_get (D := D) (ci := 2) (v := .ref sd) (C := RX2) (T := TX2) (N := 3) hx hb hts uX2_X2_spread hown hK hP 0 rfl rfl 2 (by decide) (hts (.fieldLink RX2 15 "RopeChoicesLaw$Sim" "delegates" "[[I") (List.mem_of_getElem? (i := 1) rfl)) (fun _ h9 => h9) rfl dX2_spread_26 ?_
        refine lv_astore (lv' := [(6, .ref sd), (5, .ref (ad i)), (4, .int (nI i)), (3, .int (nI n)), (2, .ref sd), (1, .int v), (0, .ref sa)]) hx hb dX2_spread_29 hl (by decide) rfl (fun ls hl => ?_)
        refine lv_aload hx hb dX2_spread_31 (lv_at hl 0 rfl) ?_
        refine va_alen (v := nI n) hx hb hK hP 1 1 rfl rfl rfl dX2_spread_33 ?_
        refine lv_istore (lv' := [(7, .int (nI n)), (6, .ref sd), (5, .ref (ad i)), (4, .int (nI i)), (3, .int (nI n)), (2, .ref sd), (1, .int v), (0, .ref sa)]) hx hb dX2_spread_34 hl (by decide) rfl (fun ls hl => ?_)
        refine lv_iconst (v := 0) hx hb dX2_spread_36 (by decide) ?_
        refine lv_istore (lv' := [(8, .int 0), (7, .int (nI n)), (6, .ref sd), (5, .ref (ad i)), (4, .int (nI i)), (3, .int (nI n)), (2, .ref sd), (1, .int v), (0, .ref sa)]) hx hb dX2_spread_37 hl (by decide) rfl (fun ls hl => ?_)
        have loop39 : ∀ (k : Nat) (j : Nat) (v2 : Int32), (n < j + k) → (j ≤ n) → (Far fK n i j v2) →  ∀ (H : Heap) (locs : List Loc), va_P D vwCl ([(sa, .inr (2, [.int rg, .int st, .ref sd])), (sd, .inl (cR, n, .inr (.inr (.inr (.inr (refsF n ad))))))] ++ rowsC cA n ad fV fW fR fP fK) H → va_D A ([(sa, .inr (2, [.int rg, .int st, .ref sd])), (sd, .inl (cR, n, .inr (.inr (.inr (.inr (refsF n ad))))))] ++ rowsC cA n ad fV fW fR fP fK) → va_S A s.heap H locs → ∀ ls : Array Slot, lv_has ls 10 [(8, .int (nI j)), (7, .int (nI n)), (6, .ref sd), (5, .ref (ad i)), (4, .int (nI i)), (3, .int (nI n)), (2, .ref sd), (1, .int v2), (0, .ref sa)] → W p l e ({ frames := 1, cells := 0, slots := 0, locals := 40 } : Room) s m args below meth c H locs 0 0 Q (F0 m 39 ls []) := by
          intro k
          induction k with
          | zero =>
            intro j v2 hk2 hj hF2
            exact absurd hk2 (by omega)
          | succ k ih39 =>
            intro j v2 hk2 hj hF2 H locs hP hD hS ls hl
            refine lv_iload hx hb dX2_spread_39 (lv_at hl 0 rfl) ?_
            refine lv_iload hx hb dX2_spread_41 (lv_at hl 1 rfl) ?_
            refine lv_icmp_ge (tgt := 73) hx hb dX2_spread_43 (by decide) (fun c_43 => ?_) (fun c_43 => ?_)
            · skip
              have g_43 : n ≤ j := nf_ge_t (by omega) (by omega) c_43
              refine lv_iinc (v := nI (i + 1)) (lv' := [(4, .int (nI (i + 1))), (8, .int (nI j)), (7, .int (nI n)), (6, .ref sd), (5, .ref (ad i)), (3, .int (nI n)), (2, .ref sd), (1, .int v2), (0, .ref sa)]) hx hb dX2_spread_73 hl (k := 4) rfl (nI_1 _) (by decide) rfl (fun ls hl => ?_)
              refine lv_goto (tgt := 13) hx hb dX2_spread_76 (by decide) ?_
              exact ih13 (i + 1) v2 (by omega) (by omega) (far_n hF2 (by omega)) _ _ (hP.part [0, 1] rfl) (hD.part [0, 1] (by decide) rfl) hS ls (lv_sub hl [0, 5, 6, 7, 8] rfl)
            · skip
              have g_43 : j < n := nf_ge_f (by omega) (by omega) c_43
              refine lv_aload hx hb dX2_spread_46 (lv_at hl 2 rfl) ?_
              refine lv_iload hx hb dX2_spread_48 (lv_at hl 0 rfl) ?_
              refine q_ld hx hb hK hP 1 1 rfl rfl (by omega) (by omega) (refsF_at (by omega)) dX2_spread_50 ?_
              refine lv_astore (lv' := [(9, .ref (ad j)), (8, .int (nI j)), (7, .int (nI n)), (6, .ref sd), (5, .ref (ad i)), (4, .int (nI i)), (3, .int (nI n)), (2, .ref sd), (1, .int v2), (0, .ref sa)]) hx hb dX2_spread_51 hl (by decide) rfl (fun ls hl => ?_)
              refine lv_iload_n hx hb dX2_spread_53 rfl (lv_at hl 8 rfl) ?_
              refine lv_aload hx hb dX2_spread_54 (lv_at hl 4 rfl) ?_
              refine lv_iconst (v := 4) hx hb dX2_spread_56 (by decide) ?_
              refine r_ld hx hb hK hP 0 rfl (k := i) (by omega) 4 (by omega) (x := (fK i)) rfl dX2_spread_57 ?_
              refine lv_aload hx hb dX2_spread_58 (lv_at hl 0 rfl) ?_
              refine lv_iconst (v := 4) hx hb dX2_spread_60 (by decide) ?_
              refine r_ld hx hb hK hP 0 rfl (k := j) (by omega) 4 (by omega) (x := (fK j)) rfl dX2_spread_61 ?_
              refine lv_isub hx hb dX2_spread_62 ?_
              refine va_mmax hx hb (hml.trans hl.1.symm) hown (hts (.methodLink RX2 47 Lib.Math.max.name) (List.mem_of_getElem? (i := 2) rfl)) (hts (.static Lib.Math.max.name) (List.mem_of_getElem? (i := 3) rfl)) (hts (.initialized "java/lang/Math") (List.mem_of_getElem? (i := 4) rfl)) (hts (.code Lib.Math.max.name Lib.Math.max.code 2 (some .int)) (List.mem_of_getElem? (i := 5) rfl)) (Nat.le_of_ble_eq_true rfl) (Nat.le_of_ble_eq_true rfl) (Nat.le_of_ble_eq_true rfl) (Nat.le_of_ble_eq_true rfl) dX2_spread_63 ?_
              refine topi (jmax v2 ((fK i) - (fK j))) rfl ?_
              refine lv_istore_n (lv' := [(1, .int (jmax v2 ((fK i) - (fK j)))), (9, .ref (ad j)), (8, .int (nI j)), (7, .int (nI n)), (6, .ref sd), (5, .ref (ad i)), (4, .int (nI i)), (3, .int (nI n)), (2, .ref sd), (0, .ref sa)]) hx hb dX2_spread_66 rfl hl (by decide) rfl (fun ls hl => ?_)
              refine lv_iinc (v := nI (j + 1)) (lv' := [(8, .int (nI (j + 1))), (1, .int (jmax v2 ((fK i) - (fK j)))), (9, .ref (ad j)), (7, .int (nI n)), (6, .ref sd), (5, .ref (ad i)), (4, .int (nI i)), (3, .int (nI n)), (2, .ref sd), (0, .ref sa)]) hx hb dX2_spread_67 hl (k := 2) rfl (nI_1 _) (by decide) rfl (fun ls hl => ?_)
              refine lv_goto (tgt := 39) hx hb dX2_spread_70 (by decide) ?_
              exact ih39 (j + 1) (jmax v2 ((fK i) - (fK j))) (by omega) (by omega) (far_s hI hF2 (by omega) (by omega)) _ _ (hP.part [0, 1] rfl) (hD.part [0, 1] (by decide) rfl) hS ls (lv_sub hl [0, 3, 4, 5, 6, 7, 8, 1, 9] rfl)
        exact loop39 (n + 1) 0 v (by omega) (Nat.zero_le _) hF _ _ (hP.part [0, 1] rfl) (hD.part [0, 1] (by decide) rfl) hS ls (lv_sub hl [0, 1, 2, 3, 4, 5, 6, 7, 8] rfl)
  exact loop13 (n + 1) 0 0 (by omega) (Nat.zero_le _) (far_0 _ _) _ _ (hP.part [0, 1] rfl) (hD.part [0, 1] (by decide) rfl) hS ls (lv_sub hl [0, 1, 2, 3, 4] rfl)
theorem uX2_X2_isTreaty : ∀ w ∈ u_ws RX2 TX2 3, w ∈ wsX2_isTreaty := (fun _ h => List.mem_cons_of_mem _ (List.mem_append_right _ h))
set_option maxHeartbeats 4000000 in
set_option maxRecDepth 100000 in
theorem c_X2_isTreaty (l : Launch) (hl0 : l.stackTraces = false) (D : va_G) (cA : ClassId) (cR : ClassId) (sa : Nat) (rg : Int32) (st : Int32) (sd : Nat) (n : Nat) (ad : Nat → Nat) (fV : Nat → Int32) (fW : Nat → Int32) (fR : Nat → Int32) (fP : Nat → Int32) (fK : Nat → Int32) (hn : n ≤ 12) (hI : ∀ i, i < n → okD 41 (fK i)) (sz : Nat) : Met l yX2_isTreaty wsX2_isTreaty ({ frames := 2, cells := 0, slots := 0, locals := 69 } : Room) (va_Pc [.ref sa] (Wx D [(cA, .int), (cR, .array .int)] ([(sa, .inr (2, [.int rg, .int st, .ref sd])), (sd, .inl (cR, n, .inr (.inr (.inr (.inr (refsF n ad))))))] ++ rowsC cA n ad fV fW fR fP fK) sz)) (va_Qi (fun (r : Int32) (_ : Unit) => r = bP (agreeP fV fK n)) (fun (_ : Unit) t => We D [(cA, .int), (cR, .array .int)] ([(sa, .inr (2, [.int rg, .int st, .ref sd])), (sd, .inl (cR, n, .inr (.inr (.inr (.inr (refsF n ad))))))] ++ rowsC cA n ad fV fW fR fP fK) (va_A ([(sa, .inr (2, [.int rg, .int st, .ref sd])), (sd, .inl (cR, n, .inr (.inr (.inr (.inr (refsF n ad))))))] ++ rowsC cA n ad fV fW fR fP fK) sz) t) (va_A ([(sa, .inr (2, [.int rg, .int st, .ref sd])), (sd, .inl (cR, n, .inr (.inr (.inr (.inr (refsF n ad))))))] ++ rowsC cA n ad fV fW fR fP fK) sz)) 0 0 (va_A ([(sa, .inr (2, [.int rg, .int st, .ref sd])), (sd, .inl (cR, n, .inr (.inr (.inr (.inr (refsF n ad))))))] ++ rowsC cA n ad fV fW fR fP fK) sz) := by
  refine mk_z (y := yX2_isTreaty) (ws := wsX2_isTreaty) (tys := [(cA, .int), (cR, .array .int)]) (wc := ([(sa, .inr (2, [.int rg, .int st, .ref sd])), (sd, .inl (cR, n, .inr (.inr (.inr (.inr (refsF n ad))))))] ++ rowsC cA n ad fV fW fR fP fK)) (sz := sz) (mc := 0) (ms := 0) (cc := cX2_isTreaty) (maxL := 10) (ret := (some .boolean)) [.ref sa] (fun A => va_Qi (fun (r : Int32) (_ : Unit) => r = bP (agreeP fV fK n)) (fun (_ : Unit) t => We D [(cA, .int), (cR, .array .int)] ([(sa, .inr (2, [.int rg, .int st, .ref sd])), (sd, .inl (cR, n, .inr (.inr (.inr (.inr (refsF n ad))))))] ++ rowsC cA n ad fV fW fR fP fK) A t) A) (by decide) rfl (Nat.le_of_ble_eq_true rfl) ?_
  intro p e s m args below meth c A ls F hr hlocks hname hP hK hD hXE hA hl
  have hx := F.1
  have hb := F.2.1
  have hml := F.2.2.1
  have hown := F.2.2.2.1
  have hts := F.2.2.2.2
  have hS : va_S A s.heap s.heap [] := va_S.rf
  have hNa := qNa_of hXE
  have hCl := qCl_of hXE
  have hNe := qNe_of hXE
  have hl : lv_has ls 10 [(0, .ref sa)] := hl
  refine absQ (fun Q hQ => ?_)
  refine lv_iconst (v := 0) hx hb dX2_isTreaty_0 (by decide) ?_
  refine lv_istore_n (lv' := [(1, .int 0), (0, .ref sa)]) hx hb dX2_isTreaty_1 rfl hl (by decide) rfl (fun ls hl => ?_)
  refine lv_aload_n hx hb dX2_isTreaty_2 rfl (lv_at hl 1 rfl) ?_
  refine va_get (D := D) (ci := 2) (v := .ref sd) (C := RX2) (T := TX2) (N := 3) hx hb hts uX2_X2_isTreaty hown hK hP 0 rfl rfl 2 (by decide) (hts (.fieldLink RX2 15 "RopeChoicesLaw$Sim" "delegates" "[[I") (List.mem_of_getElem? (i := 1) rfl)) (fun _ h9 => h9) rfl dX2_isTreaty_3 ?_
  refine lv_astore_n (lv' := [(2, .ref sd), (1, .int 0), (0, .ref sa)]) hx hb dX2_isTreaty_6 rfl hl (by decide) rfl (fun ls hl => ?_)
  refine lv_aload_n hx hb dX2_isTreaty_7 rfl (lv_at hl 0 rfl) ?_
  refine va_alen (v := nI n) hx hb hK hP 1 1 rfl rfl rfl dX2_isTreaty_8 ?_
  refine lv_istore_n (lv' := [(3, .int (nI n)), (2, .ref sd), (1, .int 0), (0, .ref sa)]) hx hb dX2_isTreaty_9 rfl hl (by decide) rfl (fun ls hl => ?_)
  refine lv_iconst (v := 0) hx hb dX2_isTreaty_10 (by decide) ?_
  refine lv_istore (lv' := [(4, .int 0), (3, .int (nI n)), (2, .ref sd), (1, .int 0), (0, .ref sa)]) hx hb dX2_isTreaty_11 hl (by decide) rfl (fun ls hl => ?_)
  have loop13 : ∀ (k : Nat) (i : Nat) (v : Int32), (n < i + k) → (i ≤ n) → (Two fV n i 0 v) →  ∀ (H : Heap) (locs : List Loc), va_P D vwCl ([(sa, .inr (2, [.int rg, .int st, .ref sd])), (sd, .inl (cR, n, .inr (.inr (.inr (.inr (refsF n ad))))))] ++ rowsC cA n ad fV fW fR fP fK) H → va_D A ([(sa, .inr (2, [.int rg, .int st, .ref sd])), (sd, .inl (cR, n, .inr (.inr (.inr (.inr (refsF n ad))))))] ++ rowsC cA n ad fV fW fR fP fK) → va_S A s.heap H locs → ∀ ls : Array Slot, lv_has ls 10 [(4, .int (nI i)), (3, .int (nI n)), (2, .ref sd), (1, .int v), (0, .ref sa)] → W p l e ({ frames := 2, cells := 0, slots := 0, locals := 69 } : Room) s m args below meth c H locs 0 0 Q (F0 m 13 ls []) := by
    intro k
    induction k with
    | zero =>
      intro i v hk hi hF
      exact absurd hk (by omega)
    | succ k ih13 =>
      intro i v hk hi hF H locs hP hD hS ls hl
      refine lv_iload hx hb dX2_isTreaty_13 (lv_at hl 0 rfl) ?_
      refine lv_iload_n hx hb dX2_isTreaty_15 rfl (lv_at hl 1 rfl) ?_
      refine lv_icmp_ge (tgt := 86) hx hb dX2_isTreaty_16 (by decide) (fun c_16 => ?_) (fun c_16 => ?_)
      · skip
        have g_16 : n ≤ i := nf_ge_t (by omega) (by omega) c_16
        refine lv_iload_n hx hb dX2_isTreaty_86 rfl (lv_at hl 3 rfl) ?_
        refine lv_if_eq (tgt := 102) hx hb dX2_isTreaty_87 (by decide) (fun c_87 => ?_) (fun c_87 => ?_)
        · skip
          refine lv_iconst (v := 0) hx hb dX2_isTreaty_102 (by decide) ?_
          refine useQ hQ ?_
          exact q_z (v := 0) F hr hlocks hK hP hD hS [0, 1] [0, 1] () (by first | exact Or.inl rfl | exact Or.inr rfl | exact bP_01 _) (bP_f (fun z => bP_eq ((two_end hF (by omega)).symm.trans c_87) z.1)) rfl rfl rfl rfl (Nat.le_of_ble_eq_true rfl) (Nat.le_of_ble_eq_true rfl) dX2_isTreaty_103
        · skip
          refine lv_aload_n hx hb dX2_isTreaty_90 rfl (lv_at hl 4 rfl) ?_
          have hPc : va_P D vwCl ([(sa, .inr (2, [.int rg, .int st, .ref sd])), (sd, .inl (cR, n, .inr (.inr (.inr (.inr (refsF n ad))))))] ++ rowsC cA n ad fV fW fR fP fK) H := hP.part [0, 1] rfl
          have hDc : va_D A ([(sa, .inr (2, [.int rg, .int st, .ref sd])), (sd, .inl (cR, n, .inr (.inr (.inr (.inr (refsF n ad))))))] ++ rowsC cA n ad fV fW fR fP fK) := hD.part [0, 1] (by decide) rfl
          have hFc := zfree hDc hS hA
          refine zi (wc := ([(sa, .inr (2, [.int rg, .int st, .ref sd])), (sd, .inl (cR, n, .inr (.inr (.inr (.inr (refsF n ad))))))] ++ rowsC cA n ad fV fW fR fP fK)) hFc hS (zRunV (q := (RX2, TX2, 3)) (mc := 0) (ms := 0) (As := []) (rest := []) F (c_X2_spread l hl0 D cA cR sa rg st sd n ad fV fW fR fP fK hn hI H.size) (cwV 0 hts gX2_isTreaty_X2_spread rfl rfl rfl (by decide +kernel) ⟨Nat.le_of_ble_eq_true rfl, Nat.le_of_ble_eq_true rfl⟩) hK hP hPc hDc hS hA hXE [0, 1] rfl 0 rfl rfl rfl hl.1 rfl (Nat.le_of_ble_eq_true rfl) dX2_isTreaty_91 ⟨Nat.le_of_ble_eq_true rfl, Nat.le_of_ble_eq_true rfl⟩) (fun (_ : Unit) => ([(sa, .inr (2, [.int rg, .int st, .ref sd])), (sd, .inl (cR, n, .inr (.inr (.inr (.inr (refsF n ad))))))] ++ rowsC cA n ad fV fW fR fP fK)) (fun u9 H1 a b c => va_joinP (cx := [(sa, .inr (2, [.int rg, .int st, .ref sd])), (sd, .inl (cR, n, .inr (.inr (.inr (.inr (refsF n ad))))))]) (wr := []) hP hD [0, 1] [] rfl rfl (by decide) (by decide) c hFc a b) (fun r_1 u_2 H locs hw_3 hP hD hS => ?_)
          have hw_3 : r_1 = wide fK n := hw_3
          rw [hw_3]
          have hP : va_P D vwCl ([(sa, .inr (2, [.int rg, .int st, .ref sd])), (sd, .inl (cR, n, .inr (.inr (.inr (.inr (refsF n ad))))))] ++ rowsC cA n ad fV fW fR fP fK) H := hP
          have hD : va_D A ([(sa, .inr (2, [.int rg, .int st, .ref sd])), (sd, .inl (cR, n, .inr (.inr (.inr (.inr (refsF n ad))))))] ++ rowsC cA n ad fV fW fR fP fK) := hD
          refine lv_iconst (v := 3) hx hb dX2_isTreaty_94 (by decide) ?_
          refine lv_icmp_ge (tgt := 102) hx hb dX2_isTreaty_95 (by decide) (fun c_95 => ?_) (fun c_95 => ?_)
          · skip
            refine lv_iconst (v := 0) hx hb dX2_isTreaty_102 (by decide) ?_
            refine useQ hQ ?_
            exact q_z (v := 0) F hr hlocks hK hP hD hS [0, 1] [0, 1] () (by first | exact Or.inl rfl | exact Or.inr rfl | exact bP_01 _) (bP_f (fun z => absurd (wide_3.mpr z.2) (Int32.not_lt.mpr c_95))) rfl rfl rfl rfl (Nat.le_of_ble_eq_true rfl) (Nat.le_of_ble_eq_true rfl) dX2_isTreaty_103
          · skip
            refine lv_iconst (v := 1) hx hb dX2_isTreaty_98 (by decide) ?_
            refine lv_goto (tgt := 103) hx hb dX2_isTreaty_99 (by decide) ?_
            refine useQ hQ ?_
            exact q_z (v := 1) F hr hlocks hK hP hD hS [0, 1] [0, 1] () (by first | exact Or.inl rfl | exact Or.inr rfl | exact bP_01 _) (bP_t ⟨bP_ne (fun z => c_87 ((two_end hF (by omega)).trans z)), wide_3.mp (Int32.not_le.mp c_95)⟩) rfl rfl rfl rfl (Nat.le_of_ble_eq_true rfl) (Nat.le_of_ble_eq_true rfl) dX2_isTreaty_103
      · skip
        have g_16 : i < n := nf_ge_f (by omega) (by omega) c_16
        refine lv_aload_n hx hb dX2_isTreaty_19 rfl (lv_at hl 2 rfl) ?_
        refine lv_iload hx hb dX2_isTreaty_20 (lv_at hl 0 rfl) ?_
        refine q_ld hx hb hK hP 1 1 rfl rfl (by omega) (by omega) (refsF_at (by omega)) dX2_isTreaty_22 ?_
        refine lv_astore (lv' := [(5, .ref (ad i)), (4, .int (nI i)), (3, .int (nI n)), (2, .ref sd), (1, .int v), (0, .ref sa)]) hx hb dX2_isTreaty_23 hl (by decide) rfl (fun ls hl => ?_)
        refine lv_aload_n hx hb dX2_isTreaty_25 rfl (lv_at hl 5 rfl) ?_
        refine va_get (D := D) (ci := 2) (v := .ref sd) (C := RX2) (T := TX2) (N := 3) hx hb hts uX2_X2_isTreaty hown hK hP 0 rfl rfl 2 (by decide) (hts (.fieldLink RX2 15 "RopeChoicesLaw$Sim" "delegates" "[[I") (List.mem_of_getElem? (i := 1) rfl)) (fun _ h9 => h9) rfl dX2_isTreaty_26 ?_
        refine lv_astore (lv' := [(6, .ref sd), (5, .ref (ad i)), (4, .int (nI i)), (3, .int (nI n)), (2, .ref sd), (1, .int v), (0, .ref sa)]) hx hb dX2_isTreaty_29 hl (by decide) rfl (fun ls hl => ?_)
        refine lv_aload hx hb dX2_isTreaty_31 (lv_at hl 0 rfl) ?_
        refine va_alen (v := nI n) hx hb hK hP 1 1 rfl rfl rfl dX2_isTreaty_33 ?_
        refine lv_istore (lv' := [(7, .int (nI n)), (6, .ref sd), (5, .ref (ad i)), (4, .int (nI i)), (3, .int (nI n)), (2, .ref sd), (1, .int v), (0, .ref sa)]) hx hb dX2_isTreaty_34 hl (by decide) rfl (fun ls hl => ?_)
        refine lv_iconst (v := 0) hx hb dX2_isTreaty_36 (by decide) ?_
        refine lv_istore (lv' := [(8, .int 0), (7, .int (nI n)), (6, .ref sd), (5, .ref (ad i)), (4, .int (nI i)), (3, .int (nI n)), (2, .ref sd), (1, .int v), (0, .ref sa)]) hx hb dX2_isTreaty_37 hl (by decide) rfl (fun ls hl => ?_)
        have loop39 : ∀ (k : Nat) (j : Nat) (v2 : Int32), (n < j + k) → (j ≤ n) → (Two fV n i j v2) →  ∀ (H : Heap) (locs : List Loc), va_P D vwCl ([(sa, .inr (2, [.int rg, .int st, .ref sd])), (sd, .inl (cR, n, .inr (.inr (.inr (.inr (refsF n ad))))))] ++ rowsC cA n ad fV fW fR fP fK) H → va_D A ([(sa, .inr (2, [.int rg, .int st, .ref sd])), (sd, .inl (cR, n, .inr (.inr (.inr (.inr (refsF n ad))))))] ++ rowsC cA n ad fV fW fR fP fK) → va_S A s.heap H locs → ∀ ls : Array Slot, lv_has ls 10 [(8, .int (nI j)), (7, .int (nI n)), (6, .ref sd), (5, .ref (ad i)), (4, .int (nI i)), (3, .int (nI n)), (2, .ref sd), (1, .int v2), (0, .ref sa)] → W p l e ({ frames := 2, cells := 0, slots := 0, locals := 69 } : Room) s m args below meth c H locs 0 0 Q (F0 m 39 ls []) := by
          intro k
          induction k with
          | zero =>
            intro j v2 hk2 hj hF2
            exact absurd hk2 (by omega)
          | succ k ih39 =>
            intro j v2 hk2 hj hF2 H locs hP hD hS ls hl
            refine lv_iload hx hb dX2_isTreaty_39 (lv_at hl 0 rfl) ?_
            refine lv_iload hx hb dX2_isTreaty_41 (lv_at hl 1 rfl) ?_
            refine lv_icmp_ge (tgt := 80) hx hb dX2_isTreaty_43 (by decide) (fun c_43 => ?_) (fun c_43 => ?_)
            · skip
              have g_43 : n ≤ j := nf_ge_t (by omega) (by omega) c_43
              refine lv_iinc (v := nI (i + 1)) (lv' := [(4, .int (nI (i + 1))), (8, .int (nI j)), (7, .int (nI n)), (6, .ref sd), (5, .ref (ad i)), (3, .int (nI n)), (2, .ref sd), (1, .int v2), (0, .ref sa)]) hx hb dX2_isTreaty_80 hl (k := 4) rfl (nI_1 _) (by decide) rfl (fun ls hl => ?_)
              refine lv_goto (tgt := 13) hx hb dX2_isTreaty_83 (by decide) ?_
              exact ih13 (i + 1) v2 (by omega) (by omega) (two_n hF2 (by omega)) _ _ (hP.part [0, 1] rfl) (hD.part [0, 1] (by decide) rfl) hS ls (lv_sub hl [0, 5, 6, 7, 8] rfl)
            · skip
              have g_43 : j < n := nf_ge_f (by omega) (by omega) c_43
              refine lv_aload hx hb dX2_isTreaty_46 (lv_at hl 2 rfl) ?_
              refine lv_iload hx hb dX2_isTreaty_48 (lv_at hl 0 rfl) ?_
              refine q_ld hx hb hK hP 1 1 rfl rfl (by omega) (by omega) (refsF_at (by omega)) dX2_isTreaty_50 ?_
              refine lv_astore (lv' := [(9, .ref (ad j)), (8, .int (nI j)), (7, .int (nI n)), (6, .ref sd), (5, .ref (ad i)), (4, .int (nI i)), (3, .int (nI n)), (2, .ref sd), (1, .int v2), (0, .ref sa)]) hx hb dX2_isTreaty_51 hl (by decide) rfl (fun ls hl => ?_)
              refine lv_iload_n hx hb dX2_isTreaty_53 rfl (lv_at hl 8 rfl) ?_
              refine lv_if_ne (tgt := 68) hx hb dX2_isTreaty_54 (by decide) (fun c_54 => ?_) (fun c_54 => ?_)
              · skip
                refine lv_iconst (v := 1) hx hb dX2_isTreaty_68 (by decide) ?_
                refine lv_goto (tgt := 73) hx hb dX2_isTreaty_69 (by decide) ?_
                refine lv_istore_n (lv' := [(1, .int 1), (9, .ref (ad j)), (8, .int (nI j)), (7, .int (nI n)), (6, .ref sd), (5, .ref (ad i)), (4, .int (nI i)), (3, .int (nI n)), (2, .ref sd), (0, .ref sa)]) hx hb dX2_isTreaty_73 rfl hl (by decide) rfl (fun ls hl => ?_)
                refine lv_iinc (v := nI (j + 1)) (lv' := [(8, .int (nI (j + 1))), (1, .int 1), (9, .ref (ad j)), (7, .int (nI n)), (6, .ref sd), (5, .ref (ad i)), (4, .int (nI i)), (3, .int (nI n)), (2, .ref sd), (0, .ref sa)]) hx hb dX2_isTreaty_74 hl (k := 2) rfl (nI_1 _) (by decide) rfl (fun ls hl => ?_)
                refine lv_goto (tgt := 39) hx hb dX2_isTreaty_77 (by decide) ?_
                exact ih39 (j + 1) 1 (by omega) (by omega) (two_ne hF2 c_54) _ _ (hP.part [0, 1] rfl) (hD.part [0, 1] (by decide) rfl) hS ls (lv_sub hl [0, 3, 4, 5, 6, 7, 8, 1, 9] rfl)
              · skip
                refine lv_aload hx hb dX2_isTreaty_57 (lv_at hl 4 rfl) ?_
                refine lv_iconst (v := 0) hx hb dX2_isTreaty_59 (by decide) ?_
                refine r_ld hx hb hK hP 0 rfl (k := i) (by omega) 0 (by omega) (x := (fV i)) rfl dX2_isTreaty_60 ?_
                refine lv_aload hx hb dX2_isTreaty_61 (lv_at hl 0 rfl) ?_
                refine lv_iconst (v := 0) hx hb dX2_isTreaty_63 (by decide) ?_
                refine r_ld hx hb hK hP 0 rfl (k := j) (by omega) 0 (by omega) (x := (fV j)) rfl dX2_isTreaty_64 ?_
                refine lv_icmp_eq (tgt := 72) hx hb dX2_isTreaty_65 (by decide) (fun c_65 => ?_) (fun c_65 => ?_)
                · skip
                  refine lv_iconst (v := 0) hx hb dX2_isTreaty_72 (by decide) ?_
                  refine lv_istore_n (lv' := [(1, .int 0), (9, .ref (ad j)), (8, .int (nI j)), (7, .int (nI n)), (6, .ref sd), (5, .ref (ad i)), (4, .int (nI i)), (3, .int (nI n)), (2, .ref sd), (0, .ref sa)]) hx hb dX2_isTreaty_73 rfl hl (by decide) rfl (fun ls hl => ?_)
                  refine lv_iinc (v := nI (j + 1)) (lv' := [(8, .int (nI (j + 1))), (1, .int 0), (9, .ref (ad j)), (7, .int (nI n)), (6, .ref sd), (5, .ref (ad i)), (4, .int (nI i)), (3, .int (nI n)), (2, .ref sd), (0, .ref sa)]) hx hb dX2_isTreaty_74 hl (k := 2) rfl (nI_1 _) (by decide) rfl (fun ls hl => ?_)
                  refine lv_goto (tgt := 39) hx hb dX2_isTreaty_77 (by decide) ?_
                  exact ih39 (j + 1) 0 (by omega) (by omega) (two_st hF2 c_54 c_65) _ _ (hP.part [0, 1] rfl) (hD.part [0, 1] (by decide) rfl) hS ls (lv_sub hl [0, 3, 4, 5, 6, 7, 8, 1, 9] rfl)
                · skip
                  refine lv_iconst (v := 1) hx hb dX2_isTreaty_68 (by decide) ?_
                  refine lv_goto (tgt := 73) hx hb dX2_isTreaty_69 (by decide) ?_
                  refine lv_istore_n (lv' := [(1, .int 1), (9, .ref (ad j)), (8, .int (nI j)), (7, .int (nI n)), (6, .ref sd), (5, .ref (ad i)), (4, .int (nI i)), (3, .int (nI n)), (2, .ref sd), (0, .ref sa)]) hx hb dX2_isTreaty_73 rfl hl (by decide) rfl (fun ls hl => ?_)
                  refine lv_iinc (v := nI (j + 1)) (lv' := [(8, .int (nI (j + 1))), (1, .int 1), (9, .ref (ad j)), (7, .int (nI n)), (6, .ref sd), (5, .ref (ad i)), (4, .int (nI i)), (3, .int (nI n)), (2, .ref sd), (0, .ref sa)]) hx hb dX2_isTreaty_74 hl (k := 2) rfl (nI_1 _) (by decide) rfl (fun ls hl => ?_)
                  refine lv_goto (tgt := 39) hx hb dX2_isTreaty_77 (by decide) ?_
                  exact ih39 (j + 1) 1 (by omega) (by omega) (two_go (by omega) (by omega) c_65) _ _ (hP.part [0, 1] rfl) (hD.part [0, 1] (by decide) rfl) hS ls (lv_sub hl [0, 3, 4, 5, 6, 7, 8, 1, 9] rfl)
        exact loop39 (n + 1) 0 v (by omega) (Nat.zero_le _) hF _ _ (hP.part [0, 1] rfl) (hD.part [0, 1] (by decide) rfl) hS ls (lv_sub hl [0, 1, 2, 3, 4, 5, 6, 7, 8] rfl)
  exact loop13 (n + 1) 0 0 (by omega) (Nat.zero_le _) (two_0 _ _) _ _ (hP.part [0, 1] rfl) (hD.part [0, 1] (by decide) rfl) hS ls (lv_sub hl [0, 1, 2, 3, 4] rfl)
