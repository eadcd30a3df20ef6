theorem uX2_X2_median : ∀ w ∈ u_ws RX2 TX2 3, w ∈ wsX2_median := (fun _ h => List.mem_cons_of_mem _ (List.mem_append_right _ h))
set_option maxHeartbeats 4000000 in
set_option maxRecDepth 100000 in
theorem c_X2_median (l : Launch) (hl0 : l.stackTraces = false) (D : va_G) (cA : ClassId) (cR : ClassId) (sa : Nat) (rg : Int32) (st : Int32) (sd : Nat) (n : Nat) (ad : Nat → Nat) (fV : Nat → Int32) (fW : Nat → Int32) (fR : Nat → Int32) (fP : Nat → Int32) (fK : Nat → Int32) (v : Int32) (bt : Int32) (hn : n ≤ 12) (hI : ∀ i, i < n → okD 41 (fK i)) (hv : v = -1 ∨ okD 5 v) (sz : Nat) : Met l yX2_median wsX2_median ({ frames := 0, cells := 1, slots := 41, locals := 0 } : Room) (va_Pc [.ref sa, .int v, .int bt] (Wx D [(cA, .int), (cR, .array .int)] ([(sa, .inr (2, [.int rg, .int st, .ref sd])), (sd, .inl (cR, n, .inr (.inr (.inr (.inr (refsF n ad))))))] ++ rowsC cA n ad fV fW fR fP fK) sz)) (va_Qi (fun (r : Int32) (_ : Unit) => r = medM fK (selM fV v bt) n) (fun (_ : Unit) t => We D [(cA, .int), (cR, .array .int)] ([(sa, .inr (2, [.int rg, .int st, .ref sd])), (sd, .inl (cR, n, .inr (.inr (.inr (.inr (refsF n ad))))))] ++ rowsC cA n ad fV fW fR fP fK) (va_A ([(sa, .inr (2, [.int rg, .int st, .ref sd])), (sd, .inl (cR, n, .inr (.inr (.inr (.inr (refsF n ad))))))] ++ rowsC cA n ad fV fW fR fP fK) sz) t) (va_A ([(sa, .inr (2, [.int rg, .int st, .ref sd])), (sd, .inl (cR, n, .inr (.inr (.inr (.inr (refsF n ad))))))] ++ rowsC cA n ad fV fW fR fP fK) sz)) 1 41 (va_A ([(sa, .inr (2, [.int rg, .int st, .ref sd])), (sd, .inl (cR, n, .inr (.inr (.inr (.inr (refsF n ad))))))] ++ rowsC cA n ad fV fW fR fP fK) sz) := by
  refine mk_z (y := yX2_median) (ws := wsX2_median) (tys := [(cA, .int), (cR, .array .int)]) (wc := ([(sa, .inr (2, [.int rg, .int st, .ref sd])), (sd, .inl (cR, n, .inr (.inr (.inr (.inr (refsF n ad))))))] ++ rowsC cA n ad fV fW fR fP fK)) (sz := sz) (mc := 1) (ms := 41) (cc := cX2_median) (maxL := 7) (ret := (some .int)) [.ref sa, .int v, .int bt] (fun A => va_Qi (fun (r : Int32) (_ : Unit) => r = medM fK (selM fV v bt) n) (fun (_ : Unit) t => We D [(cA, .int), (cR, .array .int)] ([(sa, .inr (2, [.int rg, .int st, .ref sd])), (sd, .inl (cR, n, .inr (.inr (.inr (.inr (refsF n ad))))))] ++ rowsC cA n ad fV fW fR fP fK) A t) A) (by decide) rfl (Nat.le_of_ble_eq_true rfl) ?_
  intro p e s m args below meth c A ls F hr hlocks hname hP hK hD hXE hA hl
  have hx := F.1
  have hb := F.2.1
  have hml := F.2.2.1
  have hown := F.2.2.2.1
  have hts := F.2.2.2.2
  have hS : va_S A s.heap s.heap [] := va_S.rf
  have hNa := qNa_of hXE
  have hCl := qCl_of hXE
  have hNe := qNe_of hXE
  have hl : lv_has ls 7 [(0, .ref sa), (1, .int v), (2, .int bt)] := hl
  refine absQ (fun Q hQ => ?_)
  refine lv_iconst (v := 0) hx hb dX2_median_0 (by decide) ?_
  refine lv_istore_n (lv' := [(3, .int 0), (0, .ref sa), (1, .int v), (2, .int bt)]) hx hb dX2_median_1 rfl hl (by decide) rfl (fun ls hl => ?_)
  refine lv_bipush (v := 41) hx hb dX2_median_2 (by decide) ?_
  refine a_new hx hb (hts (.arrayClass .int) (List.mem_of_getElem? (i := 1) rfl)) hK hP hD hS hA 0 (N := 41) rfl (by decide) rfl (by omega) (Nat.le_of_ble_eq_true rfl) (Nat.le_of_ble_eq_true rfl) dX2_median_4 (fun q4 H hP hD hS => ?_)
  have hP := va_P.swap hP
  have hD := va_D.swap hD
  have hP : va_P D vwCl ([(sa, .inr (2, [.int rg, .int st, .ref sd])), (sd, .inl (cR, n, .inr (.inr (.inr (.inr (refsF n ad)))))), (q4, .inl (cA, 41, .inl (fun _ => 0)))] ++ rowsC cA n ad fV fW fR fP fK) H := hP
  have hD : va_D A ([(sa, .inr (2, [.int rg, .int st, .ref sd])), (sd, .inl (cR, n, .inr (.inr (.inr (.inr (refsF n ad)))))), (q4, .inl (cA, 41, .inl (fun _ => 0)))] ++ rowsC cA n ad fV fW fR fP fK) := hD
  refine lv_astore (lv' := [(4, .ref q4), (3, .int 0), (0, .ref sa), (1, .int v), (2, .int bt)]) hx hb dX2_median_6 hl (by decide) rfl (fun ls hl => ?_)
  refine lv_iconst (v := 0) hx hb dX2_median_8 (by decide) ?_
  refine lv_istore (lv' := [(5, .int 0), (4, .ref q4), (3, .int 0), (0, .ref sa), (1, .int v), (2, .int bt)]) hx hb dX2_median_9 hl (by decide) rfl (fun ls hl => ?_)
  have loop11 : ∀ (k : Nat) (i : Nat) (g : Nat → Int32), (n < i + k) → (i ≤ n) → (Cnt fK (selM fV v bt) i g) →  ∀ (H : Heap) (locs : List Loc), va_P D vwCl ([(sa, .inr (2, [.int rg, .int st, .ref sd])), (sd, .inl (cR, n, .inr (.inr (.inr (.inr (refsF n ad)))))), (q4, .inl (cA, 41, .inl g))] ++ rowsC cA n ad fV fW fR fP fK) H → va_D A ([(sa, .inr (2, [.int rg, .int st, .ref sd])), (sd, .inl (cR, n, .inr (.inr (.inr (.inr (refsF n ad)))))), (q4, .inl (cA, 41, .inl g))] ++ rowsC cA n ad fV fW fR fP fK) → va_S A s.heap H locs → ∀ ls : Array Slot, lv_has ls 7 [(5, .int (nI i)), (4, .ref q4), (3, .int (nI (tot (selM fV v bt) i))), (0, .ref sa), (1, .int v), (2, .int bt)] → W p l e ({ frames := 0, cells := 1, slots := 41, locals := 0 } : Room) s m args below meth c H locs 1 41 Q (F0 m 11 ls []) := by
    intro k
    induction k with
    | zero =>
      intro i g hk hi hC
      exact absurd hk (by omega)
    | succ k ih11 =>
      intro i g hk hi hC H locs hP hD hS ls hl
      refine lv_iload hx hb dX2_median_11 (lv_at hl 0 rfl) ?_
      refine lv_aload_n hx hb dX2_median_13 rfl (lv_at hl 3 rfl) ?_
      refine va_get (D := D) (ci := 2) (v := .ref sd) (C := RX2) (T := TX2) (N := 3) hx hb hts uX2_X2_median hown hK hP 0 rfl rfl 2 (by decide) (hts (.fieldLink RX2 15 "RopeChoicesLaw$Sim" "delegates" "[[I") (List.mem_of_getElem? (i := 2) rfl)) (fun _ h9 => h9) rfl dX2_median_14 ?_
      refine va_alen (v := nI n) hx hb hK hP 1 1 rfl rfl rfl dX2_median_17 ?_
      refine lv_icmp_ge (tgt := 72) hx hb dX2_median_18 (by decide) (fun c_18 => ?_) (fun c_18 => ?_)
      · skip
        have g_18 : n ≤ i := nf_ge_t (by omega) (by omega) c_18
        rw [show i = n by omega] at hC hl
        have hl : lv_has ls 7 [(5, .int (nI n)), (4, .ref q4), (3, .int (nI (tot (selM fV v bt) n))), (0, .ref sa), (1, .int v), (2, .int bt)] := hl
        have hto := tot_le (selM fV v bt) n
        refine lv_iconst (v := 0) hx hb dX2_median_72 (by decide) ?_
        refine lv_istore (lv' := [(5, .int 0), (4, .ref q4), (3, .int (nI (tot (selM fV v bt) n))), (0, .ref sa), (1, .int v), (2, .int bt)]) hx hb dX2_median_73 hl (by decide) rfl (fun ls hl => ?_)
        refine lv_iconst (v := 0) hx hb dX2_median_75 (by decide) ?_
        refine lv_istore (lv' := [(6, .int 0), (5, .int 0), (4, .ref q4), (3, .int (nI (tot (selM fV v bt) n))), (0, .ref sa), (1, .int v), (2, .int bt)]) hx hb dX2_median_76 hl (by decide) rfl (fun ls hl => ?_)
        have loop78 : ∀ (k : Nat) (p9 : Nat) (bl : Int32), (41 < p9 + k) → (p9 ≤ 41) → (Below fK (selM fV v bt) n p9 bl) →  ∀ (H : Heap) (locs : List Loc), va_P D vwCl ([(sa, .inr (2, [.int rg, .int st, .ref sd])), (sd, .inl (cR, n, .inr (.inr (.inr (.inr (refsF n ad)))))), (q4, .inl (cA, 41, .inl g))] ++ rowsC cA n ad fV fW fR fP fK) H → va_D A ([(sa, .inr (2, [.int rg, .int st, .ref sd])), (sd, .inl (cR, n, .inr (.inr (.inr (.inr (refsF n ad)))))), (q4, .inl (cA, 41, .inl g))] ++ rowsC cA n ad fV fW fR fP fK) → va_S A s.heap H locs → ∀ ls : Array Slot, lv_has ls 7 [(6, .int (nI p9)), (5, .int bl), (4, .ref q4), (3, .int (nI (tot (selM fV v bt) n))), (0, .ref sa), (1, .int v), (2, .int bt)] → W p l e ({ frames := 0, cells := 1, slots := 41, locals := 0 } : Room) s m args below meth c H locs 1 41 Q (F0 m 78 ls []) := by
          intro k
          induction k with
          | zero =>
            intro p9 bl hk2 hp9 hB
            exact absurd hk2 (by omega)
          | succ k ih78 =>
            intro p9 bl hk2 hp9 hB H locs hP hD hS ls hl
            refine lv_iload hx hb dX2_median_78 (lv_at hl 0 rfl) ?_
            refine lv_bipush (v := 41) hx hb dX2_median_80 (by decide) ?_
            refine lv_icmp_ge (tgt := 116) hx hb dX2_median_82 (by decide) (fun c_82 => ?_) (fun c_82 => ?_)
            · skip
              have g_82 : 41 ≤ p9 := nf_ge_t (by omega) (by omega) c_82
              refine lv_iconst (v := (-1)) hx hb dX2_median_116 (by decide) ?_
              refine useQ hQ ?_
              exact q_i (v := (-1)) F hr hlocks hK hP hD hS [0, 1] [0, 1] () (medM_none (below_41 hI hB (by omega))) rfl rfl rfl rfl (Nat.le_of_ble_eq_true rfl) (Nat.le_of_ble_eq_true rfl) dX2_median_117
            · skip
              have g_82 : p9 < 41 := nf_ge_f (by omega) (by omega) c_82
              refine lv_iload hx hb dX2_median_85 (lv_at hl 1 rfl) ?_
              refine lv_aload hx hb dX2_median_87 (lv_at hl 2 rfl) ?_
              refine lv_iload hx hb dX2_median_89 (lv_at hl 0 rfl) ?_
              refine a_ld (k := p9) hx hb hK hP 2 0 rfl rfl (by omega) (by omega) dX2_median_91 ?_
              refine lv_iadd hx hb dX2_median_92 ?_
              refine lv_istore (lv' := [(5, .int (bl + (g p9))), (6, .int (nI p9)), (4, .ref q4), (3, .int (nI (tot (selM fV v bt) n))), (0, .ref sa), (1, .int v), (2, .int bt)]) hx hb dX2_median_93 hl (by decide) rfl (fun ls hl => ?_)
              refine lv_iload_n hx hb dX2_median_95 rfl (lv_at hl 3 rfl) ?_
              refine lv_if_le (tgt := 110) hx hb dX2_median_96 (by decide) (fun c_96 => ?_) (fun c_96 => ?_)
              · skip
                have g_96 : tot (selM fV v bt) n ≤ 0 := nf_le_t (by omega) (by omega) c_96
                refine lv_iinc (v := nI (p9 + 1)) (lv' := [(6, .int (nI (p9 + 1))), (5, .int (bl + (g p9))), (4, .ref q4), (3, .int (nI (tot (selM fV v bt) n))), (0, .ref sa), (1, .int v), (2, .int bt)]) hx hb dX2_median_110 hl (k := 1) rfl (nI_1 _) (by decide) rfl (fun ls hl => ?_)
                refine lv_goto (tgt := 78) hx hb dX2_median_113 (by decide) ?_
                exact ih78 (p9 + 1) (bl + (g p9)) (by omega) (by omega) (below_s hn hI hC hB (by omega) (Or.inl c_96)) _ _ (hP.part [0, 1, 2] rfl) (hD.part [0, 1, 2] (by decide) rfl) hS ls (lv_sub hl [0, 1, 2, 3, 4, 5, 6] rfl)
              · skip
                have g_96 : 0 < tot (selM fV v bt) n := nf_le_f (by omega) (by omega) c_96
                refine lv_iconst (v := 2) hx hb dX2_median_99 (by decide) ?_
                refine lv_iload hx hb dX2_median_100 (lv_at hl 0 rfl) ?_
                refine lv_imul hx hb dX2_median_102 ?_
                refine lv_iload_n hx hb dX2_median_103 rfl (lv_at hl 3 rfl) ?_
                refine lv_icmp_lt (tgt := 110) hx hb dX2_median_104 (by decide) (fun c_104 => ?_) (fun c_104 => ?_)
                · skip
                  refine lv_iinc (v := nI (p9 + 1)) (lv' := [(6, .int (nI (p9 + 1))), (5, .int (bl + (g p9))), (4, .ref q4), (3, .int (nI (tot (selM fV v bt) n))), (0, .ref sa), (1, .int v), (2, .int bt)]) hx hb dX2_median_110 hl (k := 1) rfl (nI_1 _) (by decide) rfl (fun ls hl => ?_)
                  refine lv_goto (tgt := 78) hx hb dX2_median_113 (by decide) ?_
                  exact ih78 (p9 + 1) (bl + (g p9)) (by omega) (by omega) (below_s hn hI hC hB (by omega) (Or.inr c_104)) _ _ (hP.part [0, 1, 2] rfl) (hD.part [0, 1, 2] (by decide) rfl) hS ls (lv_sub hl [0, 1, 2, 3, 4, 5, 6] rfl)
                · skip
                  refine lv_iload hx hb dX2_median_107 (lv_at hl 1 rfl) ?_
                  refine useQ hQ ?_
                  exact q_i (v := nI p9) F hr hlocks hK hP hD hS [0, 1] [0, 1] () (below_r hn hI hC hB (by omega) c_96 c_104) rfl rfl rfl rfl (Nat.le_of_ble_eq_true rfl) (Nat.le_of_ble_eq_true rfl) dX2_median_109
        exact loop78 (42) 0 0 (by omega) (Nat.zero_le _) (below_0 hI) _ _ (hP.part [0, 1, 2] rfl) (hD.part [0, 1, 2] (by decide) rfl) hS ls (lv_sub hl [0, 1, 2, 3, 4, 5, 6] rfl)
      · skip
        have g_18 : i < n := nf_ge_f (by omega) (by omega) c_18
        refine lv_iload hx hb dX2_median_21 (lv_at hl 0 rfl) ?_
        refine lv_iload_n hx hb dX2_median_23 rfl (lv_at hl 5 rfl) ?_
        refine lv_icmp_eq (tgt := 66) hx hb dX2_median_24 (by decide) (fun c_24 => ?_) (fun c_24 => ?_)
        · skip
          have hs9 : ¬ (selM fV v bt) i = true := selM_f1 c_24
          have ht9 : tot (selM fV v bt) i = tot (selM fV v bt) (i + 1) := by rw [tot_s, if_neg hs9]; rfl
          rw [ht9] at hl
          have hl : lv_has ls 7 [(5, .int (nI i)), (4, .ref q4), (3, .int (nI (tot (selM fV v bt) (i + 1)))), (0, .ref sa), (1, .int v), (2, .int bt)] := hl
          refine lv_iinc (v := nI (i + 1)) (lv' := [(5, .int (nI (i + 1))), (4, .ref q4), (3, .int (nI (tot (selM fV v bt) (i + 1)))), (0, .ref sa), (1, .int v), (2, .int bt)]) hx hb dX2_median_66 hl (k := 0) rfl (nI_1 _) (by decide) rfl (fun ls hl => ?_)
          refine lv_goto (tgt := 11) hx hb dX2_median_69 (by decide) ?_
          exact ih11 (i + 1) g (by omega) (by omega) (cnt_skip hC hs9) _ _ (hP.part [0, 1, 2] rfl) (hD.part [0, 1, 2] (by decide) rfl) hS ls (lv_sub hl [0, 1, 2, 3, 4, 5] rfl)
        · skip
          refine lv_iload_n hx hb dX2_median_27 rfl (lv_at hl 4 rfl) ?_
          refine lv_if_lt (tgt := 47) hx hb dX2_median_28 (by decide) (fun c_28 => ?_) (fun c_28 => ?_)
          · skip
            have hs9 : (selM fV v bt) i = true := selM_t c_24 (Or.inl (v_neg hv c_28))
            obtain ⟨y9, hy9, he9⟩ := hI i (by omega)
            refine lv_aload hx hb dX2_median_47 (lv_at hl 1 rfl) ?_
            refine lv_aload_n hx hb dX2_median_49 rfl (lv_at hl 3 rfl) ?_
            refine va_get (D := D) (ci := 2) (v := .ref sd) (C := RX2) (T := TX2) (N := 3) hx hb hts uX2_X2_median hown hK hP 0 rfl rfl 2 (by decide) (hts (.fieldLink RX2 15 "RopeChoicesLaw$Sim" "delegates" "[[I") (List.mem_of_getElem? (i := 2) rfl)) (fun _ h9 => h9) rfl dX2_median_50 ?_
            refine lv_iload hx hb dX2_median_53 (lv_at hl 0 rfl) ?_
            refine q_ld hx hb hK hP 1 1 rfl rfl (by omega) (by omega) (refsF_at (by omega)) dX2_median_55 ?_
            refine lv_iconst (v := 4) hx hb dX2_median_56 (by decide) ?_
            refine r_ld hx hb hK hP 0 rfl (k := i) (by omega) 4 (by omega) (x := (nI y9)) he9 dX2_median_57 ?_
            refine lv_dup2_11 hx hb dX2_median_58 rfl rfl ?_
            refine a_ld (k := y9) hx hb hK hP 2 0 rfl rfl (by omega) (by omega) dX2_median_59 ?_
            refine lv_iconst (v := 1) hx hb dX2_median_60 (by decide) ?_
            refine lv_iadd hx hb dX2_median_61 ?_
            refine a_st (k := y9) hx hb hK hP hD hS 2 0 rfl rfl (by omega) (by omega) dX2_median_62 (fun H locs hP hD hS => ?_)
            have hP : va_P D vwCl ([(sa, .inr (2, [.int rg, .int st, .ref sd])), (sd, .inl (cR, n, .inr (.inr (.inr (.inr (refsF n ad)))))), (q4, .inl (cA, 41, .inl (upd g y9 ((g y9) + 1))))] ++ rowsC cA n ad fV fW fR fP fK) H := hP
            have hD : va_D A ([(sa, .inr (2, [.int rg, .int st, .ref sd])), (sd, .inl (cR, n, .inr (.inr (.inr (.inr (refsF n ad)))))), (q4, .inl (cA, 41, .inl (upd g y9 ((g y9) + 1))))] ++ rowsC cA n ad fV fW fR fP fK) := hD
            refine lv_iinc (v := nI (tot (selM fV v bt) (i + 1))) (lv' := [(3, .int (nI (tot (selM fV v bt) (i + 1)))), (5, .int (nI i)), (4, .ref q4), (0, .ref sa), (1, .int v), (2, .int bt)]) hx hb dX2_median_63 hl (k := 2) rfl (show nI (tot (selM fV v bt) i) + 1 = nI (tot (selM fV v bt) (i + 1)) by rw [nI_1, tot_s, if_pos hs9]) (by decide) rfl (fun ls hl => ?_)
            refine lv_iinc (v := nI (i + 1)) (lv' := [(5, .int (nI (i + 1))), (3, .int (nI (tot (selM fV v bt) (i + 1)))), (4, .ref q4), (0, .ref sa), (1, .int v), (2, .int bt)]) hx hb dX2_median_66 hl (k := 1) rfl (nI_1 _) (by decide) rfl (fun ls hl => ?_)
            refine lv_goto (tgt := 11) hx hb dX2_median_69 (by decide) ?_
            exact ih11 (i + 1) (upd g y9 ((g y9) + 1)) (by omega) (by omega) (cnt_put hC hs9 hy9 he9) _ _ (hP.part [0, 1, 2] rfl) (hD.part [0, 1, 2] (by decide) rfl) hS ls (lv_sub hl [0, 2, 1, 3, 4, 5] rfl)
          · skip
            refine lv_aload_n hx hb dX2_median_31 rfl (lv_at hl 3 rfl) ?_
            refine va_get (D := D) (ci := 2) (v := .ref sd) (C := RX2) (T := TX2) (N := 3) hx hb hts uX2_X2_median hown hK hP 0 rfl rfl 2 (by decide) (hts (.fieldLink RX2 15 "RopeChoicesLaw$Sim" "delegates" "[[I") (List.mem_of_getElem? (i := 2) rfl)) (fun _ h9 => h9) rfl dX2_median_32 ?_
            refine lv_iload hx hb dX2_median_35 (lv_at hl 0 rfl) ?_
            refine q_ld hx hb hK hP 1 1 rfl rfl (by omega) (by omega) (refsF_at (by omega)) dX2_median_37 ?_
            refine lv_iconst (v := 0) hx hb dX2_median_38 (by decide) ?_
            refine r_ld hx hb hK hP 0 rfl (k := i) (by omega) 0 (by omega) (x := (fV i)) rfl dX2_median_39 ?_
            refine lv_iload_n hx hb dX2_median_40 rfl (lv_at hl 4 rfl) ?_
            refine lv_icmp_eq (tgt := 47) hx hb dX2_median_41 (by decide) (fun c_41 => ?_) (fun c_41 => ?_)
            · skip
              have hs9 : (selM fV v bt) i = true := selM_t c_24 (Or.inr c_41)
              obtain ⟨y9, hy9, he9⟩ := hI i (by omega)
              refine lv_aload hx hb dX2_median_47 (lv_at hl 1 rfl) ?_
              refine lv_aload_n hx hb dX2_median_49 rfl (lv_at hl 3 rfl) ?_
              refine va_get (D := D) (ci := 2) (v := .ref sd) (C := RX2) (T := TX2) (N := 3) hx hb hts uX2_X2_median hown hK hP 0 rfl rfl 2 (by decide) (hts (.fieldLink RX2 15 "RopeChoicesLaw$Sim" "delegates" "[[I") (List.mem_of_getElem? (i := 2) rfl)) (fun _ h9 => h9) rfl dX2_median_50 ?_
              refine lv_iload hx hb dX2_median_53 (lv_at hl 0 rfl) ?_
              refine q_ld hx hb hK hP 1 1 rfl rfl (by omega) (by omega) (refsF_at (by omega)) dX2_median_55 ?_
              refine lv_iconst (v := 4) hx hb dX2_median_56 (by decide) ?_
              refine r_ld hx hb hK hP 0 rfl (k := i) (by omega) 4 (by omega) (x := (nI y9)) he9 dX2_median_57 ?_
              refine lv_dup2_11 hx hb dX2_median_58 rfl rfl ?_
              refine a_ld (k := y9) hx hb hK hP 2 0 rfl rfl (by omega) (by omega) dX2_median_59 ?_
              refine lv_iconst (v := 1) hx hb dX2_median_60 (by decide) ?_
              refine lv_iadd hx hb dX2_median_61 ?_
              refine a_st (k := y9) hx hb hK hP hD hS 2 0 rfl rfl (by omega) (by omega) dX2_median_62 (fun H locs hP hD hS => ?_)
              have hP : va_P D vwCl ([(sa, .inr (2, [.int rg, .int st, .ref sd])), (sd, .inl (cR, n, .inr (.inr (.inr (.inr (refsF n ad)))))), (q4, .inl (cA, 41, .inl (upd g y9 ((g y9) + 1))))] ++ rowsC cA n ad fV fW fR fP fK) H := hP
              have hD : va_D A ([(sa, .inr (2, [.int rg, .int st, .ref sd])), (sd, .inl (cR, n, .inr (.inr (.inr (.inr (refsF n ad)))))), (q4, .inl (cA, 41, .inl (upd g y9 ((g y9) + 1))))] ++ rowsC cA n ad fV fW fR fP fK) := hD
              refine lv_iinc (v := nI (tot (selM fV v bt) (i + 1))) (lv' := [(3, .int (nI (tot (selM fV v bt) (i + 1)))), (5, .int (nI i)), (4, .ref q4), (0, .ref sa), (1, .int v), (2, .int bt)]) hx hb dX2_median_63 hl (k := 2) rfl (show nI (tot (selM fV v bt) i) + 1 = nI (tot (selM fV v bt) (i + 1)) by rw [nI_1, tot_s, if_pos hs9]) (by decide) rfl (fun ls hl => ?_)
              refine lv_iinc (v := nI (i + 1)) (lv' := [(5, .int (nI (i + 1))), (3, .int (nI (tot (selM fV v bt) (i + 1)))), (4, .ref q4), (0, .ref sa), (1, .int v), (2, .int bt)]) hx hb dX2_median_66 hl (k := 1) rfl (nI_1 _) (by decide) rfl (fun ls hl => ?_)
              refine lv_goto (tgt := 11) hx hb dX2_median_69 (by decide) ?_
              exact ih11 (i + 1) (upd g y9 ((g y9) + 1)) (by omega) (by omega) (cnt_put hC hs9 hy9 he9) _ _ (hP.part [0, 1, 2] rfl) (hD.part [0, 1, 2] (by decide) rfl) hS ls (lv_sub hl [0, 2, 1, 3, 4, 5] rfl)
            · skip
              refine lv_goto (tgt := 66) hx hb dX2_median_44 (by decide) ?_
              have hs9 : ¬ (selM fV v bt) i = true := selM_f2 (v_pos c_28) c_41
              have ht9 : tot (selM fV v bt) i = tot (selM fV v bt) (i + 1) := by rw [tot_s, if_neg hs9]; rfl
              rw [ht9] at hl
              have hl : lv_has ls 7 [(5, .int (nI i)), (4, .ref q4), (3, .int (nI (tot (selM fV v bt) (i + 1)))), (0, .ref sa), (1, .int v), (2, .int bt)] := hl
              refine lv_iinc (v := nI (i + 1)) (lv' := [(5, .int (nI (i + 1))), (4, .ref q4), (3, .int (nI (tot (selM fV v bt) (i + 1)))), (0, .ref sa), (1, .int v), (2, .int bt)]) hx hb dX2_median_66 hl (k := 0) rfl (nI_1 _) (by decide) rfl (fun ls hl => ?_)
              refine lv_goto (tgt := 11) hx hb dX2_median_69 (by decide) ?_
              exact ih11 (i + 1) g (by omega) (by omega) (cnt_skip hC hs9) _ _ (hP.part [0, 1, 2] rfl) (hD.part [0, 1, 2] (by decide) rfl) hS ls (lv_sub hl [0, 1, 2, 3, 4, 5] rfl)
  exact loop11 (n + 1) 0 (fun _ => 0) (by omega) (Nat.zero_le _) (fun q hq => rfl) _ _ (hP.part [0, 1, 2] rfl) (hD.part [0, 1, 2] (by decide) rfl) hS ls (lv_sub hl [0, 1, 2, 3, 4, 5] rfl)
theorem uX2_X2_step : ∀ w ∈ u_ws RX2 TX2 3, w ∈ wsX2_step := (fun _ h => List.mem_cons_of_mem _ (List.mem_append_right _ h))
set_option maxHeartbeats 4000000 in
set_option maxRecDepth 100000 in
theorem c_X2_step (l : Launch) (hl0 : l.stackTraces = false) (D : va_G) (cA : ClassId) (cR : ClassId) (sa : Nat) (rg : Int32) (st : Int32) (sd : Nat) (n : Nat) (ad : Nat → Nat) (fV : Nat → Int32) (fW : Nat → Int32) (fR : Nat → Int32) (fP : Nat → Int32) (fK : Nat → Int32) (j : Nat) (t : Int32) (hn : n ≤ 12) (hj : j < n) (hV : Inv fW fR fP fK n) (ht : okD 41 t) (sz : Nat) : Met l yX2_step wsX2_step ({ frames := 1, cells := 0, slots := 0, locals := 40 } : Room) (va_Pc [.ref sa, .int (nI j), .int t] (Wx D [(cA, .int), (cR, .array .int)] ([(sa, .inr (2, [.int rg, .int st, .ref sd])), (sd, .inl (cR, n, .inr (.inr (.inr (.inr (refsF n ad))))))] ++ rowsC cA n ad fV fW fR fP fK) sz)) (va_Qi (fun (r : Int32) (_ : Unit) => r = stepC (fW j) (fR j) (fP j) (fK j) t) (fun (_ : Unit) t => We D [(cA, .int), (cR, .array .int)] ([(sa, .inr (2, [.int rg, .int st, .ref sd])), (sd, .inl (cR, n, .inr (.inr (.inr (.inr (refsF n ad))))))] ++ rowsC cA n ad fV fW fR fP fK) (va_A ([(sa, .inr (2, [.int rg, .int st, .ref sd])), (sd, .inl (cR, n, .inr (.inr (.inr (.inr (refsF n ad))))))] ++ rowsC cA n ad fV fW fR fP fK) sz) t) (va_A ([(sa, .inr (2, [.int rg, .int st, .ref sd])), (sd, .inl (cR, n, .inr (.inr (.inr (.inr (refsF n ad))))))] ++ rowsC cA n ad fV fW fR fP fK) sz)) 0 0 (va_A ([(sa, .inr (2, [.int rg, .int st, .ref sd])), (sd, .inl (cR, n, .inr (.inr (.inr (.inr (refsF n ad))))))] ++ rowsC cA n ad fV fW fR fP fK) sz) := by
  refine mk_z (y := yX2_step) (ws := wsX2_step) (tys := [(cA, .int), (cR, .array .int)]) (wc := ([(sa, .inr (2, [.int rg, .int st, .ref sd])), (sd, .inl (cR, n, .inr (.inr (.inr (.inr (refsF n ad))))))] ++ rowsC cA n ad fV fW fR fP fK)) (sz := sz) (mc := 0) (ms := 0) (cc := cX2_step) (maxL := 7) (ret := (some .int)) [.ref sa, .int (nI j), .int t] (fun A => va_Qi (fun (r : Int32) (_ : Unit) => r = stepC (fW j) (fR j) (fP j) (fK j) t) (fun (_ : Unit) t => We D [(cA, .int), (cR, .array .int)] ([(sa, .inr (2, [.int rg, .int st, .ref sd])), (sd, .inl (cR, n, .inr (.inr (.inr (.inr (refsF n ad))))))] ++ rowsC cA n ad fV fW fR fP fK) A t) A) (by decide) rfl (Nat.le_of_ble_eq_true rfl) ?_
  intro p e s m args below meth c A ls F hr hlocks hname hP hK hD hXE hA hl
  have hx := F.1
  have hb := F.2.1
  have hml := F.2.2.1
  have hown := F.2.2.2.1
  have hts := F.2.2.2.2
  have hS : va_S A s.heap s.heap [] := va_S.rf
  have hNa := qNa_of hXE
  have hCl := qCl_of hXE
  have hNe := qNe_of hXE
  have hl : lv_has ls 7 [(0, .ref sa), (1, .int (nI j)), (2, .int t)] := hl
  refine absQ (fun Q hQ => ?_)
  have bW : sm 0 40 (fW j) := sm_w (sm_D (by omega) (hV j hj).1) (by omega) (by omega)
  have bR : sm 0 20 (fR j) := sm_w (sm_B (by omega) (hV j hj).2.1) (by omega) (by omega)
  have bP9 : sm 0 20 (fP j) := sm_w (sm_B (by omega) (hV j hj).2.2.1) (by omega) (by omega)
  have bK : sm 0 40 (fK j) := sm_w (sm_D (by omega) (hV j hj).2.2.2) (by omega) (by omega)
  have bT : sm 0 40 t := sm_w (sm_D (by omega) ht) (by omega) (by omega)
  have bT1 : sm (-1) 40 t := sm_w bT (by omega) (by omega)
  have bR2 : (fR j).toInt ≤ 20 := bR.2
  have bR1 : 0 ≤ (fR j).toInt := bR.1
  have bP2 : (fP j).toInt ≤ 20 := bP9.2
  have bP1 : 0 ≤ (fP j).toInt := bP9.1
  refine lv_aload_n hx hb dX2_step_0 rfl (lv_at hl 0 rfl) ?_
  refine va_get (D := D) (ci := 2) (v := .ref sd) (C := RX2) (T := TX2) (N := 3) hx hb hts uX2_X2_step hown hK hP 0 rfl rfl 2 (by decide) (hts (.fieldLink RX2 15 "RopeChoicesLaw$Sim" "delegates" "[[I") (List.mem_of_getElem? (i := 1) rfl)) (fun _ h9 => h9) rfl dX2_step_1 ?_
  refine lv_iload_n hx hb dX2_step_4 rfl (lv_at hl 1 rfl) ?_
  refine q_ld hx hb hK hP 1 1 rfl rfl (by omega) (by omega) (refsF_at (by omega)) dX2_step_5 ?_
  refine lv_astore_n (lv' := [(3, .ref (ad j)), (0, .ref sa), (1, .int (nI j)), (2, .int t)]) hx hb dX2_step_6 rfl hl (by decide) rfl (fun ls hl => ?_)
  have join64 : ∀ (g : Int32), (g = nearW (fW j) (fR j) t) → ∀ (H : Heap) (locs : List Loc), va_P D vwCl ([(sa, .inr (2, [.int rg, .int st, .ref sd])), (sd, .inl (cR, n, .inr (.inr (.inr (.inr (refsF n ad))))))] ++ rowsC cA n ad fV fW fR fP fK) H → va_D A ([(sa, .inr (2, [.int rg, .int st, .ref sd])), (sd, .inl (cR, n, .inr (.inr (.inr (.inr (refsF n ad))))))] ++ rowsC cA n ad fV fW fR fP fK) → va_S A s.heap H locs → ∀ ls : Array Slot, lv_has ls 7 [(4, .int g), (3, .ref (ad j)), (0, .ref sa), (1, .int (nI j)), (2, .int t)] → W p l e ({ frames := 1, cells := 0, slots := 0, locals := 40 } : Room) s m args below meth c H locs 0 0 Q (F0 m 64 ls []) := by
    intro g hG H locs hP hD hS ls hl
    have bG : sm 0 40 g := by rw [hG]; exact near_b bW bR bT
    have bG1 : sm (-1) 40 g := sm_w bG (by omega) (by omega)
    refine lv_aload_n hx hb dX2_step_64 rfl (lv_at hl 1 rfl) ?_
    refine lv_iconst (v := 4) hx hb dX2_step_65 (by decide) ?_
    refine r_ld hx hb hK hP 0 rfl (k := j) (by omega) 4 (by omega) (x := (fK j)) rfl dX2_step_66 ?_
    refine lv_istore (lv' := [(5, .int (fK j)), (4, .int g), (3, .ref (ad j)), (0, .ref sa), (1, .int (nI j)), (2, .int t)]) hx hb dX2_step_67 hl (by decide) rfl (fun ls hl => ?_)
    refine lv_iconst (v := 0) hx hb dX2_step_69 (by decide) ?_
    refine lv_istore (lv' := [(6, .int 0), (5, .int (fK j)), (4, .int g), (3, .ref (ad j)), (0, .ref sa), (1, .int (nI j)), (2, .int t)]) hx hb dX2_step_70 hl (by decide) rfl (fun ls hl => ?_)
    have loop72 : ∀ (k : Nat) (i : Nat) (a : Int32), (20 < i + k) → ((i : Int) ≤ (fP j).toInt) → (a = cutTo g (fK j - nI i) (fK j + nI i)) →  ∀ (H : Heap) (locs : List Loc), va_P D vwCl ([(sa, .inr (2, [.int rg, .int st, .ref sd])), (sd, .inl (cR, n, .inr (.inr (.inr (.inr (refsF n ad))))))] ++ rowsC cA n ad fV fW fR fP fK) H → va_D A ([(sa, .inr (2, [.int rg, .int st, .ref sd])), (sd, .inl (cR, n, .inr (.inr (.inr (.inr (refsF n ad))))))] ++ rowsC cA n ad fV fW fR fP fK) → va_S A s.heap H locs → ∀ ls : Array Slot, lv_has ls 7 [(6, .int (nI i)), (5, .int a), (4, .int g), (3, .ref (ad j)), (0, .ref sa), (1, .int (nI j)), (2, .int t)] → W p l e ({ frames := 1, cells := 0, slots := 0, locals := 40 } : Room) s m args below meth c H locs 0 0 Q (F0 m 72 ls []) := by
      intro k
      induction k with
      | zero =>
        intro i a hk hi ha
        exact absurd hk (by omega)
      | succ k ih72 =>
        intro i a hk hi ha H locs hP hD hS ls hl
        refine lv_iload hx hb dX2_step_72 (lv_at hl 0 rfl) ?_
        refine lv_aload_n hx hb dX2_step_74 rfl (lv_at hl 3 rfl) ?_
        refine lv_iconst (v := 3) hx hb dX2_step_75 (by decide) ?_
        refine r_ld hx hb hK hP 0 rfl (k := j) (by omega) 3 (by omega) (x := (fP j)) rfl dX2_step_76 ?_
        refine lv_icmp_ge (tgt := 110) hx hb dX2_step_77 (by decide) (fun c_77 => ?_) (fun c_77 => ?_)
        · skip
          refine lv_iload hx hb dX2_step_110 (lv_at hl 1 rfl) ?_
          refine useQ hQ ?_
          exact q_i (v := a) F hr hlocks hK hP hD hS [0, 1] [0, 1] () ((near_r bK bP9 bG1 hi ha c_77).trans (by rw [hG]; rfl)) rfl rfl rfl rfl (Nat.le_of_ble_eq_true rfl) (Nat.le_of_ble_eq_true rfl) dX2_step_112
        · skip
          refine lv_iload hx hb dX2_step_80 (lv_at hl 1 rfl) ?_
          refine lv_iload hx hb dX2_step_82 (lv_at hl 2 rfl) ?_
          refine lv_icmp_eq (tgt := 110) hx hb dX2_step_84 (by decide) (fun c_84 => ?_) (fun c_84 => ?_)
          · skip
            refine lv_iload hx hb dX2_step_110 (lv_at hl 1 rfl) ?_
            refine useQ hQ ?_
            exact q_i (v := a) F hr hlocks hK hP hD hS [0, 1] [0, 1] () ((near_e bK bP9 bG1 hi ha c_84).trans (by rw [hG]; rfl)) rfl rfl rfl rfl (Nat.le_of_ble_eq_true rfl) (Nat.le_of_ble_eq_true rfl) dX2_step_112
          · skip
            refine lv_iload hx hb dX2_step_87 (lv_at hl 1 rfl) ?_
            refine lv_iload hx hb dX2_step_89 (lv_at hl 2 rfl) ?_
            refine lv_iload hx hb dX2_step_91 (lv_at hl 1 rfl) ?_
            refine lv_icmp_le (tgt := 100) hx hb dX2_step_93 (by decide) (fun c_93 => ?_) (fun c_93 => ?_)
            · skip
              refine lv_iconst (v := (-1)) hx hb dX2_step_100 (by decide) ?_
              refine lv_iadd hx hb dX2_step_101 ?_
              refine lv_istore (lv' := [(5, .int (a + (-1))), (6, .int (nI i)), (4, .int g), (3, .ref (ad j)), (0, .ref sa), (1, .int (nI j)), (2, .int t)]) hx hb dX2_step_102 hl (by decide) rfl (fun ls hl => ?_)
              refine lv_iinc (v := nI (i + 1)) (lv' := [(6, .int (nI (i + 1))), (5, .int (a + (-1))), (4, .int g), (3, .ref (ad j)), (0, .ref sa), (1, .int (nI j)), (2, .int t)]) hx hb dX2_step_104 hl (k := 1) rfl (nI_1 _) (by decide) rfl (fun ls hl => ?_)
              refine lv_goto (tgt := 72) hx hb dX2_step_107 (by decide) ?_
              exact ih72 (i + 1) (a + (-1)) (by omega) (near_go (by omega) c_77) (near_ds bK bG1 (by omega) ha c_84 c_93) _ _ (hP.part [0, 1] rfl) (hD.part [0, 1] (by decide) rfl) hS ls (lv_sub hl [0, 1, 2, 3, 4, 5, 6] rfl)
            · skip
              refine lv_iconst (v := 1) hx hb dX2_step_96 (by decide) ?_
              refine lv_goto (tgt := 101) hx hb dX2_step_97 (by decide) ?_
              refine lv_iadd hx hb dX2_step_101 ?_
              refine lv_istore (lv' := [(5, .int (a + 1)), (6, .int (nI i)), (4, .int g), (3, .ref (ad j)), (0, .ref sa), (1, .int (nI j)), (2, .int t)]) hx hb dX2_step_102 hl (by decide) rfl (fun ls hl => ?_)
              refine lv_iinc (v := nI (i + 1)) (lv' := [(6, .int (nI (i + 1))), (5, .int (a + 1)), (4, .int g), (3, .ref (ad j)), (0, .ref sa), (1, .int (nI j)), (2, .int t)]) hx hb dX2_step_104 hl (k := 1) rfl (nI_1 _) (by decide) rfl (fun ls hl => ?_)
              refine lv_goto (tgt := 72) hx hb dX2_step_107 (by decide) ?_
              exact ih72 (i + 1) (a + 1) (by omega) (near_go (by omega) c_77) (near_us bK bG1 (by omega) ha c_84 c_93) _ _ (hP.part [0, 1] rfl) (hD.part [0, 1] (by decide) rfl) hS ls (lv_sub hl [0, 1, 2, 3, 4, 5, 6] rfl)
    exact loop72 (21) 0 (fK j) (by omega) (by omega) (near_0 _ _ bK bG1) _ _ (hP.part [0, 1] rfl) (hD.part [0, 1] (by decide) rfl) hS ls (lv_sub hl [0, 1, 2, 3, 4, 5, 6] rfl)
  refine lv_aload_n hx hb dX2_step_7 rfl (lv_at hl 0 rfl) ?_
  refine lv_iconst (v := 1) hx hb dX2_step_8 (by decide) ?_
  refine r_ld hx hb hK hP 0 rfl (k := j) (by omega) 1 (by omega) (x := (fW j)) rfl dX2_step_9 ?_
  refine lv_istore (lv' := [(4, .int (fW j)), (3, .ref (ad j)), (0, .ref sa), (1, .int (nI j)), (2, .int t)]) hx hb dX2_step_10 hl (by decide) rfl (fun ls hl => ?_)
  have loop12 : ∀ (k : Nat) (i : Nat) (g : Int32), (20 < i + k) → ((i : Int) ≤ (fR j).toInt) → (g = cutTo t (fW j - nI i) (fW j + nI i)) →  ∀ (H : Heap) (locs : List Loc), va_P D vwCl ([(sa, .inr (2, [.int rg, .int st, .ref sd])), (sd, .inl (cR, n, .inr (.inr (.inr (.inr (refsF n ad))))))] ++ rowsC cA n ad fV fW fR fP fK) H → va_D A ([(sa, .inr (2, [.int rg, .int st, .ref sd])), (sd, .inl (cR, n, .inr (.inr (.inr (.inr (refsF n ad))))))] ++ rowsC cA n ad fV fW fR fP fK) → va_S A s.heap H locs → ∀ ls : Array Slot, lv_has ls 7 [(4, .int g), (3, .ref (ad j)), (0, .ref sa), (1, .int (nI j)), (2, .int t)] → W p l e ({ frames := 1, cells := 0, slots := 0, locals := 40 } : Room) s m args below meth c H locs 0 0 Q (F0 m 12 ls []) := by
    intro k
    induction k with
    | zero =>
      intro i g hk hi hg
      exact absurd hk (by omega)
    | succ k ih12 =>
      intro i g hk hi hg H locs hP hD hS ls hl
      refine lv_iload hx hb dX2_step_12 (lv_at hl 0 rfl) ?_
      refine lv_iload_n hx hb dX2_step_14 rfl (lv_at hl 4 rfl) ?_
      refine lv_icmp_eq (tgt := 64) hx hb dX2_step_15 (by decide) (fun c_15 => ?_) (fun c_15 => ?_)
      · skip
        exact join64 g (near_e bW bR bT1 hi hg c_15) _ _ (hP.part [0, 1] rfl) (hD.part [0, 1] (by decide) rfl) hS ls (lv_sub hl [0, 1, 2, 3, 4] rfl)
      · skip
        refine lv_iload hx hb dX2_step_18 (lv_at hl 0 rfl) ?_
        refine lv_iload_n hx hb dX2_step_20 rfl (lv_at hl 4 rfl) ?_
        refine lv_iload hx hb dX2_step_21 (lv_at hl 0 rfl) ?_
        refine lv_icmp_le (tgt := 30) hx hb dX2_step_23 (by decide) (fun c_23 => ?_) (fun c_23 => ?_)
        · skip
          refine lv_iconst (v := (-1)) hx hb dX2_step_30 (by decide) ?_
          refine lv_iadd hx hb dX2_step_31 ?_
          refine lv_aload_n hx hb dX2_step_32 rfl (lv_at hl 1 rfl) ?_
          refine lv_iconst (v := 1) hx hb dX2_step_33 (by decide) ?_
          refine r_ld hx hb hK hP 0 rfl (k := j) (by omega) 1 (by omega) (x := (fW j)) rfl dX2_step_34 ?_
          refine lv_isub hx hb dX2_step_35 ?_
          refine va_mabs hx hb (hml.trans hl.1.symm) hown (hts (.methodLink RX2 19 Lib.Math.abs.name) (List.mem_of_getElem? (i := 2) rfl)) (hts (.static Lib.Math.abs.name) (List.mem_of_getElem? (i := 3) rfl)) (hts (.initialized "java/lang/Math") (List.mem_of_getElem? (i := 4) rfl)) (hts (.code Lib.Math.abs.name Lib.Math.abs.code 1 (some .int)) (List.mem_of_getElem? (i := 5) rfl)) (Nat.le_of_ble_eq_true rfl) (Nat.le_of_ble_eq_true rfl) (Nat.le_of_ble_eq_true rfl) (Nat.le_of_ble_eq_true rfl) dX2_step_36 ?_
          refine topi (jabs ((g + (-1)) - (fW j))) rfl ?_
          refine lv_aload_n hx hb dX2_step_39 rfl (lv_at hl 1 rfl) ?_
          refine lv_iconst (v := 2) hx hb dX2_step_40 (by decide) ?_
          refine r_ld hx hb hK hP 0 rfl (k := j) (by omega) 2 (by omega) (x := (fR j)) rfl dX2_step_41 ?_
          refine lv_icmp_gt (tgt := 64) hx hb dX2_step_42 (by decide) (fun c_42 => ?_) (fun c_42 => ?_)
          · skip
            exact join64 g (near_out bW bR bT1 hi hg (near_da bW bT1 (by omega) hg c_15 c_23) c_42) _ _ (hP.part [0, 1] rfl) (hD.part [0, 1] (by decide) rfl) hS ls (lv_sub hl [0, 1, 2, 3, 4] rfl)
          · skip
            refine lv_iload hx hb dX2_step_45 (lv_at hl 0 rfl) ?_
            refine lv_iload_n hx hb dX2_step_47 rfl (lv_at hl 4 rfl) ?_
            refine lv_iload hx hb dX2_step_48 (lv_at hl 0 rfl) ?_
            refine lv_icmp_le (tgt := 57) hx hb dX2_step_50 (by decide) (fun c_50 => ?_) (fun c_50 => ?_)
            · skip
              refine lv_iconst (v := (-1)) hx hb dX2_step_57 (by decide) ?_
              refine lv_iadd hx hb dX2_step_58 ?_
              refine lv_istore (lv' := [(4, .int (g + (-1))), (3, .ref (ad j)), (0, .ref sa), (1, .int (nI j)), (2, .int t)]) hx hb dX2_step_59 hl (by decide) rfl (fun ls hl => ?_)
              refine lv_goto (tgt := 12) hx hb dX2_step_61 (by decide) ?_
              exact ih12 (i + 1) (g + (-1)) (by omega) (near_in (near_da bW bT1 (by omega) hg c_15 c_23) c_42) (near_ds bW bT1 (by omega) hg c_15 c_23) _ _ (hP.part [0, 1] rfl) (hD.part [0, 1] (by decide) rfl) hS ls (lv_sub hl [0, 1, 2, 3, 4] rfl)
            · skip
              exact absurd c_23 c_50
        · skip
          refine lv_iconst (v := 1) hx hb dX2_step_26 (by decide) ?_
          refine lv_goto (tgt := 31) hx hb dX2_step_27 (by decide) ?_
          refine lv_iadd hx hb dX2_step_31 ?_
          refine lv_aload_n hx hb dX2_step_32 rfl (lv_at hl 1 rfl) ?_
          refine lv_iconst (v := 1) hx hb dX2_step_33 (by decide) ?_
          refine r_ld hx hb hK hP 0 rfl (k := j) (by omega) 1 (by omega) (x := (fW j)) rfl dX2_step_34 ?_
          refine lv_isub hx hb dX2_step_35 ?_
          refine va_mabs hx hb (hml.trans hl.1.symm) hown (hts (.methodLink RX2 19 Lib.Math.abs.name) (List.mem_of_getElem? (i := 2) rfl)) (hts (.static Lib.Math.abs.name) (List.mem_of_getElem? (i := 3) rfl)) (hts (.initialized "java/lang/Math") (List.mem_of_getElem? (i := 4) rfl)) (hts (.code Lib.Math.abs.name Lib.Math.abs.code 1 (some .int)) (List.mem_of_getElem? (i := 5) rfl)) (Nat.le_of_ble_eq_true rfl) (Nat.le_of_ble_eq_true rfl) (Nat.le_of_ble_eq_true rfl) (Nat.le_of_ble_eq_true rfl) dX2_step_36 ?_
          refine topi (jabs ((g + 1) - (fW j))) rfl ?_
          refine lv_aload_n hx hb dX2_step_39 rfl (lv_at hl 1 rfl) ?_
          refine lv_iconst (v := 2) hx hb dX2_step_40 (by decide) ?_
          refine r_ld hx hb hK hP 0 rfl (k := j) (by omega) 2 (by omega) (x := (fR j)) rfl dX2_step_41 ?_
          refine lv_icmp_gt (tgt := 64) hx hb dX2_step_42 (by decide) (fun c_42 => ?_) (fun c_42 => ?_)
          · skip
            exact join64 g (near_out bW bR bT1 hi hg (near_ua bW bT1 (by omega) hg c_15 c_23) c_42) _ _ (hP.part [0, 1] rfl) (hD.part [0, 1] (by decide) rfl) hS ls (lv_sub hl [0, 1, 2, 3, 4] rfl)
          · skip
            refine lv_iload hx hb dX2_step_45 (lv_at hl 0 rfl) ?_
            refine lv_iload_n hx hb dX2_step_47 rfl (lv_at hl 4 rfl) ?_
            refine lv_iload hx hb dX2_step_48 (lv_at hl 0 rfl) ?_
            refine lv_icmp_le (tgt := 57) hx hb dX2_step_50 (by decide) (fun c_50 => ?_) (fun c_50 => ?_)
            · skip
              exact absurd c_50 c_23
            · skip
              refine lv_iconst (v := 1) hx hb dX2_step_53 (by decide) ?_
              refine lv_goto (tgt := 58) hx hb dX2_step_54 (by decide) ?_
              refine lv_iadd hx hb dX2_step_58 ?_
              refine lv_istore (lv' := [(4, .int (g + 1)), (3, .ref (ad j)), (0, .ref sa), (1, .int (nI j)), (2, .int t)]) hx hb dX2_step_59 hl (by decide) rfl (fun ls hl => ?_)
              refine lv_goto (tgt := 12) hx hb dX2_step_61 (by decide) ?_
              exact ih12 (i + 1) (g + 1) (by omega) (near_in (near_ua bW bT1 (by omega) hg c_15 c_23) c_42) (near_us bW bT1 (by omega) hg c_15 c_23) _ _ (hP.part [0, 1] rfl) (hD.part [0, 1] (by decide) rfl) hS ls (lv_sub hl [0, 1, 2, 3, 4] rfl)
  exact loop12 (21) 0 (fW j) (by omega) (by omega) (near_0 _ _ bW bT1) _ _ (hP.part [0, 1] rfl) (hD.part [0, 1] (by decide) rfl) hS ls (lv_sub hl [0, 1, 2, 3, 4] rfl)
