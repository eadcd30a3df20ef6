theorem stand_s {g : Nat → Int32} {q : Nat} {b v : Int32} (h : (q = 0 ∧ b = -1 ∧ v = 41) ∨ (1 ≤ q ∧ (b, v) = amin g (q - 1))) (hq : q < 41) (c : g q < v) : (q + 1 = 0 ∧ nI q = -1 ∧ g q = 41) ∨ (1 ≤ q + 1 ∧ (nI q, g q) = amin g (q + 1 - 1)) := by
  refine Or.inr ⟨by omega, ?_⟩
  rcases h with ⟨rfl, rfl, rfl⟩ | ⟨h1, h2⟩
  · rfl
  · obtain ⟨k, rfl⟩ : ∃ k, q = k + 1 := ⟨q - 1, by omega⟩
    exact amin_lt h2 c
theorem stand_n {g : Nat → Int32} {q : Nat} {b v : Int32} (h : (q = 0 ∧ b = -1 ∧ v = 41) ∨ (1 ≤ q ∧ (b, v) = amin g (q - 1))) (hq : q < 41) (c : ¬ g q < v) (hz : g q < 41) : (q + 1 = 0 ∧ b = -1 ∧ v = 41) ∨ (1 ≤ q + 1 ∧ (b, v) = amin g (q + 1 - 1)) := by
  refine Or.inr ⟨by omega, ?_⟩
  rcases h with ⟨rfl, rfl, rfl⟩ | ⟨h1, h2⟩
  · exact absurd hz c
  · obtain ⟨k, rfl⟩ : ∃ k, q = k + 1 := ⟨q - 1, by omega⟩
    exact amin_ge h2 c
theorem stand_e {fW fK : Nat → Int32} {n j q : Nat} {b v : Int32} (h : (q = 0 ∧ b = -1 ∧ v = 41) ∨ (1 ≤ q ∧ (b, v) = amin (fun p => jabs (medF (upd fK j (nI p)) allS n - fW j)) (q - 1))) (hq : q = 41) : b = bestSt fW fK n j := by
  subst hq
  rcases h with ⟨h1, -⟩ | ⟨-, h2⟩
  · exact absurd h1 (by decide)
  · exact congrArg Prod.fst h2
set_option maxHeartbeats 4000000 in
set_option maxRecDepth 100000 in
theorem c_X2_close (l : Launch) (D : va_G) (cA : ClassId) (w : Nat) (j : Nat) (n : Nat) (fw : Nat → Int32) (hn : n ≤ 12) (hj : j < n) (sz : Nat) : Met l yX2_close wsX2_close ({ frames := 0, cells := 0, slots := 0, locals := 0 } : Room) (va_Pc [.ref w, .int (nI j), .int (nI n)] (Wd D [(cA, .int)] [(w, .inl (cA, 12, .inl fw))] sz)) (va_Qv (fun (_ : Unit) => True) (fun (_ : Unit) t => We D [(cA, .int)] [(w, .inl (cA, 12, .inl (closeF fw j n)))] (va_A [(w, .inl (cA, 12, .inl fw))] sz) t) (va_A [(w, .inl (cA, 12, .inl fw))] sz)) 0 0 (va_A [(w, .inl (cA, 12, .inl fw))] sz) := by
  refine mk_met [.ref w, .int (nI j), .int (nI n)] (fun A => va_Qv (fun (_ : Unit) => True) (fun (_ : Unit) t => We D [(cA, .int)] [(w, .inl (cA, 12, .inl (closeF fw j n)))] A t) A) (by decide) rfl (Nat.le_of_ble_eq_true rfl) ?_
  intro p e s m args below meth c A ls F hr hlocks hname hP hK hD hA hl
  have hx := F.1
  have hb := F.2.1
  have hml := F.2.2.1
  have hown := F.2.2.2.1
  have hts := F.2.2.2.2
  have hS : va_S A s.heap s.heap [] := va_S.rf
  have hl : lv_has ls 4 [(0, .ref w), (1, .int (nI j)), (2, .int (nI n))] := hl
  refine absQ (fun Q hQ => ?_)
  refine lv_iload_n hx hb dX2_close_0 rfl (lv_at hl 1 rfl) ?_
  refine lv_istore_n (lv' := [(3, .int (nI j)), (0, .ref w), (1, .int (nI j)), (2, .int (nI n))]) hx hb dX2_close_1 rfl hl (by decide) rfl (fun ls hl => ?_)
  have loop2 : ∀ (k : Nat) (i : Nat) (g : Nat → Int32), (n < i + k) → (i ≤ n - 1) → (j ≤ i) → (g = closeL fw j i) →  ∀ (H : Heap) (locs : List Loc), va_P D vwCl [(w, .inl (cA, 12, .inl g))] H → va_D A [(w, .inl (cA, 12, .inl g))] → va_S A s.heap H locs → ∀ ls : Array Slot, lv_has ls 4 [(3, .int (nI i)), (0, .ref w), (1, .int (nI j)), (2, .int (nI n))] → W p l e ({ frames := 0, cells := 0, slots := 0, locals := 0 } : Room) s m args below meth c H locs 0 0 Q (F0 m 2 ls []) := by
    intro k
    induction k with
    | zero =>
      intro i g hk hi hji hg
      exact absurd hk (by omega)
    | succ k ih2 =>
      intro i g hk hi hji hg H locs hP hD hS ls hl
      refine lv_iload_n hx hb dX2_close_2 rfl (lv_at hl 0 rfl) ?_
      refine lv_iload_n hx hb dX2_close_3 rfl (lv_at hl 3 rfl) ?_
      refine lv_iconst (v := 1) hx hb dX2_close_4 (by decide) ?_
      refine lv_isub hx hb dX2_close_5 ?_
      refine topi (nI (n - 1)) (nI_m1 (by omega)) ?_
      refine lv_icmp_ge (tgt := 23) hx hb dX2_close_6 (by decide) (fun c_6 => ?_) (fun c_6 => ?_)
      · skip
        have g_6 : n - 1 ≤ i := nf_ge_t (by omega) (by omega) c_6
        have g_6 : n ≤ i + 1 := by omega
        have eq_1 : g = (closeF fw j n) := closeL_end hg g_6 hi
        rw [eq_1] at hP hD
        have hP : va_P D vwCl [(w, .inl (cA, 12, .inl (closeF fw j n)))] H := hP
        have hD : va_D A [(w, .inl (cA, 12, .inl (closeF fw j n)))] := hD
        refine useQ hQ ?_
        exact e_v F hr hlocks hK hP hD hS [0] [0] () trivial rfl rfl rfl (Nat.le_of_ble_eq_true rfl) (Nat.le_of_ble_eq_true rfl) dX2_close_23
      · skip
        have g_6 : i < n - 1 := nf_ge_f (by omega) (by omega) c_6
        refine lv_aload_n hx hb dX2_close_9 rfl (lv_at hl 1 rfl) ?_
        refine lv_iload_n hx hb dX2_close_10 rfl (lv_at hl 0 rfl) ?_
        refine lv_aload_n hx hb dX2_close_11 rfl (lv_at hl 1 rfl) ?_
        refine lv_iload_n hx hb dX2_close_12 rfl (lv_at hl 0 rfl) ?_
        refine lv_iconst (v := 1) hx hb dX2_close_13 (by decide) ?_
        refine lv_iadd hx hb dX2_close_14 ?_
        refine topi (nI (i + 1)) (nI_1 _) ?_
        refine a_ld (k := i + 1) hx hb hK hP 0 0 rfl rfl (by omega) (Nat.le_of_ble_eq_true rfl) dX2_close_15 ?_
        refine a_st (k := i) hx hb hK hP hD hS 0 0 rfl rfl (by omega) (Nat.le_of_ble_eq_true rfl) dX2_close_16 (fun H locs hP hD hS => ?_)
        have hP : va_P D vwCl [(w, .inl (cA, 12, .inl (upd g i (g (i + 1)))))] H := hP
        have hD : va_D A [(w, .inl (cA, 12, .inl (upd g i (g (i + 1)))))] := hD
        refine lv_iinc (v := nI (i + 1)) (lv' := [(3, .int (nI (i + 1))), (0, .ref w), (1, .int (nI j)), (2, .int (nI n))]) hx hb dX2_close_17 hl (k := 0) rfl (nI_1 _) (by decide) rfl (fun ls hl => ?_)
        refine lv_goto (tgt := 2) hx hb dX2_close_20 (by decide) ?_
        exact ih2 (i + 1) (upd g i (g (i + 1))) (by omega) (by omega) (by omega) (closeL_s hg hji) _ _ (hP.sub [0] rfl) (hD.sub [0] (by decide) rfl) hS ls (lv_sub hl [0, 1, 2, 3] rfl)
  exact loop2 (n + 1) j fw (by omega) (by omega) (Nat.le_refl _) (closeL_0 _ _) _ _ (hP.sub [0] rfl) (hD.sub [0] (by decide) rfl) hS ls (lv_sub hl [0, 1, 2, 3] rfl)
theorem uX2_X2_can : ∀ w ∈ u_ws RX2 TX2 11, w ∈ wsX2_can := (fun _ h => List.mem_cons_of_mem _ (List.mem_append_right _ h))
set_option maxHeartbeats 4000000 in
set_option maxRecDepth 100000 in
theorem c_X2_can (l : Launch) (D : va_G) (cA : ClassId) (m0 : Nat) (th : Int32) (n : Nat) (rg : Int32) (st : Int32) (bV : Nat) (bW : Nat) (bR : Nat) (bP9 : Nat) (bK : Nat) (bT : Nat) (bC : Nat) (fW : Nat → Int32) (fR : Nat → Int32) (fK : Nat → Int32) (j : Nat) (x : Int32) (hn : n ≤ 12) (hj : j < n) (sz : Nat) : Met l yX2_can wsX2_can ({ frames := 2, cells := 0, slots := 0, locals := 52 } : Room) (va_Pc [.ref m0, .int (nI j), .int x] (Wd D [(cA, .int)] [(m0, .inr (2, [.int th, .int (nI n), .int rg, .int st, .ref bV, .ref bW, .ref bR, .ref bP9, .ref bK, .ref bT, .ref bC])), (bW, .inl (cA, 12, .inl fW)), (bR, .inl (cA, 12, .inl fR)), (bK, .inl (cA, 12, .inl fK))] sz)) (va_Qi (fun (r : Int32) (_ : Unit) => r = bP (canP fW fR fK n st j x)) (fun (_ : Unit) t => We D [(cA, .int)] [(m0, .inr (2, [.int th, .int (nI n), .int rg, .int st, .ref bV, .ref bW, .ref bR, .ref bP9, .ref bK, .ref bT, .ref bC])), (bW, .inl (cA, 12, .inl fW)), (bR, .inl (cA, 12, .inl fR)), (bK, .inl (cA, 12, .inl fK))] (va_A [(m0, .inr (2, [.int th, .int (nI n), .int rg, .int st, .ref bV, .ref bW, .ref bR, .ref bP9, .ref bK, .ref bT, .ref bC])), (bW, .inl (cA, 12, .inl fW)), (bR, .inl (cA, 12, .inl fR)), (bK, .inl (cA, 12, .inl fK))] sz) t) (va_A [(m0, .inr (2, [.int th, .int (nI n), .int rg, .int st, .ref bV, .ref bW, .ref bR, .ref bP9, .ref bK, .ref bT, .ref bC])), (bW, .inl (cA, 12, .inl fW)), (bR, .inl (cA, 12, .inl fR)), (bK, .inl (cA, 12, .inl fK))] sz)) 0 0 (va_A [(m0, .inr (2, [.int th, .int (nI n), .int rg, .int st, .ref bV, .ref bW, .ref bR, .ref bP9, .ref bK, .ref bT, .ref bC])), (bW, .inl (cA, 12, .inl fW)), (bR, .inl (cA, 12, .inl fR)), (bK, .inl (cA, 12, .inl fK))] sz) := by
  refine mk_met [.ref m0, .int (nI j), .int x] (fun A => va_Qi (fun (r : Int32) (_ : Unit) => r = bP (canP fW fR fK n st j x)) (fun (_ : Unit) t => We D [(cA, .int)] [(m0, .inr (2, [.int th, .int (nI n), .int rg, .int st, .ref bV, .ref bW, .ref bR, .ref bP9, .ref bK, .ref bT, .ref bC])), (bW, .inl (cA, 12, .inl fW)), (bR, .inl (cA, 12, .inl fR)), (bK, .inl (cA, 12, .inl fK))] A t) A) (by decide) rfl (Nat.le_of_ble_eq_true rfl) ?_
  intro p e s m args below meth c A ls F hr hlocks hname hP hK hD hA hl
  have hx := F.1
  have hb := F.2.1
  have hml := F.2.2.1
  have hown := F.2.2.2.1
  have hts := F.2.2.2.2
  have hS : va_S A s.heap s.heap [] := va_S.rf
  have hl : lv_has ls 3 [(0, .ref m0), (1, .int (nI j)), (2, .int x)] := hl
  refine absQ (fun Q hQ => ?_)
  refine lv_aload_n hx hb dX2_can_0 rfl (lv_at hl 0 rfl) ?_
  refine lv_iload_n hx hb dX2_can_1 rfl (lv_at hl 1 rfl) ?_
  refine lv_iload_n hx hb dX2_can_2 rfl (lv_at hl 2 rfl) ?_
  have hX_1 : Cut D A [(m0, .inr (2, [.int th, .int (nI n), .int rg, .int st, .ref bV, .ref bW, .ref bR, .ref bP9, .ref bK, .ref bT, .ref bC])), (bW, .inl (cA, 12, .inl fW)), (bR, .inl (cA, 12, .inl fR)), (bK, .inl (cA, 12, .inl fK))] [(m0, .inr (2, [.int th, .int (nI n), .int rg, .int st, .ref bV, .ref bW, .ref bR, .ref bP9, .ref bK, .ref bT, .ref bC])), (bW, .inl (cA, 12, .inl fW)), (bR, .inl (cA, 12, .inl fR))] [(bK, .inl (cA, 12, .inl fK))] [(cA, .int)] [(cA, .int)] [0, 1, 2] [3] [0] := ⟨rfl, rfl, rfl, rfl, by decide, rfl⟩
  refine ki hX_1 hP hD hS hA (kRunV (q := (RX2, TX2, 11)) (As := [.int (nI j), .int x]) (rest := []) F (c_X2_isWilling l D cA m0 th n rg st bV bW bR bP9 bK bT bC fW fR j x hn hj s.heap.size) (cwV 2 hts gX2_can_X2_isWilling rfl rfl rfl (by decide +kernel) ⟨Nat.le_of_ble_eq_true rfl, Nat.le_of_ble_eq_true rfl⟩) hK hP hD hX_1 0 rfl rfl rfl hl.1 rfl (Nat.le_of_ble_eq_true rfl) dX2_can_3 ⟨Nat.le_of_ble_eq_true rfl, Nat.le_of_ble_eq_true rfl⟩) (fun r_2 u_3 H locs hw_4 hP hD hS => ?_)
  have hw_4 : r_2 = bP (jabs (x - fW j) ≤ fR j) := hw_4
  rw [hw_4]
  have hP : va_P D vwCl [(bK, .inl (cA, 12, .inl fK)), (m0, .inr (2, [.int th, .int (nI n), .int rg, .int st, .ref bV, .ref bW, .ref bR, .ref bP9, .ref bK, .ref bT, .ref bC])), (bW, .inl (cA, 12, .inl fW)), (bR, .inl (cA, 12, .inl fR))] H := hP
  have hD : va_D A [(bK, .inl (cA, 12, .inl fK)), (m0, .inr (2, [.int th, .int (nI n), .int rg, .int st, .ref bV, .ref bW, .ref bR, .ref bP9, .ref bK, .ref bT, .ref bC])), (bW, .inl (cA, 12, .inl fW)), (bR, .inl (cA, 12, .inl fR))] := hD
  refine lv_if_eq (tgt := 31) hx hb dX2_can_6 (by decide) (fun c_6 => ?_) (fun c_6 => ?_)
  · skip
    refine lv_iconst (v := 0) hx hb dX2_can_31 (by decide) ?_
    refine useQ hQ ?_
    exact e_z (v := 0) F hr hlocks hK hP hD hS [1, 2, 3, 0] [0] () (by first | exact Or.inl rfl | exact Or.inr rfl | exact bP_01 _) (bP_f (fun z => bP_eq c_6 z.1)) rfl rfl rfl (Nat.le_of_ble_eq_true rfl) (Nat.le_of_ble_eq_true rfl) dX2_can_32
  · skip
    refine lv_aload_n hx hb dX2_can_9 rfl (lv_at hl 0 rfl) ?_
    refine va_get (D := D) (ci := 2) (v := .ref bK) (C := RX2) (T := TX2) (N := 11) hx hb hts uX2_X2_can hown hK hP 1 rfl rfl 8 (by decide) (hts (.fieldLink RX2 26 "RopeChoicesModel" "plank" "[I") (List.mem_of_getElem? (i := 1) rfl)) (fun _ h9 => h9) rfl dX2_can_10 ?_
    refine lv_iload_n hx hb dX2_can_13 rfl (lv_at hl 1 rfl) ?_
    refine a_ld (k := j) hx hb hK hP 0 0 rfl rfl (by omega) (Nat.le_of_ble_eq_true rfl) dX2_can_14 ?_
    refine lv_iload_n hx hb dX2_can_15 rfl (lv_at hl 2 rfl) ?_
    refine lv_icmp_eq (tgt := 27) hx hb dX2_can_16 (by decide) (fun c_16 => ?_) (fun c_16 => ?_)
    · skip
      refine lv_iconst (v := 1) hx hb dX2_can_27 (by decide) ?_
      refine lv_goto (tgt := 32) hx hb dX2_can_28 (by decide) ?_
      refine useQ hQ ?_
      exact e_z (v := 1) F hr hlocks hK hP hD hS [1, 2, 3, 0] [0] () (by first | exact Or.inl rfl | exact Or.inr rfl | exact bP_01 _) (bP_t ⟨bP_ne c_6, Or.inl c_16⟩) rfl rfl rfl (Nat.le_of_ble_eq_true rfl) (Nat.le_of_ble_eq_true rfl) dX2_can_32
    · skip
      refine lv_aload_n hx hb dX2_can_19 rfl (lv_at hl 0 rfl) ?_
      refine lv_iload_n hx hb dX2_can_20 rfl (lv_at hl 2 rfl) ?_
      have hX_5 : Cut D A [(bK, .inl (cA, 12, .inl fK)), (m0, .inr (2, [.int th, .int (nI n), .int rg, .int st, .ref bV, .ref bW, .ref bR, .ref bP9, .ref bK, .ref bT, .ref bC])), (bW, .inl (cA, 12, .inl fW)), (bR, .inl (cA, 12, .inl fR))] [(m0, .inr (2, [.int th, .int (nI n), .int rg, .int st, .ref bV, .ref bW, .ref bR, .ref bP9, .ref bK, .ref bT, .ref bC])), (bK, .inl (cA, 12, .inl fK))] [(bW, .inl (cA, 12, .inl fW)), (bR, .inl (cA, 12, .inl fR))] [(cA, .int)] [(cA, .int)] [1, 0] [2, 3] [0] := ⟨rfl, rfl, rfl, rfl, by decide, rfl⟩
      refine ki hX_5 hP hD hS hA (kRunV (q := (RX2, TX2, 11)) (As := [.int x]) (rest := []) F (c_X2_hasRoom l D cA m0 th n rg st bV bW bR bP9 bK bT bC fK x hn H.size) (cwV 1 hts gX2_can_X2_hasRoom rfl rfl rfl (by decide +kernel) ⟨Nat.le_of_ble_eq_true rfl, Nat.le_of_ble_eq_true rfl⟩) hK hP hD hX_5 1 rfl rfl rfl hl.1 rfl (Nat.le_of_ble_eq_true rfl) dX2_can_21 ⟨Nat.le_of_ble_eq_true rfl, Nat.le_of_ble_eq_true rfl⟩) (fun r_6 u_7 H locs hw_8 hP hD hS => ?_)
      have hw_8 : r_6 = bP (crowd fK x n < st) := hw_8
      rw [hw_8]
      have hP : va_P D vwCl [(bW, .inl (cA, 12, .inl fW)), (bR, .inl (cA, 12, .inl fR)), (m0, .inr (2, [.int th, .int (nI n), .int rg, .int st, .ref bV, .ref bW, .ref bR, .ref bP9, .ref bK, .ref bT, .ref bC])), (bK, .inl (cA, 12, .inl fK))] H := hP
      have hD : va_D A [(bW, .inl (cA, 12, .inl fW)), (bR, .inl (cA, 12, .inl fR)), (m0, .inr (2, [.int th, .int (nI n), .int rg, .int st, .ref bV, .ref bW, .ref bR, .ref bP9, .ref bK, .ref bT, .ref bC])), (bK, .inl (cA, 12, .inl fK))] := hD
      refine lv_if_eq (tgt := 31) hx hb dX2_can_24 (by decide) (fun c_24 => ?_) (fun c_24 => ?_)
      · skip
        refine lv_iconst (v := 0) hx hb dX2_can_31 (by decide) ?_
        refine useQ hQ ?_
        exact e_z (v := 0) F hr hlocks hK hP hD hS [2, 0, 1, 3] [0] () (by first | exact Or.inl rfl | exact Or.inr rfl | exact bP_01 _) (bP_f (fun z => z.2.elim c_16 (bP_eq c_24))) rfl rfl rfl (Nat.le_of_ble_eq_true rfl) (Nat.le_of_ble_eq_true rfl) dX2_can_32
      · skip
        refine lv_iconst (v := 1) hx hb dX2_can_27 (by decide) ?_
        refine lv_goto (tgt := 32) hx hb dX2_can_28 (by decide) ?_
        refine useQ hQ ?_
        exact e_z (v := 1) F hr hlocks hK hP hD hS [2, 0, 1, 3] [0] () (by first | exact Or.inl rfl | exact Or.inr rfl | exact bP_01 _) (bP_t ⟨bP_ne c_6, Or.inr (bP_ne c_24)⟩) rfl rfl rfl (Nat.le_of_ble_eq_true rfl) (Nat.le_of_ble_eq_true rfl) dX2_can_32
theorem uX2_X2_apart : ∀ w ∈ u_ws RX2 TX2 11, w ∈ wsX2_apart := (fun _ h => List.mem_cons_of_mem _ (List.mem_append_right _ h))
set_option maxHeartbeats 4000000 in
set_option maxRecDepth 100000 in
theorem c_X2_apart (l : Launch) (D : va_G) (cA : ClassId) (m0 : Nat) (th : Int32) (n : Nat) (rg : Int32) (st : Int32) (bV : Nat) (bW : Nat) (bR : Nat) (bP9 : Nat) (bK : Nat) (bT : Nat) (bC : Nat) (fW : Nat → Int32) (j : Nat) (x : Int32) (hn : n ≤ 12) (hj : j < n) (sz : Nat) : Met l yX2_apart wsX2_apart ({ frames := 1, cells := 0, slots := 0, locals := 30 } : Room) (va_Pc [.ref m0, .int (nI j), .int x] (Wd D [(cA, .int)] [(m0, .inr (2, [.int th, .int (nI n), .int rg, .int st, .ref bV, .ref bW, .ref bR, .ref bP9, .ref bK, .ref bT, .ref bC])), (bW, .inl (cA, 12, .inl fW))] sz)) (va_Qi (fun (r : Int32) (_ : Unit) => r = jabs (fW j - x)) (fun (_ : Unit) t => We D [(cA, .int)] [(m0, .inr (2, [.int th, .int (nI n), .int rg, .int st, .ref bV, .ref bW, .ref bR, .ref bP9, .ref bK, .ref bT, .ref bC])), (bW, .inl (cA, 12, .inl fW))] (va_A [(m0, .inr (2, [.int th, .int (nI n), .int rg, .int st, .ref bV, .ref bW, .ref bR, .ref bP9, .ref bK, .ref bT, .ref bC])), (bW, .inl (cA, 12, .inl fW))] sz) t) (va_A [(m0, .inr (2, [.int th, .int (nI n), .int rg, .int st, .ref bV, .ref bW, .ref bR, .ref bP9, .ref bK, .ref bT, .ref bC])), (bW, .inl (cA, 12, .inl fW))] sz)) 0 0 (va_A [(m0, .inr (2, [.int th, .int (nI n), .int rg, .int st, .ref bV, .ref bW, .ref bR, .ref bP9, .ref bK, .ref bT, .ref bC])), (bW, .inl (cA, 12, .inl fW))] sz) := by
  refine mk_met [.ref m0, .int (nI j), .int x] (fun A => va_Qi (fun (r : Int32) (_ : Unit) => r = jabs (fW j - x)) (fun (_ : Unit) t => We D [(cA, .int)] [(m0, .inr (2, [.int th, .int (nI n), .int rg, .int st, .ref bV, .ref bW, .ref bR, .ref bP9, .ref bK, .ref bT, .ref bC])), (bW, .inl (cA, 12, .inl fW))] A t) A) (by decide) rfl (Nat.le_of_ble_eq_true rfl) ?_
  intro p e s m args below meth c A ls F hr hlocks hname hP hK hD hA hl
  have hx := F.1
  have hb := F.2.1
  have hml := F.2.2.1
  have hown := F.2.2.2.1
  have hts := F.2.2.2.2
  have hS : va_S A s.heap s.heap [] := va_S.rf
  have hl : lv_has ls 3 [(0, .ref m0), (1, .int (nI j)), (2, .int x)] := hl
  refine absQ (fun Q hQ => ?_)
  refine lv_aload_n hx hb dX2_apart_0 rfl (lv_at hl 0 rfl) ?_
  refine va_get (D := D) (ci := 2) (v := .ref bW) (C := RX2) (T := TX2) (N := 11) hx hb hts uX2_X2_apart hown hK hP 0 rfl rfl 5 (by decide) (hts (.fieldLink RX2 17 "RopeChoicesModel" "wish" "[I") (List.mem_of_getElem? (i := 1) rfl)) (fun _ h9 => h9) rfl dX2_apart_1 ?_
  refine lv_iload_n hx hb dX2_apart_4 rfl (lv_at hl 1 rfl) ?_
  refine a_ld (k := j) hx hb hK hP 1 0 rfl rfl (by omega) (Nat.le_of_ble_eq_true rfl) dX2_apart_5 ?_
  refine lv_iload_n hx hb dX2_apart_6 rfl (lv_at hl 2 rfl) ?_
  refine lv_isub hx hb dX2_apart_7 ?_
  refine va_mabs hx hb (hml.trans hl.1.symm) hown (hts (.methodLink RX2 55 Lib.Math.abs.name) (List.mem_of_getElem? (i := 2) rfl)) (hts (.static Lib.Math.abs.name) (List.mem_of_getElem? (i := 3) rfl)) (hts (.initialized "java/lang/Math") (List.mem_of_getElem? (i := 4) rfl)) (hts (.code Lib.Math.abs.name Lib.Math.abs.code 1 (some .int)) (List.mem_of_getElem? (i := 5) rfl)) (Nat.le_of_ble_eq_true rfl) (Nat.le_of_ble_eq_true rfl) (Nat.le_of_ble_eq_true rfl) (Nat.le_of_ble_eq_true rfl) dX2_apart_8 ?_
  refine topi (jabs ((fW j) - x)) rfl ?_
  refine useQ hQ ?_
  exact e_i (v := (jabs ((fW j) - x))) F hr hlocks hK hP hD hS [0, 1] [0] () rfl rfl rfl rfl (Nat.le_of_ble_eq_true rfl) (Nat.le_of_ble_eq_true rfl) dX2_apart_11
theorem uX2_X2_allApart : ∀ w ∈ u_ws RX2 TX2 11, w ∈ wsX2_allApart := (fun _ h => List.mem_cons_of_mem _ (List.mem_append_right _ h))
set_option maxHeartbeats 4000000 in
set_option maxRecDepth 100000 in
theorem c_X2_allApart (l : Launch) (D : va_G) (cA : ClassId) (m0 : Nat) (th : Int32) (n : Nat) (rg : Int32) (st : Int32) (bV : Nat) (bW : Nat) (bR : Nat) (bP9 : Nat) (bK : Nat) (bT : Nat) (bC : Nat) (fW : Nat → Int32) (x : Int32) (hn : n ≤ 12) (hs : ∀ i, i < n → jabs (fW i - x) = jabs (x - fW i)) (sz : Nat) : Met l yX2_allApart wsX2_allApart ({ frames := 2, cells := 0, slots := 0, locals := 52 } : Room) (va_Pc [.ref m0, .int x] (Wd D [(cA, .int)] [(m0, .inr (2, [.int th, .int (nI n), .int rg, .int st, .ref bV, .ref bW, .ref bR, .ref bP9, .ref bK, .ref bT, .ref bC])), (bW, .inl (cA, 12, .inl fW))] sz)) (va_Qi (fun (r : Int32) (_ : Unit) => r = disAll fW x n) (fun (_ : Unit) t => We D [(cA, .int)] [(m0, .inr (2, [.int th, .int (nI n), .int rg, .int st, .ref bV, .ref bW, .ref bR, .ref bP9, .ref bK, .ref bT, .ref bC])), (bW, .inl (cA, 12, .inl fW))] (va_A [(m0, .inr (2, [.int th, .int (nI n), .int rg, .int st, .ref bV, .ref bW, .ref bR, .ref bP9, .ref bK, .ref bT, .ref bC])), (bW, .inl (cA, 12, .inl fW))] sz) t) (va_A [(m0, .inr (2, [.int th, .int (nI n), .int rg, .int st, .ref bV, .ref bW, .ref bR, .ref bP9, .ref bK, .ref bT, .ref bC])), (bW, .inl (cA, 12, .inl fW))] sz)) 0 0 (va_A [(m0, .inr (2, [.int th, .int (nI n), .int rg, .int st, .ref bV, .ref bW, .ref bR, .ref bP9, .ref bK, .ref bT, .ref bC])), (bW, .inl (cA, 12, .inl fW))] sz) := by
  refine mk_met [.ref m0, .int x] (fun A => va_Qi (fun (r : Int32) (_ : Unit) => r = disAll fW x n) (fun (_ : Unit) t => We D [(cA, .int)] [(m0, .inr (2, [.int th, .int (nI n), .int rg, .int st, .ref bV, .ref bW, .ref bR, .ref bP9, .ref bK, .ref bT, .ref bC])), (bW, .inl (cA, 12, .inl fW))] A t) A) (by decide) rfl (Nat.le_of_ble_eq_true rfl) ?_
  intro p e s m args below meth c A ls F hr hlocks hname hP hK hD hA hl
  have hx := F.1
  have hb := F.2.1
  have hml := F.2.2.1
  have hown := F.2.2.2.1
  have hts := F.2.2.2.2
  have hS : va_S A s.heap s.heap [] := va_S.rf
  have hl : lv_has ls 4 [(0, .ref m0), (1, .int x)] := hl
  refine absQ (fun Q hQ => ?_)
  refine lv_iconst (v := 0) hx hb dX2_allApart_0 (by decide) ?_
  refine lv_istore_n (lv' := [(2, .int 0), (0, .ref m0), (1, .int x)]) hx hb dX2_allApart_1 rfl hl (by decide) rfl (fun ls hl => ?_)
  refine lv_iconst (v := 0) hx hb dX2_allApart_2 (by decide) ?_
  refine lv_istore_n (lv' := [(3, .int 0), (2, .int 0), (0, .ref m0), (1, .int x)]) hx hb dX2_allApart_3 rfl hl (by decide) rfl (fun ls hl => ?_)
  have loop4 : ∀ (k : Nat) (i : Nat) (v : Int32), (n < i + k) → (i ≤ n) → (v = disAll fW x i) →  ∀ (H : Heap) (locs : List Loc), va_P D vwCl [(m0, .inr (2, [.int th, .int (nI n), .int rg, .int st, .ref bV, .ref bW, .ref bR, .ref bP9, .ref bK, .ref bT, .ref bC])), (bW, .inl (cA, 12, .inl fW))] H → va_D A [(m0, .inr (2, [.int th, .int (nI n), .int rg, .int st, .ref bV, .ref bW, .ref bR, .ref bP9, .ref bK, .ref bT, .ref bC])), (bW, .inl (cA, 12, .inl fW))] → va_S A s.heap H locs → ∀ ls : Array Slot, lv_has ls 4 [(3, .int (nI i)), (2, .int v), (0, .ref m0), (1, .int x)] → W p l e ({ frames := 2, cells := 0, slots := 0, locals := 52 } : Room) s m args below meth c H locs 0 0 Q (F0 m 4 ls []) := by
    intro k
    induction k with
    | zero =>
      intro i v hk hi hv
      exact absurd hk (by omega)
    | succ k ih4 =>
      intro i v hk hi hv H locs hP hD hS ls hl
      refine lv_iload_n hx hb dX2_allApart_4 rfl (lv_at hl 0 rfl) ?_
      refine lv_aload_n hx hb dX2_allApart_5 rfl (lv_at hl 2 rfl) ?_
      refine va_get (D := D) (ci := 2) (v := .int (nI n)) (C := RX2) (T := TX2) (N := 11) hx hb hts uX2_X2_allApart hown hK hP 0 rfl rfl 1 (by decide) (hts (.fieldLink RX2 38 "RopeChoicesModel" "many" "I") (List.mem_of_getElem? (i := 1) rfl)) (fun _ h9 => h9) rfl dX2_allApart_6 ?_
      refine lv_icmp_ge (tgt := 27) hx hb dX2_allApart_9 (by decide) (fun c_9 => ?_) (fun c_9 => ?_)
      · skip
        have g_9 : n ≤ i := nf_ge_t (by omega) (by omega) c_9
        refine lv_iload_n hx hb dX2_allApart_27 rfl (lv_at hl 1 rfl) ?_
        refine useQ hQ ?_
        exact e_i (v := v) F hr hlocks hK hP hD hS [0, 1] [0] () (by rw [hv, show i = n by omega]) rfl rfl rfl (Nat.le_of_ble_eq_true rfl) (Nat.le_of_ble_eq_true rfl) dX2_allApart_28
      · skip
        have g_9 : i < n := nf_ge_f (by omega) (by omega) c_9
        refine lv_iload_n hx hb dX2_allApart_12 rfl (lv_at hl 1 rfl) ?_
        refine lv_aload_n hx hb dX2_allApart_13 rfl (lv_at hl 2 rfl) ?_
        refine lv_iload_n hx hb dX2_allApart_14 rfl (lv_at hl 0 rfl) ?_
        refine lv_iload_n hx hb dX2_allApart_15 rfl (lv_at hl 3 rfl) ?_
        have hX_1 : Cut D A [(m0, .inr (2, [.int th, .int (nI n), .int rg, .int st, .ref bV, .ref bW, .ref bR, .ref bP9, .ref bK, .ref bT, .ref bC])), (bW, .inl (cA, 12, .inl fW))] [(m0, .inr (2, [.int th, .int (nI n), .int rg, .int st, .ref bV, .ref bW, .ref bR, .ref bP9, .ref bK, .ref bT, .ref bC])), (bW, .inl (cA, 12, .inl fW))] [] [(cA, .int)] [(cA, .int)] [0, 1] [] [0] := ⟨rfl, rfl, rfl, rfl, by decide, rfl⟩
        refine ki hX_1 hP hD hS hA (kRunV (q := (RX2, TX2, 11)) (As := [.int (nI i), .int x]) (rest := [.int v]) F (c_X2_apart l D cA m0 th n rg st bV bW bR bP9 bK bT bC fW i x hn (by omega) H.size) (cwV 2 hts gX2_allApart_X2_apart rfl rfl rfl (by decide +kernel) ⟨Nat.le_of_ble_eq_true rfl, Nat.le_of_ble_eq_true rfl⟩) hK hP hD hX_1 0 rfl rfl rfl hl.1 rfl (Nat.le_of_ble_eq_true rfl) dX2_allApart_16 ⟨Nat.le_of_ble_eq_true rfl, Nat.le_of_ble_eq_true rfl⟩) (fun r_2 u_3 H locs hw_4 hP hD hS => ?_)
        have hw_4 : r_2 = jabs (fW i - x) := hw_4
        rw [hw_4]
        have hP : va_P D vwCl [(m0, .inr (2, [.int th, .int (nI n), .int rg, .int st, .ref bV, .ref bW, .ref bR, .ref bP9, .ref bK, .ref bT, .ref bC])), (bW, .inl (cA, 12, .inl fW))] H := hP
        have hD : va_D A [(m0, .inr (2, [.int th, .int (nI n), .int rg, .int st, .ref bV, .ref bW, .ref bR, .ref bP9, .ref bK, .ref bT, .ref bC])), (bW, .inl (cA, 12, .inl fW))] := hD
        refine lv_iadd hx hb dX2_allApart_19 ?_
        refine lv_istore_n (lv' := [(2, .int (v + (jabs (fW i - x)))), (3, .int (nI i)), (0, .ref m0), (1, .int x)]) hx hb dX2_allApart_20 rfl hl (by decide) rfl (fun ls hl => ?_)
        refine lv_iinc (v := nI (i + 1)) (lv' := [(3, .int (nI (i + 1))), (2, .int (v + (jabs (fW i - x)))), (0, .ref m0), (1, .int x)]) hx hb dX2_allApart_21 hl (k := 1) rfl (nI_1 _) (by decide) rfl (fun ls hl => ?_)
        refine lv_goto (tgt := 4) hx hb dX2_allApart_24 (by decide) ?_
        exact ih4 (i + 1) (v + (jabs (fW i - x))) (by omega) (by omega) (by rw [disAll_s, hv, hs i (by omega)]) _ _ (hP.sub [0, 1] rfl) (hD.sub [0, 1] (by decide) rfl) hS ls (lv_sub hl [0, 1, 2, 3] rfl)
  exact loop4 (n + 1) 0 0 (by omega) (Nat.zero_le _) rfl _ _ (hP.sub [0, 1] rfl) (hD.sub [0, 1] (by decide) rfl) hS ls (lv_sub hl [0, 1, 2, 3] rfl)
set_option maxHeartbeats 4000000 in
set_option maxRecDepth 100000 in
theorem c_X2_best (l : Launch) (D : va_G) (cA : ClassId) (m0 : Nat) (th : Int32) (n : Nat) (rg : Int32) (st : Int32) (bV : Nat) (bW : Nat) (bR : Nat) (bP9 : Nat) (bK : Nat) (bT : Nat) (bC : Nat) (fW : Nat → Int32) (hn : n ≤ 12) (hW : ∀ i, i < n → okD 41 (fW i)) (sz : Nat) : Met l yX2_best wsX2_best ({ frames := 3, cells := 0, slots := 0, locals := 75 } : Room) (va_Pc [.ref m0] (Wd D [(cA, .int)] [(m0, .inr (2, [.int th, .int (nI n), .int rg, .int st, .ref bV, .ref bW, .ref bR, .ref bP9, .ref bK, .ref bT, .ref bC])), (bW, .inl (cA, 12, .inl fW))] sz)) (va_Qi (fun (r : Int32) (_ : Unit) => r = bestPl fW n) (fun (_ : Unit) t => We D [(cA, .int)] [(m0, .inr (2, [.int th, .int (nI n), .int rg, .int st, .ref bV, .ref bW, .ref bR, .ref bP9, .ref bK, .ref bT, .ref bC])), (bW, .inl (cA, 12, .inl fW))] (va_A [(m0, .inr (2, [.int th, .int (nI n), .int rg, .int st, .ref bV, .ref bW, .ref bR, .ref bP9, .ref bK, .ref bT, .ref bC])), (bW, .inl (cA, 12, .inl fW))] sz) t) (va_A [(m0, .inr (2, [.int th, .int (nI n), .int rg, .int st, .ref bV, .ref bW, .ref bR, .ref bP9, .ref bK, .ref bT, .ref bC])), (bW, .inl (cA, 12, .inl fW))] sz)) 0 0 (va_A [(m0, .inr (2, [.int th, .int (nI n), .int rg, .int st, .ref bV, .ref bW, .ref bR, .ref bP9, .ref bK, .ref bT, .ref bC])), (bW, .inl (cA, 12, .inl fW))] sz) := by
  refine mk_met [.ref m0] (fun A => va_Qi (fun (r : Int32) (_ : Unit) => r = bestPl fW n) (fun (_ : Unit) t => We D [(cA, .int)] [(m0, .inr (2, [.int th, .int (nI n), .int rg, .int st, .ref bV, .ref bW, .ref bR, .ref bP9, .ref bK, .ref bT, .ref bC])), (bW, .inl (cA, 12, .inl fW))] A t) A) (by decide) rfl (Nat.le_of_ble_eq_true rfl) ?_
  intro p e s m args below meth c A ls F hr hlocks hname hP hK hD hA hl
  have hx := F.1
  have hb := F.2.1
  have hml := F.2.2.1
  have hown := F.2.2.2.1
  have hts := F.2.2.2.2
  have hS : va_S A s.heap s.heap [] := va_S.rf
  have hl : lv_has ls 3 [(0, .ref m0)] := hl
  refine absQ (fun Q hQ => ?_)
  refine lv_iconst (v := 0) hx hb dX2_best_0 (by decide) ?_
  refine lv_istore_n (lv' := [(1, .int 0), (0, .ref m0)]) hx hb dX2_best_1 rfl hl (by decide) rfl (fun ls hl => ?_)
  refine lv_iconst (v := 1) hx hb dX2_best_2 (by decide) ?_
  refine lv_istore_n (lv' := [(2, .int 1), (1, .int 0), (0, .ref m0)]) hx hb dX2_best_3 rfl hl (by decide) rfl (fun ls hl => ?_)
  have loop4 : ∀ (k : Nat) (q : Nat) (b : Int32), (40 < q + k) → (q ≤ 40) → ((b, disAll fW b n) = amin (fun p => disAll fW (nI p) n) q) → (okD 41 b) →  ∀ (H : Heap) (locs : List Loc), va_P D vwCl [(m0, .inr (2, [.int th, .int (nI n), .int rg, .int st, .ref bV, .ref bW, .ref bR, .ref bP9, .ref bK, .ref bT, .ref bC])), (bW, .inl (cA, 12, .inl fW))] H → va_D A [(m0, .inr (2, [.int th, .int (nI n), .int rg, .int st, .ref bV, .ref bW, .ref bR, .ref bP9, .ref bK, .ref bT, .ref bC])), (bW, .inl (cA, 12, .inl fW))] → va_S A s.heap H locs → ∀ ls : Array Slot, lv_has ls 3 [(2, .int (nI (q + 1))), (1, .int b), (0, .ref m0)] → W p l e ({ frames := 3, cells := 0, slots := 0, locals := 75 } : Room) s m args below meth c H locs 0 0 Q (F0 m 4 ls []) := by
    intro k
    induction k with
    | zero =>
      intro q b hk hq hMin hb9
      exact absurd hk (by omega)
    | succ k ih4 =>
      intro q b hk hq hMin hb9 H locs hP hD hS ls hl
      refine lv_iload_n hx hb dX2_best_4 rfl (lv_at hl 0 rfl) ?_
      refine lv_bipush (v := 41) hx hb dX2_best_5 (by decide) ?_
      refine lv_icmp_ge (tgt := 31) hx hb dX2_best_7 (by decide) (fun c_7 => ?_) (fun c_7 => ?_)
      · skip
        have g_7 : 41 ≤ q + 1 := nf_ge_t (by omega) (by omega) c_7
        refine lv_iload_n hx hb dX2_best_31 rfl (lv_at hl 1 rfl) ?_
        refine useQ hQ ?_
        exact e_i (v := b) F hr hlocks hK hP hD hS [0, 1] [0] () (by rw [show q = 40 by omega] at hMin; exact congrArg Prod.fst hMin) rfl rfl rfl (Nat.le_of_ble_eq_true rfl) (Nat.le_of_ble_eq_true rfl) dX2_best_32
      · skip
        have g_7 : q + 1 < 41 := nf_ge_f (by omega) (by omega) c_7
        refine lv_aload_n hx hb dX2_best_10 rfl (lv_at hl 2 rfl) ?_
        refine lv_iload_n hx hb dX2_best_11 rfl (lv_at hl 0 rfl) ?_
        have hX_1 : Cut D A [(m0, .inr (2, [.int th, .int (nI n), .int rg, .int st, .ref bV, .ref bW, .ref bR, .ref bP9, .ref bK, .ref bT, .ref bC])), (bW, .inl (cA, 12, .inl fW))] [(m0, .inr (2, [.int th, .int (nI n), .int rg, .int st, .ref bV, .ref bW, .ref bR, .ref bP9, .ref bK, .ref bT, .ref bC])), (bW, .inl (cA, 12, .inl fW))] [] [(cA, .int)] [(cA, .int)] [0, 1] [] [0] := ⟨rfl, rfl, rfl, rfl, by decide, rfl⟩
        refine ki hX_1 hP hD hS hA (kRunV (q := (RX2, TX2, 11)) (As := [.int (nI (q + 1))]) (rest := []) F (c_X2_allApart l D cA m0 th n rg st bV bW bR bP9 bK bT bC fW (nI (q + 1)) hn (fun i9 h9 => jabs_sym (hW i9 h9) ⟨q + 1, by omega, rfl⟩) H.size) (cwV 1 hts gX2_best_X2_allApart rfl rfl rfl (by decide +kernel) ⟨Nat.le_of_ble_eq_true rfl, Nat.le_of_ble_eq_true rfl⟩) hK hP hD hX_1 0 rfl rfl rfl hl.1 rfl (Nat.le_of_ble_eq_true rfl) dX2_best_12 ⟨Nat.le_of_ble_eq_true rfl, Nat.le_of_ble_eq_true rfl⟩) (fun r_2 u_3 H locs hw_4 hP hD hS => ?_)
        have hw_4 : r_2 = disAll fW (nI (q + 1)) n := hw_4
        rw [hw_4]
        have hP : va_P D vwCl [(m0, .inr (2, [.int th, .int (nI n), .int rg, .int st, .ref bV, .ref bW, .ref bR, .ref bP9, .ref bK, .ref bT, .ref bC])), (bW, .inl (cA, 12, .inl fW))] H := hP
        have hD : va_D A [(m0, .inr (2, [.int th, .int (nI n), .int rg, .int st, .ref bV, .ref bW, .ref bR, .ref bP9, .ref bK, .ref bT, .ref bC])), (bW, .inl (cA, 12, .inl fW))] := hD
        refine lv_aload_n hx hb dX2_best_15 rfl (lv_at hl 2 rfl) ?_
        refine lv_iload_n hx hb dX2_best_16 rfl (lv_at hl 1 rfl) ?_
        have hX_5 : Cut D A [(m0, .inr (2, [.int th, .int (nI n), .int rg, .int st, .ref bV, .ref bW, .ref bR, .ref bP9, .ref bK, .ref bT, .ref bC])), (bW, .inl (cA, 12, .inl fW))] [(m0, .inr (2, [.int th, .int (nI n), .int rg, .int st, .ref bV, .ref bW, .ref bR, .ref bP9, .ref bK, .ref bT, .ref bC])), (bW, .inl (cA, 12, .inl fW))] [] [(cA, .int)] [(cA, .int)] [0, 1] [] [0] := ⟨rfl, rfl, rfl, rfl, by decide, rfl⟩
        refine ki hX_5 hP hD hS hA (kRunV (q := (RX2, TX2, 11)) (As := [.int b]) (rest := [.int (disAll fW (nI (q + 1)) n)]) F (c_X2_allApart l D cA m0 th n rg st bV bW bR bP9 bK bT bC fW b hn (fun i9 h9 => jabs_sym (hW i9 h9) hb9) H.size) (cwV 1 hts gX2_best_X2_allApart rfl rfl rfl (by decide +kernel) ⟨Nat.le_of_ble_eq_true rfl, Nat.le_of_ble_eq_true rfl⟩) hK hP hD hX_5 0 rfl rfl rfl hl.1 rfl (Nat.le_of_ble_eq_true rfl) dX2_best_17 ⟨Nat.le_of_ble_eq_true rfl, Nat.le_of_ble_eq_true rfl⟩) (fun r_6 u_7 H locs hw_8 hP hD hS => ?_)
        have hw_8 : r_6 = disAll fW b n := hw_8
        rw [hw_8]
        have hP : va_P D vwCl [(m0, .inr (2, [.int th, .int (nI n), .int rg, .int st, .ref bV, .ref bW, .ref bR, .ref bP9, .ref bK, .ref bT, .ref bC])), (bW, .inl (cA, 12, .inl fW))] H := hP
        have hD : va_D A [(m0, .inr (2, [.int th, .int (nI n), .int rg, .int st, .ref bV, .ref bW, .ref bR, .ref bP9, .ref bK, .ref bT, .ref bC])), (bW, .inl (cA, 12, .inl fW))] := hD
        refine lv_icmp_ge (tgt := 25) hx hb dX2_best_20 (by decide) (fun c_20 => ?_) (fun c_20 => ?_)
        · skip
          refine lv_iinc (v := nI (q + 1 + 1)) (lv' := [(2, .int (nI (q + 1 + 1))), (1, .int b), (0, .ref m0)]) hx hb dX2_best_25 hl (k := 0) rfl (nI_1 _) (by decide) rfl (fun ls hl => ?_)
          refine lv_goto (tgt := 4) hx hb dX2_best_28 (by decide) ?_
          exact ih4 (q + 1) b (by omega) (by omega) (amin_ge hMin (Int32.not_lt.mpr c_20)) hb9 _ _ (hP.sub [0, 1] rfl) (hD.sub [0, 1] (by decide) rfl) hS ls (lv_sub hl [0, 1, 2] rfl)
        · skip
          refine lv_iload_n hx hb dX2_best_23 rfl (lv_at hl 0 rfl) ?_
          refine lv_istore_n (lv' := [(1, .int (nI (q + 1))), (2, .int (nI (q + 1))), (0, .ref m0)]) hx hb dX2_best_24 rfl hl (by decide) rfl (fun ls hl => ?_)
          refine lv_iinc (v := nI (q + 1 + 1)) (lv' := [(2, .int (nI (q + 1 + 1))), (1, .int (nI (q + 1))), (0, .ref m0)]) hx hb dX2_best_25 hl (k := 1) rfl (nI_1 _) (by decide) rfl (fun ls hl => ?_)
          refine lv_goto (tgt := 4) hx hb dX2_best_28 (by decide) ?_
          exact ih4 (q + 1) (nI (q + 1)) (by omega) (by omega) (amin_lt hMin (Int32.not_le.mp c_20)) ⟨q + 1, by omega, rfl⟩ _ _ (hP.sub [0, 1] rfl) (hD.sub [0, 1] (by decide) rfl) hS ls (lv_sub hl [0, 1, 2] rfl)
  exact loop4 (41) 0 0 (by omega) (Nat.zero_le _) rfl ⟨0, by omega, rfl⟩ _ _ (hP.sub [0, 1] rfl) (hD.sub [0, 1] (by decide) rfl) hS ls (lv_sub hl [0, 1, 2] rfl)
theorem uX2_X2_votes : ∀ w ∈ u_ws RX2 TX2 11, w ∈ wsX2_votes := (fun _ h => List.mem_cons_of_mem _ (List.mem_append_right _ h))
set_option maxHeartbeats 4000000 in
set_option maxRecDepth 100000 in
theorem c_X2_votes (l : Launch) (D : va_G) (cA : ClassId) (m0 : Nat) (th : Int32) (n : Nat) (rg : Int32) (st : Int32) (bV : Nat) (bW : Nat) (bR : Nat) (bP9 : Nat) (bK : Nat) (bT : Nat) (bC : Nat) (fW : Nat → Int32) (x : Int32) (y : Int32) (hn : n ≤ 12) (hsx : ∀ i, i < n → jabs (fW i - x) = jabs (x - fW i)) (hsy : ∀ i, i < n → jabs (fW i - y) = jabs (y - fW i)) (sz : Nat) : Met l yX2_votes wsX2_votes ({ frames := 2, cells := 0, slots := 0, locals := 52 } : Room) (va_Pc [.ref m0, .int x, .int y] (Wd D [(cA, .int)] [(m0, .inr (2, [.int th, .int (nI n), .int rg, .int st, .ref bV, .ref bW, .ref bR, .ref bP9, .ref bK, .ref bT, .ref bC])), (bW, .inl (cA, 12, .inl fW))] sz)) (va_Qi (fun (r : Int32) (_ : Unit) => r = votes fW x y n) (fun (_ : Unit) t => We D [(cA, .int)] [(m0, .inr (2, [.int th, .int (nI n), .int rg, .int st, .ref bV, .ref bW, .ref bR, .ref bP9, .ref bK, .ref bT, .ref bC])), (bW, .inl (cA, 12, .inl fW))] (va_A [(m0, .inr (2, [.int th, .int (nI n), .int rg, .int st, .ref bV, .ref bW, .ref bR, .ref bP9, .ref bK, .ref bT, .ref bC])), (bW, .inl (cA, 12, .inl fW))] sz) t) (va_A [(m0, .inr (2, [.int th, .int (nI n), .int rg, .int st, .ref bV, .ref bW, .ref bR, .ref bP9, .ref bK, .ref bT, .ref bC])), (bW, .inl (cA, 12, .inl fW))] sz)) 0 0 (va_A [(m0, .inr (2, [.int th, .int (nI n), .int rg, .int st, .ref bV, .ref bW, .ref bR, .ref bP9, .ref bK, .ref bT, .ref bC])), (bW, .inl (cA, 12, .inl fW))] sz) := by
  refine mk_met [.ref m0, .int x, .int y] (fun A => va_Qi (fun (r : Int32) (_ : Unit) => r = votes fW x y n) (fun (_ : Unit) t => We D [(cA, .int)] [(m0, .inr (2, [.int th, .int (nI n), .int rg, .int st, .ref bV, .ref bW, .ref bR, .ref bP9, .ref bK, .ref bT, .ref bC])), (bW, .inl (cA, 12, .inl fW))] A t) A) (by decide) rfl (Nat.le_of_ble_eq_true rfl) ?_
  intro p e s m args below meth c A ls F hr hlocks hname hP hK hD hA hl
  have hx := F.1
  have hb := F.2.1
  have hml := F.2.2.1
  have hown := F.2.2.2.1
  have hts := F.2.2.2.2
  have hS : va_S A s.heap s.heap [] := va_S.rf
  have hl : lv_has ls 5 [(0, .ref m0), (1, .int x), (2, .int y)] := hl
  refine absQ (fun Q hQ => ?_)
  refine lv_iconst (v := 0) hx hb dX2_votes_0 (by decide) ?_
  refine lv_istore_n (lv' := [(3, .int 0), (0, .ref m0), (1, .int x), (2, .int y)]) hx hb dX2_votes_1 rfl hl (by decide) rfl (fun ls hl => ?_)
  refine lv_iconst (v := 0) hx hb dX2_votes_2 (by decide) ?_
  refine lv_istore (lv' := [(4, .int 0), (3, .int 0), (0, .ref m0), (1, .int x), (2, .int y)]) hx hb dX2_votes_3 hl (by decide) rfl (fun ls hl => ?_)
  have loop5 : ∀ (k : Nat) (i : Nat) (v : Int32), (n < i + k) → (i ≤ n) → (v = votes fW x y i) →  ∀ (H : Heap) (locs : List Loc), va_P D vwCl [(m0, .inr (2, [.int th, .int (nI n), .int rg, .int st, .ref bV, .ref bW, .ref bR, .ref bP9, .ref bK, .ref bT, .ref bC])), (bW, .inl (cA, 12, .inl fW))] H → va_D A [(m0, .inr (2, [.int th, .int (nI n), .int rg, .int st, .ref bV, .ref bW, .ref bR, .ref bP9, .ref bK, .ref bT, .ref bC])), (bW, .inl (cA, 12, .inl fW))] → va_S A s.heap H locs → ∀ ls : Array Slot, lv_has ls 5 [(4, .int (nI i)), (3, .int v), (0, .ref m0), (1, .int x), (2, .int y)] → W p l e ({ frames := 2, cells := 0, slots := 0, locals := 52 } : Room) s m args below meth c H locs 0 0 Q (F0 m 5 ls []) := by
    intro k
    induction k with
    | zero =>
      intro i v hk hi hv
      exact absurd hk (by omega)
    | succ k ih5 =>
      intro i v hk hi hv H locs hP hD hS ls hl
      refine lv_iload hx hb dX2_votes_5 (lv_at hl 0 rfl) ?_
      refine lv_aload_n hx hb dX2_votes_7 rfl (lv_at hl 2 rfl) ?_
      refine va_get (D := D) (ci := 2) (v := .int (nI n)) (C := RX2) (T := TX2) (N := 11) hx hb hts uX2_X2_votes hown hK hP 0 rfl rfl 1 (by decide) (hts (.fieldLink RX2 38 "RopeChoicesModel" "many" "I") (List.mem_of_getElem? (i := 1) rfl)) (fun _ h9 => h9) rfl dX2_votes_8 ?_
      refine lv_icmp_ge (tgt := 45) hx hb dX2_votes_11 (by decide) (fun c_11 => ?_) (fun c_11 => ?_)
      · skip
        have g_11 : n ≤ i := nf_ge_t (by omega) (by omega) c_11
        refine lv_iload_n hx hb dX2_votes_45 rfl (lv_at hl 1 rfl) ?_
        refine useQ hQ ?_
        exact e_i (v := v) F hr hlocks hK hP hD hS [0, 1] [0] () (by rw [hv, show i = n by omega]) rfl rfl rfl (Nat.le_of_ble_eq_true rfl) (Nat.le_of_ble_eq_true rfl) dX2_votes_46
      · skip
        have g_11 : i < n := nf_ge_f (by omega) (by omega) c_11
        refine lv_iload_n hx hb dX2_votes_14 rfl (lv_at hl 1 rfl) ?_
        refine lv_aload_n hx hb dX2_votes_15 rfl (lv_at hl 2 rfl) ?_
        refine lv_iload hx hb dX2_votes_16 (lv_at hl 0 rfl) ?_
        refine lv_iload_n hx hb dX2_votes_18 rfl (lv_at hl 3 rfl) ?_
        have hX_1 : Cut D A [(m0, .inr (2, [.int th, .int (nI n), .int rg, .int st, .ref bV, .ref bW, .ref bR, .ref bP9, .ref bK, .ref bT, .ref bC])), (bW, .inl (cA, 12, .inl fW))] [(m0, .inr (2, [.int th, .int (nI n), .int rg, .int st, .ref bV, .ref bW, .ref bR, .ref bP9, .ref bK, .ref bT, .ref bC])), (bW, .inl (cA, 12, .inl fW))] [] [(cA, .int)] [(cA, .int)] [0, 1] [] [0] := ⟨rfl, rfl, rfl, rfl, by decide, rfl⟩
        refine ki hX_1 hP hD hS hA (kRunV (q := (RX2, TX2, 11)) (As := [.int (nI i), .int x]) (rest := [.int v]) F (c_X2_apart l D cA m0 th n rg st bV bW bR bP9 bK bT bC fW i x hn (by omega) H.size) (cwV 2 hts gX2_votes_X2_apart rfl rfl rfl (by decide +kernel) ⟨Nat.le_of_ble_eq_true rfl, Nat.le_of_ble_eq_true rfl⟩) hK hP hD hX_1 0 rfl rfl rfl hl.1 rfl (Nat.le_of_ble_eq_true rfl) dX2_votes_19 ⟨Nat.le_of_ble_eq_true rfl, Nat.le_of_ble_eq_true rfl⟩) (fun r_2 u_3 H locs hw_4 hP hD hS => ?_)
        have hw_4 : r_2 = jabs (fW i - x) := hw_4
        rw [hw_4]
        have hP : va_P D vwCl [(m0, .inr (2, [.int th, .int (nI n), .int rg, .int st, .ref bV, .ref bW, .ref bR, .ref bP9, .ref bK, .ref bT, .ref bC])), (bW, .inl (cA, 12, .inl fW))] H := hP
        have hD : va_D A [(m0, .inr (2, [.int th, .int (nI n), .int rg, .int st, .ref bV, .ref bW, .ref bR, .ref bP9, .ref bK, .ref bT, .ref bC])), (bW, .inl (cA, 12, .inl fW))] := hD
        refine topi (jabs (x - fW i)) (hsx i (by omega)) ?_
        refine lv_aload_n hx hb dX2_votes_22 rfl (lv_at hl 2 rfl) ?_
        refine lv_iload hx hb dX2_votes_23 (lv_at hl 0 rfl) ?_
        refine lv_iload_n hx hb dX2_votes_25 rfl (lv_at hl 4 rfl) ?_
        have hX_5 : Cut D A [(m0, .inr (2, [.int th, .int (nI n), .int rg, .int st, .ref bV, .ref bW, .ref bR, .ref bP9, .ref bK, .ref bT, .ref bC])), (bW, .inl (cA, 12, .inl fW))] [(m0, .inr (2, [.int th, .int (nI n), .int rg, .int st, .ref bV, .ref bW, .ref bR, .ref bP9, .ref bK, .ref bT, .ref bC])), (bW, .inl (cA, 12, .inl fW))] [] [(cA, .int)] [(cA, .int)] [0, 1] [] [0] := ⟨rfl, rfl, rfl, rfl, by decide, rfl⟩
        refine ki hX_5 hP hD hS hA (kRunV (q := (RX2, TX2, 11)) (As := [.int (nI i), .int y]) (rest := [.int (jabs (x - fW i)), .int v]) F (c_X2_apart l D cA m0 th n rg st bV bW bR bP9 bK bT bC fW i y hn (by omega) H.size) (cwV 2 hts gX2_votes_X2_apart rfl rfl rfl (by decide +kernel) ⟨Nat.le_of_ble_eq_true rfl, Nat.le_of_ble_eq_true rfl⟩) hK hP hD hX_5 0 rfl rfl rfl hl.1 rfl (Nat.le_of_ble_eq_true rfl) dX2_votes_26 ⟨Nat.le_of_ble_eq_true rfl, Nat.le_of_ble_eq_true rfl⟩) (fun r_6 u_7 H locs hw_8 hP hD hS => ?_)
        have hw_8 : r_6 = jabs (fW i - y) := hw_8
        rw [hw_8]
        have hP : va_P D vwCl [(m0, .inr (2, [.int th, .int (nI n), .int rg, .int st, .ref bV, .ref bW, .ref bR, .ref bP9, .ref bK, .ref bT, .ref bC])), (bW, .inl (cA, 12, .inl fW))] H := hP
        have hD : va_D A [(m0, .inr (2, [.int th, .int (nI n), .int rg, .int st, .ref bV, .ref bW, .ref bR, .ref bP9, .ref bK, .ref bT, .ref bC])), (bW, .inl (cA, 12, .inl fW))] := hD
        refine topi (jabs (y - fW i)) (hsy i (by omega)) ?_
        refine lv_icmp_ge (tgt := 36) hx hb dX2_votes_29 (by decide) (fun c_29 => ?_) (fun c_29 => ?_)
        · skip
          refine lv_iconst (v := 0) hx hb dX2_votes_36 (by decide) ?_
          refine lv_iadd hx hb dX2_votes_37 ?_
          refine lv_istore_n (lv' := [(3, .int (v + 0)), (4, .int (nI i)), (0, .ref m0), (1, .int x), (2, .int y)]) hx hb dX2_votes_38 rfl hl (by decide) rfl (fun ls hl => ?_)
          refine lv_iinc (v := nI (i + 1)) (lv' := [(4, .int (nI (i + 1))), (3, .int (v + 0)), (0, .ref m0), (1, .int x), (2, .int y)]) hx hb dX2_votes_39 hl (k := 1) rfl (nI_1 _) (by decide) rfl (fun ls hl => ?_)
          refine lv_goto (tgt := 5) hx hb dX2_votes_42 (by decide) ?_
          exact ih5 (i + 1) (v + 0) (by omega) (by omega) (by rw [votes_s, if_neg (Int32.not_lt.mpr c_29), hv, Int32.add_zero]) _ _ (hP.sub [0, 1] rfl) (hD.sub [0, 1] (by decide) rfl) hS ls (lv_sub hl [0, 1, 2, 3, 4] rfl)
        · skip
          refine lv_iconst (v := 1) hx hb dX2_votes_32 (by decide) ?_
          refine lv_goto (tgt := 37) hx hb dX2_votes_33 (by decide) ?_
          refine lv_iadd hx hb dX2_votes_37 ?_
          refine lv_istore_n (lv' := [(3, .int (v + 1)), (4, .int (nI i)), (0, .ref m0), (1, .int x), (2, .int y)]) hx hb dX2_votes_38 rfl hl (by decide) rfl (fun ls hl => ?_)
          refine lv_iinc (v := nI (i + 1)) (lv' := [(4, .int (nI (i + 1))), (3, .int (v + 1)), (0, .ref m0), (1, .int x), (2, .int y)]) hx hb dX2_votes_39 hl (k := 1) rfl (nI_1 _) (by decide) rfl (fun ls hl => ?_)
          refine lv_goto (tgt := 5) hx hb dX2_votes_42 (by decide) ?_
          exact ih5 (i + 1) (v + 1) (by omega) (by omega) (by rw [votes_s, if_pos (Int32.not_le.mp c_29), hv]) _ _ (hP.sub [0, 1] rfl) (hD.sub [0, 1] (by decide) rfl) hS ls (lv_sub hl [0, 1, 2, 3, 4] rfl)
  exact loop5 (n + 1) 0 0 (by omega) (Nat.zero_le _) rfl _ _ (hP.sub [0, 1] rfl) (hD.sub [0, 1] (by decide) rfl) hS ls (lv_sub hl [0, 1, 2, 3, 4] rfl)
theorem uX2_X2_areTwo : ∀ w ∈ u_ws RX2 TX2 11, w ∈ wsX2_areTwo := (fun _ h => List.mem_cons_of_mem _ (List.mem_append_right _ h))
set_option maxHeartbeats 4000000 in
set_option maxRecDepth 100000 in
theorem c_X2_areTwo (l : Launch) (D : va_G) (cA : ClassId) (m0 : Nat) (th : Int32) (n : Nat) (rg : Int32) (st : Int32) (bV : Nat) (bW : Nat) (bR : Nat) (bP9 : Nat) (bK : Nat) (bT : Nat) (bC : Nat) (x : Int32) (y : Int32)  (sz : Nat) : Met l yX2_areTwo wsX2_areTwo ({ frames := 2, cells := 0, slots := 0, locals := 42 } : Room) (va_Pc [.ref m0, .int x, .int y] (Wd D [(cA, .int)] [(m0, .inr (2, [.int th, .int (nI n), .int rg, .int st, .ref bV, .ref bW, .ref bR, .ref bP9, .ref bK, .ref bT, .ref bC]))] sz)) (va_Qi (fun (r : Int32) (u : Int32) => u = cd2 (¬ (okD 41 x ∧ okD 41 y)) (x = y) ∧ r = bP (cd2 (¬ (okD 41 x ∧ okD 41 y)) (x = y) = 0)) (fun (u : Int32) t => We D [(cA, .int)] [(m0, .inr (2, [.int u, .int (nI n), .int rg, .int st, .ref bV, .ref bW, .ref bR, .ref bP9, .ref bK, .ref bT, .ref bC]))] (va_A [(m0, .inr (2, [.int th, .int (nI n), .int rg, .int st, .ref bV, .ref bW, .ref bR, .ref bP9, .ref bK, .ref bT, .ref bC]))] sz) t) (va_A [(m0, .inr (2, [.int th, .int (nI n), .int rg, .int st, .ref bV, .ref bW, .ref bR, .ref bP9, .ref bK, .ref bT, .ref bC]))] sz)) 0 0 (va_A [(m0, .inr (2, [.int th, .int (nI n), .int rg, .int st, .ref bV, .ref bW, .ref bR, .ref bP9, .ref bK, .ref bT, .ref bC]))] sz) := by
  refine mk_met [.ref m0, .int x, .int y] (fun A => va_Qi (fun (r : Int32) (u : Int32) => u = cd2 (¬ (okD 41 x ∧ okD 41 y)) (x = y) ∧ r = bP (cd2 (¬ (okD 41 x ∧ okD 41 y)) (x = y) = 0)) (fun (u : Int32) t => We D [(cA, .int)] [(m0, .inr (2, [.int u, .int (nI n), .int rg, .int st, .ref bV, .ref bW, .ref bR, .ref bP9, .ref bK, .ref bT, .ref bC]))] A t) A) (by decide) rfl (Nat.le_of_ble_eq_true rfl) ?_
  intro p e s m args below meth c A ls F hr hlocks hname hP hK hD hA hl
  have hx := F.1
  have hb := F.2.1
  have hml := F.2.2.1
  have hown := F.2.2.2.1
  have hts := F.2.2.2.2
  have hS : va_S A s.heap s.heap [] := va_S.rf
  have hl : lv_has ls 3 [(0, .ref m0), (1, .int x), (2, .int y)] := hl
  refine absQ (fun Q hQ => ?_)
  refine lv_aload_n hx hb dX2_areTwo_0 rfl (lv_at hl 0 rfl) ?_
  refine lv_iload_n hx hb dX2_areTwo_1 rfl (lv_at hl 1 rfl) ?_
  have hX_1 : Cut D A [(m0, .inr (2, [.int th, .int (nI n), .int rg, .int st, .ref bV, .ref bW, .ref bR, .ref bP9, .ref bK, .ref bT, .ref bC]))] [] [(m0, .inr (2, [.int th, .int (nI n), .int rg, .int st, .ref bV, .ref bW, .ref bR, .ref bP9, .ref bK, .ref bT, .ref bC]))] [(cA, .int)] [] [] [0] [] := ⟨rfl, rfl, rfl, rfl, by decide, rfl⟩
  refine ki hX_1 hP hD hS hA (kRunS (As := [.int x]) (rest := [.ref m0]) F (c_X2_isPlank l D x s.heap.size) (va_cwS 1 hts gX2_areTwo_X2_isPlank rfl rfl rfl (by decide +kernel) ⟨Nat.le_of_ble_eq_true rfl, Nat.le_of_ble_eq_true rfl⟩) hK hP hD hX_1 rfl hl.1 rfl (Nat.le_of_ble_eq_true rfl) dX2_areTwo_2 ⟨Nat.le_of_ble_eq_true rfl, Nat.le_of_ble_eq_true rfl⟩) (fun r_2 u_3 H locs hw_4 hP hD hS => ?_)
  have hw_4 : r_2 = bP (okD 41 x) := hw_4
  rw [hw_4]
  have hP : va_P D vwCl [(m0, .inr (2, [.int th, .int (nI n), .int rg, .int st, .ref bV, .ref bW, .ref bR, .ref bP9, .ref bK, .ref bT, .ref bC]))] H := hP
  have hD : va_D A [(m0, .inr (2, [.int th, .int (nI n), .int rg, .int st, .ref bV, .ref bW, .ref bR, .ref bP9, .ref bK, .ref bT, .ref bC]))] := hD
  refine lv_if_eq (tgt := 15) hx hb dX2_areTwo_5 (by decide) (fun c_5 => ?_) (fun c_5 => ?_)
  · skip
    refine lv_iconst (v := 1) hx hb dX2_areTwo_15 (by decide) ?_
    refine lv_goto (tgt := 29) hx hb dX2_areTwo_16 (by decide) ?_
    refine va_put (D := D) (ci := 2) (v := .int 1) (ty := .int) (C := RX2) (T := TX2) (N := 11) hx hb hts uX2_X2_areTwo tyX2 tyX2_ok nmX2 hown hK hP hD hS 0 rfl rfl 0 (by decide) (hts (.fieldLink RX2 35 "RopeChoicesModel" "thrown" "I") (List.mem_of_getElem? (i := 1) rfl)) (fun _ h9 => h9) rfl (by decide +kernel) rfl rfl (Nat.le_of_ble_eq_true rfl) dX2_areTwo_29 (fun H locs hP hD hS => ?_)
    have hP : va_P D vwCl [(m0, .inr (2, [.int 1, .int (nI n), .int rg, .int st, .ref bV, .ref bW, .ref bR, .ref bP9, .ref bK, .ref bT, .ref bC]))] H := hP
    have hD : va_D A [(m0, .inr (2, [.int 1, .int (nI n), .int rg, .int st, .ref bV, .ref bW, .ref bR, .ref bP9, .ref bK, .ref bT, .ref bC]))] := hD
    refine lv_aload_n hx hb dX2_areTwo_32 rfl (lv_at hl 0 rfl) ?_
    refine va_get (D := D) (ci := 2) (v := .int 1) (C := RX2) (T := TX2) (N := 11) hx hb hts uX2_X2_areTwo hown hK hP 0 rfl rfl 0 (by decide) (hts (.fieldLink RX2 35 "RopeChoicesModel" "thrown" "I") (List.mem_of_getElem? (i := 1) rfl)) (fun _ h9 => h9) rfl dX2_areTwo_33 ?_
    refine lv_if_ne (tgt := 43) hx hb dX2_areTwo_36 (by decide) (fun c_36 => ?_) (fun c_36 => ?_)
    · skip
      refine lv_iconst (v := 0) hx hb dX2_areTwo_43 (by decide) ?_
      refine useQ hQ ?_
      exact e_z (v := 0) F hr hlocks hK hP hD hS [0] [0] 1 (by first | exact Or.inl rfl | exact Or.inr rfl | exact bP_01 _) (⟨(cd2_1 (fun z => bP_eq c_5 z.1)).symm, bP_f (fun z => cx1 (cd2_1 (fun z => bP_eq c_5 z.1)) z)⟩) rfl rfl rfl (Nat.le_of_ble_eq_true rfl) (Nat.le_of_ble_eq_true rfl) dX2_areTwo_44
    · skip
      exact absurd c_36 (by decide)
  · skip
    refine lv_iload_n hx hb dX2_areTwo_8 rfl (lv_at hl 2 rfl) ?_
    have hX_5 : Cut D A [(m0, .inr (2, [.int th, .int (nI n), .int rg, .int st, .ref bV, .ref bW, .ref bR, .ref bP9, .ref bK, .ref bT, .ref bC]))] [] [(m0, .inr (2, [.int th, .int (nI n), .int rg, .int st, .ref bV, .ref bW, .ref bR, .ref bP9, .ref bK, .ref bT, .ref bC]))] [(cA, .int)] [] [] [0] [] := ⟨rfl, rfl, rfl, rfl, by decide, rfl⟩
    refine ki hX_5 hP hD hS hA (kRunS (As := [.int y]) (rest := [.ref m0]) F (c_X2_isPlank l D y H.size) (va_cwS 1 hts gX2_areTwo_X2_isPlank rfl rfl rfl (by decide +kernel) ⟨Nat.le_of_ble_eq_true rfl, Nat.le_of_ble_eq_true rfl⟩) hK hP hD hX_5 rfl hl.1 rfl (Nat.le_of_ble_eq_true rfl) dX2_areTwo_9 ⟨Nat.le_of_ble_eq_true rfl, Nat.le_of_ble_eq_true rfl⟩) (fun r_6 u_7 H locs hw_8 hP hD hS => ?_)
    have hw_8 : r_6 = bP (okD 41 y) := hw_8
    rw [hw_8]
    have hP : va_P D vwCl [(m0, .inr (2, [.int th, .int (nI n), .int rg, .int st, .ref bV, .ref bW, .ref bR, .ref bP9, .ref bK, .ref bT, .ref bC]))] H := hP
    have hD : va_D A [(m0, .inr (2, [.int th, .int (nI n), .int rg, .int st, .ref bV, .ref bW, .ref bR, .ref bP9, .ref bK, .ref bT, .ref bC]))] := hD
    refine lv_if_ne (tgt := 19) hx hb dX2_areTwo_12 (by decide) (fun c_12 => ?_) (fun c_12 => ?_)
    · skip
      refine lv_iload_n hx hb dX2_areTwo_19 rfl (lv_at hl 1 rfl) ?_
      refine lv_iload_n hx hb dX2_areTwo_20 rfl (lv_at hl 2 rfl) ?_
      refine lv_icmp_ne (tgt := 28) hx hb dX2_areTwo_21 (by decide) (fun c_21 => ?_) (fun c_21 => ?_)
      · skip
        refine lv_iconst (v := 0) hx hb dX2_areTwo_28 (by decide) ?_
        refine va_put (D := D) (ci := 2) (v := .int 0) (ty := .int) (C := RX2) (T := TX2) (N := 11) hx hb hts uX2_X2_areTwo tyX2 tyX2_ok nmX2 hown hK hP hD hS 0 rfl rfl 0 (by decide) (hts (.fieldLink RX2 35 "RopeChoicesModel" "thrown" "I") (List.mem_of_getElem? (i := 1) rfl)) (fun _ h9 => h9) rfl (by decide +kernel) rfl rfl (Nat.le_of_ble_eq_true rfl) dX2_areTwo_29 (fun H locs hP hD hS => ?_)
        have hP : va_P D vwCl [(m0, .inr (2, [.int 0, .int (nI n), .int rg, .int st, .ref bV, .ref bW, .ref bR, .ref bP9, .ref bK, .ref bT, .ref bC]))] H := hP
        have hD : va_D A [(m0, .inr (2, [.int 0, .int (nI n), .int rg, .int st, .ref bV, .ref bW, .ref bR, .ref bP9, .ref bK, .ref bT, .ref bC]))] := hD
        refine lv_aload_n hx hb dX2_areTwo_32 rfl (lv_at hl 0 rfl) ?_
        refine va_get (D := D) (ci := 2) (v := .int 0) (C := RX2) (T := TX2) (N := 11) hx hb hts uX2_X2_areTwo hown hK hP 0 rfl rfl 0 (by decide) (hts (.fieldLink RX2 35 "RopeChoicesModel" "thrown" "I") (List.mem_of_getElem? (i := 1) rfl)) (fun _ h9 => h9) rfl dX2_areTwo_33 ?_
        refine lv_if_ne (tgt := 43) hx hb dX2_areTwo_36 (by decide) (fun c_36 => ?_) (fun c_36 => ?_)
        · skip
          exact absurd rfl c_36
        · skip
          refine lv_iconst (v := 1) hx hb dX2_areTwo_39 (by decide) ?_
          refine lv_goto (tgt := 44) hx hb dX2_areTwo_40 (by decide) ?_
          refine useQ hQ ?_
          exact e_z (v := 1) F hr hlocks hK hP hD hS [0] [0] 0 (by first | exact Or.inl rfl | exact Or.inr rfl | exact bP_01 _) (⟨(cd2_0 (not_not_intro ⟨bP_ne c_5, bP_ne c_12⟩) c_21).symm, bP_t (cd2_0 (not_not_intro ⟨bP_ne c_5, bP_ne c_12⟩) c_21)⟩) rfl rfl rfl (Nat.le_of_ble_eq_true rfl) (Nat.le_of_ble_eq_true rfl) dX2_areTwo_44
      · skip
        refine lv_iconst (v := 2) hx hb dX2_areTwo_24 (by decide) ?_
        refine lv_goto (tgt := 29) hx hb dX2_areTwo_25 (by decide) ?_
        refine va_put (D := D) (ci := 2) (v := .int 2) (ty := .int) (C := RX2) (T := TX2) (N := 11) hx hb hts uX2_X2_areTwo tyX2 tyX2_ok nmX2 hown hK hP hD hS 0 rfl rfl 0 (by decide) (hts (.fieldLink RX2 35 "RopeChoicesModel" "thrown" "I") (List.mem_of_getElem? (i := 1) rfl)) (fun _ h9 => h9) rfl (by decide +kernel) rfl rfl (Nat.le_of_ble_eq_true rfl) dX2_areTwo_29 (fun H locs hP hD hS => ?_)
        have hP : va_P D vwCl [(m0, .inr (2, [.int 2, .int (nI n), .int rg, .int st, .ref bV, .ref bW, .ref bR, .ref bP9, .ref bK, .ref bT, .ref bC]))] H := hP
        have hD : va_D A [(m0, .inr (2, [.int 2, .int (nI n), .int rg, .int st, .ref bV, .ref bW, .ref bR, .ref bP9, .ref bK, .ref bT, .ref bC]))] := hD
        refine lv_aload_n hx hb dX2_areTwo_32 rfl (lv_at hl 0 rfl) ?_
        refine va_get (D := D) (ci := 2) (v := .int 2) (C := RX2) (T := TX2) (N := 11) hx hb hts uX2_X2_areTwo hown hK hP 0 rfl rfl 0 (by decide) (hts (.fieldLink RX2 35 "RopeChoicesModel" "thrown" "I") (List.mem_of_getElem? (i := 1) rfl)) (fun _ h9 => h9) rfl dX2_areTwo_33 ?_
        refine lv_if_ne (tgt := 43) hx hb dX2_areTwo_36 (by decide) (fun c_36 => ?_) (fun c_36 => ?_)
        · skip
          refine lv_iconst (v := 0) hx hb dX2_areTwo_43 (by decide) ?_
          refine useQ hQ ?_
          exact e_z (v := 0) F hr hlocks hK hP hD hS [0] [0] 2 (by first | exact Or.inl rfl | exact Or.inr rfl | exact bP_01 _) (⟨(cd2_2 (not_not_intro ⟨bP_ne c_5, bP_ne c_12⟩) c_21).symm, bP_f (fun z => cx2 (cd2_2 (not_not_intro ⟨bP_ne c_5, bP_ne c_12⟩) c_21) z)⟩) rfl rfl rfl (Nat.le_of_ble_eq_true rfl) (Nat.le_of_ble_eq_true rfl) dX2_areTwo_44
        · skip
          exact absurd c_36 (by decide)
    · skip
      refine lv_iconst (v := 1) hx hb dX2_areTwo_15 (by decide) ?_
      refine lv_goto (tgt := 29) hx hb dX2_areTwo_16 (by decide) ?_
      refine va_put (D := D) (ci := 2) (v := .int 1) (ty := .int) (C := RX2) (T := TX2) (N := 11) hx hb hts uX2_X2_areTwo tyX2 tyX2_ok nmX2 hown hK hP hD hS 0 rfl rfl 0 (by decide) (hts (.fieldLink RX2 35 "RopeChoicesModel" "thrown" "I") (List.mem_of_getElem? (i := 1) rfl)) (fun _ h9 => h9) rfl (by decide +kernel) rfl rfl (Nat.le_of_ble_eq_true rfl) dX2_areTwo_29 (fun H locs hP hD hS => ?_)
      have hP : va_P D vwCl [(m0, .inr (2, [.int 1, .int (nI n), .int rg, .int st, .ref bV, .ref bW, .ref bR, .ref bP9, .ref bK, .ref bT, .ref bC]))] H := hP
      have hD : va_D A [(m0, .inr (2, [.int 1, .int (nI n), .int rg, .int st, .ref bV, .ref bW, .ref bR, .ref bP9, .ref bK, .ref bT, .ref bC]))] := hD
      refine lv_aload_n hx hb dX2_areTwo_32 rfl (lv_at hl 0 rfl) ?_
      refine va_get (D := D) (ci := 2) (v := .int 1) (C := RX2) (T := TX2) (N := 11) hx hb hts uX2_X2_areTwo hown hK hP 0 rfl rfl 0 (by decide) (hts (.fieldLink RX2 35 "RopeChoicesModel" "thrown" "I") (List.mem_of_getElem? (i := 1) rfl)) (fun _ h9 => h9) rfl dX2_areTwo_33 ?_
      refine lv_if_ne (tgt := 43) hx hb dX2_areTwo_36 (by decide) (fun c_36 => ?_) (fun c_36 => ?_)
      · skip
        refine lv_iconst (v := 0) hx hb dX2_areTwo_43 (by decide) ?_
        refine useQ hQ ?_
        exact e_z (v := 0) F hr hlocks hK hP hD hS [0] [0] 1 (by first | exact Or.inl rfl | exact Or.inr rfl | exact bP_01 _) (⟨(cd2_1 (fun z => bP_eq c_12 z.2)).symm, bP_f (fun z => cx1 (cd2_1 (fun z => bP_eq c_12 z.2)) z)⟩) rfl rfl rfl (Nat.le_of_ble_eq_true rfl) (Nat.le_of_ble_eq_true rfl) dX2_areTwo_44
      · skip
        exact absurd c_36 (by decide)
theorem uX2_X2_decisive : ∀ w ∈ u_ws RX2 TX2 11, w ∈ wsX2_decisive := (fun _ h => List.mem_cons_of_mem _ (List.mem_append_right _ h))
set_option maxHeartbeats 4000000 in
set_option maxRecDepth 100000 in
theorem c_X2_decisive (l : Launch) (D : va_G) (cA : ClassId) (m0 : Nat) (th : Int32) (n : Nat) (rg : Int32) (st : Int32) (bV : Nat) (bW : Nat) (bR : Nat) (bP9 : Nat) (bK : Nat) (bT : Nat) (bC : Nat) (fV : Nat → Int32) (fK : Nat → Int32) (fC : Nat → Int32) (hn : n ≤ 12) (hI : ∀ i, i < n → okD 41 (fK i)) (hn0 : n ≠ 0) (sz : Nat) : Met l yX2_decisive wsX2_decisive ({ frames := 2, cells := 0, slots := 0, locals := 45 } : Room) (va_Pc [.ref m0] (Wd D [(cA, .int)] [(m0, .inr (2, [.int th, .int (nI n), .int rg, .int st, .ref bV, .ref bW, .ref bR, .ref bP9, .ref bK, .ref bT, .ref bC])), (bV, .inl (cA, 12, .inl fV)), (bK, .inl (cA, 12, .inl fK)), (bC, .inl (cA, 41, .inl fC))] sz)) (va_Qi (fun (r : Int32) (u : Nat → Int32) => r = decF fK n) (fun (u : Nat → Int32) t => We D [(cA, .int)] [(m0, .inr (2, [.int th, .int (nI n), .int rg, .int st, .ref bV, .ref bW, .ref bR, .ref bP9, .ref bK, .ref bT, .ref bC])), (bV, .inl (cA, 12, .inl fV)), (bK, .inl (cA, 12, .inl fK)), (bC, .inl (cA, 41, .inl u))] (va_A [(m0, .inr (2, [.int th, .int (nI n), .int rg, .int st, .ref bV, .ref bW, .ref bR, .ref bP9, .ref bK, .ref bT, .ref bC])), (bV, .inl (cA, 12, .inl fV)), (bK, .inl (cA, 12, .inl fK)), (bC, .inl (cA, 41, .inl fC))] sz) t) (va_A [(m0, .inr (2, [.int th, .int (nI n), .int rg, .int st, .ref bV, .ref bW, .ref bR, .ref bP9, .ref bK, .ref bT, .ref bC])), (bV, .inl (cA, 12, .inl fV)), (bK, .inl (cA, 12, .inl fK)), (bC, .inl (cA, 41, .inl fC))] sz)) 0 0 (va_A [(m0, .inr (2, [.int th, .int (nI n), .int rg, .int st, .ref bV, .ref bW, .ref bR, .ref bP9, .ref bK, .ref bT, .ref bC])), (bV, .inl (cA, 12, .inl fV)), (bK, .inl (cA, 12, .inl fK)), (bC, .inl (cA, 41, .inl fC))] sz) := by
  refine mk_met [.ref m0] (fun A => va_Qi (fun (r : Int32) (u : Nat → Int32) => r = decF fK n) (fun (u : Nat → Int32) t => We D [(cA, .int)] [(m0, .inr (2, [.int th, .int (nI n), .int rg, .int st, .ref bV, .ref bW, .ref bR, .ref bP9, .ref bK, .ref bT, .ref bC])), (bV, .inl (cA, 12, .inl fV)), (bK, .inl (cA, 12, .inl fK)), (bC, .inl (cA, 41, .inl u))] A t) A) (by decide) rfl (Nat.le_of_ble_eq_true rfl) ?_
  intro p e s m args below meth c A ls F hr hlocks hname hP hK hD hA hl
  have hx := F.1
  have hb := F.2.1
  have hml := F.2.2.1
  have hown := F.2.2.2.1
  have hts := F.2.2.2.2
  have hS : va_S A s.heap s.heap [] := va_S.rf
  have hl : lv_has ls 3 [(0, .ref m0)] := hl
  refine absQ (fun Q hQ => ?_)
  obtain ⟨i0, hi0, he0⟩ := mid_mem (f := fK) hn0
  refine lv_aload_n hx hb dX2_decisive_0 rfl (lv_at hl 0 rfl) ?_
  have hX_1 : Cut D A [(m0, .inr (2, [.int th, .int (nI n), .int rg, .int st, .ref bV, .ref bW, .ref bR, .ref bP9, .ref bK, .ref bT, .ref bC])), (bV, .inl (cA, 12, .inl fV)), (bK, .inl (cA, 12, .inl fK)), (bC, .inl (cA, 41, .inl fC))] [(m0, .inr (2, [.int th, .int (nI n), .int rg, .int st, .ref bV, .ref bW, .ref bR, .ref bP9, .ref bK, .ref bT, .ref bC])), (bV, .inl (cA, 12, .inl fV)), (bK, .inl (cA, 12, .inl fK)), (bC, .inl (cA, 41, .inl fC))] [] [(cA, .int)] [(cA, .int)] [0, 1, 2, 3] [] [0] := ⟨rfl, rfl, rfl, rfl, by decide, rfl⟩
  refine ki hX_1 hP hD hS hA (kRunV (q := (RX2, TX2, 11)) (As := []) (rest := []) F (c_X2_middle l D cA m0 th n rg st bV bW bR bP9 bK bT bC fV fK fC hn hI s.heap.size) (cwV 0 hts gX2_decisive_X2_middle rfl rfl rfl (by decide +kernel) ⟨Nat.le_of_ble_eq_true rfl, Nat.le_of_ble_eq_true rfl⟩) hK hP hD hX_1 0 rfl rfl rfl hl.1 rfl (Nat.le_of_ble_eq_true rfl) dX2_decisive_1 ⟨Nat.le_of_ble_eq_true rfl, Nat.le_of_ble_eq_true rfl⟩) (fun r_2 u_3 H locs hw_4 hP hD hS => ?_)
  have hw_4 : r_2 = midM fK n := hw_4
  rw [hw_4]
  have hP : va_P D vwCl [(m0, .inr (2, [.int th, .int (nI n), .int rg, .int st, .ref bV, .ref bW, .ref bR, .ref bP9, .ref bK, .ref bT, .ref bC])), (bV, .inl (cA, 12, .inl fV)), (bK, .inl (cA, 12, .inl fK)), (bC, .inl (cA, 41, .inl u_3))] H := hP
  have hD : va_D A [(m0, .inr (2, [.int th, .int (nI n), .int rg, .int st, .ref bV, .ref bW, .ref bR, .ref bP9, .ref bK, .ref bT, .ref bC])), (bV, .inl (cA, 12, .inl fV)), (bK, .inl (cA, 12, .inl fK)), (bC, .inl (cA, 41, .inl u_3))] := hD
  refine topi (midF fK n) (midM_ne hn0) ?_
  refine lv_istore_n (lv' := [(1, .int (midF fK n)), (0, .ref m0)]) hx hb dX2_decisive_4 rfl hl (by decide) rfl (fun ls hl => ?_)
  refine lv_iconst (v := 0) hx hb dX2_decisive_5 (by decide) ?_
  refine lv_istore_n (lv' := [(2, .int 0), (1, .int (midF fK n)), (0, .ref m0)]) hx hb dX2_decisive_6 rfl hl (by decide) rfl (fun ls hl => ?_)
  have loop7 : ∀ (k : Nat) (i : Nat), (i0 < i + k) → (i ≤ i0) → (∀ j, j < i → fK j ≠ midF fK n) →  ∀ (H : Heap) (locs : List Loc), va_P D vwCl [(m0, .inr (2, [.int th, .int (nI n), .int rg, .int st, .ref bV, .ref bW, .ref bR, .ref bP9, .ref bK, .ref bT, .ref bC])), (bV, .inl (cA, 12, .inl fV)), (bK, .inl (cA, 12, .inl fK)), (bC, .inl (cA, 41, .inl u_3))] H → va_D A [(m0, .inr (2, [.int th, .int (nI n), .int rg, .int st, .ref bV, .ref bW, .ref bR, .ref bP9, .ref bK, .ref bT, .ref bC])), (bV, .inl (cA, 12, .inl fV)), (bK, .inl (cA, 12, .inl fK)), (bC, .inl (cA, 41, .inl u_3))] → va_S A s.heap H locs → ∀ ls : Array Slot, lv_has ls 3 [(2, .int (nI i)), (1, .int (midF fK n)), (0, .ref m0)] → W p l e ({ frames := 2, cells := 0, slots := 0, locals := 45 } : Room) s m args below meth c H locs 0 0 Q (F0 m 7 ls []) := by
    intro k
    induction k with
    | zero =>
      intro i hk hi hfst
      exact absurd hk (by omega)
    | succ k ih7 =>
      intro i hk hi hfst H locs hP hD hS ls hl
      refine lv_aload_n hx hb dX2_decisive_7 rfl (lv_at hl 2 rfl) ?_
      refine va_get (D := D) (ci := 2) (v := .ref bK) (C := RX2) (T := TX2) (N := 11) hx hb hts uX2_X2_decisive hown hK hP 0 rfl rfl 8 (by decide) (hts (.fieldLink RX2 26 "RopeChoicesModel" "plank" "[I") (List.mem_of_getElem? (i := 1) rfl)) (fun _ h9 => h9) rfl dX2_decisive_8 ?_
      refine lv_iload_n hx hb dX2_decisive_11 rfl (lv_at hl 0 rfl) ?_
      refine a_ld (k := i) hx hb hK hP 2 0 rfl rfl (by omega) (Nat.le_of_ble_eq_true rfl) dX2_decisive_12 ?_
      refine lv_iload_n hx hb dX2_decisive_13 rfl (lv_at hl 1 rfl) ?_
      refine lv_icmp_eq (tgt := 23) hx hb dX2_decisive_14 (by decide) (fun c_14 => ?_) (fun c_14 => ?_)
      · skip
        refine lv_iload_n hx hb dX2_decisive_23 rfl (lv_at hl 0 rfl) ?_
        refine useQ hQ ?_
        exact e_i (v := nI i) F hr hlocks hK hP hD hS [0, 1, 2, 3] [0] u_3 (decF_eq ⟨i, by omega, rfl, c_14, hfst⟩) rfl rfl rfl (Nat.le_of_ble_eq_true rfl) (Nat.le_of_ble_eq_true rfl) dX2_decisive_24
      · skip
        refine lv_iinc (v := nI (i + 1)) (lv' := [(2, .int (nI (i + 1))), (1, .int (midF fK n)), (0, .ref m0)]) hx hb dX2_decisive_17 hl (k := 0) rfl (nI_1 _) (by decide) rfl (fun ls hl => ?_)
        refine lv_goto (tgt := 7) hx hb dX2_decisive_20 (by decide) ?_
        exact ih7 (i + 1) (by omega) (by rcases Nat.lt_or_ge i i0 with h9 | h9; exact h9; exact absurd (by rw [show i = i0 by omega]; exact he0) c_14) (fun j a => if h : j = i then h ▸ c_14 else hfst j (by omega)) _ _ (hP.sub [0, 1, 2, 3] rfl) (hD.sub [0, 1, 2, 3] (by decide) rfl) hS ls (lv_sub hl [0, 1, 2] rfl)
  exact loop7 (i0 + 1) 0 (by omega) (Nat.zero_le _) (fun j a => absurd a (Nat.not_lt_zero _)) _ _ (hP.sub [0, 1, 2, 3] rfl) (hD.sub [0, 1, 2, 3] (by decide) rfl) hS ls (lv_sub hl [0, 1, 2] rfl)
theorem uX2_X2_stand : ∀ w ∈ u_ws RX2 TX2 11, w ∈ wsX2_stand := (fun _ h => List.mem_cons_of_mem _ (List.mem_append_right _ h))
set_option maxHeartbeats 4000000 in
set_option maxRecDepth 100000 in
theorem c_X2_stand (l : Launch) (D : va_G) (cA : ClassId) (m0 : Nat) (th : Int32) (n : Nat) (rg : Int32) (st : Int32) (bV : Nat) (bW : Nat) (bR : Nat) (bP9 : Nat) (bK : Nat) (bT : Nat) (bC : Nat) (fV : Nat → Int32) (fW : Nat → Int32) (fK : Nat → Int32) (fC : Nat → Int32) (j : Nat) (hn : n ≤ 12) (hj : j < n) (hI : ∀ i, i < n → okD 41 (fK i)) (hW : ∀ i, i < n → okD 41 (fW i)) (sz : Nat) : Met l yX2_stand wsX2_stand ({ frames := 2, cells := 0, slots := 0, locals := 52 } : Room) (va_Pc [.ref m0, .int (nI j)] (Wd D [(cA, .int)] [(m0, .inr (2, [.int th, .int (nI n), .int rg, .int st, .ref bV, .ref bW, .ref bR, .ref bP9, .ref bK, .ref bT, .ref bC])), (bV, .inl (cA, 12, .inl fV)), (bW, .inl (cA, 12, .inl fW)), (bK, .inl (cA, 12, .inl fK)), (bC, .inl (cA, 41, .inl fC))] sz)) (va_Qi (fun (r : Int32) (u : Nat → Int32) => r = bestSt fW fK n j) (fun (u : Nat → Int32) t => We D [(cA, .int)] [(m0, .inr (2, [.int th, .int (nI n), .int rg, .int st, .ref bV, .ref bW, .ref bR, .ref bP9, .ref bK, .ref bT, .ref bC])), (bV, .inl (cA, 12, .inl fV)), (bW, .inl (cA, 12, .inl fW)), (bK, .inl (cA, 12, .inl fK)), (bC, .inl (cA, 41, .inl u))] (va_A [(m0, .inr (2, [.int th, .int (nI n), .int rg, .int st, .ref bV, .ref bW, .ref bR, .ref bP9, .ref bK, .ref bT, .ref bC])), (bV, .inl (cA, 12, .inl fV)), (bW, .inl (cA, 12, .inl fW)), (bK, .inl (cA, 12, .inl fK)), (bC, .inl (cA, 41, .inl fC))] sz) t) (va_A [(m0, .inr (2, [.int th, .int (nI n), .int rg, .int st, .ref bV, .ref bW, .ref bR, .ref bP9, .ref bK, .ref bT, .ref bC])), (bV, .inl (cA, 12, .inl fV)), (bW, .inl (cA, 12, .inl fW)), (bK, .inl (cA, 12, .inl fK)), (bC, .inl (cA, 41, .inl fC))] sz)) 0 0 (va_A [(m0, .inr (2, [.int th, .int (nI n), .int rg, .int st, .ref bV, .ref bW, .ref bR, .ref bP9, .ref bK, .ref bT, .ref bC])), (bV, .inl (cA, 12, .inl fV)), (bW, .inl (cA, 12, .inl fW)), (bK, .inl (cA, 12, .inl fK)), (bC, .inl (cA, 41, .inl fC))] sz) := by
  refine mk_met [.ref m0, .int (nI j)] (fun A => va_Qi (fun (r : Int32) (u : Nat → Int32) => r = bestSt fW fK n j) (fun (u : Nat → Int32) t => We D [(cA, .int)] [(m0, .inr (2, [.int th, .int (nI n), .int rg, .int st, .ref bV, .ref bW, .ref bR, .ref bP9, .ref bK, .ref bT, .ref bC])), (bV, .inl (cA, 12, .inl fV)), (bW, .inl (cA, 12, .inl fW)), (bK, .inl (cA, 12, .inl fK)), (bC, .inl (cA, 41, .inl u))] A t) A) (by decide) rfl (Nat.le_of_ble_eq_true rfl) ?_
  intro p e s m args below meth c A ls F hr hlocks hname hP hK hD hA hl
  have hx := F.1
  have hb := F.2.1
  have hml := F.2.2.1
  have hown := F.2.2.2.1
  have hts := F.2.2.2.2
  have hS : va_S A s.heap s.heap [] := va_S.rf
  have hl : lv_has ls 7 [(0, .ref m0), (1, .int (nI j))] := hl
  refine absQ (fun Q hQ => ?_)
  refine lv_aload_n hx hb dX2_stand_0 rfl (lv_at hl 0 rfl) ?_
  refine va_get (D := D) (ci := 2) (v := .ref bK) (C := RX2) (T := TX2) (N := 11) hx hb hts uX2_X2_stand hown hK hP 0 rfl rfl 8 (by decide) (hts (.fieldLink RX2 26 "RopeChoicesModel" "plank" "[I") (List.mem_of_getElem? (i := 1) rfl)) (fun _ h9 => h9) rfl dX2_stand_1 ?_
  refine lv_iload_n hx hb dX2_stand_4 rfl (lv_at hl 1 rfl) ?_
  refine a_ld (k := j) hx hb hK hP 3 0 rfl rfl (by omega) (Nat.le_of_ble_eq_true rfl) dX2_stand_5 ?_
  refine lv_istore_n (lv' := [(2, .int (fK j)), (0, .ref m0), (1, .int (nI j))]) hx hb dX2_stand_6 rfl hl (by decide) rfl (fun ls hl => ?_)
  refine lv_iconst (v := (-1)) hx hb dX2_stand_7 (by decide) ?_
  refine lv_istore_n (lv' := [(3, .int (-1)), (2, .int (fK j)), (0, .ref m0), (1, .int (nI j))]) hx hb dX2_stand_8 rfl hl (by decide) rfl (fun ls hl => ?_)
  refine lv_bipush (v := 41) hx hb dX2_stand_9 (by decide) ?_
  refine lv_istore (lv' := [(4, .int 41), (3, .int (-1)), (2, .int (fK j)), (0, .ref m0), (1, .int (nI j))]) hx hb dX2_stand_11 hl (by decide) rfl (fun ls hl => ?_)
  refine lv_iconst (v := 0) hx hb dX2_stand_13 (by decide) ?_
  refine lv_istore (lv' := [(5, .int 0), (4, .int 41), (3, .int (-1)), (2, .int (fK j)), (0, .ref m0), (1, .int (nI j))]) hx hb dX2_stand_14 hl (by decide) rfl (fun ls hl => ?_)
  have loop16 : ∀ (k : Nat) (q : Nat) (b : Int32) (v : Int32) (g : Nat → Int32) (gC : Nat → Int32), (41 < q + k) → (q ≤ 41) → (∀ i, i ≠ j → g i = fK i) → ((q = 0 ∧ b = -1 ∧ v = 41) ∨ (1 ≤ q ∧ (b, v) = amin (fun p => jabs (medF (upd fK j (nI p)) allS n - fW j)) (q - 1))) →  ∀ (H : Heap) (locs : List Loc), va_P D vwCl [(m0, .inr (2, [.int th, .int (nI n), .int rg, .int st, .ref bV, .ref bW, .ref bR, .ref bP9, .ref bK, .ref bT, .ref bC])), (bV, .inl (cA, 12, .inl fV)), (bW, .inl (cA, 12, .inl fW)), (bK, .inl (cA, 12, .inl g)), (bC, .inl (cA, 41, .inl gC))] H → va_D A [(m0, .inr (2, [.int th, .int (nI n), .int rg, .int st, .ref bV, .ref bW, .ref bR, .ref bP9, .ref bK, .ref bT, .ref bC])), (bV, .inl (cA, 12, .inl fV)), (bW, .inl (cA, 12, .inl fW)), (bK, .inl (cA, 12, .inl g)), (bC, .inl (cA, 41, .inl gC))] → va_S A s.heap H locs → ∀ ls : Array Slot, lv_has ls 7 [(5, .int (nI q)), (4, .int v), (3, .int b), (2, .int (fK j)), (0, .ref m0), (1, .int (nI j))] → W p l e ({ frames := 2, cells := 0, slots := 0, locals := 52 } : Room) s m args below meth c H locs 0 0 Q (F0 m 16 ls []) := by
    intro k
    induction k with
    | zero =>
      intro q b v g gC hk hq hg hM
      exact absurd hk (by omega)
    | succ k ih16 =>
      intro q b v g gC hk hq hg hM H locs hP hD hS ls hl
      refine lv_iload hx hb dX2_stand_16 (lv_at hl 0 rfl) ?_
      refine lv_bipush (v := 41) hx hb dX2_stand_18 (by decide) ?_
      refine lv_icmp_ge (tgt := 65) hx hb dX2_stand_20 (by decide) (fun c_20 => ?_) (fun c_20 => ?_)
      · skip
        have g_20 : 41 ≤ q := nf_ge_t (by omega) (by omega) c_20
        refine lv_aload_n hx hb dX2_stand_65 rfl (lv_at hl 4 rfl) ?_
        refine va_get (D := D) (ci := 2) (v := .ref bK) (C := RX2) (T := TX2) (N := 11) hx hb hts uX2_X2_stand hown hK hP 0 rfl rfl 8 (by decide) (hts (.fieldLink RX2 26 "RopeChoicesModel" "plank" "[I") (List.mem_of_getElem? (i := 1) rfl)) (fun _ h9 => h9) rfl dX2_stand_66 ?_
        refine lv_iload_n hx hb dX2_stand_69 rfl (lv_at hl 5 rfl) ?_
        refine lv_iload_n hx hb dX2_stand_70 rfl (lv_at hl 3 rfl) ?_
        refine a_st (k := j) hx hb hK hP hD hS 3 0 rfl rfl (by omega) (Nat.le_of_ble_eq_true rfl) dX2_stand_71 (fun H locs hP hD hS => ?_)
        have hP : va_P D vwCl [(m0, .inr (2, [.int th, .int (nI n), .int rg, .int st, .ref bV, .ref bW, .ref bR, .ref bP9, .ref bK, .ref bT, .ref bC])), (bV, .inl (cA, 12, .inl fV)), (bW, .inl (cA, 12, .inl fW)), (bK, .inl (cA, 12, .inl (upd g j (fK j)))), (bC, .inl (cA, 41, .inl gC))] H := hP
        have hD : va_D A [(m0, .inr (2, [.int th, .int (nI n), .int rg, .int st, .ref bV, .ref bW, .ref bR, .ref bP9, .ref bK, .ref bT, .ref bC])), (bV, .inl (cA, 12, .inl fV)), (bW, .inl (cA, 12, .inl fW)), (bK, .inl (cA, 12, .inl (upd g j (fK j)))), (bC, .inl (cA, 41, .inl gC))] := hD
        rw [upd_id hg] at hP hD
        have hP : va_P D vwCl [(m0, .inr (2, [.int th, .int (nI n), .int rg, .int st, .ref bV, .ref bW, .ref bR, .ref bP9, .ref bK, .ref bT, .ref bC])), (bV, .inl (cA, 12, .inl fV)), (bW, .inl (cA, 12, .inl fW)), (bK, .inl (cA, 12, .inl fK)), (bC, .inl (cA, 41, .inl gC))] H := hP
        have hD : va_D A [(m0, .inr (2, [.int th, .int (nI n), .int rg, .int st, .ref bV, .ref bW, .ref bR, .ref bP9, .ref bK, .ref bT, .ref bC])), (bV, .inl (cA, 12, .inl fV)), (bW, .inl (cA, 12, .inl fW)), (bK, .inl (cA, 12, .inl fK)), (bC, .inl (cA, 41, .inl gC))] := hD
        refine lv_iload_n hx hb dX2_stand_72 rfl (lv_at hl 2 rfl) ?_
        refine useQ hQ ?_
        exact e_i (v := b) F hr hlocks hK hP hD hS [0, 1, 2, 3, 4] [0] gC (stand_e hM (show q = 41 by omega)) rfl rfl rfl (Nat.le_of_ble_eq_true rfl) (Nat.le_of_ble_eq_true rfl) dX2_stand_73
      · skip
        have g_20 : q < 41 := nf_ge_f (by omega) (by omega) c_20
        refine lv_aload_n hx hb dX2_stand_23 rfl (lv_at hl 4 rfl) ?_
        refine va_get (D := D) (ci := 2) (v := .ref bK) (C := RX2) (T := TX2) (N := 11) hx hb hts uX2_X2_stand hown hK hP 0 rfl rfl 8 (by decide) (hts (.fieldLink RX2 26 "RopeChoicesModel" "plank" "[I") (List.mem_of_getElem? (i := 1) rfl)) (fun _ h9 => h9) rfl dX2_stand_24 ?_
        refine lv_iload_n hx hb dX2_stand_27 rfl (lv_at hl 5 rfl) ?_
        refine lv_iload hx hb dX2_stand_28 (lv_at hl 0 rfl) ?_
        refine a_st (k := j) hx hb hK hP hD hS 3 0 rfl rfl (by omega) (Nat.le_of_ble_eq_true rfl) dX2_stand_30 (fun H locs hP hD hS => ?_)
        have hP : va_P D vwCl [(m0, .inr (2, [.int th, .int (nI n), .int rg, .int st, .ref bV, .ref bW, .ref bR, .ref bP9, .ref bK, .ref bT, .ref bC])), (bV, .inl (cA, 12, .inl fV)), (bW, .inl (cA, 12, .inl fW)), (bK, .inl (cA, 12, .inl (upd g j (nI q)))), (bC, .inl (cA, 41, .inl gC))] H := hP
        have hD : va_D A [(m0, .inr (2, [.int th, .int (nI n), .int rg, .int st, .ref bV, .ref bW, .ref bR, .ref bP9, .ref bK, .ref bT, .ref bC])), (bV, .inl (cA, 12, .inl fV)), (bW, .inl (cA, 12, .inl fW)), (bK, .inl (cA, 12, .inl (upd g j (nI q)))), (bC, .inl (cA, 41, .inl gC))] := hD
        rw [upd_upd hg] at hP hD
        have hP : va_P D vwCl [(m0, .inr (2, [.int th, .int (nI n), .int rg, .int st, .ref bV, .ref bW, .ref bR, .ref bP9, .ref bK, .ref bT, .ref bC])), (bV, .inl (cA, 12, .inl fV)), (bW, .inl (cA, 12, .inl fW)), (bK, .inl (cA, 12, .inl (upd fK j (nI q)))), (bC, .inl (cA, 41, .inl gC))] H := hP
        have hD : va_D A [(m0, .inr (2, [.int th, .int (nI n), .int rg, .int st, .ref bV, .ref bW, .ref bR, .ref bP9, .ref bK, .ref bT, .ref bC])), (bV, .inl (cA, 12, .inl fV)), (bW, .inl (cA, 12, .inl fW)), (bK, .inl (cA, 12, .inl (upd fK j (nI q)))), (bC, .inl (cA, 41, .inl gC))] := hD
        refine lv_aload_n hx hb dX2_stand_31 rfl (lv_at hl 4 rfl) ?_
        refine lv_iload_n hx hb dX2_stand_32 rfl (lv_at hl 5 rfl) ?_
        refine lv_aload_n hx hb dX2_stand_33 rfl (lv_at hl 4 rfl) ?_
        have hX_1 : Cut D A [(m0, .inr (2, [.int th, .int (nI n), .int rg, .int st, .ref bV, .ref bW, .ref bR, .ref bP9, .ref bK, .ref bT, .ref bC])), (bV, .inl (cA, 12, .inl fV)), (bW, .inl (cA, 12, .inl fW)), (bK, .inl (cA, 12, .inl (upd fK j (nI q)))), (bC, .inl (cA, 41, .inl gC))] [(m0, .inr (2, [.int th, .int (nI n), .int rg, .int st, .ref bV, .ref bW, .ref bR, .ref bP9, .ref bK, .ref bT, .ref bC])), (bV, .inl (cA, 12, .inl fV)), (bK, .inl (cA, 12, .inl (upd fK j (nI q)))), (bC, .inl (cA, 41, .inl gC))] [(bW, .inl (cA, 12, .inl fW))] [(cA, .int)] [(cA, .int)] [0, 1, 3, 4] [2] [0] := ⟨rfl, rfl, rfl, rfl, by decide, rfl⟩
        refine ki hX_1 hP hD hS hA (kRunV (q := (RX2, TX2, 11)) (As := []) (rest := [.int (nI j), .ref m0]) F (c_X2_middle l D cA m0 th n rg st bV bW bR bP9 bK bT bC fV (upd fK j (nI q)) gC hn (upd_ok hI (by omega)) H.size) (cwV 0 hts gX2_stand_X2_middle rfl rfl rfl (by decide +kernel) ⟨Nat.le_of_ble_eq_true rfl, Nat.le_of_ble_eq_true rfl⟩) hK hP hD hX_1 0 rfl rfl rfl hl.1 rfl (Nat.le_of_ble_eq_true rfl) dX2_stand_34 ⟨Nat.le_of_ble_eq_true rfl, Nat.le_of_ble_eq_true rfl⟩) (fun r_2 u_3 H locs hw_4 hP hD hS => ?_)
        have hw_4 : r_2 = midM (upd fK j (nI q)) n := hw_4
        rw [hw_4]
        have hP : va_P D vwCl [(bW, .inl (cA, 12, .inl fW)), (m0, .inr (2, [.int th, .int (nI n), .int rg, .int st, .ref bV, .ref bW, .ref bR, .ref bP9, .ref bK, .ref bT, .ref bC])), (bV, .inl (cA, 12, .inl fV)), (bK, .inl (cA, 12, .inl (upd fK j (nI q)))), (bC, .inl (cA, 41, .inl u_3))] H := hP
        have hD : va_D A [(bW, .inl (cA, 12, .inl fW)), (m0, .inr (2, [.int th, .int (nI n), .int rg, .int st, .ref bV, .ref bW, .ref bR, .ref bP9, .ref bK, .ref bT, .ref bC])), (bV, .inl (cA, 12, .inl fV)), (bK, .inl (cA, 12, .inl (upd fK j (nI q)))), (bC, .inl (cA, 41, .inl u_3))] := hD
        refine topi (medF (upd fK j (nI q)) allS n) (by rw [midM_ne (show n ≠ 0 by omega)]; unfold midF; rw [if_neg (show n ≠ 0 by omega)]) ?_
        have hX_5 : Cut D A [(bW, .inl (cA, 12, .inl fW)), (m0, .inr (2, [.int th, .int (nI n), .int rg, .int st, .ref bV, .ref bW, .ref bR, .ref bP9, .ref bK, .ref bT, .ref bC])), (bV, .inl (cA, 12, .inl fV)), (bK, .inl (cA, 12, .inl (upd fK j (nI q)))), (bC, .inl (cA, 41, .inl u_3))] [(m0, .inr (2, [.int th, .int (nI n), .int rg, .int st, .ref bV, .ref bW, .ref bR, .ref bP9, .ref bK, .ref bT, .ref bC])), (bW, .inl (cA, 12, .inl fW))] [(bV, .inl (cA, 12, .inl fV)), (bK, .inl (cA, 12, .inl (upd fK j (nI q)))), (bC, .inl (cA, 41, .inl u_3))] [(cA, .int)] [(cA, .int)] [1, 0] [2, 3, 4] [0] := ⟨rfl, rfl, rfl, rfl, by decide, rfl⟩
        refine ki hX_5 hP hD hS hA (kRunV (q := (RX2, TX2, 11)) (As := [.int (nI j), .int (medF (upd fK j (nI q)) allS n)]) (rest := []) F (c_X2_apart l D cA m0 th n rg st bV bW bR bP9 bK bT bC fW j (medF (upd fK j (nI q)) allS n) hn hj H.size) (cwV 2 hts gX2_stand_X2_apart rfl rfl rfl (by decide +kernel) ⟨Nat.le_of_ble_eq_true rfl, Nat.le_of_ble_eq_true rfl⟩) hK hP hD hX_5 1 rfl rfl rfl hl.1 rfl (Nat.le_of_ble_eq_true rfl) dX2_stand_37 ⟨Nat.le_of_ble_eq_true rfl, Nat.le_of_ble_eq_true rfl⟩) (fun r_6 u_7 H locs hw_8 hP hD hS => ?_)
        have hw_8 : r_6 = jabs (fW j - (medF (upd fK j (nI q)) allS n)) := hw_8
        rw [hw_8]
        have hP : va_P D vwCl [(bV, .inl (cA, 12, .inl fV)), (bK, .inl (cA, 12, .inl (upd fK j (nI q)))), (bC, .inl (cA, 41, .inl u_3)), (m0, .inr (2, [.int th, .int (nI n), .int rg, .int st, .ref bV, .ref bW, .ref bR, .ref bP9, .ref bK, .ref bT, .ref bC])), (bW, .inl (cA, 12, .inl fW))] H := hP
        have hD : va_D A [(bV, .inl (cA, 12, .inl fV)), (bK, .inl (cA, 12, .inl (upd fK j (nI q)))), (bC, .inl (cA, 41, .inl u_3)), (m0, .inr (2, [.int th, .int (nI n), .int rg, .int st, .ref bV, .ref bW, .ref bR, .ref bP9, .ref bK, .ref bT, .ref bC])), (bW, .inl (cA, 12, .inl fW))] := hD
        have ho9 : okD 41 (medF (upd fK j (nI q)) allS n) := med_ok (upd_ok hI (by omega)) (by rw [tot_all]; omega)
        refine topi (jabs (medF (upd fK j (nI q)) allS n - fW j)) (jabs_sym (hW j hj) ho9) ?_
        refine lv_istore (lv' := [(6, .int (jabs (medF (upd fK j (nI q)) allS n - fW j))), (5, .int (nI q)), (4, .int v), (3, .int b), (2, .int (fK j)), (0, .ref m0), (1, .int (nI j))]) hx hb dX2_stand_40 hl (by decide) rfl (fun ls hl => ?_)
        refine lv_iload hx hb dX2_stand_42 (lv_at hl 0 rfl) ?_
        refine lv_iload hx hb dX2_stand_44 (lv_at hl 2 rfl) ?_
        refine lv_icmp_lt (tgt := 52) hx hb dX2_stand_46 (by decide) (fun c_46 => ?_) (fun c_46 => ?_)
        · skip
          refine lv_iload hx hb dX2_stand_52 (lv_at hl 1 rfl) ?_
          refine lv_istore_n (lv' := [(3, .int (nI q)), (6, .int (jabs (medF (upd fK j (nI q)) allS n - fW j))), (5, .int (nI q)), (4, .int v), (2, .int (fK j)), (0, .ref m0), (1, .int (nI j))]) hx hb dX2_stand_54 rfl hl (by decide) rfl (fun ls hl => ?_)
          refine lv_iload hx hb dX2_stand_55 (lv_at hl 1 rfl) ?_
          refine lv_istore (lv' := [(4, .int (jabs (medF (upd fK j (nI q)) allS n - fW j))), (3, .int (nI q)), (6, .int (jabs (medF (upd fK j (nI q)) allS n - fW j))), (5, .int (nI q)), (2, .int (fK j)), (0, .ref m0), (1, .int (nI j))]) hx hb dX2_stand_57 hl (by decide) rfl (fun ls hl => ?_)
          refine lv_iinc (v := nI (q + 1)) (lv' := [(5, .int (nI (q + 1))), (4, .int (jabs (medF (upd fK j (nI q)) allS n - fW j))), (3, .int (nI q)), (6, .int (jabs (medF (upd fK j (nI q)) allS n - fW j))), (2, .int (fK j)), (0, .ref m0), (1, .int (nI j))]) hx hb dX2_stand_59 hl (k := 3) rfl (nI_1 _) (by decide) rfl (fun ls hl => ?_)
          refine lv_goto (tgt := 16) hx hb dX2_stand_62 (by decide) ?_
          exact ih16 (q + 1) (nI q) (jabs (medF (upd fK j (nI q)) allS n - fW j)) (upd fK j (nI q)) u_3 (by omega) (by omega) (fun i9 h9 => pk_un h9) (stand_s hM (by omega) c_46) _ _ (hP.sub [3, 0, 4, 1, 2] rfl) (hD.sub [3, 0, 4, 1, 2] (by decide) rfl) hS ls (lv_sub hl [0, 1, 2, 4, 5, 6] rfl)
        · skip
          refine lv_goto (tgt := 59) hx hb dX2_stand_49 (by decide) ?_
          refine lv_iinc (v := nI (q + 1)) (lv' := [(5, .int (nI (q + 1))), (6, .int (jabs (medF (upd fK j (nI q)) allS n - fW j))), (4, .int v), (3, .int b), (2, .int (fK j)), (0, .ref m0), (1, .int (nI j))]) hx hb dX2_stand_59 hl (k := 1) rfl (nI_1 _) (by decide) rfl (fun ls hl => ?_)
          refine lv_goto (tgt := 16) hx hb dX2_stand_62 (by decide) ?_
          exact ih16 (q + 1) b v (upd fK j (nI q)) u_3 (by omega) (by omega) (fun i9 h9 => pk_un h9) (stand_n hM (by omega) c_46 (jabs_le ho9 (hW j hj))) _ _ (hP.sub [3, 0, 4, 1, 2] rfl) (hD.sub [3, 0, 4, 1, 2] (by decide) rfl) hS ls (lv_sub hl [0, 2, 3, 4, 5, 6] rfl)
  exact loop16 (42) 0 (-1) 41 fK fC (by omega) (Nat.zero_le _) (fun _ _ => rfl) (Or.inl ⟨rfl, rfl, rfl⟩) _ _ (hP.sub [0, 1, 2, 3, 4] rfl) (hD.sub [0, 1, 2, 3, 4] (by decide) rfl) hS ls (lv_sub hl [0, 1, 2, 3, 4, 5] rfl)
