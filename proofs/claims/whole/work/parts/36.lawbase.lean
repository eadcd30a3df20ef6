/-! ===== the law: calls of its own methods, numbers, and what stays right ===== -/
section SXCALLS
variable {p : Program} {l : Launch} {e : Env} {R : Room} {s : State} {m : MethodId} {args : Array Value} {below : List Frame} {meth : Method} {c : Code} {H : Heap} {locs : List Loc} {cells slots : Nat} {Q : State → Prop} {cc : ByteArray} {pc nL : Nat} {ls : Array Slot} {D : va_G} {A : Nat → Prop} {ws wc wr : va_W} {tys tysC : List (ClassId × FieldType)} {mc ms : Nat} {Ts : List Cond} {own : String}
variable {index : Nat} {y : MethodName} {bytes : ByteArray} {maxL : Nat} {ret : Option FieldType} {wsY : List Cond} {rm : Room} {n : Nat} {As stk rest : List Value} {XC : String → State → State → Prop} {hh : List (Nat × Nat × Nat × Nat)}
theorem xRunSX {Qc : Array Value → State → Outcome → State → Prop} (F : CallFix p m c cc nL s args Ts own)
    (hM : vx_Met l y wsY rm (va_Pc As (Wx D tysC wc H.size)) Qc XC mc ms (va_A wc H.size))
    (cw : vx_CSW R s args own index y bytes maxL ret hh wsY rm mc ms n) (hK : va_K D vwCl tys s) (hP : va_P D vwCl ws H) (hD : va_D A ws) (hS : va_S A s.heap H locs) (hA : ∀ q, s.heap.size ≤ q → A q) (hXE : XE A s s.heap) {isC isR isT : List Nat} (hX : Cut D A ws wc wr tys tysC isC isR isT)
    (hn : As.length = n) (hsize : ls.size = nL) (hstk : stk = As.reverse ++ rest) (hW : (rest.map fun v => v.category).sum ≤ 8) (hdg : decode cc pc = .ok (.invokestatic index, 3)) (hf : cells + mc ≤ R.cells ∧ slots + ms ≤ R.slots) :
    vx_Run p l e R s m args below meth c H locs cells slots mc ms (F0 m pc ls stk) rest (Qc As.toArray) XC (va_A wc H.size) := by
  obtain ⟨hC, hR, hnC, hnR, hdis, hT⟩ := hX
  refine vx_runSX F hM cw ⟨Wx_blind, fun U hU hW => ⟨rfl, ⟨by rw [hU], by rw [hU]; exact hP.sub isC (map_fm hC), va_K.moved hW.alike (hK.sub isT hT), (hD.sub isC hnC hC).weaken (fun _ _ _ _ => trivial)⟩, ?_⟩⟩ rfl hn hsize hstk (lv_room hW) hdg hf
  rw [hU]
  exact ((hXE.kept hS.2.1).narrow (va_free hD hS hA isC hC)).warm hW
end SXCALLS
theorem lg_eq {a b : Int64} (h : a = b) : lg_cmp a b = 0 := by
  subst h
  unfold lg_cmp
  rw [if_neg (Int64.lt_irrefl), if_pos rfl]
theorem nI_lo {i L : Nat} (hi : i ≤ 4000) (hL : L ≤ 4000) : nI L - 5 < nI i ↔ L < i + 5 := by
  have a := nI_toInt (show i < 2 ^ 31 by omega)
  have b := nI_toInt (show L < 2 ^ 31 by omega)
  have e : (nI L - 5).toInt = (L : Int) - 5 := by
    rw [Int32.toInt_sub, b, show (5 : Int32).toInt = 5 from rfl]
    exact Int.bmod_eq_of_le (by omega) (by omega)
  rw [Int32.lt_iff_toInt_lt, e, a]
  omega
theorem nI_inj {j k : Nat} {d : Int32} (hj : j < 1000) (hk : k < 1000) (h1 : d = nI j) (h2 : d = nI k) : k = j := (nI_eq (by omega) (by omega)).mp (h2.symm.trans h1)
theorem inv_send {fW fR fP fK : Nat → Int32} {n : Nat} {x rr pp : Int32} (h : Inv fW fR fP fK n) (hx : okD 41 x) (hr : okB 0 20 rr) (hp : okB 1 5 pp) : Inv (upd fW n x) (upd fR n rr) (upd fP n pp) (upd fK n x) (n + 1) := fun i hi => by
  by_cases c : i = n
  · subst c
    rw [pk_us, pk_us, pk_us, pk_us]
    exact ⟨hx, hr, hp, hx⟩
  · rw [pk_un c, pk_un c, pk_un c, pk_un c]
    exact h i (by omega)
theorem inv_close {fW fR fP fK : Nat → Int32} {n j : Nat} (h : Inv fW fR fP fK n) : Inv (closeF fW j n) (closeF fR j n) (closeF fP j n) (closeF fK j n) (n - 1) := fun i hi => by
  simp only [closeF]
  by_cases c : j ≤ i ∧ i < n - 1
  · rw [if_pos c, if_pos c, if_pos c, if_pos c]
    exact h (i + 1) (by omega)
  · rw [if_neg c, if_neg c, if_neg c, if_neg c]
    exact h i (by omega)
theorem inv_W {fW fR fP fK : Nat → Int32} {n j : Nat} {x : Int32} (h : Inv fW fR fP fK n) (hx : okD 41 x) : Inv (upd fW j x) fR fP fK n := fun i hi => by
  have := h i hi
  by_cases c : i = j
  · subst c
    rw [pk_us]
    exact ⟨hx, this.2⟩
  · rw [pk_un c]
    exact this
theorem inv_K {fW fR fP fK : Nat → Int32} {n j : Nat} {x : Int32} (h : Inv fW fR fP fK n) (hx : okD 41 x) : Inv fW fR fP (upd fK j x) n := fun i hi => by
  have := h i hi
  by_cases c : i = j
  · subst c
    rw [pk_us]
    exact ⟨this.1, this.2.1, this.2.2.1, hx⟩
  · rw [pk_un c]
    exact this
section NEWL
variable {p : Program} {l : Launch} {e : Env} {R : Room} {s : State} {m : MethodId} {args : Array Value} {below : List Frame} {meth : Method} {c : Code} {H : Heap} {locs : List Loc} {cells slots : Nat} {Q : State → Prop}
variable {cc : ByteArray} {pc : Nat} {ls : Array Slot} {rest : List Value} {D : va_G} {A : Nat → Prop} {a : Nat} {tys : List (ClassId × FieldType)} {ws : va_W} {H0 : Heap}
theorem a_newl (hexec : p.tables.exec = Jvm.exec) (hb : c.code = cc) (harr : (Cond.arrayClass .long).before args s = true) (hK : va_K D vwCl tys s) (hP : va_P D vwCl ws H) (hD : va_D A ws) (hS : va_S A H0 H locs) (hA : ∀ q, H0.size ≤ q → A q) (t0 : Nat) {cL : ClassId} (ht : tys[t0]? = some (cL, .long))
    {n : Int32} {N : Nat} (hn : ¬ n < 0) (hN : n.toNatClampNeg = N) (hb4 : N ≤ 1000) (hcells : cells + 1 ≤ R.cells) (hslots : slots + N ≤ R.slots) (hdg : decode cc pc = .ok (.newarray .long, 2))
    (kk : ∀ (q : Nat) (H1 : Heap), va_P D vwCl (ws ++ [(q, .inl (cL, N, .inr (.inl (fun _ => 0))))]) H1 → va_D A (ws ++ [(q, .inl (cL, N, .inr (.inl (fun _ => 0))))]) → va_S A H0 H1 locs → W p l e R s m args below meth c H1 locs (cells + 1) (slots + N) Q (F0 m (pc + 2) ls (.ref q :: rest))) : W p l e R s m args below meth c H locs cells slots Q (F0 m pc ls (.int n :: rest)) := by
  refine va_newa (atype := .long) (ty := .long) (a0 := (N, .inr (.inl (fun _ => 0)))) (N' := N) hexec hb harr rfl hK hP hD hS hA (fun _ => rfl) hn hN ?_ hcells hslots hdg ?_
  · show N * 8 ≤ 536870912
    omega
  · intro q cB H1 hK1 hP1 hD1 hS1
    have h1 : va_RA s cB .long := (hK1.2 tys.length (cB, .long) (by rw [List.getElem?_append_right (Nat.le_refl _), Nat.sub_self]; rfl)).2
    have h2 : va_RA s cL .long := (hK.2 t0 _ ht).2
    have e : cB = cL := Option.some.inj (Eq.trans (Eq.symm h1) h2)
    subst e
    exact kk q H1 hP1 hD1 hS1
end NEWL
