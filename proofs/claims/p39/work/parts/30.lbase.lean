/-! ===== the law's own numbers, its script, what stays right ===== -/
def bel (v n : Int32) : Int32 := (v &&& 2147483647) - (v &&& 2147483647) / n * n
theorem bel_ok {v : Int32} {k : Nat} (h0 : 0 < k) (h1 : k ≤ 1000) : okD k (bel v (nI k)) := by
  obtain ⟨j, hj, e⟩ := pk_andE v (m := 2147483647) 31 (by decide +kernel)
  unfold bel
  rw [e, pk_rem hj h0 (by omega)]
  exact ⟨j % k, Nat.mod_lt _ h0, rfl⟩
theorem clamp_ok (y : Int32) : okD 41 (jmax 0 (jmin 40 y)) := by
  have e : (jmax 0 (jmin 40 y)).toInt = max 0 (min 40 y.toInt) := by rw [jmaxI, jminI]; rfl
  exact okD_ofInt (by omega) (by omega) (by omega)
theorem one_B {k : Nat} {x : Int32} (h : okD k x) : okB 1 k (1 + x) := by
  obtain ⟨j, hj, rfl⟩ := h
  exact ⟨1 + j, by omega, by omega, nI_add 1 j⟩
theorem okB_w {lo hi hi' : Nat} {x : Int32} (h : okB lo hi x) (h1 : hi ≤ hi') : okB lo hi' x := by
  obtain ⟨j, a, b, e⟩ := h
  exact ⟨j, a, by omega, e⟩
theorem D_B {k : Nat} {x : Int32} (h : okD k x) (hk : k ≤ 21) : okB 0 20 x := by
  obtain ⟨j, hj, e⟩ := h
  exact ⟨j, Nat.zero_le _, by omega, e⟩
def col6 (a b c d e f : Nat → Int32) : Nat → Nat → Int32 := fun k => match k with
  | 0 => a
  | 1 => b
  | 2 => c
  | 3 => d
  | 4 => e
  | _ => f
/-- the state is as it must be -/
def GS (n : Nat) (st : Int32) (fV fW fR fP fK : Nat → Int32) : Prop := n ≤ 12 ∧ Inv fW fR fP fK n ∧ (∀ i, i < n → okD 5 (fV i)) ∧ okB 1 12 st
theorem gs_send {n : Nat} {st v x rr pp : Int32} {fV fW fR fP fK : Nat → Int32} (h : GS n st fV fW fR fP fK) (hn : n < 12) (hv : okD 5 v) (hx : okD 41 x) (hr : okB 0 20 rr) (hp : okB 1 5 pp) : GS (n + 1) st (upd fV n v) (upd fW n x) (upd fR n rr) (upd fP n pp) (upd fK n x) := by
  refine ⟨by omega, inv_send h.2.1 hx hr hp, fun i hi => ?_, h.2.2.2⟩
  by_cases c : i = n
  · subst c
    rw [pk_us]
    exact hv
  · rw [pk_un c]
    exact h.2.2.1 i (by omega)
theorem gs_close {n j : Nat} {st : Int32} {fV fW fR fP fK : Nat → Int32} (h : GS n st fV fW fR fP fK) : GS (n - 1) st (closeF fV j n) (closeF fW j n) (closeF fR j n) (closeF fP j n) (closeF fK j n) := by
  refine ⟨by have := h.1; omega, inv_close h.2.1, fun i hi => ?_, h.2.2.2⟩
  simp only [closeF]
  by_cases c : j ≤ i ∧ i < n - 1
  · rw [if_pos c]
    exact h.2.2.1 (i + 1) (by omega)
  · rw [if_neg c]
    exact h.2.2.1 i (by omega)
theorem gs_W {n j : Nat} {st x : Int32} {fV fW fR fP fK : Nat → Int32} (h : GS n st fV fW fR fP fK) (hx : okD 41 x) : GS n st fV (upd fW j x) fR fP fK := ⟨h.1, inv_W h.2.1 hx, h.2.2⟩
theorem gs_K {n j : Nat} {st x : Int32} {fV fW fR fP fK : Nat → Int32} (h : GS n st fV fW fR fP fK) (hx : okD 41 x) : GS n st fV fW fR fP (upd fK j x) := ⟨h.1, inv_K h.2.1 hx, h.2.2⟩
theorem gs_st {n : Nat} {st x : Int32} {fV fW fR fP fK : Nat → Int32} (h : GS n st fV fW fR fP fK) (hx : okB 1 12 x) : GS n x fV fW fR fP fK := ⟨h.1, h.2.1, h.2.2.1, hx⟩
theorem gs_rnds {n k : Nat} {st : Int32} {fV fW fR fP fK : Nat → Int32} (h : GS n st fV fW fR fP fK) : GS n st fV fW fR fP (rnds fW fR fP n st fK k).1 := ⟨h.1, rnds_ok h.2.1 k, h.2.2⟩
theorem gs_rnd {n : Nat} {st : Int32} {fV fW fR fP fK : Nat → Int32} (h : GS n st fV fW fR fP fK) : GS n st fV fW fR fP (rndF fW fR fP n st fK) := ⟨h.1, rndF_ok h.2.1, h.2.2⟩
theorem gs_0 {fV fW fR fP fK : Nat → Int32} : GS 0 12 fV fW fR fP fK := ⟨by omega, fun i h => absurd h (Nat.not_lt_zero _), fun i h => absurd h (Nat.not_lt_zero _), ⟨12, by omega, by omega, rfl⟩⟩
/-! ===== methods that are given the script ===== -/
def Wz (D : va_G) (tys : List (ClassId × FieldType)) (ws : va_W) (b L : Nat) (xs : Nat → Int32) (sz : Nat) : State → Prop := fun U => Wx D tys ws sz U ∧ va_X b L xs U U.heap ∧ b < sz ∧ ¬ va_A ws sz b
theorem Wz_blind {D : va_G} {tys : List (ClassId × FieldType)} {ws : va_W} {b L : Nat} {xs : Nat → Int32} {sz : Nat} {av : List Value} : FrameBlind (va_Pc av (Wz D tys ws b L xs sz)) := fun a U g mk q =>
  ⟨q.1, (Wx_blind (av := av) a U g mk ⟨q.1, q.2.1⟩).2, va_X.moved (u := U) (U := U.calling g mk a) (Vm.Alike.refl U.vm) q.2.2.1, q.2.2.2⟩
theorem mk_zs {l : Launch} {y : MethodName} {ws ws' : List Cond} {rm : Room} {D : va_G} {tys : List (ClassId × FieldType)} {wc : va_W} {b L : Nat} {xs : Nat → Int32} {sz : Nat} (av : List Value) (Qc : (Nat → Prop) → Array Value → State → Outcome → State → Prop) {mc ms : Nat} {cc : ByteArray} {maxL : Nat} {ret : Option FieldType}
    (hy : plainName y.cls = true) (hw : ws = Cond.code y cc maxL ret :: ws') (hlen : (lg_sl av).length ≤ maxL)
    (body : ∀ p e s m args below meth c (A : Nat → Prop) (ls : Array Slot), CallFix p m c cc maxL s args ws y.cls → meth.sig.returnType = ret → meth.locks = false → meth.name = y.name → va_P D vwCl wc s.heap → va_K D vwCl tys s → va_D A wc → XE A s s.heap → va_X b L xs s s.heap → b < s.heap.size → ¬ A b → (∀ q : Nat, s.heap.size ≤ q → A q) → lv_has ls maxL (lv_args 0 av) →
      W p l e rm s m args below meth c s.heap [] 0 0 (MQ below (Qc A) args s mc ms A) (F0 m 0 ls [])) :
    Met l y ws rm (va_Pc av (Wz D tys wc b L xs sz)) (Qc (va_A wc sz)) mc ms (va_A wc sz) := by
  refine Met.ofW (cc := cc) (maxL := maxL) (ret := ret) hy hw ?_
  intro p e s m args below meth c s₁ B hml hv
  obtain ⟨rfl, ⟨⟨hsz, hP, hK, hD0⟩, hXE⟩, hXs, hbl, hbA⟩ := hv
  subst hsz
  have hl := lv_entry av (n := maxL) hlen
  rw [lg_entry_eq]
  exact body p e s m _ below meth c _ _ ⟨B.exec, B.bytes, hml, findClass_of_methodNamed B.named, atoms_spec (ws := ws) B.pre⟩ B.returns B.notSynchronized (name_of_methodNamed B.named B.method).1 hP hK hD0.self hXE hXs hbl hbA (fun q h => Or.inr h) hl
section ZALIAS
variable {p : Program} {l : Launch} {e : Env} {R : Room} {s : State} {m : MethodId} {args : Array Value} {below : List Frame} {meth : Method} {c : Code} {H : Heap} {locs : List Loc} {cells slots : Nat} {Q : State → Prop}
variable {cc : ByteArray} {pc : Nat} {ls : Array Slot} {rest : List Value} {D : va_G} {tys : List (ClassId × FieldType)} {X : va_W}
theorem r_ldA (hexec : p.tables.exec = Jvm.exec) (hb : c.code = cc) (hK : va_K D vwCl tys s) {cA : ClassId} {n : Nat} {ad : Nat → Nat} {fV fW fR fP fK : Nat → Int32} (hP : va_P D vwCl (X ++ rowsC cA n ad fV fW fR fP fK) H) (t0 : Nat) (ht : tys[t0]? = some (cA, .int)) {k a : Nat} (hk : k < n) (ha : ad k = a) (J : Nat) (hJ : J < 5) {x : Int32} (hx : row5 (fV k) (fW k) (fR k) (fP k) (fK k) J = x) (hdg : decode cc pc = .ok (.iaload, 1))
    (kk : W p l e R s m args below meth c H locs cells slots Q (F0 m (pc + 1) ls (.int x :: rest))) : W p l e R s m args below meth c H locs cells slots Q (F0 m pc ls (.int (nI J) :: .ref a :: rest)) := by
  subst ha
  exact r_ld hexec hb hK hP t0 ht hk J hJ hx hdg kk
end ZALIAS
section ZSCALLS
variable {p : Program} {l : Launch} {e : Env} {R : Room} {s : State} {m : MethodId} {args : Array Value} {below : List Frame} {meth : Method} {c : Code} {H H0 : Heap} {locs : List Loc} {cells slots : Nat} {Q : State → Prop} {cc : ByteArray} {pc nL : Nat} {ls : Array Slot} {D : va_G} {A : Nat → Prop} {wc : va_W} {tys tysC : List (ClassId × FieldType)} {mc ms : Nat} {Ts : List Cond} {own : String}
variable {index : Nat} {y : MethodName} {bytes : ByteArray} {maxL : Nat} {ret : Option FieldType} {wsY : List Cond} {rm : Room} {n : Nat} {b L : Nat} {xs : Nat → Int32} {As stk rest : List Value}
theorem zRunSs {Qc : Array Value → State → Outcome → State → Prop} (F : CallFix p m c cc nL s args Ts own)
    (hM : Met l y wsY rm (va_Pc As (Wz D tysC wc b L xs H.size)) Qc mc ms (va_A wc H.size))
    (cw : CallB R s args own index y bytes maxL ret wsY rm mc ms n ∧ (Cond.static y).before args s = true) (hK : va_K D vwCl tys s) (hPc : va_P D vwCl wc H) (hDc : va_D A wc) (hS : va_S A s.heap H locs) (hA : ∀ q, s.heap.size ≤ q → A q) (hXE : XE A s s.heap) (hXs : va_X b L xs s s.heap) (hbl : b < s.heap.size) (hbA : ¬ A b) (isT : List Nat) (hT : isT.filterMap (fun i => tys[i]?) = tysC)
    (hn : As.length = n) (hsize : ls.size = nL) (hstk : stk = As.reverse ++ rest) (hW : (rest.map fun v => v.category).sum ≤ 8) (hdg : decode cc pc = .ok (.invokestatic index, 3)) (hf : cells + mc ≤ R.cells ∧ slots + ms ≤ R.slots) :
    va_Run p l e R s m args below meth c H locs cells slots mc ms (F0 m pc ls stk) rest (Qc As.toArray) (va_A wc H.size) :=
  va_runS F hM cw ⟨Wz_blind, fun U hU hW => ⟨rfl, (zpre (av := As) hK hPc hDc hS hA hXE hT U hU hW).2, by rw [hU]; exact (hXs.moved hW.alike).kept (hS.2.1 b hbl hbA), Nat.lt_of_lt_of_le hbl hS.1, fun z => hbA (zfree hDc hS hA b z)⟩⟩ rfl hn hsize hstk (lv_room hW) hdg hf
end ZSCALLS
/-- the class of the rows of rows, out of the tables -/
theorem tysR_of {s : State} (hN : va_Nw qAO s) : ∃ cR : ClassId, ArrOfT s cR (.array .int) ∧ va_RA s cR (.array .int) := by
  obtain ⟨comp, c1, k, h1, -, h3, h4, h5⟩ := arrayOverA_spec hN
  exact ⟨c1, fun n z => ⟨fun k h => (by cases h), k, h3, comp, h4⟩, h5⟩
