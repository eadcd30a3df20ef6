/-! ===== worlds, starts, ends and calls, once for all methods of this claim ===== -/
/-- a method's world at its start, and at its end -/
def Wd (D : va_G) (tys : List (ClassId × FieldType)) (ws : va_W) (sz : Nat) : State → Prop := fun U => U.heap.size = sz ∧ va_P D vwCl ws U.heap ∧ va_K D vwCl tys U ∧ va_D (fun _ => True) ws
def We (D : va_G) (tys : List (ClassId × FieldType)) (ws : va_W) (A : Nat → Prop) (t : State) : Prop := va_P D vwCl ws t.heap ∧ va_K D vwCl tys t ∧ va_D A ws
theorem Wd_blind {D : va_G} {tys : List (ClassId × FieldType)} {ws : va_W} {sz : Nat} {av : List Value} : FrameBlind (va_Pc av (Wd D tys ws sz)) := fun a U g mk q => by
  obtain ⟨q0, q1, qP, qK, qD⟩ := q
  exact ⟨q0, q1, qP, va_K.moved (u := U) (U := U.calling g mk a) (Vm.Alike.refl U.vm) qK, qD⟩
theorem map_fm {α β : Type} {f : α → Option β} : ∀ {is : List α} {l : List β}, is.map f = l.map some → is.filterMap f = l
  | [], [], _ => rfl
  | [], _ :: _, h => by cases h
  | _ :: _, [], h => by cases h
  | a :: is, b :: l, h => by
    simp only [List.map_cons, List.cons.injEq] at h
    rw [List.filterMap_cons, h.1, map_fm h.2]
/-- the start of a method that doesn't throw -/
theorem mk_met {l : Launch} {y : MethodName} {ws ws' : List Cond} {rm : Room} {D : va_G} {tys : List (ClassId × FieldType)} {wc : va_W} {sz : Nat} (av : List Value) (Qc : (Nat → Prop) → Array Value → State → Outcome → State → Prop) {mc ms : Nat} {cc : ByteArray} {maxL : Nat} {ret : Option FieldType}
    (hy : plainName y.cls = true) (hw : ws = Cond.code y cc maxL ret :: ws') (hlen : (lg_sl av).length ≤ maxL)
    (body : ∀ p e s m args below meth c (A : Nat → Prop) (ls : Array Slot), CallFix p m c cc maxL s args ws y.cls → meth.sig.returnType = ret → meth.locks = false → meth.name = y.name → va_P D vwCl wc s.heap → va_K D vwCl tys s → va_D A wc → (∀ q : Nat, s.heap.size ≤ q → A q) → lv_has ls maxL (lv_args 0 av) →
      W p l e rm s m args below meth c s.heap [] 0 0 (MQ below (Qc A) args s mc ms A) (F0 m 0 ls [])) :
    Met l y ws rm (va_Pc av (Wd D tys wc sz)) (Qc (va_A wc sz)) mc ms (va_A wc sz) := by
  refine Met.ofW (cc := cc) (maxL := maxL) (ret := ret) hy hw ?_
  intro p e s m args below meth c s₁ B hml hv
  obtain ⟨rfl, hsz, hP, hK, hD0⟩ := hv
  subst hsz
  have hl := lv_entry av (n := maxL) hlen
  rw [lg_entry_eq]
  exact body p e s m _ below meth c _ _ ⟨B.exec, B.bytes, hml, findClass_of_methodNamed B.named, atoms_spec (ws := ws) B.pre⟩ B.returns B.notSynchronized (name_of_methodNamed B.named B.method).1 hP hK hD0.self (fun q h => Or.inr h) hl
section ENDS
variable {p : Program} {l : Launch} {e : Env} {R : Room} {s : State} {m : MethodId} {args : Array Value} {below : List Frame} {meth : Method} {c : Code} {H : Heap} {locs : List Loc} {cells slots : Nat} {cc : ByteArray} {pc nL : Nat} {ls : Array Slot} {D : va_G} {A : Nat → Prop} {ws : va_W} {tys tys' : List (ClassId × FieldType)} {mc ms : Nat} {S : Type} {w1 : S → va_W} {Ts : List Cond} {own : String}
theorem e_we (hK : va_K D vwCl tys s) (hP : va_P D vwCl ws H) (hD : va_D A ws) (is it : List Nat) (w : va_W) (hw : is.map (fun i => ws[i]?) = w.map some) (hn : va_nd is = true) (ht : it.filterMap (fun i => tys[i]?) = tys') {t : State} (h1 : t.heap = H) (h2 : s.vm.Alike t.vm) : We D tys' w A t :=
  ⟨by rw [h1]; exact hP.sub is (map_fm hw), va_K.moved h2 (hK.sub it ht), hD.sub is hn hw⟩
theorem e_i {post : Int32 → S → Prop} {v : Int32} (F : CallFix p m c cc nL s args Ts own) (hr : meth.sig.returnType = some .int) (hlocks : meth.locks = false) (hK : va_K D vwCl tys s) (hP : va_P D vwCl ws H) (hD : va_D A ws) (hS : va_S A s.heap H locs) (is it : List Nat) (u : S) (hp : post v u) (hw : is.map (fun i => ws[i]?) = (w1 u).map some) (hn : va_nd is = true) (ht : it.filterMap (fun i => tys[i]?) = tys') (hc : cells ≤ mc) (hs : slots ≤ ms) (hdg : decode cc pc = .ok (.ireturn, 1)) :
    W p l e R s m args below meth c H locs cells slots (MQ below (va_Qi post (fun u t => We D tys' (w1 u) A t) A) args s mc ms A) (F0 m pc ls [.int v]) := by
  refine W.widen hc hs ?_
  exact W.iret F.1 F.2.1 hr (fun t h1 hW => ⟨⟨v, u, rfl, hp, e_we hK hP hD is it _ hw hn ht h1 hW.alike⟩, hS.F h1⟩) hS.2.2 hdg hlocks
theorem e_z {post : Int32 → S → Prop} {v : Int32} (F : CallFix p m c cc nL s args Ts own) (hr : meth.sig.returnType = some .boolean) (hlocks : meth.locks = false) (hK : va_K D vwCl tys s) (hP : va_P D vwCl ws H) (hD : va_D A ws) (hS : va_S A s.heap H locs) (is it : List Nat) (u : S) (hz : v = 0 ∨ v = 1) (hp : post v u) (hw : is.map (fun i => ws[i]?) = (w1 u).map some) (hn : va_nd is = true) (ht : it.filterMap (fun i => tys[i]?) = tys') (hc : cells ≤ mc) (hs : slots ≤ ms) (hdg : decode cc pc = .ok (.ireturn, 1)) :
    W p l e R s m args below meth c H locs cells slots (MQ below (va_Qi post (fun u t => We D tys' (w1 u) A t) A) args s mc ms A) (F0 m pc ls [.int v]) := by
  refine W.widen hc hs ?_
  exact W.zret F.1 F.2.1 hr (by rcases hz with rfl | rfl <;> rfl) (fun t h1 hW => ⟨⟨v, u, rfl, hp, e_we hK hP hD is it _ hw hn ht h1 hW.alike⟩, hS.F h1⟩) hS.2.2 hdg hlocks
theorem e_l {post : Int64 → S → Prop} {v : Int64} (F : CallFix p m c cc nL s args Ts own) (hr : meth.sig.returnType = some .long) (hlocks : meth.locks = false) (hK : va_K D vwCl tys s) (hP : va_P D vwCl ws H) (hD : va_D A ws) (hS : va_S A s.heap H locs) (is it : List Nat) (u : S) (hp : post v u) (hw : is.map (fun i => ws[i]?) = (w1 u).map some) (hn : va_nd is = true) (ht : it.filterMap (fun i => tys[i]?) = tys') (hc : cells ≤ mc) (hs : slots ≤ ms) (hdg : decode cc pc = .ok (.lreturn, 1)) :
    W p l e R s m args below meth c H locs cells slots (MQ below (va_Ql post (fun u t => We D tys' (w1 u) A t) A) args s mc ms A) (F0 m pc ls [.long v]) := by
  refine W.widen hc hs ?_
  exact W.lret F.1 F.2.1 hr (fun t h1 hW => ⟨⟨v, u, rfl, hp, e_we hK hP hD is it _ hw hn ht h1 hW.alike⟩, hS.F h1⟩) hS.2.2 hdg hlocks
theorem e_d {post : UInt64 → S → Prop} {v : UInt64} (F : CallFix p m c cc nL s args Ts own) (hr : meth.sig.returnType = some .double) (hlocks : meth.locks = false) (hK : va_K D vwCl tys s) (hP : va_P D vwCl ws H) (hD : va_D A ws) (hS : va_S A s.heap H locs) (is it : List Nat) (u : S) (hp : post v u) (hw : is.map (fun i => ws[i]?) = (w1 u).map some) (hn : va_nd is = true) (ht : it.filterMap (fun i => tys[i]?) = tys') (hc : cells ≤ mc) (hs : slots ≤ ms) (hdg : decode cc pc = .ok (.dreturn, 1)) :
    W p l e R s m args below meth c H locs cells slots (MQ below (va_Qd post (fun u t => We D tys' (w1 u) A t) A) args s mc ms A) (F0 m pc ls [.double v]) := by
  refine W.widen hc hs ?_
  exact W.dret F.1 F.2.1 hr (fun t h1 hW => ⟨⟨v, u, rfl, hp, e_we hK hP hD is it _ hw hn ht h1 hW.alike⟩, hS.F h1⟩) hS.2.2 hdg hlocks
theorem e_v {post : S → Prop} (F : CallFix p m c cc nL s args Ts own) (hr : meth.sig.returnType = none) (hlocks : meth.locks = false) (hK : va_K D vwCl tys s) (hP : va_P D vwCl ws H) (hD : va_D A ws) (hS : va_S A s.heap H locs) (is it : List Nat) (u : S) (hp : post u) (hw : is.map (fun i => ws[i]?) = (w1 u).map some) (hn : va_nd is = true) (ht : it.filterMap (fun i => tys[i]?) = tys') (hc : cells ≤ mc) (hs : slots ≤ ms) (hdg : decode cc pc = .ok (.return_, 1)) :
    W p l e R s m args below meth c H locs cells slots (MQ below (va_Qv post (fun u t => We D tys' (w1 u) A t) A) args s mc ms A) (F0 m pc ls []) := by
  refine W.widen hc hs ?_
  exact W.vret F.1 F.2.1 hr (fun t h1 hW => ⟨⟨u, rfl, hp, e_we hK hP hD is it _ hw hn ht h1 hW.alike⟩, hS.F h1⟩) hS.2.2 hdg hlocks
/-- the claim of a walk for any end that follows from the one that is owed -/
theorem absQ {Q0 : State → Prop} {g : JFrame} (h : ∀ Q : State → Prop, (∀ t, Q0 t → Q t) → W p l e R s m args below meth c H locs cells slots Q g) : W p l e R s m args below meth c H locs cells slots Q0 g := h Q0 (fun _ z => z)
theorem useQ {Q0 Q : State → Prop} {g : JFrame} (hQ : ∀ t, Q0 t → Q t) (k : W p l e R s m args below meth c H locs cells slots Q0 g) : W p l e R s m args below meth c H locs cells slots Q g := fun T hT X => by
  obtain ⟨t, h1, h2⟩ := k T hT X
  exact ⟨t, h1, hQ t h2⟩
/-- the top of the stack by another name -/
theorem topi {Q : State → Prop} {rest : List Value} {x : Int32} (y : Int32) (h : x = y) (k : W p l e R s m args below meth c H locs cells slots Q (F0 m pc ls (.int y :: rest))) : W p l e R s m args below meth c H locs cells slots Q (F0 m pc ls (.int x :: rest)) := by rw [h]; exact k
theorem topl {Q : State → Prop} {rest : List Value} {x : Int64} (y : Int64) (h : x = y) (k : W p l e R s m args below meth c H locs cells slots Q (F0 m pc ls (.long y :: rest))) : W p l e R s m args below meth c H locs cells slots Q (F0 m pc ls (.long x :: rest)) := by rw [h]; exact k
end ENDS
section CALLS
variable {p : Program} {l : Launch} {e : Env} {R : Room} {s : State} {m : MethodId} {args : Array Value} {below : List Frame} {meth : Method} {c : Code} {H H0 : Heap} {locs : List Loc} {cells slots : Nat} {Q : State → Prop} {cc : ByteArray} {pc nL : Nat} {ls : Array Slot} {D : va_G} {A : Nat → Prop} {ws wc wr : va_W} {tys tysC : List (ClassId × FieldType)} {mc ms : Nat} {S : Type} {w1 : S → va_W} {Ts : List Cond} {own C : String}
variable {index : Nat} {y : MethodName} {bytes : ByteArray} {maxL : Nat} {ret : Option FieldType} {wsY : List Cond} {rm : Room} {n : Nat} {b : Addr} {As stk rest : List Value}
/-- the cells that a call needs, cut out of the caller's -/
def Cut (D : va_G) (A : Nat → Prop) (ws wc wr : va_W) (tys tysC : List (ClassId × FieldType)) (isC isR isT : List Nat) : Prop :=
  isC.map (fun i => ws[i]?) = wc.map some ∧ isR.map (fun i => ws[i]?) = wr.map some ∧ va_nd isC = true ∧ va_nd isR = true ∧ (∀ i ∈ isR, i ∉ isC) ∧ isT.filterMap (fun i => tys[i]?) = tysC
theorem kRunV {Qc : Array Value → State → Outcome → State → Prop} {ci : Nat} {q : vw_C} (F : CallFix p m c cc nL s args Ts own)
    (hM : Met l y wsY rm (va_Pc (.ref b :: As) (Wd D tysC wc H.size)) Qc mc ms (va_A wc H.size))
    (cw : CallW R s args own q.1 index y bytes maxL ret wsY rm mc ms n) (hK : va_K D vwCl tys s) (hP : va_P D vwCl ws H) (hD : va_D A ws) {isC isR isT : List Nat} (hX : Cut D A ws wc wr tys tysC isC isR isT)
    (q0 : Nat) {fs : List Value} (hc0 : vwCl[ci]? = some q) (he0 : ws[q0]? = some (b, .inr (ci, fs)))
    (hn : As.length = n) (hsize : ls.size = nL) (hstk : stk = As.reverse ++ .ref b :: rest) (hW : (rest.map fun v => v.category).sum ≤ 8) (hdg : decode cc pc = .ok (.invokevirtual index, 3)) (hf : cells + mc ≤ R.cells ∧ slots + ms ≤ R.slots) :
    va_Run p l e R s m args below meth c H locs cells slots mc ms (F0 m pc ls stk) rest (Qc (Value.ref b :: As).toArray) (va_A wc H.size) := by
  obtain ⟨hC, hR, hnC, hnR, hdis, hT⟩ := hX
  refine va_runV F hM cw ⟨Wd_blind, va_recv hK hP hc0 he0, fun U hU hW => ⟨rfl, by rw [hU], by rw [hU]; exact hP.sub isC (map_fm hC), va_K.moved hW.alike (hK.sub isT hT), (hD.sub isC hnC hC).weaken (fun _ _ _ _ => trivial)⟩⟩ rfl hn hsize hstk (lv_room hW) hdg hf
theorem kRunS {Qc : Array Value → State → Outcome → State → Prop} (F : CallFix p m c cc nL s args Ts own)
    (hM : Met l y wsY rm (va_Pc As (Wd D tysC wc H.size)) Qc mc ms (va_A wc H.size))
    (cw : CallB R s args own index y bytes maxL ret wsY rm mc ms n ∧ (Cond.static y).before args s = true) (hK : va_K D vwCl tys s) (hP : va_P D vwCl ws H) (hD : va_D A ws) {isC isR isT : List Nat} (hX : Cut D A ws wc wr tys tysC isC isR isT)
    (hn : As.length = n) (hsize : ls.size = nL) (hstk : stk = As.reverse ++ rest) (hW : (rest.map fun v => v.category).sum ≤ 8) (hdg : decode cc pc = .ok (.invokestatic index, 3)) (hf : cells + mc ≤ R.cells ∧ slots + ms ≤ R.slots) :
    va_Run p l e R s m args below meth c H locs cells slots mc ms (F0 m pc ls stk) rest (Qc As.toArray) (va_A wc H.size) := by
  obtain ⟨hC, hR, hnC, hnR, hdis, hT⟩ := hX
  refine va_runS F hM cw ⟨Wd_blind, fun U hU hW => ⟨rfl, by rw [hU], by rw [hU]; exact hP.sub isC (map_fm hC), va_K.moved hW.alike (hK.sub isT hT), (hD.sub isC hnC hC).weaken (fun _ _ _ _ => trivial)⟩⟩ rfl hn hsize hstk (lv_room hW) hdg hf
/-- behind a call -/
theorem kBack (hP : va_P D vwCl ws H) (hD : va_D A ws) (hS : va_S A H0 H locs) (hA : ∀ q, H0.size ≤ q → A q) {isC isR isT : List Nat} (hX : Cut D A ws wc wr tys tysC isC isR isT) {w : va_W} {H1 : Heap} {t : State} (ht : t.heap = H1) (hB : We D tysC w (va_A wc H.size) t) (hk1 : ∀ q : Nat, q < H.size → ¬ va_A wc H.size q → H1[q]? = H[q]?) : va_P D vwCl (wr ++ w) H1 ∧ va_D A (wr ++ w) := by
  obtain ⟨hC, hR, hnC, hnR, hdis, hT⟩ := hX
  obtain ⟨hP1, hK1, hD1⟩ := hB
  rw [ht] at hP1
  exact va_join hP hD isC isR hC hR hnR hdis hk1 (va_free hD hS hA isC hC) hP1 hD1
theorem ki {post : Int32 → S → Prop} {av : Array Value} {isC isR isT : List Nat} (hX : Cut D A ws wc wr tys tysC isC isR isT) (hP : va_P D vwCl ws H) (hD : va_D A ws) (hS : va_S A H0 H locs) (hA : ∀ q, H0.size ≤ q → A q)
    (hr : va_Run p l e R s m args below meth c H locs cells slots mc ms (F0 m pc ls stk) rest (va_Qi post (fun u t => We D tysC (w1 u) (va_A wc H.size) t) (va_A wc H.size) av) (va_A wc H.size))
    (kk : ∀ (r : Int32) (u : S) (H1 : Heap) (locs1 : List Loc), post r u → va_P D vwCl (wr ++ w1 u) H1 → va_D A (wr ++ w1 u) → va_S A H0 H1 locs1 → W p l e R s m args below meth c H1 locs1 (cells + mc) (slots + ms) Q (F0 m (pc + 3) ls (.int r :: rest))) : W p l e R s m args below meth c H locs cells slots Q (F0 m pc ls stk) := by
  have hF := va_free hD hS hA isC hX.1
  refine va_calli hr hS (fun q _ h => hF q h) hF (fun r u t H1 locs1 ht hvm hw hB hz hk hS1 => ?_)
  obtain ⟨h1, h2⟩ := kBack hP hD hS hA hX ht hB hk
  exact kk r u H1 locs1 hw h1 h2 hS1
theorem kl {post : Int64 → S → Prop} {av : Array Value} {isC isR isT : List Nat} (hX : Cut D A ws wc wr tys tysC isC isR isT) (hP : va_P D vwCl ws H) (hD : va_D A ws) (hS : va_S A H0 H locs) (hA : ∀ q, H0.size ≤ q → A q)
    (hr : va_Run p l e R s m args below meth c H locs cells slots mc ms (F0 m pc ls stk) rest (va_Ql post (fun u t => We D tysC (w1 u) (va_A wc H.size) t) (va_A wc H.size) av) (va_A wc H.size))
    (kk : ∀ (r : Int64) (u : S) (H1 : Heap) (locs1 : List Loc), post r u → va_P D vwCl (wr ++ w1 u) H1 → va_D A (wr ++ w1 u) → va_S A H0 H1 locs1 → W p l e R s m args below meth c H1 locs1 (cells + mc) (slots + ms) Q (F0 m (pc + 3) ls (.long r :: rest))) : W p l e R s m args below meth c H locs cells slots Q (F0 m pc ls stk) := by
  have hF := va_free hD hS hA isC hX.1
  refine va_calll hr hS (fun q _ h => hF q h) hF (fun r u t H1 locs1 ht hvm hw hB hz hk hS1 => ?_)
  obtain ⟨h1, h2⟩ := kBack hP hD hS hA hX ht hB hk
  exact kk r u H1 locs1 hw h1 h2 hS1
theorem kd {post : UInt64 → S → Prop} {av : Array Value} {isC isR isT : List Nat} (hX : Cut D A ws wc wr tys tysC isC isR isT) (hP : va_P D vwCl ws H) (hD : va_D A ws) (hS : va_S A H0 H locs) (hA : ∀ q, H0.size ≤ q → A q)
    (hr : va_Run p l e R s m args below meth c H locs cells slots mc ms (F0 m pc ls stk) rest (va_Qd post (fun u t => We D tysC (w1 u) (va_A wc H.size) t) (va_A wc H.size) av) (va_A wc H.size))
    (kk : ∀ (r : UInt64) (u : S) (H1 : Heap) (locs1 : List Loc), post r u → va_P D vwCl (wr ++ w1 u) H1 → va_D A (wr ++ w1 u) → va_S A H0 H1 locs1 → W p l e R s m args below meth c H1 locs1 (cells + mc) (slots + ms) Q (F0 m (pc + 3) ls (.double r :: rest))) : W p l e R s m args below meth c H locs cells slots Q (F0 m pc ls stk) := by
  have hF := va_free hD hS hA isC hX.1
  refine va_calld hr hS (fun q _ h => hF q h) hF (fun r u t H1 locs1 ht hvm hw hB hz hk hS1 => ?_)
  obtain ⟨h1, h2⟩ := kBack hP hD hS hA hX ht hB hk
  exact kk r u H1 locs1 hw h1 h2 hS1
theorem kv {post : S → Prop} {av : Array Value} {isC isR isT : List Nat} (hX : Cut D A ws wc wr tys tysC isC isR isT) (hP : va_P D vwCl ws H) (hD : va_D A ws) (hS : va_S A H0 H locs) (hA : ∀ q, H0.size ≤ q → A q)
    (hr : va_Run p l e R s m args below meth c H locs cells slots mc ms (F0 m pc ls stk) rest (va_Qv post (fun u t => We D tysC (w1 u) (va_A wc H.size) t) (va_A wc H.size) av) (va_A wc H.size))
    (kk : ∀ (u : S) (H1 : Heap) (locs1 : List Loc), post u → va_P D vwCl (wr ++ w1 u) H1 → va_D A (wr ++ w1 u) → va_S A H0 H1 locs1 → W p l e R s m args below meth c H1 locs1 (cells + mc) (slots + ms) Q (F0 m (pc + 3) ls rest)) : W p l e R s m args below meth c H locs cells slots Q (F0 m pc ls stk) := by
  have hF := va_free hD hS hA isC hX.1
  refine va_callv hr hS (fun q _ h => hF q h) hF (fun u t H1 locs1 ht hvm hw hB hz hk hS1 => ?_)
  obtain ⟨h1, h2⟩ := kBack hP hD hS hA hX ht hB hk
  exact kk u H1 locs1 hw h1 h2 hS1
end CALLS
/-! ===== branches over small numbers; rows of int arrays at small places ===== -/
theorem nf_lt_t {a b : Nat} (ha : a < 2 ^ 31) (hb : b < 2 ^ 31) (h : nI a < nI b) : a < b := (nI_ltI ha hb).mp h
theorem nf_lt_f {a b : Nat} (ha : a < 2 ^ 31) (hb : b < 2 ^ 31) (h : ¬ nI a < nI b) : b ≤ a := Nat.le_of_not_lt fun z => h ((nI_ltI ha hb).mpr z)
theorem nf_ge_t {a b : Nat} (ha : a < 2 ^ 31) (hb : b < 2 ^ 31) (h : nI b ≤ nI a) : b ≤ a := (nI_leI hb ha).mp h
theorem nf_ge_f {a b : Nat} (ha : a < 2 ^ 31) (hb : b < 2 ^ 31) (h : ¬ nI b ≤ nI a) : a < b := Nat.lt_of_not_le fun z => h ((nI_leI hb ha).mpr z)
theorem nf_gt_t {a b : Nat} (ha : a < 2 ^ 31) (hb : b < 2 ^ 31) (h : nI b < nI a) : b < a := (nI_ltI hb ha).mp h
theorem nf_gt_f {a b : Nat} (ha : a < 2 ^ 31) (hb : b < 2 ^ 31) (h : ¬ nI b < nI a) : a ≤ b := Nat.le_of_not_lt fun z => h ((nI_ltI hb ha).mpr z)
theorem nf_le_t {a b : Nat} (ha : a < 2 ^ 31) (hb : b < 2 ^ 31) (h : nI a ≤ nI b) : a ≤ b := (nI_leI ha hb).mp h
theorem nf_le_f {a b : Nat} (ha : a < 2 ^ 31) (hb : b < 2 ^ 31) (h : ¬ nI a ≤ nI b) : b < a := Nat.lt_of_not_le fun z => h ((nI_leI ha hb).mpr z)
theorem nf_eq_t {a b : Nat} (ha : a < 2 ^ 31) (hb : b < 2 ^ 31) (h : nI a = nI b) : a = b := (nI_eq ha hb).mp h
theorem nf_eq_f {a b : Nat} (ha : a < 2 ^ 31) (hb : b < 2 ^ 31) (h : ¬ nI a = nI b) : a ≠ b := fun z => h ((nI_eq ha hb).mpr z)
theorem nf_ne_t {a b : Nat} (ha : a < 2 ^ 31) (hb : b < 2 ^ 31) (h : ¬ nI a = nI b) : a ≠ b := fun z => h ((nI_eq ha hb).mpr z)
theorem nf_ne_f {a b : Nat} (ha : a < 2 ^ 31) (hb : b < 2 ^ 31) (h : nI a = nI b) : a = b := (nI_eq ha hb).mp h
section ARR
variable {p : Program} {l : Launch} {e : Env} {R : Room} {s : State} {m : MethodId} {args : Array Value} {below : List Frame} {meth : Method} {c : Code} {H : Heap} {locs : List Loc} {cells slots : Nat} {Q : State → Prop}
variable {cc : ByteArray} {pc : Nat} {ls : Array Slot} {rest : List Value} {D : va_G} {A : Nat → Prop} {a : Nat} {tys : List (ClassId × FieldType)} {ws : va_W} {H0 : Heap}
theorem a_ld (hexec : p.tables.exec = Jvm.exec) (hb : c.code = cc) (hK : va_K D vwCl tys s) (hP : va_P D vwCl ws H) (q0 t0 : Nat) {cA : ClassId} {n : Nat} {f : Nat → Int32} (ha : ws[q0]? = some (a, .inl (cA, n, .inl f))) (ht : tys[t0]? = some (cA, .int)) {k : Nat} (hk : k < n) (hn : n ≤ 1000) (hdg : decode cc pc = .ok (.iaload, 1))
    (kk : W p l e R s m args below meth c H locs cells slots Q (F0 m (pc + 1) ls (.int (f k) :: rest))) : W p l e R s m args below meth c H locs cells slots Q (F0 m pc ls (.int (nI k) :: .ref a :: rest)) := by
  refine va_iald hexec hb hK hP q0 t0 ha ht (vp_in_nI hk (by omega)) hdg ?_
  rw [nI_clamp (by omega)]
  exact kk
theorem a_st (hexec : p.tables.exec = Jvm.exec) (hb : c.code = cc) (hK : va_K D vwCl tys s) (hP : va_P D vwCl ws H) (hD : va_D A ws) (hS : va_S A H0 H locs) (q0 t0 : Nat) {cA : ClassId} {n : Nat} {f : Nat → Int32} (ha : ws[q0]? = some (a, .inl (cA, n, .inl f))) (ht : tys[t0]? = some (cA, .int)) {k : Nat} {x : Int32} (hk : k < n) (hn : n ≤ 1000) (hdg : decode cc pc = .ok (.iastore, 1))
    (kk : ∀ (H1 : Heap) (locs1 : List Loc), va_P D vwCl (ws.set q0 (a, .inl (cA, n, .inl (upd f k x)))) H1 → va_D A (ws.set q0 (a, .inl (cA, n, .inl (upd f k x)))) → va_S A H0 H1 locs1 → W p l e R s m args below meth c H1 locs1 cells slots Q (F0 m (pc + 1) ls rest)) : W p l e R s m args below meth c H locs cells slots Q (F0 m pc ls (.int x :: .int (nI k) :: .ref a :: rest)) := by
  refine va_iast hexec hb hK hP hD hS q0 t0 ha ht (vp_in_nI hk (by omega)) hdg ?_
  rw [nI_clamp (by omega)]
  exact kk
end ARR
/-! ===== methods that throw ===== -/
def xStr : List (Nat × String) := [(58, "there are 12 delegates"), (67, "there is no room on that plank"), (80, "this one is not willing to stand there"), (87, "the strength is not 1 to 12"), (121, "the village has no delegates"), (130, "there are no other delegates"), (234, "there is no such delegate"), (237, "the village is not 0 to 4"), (239, "the plank is not 0 to 40"), (241, "both planks are the same"), (243, "the reach is not 0 to 20"), (245, "the pace is not 1 to 5"), (247, "the rounds are not 1 to 50"), (249, "there are no delegates")]
def xDec : List MethodName := [Bundle.initS "java/lang/RuntimeException", Bundle.initS "java/lang/Exception", Bundle.initS "java/lang/Throwable"]
def xCls : List String := ["java/lang/IllegalStateException", "java/lang/IllegalArgumentException", "java/lang/IndexOutOfBoundsException"]
/-- words of the tables that no method's own list can bear: rows of rows, a row's clone, the law's nest mate -/
def qAO : Cond := .arrayOver (.array .int)
def qCC : Cond := .castable "[I" "java/lang/Cloneable"
def qN1 : Cond := .methodLinkNest RL 76 yX2_init RL
def SQ (U : State) : Prop := va_Nw qAO U ∧ va_Nw qCC U ∧ va_Nw qN1 U
theorem qAO_warm {s U : State} (hW : s.WarmedH U.vm) (hZ : va_Nw qAO s) : va_Nw qAO U := by
  have h1 : (Cond.arrayOver (.array .int)).before #[] (s.setVm U.vm) = true := by
    rw [Cond.arrayOver_setVmC hW.alike]
    exact hZ
  have h2 : (Cond.arrayOver (.array .int)).before #[] U = (Cond.arrayOver (.array .int)).before #[] (s.setVm U.vm) := by
    first
    | rfl
    | simp only [Cond.before, Cond.holds, Cond.value, State.vm_setVm]
  exact h2.trans h1
theorem SQ.warm {s U : State} (hW : s.WarmedH U.vm) (h : SQ s) : SQ U := ⟨qAO_warm hW h.1, va_Nw.warmC hW h.2.1, va_Nw.warmM hW h.2.2⟩
/-- what a throw and a catch need of the tables -/
def XT (U : State) : Prop := (∀ q ∈ xStr, ∃ sa : Nat, vk_R RX1 q.1 q.2 sa U) ∧ (∀ x ∈ xDec, va_Nw (.declares x) U) ∧ (∀ C ∈ xCls, va_Nw (.castable C C) U) ∧ True ∧ SQ U
theorem XT.warm {s U : State} (hW : s.WarmedH U.vm) (h : XT s) : XT U := ⟨fun q hq => by
  obtain ⟨sa, h1⟩ := h.1 q hq
  exact ⟨sa, vk_R.warm hW h1⟩, fun x hx => va_Nw.warmD hW (h.2.1 x hx), fun C hC => va_Nw.warmC hW (h.2.2.1 C hC), trivial, SQ.warm hW h.2.2.2.2⟩
/-- what a throw needs of the start: Throwable's two statics, which no cell of the method's own is, and the tables -/
def XE (A : Nat → Prop) (U : State) (H : Heap) : Prop := vx_Zq Bundle.tN "UNASSIGNED_STACK" Bundle.steD A U H ∧ vx_Zq Bundle.tN "SUPPRESSED_SENTINEL" Bundle.listD A U H ∧ XT U
theorem XE.warm {A : Nat → Prop} {s U : State} {H : Heap} (hW : s.WarmedH U.vm) (h : XE A s H) : XE A U H := ⟨vx_Zq.moved hW.alike h.1, vx_Zq.moved hW.alike h.2.1, h.2.2.warm hW⟩
theorem XE.kept {A : Nat → Prop} {U : State} {H H1 : Heap} (h : XE A U H) (hq : ∀ a : Nat, a < H.size → ¬ A a → H1[a]? = H[a]?) : XE A U H1 := ⟨h.1.kept hq, h.2.1.kept hq, h.2.2⟩
theorem XE.narrow {A B : Nat → Prop} {U : State} {H : Heap} (h : XE A U H) (hAB : ∀ q, B q → A q) : XE B U H := ⟨h.1.narrow hAB, h.2.1.narrow hAB, h.2.2⟩
/-- the words of a throw that don't stand in a method's own list -/
def xB (cls : String) : List Cond := xDec.map Cond.declares ++ [Cond.castable cls cls]
theorem xB_ok {cls : String} {s : State} {args : Array Value} (hc : cls ∈ xCls) (h : XT s) : ∀ w ∈ xB cls, w.before args s = true := fun w hw => by
  rcases List.mem_append.mp hw with h1 | h1
  · obtain ⟨x, hx, rfl⟩ := List.mem_map.mp h1
    exact va_Nw.use rfl (h.2.1 x hx)
  · rw [List.mem_singleton.mp h1]
    exact va_Nw.use rfl (h.2.2.1 cls hc)
def Wx (D : va_G) (tys : List (ClassId × FieldType)) (ws : va_W) (sz : Nat) : State → Prop := fun U => Wd D tys ws sz U ∧ XE (va_A ws sz) U U.heap
theorem Wx_blind {D : va_G} {tys : List (ClassId × FieldType)} {ws : va_W} {sz : Nat} {av : List Value} : FrameBlind (va_Pc av (Wx D tys ws sz)) := fun a U g mk q => by
  obtain ⟨q0, ⟨q1, qP, qK, qD⟩, z1, z2, z3⟩ := q
  exact ⟨q0, ⟨q1, qP, va_K.moved (u := U) (U := U.calling g mk a) (Vm.Alike.refl U.vm) qK, qD⟩, vx_Zq.moved (u := U) (U := U.calling g mk a) (Vm.Alike.refl U.vm) z1, vx_Zq.moved (u := U) (U := U.calling g mk a) (Vm.Alike.refl U.vm) z2, XT.warm (s := U) (U := U.calling g mk a) (State.WarmedH.refl U) z3⟩
theorem mk_vx {l : Launch} {y : MethodName} {ws ws' : List Cond} {rm : Room} {D : va_G} {tys : List (ClassId × FieldType)} {wc : va_W} {sz : Nat} (av : List Value) (Qc : (Nat → Prop) → Array Value → State → Outcome → State → Prop) (XC : (Nat → Prop) → String → State → State → Prop) {mc ms : Nat} {cc : ByteArray} {maxL : Nat} {ret : Option FieldType}
    (hy : plainName y.cls = true) (hw : ws = Cond.code y cc maxL ret :: ws') (hlen : (lg_sl av).length ≤ maxL)
    (body : ∀ p e s m args below meth c (A : Nat → Prop) (ls : Array Slot), CallFix p m c cc maxL s args ws y.cls → meth.sig.returnType = ret → meth.locks = false → meth.name = y.name → (∀ x ∈ c.exceptionTable.toList, False) → va_P D vwCl wc s.heap → va_K D vwCl tys s → va_D A wc → XE A s s.heap → (∀ q : Nat, s.heap.size ≤ q → A q) → lv_has ls maxL (lv_args 0 av) →
      W p l e rm s m args below meth c s.heap [] 0 0 (vx_MQ below (Qc A) (XC A) args s mc ms A) (F0 m 0 ls [])) :
    vx_Met l y ws rm (va_Pc av (Wx D tys wc sz)) (Qc (va_A wc sz)) (XC (va_A wc sz)) mc ms (va_A wc sz) := by
  refine vx_ofW (cc := cc) (maxL := maxL) (ret := ret) hy hw ?_
  intro p e s m args below meth c s₁ B hml hno hv
  obtain ⟨rfl, ⟨hsz, hP, hK, hD0⟩, hXE⟩ := hv
  subst hsz
  have hl := lv_entry av (n := maxL) hlen
  rw [lg_entry_eq]
  exact body p e s m _ below meth c _ _ ⟨B.exec, B.bytes, hml, findClass_of_methodNamed B.named, atoms_spec (ws := ws) B.pre⟩ B.returns B.notSynchronized (name_of_methodNamed B.named B.method).1 hno hP hK hD0.self hXE (fun q h => Or.inr h) hl
section XENDS
variable {p : Program} {l : Launch} {e : Env} {R : Room} {s : State} {m : MethodId} {args : Array Value} {below : List Frame} {meth : Method} {c : Code} {H : Heap} {locs : List Loc} {cells slots : Nat} {cc : ByteArray} {pc nL : Nat} {ls : Array Slot} {D : va_G} {A : Nat → Prop} {ws : va_W} {tys tys' : List (ClassId × FieldType)} {mc ms : Nat} {SX : Type} {xb : SX → va_W} {px : String → SX → Prop} {Ts : List Cond} {own : String} {rest : List Value} {Qc : Array Value → State → Outcome → State → Prop}
theorem x_xc {t : State} {E : String} (hK : va_K D vwCl tys s) (hP : va_P D vwCl ws H) (hD : va_D A ws) (hS : va_S A s.heap H locs) (is it : List Nat) (x : SX) (hp : px E x) (hw : is.map (fun i => ws[i]?) = (xb x).map some) (hn : va_nd is = true) (ht : it.filterMap (fun i => tys[i]?) = tys') (h2 : s.vm.Alike t.vm) (h3 : H.size ≤ t.heap.size) (h4 : ∀ q : Nat, q < H.size → t.heap[q]? = H[q]?) : vx_X (fun _ : SX => True) (fun E x t => px E x ∧ We D tys' (xb x) A t) A E s t := by
  have hP1 : va_P D vwCl ws t.heap := hP.kept (fun k q hk => h4 q.1 (hP k q hk).lt)
  refine ⟨x, trivial, ⟨hp, hP1.sub is (map_fm hw), va_K.moved h2 (hK.sub it ht), hD.sub is hn hw⟩, Nat.le_trans hS.1 h3, fun q h5 h6 => ?_⟩
  rw [h4 q (Nat.lt_of_lt_of_le h5 hS.1)]
  exact hS.2.1 q h5 h6
theorem x_out {q : Addr} {E : String} {ce : Cell} (hno : ∀ x ∈ c.exceptionTable.toList, False) (hlocks : meth.locks = false) (hK : va_K D vwCl tys s) (hP : va_P D vwCl ws H) (hD : va_D A ws) (hS : va_S A s.heap H locs) (is it : List Nat) (x : SX) (hp : px E x) (hw : is.map (fun i => ws[i]?) = (xb x).map some) (hn : va_nd is = true) (ht : it.filterMap (fun i => tys[i]?) = tys') (hcell : H[q]? = some ce) (hv : ce.vm = .none) (hcl : s.vm.findClass E = some ce.cls) (hc : cells ≤ mc) (hs : slots ≤ ms) :
    vx_W p l e R s m args below meth c H locs cells slots (vx_MQ below Qc (vx_X (fun _ : SX => True) (fun E x t => px E x ∧ We D tys' (xb x) A t) A) args s mc ms A) (F0 m pc ls rest) q :=
  vx_out (fun x hx => (hno x hx).elim) hlocks hcell hv hcl (fun t h1 h2 => x_xc hK hP hD hS is it x hp hw hn ht h2 (by rw [h1]; exact Nat.le_refl _) (fun q _ => by rw [h1])) hS.2.2 hc hs
theorem x_throw {text cls : String} {ik si ic : Nat} (F : CallFix p m c cc nL s args Ts RX1) (hl0 : l.stackTraces = false) (hno : ∀ x ∈ c.exceptionTable.toList, False) (hlocks : meth.locks = false) (hK : va_K D vwCl tys s) (hP : va_P D vwCl ws H) (hD : va_D A ws) (hS : va_S A s.heap H locs) (hXE : XE A s s.heap) (hsize : ls.size = nL)
    (hcls : Bundle.fit cls = true) (hk : (Cond.classLink RX1 ik cls).before args s = true) (hini : (Cond.initialized cls).before args s = true) (htx : (si, text) ∈ xStr)
    (hat : ∀ w ∈ (vx_atS RX1 ic cls ["java/lang/RuntimeException", "java/lang/Exception"]).filter goodWord, w.before args s = true) (hcc : cls ∈ xCls) (hng : ∀ w ∈ (vx_atS RX1 ic cls ["java/lang/RuntimeException", "java/lang/Exception"]).filter (fun w => !goodWord w), w ∈ xB cls) (hgood : ∀ w ∈ Cond.classLink RX1 ik cls :: Cond.initialized cls :: vx_atS RX1 ic cls ["java/lang/RuntimeException", "java/lang/Exception"], vx_ot w = true)
    (d0 : decode cc pc = .ok (.new ik, 3)) (d3 : decode cc (pc + 3) = .ok (.dup, 1)) (d4 : decode cc (pc + 4) = .ok (.ldc si, 2)) (d6 : decode cc (pc + 6) = .ok (.invokespecial ic, 3)) (d9 : decode cc (pc + 9) = .ok (.athrow, 1))
    (hRframes : 5 < R.frames) (hRlocals : (rest.map fun v => v.category).sum + 82 ≤ R.locals) (hRcells : cells + 1 ≤ R.cells) (hRslots : slots + 6 ≤ R.slots)
    (is it : List Nat) (x : SX) (hp : px cls x) (hw : is.map (fun i => ws[i]?) = (xb x).map some) (hn : va_nd is = true) (ht : it.filterMap (fun i => tys[i]?) = tys') (hc : cells + 1 ≤ mc) (hs : slots + 6 ≤ ms) :
    W p l e R s m args below meth c H locs cells slots (vx_MQ below Qc (vx_X (fun _ : SX => True) (fun E x t => px E x ∧ We D tys' (xb x) A t) A) args s mc ms A) (F0 m pc ls rest) := by
  obtain ⟨sa, hsa⟩ := hXE.2.2.1 _ htx
  refine vx_throwS F.1 F.2.1 hl0 F.2.2.2.1 hcls (by decide) hk hini hsa (vx_hat hat hng (xB_ok hcc hXE.2.2)) hgood hXE.1 hXE.2.1 hS (hsize.trans F.2.2.1.symm) d0 d3 d4 d6 d9 (fun x hx => (hno x hx).elim) hRframes hRlocals hRcells hRslots hlocks (fun t h2 h3 h4 => x_xc hK hP hD hS is it x hp hw hn ht h2 h3 h4) hS.2.2 hc hs
theorem uxQ {Q0 Q : State → Prop} {g : JFrame} {q : Addr} (hQ : ∀ t, Q0 t → Q t) (k : vx_W p l e R s m args below meth c H locs cells slots Q0 g q) : vx_W p l e R s m args below meth c H locs cells slots Q g q := fun T hT X => by
  obtain ⟨t, h1, h2⟩ := k T hT X
  exact ⟨t, h1, hQ t h2⟩
end XENDS
section XCALLS
variable {p : Program} {l : Launch} {e : Env} {R : Room} {s : State} {m : MethodId} {args : Array Value} {below : List Frame} {meth : Method} {c : Code} {H : Heap} {locs : List Loc} {cells slots : Nat} {Q : State → Prop} {cc : ByteArray} {pc nL : Nat} {ls : Array Slot} {D : va_G} {A : Nat → Prop} {ws wc wr : va_W} {tys tysC : List (ClassId × FieldType)} {mc ms : Nat} {S SX : Type} {w1 : S → va_W} {xb : SX → va_W} {px : String → SX → Prop} {Ts : List Cond} {own C : String}
variable {index : Nat} {y : MethodName} {bytes : ByteArray} {maxL : Nat} {ret : Option FieldType} {wsY : List Cond} {rm : Room} {n : Nat} {b : Addr} {As stk rest : List Value} {XC : String → State → State → Prop}
theorem xRunV {Qc : Array Value → State → Outcome → State → Prop} {ci : Nat} {q : vw_C} (F : CallFix p m c cc nL s args Ts own)
    (hM : vx_Met l y wsY rm (va_Pc (.ref b :: As) (Wx D tysC wc H.size)) Qc XC mc ms (va_A wc H.size))
    (cw : CallW R s args own q.1 index y bytes maxL ret wsY rm mc ms n) (hK : va_K D vwCl tys s) (hP : va_P D vwCl ws H) (hD : va_D A ws) (hS : va_S A s.heap H locs) (hA : ∀ q, s.heap.size ≤ q → A q) (hXE : XE A s s.heap) {isC isR isT : List Nat} (hX : Cut D A ws wc wr tys tysC isC isR isT)
    (q0 : Nat) {fs : List Value} (hc0 : vwCl[ci]? = some q) (he0 : ws[q0]? = some (b, .inr (ci, fs)))
    (hn : As.length = n) (hsize : ls.size = nL) (hstk : stk = As.reverse ++ .ref b :: rest) (hW : (rest.map fun v => v.category).sum ≤ 8) (hdg : decode cc pc = .ok (.invokevirtual index, 3)) (hf : cells + mc ≤ R.cells ∧ slots + ms ≤ R.slots) :
    vx_Run p l e R s m args below meth c H locs cells slots mc ms (F0 m pc ls stk) rest (Qc (Value.ref b :: As).toArray) XC (va_A wc H.size) := by
  obtain ⟨hC, hR, hnC, hnR, hdis, hT⟩ := hX
  refine vx_runV F hM cw ⟨Wx_blind, va_recv hK hP hc0 he0, fun U hU hW => ⟨rfl, ⟨by rw [hU], by rw [hU]; exact hP.sub isC (map_fm hC), va_K.moved hW.alike (hK.sub isT hT), (hD.sub isC hnC hC).weaken (fun _ _ _ _ => trivial)⟩, ?_⟩⟩ rfl hn hsize hstk (lv_room hW) hdg hf
  rw [hU]
  exact ((hXE.kept hS.2.1).narrow (va_free hD hS hA isC hC)).warm hW
theorem xRunS {Qc : Array Value → State → Outcome → State → Prop} (F : CallFix p m c cc nL s args Ts own)
    (hM : vx_Met l y wsY rm (va_Pc As (Wx D tysC wc H.size)) Qc XC mc ms (va_A wc H.size))
    (cw : CallB R s args own index y bytes maxL ret wsY rm mc ms n ∧ (Cond.static y).before args s = true) (hK : va_K D vwCl tys s) (hP : va_P D vwCl ws H) (hD : va_D A ws) (hS : va_S A s.heap H locs) (hA : ∀ q, s.heap.size ≤ q → A q) (hXE : XE A s s.heap) {isC isR isT : List Nat} (hX : Cut D A ws wc wr tys tysC isC isR isT)
    (hn : As.length = n) (hsize : ls.size = nL) (hstk : stk = As.reverse ++ rest) (hW : (rest.map fun v => v.category).sum ≤ 8) (hdg : decode cc pc = .ok (.invokestatic index, 3)) (hf : cells + mc ≤ R.cells ∧ slots + ms ≤ R.slots) :
    vx_Run p l e R s m args below meth c H locs cells slots mc ms (F0 m pc ls stk) rest (Qc As.toArray) XC (va_A wc H.size) := by
  obtain ⟨hC, hR, hnC, hnR, hdis, hT⟩ := hX
  refine vx_runS F hM cw ⟨Wx_blind, fun U hU hW => ⟨rfl, ⟨by rw [hU], by rw [hU]; exact hP.sub isC (map_fm hC), va_K.moved hW.alike (hK.sub isT hT), (hD.sub isC hnC hC).weaken (fun _ _ _ _ => trivial)⟩, ?_⟩⟩ rfl hn hsize hstk (lv_room hW) hdg hf
  rw [hU]
  exact ((hXE.kept hS.2.1).narrow (va_free hD hS hA isC hC)).warm hW
theorem xi {post : Int32 → S → Prop} {av : Array Value} {isC isR isT : List Nat} (hX : Cut D A ws wc wr tys tysC isC isR isT) (hP : va_P D vwCl ws H) (hD : va_D A ws) (hS : va_S A s.heap H locs) (hA : ∀ q, s.heap.size ≤ q → A q)
    (hr : vx_Run p l e R s m args below meth c H locs cells slots mc ms (F0 m pc ls stk) rest (va_Qi post (fun u t => We D tysC (w1 u) (va_A wc H.size) t) (va_A wc H.size) av) (vx_X (fun _ : SX => True) (fun E x t => px E x ∧ We D tysC (xb x) (va_A wc H.size) t) (va_A wc H.size)) (va_A wc H.size))
    (kx : ∀ (E : String) (ce : Cell) (q9 : Addr) (x : SX) (H1 : Heap) (locs1 : List Loc), px E x → va_P D vwCl (wr ++ xb x) H1 → va_D A (wr ++ xb x) → va_S A s.heap H1 locs1 → H1[q9]? = some ce → ce.vm = .none → s.vm.findClass E = some ce.cls → vx_W p l e R s m args below meth c H1 locs1 (cells + mc) (slots + ms) Q (F0 m pc ls rest) q9)
    (kk : ∀ (r : Int32) (u : S) (H1 : Heap) (locs1 : List Loc), post r u → va_P D vwCl (wr ++ w1 u) H1 → va_D A (wr ++ w1 u) → va_S A s.heap H1 locs1 → W p l e R s m args below meth c H1 locs1 (cells + mc) (slots + ms) Q (F0 m (pc + 3) ls (.int r :: rest))) : W p l e R s m args below meth c H locs cells slots Q (F0 m pc ls stk) := by
  have hF := va_free hD hS hA isC hX.1
  refine vx_calli hr hS (fun q _ h => hF q h) hF (fun q _ h => hF q h) (fun E ce q9 x t H1 locs1 ht hvm hw hB hz hk hS1 hc hv hcl => ?_) (fun r u t H1 locs1 ht hvm hw hB hz hk hS1 => ?_)
  · obtain ⟨h1, h2⟩ := kBack hP hD hS hA hX ht hB.2 hk
    exact kx E ce q9 x H1 locs1 hB.1 h1 h2 hS1 hc hv hcl
  · obtain ⟨h1, h2⟩ := kBack hP hD hS hA hX ht hB hk
    exact kk r u H1 locs1 hw h1 h2 hS1
theorem xl {post : Int64 → S → Prop} {av : Array Value} {isC isR isT : List Nat} (hX : Cut D A ws wc wr tys tysC isC isR isT) (hP : va_P D vwCl ws H) (hD : va_D A ws) (hS : va_S A s.heap H locs) (hA : ∀ q, s.heap.size ≤ q → A q)
    (hr : vx_Run p l e R s m args below meth c H locs cells slots mc ms (F0 m pc ls stk) rest (va_Ql post (fun u t => We D tysC (w1 u) (va_A wc H.size) t) (va_A wc H.size) av) (vx_X (fun _ : SX => True) (fun E x t => px E x ∧ We D tysC (xb x) (va_A wc H.size) t) (va_A wc H.size)) (va_A wc H.size))
    (kx : ∀ (E : String) (ce : Cell) (q9 : Addr) (x : SX) (H1 : Heap) (locs1 : List Loc), px E x → va_P D vwCl (wr ++ xb x) H1 → va_D A (wr ++ xb x) → va_S A s.heap H1 locs1 → H1[q9]? = some ce → ce.vm = .none → s.vm.findClass E = some ce.cls → vx_W p l e R s m args below meth c H1 locs1 (cells + mc) (slots + ms) Q (F0 m pc ls rest) q9)
    (kk : ∀ (r : Int64) (u : S) (H1 : Heap) (locs1 : List Loc), post r u → va_P D vwCl (wr ++ w1 u) H1 → va_D A (wr ++ w1 u) → va_S A s.heap H1 locs1 → W p l e R s m args below meth c H1 locs1 (cells + mc) (slots + ms) Q (F0 m (pc + 3) ls (.long r :: rest))) : W p l e R s m args below meth c H locs cells slots Q (F0 m pc ls stk) := by
  have hF := va_free hD hS hA isC hX.1
  refine vx_calll hr hS (fun q _ h => hF q h) hF (fun q _ h => hF q h) (fun E ce q9 x t H1 locs1 ht hvm hw hB hz hk hS1 hc hv hcl => ?_) (fun r u t H1 locs1 ht hvm hw hB hz hk hS1 => ?_)
  · obtain ⟨h1, h2⟩ := kBack hP hD hS hA hX ht hB.2 hk
    exact kx E ce q9 x H1 locs1 hB.1 h1 h2 hS1 hc hv hcl
  · obtain ⟨h1, h2⟩ := kBack hP hD hS hA hX ht hB hk
    exact kk r u H1 locs1 hw h1 h2 hS1
theorem xv {post : S → Prop} {av : Array Value} {isC isR isT : List Nat} (hX : Cut D A ws wc wr tys tysC isC isR isT) (hP : va_P D vwCl ws H) (hD : va_D A ws) (hS : va_S A s.heap H locs) (hA : ∀ q, s.heap.size ≤ q → A q)
    (hr : vx_Run p l e R s m args below meth c H locs cells slots mc ms (F0 m pc ls stk) rest (va_Qv post (fun u t => We D tysC (w1 u) (va_A wc H.size) t) (va_A wc H.size) av) (vx_X (fun _ : SX => True) (fun E x t => px E x ∧ We D tysC (xb x) (va_A wc H.size) t) (va_A wc H.size)) (va_A wc H.size))
    (kx : ∀ (E : String) (ce : Cell) (q9 : Addr) (x : SX) (H1 : Heap) (locs1 : List Loc), px E x → va_P D vwCl (wr ++ xb x) H1 → va_D A (wr ++ xb x) → va_S A s.heap H1 locs1 → H1[q9]? = some ce → ce.vm = .none → s.vm.findClass E = some ce.cls → vx_W p l e R s m args below meth c H1 locs1 (cells + mc) (slots + ms) Q (F0 m pc ls rest) q9)
    (kk : ∀ (u : S) (H1 : Heap) (locs1 : List Loc), post u → va_P D vwCl (wr ++ w1 u) H1 → va_D A (wr ++ w1 u) → va_S A s.heap H1 locs1 → W p l e R s m args below meth c H1 locs1 (cells + mc) (slots + ms) Q (F0 m (pc + 3) ls rest)) : W p l e R s m args below meth c H locs cells slots Q (F0 m pc ls stk) := by
  have hF := va_free hD hS hA isC hX.1
  refine vx_callv hr hS (fun q _ h => hF q h) hF (fun q _ h => hF q h) (fun E ce q9 x t H1 locs1 ht hvm hw hB hz hk hS1 hc hv hcl => ?_) (fun u t H1 locs1 ht hvm hw hB hz hk hS1 => ?_)
  · obtain ⟨h1, h2⟩ := kBack hP hD hS hA hX ht hB.2 hk
    exact kx E ce q9 x H1 locs1 hB.1 h1 h2 hS1 hc hv hcl
  · obtain ⟨h1, h2⟩ := kBack hP hD hS hA hX ht hB hk
    exact kk u H1 locs1 hw h1 h2 hS1
end XCALLS
/-- the exceptions' words -/
theorem xg_ise : ∀ w ∈ (vx_atS RX1 60 "java/lang/IllegalStateException" ["java/lang/RuntimeException", "java/lang/Exception"]).filter (fun w => !goodWord w), w ∈ xB "java/lang/IllegalStateException" := by decide +kernel
theorem xg_iob : ∀ w ∈ (vx_atS RX1 236 "java/lang/IndexOutOfBoundsException" ["java/lang/RuntimeException", "java/lang/Exception"]).filter (fun w => !goodWord w), w ∈ xB "java/lang/IndexOutOfBoundsException" := by decide +kernel
theorem xg_iae : ∀ w ∈ (vx_atS RX1 89 "java/lang/IllegalArgumentException" ["java/lang/RuntimeException", "java/lang/Exception"]).filter (fun w => !goodWord w), w ∈ xB "java/lang/IllegalArgumentException" := by decide +kernel
theorem xo_ise : ∀ w ∈ Cond.classLink RX1 56 "java/lang/IllegalStateException" :: Cond.initialized "java/lang/IllegalStateException" :: vx_atS RX1 60 "java/lang/IllegalStateException" ["java/lang/RuntimeException", "java/lang/Exception"], vx_ot w = true := by decide +kernel
theorem xo_iob : ∀ w ∈ Cond.classLink RX1 232 "java/lang/IndexOutOfBoundsException" :: Cond.initialized "java/lang/IndexOutOfBoundsException" :: vx_atS RX1 236 "java/lang/IndexOutOfBoundsException" ["java/lang/RuntimeException", "java/lang/Exception"], vx_ot w = true := by decide +kernel
theorem xo_iae : ∀ w ∈ Cond.classLink RX1 85 "java/lang/IllegalArgumentException" :: Cond.initialized "java/lang/IllegalArgumentException" :: vx_atS RX1 89 "java/lang/IllegalArgumentException" ["java/lang/RuntimeException", "java/lang/Exception"], vx_ot w = true := by decide +kernel
theorem xstr_58 : (58, "there are 12 delegates") ∈ xStr := by decide
theorem xstr_67 : (67, "there is no room on that plank") ∈ xStr := by decide
theorem xstr_80 : (80, "this one is not willing to stand there") ∈ xStr := by decide
theorem xstr_87 : (87, "the strength is not 1 to 12") ∈ xStr := by decide
theorem xstr_121 : (121, "the village has no delegates") ∈ xStr := by decide
theorem xstr_130 : (130, "there are no other delegates") ∈ xStr := by decide
theorem xstr_234 : (234, "there is no such delegate") ∈ xStr := by decide
theorem xstr_237 : (237, "the village is not 0 to 4") ∈ xStr := by decide
theorem xstr_239 : (239, "the plank is not 0 to 40") ∈ xStr := by decide
theorem xstr_241 : (241, "both planks are the same") ∈ xStr := by decide
theorem xstr_243 : (243, "the reach is not 0 to 20") ∈ xStr := by decide
theorem xstr_245 : (245, "the pace is not 1 to 5") ∈ xStr := by decide
theorem xstr_247 : (247, "the rounds are not 1 to 50") ∈ xStr := by decide
theorem xstr_249 : (249, "there are no delegates") ∈ xStr := by decide
