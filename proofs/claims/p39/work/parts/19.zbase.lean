/-! ===== rows of rows: the worlds of the law's simulation, and calls among them ===== -/
theorem qNa_of {A : Nat → Prop} {s : State} {H : Heap} (h : XE A s H) : va_Nw qAO s := h.2.2.2.2.2.2.1
theorem qCl_of {A : Nat → Prop} {s : State} {H : Heap} (h : XE A s H) : va_Nw qCC s := h.2.2.2.2.2.2.2.1
theorem qNe_of {A : Nat → Prop} {s : State} {H : Heap} (h : XE A s H) : va_Nw qN1 s := h.2.2.2.2.2.2.2.2
/-- the references of a row of rows -/
def refsF (n : Nat) (ad : Nat → Nat) : Nat → Option Nat := fun i => if i < n then some (ad i) else none
theorem refsF_0 (ad : Nat → Nat) : (fun _ => none) = refsF 0 ad := by
  funext i
  simp [refsF]
theorem refsF_at {n k : Nat} {ad : Nat → Nat} (h : k < n) : refsF n ad k = some (ad k) := if_pos h
theorem refsF_s {k q : Nat} {ad : Nat → Nat} : va_up (refsF k ad) k (some q) = refsF (k + 1) (va_up ad k q) := by
  funext i
  simp only [va_up, refsF]
  by_cases h : i = k
  · subst h
    rw [if_pos rfl, if_pos (by omega), if_pos rfl]
  · rw [if_neg h, if_neg h]
    by_cases h1 : i < k
    · rw [if_pos h1, if_pos (by omega)]
    · rw [if_neg h1, if_neg (by omega)]
theorem refsF_e {k q : Nat} {ad : Nat → Nat} (h : ad k = q) : va_up (refsF k ad) k (some q) = refsF (k + 1) ad := by
  rw [refsF_s]
  funext i
  simp only [refsF, va_up]
  by_cases h1 : i = k
  · subst h1
    rw [if_pos rfl, h]
  · rw [if_neg h1]
theorem refsF_congr {n : Nat} {ad ad' : Nat → Nat} (h : ∀ i, i < n → ad i = ad' i) : refsF n ad = refsF n ad' := by
  funext i
  simp only [refsF]
  by_cases h1 : i < n
  · rw [if_pos h1, if_pos h1, h i h1]
  · rw [if_neg h1, if_neg h1]
/-- one delegate's row -/
def row5 (v w r p k : Int32) : Nat → Int32 := fun j => match j with
  | 0 => v
  | 1 => w
  | 2 => r
  | 3 => p
  | 4 => k
  | _ => 0
theorem row5_z : (fun _ => (0 : Int32)) = row5 0 0 0 0 0 := by
  funext j
  match j with
  | 0 => rfl
  | 1 => rfl
  | 2 => rfl
  | 3 => rfl
  | 4 => rfl
  | j + 5 => rfl
theorem row5_0 {v w r p k x : Int32} : upd (row5 v w r p k) 0 x = row5 x w r p k := by
  funext j
  match j with
  | 0 => exact pk_us
  | 1 => exact pk_un (by omega)
  | 2 => exact pk_un (by omega)
  | 3 => exact pk_un (by omega)
  | 4 => exact pk_un (by omega)
  | j + 5 => exact pk_un (by omega)
theorem row5_1 {v w r p k x : Int32} : upd (row5 v w r p k) 1 x = row5 v x r p k := by
  funext j
  match j with
  | 0 => exact pk_un (by omega)
  | 1 => exact pk_us
  | 2 => exact pk_un (by omega)
  | 3 => exact pk_un (by omega)
  | 4 => exact pk_un (by omega)
  | j + 5 => exact pk_un (by omega)
theorem row5_2 {v w r p k x : Int32} : upd (row5 v w r p k) 2 x = row5 v w x p k := by
  funext j
  match j with
  | 0 => exact pk_un (by omega)
  | 1 => exact pk_un (by omega)
  | 2 => exact pk_us
  | 3 => exact pk_un (by omega)
  | 4 => exact pk_un (by omega)
  | j + 5 => exact pk_un (by omega)
theorem row5_3 {v w r p k x : Int32} : upd (row5 v w r p k) 3 x = row5 v w r x k := by
  funext j
  match j with
  | 0 => exact pk_un (by omega)
  | 1 => exact pk_un (by omega)
  | 2 => exact pk_un (by omega)
  | 3 => exact pk_us
  | 4 => exact pk_un (by omega)
  | j + 5 => exact pk_un (by omega)
theorem row5_4 {v w r p k x : Int32} : upd (row5 v w r p k) 4 x = row5 v w r p x := by
  funext j
  match j with
  | 0 => exact pk_un (by omega)
  | 1 => exact pk_un (by omega)
  | 2 => exact pk_un (by omega)
  | 3 => exact pk_un (by omega)
  | 4 => exact pk_us
  | j + 5 => exact pk_un (by omega)
/-- the delegates' rows -/
def rowsC (cA : ClassId) (n : Nat) (ad : Nat → Nat) (V W R P K : Nat → Int32) : va_W := (List.range n).map (fun i => (ad i, .inl (cA, 5, .inl (row5 (V i) (W i) (R i) (P i) (K i)))))
theorem rowsC_len {cA : ClassId} {n : Nat} {ad : Nat → Nat} {V W R P K : Nat → Int32} : (rowsC cA n ad V W R P K).length = n := by
  unfold rowsC
  rw [List.length_map, List.length_range]
theorem rowsC_at {cA : ClassId} {n k : Nat} {ad : Nat → Nat} {V W R P K : Nat → Int32} (h : k < n) : (rowsC cA n ad V W R P K)[k]? = some (ad k, .inl (cA, 5, .inl (row5 (V k) (W k) (R k) (P k) (K k)))) := by
  unfold rowsC
  rw [List.getElem?_map, List.getElem?_range h]
  rfl
theorem rowsC_no {cA : ClassId} {n k : Nat} {ad : Nat → Nat} {V W R P K : Nat → Int32} (h : n ≤ k) : (rowsC cA n ad V W R P K)[k]? = none := List.getElem?_eq_none (by rw [rowsC_len]; exact h)
theorem tl_at {X pl : va_W} {k : Nat} {z : Nat × va_E} (h : pl[k]? = some z) : (X ++ pl)[X.length + k]? = some z := by
  rw [List.getElem?_append_right (Nat.le_add_right _ _), Nat.add_sub_cancel_left]
  exact h
theorem tl_set : ∀ (X pl : va_W) (k : Nat) (z : Nat × va_E), (X ++ pl).set (X.length + k) z = X ++ pl.set k z
  | [], pl, k, z => by
    show pl.set (0 + k) z = pl.set k z
    rw [Nat.zero_add]
  | x :: X, pl, k, z => by
    show (x :: (X ++ pl)).set (X.length + 1 + k) z = x :: (X ++ pl.set k z)
    rw [show X.length + 1 + k = (X.length + k) + 1 by omega, List.set_cons_succ, tl_set X pl k z]
theorem rowsC_setK {cA : ClassId} {n k : Nat} {ad : Nat → Nat} {V W R P K : Nat → Int32} {x : Int32} (h : k < n) : (rowsC cA n ad V W R P K).set k (ad k, .inl (cA, 5, .inl (row5 (V k) (W k) (R k) (P k) x))) = rowsC cA n ad V W R P (upd K k x) := by
  apply List.ext_getElem?
  intro j
  rw [List.getElem?_set]
  by_cases e : k = j
  · subst e
    rw [if_pos rfl, if_pos (by rw [rowsC_len]; exact h), rowsC_at h, pk_us]
  · rw [if_neg e]
    by_cases hj : j < n
    · rw [rowsC_at hj, rowsC_at hj, pk_un (fun z => e z.symm)]
    · rw [rowsC_no (by omega), rowsC_no (by omega)]
theorem rowsC_setW {cA : ClassId} {n k : Nat} {ad : Nat → Nat} {V W R P K : Nat → Int32} {x : Int32} (h : k < n) : (rowsC cA n ad V W R P K).set k (ad k, .inl (cA, 5, .inl (row5 (V k) x (R k) (P k) (K k)))) = rowsC cA n ad V (upd W k x) R P K := by
  apply List.ext_getElem?
  intro j
  rw [List.getElem?_set]
  by_cases e : k = j
  · subst e
    rw [if_pos rfl, if_pos (by rw [rowsC_len]; exact h), rowsC_at h, pk_us]
  · rw [if_neg e]
    by_cases hj : j < n
    · rw [rowsC_at hj, rowsC_at hj, pk_un (fun z => e z.symm)]
    · rw [rowsC_no (by omega), rowsC_no (by omega)]
theorem rowsC_congr {cA : ClassId} {n : Nat} {ad ad' : Nat → Nat} {V W R P K V' W' R' P' K' : Nat → Int32} (h0 : ∀ i, i < n → ad i = ad' i) (h1 : EqN n V V') (h2 : EqN n W W') (h3 : EqN n R R') (h4 : EqN n P P') (h5 : EqN n K K') : rowsC cA n ad V W R P K = rowsC cA n ad' V' W' R' P' K' := by
  apply List.ext_getElem?
  intro j
  by_cases hj : j < n
  · rw [rowsC_at hj, rowsC_at hj, h0 j hj, h1 j hj, h2 j hj, h3 j hj, h4 j hj, h5 j hj]
  · rw [rowsC_no (by omega), rowsC_no (by omega)]
theorem rowsC_push {cA : ClassId} {n q : Nat} {ad : Nat → Nat} {V W R P K : Nat → Int32} {v w r p k : Int32} : rowsC cA n ad V W R P K ++ [(q, .inl (cA, 5, .inl (row5 v w r p k)))] = rowsC cA (n + 1) (va_up ad n q) (upd V n v) (upd W n w) (upd R n r) (upd P n p) (upd K n k) := by
  apply List.ext_getElem?
  intro j
  rcases Nat.lt_trichotomy j n with hj | hj | hj
  · rw [List.getElem?_append_left (by rw [rowsC_len]; exact hj), rowsC_at hj, rowsC_at (by omega), va_up_ne _ _ (by omega), pk_un (by omega), pk_un (by omega), pk_un (by omega), pk_un (by omega), pk_un (by omega)]
  · subst hj
    rw [List.getElem?_append_right (by rw [rowsC_len]; exact Nat.le_refl _), rowsC_len, Nat.sub_self, rowsC_at (by omega), pk_us, pk_us, pk_us, pk_us, pk_us]
    simp [va_up]
  · rw [List.getElem?_append_right (by rw [rowsC_len]; omega), rowsC_len, rowsC_no (by omega)]
    exact List.getElem?_eq_none (by simp; omega)
theorem rowsC_0 {cA : ClassId} {ad : Nat → Nat} {V W R P K : Nat → Int32} : ([] : va_W) = rowsC cA 0 ad V W R P K := rfl
/-- one row less -/
def adC (ad : Nat → Nat) (j : Nat) : Nat → Nat := fun i => if j ≤ i then ad (i + 1) else ad i
theorem rm_g {cA : ClassId} {X : va_W} {n j : Nat} {ad : Nat → Nat} {V W R P K : Nat → Int32} (hj : j < n) (k : Nat) (q : Nat × va_E) (hk : (X ++ rowsC cA (n - 1) (adC ad j) (closeF V j n) (closeF W j n) (closeF R j n) (closeF P j n) (closeF K j n))[k]? = some q) : (X ++ rowsC cA n ad V W R P K)[if k < X.length then k else if k < X.length + j then k else k + 1]? = some q := by
  by_cases h1 : k < X.length
  · rw [if_pos h1, List.getElem?_append_left h1]
    rw [List.getElem?_append_left h1] at hk
    exact hk
  · rw [if_neg h1]
    rw [List.getElem?_append_right (by omega)] at hk
    obtain ⟨i, hi⟩ : ∃ i, k = X.length + i := ⟨k - X.length, by omega⟩
    subst hi
    rw [Nat.add_sub_cancel_left] at hk
    have hin : i < n - 1 := by
      have := (List.getElem?_eq_some_iff.mp hk).1
      rw [rowsC_len] at this
      exact this
    rw [rowsC_at hin] at hk
    by_cases h2 : i < j
    · rw [if_pos (by omega), tl_at (rowsC_at (show i < n by omega))]
      simp only [adC, closeF] at hk
      rw [if_neg (by omega), if_neg (by omega), if_neg (by omega), if_neg (by omega), if_neg (by omega), if_neg (by omega)] at hk
      exact hk
    · rw [if_neg (by omega), Nat.add_assoc, tl_at (rowsC_at (show i + 1 < n by omega))]
      simp only [adC, closeF] at hk
      rw [if_pos (by omega), if_pos (by omega), if_pos (by omega), if_pos (by omega), if_pos (by omega), if_pos (by omega)] at hk
      exact hk
theorem rm_P {D : va_G} {cA : ClassId} {X : va_W} {n j : Nat} {ad : Nat → Nat} {V W R P K : Nat → Int32} {H : Heap} (hj : j < n) (h : va_P D vwCl (X ++ rowsC cA n ad V W R P K) H) : va_P D vwCl (X ++ rowsC cA (n - 1) (adC ad j) (closeF V j n) (closeF W j n) (closeF R j n) (closeF P j n) (closeF K j n)) H := h.by _ (rm_g hj)
theorem rm_D {A : Nat → Prop} {cA : ClassId} {X : va_W} {n j : Nat} {ad : Nat → Nat} {V W R P K : Nat → Int32} (hj : j < n) (h : va_D A (X ++ rowsC cA n ad V W R P K)) : va_D A (X ++ rowsC cA (n - 1) (adC ad j) (closeF V j n) (closeF W j n) (closeF R j n) (closeF P j n) (closeF K j n)) := by
  refine h.by _ (rm_g hj) (fun a b ha hb e => ?_)
  by_cases h1 : a < X.length <;> by_cases h2 : b < X.length <;> by_cases h3 : a < X.length + j <;> by_cases h4 : b < X.length + j <;> simp only [h1, h2, h3, h4, if_true, if_false] at e <;> omega
section ZROWS
variable {p : Program} {l : Launch} {e : Env} {R : Room} {s : State} {m : MethodId} {args : Array Value} {below : List Frame} {meth : Method} {c : Code} {H : Heap} {locs : List Loc} {cells slots : Nat} {Q : State → Prop}
variable {cc : ByteArray} {pc : Nat} {ls : Array Slot} {rest : List Value} {D : va_G} {A : Nat → Prop} {a : Nat} {tys : List (ClassId × FieldType)} {ws X : va_W} {H0 : Heap}
theorem q_ld (hexec : p.tables.exec = Jvm.exec) (hb : c.code = cc) (hK : va_K D vwCl tys s) (hP : va_P D vwCl ws H) (q0 t0 : Nat) {cR : ClassId} {n : Nat} {f : Nat → Option Nat} (ha : ws[q0]? = some (a, .inl (cR, n, .inr (.inr (.inr (.inr f)))))) (ht : tys[t0]? = some (cR, .array .int)) {k v : Nat} (hk : k < n) (hn : n ≤ 1000) (hv : f k = some v) (hdg : decode cc pc = .ok (.aaload, 1))
    (kk : W p l e R s m args below meth c H locs cells slots Q (F0 m (pc + 1) ls (.ref v :: rest))) : W p l e R s m args below meth c H locs cells slots Q (F0 m pc ls (.int (nI k) :: .ref a :: rest)) := by
  have hc : (nI k).toNatClampNeg = k := nI_clamp (by omega)
  have hin : vp_in (nI k) n := vp_in_nI hk (by omega)
  exact W.aald (v := .ref v) (ty := .array .int) hexec hb (hP q0 _ ha) ((hK.2 t0 _ ht).1 n (fun j => va_rf (f j))) rfl (fun q => by cases q) (by show ¬ (nI k < 0 ∨ (arrV _ _ _).slots.size ≤ _); rw [arrV_size]; exact hin) (by show (arrV _ _ _).slots[_]? = _; rw [hc, arrV_read _ _ hk, hv]; rfl) rfl rfl hdg kk
theorem q_ao (hN : va_Nw qAO s) (hK : va_K D vwCl tys s) {t0 tA : Nat} {cR cA : ClassId} (ht : tys[t0]? = some (cR, .array .int)) (htA : tys[tA]? = some (cA, .int)) : ∃ (kA kcomp : Class), s.vm.classes[cR]? = some kA ∧ kA.kind = .array cA (.array .int) ∧ s.vm.classes[cA]? = some kcomp := by
  obtain ⟨comp, c1, k, h1, -, h3, h4, h5⟩ := arrayOverA_spec hN
  have e1 : s.vm.findClass ("[" ++ (FieldType.array .int).toString) = some cR := (hK.2 t0 _ ht).2
  have e2 : s.vm.findClass ("[" ++ (FieldType.int).toString) = some cA := (hK.2 tA _ htA).2
  have e3 : c1 = cR := Option.some.inj (h5.symm.trans e1)
  have e4 : comp = cA := Option.some.inj (h1.symm.trans e2)
  subst e3
  subst e4
  obtain ⟨-, kc, hkc, -⟩ := (hK.2 tA _ htA).1 0 (fun _ => .int 0)
  exact ⟨k, kc, h3, h4, hkc⟩
theorem q_st (hexec : p.tables.exec = Jvm.exec) (hb : c.code = cc) (hN : va_Nw qAO s) (hK : va_K D vwCl tys s) (hP : va_P D vwCl ws H) (hD : va_D A ws) (hS : va_S A H0 H locs) (q0 t0 tA qk : Nat) {cR cA : ClassId} {n v : Nat} {x : vp_A} {f : Nat → Option Nat} (ha : ws[q0]? = some (a, .inl (cR, n, .inr (.inr (.inr (.inr f)))))) (ht : tys[t0]? = some (cR, .array .int)) (htA : tys[tA]? = some (cA, .int)) (hv : ws[qk]? = some (v, .inl (cA, x))) {k : Nat} (hk : k < n) (hn : n ≤ 1000) (hdg : decode cc pc = .ok (.aastore, 1))
    (kk : ∀ (H1 : Heap) (locs1 : List Loc), va_P D vwCl (ws.set q0 (a, .inl (cR, n, .inr (.inr (.inr (.inr (va_up f k (some v)))))))) H1 → va_D A (ws.set q0 (a, .inl (cR, n, .inr (.inr (.inr (.inr (va_up f k (some v)))))))) → va_S A H0 H1 locs1 → W p l e R s m args below meth c H1 locs1 cells slots Q (F0 m (pc + 1) ls rest)) : W p l e R s m args below meth c H locs cells slots Q (F0 m pc ls (.ref v :: .int (nI k) :: .ref a :: rest)) := by
  have hc : (nI k).toNatClampNeg = k := nI_clamp (by omega)
  obtain ⟨kA, kcomp, k1, k2, k3⟩ := q_ao hN hK ht htA
  have hvc : (vp_cell cA x).cls = cA := by
    obtain ⟨n9, f9 | f9 | f9 | f9 | f9⟩ := x <;> rfl
  have hvm : (vp_cell cA x).vm = .none := by
    obtain ⟨n9, f9 | f9 | f9 | f9 | f9⟩ := x <;> rfl
  refine W.aast hexec hb (hP q0 _ ha) (fun q h => by cases h) (fun h => by cases h) k1 k2 rfl k3 ⟨nI_pos (by omega), by show _ < (arrV _ _ _).slots.size; rw [arrV_size, hc]; exact hk⟩ (hP qk _ hv) (fun q h => by rw [hvm] at h; cases h) (by rw [hvc]; exact k3) (by rw [hvc]; exact va_asg _ _) rfl rfl hdg fun H1 e z oq => ?_
  refine kk H1 _ (hP.set hD ha ?_ oq) (hD.set ha) (hS.put z oq (hD.2 q0 _ ha))
  show H1[a]? = some (vp_cell _ _)
  rw [e]
  rw [vp_cell_q, vp_cell_q, arrV_store, hc]
  congr 2
  funext q
  by_cases hq : q = k
  · subst hq
    simp [updV, va_up, va_rf]
  · simp [updV, va_up, hq]
theorem q_new (hexec : p.tables.exec = Jvm.exec) (hb : c.code = cc) {own : String} {index : Nat} (hown : s.vm.findClass own = some m.cls) (hclink : (Cond.classLink own index "[I").before args s = true) (hN : va_Nw qAO s) (hK : va_K D vwCl tys s) (hP : va_P D vwCl ws H) (hD : va_D A ws) (hS : va_S A H0 H locs) (hA : ∀ q, H0.size ≤ q → A q) (t0 : Nat) {cR : ClassId} (ht : tys[t0]? = some (cR, .array .int))
    {n : Int32} {N' : Nat} (hn : ¬ n < 0) (hN' : n.toNatClampNeg = N') (hb4 : N' ≤ 1000) (hcells : cells + 1 ≤ R.cells) (hslots : slots + N' ≤ R.slots) (hdg : decode cc pc = .ok (.anewarray index, 3))
    (kk : ∀ (q : Nat) (H1 : Heap), va_P D vwCl (ws ++ [(q, .inl (cR, N', .inr (.inr (.inr (.inr (fun _ => none))))))]) H1 → va_D A (ws ++ [(q, .inl (cR, N', .inr (.inr (.inr (.inr (fun _ => none))))))]) → va_S A H0 H1 locs →
      W p l e R s m args below meth c H1 locs (cells + 1) (slots + N') Q (F0 m (pc + 3) ls (.ref q :: rest))) : W p l e R s m args below meth c H locs cells slots Q (F0 m pc ls (.int n :: rest)) := by
  subst hN'
  refine W.anewA (t := .int) hexec hb hown hclink hN rfl hdg rfl hn (by omega) hcells hslots fun cA kA comp f1 f2 f3 f4 => ?_
  have e1 : s.vm.findClass ("[" ++ (FieldType.array .int).toString) = some cR := (hK.2 t0 _ ht).2
  have e3 : cA = cR := Option.some.inj (f1.symm.trans e1)
  subst e3
  generalize hH1 : H.push ({ cls := cA, slots := Array.replicate n.toNatClampNeg .null, vm := .none } : Cell) = H1
  have z1 : H1.size = H.size + 1 := by rw [← hH1, Array.size_push]
  have e1 : H1[H.size]? = some (arrV cA n.toNatClampNeg (fun _ => .null)) := by rw [← hH1, Array.getElem?_push_size, ← arrV_new]
  have o1 : ∀ q : Nat, q < H.size → H1[q]? = H[q]? := fun q hq => by rw [← hH1, Array.getElem?_push, if_neg (Nat.ne_of_lt hq)]
  have hk : ∀ (k : Nat) (x : Nat × va_E), ws[k]? = some x → H1[x.1]? = H[x.1]? := fun k x hx => o1 x.1 ((hP k x hx).lt)
  refine kk H.size H1 ((hP.kept hk).app (fun k x hx => ?_)) (hD.push hP rfl (hA _ hS.1)) ⟨Nat.le_trans hS.1 (by omega), fun x h1 h2 => (o1 x (Nat.lt_of_lt_of_le h1 hS.1)).trans (hS.2.1 x h1 h2), hS.2.2⟩
  have hz : k < 1 := (List.getElem?_eq_some_iff.mp hx).1
  rw [show k = 0 by omega] at hx
  cases hx
  show H1[H.size]? = some (vp_cell _ _)
  rw [vp_cell_q]
  exact e1
theorem r_ld (hexec : p.tables.exec = Jvm.exec) (hb : c.code = cc) (hK : va_K D vwCl tys s) {cA : ClassId} {n : Nat} {ad : Nat → Nat} {fV fW fR fP fK : Nat → Int32} (hP : va_P D vwCl (X ++ rowsC cA n ad fV fW fR fP fK) H) (t0 : Nat) (ht : tys[t0]? = some (cA, .int)) {k : Nat} (hk : k < n) (J : Nat) (hJ : J < 5) {x : Int32} (hx : row5 (fV k) (fW k) (fR k) (fP k) (fK k) J = x) (hdg : decode cc pc = .ok (.iaload, 1))
    (kk : W p l e R s m args below meth c H locs cells slots Q (F0 m (pc + 1) ls (.int x :: rest))) : W p l e R s m args below meth c H locs cells slots Q (F0 m pc ls (.int (nI J) :: .ref (ad k) :: rest)) := by
  refine a_ld hexec hb hK hP (X.length + k) t0 (tl_at (rowsC_at hk)) ht hJ (by omega) hdg ?_
  rw [hx]
  exact kk
theorem r_stK (hexec : p.tables.exec = Jvm.exec) (hb : c.code = cc) (hK : va_K D vwCl tys s) {cA : ClassId} {n : Nat} {ad : Nat → Nat} {fV fW fR fP fK : Nat → Int32} (hP : va_P D vwCl (X ++ rowsC cA n ad fV fW fR fP fK) H) (hD : va_D A (X ++ rowsC cA n ad fV fW fR fP fK)) (hS : va_S A H0 H locs) (t0 : Nat) (ht : tys[t0]? = some (cA, .int)) {k : Nat} (hk : k < n) {x : Int32} (hdg : decode cc pc = .ok (.iastore, 1))
    (kk : ∀ (H1 : Heap) (locs1 : List Loc), va_P D vwCl (X ++ rowsC cA n ad fV fW fR fP (upd fK k x)) H1 → va_D A (X ++ rowsC cA n ad fV fW fR fP (upd fK k x)) → va_S A H0 H1 locs1 → W p l e R s m args below meth c H1 locs1 cells slots Q (F0 m (pc + 1) ls rest)) : W p l e R s m args below meth c H locs cells slots Q (F0 m pc ls (.int x :: .int (nI 4) :: .ref (ad k) :: rest)) := by
  refine a_st hexec hb hK hP hD hS (X.length + k) t0 (tl_at (rowsC_at hk)) ht (by omega) (by omega) hdg (fun H1 locs1 hP1 hD1 hS1 => ?_)
  rw [row5_4, tl_set, rowsC_setK hk] at hP1 hD1
  exact kk H1 locs1 hP1 hD1 hS1
theorem r_stW (hexec : p.tables.exec = Jvm.exec) (hb : c.code = cc) (hK : va_K D vwCl tys s) {cA : ClassId} {n : Nat} {ad : Nat → Nat} {fV fW fR fP fK : Nat → Int32} (hP : va_P D vwCl (X ++ rowsC cA n ad fV fW fR fP fK) H) (hD : va_D A (X ++ rowsC cA n ad fV fW fR fP fK)) (hS : va_S A H0 H locs) (t0 : Nat) (ht : tys[t0]? = some (cA, .int)) {k : Nat} (hk : k < n) {x : Int32} (hdg : decode cc pc = .ok (.iastore, 1))
    (kk : ∀ (H1 : Heap) (locs1 : List Loc), va_P D vwCl (X ++ rowsC cA n ad fV (upd fW k x) fR fP fK) H1 → va_D A (X ++ rowsC cA n ad fV (upd fW k x) fR fP fK) → va_S A H0 H1 locs1 → W p l e R s m args below meth c H1 locs1 cells slots Q (F0 m (pc + 1) ls rest)) : W p l e R s m args below meth c H locs cells slots Q (F0 m pc ls (.int x :: .int (nI 1) :: .ref (ad k) :: rest)) := by
  refine a_st hexec hb hK hP hD hS (X.length + k) t0 (tl_at (rowsC_at hk)) ht (by omega) (by omega) hdg (fun H1 locs1 hP1 hD1 hS1 => ?_)
  rw [row5_1, tl_set, rowsC_setW hk] at hP1 hD1
  exact kk H1 locs1 hP1 hD1 hS1
theorem r_fit {cA : ClassId} {n : Nat} {f : Nat → Int32} (i : Nat) (v : Value) (h : (vp_cell cA (n, .inl f)).slots[i]? = some v) : fits .int v = true := by
  by_cases hi : i < n
  · have h1 : (vp_cell cA (n, .inl f)).slots[i]? = some (.int (f i)) := by
      rw [vp_cell_i]
      exact arrV_read _ _ hi
    rw [h1] at h
    cases h
    rfl
  · have h1 : (vp_cell cA (n, .inl f)).slots.size = n := by
      rw [vp_cell_i]
      exact arrV_size _ _ _
    rw [Array.getElem?_eq_none (by omega)] at h
    cases h
theorem q_nm {t0 : Nat} {cA : ClassId} (hK : va_K D vwCl tys s) (ht : tys[t0]? = some (cA, .int)) : s.vm.findClass "[I" = some cA := (hK.2 t0 _ ht).2
end ZROWS
section ZENDS
variable {p : Program} {l : Launch} {e : Env} {R : Room} {s : State} {m : MethodId} {args : Array Value} {below : List Frame} {meth : Method} {c : Code} {H : Heap} {locs : List Loc} {cells slots : Nat} {cc : ByteArray} {pc nL : Nat} {ls : Array Slot} {D : va_G} {A : Nat → Prop} {X X' pl : va_W} {tys tys' : List (ClassId × FieldType)} {mc ms : Nat} {S : Type} {w1 : S → va_W} {Ts : List Cond} {own : String}
theorem q_we (hK : va_K D vwCl tys s) (hP : va_P D vwCl (X ++ pl) H) (hD : va_D A (X ++ pl)) (is it : List Nat) (hw : is.map (fun i => X[i]?) = X'.map some) (hn : va_nd is = true) (ht : it.filterMap (fun i => tys[i]?) = tys') {t : State} (h1 : t.heap = H) (h2 : s.vm.Alike t.vm) : We D tys' (X' ++ pl) A t :=
  ⟨by rw [h1]; exact hP.part is hw, va_K.moved h2 (hK.sub it ht), hD.part is hn hw⟩
theorem q_i {post : Int32 → S → Prop} {v : Int32} (F : CallFix p m c cc nL s args Ts own) (hr : meth.sig.returnType = some .int) (hlocks : meth.locks = false) (hK : va_K D vwCl tys s) (hP : va_P D vwCl (X ++ pl) H) (hD : va_D A (X ++ pl)) (hS : va_S A s.heap H locs) (is it : List Nat) (u : S) (hp : post v u) (hu : w1 u = X' ++ pl) (hw : is.map (fun i => X[i]?) = X'.map some) (hn : va_nd is = true) (ht : it.filterMap (fun i => tys[i]?) = tys') (hc : cells ≤ mc) (hs : slots ≤ ms) (hdg : decode cc pc = .ok (.ireturn, 1)) :
    W p l e R s m args below meth c H locs cells slots (MQ below (va_Qi post (fun u t => We D tys' (w1 u) A t) A) args s mc ms A) (F0 m pc ls [.int v]) := by
  refine W.widen hc hs ?_
  exact W.iret F.1 F.2.1 hr (fun t h1 hW => ⟨⟨v, u, rfl, hp, by show We D tys' (w1 u) A t; rw [hu]; exact q_we hK hP hD is it hw hn ht h1 hW.alike⟩, hS.F h1⟩) hS.2.2 hdg hlocks
theorem q_z {post : Int32 → S → Prop} {v : Int32} (F : CallFix p m c cc nL s args Ts own) (hr : meth.sig.returnType = some .boolean) (hlocks : meth.locks = false) (hK : va_K D vwCl tys s) (hP : va_P D vwCl (X ++ pl) H) (hD : va_D A (X ++ pl)) (hS : va_S A s.heap H locs) (is it : List Nat) (u : S) (hz : v = 0 ∨ v = 1) (hp : post v u) (hu : w1 u = X' ++ pl) (hw : is.map (fun i => X[i]?) = X'.map some) (hn : va_nd is = true) (ht : it.filterMap (fun i => tys[i]?) = tys') (hc : cells ≤ mc) (hs : slots ≤ ms) (hdg : decode cc pc = .ok (.ireturn, 1)) :
    W p l e R s m args below meth c H locs cells slots (MQ below (va_Qi post (fun u t => We D tys' (w1 u) A t) A) args s mc ms A) (F0 m pc ls [.int v]) := by
  refine W.widen hc hs ?_
  exact W.zret F.1 F.2.1 hr (by rcases hz with rfl | rfl <;> rfl) (fun t h1 hW => ⟨⟨v, u, rfl, hp, by show We D tys' (w1 u) A t; rw [hu]; exact q_we hK hP hD is it hw hn ht h1 hW.alike⟩, hS.F h1⟩) hS.2.2 hdg hlocks
theorem q_v {post : S → Prop} (F : CallFix p m c cc nL s args Ts own) (hr : meth.sig.returnType = none) (hlocks : meth.locks = false) (hK : va_K D vwCl tys s) (hP : va_P D vwCl (X ++ pl) H) (hD : va_D A (X ++ pl)) (hS : va_S A s.heap H locs) (is it : List Nat) (u : S) (hp : post u) (hu : w1 u = X' ++ pl) (hw : is.map (fun i => X[i]?) = X'.map some) (hn : va_nd is = true) (ht : it.filterMap (fun i => tys[i]?) = tys') (hc : cells ≤ mc) (hs : slots ≤ ms) (hdg : decode cc pc = .ok (.return_, 1)) :
    W p l e R s m args below meth c H locs cells slots (MQ below (va_Qv post (fun u t => We D tys' (w1 u) A t) A) args s mc ms A) (F0 m pc ls []) := by
  refine W.widen hc hs ?_
  exact W.vret F.1 F.2.1 hr (fun t h1 hW => ⟨⟨u, rfl, hp, by show We D tys' (w1 u) A t; rw [hu]; exact q_we hK hP hD is it hw hn ht h1 hW.alike⟩, hS.F h1⟩) hS.2.2 hdg hlocks
theorem q_r {rt : FieldType} {w2 : S → Nat → va_W} {post : S → Prop} {v : Nat} (F : CallFix p m c cc nL s args Ts own) (hr : meth.sig.returnType = some rt) (hrt : ∃ n, rt = .object n) (hlocks : meth.locks = false) (hK : va_K D vwCl tys s) (hP : va_P D vwCl (X ++ pl) H) (hD : va_D A (X ++ pl)) (hS : va_S A s.heap H locs) (is it : List Nat) (u : S) (hp : post u) (hu : w2 u v = X' ++ pl) (hw : is.map (fun i => X[i]?) = X'.map some) (hn : va_nd is = true) (ht : it.filterMap (fun i => tys[i]?) = tys') (hc : cells ≤ mc) (hs : slots ≤ ms) (hdg : decode cc pc = .ok (.areturn, 1)) :
    W p l e R s m args below meth c H locs cells slots (MQ below (va_Qr post (fun u a t => We D tys' (w2 u a) A t) A) args s mc ms A) (F0 m pc ls [.ref v]) := by
  refine W.widen hc hs ?_
  exact W.aret (v := .ref v) F.1 F.2.1 hr (Or.inl hrt) (Or.inr ⟨v, rfl⟩) (fun t h1 hW => ⟨⟨u, v, rfl, hp, by show We D tys' (w2 u v) A t; rw [hu]; exact q_we hK hP hD is it hw hn ht h1 hW.alike⟩, hS.F h1⟩) hS.2.2 hdg hlocks
end ZENDS
/-! ===== contracts over worlds that can throw, where nothing is thrown ===== -/
theorem z_met {l : Launch} {y : MethodName} {ws : List Cond} {rm : Room} {D : va_G} {tys : List (ClassId × FieldType)} {wc : va_W} {sz : Nat} {av : List Value} {Qc : Array Value → State → Outcome → State → Prop} {mc ms : Nat} {free : Addr → Prop} (h : Met l y ws rm (va_Pc av (Wd D tys wc sz)) Qc mc ms free) : Met l y ws rm (va_Pc av (Wx D tys wc sz)) Qc mc ms free :=
  MetFree.mono h (fun a s hp => ⟨hp.1, hp.2.1⟩) (fun _ _ _ _ _ hk => hk) (fun _ _ _ _ _ hq => hq)
theorem z_vx {l : Launch} {y : MethodName} {ws : List Cond} {rm : Room} {Pc : Array Value → State → Prop} {Qc : Array Value → State → Outcome → State → Prop} {mc ms : Nat} {free : Addr → Prop} {SX : Type} {px : String → SX → Prop} {B : SX → State → Prop} {A : Nat → Prop} (h : vx_Met l y ws rm Pc Qc (vx_X (fun _ : SX => True) (fun E x t => px E x ∧ B x t) A) mc ms free) (hx : ∀ E x, px E x → False) : Met l y ws rm Pc Qc mc ms free :=
  MetFree.mono h (fun _ _ hp => hp) (fun _ _ _ _ _ hk => hk) (fun a s o t _ hq => hq.elim id (fun ⟨q, _, E, ce, L, ⟨x, _, ⟨h1, _⟩, _⟩, _⟩ => (hx E x h1).elim))
theorem mk_z {l : Launch} {y : MethodName} {ws ws' : List Cond} {rm : Room} {D : va_G} {tys : List (ClassId × FieldType)} {wc : va_W} {sz : Nat} (av : List Value) (Qc : (Nat → Prop) → Array Value → State → Outcome → State → Prop) {mc ms : Nat} {cc : ByteArray} {maxL : Nat} {ret : Option FieldType}
    (hy : plainName y.cls = true) (hw : ws = Cond.code y cc maxL ret :: ws') (hlen : (lg_sl av).length ≤ maxL)
    (body : ∀ p e s m args below meth c (A : Nat → Prop) (ls : Array Slot), CallFix p m c cc maxL s args ws y.cls → meth.sig.returnType = ret → meth.locks = false → meth.name = y.name → va_P D vwCl wc s.heap → va_K D vwCl tys s → va_D A wc → XE A s s.heap → (∀ q : Nat, s.heap.size ≤ q → A q) → lv_has ls maxL (lv_args 0 av) →
      W p l e rm s m args below meth c s.heap [] 0 0 (MQ below (Qc A) args s mc ms A) (F0 m 0 ls [])) :
    Met l y ws rm (va_Pc av (Wx D tys wc sz)) (Qc (va_A wc sz)) mc ms (va_A wc sz) := by
  refine Met.ofW (cc := cc) (maxL := maxL) (ret := ret) hy hw ?_
  intro p e s m args below meth c s₁ B hml hv
  obtain ⟨rfl, ⟨hsz, hP, hK, hD0⟩, hXE⟩ := hv
  subst hsz
  have hl := lv_entry av (n := maxL) hlen
  rw [lg_entry_eq]
  exact body p e s m _ below meth c _ _ ⟨B.exec, B.bytes, hml, findClass_of_methodNamed B.named, atoms_spec (ws := ws) B.pre⟩ B.returns B.notSynchronized (name_of_methodNamed B.named B.method).1 hP hK hD0.self hXE (fun q h => Or.inr h) hl
section ZCALLS
variable {p : Program} {l : Launch} {e : Env} {R : Room} {s : State} {m : MethodId} {args : Array Value} {below : List Frame} {meth : Method} {c : Code} {H H0 : Heap} {locs : List Loc} {cells slots : Nat} {Q : State → Prop} {cc : ByteArray} {pc nL : Nat} {ls : Array Slot} {D : va_G} {A : Nat → Prop} {ws wc : va_W} {tys tysC : List (ClassId × FieldType)} {mc ms : Nat} {S : Type} {w1 : S → va_W} {Ts : List Cond} {own host : String}
variable {index : Nat} {y : MethodName} {bytes : ByteArray} {maxL : Nat} {ret : Option FieldType} {wsY : List Cond} {rm : Room} {n : Nat} {b : Addr} {As stk rest : List Value}
theorem zfree (hDc : va_D A wc) (hS : va_S A H0 H locs) (hA : ∀ q, H0.size ≤ q → A q) : ∀ q, va_A wc H.size q → A q := by
  intro q h
  rcases h with ⟨k, e, h⟩ | h
  · exact hDc.2 k (q, e) h
  · exact hA q (Nat.le_trans hS.1 h)
theorem zpre {av : List Value} (hK : va_K D vwCl tys s) (hPc : va_P D vwCl wc H) (hDc : va_D A wc) (hS : va_S A s.heap H locs) (hA : ∀ q, s.heap.size ≤ q → A q) (hXE : XE A s s.heap) {isT : List Nat} (hT : isT.filterMap (fun i => tys[i]?) = tysC) (U : State) (hU : U.heap = H) (hW : s.WarmedH U.vm) : va_Pc av (Wx D tysC wc H.size) av.toArray U :=
  ⟨rfl, ⟨by rw [hU], by rw [hU]; exact hPc, va_K.moved hW.alike (hK.sub isT hT), hDc.weaken (fun _ _ _ _ => trivial)⟩, by rw [hU]; exact ((hXE.kept hS.2.1).narrow (zfree hDc hS hA)).warm hW⟩
theorem zRunV {Qc : Array Value → State → Outcome → State → Prop} {ci : Nat} {q : vw_C} (F : CallFix p m c cc nL s args Ts own)
    (hM : Met l y wsY rm (va_Pc (.ref b :: As) (Wx D tysC wc H.size)) Qc mc ms (va_A wc H.size))
    (cw : CallW R s args own q.1 index y bytes maxL ret wsY rm mc ms n) (hK : va_K D vwCl tys s) (hP : va_P D vwCl ws H) (hPc : va_P D vwCl wc H) (hDc : va_D A wc) (hS : va_S A s.heap H locs) (hA : ∀ q, s.heap.size ≤ q → A q) (hXE : XE A s s.heap) (isT : List Nat) (hT : isT.filterMap (fun i => tys[i]?) = tysC)
    (q0 : Nat) {fs : List Value} (hc0 : vwCl[ci]? = some q) (he0 : ws[q0]? = some (b, .inr (ci, fs)))
    (hn : As.length = n) (hsize : ls.size = nL) (hstk : stk = As.reverse ++ .ref b :: rest) (hW : (rest.map fun v => v.category).sum ≤ 8) (hdg : decode cc pc = .ok (.invokevirtual index, 3)) (hf : cells + mc ≤ R.cells ∧ slots + ms ≤ R.slots) :
    va_Run p l e R s m args below meth c H locs cells slots mc ms (F0 m pc ls stk) rest (Qc (Value.ref b :: As).toArray) (va_A wc H.size) :=
  va_runV F hM cw ⟨Wx_blind, va_recv hK hP hc0 he0, fun U hU hW => zpre hK hPc hDc hS hA hXE hT U hU hW⟩ rfl hn hsize hstk (lv_room hW) hdg hf
theorem zRunS {Qc : Array Value → State → Outcome → State → Prop} (F : CallFix p m c cc nL s args Ts own)
    (hM : Met l y wsY rm (va_Pc As (Wx D tysC wc H.size)) Qc mc ms (va_A wc H.size))
    (cw : CallB R s args own index y bytes maxL ret wsY rm mc ms n ∧ (Cond.static y).before args s = true) (hK : va_K D vwCl tys s) (hPc : va_P D vwCl wc H) (hDc : va_D A wc) (hS : va_S A s.heap H locs) (hA : ∀ q, s.heap.size ≤ q → A q) (hXE : XE A s s.heap) (isT : List Nat) (hT : isT.filterMap (fun i => tys[i]?) = tysC)
    (hn : As.length = n) (hsize : ls.size = nL) (hstk : stk = As.reverse ++ rest) (hW : (rest.map fun v => v.category).sum ≤ 8) (hdg : decode cc pc = .ok (.invokestatic index, 3)) (hf : cells + mc ≤ R.cells ∧ slots + ms ≤ R.slots) :
    va_Run p l e R s m args below meth c H locs cells slots mc ms (F0 m pc ls stk) rest (Qc As.toArray) (va_A wc H.size) :=
  va_runS F hM cw ⟨Wx_blind, fun U hU hW => zpre hK hPc hDc hS hA hXE hT U hU hW⟩ rfl hn hsize hstk (lv_room hW) hdg hf
theorem zRunI {Qc : Array Value → State → Outcome → State → Prop} (F : CallFix p m c cc nL s args Ts own)
    (hM : Met l y wsY rm (va_Pc (.ref b :: As) (Wx D tysC wc H.size)) Qc mc ms (va_A wc H.size))
    (cw : CallB R s args own index y bytes maxL none wsY rm mc ms n ∧ y.name = "<init>" ∧ (Cond.instanceMethod y).before args s = true) (hK : va_K D vwCl tys s) (hPc : va_P D vwCl wc H) (hDc : va_D A wc) (hS : va_S A s.heap H locs) (hA : ∀ q, s.heap.size ≤ q → A q) (hXE : XE A s s.heap) (isT : List Nat) (hT : isT.filterMap (fun i => tys[i]?) = tysC)
    (hn : As.length = n) (hsize : ls.size = nL) (hstk : stk = As.reverse ++ .ref b :: rest) (hW : (rest.map fun v => v.category).sum ≤ 8) (hdg : decode cc pc = .ok (.invokespecial index, 3)) (hf : cells + mc ≤ R.cells ∧ slots + ms ≤ R.slots) :
    va_Run p l e R s m args below meth c H locs cells slots mc ms (F0 m pc ls stk) rest (Qc (Value.ref b :: As).toArray) (va_A wc H.size) :=
  va_runI F hM cw ⟨Wx_blind, fun U hU hW => zpre hK hPc hDc hS hA hXE hT U hU hW⟩ rfl hn hsize hstk (lv_room hW) hdg hf
theorem zRunIN {Qc : Array Value → State → Outcome → State → Prop} (F : CallFix p m c cc nL s args Ts own)
    (hM : Met l y wsY rm (va_Pc (.ref b :: As) (Wx D tysC wc H.size)) Qc mc ms (va_A wc H.size))
    (cw : va_CN R s args own index y host bytes maxL none wsY rm mc ms n ∧ y.name = "<init>" ∧ (Cond.instanceMethod y).before args s = true) (hK : va_K D vwCl tys s) (hPc : va_P D vwCl wc H) (hDc : va_D A wc) (hS : va_S A s.heap H locs) (hA : ∀ q, s.heap.size ≤ q → A q) (hXE : XE A s s.heap) (isT : List Nat) (hT : isT.filterMap (fun i => tys[i]?) = tysC)
    (hn : As.length = n) (hsize : ls.size = nL) (hstk : stk = As.reverse ++ .ref b :: rest) (hW : (rest.map fun v => v.category).sum ≤ 8) (hdg : decode cc pc = .ok (.invokespecial index, 3)) (hf : cells + mc ≤ R.cells ∧ slots + ms ≤ R.slots) :
    va_Run p l e R s m args below meth c H locs cells slots mc ms (F0 m pc ls stk) rest (Qc (Value.ref b :: As).toArray) (va_A wc H.size) :=
  va_runIN F hM cw ⟨Wx_blind, fun U hU hW => zpre hK hPc hDc hS hA hXE hT U hU hW⟩ rfl hn hsize hstk (lv_room hW) hdg hf
theorem zi {post : Int32 → S → Prop} {av : Array Value} (hFc : ∀ q, va_A wc H.size q → A q) (hS : va_S A H0 H locs)
    (hr : va_Run p l e R s m args below meth c H locs cells slots mc ms (F0 m pc ls stk) rest (va_Qi post (fun u t => We D tysC (w1 u) (va_A wc H.size) t) (va_A wc H.size) av) (va_A wc H.size)) (w2 : S → va_W)
    (hJ : ∀ (u : S) (H1 : Heap), va_P D vwCl (w1 u) H1 → va_D (va_A wc H.size) (w1 u) → (∀ q : Nat, q < H.size → ¬ va_A wc H.size q → H1[q]? = H[q]?) → va_P D vwCl (w2 u) H1 ∧ va_D A (w2 u))
    (kk : ∀ (r : Int32) (u : S) (H1 : Heap) (locs1 : List Loc), post r u → va_P D vwCl (w2 u) H1 → va_D A (w2 u) → va_S A H0 H1 locs1 → W p l e R s m args below meth c H1 locs1 (cells + mc) (slots + ms) Q (F0 m (pc + 3) ls (.int r :: rest))) : W p l e R s m args below meth c H locs cells slots Q (F0 m pc ls stk) := by
  refine va_calli hr hS (fun q _ h => hFc q h) hFc (fun r u t H1 locs1 ht hvm hw hB hz hk hS1 => ?_)
  obtain ⟨hP1, hK1, hD1⟩ := hB
  rw [ht] at hP1
  obtain ⟨h1, h2⟩ := hJ u H1 hP1 hD1 hk
  exact kk r u H1 locs1 hw h1 h2 hS1
theorem zd {post : UInt64 → S → Prop} {av : Array Value} (hFc : ∀ q, va_A wc H.size q → A q) (hS : va_S A H0 H locs)
    (hr : va_Run p l e R s m args below meth c H locs cells slots mc ms (F0 m pc ls stk) rest (va_Qd post (fun u t => We D tysC (w1 u) (va_A wc H.size) t) (va_A wc H.size) av) (va_A wc H.size)) (w2 : S → va_W)
    (hJ : ∀ (u : S) (H1 : Heap), va_P D vwCl (w1 u) H1 → va_D (va_A wc H.size) (w1 u) → (∀ q : Nat, q < H.size → ¬ va_A wc H.size q → H1[q]? = H[q]?) → va_P D vwCl (w2 u) H1 ∧ va_D A (w2 u))
    (kk : ∀ (r : UInt64) (u : S) (H1 : Heap) (locs1 : List Loc), post r u → va_P D vwCl (w2 u) H1 → va_D A (w2 u) → va_S A H0 H1 locs1 → W p l e R s m args below meth c H1 locs1 (cells + mc) (slots + ms) Q (F0 m (pc + 3) ls (.double r :: rest))) : W p l e R s m args below meth c H locs cells slots Q (F0 m pc ls stk) := by
  refine va_calld hr hS (fun q _ h => hFc q h) hFc (fun r u t H1 locs1 ht hvm hw hB hz hk hS1 => ?_)
  obtain ⟨hP1, hK1, hD1⟩ := hB
  rw [ht] at hP1
  obtain ⟨h1, h2⟩ := hJ u H1 hP1 hD1 hk
  exact kk r u H1 locs1 hw h1 h2 hS1
theorem zv {post : S → Prop} {av : Array Value} (hFc : ∀ q, va_A wc H.size q → A q) (hS : va_S A H0 H locs)
    (hr : va_Run p l e R s m args below meth c H locs cells slots mc ms (F0 m pc ls stk) rest (va_Qv post (fun u t => We D tysC (w1 u) (va_A wc H.size) t) (va_A wc H.size) av) (va_A wc H.size)) (w2 : S → va_W)
    (hJ : ∀ (u : S) (H1 : Heap), va_P D vwCl (w1 u) H1 → va_D (va_A wc H.size) (w1 u) → (∀ q : Nat, q < H.size → ¬ va_A wc H.size q → H1[q]? = H[q]?) → va_P D vwCl (w2 u) H1 ∧ va_D A (w2 u))
    (kk : ∀ (u : S) (H1 : Heap) (locs1 : List Loc), post u → va_P D vwCl (w2 u) H1 → va_D A (w2 u) → va_S A H0 H1 locs1 → W p l e R s m args below meth c H1 locs1 (cells + mc) (slots + ms) Q (F0 m (pc + 3) ls rest)) : W p l e R s m args below meth c H locs cells slots Q (F0 m pc ls stk) := by
  refine va_callv hr hS (fun q _ h => hFc q h) hFc (fun u t H1 locs1 ht hvm hw hB hz hk hS1 => ?_)
  obtain ⟨hP1, hK1, hD1⟩ := hB
  rw [ht] at hP1
  obtain ⟨h1, h2⟩ := hJ u H1 hP1 hD1 hk
  exact kk u H1 locs1 hw h1 h2 hS1
theorem zr {w3 : S → Nat → va_W} {post : S → Prop} {av : Array Value} (hFc : ∀ q, va_A wc H.size q → A q) (hS : va_S A H0 H locs)
    (hr : va_Run p l e R s m args below meth c H locs cells slots mc ms (F0 m pc ls stk) rest (va_Qr post (fun u a t => We D tysC (w3 u a) (va_A wc H.size) t) (va_A wc H.size) av) (va_A wc H.size)) (w2 : S → Nat → va_W)
    (hJ : ∀ (u : S) (a : Nat) (H1 : Heap), va_P D vwCl (w3 u a) H1 → va_D (va_A wc H.size) (w3 u a) → (∀ q : Nat, q < H.size → ¬ va_A wc H.size q → H1[q]? = H[q]?) → va_P D vwCl (w2 u a) H1 ∧ va_D A (w2 u a))
    (kk : ∀ (u : S) (ra : Nat) (H1 : Heap) (locs1 : List Loc), post u → va_P D vwCl (w2 u ra) H1 → va_D A (w2 u ra) → va_S A H0 H1 locs1 → W p l e R s m args below meth c H1 locs1 (cells + mc) (slots + ms) Q (F0 m (pc + 3) ls (.ref ra :: rest))) : W p l e R s m args below meth c H locs cells slots Q (F0 m pc ls stk) := by
  refine va_callr hr hS (fun q _ h => hFc q h) hFc (fun u ra t H1 locs1 ht hvm hw hB hz hk hS1 => ?_)
  obtain ⟨hP1, hK1, hD1⟩ := hB
  rw [ht] at hP1
  obtain ⟨h1, h2⟩ := hJ u ra H1 hP1 hD1 hk
  exact kk u ra H1 locs1 hw h1 h2 hS1
/-- behind a call over cells that are then given up -/
theorem zdrop {U w : va_W} {H1 : Heap} (hP : va_P D vwCl (U ++ w) H) (hD : va_D A (U ++ w)) (hk : ∀ q : Nat, q < H.size → ¬ va_A w H.size q → H1[q]? = H[q]?) : va_P D vwCl U H1 ∧ va_D A U := by
  have hU : ∀ (k : Nat) (q : Nat × va_E), U[k]? = some q → (U ++ w)[k]? = some q := fun k q h => by
    rw [List.getElem?_append_left (List.getElem?_eq_some_iff.mp h).1]
    exact h
  refine ⟨fun k q h => ?_, hD.by id hU (fun i j _ _ e => e)⟩
  refine (hP k q (hU k q h)).kept (hk q.1 (hP k q (hU k q h)).lt (fun z => ?_))
  rcases z with ⟨j, x, z⟩ | z
  · have h1 : (U ++ w)[U.length + j]? = some (q.1, x) := tl_at z
    have h2 := hD.1 k (U.length + j) q (q.1, x) (hU k q h) h1 rfl
    have h3 := (List.getElem?_eq_some_iff.mp h).1
    omega
  · have := (hP k q (hU k q h)).lt
    omega
end ZCALLS
