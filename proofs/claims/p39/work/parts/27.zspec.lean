/-! ===== the best plank, the decisive one ===== -/
/-- the smallest of the planks from q on with which a row is the least -/
def BestD (g : Nat → Int32) (q : Nat) (b : Int32) : Prop := ∃ m, m ≤ 40 ∧ b = nI m ∧ ∀ p, q ≤ p → p ≤ 40 → g m ≤ g p ∧ (g p ≤ g m → m ≤ p)
theorem bestD_0 (g : Nat → Int32) : BestD g 41 40 := ⟨40, Nat.le_refl _, rfl, fun p a b => absurd a (by omega)⟩
theorem bestD_le {g : Nat → Int32} {q m : Nat} {b x : Int32} (h : BestD g q b) (hq : 0 < q) (hq2 : q ≤ 41) (hx : x = g (q - 1)) (hm : b = nI m) (hm2 : m ≤ 40) (hc : ¬ g m < x) : BestD g (q - 1) (nI (q - 1)) := by
  obtain ⟨m', a, b', c⟩ := h
  have e : m' = m := (nI_eq (by omega) (by omega)).mp (b'.symm.trans hm)
  subst e
  subst hx
  have h1 : g (q - 1) ≤ g m' := Int32.not_lt.mp hc
  refine ⟨q - 1, by omega, rfl, fun p z1 z2 => ?_⟩
  by_cases y : p = q - 1
  · subst y
    exact ⟨Int32.le_refl _, fun _ => Nat.le_refl _⟩
  · exact ⟨Int32.le_trans h1 (c p (by omega) z2).1, fun _ => by omega⟩
theorem bestD_gt {g : Nat → Int32} {q m : Nat} {b x : Int32} (h : BestD g q b) (hq : 0 < q) (hx : x = g (q - 1)) (hm : b = nI m) (hm2 : m ≤ 40) (hc : g m < x) : BestD g (q - 1) b := by
  obtain ⟨m', a, b', c⟩ := h
  have e : m' = m := (nI_eq (by omega) (by omega)).mp (b'.symm.trans hm)
  subst e
  subst hx
  refine ⟨m', a, b', fun p z1 z2 => ?_⟩
  by_cases y : p = q - 1
  · subst y
    exact ⟨Int32.le_of_lt hc, fun z => absurd hc (Int32.not_lt.mpr z)⟩
  · exact c p (by omega) z2
theorem amin_is (g : Nat → Int32) : ∀ k, ∃ m, m ≤ k ∧ amin g k = (nI m, g m) ∧ ∀ p, p ≤ k → g m ≤ g p ∧ (g p ≤ g m → m ≤ p)
  | 0 => ⟨0, Nat.le_refl _, rfl, fun p h => by rw [Nat.le_zero.mp h]; exact ⟨Int32.le_refl _, fun _ => Nat.le_refl _⟩⟩
  | k + 1 => by
    obtain ⟨m, a, b, c⟩ := amin_is g k
    have e : amin g (k + 1) = (if g (k + 1) < (amin g k).2 then (nI (k + 1), g (k + 1)) else amin g k) := rfl
    rw [e, b]
    by_cases h : g (k + 1) < g m
    · refine ⟨k + 1, Nat.le_refl _, if_pos h, fun p hp => ?_⟩
      by_cases y : p = k + 1
      · subst y
        exact ⟨Int32.le_refl _, fun _ => Nat.le_refl _⟩
      · have := c p (by omega)
        exact ⟨Int32.le_of_lt (Int32.lt_of_lt_of_le h this.1), fun z => absurd (Int32.lt_of_lt_of_le h this.1) (Int32.not_lt.mpr z)⟩
    · refine ⟨m, by omega, if_neg h, fun p hp => ?_⟩
      by_cases y : p = k + 1
      · subst y
        exact ⟨Int32.not_lt.mp h, fun _ => by omega⟩
      · exact c p (by omega)
theorem best_is (fW : Nat → Int32) (n : Nat) : BestD (fun p => disAll fW (nI p) n) 0 (bestPl fW n) := by
  obtain ⟨m, a, b, c⟩ := amin_is (fun p => disAll fW (nI p) n) 40
  refine ⟨m, a, ?_, fun p _ h => c p h⟩
  show (amin (fun p => disAll fW (nI p) n) 40).1 = nI m
  rw [b]
theorem bestD_end {fW : Nat → Int32} {n q : Nat} {b : Int32} (h : BestD (fun p => disAll fW (nI p) n) q b) (hq : q = 0) : bestPl fW n = b := by
  subst hq
  obtain ⟨m, a, rfl, c⟩ := h
  obtain ⟨m', a', e, c'⟩ := best_is fW n
  rw [e]
  have h1 := c m' (Nat.zero_le _) a'
  have h2 := c' m (Nat.zero_le _) a
  have : m = m' := Nat.le_antisymm (h1.2 h2.1) (h2.2 h1.1)
  rw [this]
theorem pl_lo {pl : Int32} {q : Nat} (h : pl = nI q - 1) (hq : q ≤ 41) (hc : pl < 0) : q = 0 := nn fun z => by
  rw [h, nI_m1 (by omega)] at hc
  exact nI_pos (by omega) hc
theorem pl_hi {pl : Int32} {q : Nat} (h : pl = nI q - 1) (hc : ¬ pl < 0) : 0 < q := Nat.pos_of_ne_zero fun z => hc (by rw [h, z]; decide)
theorem nI_dec (x : Int32) : x + Int32.ofInt (-1) = x - 1 := by
  rw [Int32.sub_eq_add_neg]
  congr 1
theorem dec_next {f : Nat → Int32} {n i : Nat} (h : n ≠ 0) (hi : ¬ f i = midF f n) (hf : ∀ j, j < i → f j ≠ midF f n) (hl : i < n) : i + 1 < n := by
  obtain ⟨k, a, b⟩ := mid_mem (f := f) h
  have h1 : ¬ k < i := fun z => hf k z b
  have h2 : k ≠ i := fun z => hi (by rw [← z]; exact b)
  omega
theorem dec_is {f : Nat → Int32} {n i : Nat} (hi : i < n) (h : f i = midF f n) (hf : ∀ j, j < i → f j ≠ midF f n) : decF f n = nI i := (decF_eq ⟨i, hi, rfl, h, hf⟩).symm
theorem disAll_z {fW : Nat → Int32} {x : Int32} {n : Nat} (h : n = 0) : disAll fW x n = 0 := by
  subst h
  rfl
