theorem bP_01 (p : Prop) : bP p = 0 ∨ bP p = 1 := by
  by_cases h : p
  · exact Or.inr (bP_t h).symm
  · exact Or.inl (bP_f h).symm
theorem med_of {g f : Nat → Int32} {k n : Nat} {sel : Nat → Bool} (h : RowOf g k f sel n) (hk : k ≠ 0) : midRow g k = medF f sel n := by
  rw [← midRow_s hk]
  exact (medF_eq (rowOf_med h (by omega))).symm
theorem winF_eq {va vb a b : Int32} (h : va = vb) : jmin a b = winF va vb a b := by simp [winF, h]
theorem winF_gt {va vb a b : Int32} (h : ¬ va = vb) (h1 : vb < va) : a = winF va vb a b := by simp [winF, h, h1]
theorem winF_lt {va vb a b : Int32} (h : ¬ va = vb) (h1 : ¬ vb < va) : b = winF va vb a b := by simp [winF, h, h1]
theorem rnds_step {fW fR fP : Nat → Int32} {n : Nat} {st : Int32} {f g : Nat → Int32} {i : Nat} (h : EqN n g (rnds fW fR fP n st f i).1) : EqN n (rndF fW fR fP n st g) (rnds fW fR fP n st f (i + 1)).1 := by
  rw [rnds_s]
  exact (turns_congr h n (Nat.le_refl _)).1
theorem jmax_le (a b q : Int32) : jmax a b ≤ q ↔ a ≤ q ∧ b ≤ q := by
  unfold jmax
  split <;> simp only [Int32.le_iff_toInt_le, Int32.lt_iff_toInt_lt] at * <;> omega
theorem jmin_le (a b q : Int32) : jmin a b ≤ q ↔ a ≤ q ∨ b ≤ q := by
  unfold jmin
  split <;> simp only [Int32.le_iff_toInt_le, Int32.lt_iff_toInt_lt] at * <;> omega
theorem cle_upd {f : Nat → Int32} {j : Nat} {x q : Int32} : ∀ n, cle (upd f j x) allS q n = cle f (selX j) q n + (if j < n ∧ x ≤ q then 1 else 0)
  | 0 => by simp [cle]
  | n + 1 => by
    simp only [cle, cle_upd n]
    by_cases h : n = j
    · subst h
      have h1 : upd f n x n = x := pk_us
      rw [h1]
      simp [selX, allS]
    · have h1 : upd f j x n = f n := pk_un h
      rw [h1]
      have h2 : selX j n = true := by simp [selX, h]
      have h3 : allS n = true := rfl
      rw [h2, h3]
      by_cases h4 : j < n
      · have h5 : j < n + 1 := by omega
        simp only [h4, h5]
        omega
      · have h5 : ¬ j < n + 1 := by omega
        simp only [h4, h5]
        simp
theorem mw_med {f g : Nat → Int32} {k n j p : Nat} (h : RowOf g k f (selX j) n) (hj : j < n) (hI : ∀ i, i < n → okD 41 (f i)) (hp : p ≤ 40) : mwF g k (nI p) = medF (upd f j (nI p)) allS n := by
  have hk : k = n - 1 := by rw [h.2.1, tot_selX, if_pos hj]
  refine (medF_eq fun q => ?_).symm
  rw [cle_upd n, ← h.2.2 q, tot_all]
  have hx0 : (0 : Int32) ≤ nI p := nI_pos' (by omega)
  have hx1 : nI p ≤ 40 := (nI_leI (a := p) (b := 40) (by omega) (by omega)).mpr hp
  have hq : 0 < cle g allS q k → (0 : Int32) ≤ q := fun z => by
    rw [h.2.2 q] at z
    obtain ⟨i, a, -, b, -⟩ := max_le n z
    obtain ⟨y, hy, e⟩ := hI i a
    rw [e] at b
    exact Int32.le_trans (nI_pos' (by omega)) b
  have hc : cle g allS q k ≤ k := cle_le _ _ _ _
  rw [show (n - 1) / 2 = k / 2 by rw [hk]]
  unfold mwF cutTo
  rw [jmax_le, jmin_le]
  have hjn : (j < n ∧ nI p ≤ q) ↔ nI p ≤ q := ⟨fun z => z.2, fun z => ⟨hj, z⟩⟩
  by_cases hx : nI p ≤ q
  · rw [if_pos (hjn.mpr hx)]
    by_cases a : 0 < k / 2
    · rw [if_pos a]
      have e := srt_cle h.1 (show k / 2 - 1 < k by omega) q
      constructor
      · intro z
        have := e.mp z.1
        omega
      · intro z
        exact ⟨e.mpr (by omega), Or.inl hx⟩
    · rw [if_neg a]
      constructor
      · intro _; omega
      · intro _
        exact ⟨Int32.le_trans hx0 hx, Or.inl hx⟩
  · rw [if_neg (fun z => hx (hjn.mp z))]
    by_cases b : k / 2 < k
    · rw [if_pos b]
      have e2 := srt_cle h.1 b q
      by_cases a : 0 < k / 2
      · rw [if_pos a]
        have e := srt_cle h.1 (show k / 2 - 1 < k by omega) q
        constructor
        · intro z
          have := e2.mp (z.2.resolve_left hx)
          omega
        · intro z
          exact ⟨e.mpr (by omega), Or.inr (e2.mpr (by omega))⟩
      · rw [if_neg a]
        constructor
        · intro z
          have := e2.mp (z.2.resolve_left hx)
          omega
        · intro z
          exact ⟨hq (by omega), Or.inr (e2.mpr (by omega))⟩
    · have hk0 : k = 0 := by omega
      rw [if_neg b]
      constructor
      · intro z
        exact absurd (Int32.le_trans hx1 (z.2.resolve_left hx)) hx
      · intro z
        exact absurd hc (by omega)
/-! ===== the mean, the checksum ===== -/
def sumF (f : Nat → Int32) (n : Nat) : Int32 := foldN (fun i c => c + f i) 0 n
theorem sumF_s (f : Nat → Int32) (i : Nat) : sumF f (i + 1) = sumF f i + f i := rfl
theorem sumF_0 (f : Nat → Int32) : sumF f 0 = 0 := rfl
theorem sumF_le {f : Nat → Int32} : ∀ n, (∀ i, i < n → okD 41 (f i)) → ∃ x, x ≤ 40 * n ∧ sumF f n = nI x
  | 0, _ => ⟨0, Nat.le_refl _, by rw [sumF_0]; rfl⟩
  | n + 1, h => by
    obtain ⟨x, hx, e⟩ := sumF_le n (fun i hi => h i (Nat.lt_succ_of_lt hi))
    obtain ⟨y, hy, e2⟩ := h n (Nat.lt_succ_self n)
    exact ⟨x + y, by omega, by rw [sumF_s, e, e2, nI_add]⟩
set_option maxRecDepth 100000 in
theorem fp_a : ∀ n, n < 13 → ∀ x, x < 481 → n ≠ 0 → FP.ddiv (FP.i2d (nI x)) (FP.i2d (nI n)) &&& 0x7fffffffffffffff ≤ 0x7ff0000000000000 := by decide +kernel
def meanD (f : Nat → Int32) (n : Nat) : UInt64 := if n = 0 then FP.dconst0 else FP.ddiv (FP.i2d (sumF f n)) (FP.i2d (nI n))
theorem mean_n {f : Nat → Int32} {n : Nat} (hn : n ≤ 12) (h0 : n ≠ 0) (h : ∀ i, i < n → okD 41 (f i)) : vf_n64 (FP.ddiv (FP.i2d (sumF f n)) (FP.i2d (nI n))) := by
  obtain ⟨x, hx, e⟩ := sumF_le n h
  rw [e]
  exact fp_a n (by omega) x (by omega) h0
theorem mean_0 {f : Nat → Int32} {n : Nat} (h : n = 0) : FP.dconst0 = meanD f n := by simp [meanD, h]
theorem mean_s {f : Nat → Int32} {n : Nat} (h : n ≠ 0) : FP.ddiv (FP.i2d (sumF f n)) (FP.i2d (nI n)) = meanD f n := by simp [meanD, h]
def foldI (d : Int64) (x : Int32) : Int64 := d * 31 + x.toInt64
/-- the checksum: its head, without and with delegates, and one delegate's part -/
noncomputable def digA (fV fW fR fP fK : Nat → Int32) (n : Nat) (rg st : Int32) : Int64 := foldI (foldI (foldI (foldI (foldI (foldI 1933 (nI n)) rg) st) (wide fK n)) (bP (agreeP fV fK n))) (bP (rndM fW fR fP n st fK = 0))
noncomputable def digB (fW fK : Nat → Int32) (n : Nat) (d : Int64) : Int64 := if n = 0 then d else foldI (foldI (foldI d (midF fK n)) (decF fK n)) (bestPl fW n)
theorem digB_0 {fW fK : Nat → Int32} {n : Nat} {d : Int64} (h : n = 0) : d = digB fW fK n d := by simp [digB, h]
theorem digB_s {fW fK : Nat → Int32} {n : Nat} {d : Int64} (h : n ≠ 0) : foldI (foldI (foldI d (midF fK n)) (decF fK n)) (bestPl fW n) = digB fW fK n d := by simp [digB, h]
noncomputable def digD (fV fW fR fP fK : Nat → Int32) (n j : Nat) (d : Int64) : Int64 := foldI (foldI (foldI (foldI (foldI (foldI (foldI (foldI d (fV j)) (fW j)) (fR j)) (fP j)) (fK j)) (stepC (fW j) (fR j) (fP j) (fK j) (midF fK n))) (bestSt fW fK n j)) (jabs (midF fK n - fW j))
noncomputable def digC (fV fW fR fP fK : Nat → Int32) (n : Nat) (d : Int64) (k : Nat) : Int64 := foldN (fun j z => digD fV fW fR fP fK n j z) d k
theorem digC_s (fV fW fR fP fK : Nat → Int32) (n : Nat) (d : Int64) (k : Nat) : digC fV fW fR fP fK n d (k + 1) = digD fV fW fR fP fK n k (digC fV fW fR fP fK n d k) := rfl
noncomputable def digH (fV fW fR fP fK : Nat → Int32) (n : Nat) (rg st : Int32) : Int64 := foldI (foldI (digB fW fK n (digA fV fW fR fP fK n rg st)) (disAll fW (midF fK n) n)) (untilS fW fR fP n st fK)
noncomputable def digF (fV fW fR fP fK : Nat → Int32) (n : Nat) (rg st : Int32) : Int64 := digC fV fW fR fP fK n (digH fV fW fR fP fK n rg st) n
