theorem bP_01 (p : Prop) : bP p = 0 ∨ bP p = 1 := by
  by_cases h : p
  · exact Or.inr (bP_t h).symm
  · exact Or.inl (bP_f h).symm
theorem med_of {g f : Nat → Int32} {k n : Nat} {sel : Nat → Bool} (h : RowOf g k f sel n) (hk : k ≠ 0) : midRow g k = medF f sel n := by
  rw [← midRow_s hk]
  exact (medF_eq (rowOf_med h (by omega))).symm
theorem winF_eq {va vb a b : Int32} (h : va = vb) : jmin a b = winF va vb a b := by simp [winF, h]
theorem winF_gt {va vb a b : Int32} (h : ¬ va = vb) (h1 : vb < va) : a = winF va vb a b := by simp [winF, h, h1]
theorem winF_lt {va vb a b : Int32} (h : ¬ va = vb) (h1 : ¬ vb < va) : b = winF va vb a b := by simp [winF, h, h1]
theorem rnds_step {fW fR fP : Nat → Int32} {n : Nat} {st : Int32} {f g : Nat → Int32} {i : Nat} (h : EqN n g (rnds fW fR fP n st f i).1) : EqN n (rndF fW fR fP n st g) (rnds fW fR fP n st f (i + 1)).1 := by
  rw [rnds_s]
  exact (turns_congr h n (Nat.le_refl _)).1
theorem jmax_le (a b q : Int32) : jmax a b ≤ q ↔ a ≤ q ∧ b ≤ q := by
  unfold jmax
  split <;> simp only [Int32.le_iff_toInt_le, Int32.lt_iff_toInt_lt] at * <;> omega
theorem jmin_le (a b q : Int32) : jmin a b ≤ q ↔ a ≤ q ∨ b ≤ q := by
  unfold jmin
  split <;> simp only [Int32.le_iff_toInt_le, Int32.lt_iff_toInt_lt] at * <;> omega
theorem cle_upd {f : Nat → Int32} {j : Nat} {x q : Int32} : ∀ n, cle (upd f j x) allS q n = cle f (selX j) q n + (if j < n ∧ x ≤ q then 1 else 0)
  | 0 => by simp [cle]
  | n + 1 => by
    simp only [cle, cle_upd n]
    by_cases h : n = j
    · subst h
      have h1 : upd f n x n = x := pk_us
      rw [h1]
      simp [selX, allS]
    · have h1 : upd f j x n = f n := pk_un h
      rw [h1]
      have h2 : selX j n = true := by simp [selX, h]
      have h3 : allS n = true := rfl
      rw [h2, h3]
      by_cases h4 : j < n
      · have h5 : j < n + 1 := by omega
        simp only [h4, h5]
        omega
      · have h5 : ¬ j < n + 1 := by omega
        simp only [h4, h5]
        simp
theorem mw_med {f g : Nat → Int32} {k n j p : Nat} (h : RowOf g k f (selX j) n) (hj : j < n) (hI : ∀ i, i < n → okD 41 (f i)) (hp : p ≤ 40) : mwF g k (nI p) = medF (upd f j (nI p)) allS n := by
  have hk : k = n - 1 := by rw [h.2.1, tot_selX, if_pos hj]
  refine (medF_eq fun q => ?_).symm
  rw [cle_upd n, ← h.2.2 q, tot_all]
  have hx0 : (0 : Int32) ≤ nI p := nI_pos' (by omega)
  have hx1 : nI p ≤ 40 := (nI_leI (a := p) (b := 40) (by omega) (by omega)).mpr hp
  have hq : 0 < cle g allS q k → (0 : Int32) ≤ q := fun z => by
    rw [h.2.2 q] at z
    obtain ⟨i, a, -, b, -⟩ := max_le n z
    obtain ⟨y, hy, e⟩ := hI i a
    rw [e] at b
    exact Int32.le_trans (nI_pos' (by omega)) b
  have hc : cle g allS q k ≤ k := cle_le _ _ _ _
  rw [show (n - 1) / 2 = k / 2 by rw [hk]]
  unfold mwF cutTo
  rw [jmax_le, jmin_le]
  have hjn : (j < n ∧ nI p ≤ q) ↔ nI p ≤ q := ⟨fun z => z.2, fun z => ⟨hj, z⟩⟩
  by_cases hx : nI p ≤ q
  · rw [if_pos (hjn.mpr hx)]
    by_cases a : 0 < k / 2
    · rw [if_pos a]
      have e := srt_cle h.1 (show k / 2 - 1 < k by omega) q
      constructor
      · intro z
        have := e.mp z.1
        omega
      · intro z
        exact ⟨e.mpr (by omega), Or.inl hx⟩
    · rw [if_neg a]
      constructor
      · intro _; omega
      · intro _
        exact ⟨Int32.le_trans hx0 hx, Or.inl hx⟩
  · rw [if_neg (fun z => hx (hjn.mp z))]
    by_cases b : k / 2 < k
    · rw [if_pos b]
      have e2 := srt_cle h.1 b q
      by_cases a : 0 < k / 2
      · rw [if_pos a]
        have e := srt_cle h.1 (show k / 2 - 1 < k by omega) q
        constructor
        · intro z
          have := e2.mp (z.2.resolve_left hx)
          omega
        · intro z
          exact ⟨e.mpr (by omega), Or.inr (e2.mpr (by omega))⟩
      · rw [if_neg a]
        constructor
        · intro z
          have := e2.mp (z.2.resolve_left hx)
          omega
        · intro z
          exact ⟨hq (by omega), Or.inr (e2.mpr (by omega))⟩
    · have hk0 : k = 0 := by omega
      rw [if_neg b]
      constructor
      · intro z
        exact absurd (Int32.le_trans hx1 (z.2.resolve_left hx)) hx
      · intro z
        exact absurd hc (by omega)
