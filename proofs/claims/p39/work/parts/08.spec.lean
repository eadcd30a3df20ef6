/-! ===== more of what the methods answer ===== -/
def dN (d : Int32) : Nat := d.toNatClampNeg
theorem dN_nI {j : Nat} (h : j < 2 ^ 31) : dN (nI j) = j := nI_clamp h
/-- this one can be led there -/
def canP (fW fR fK : Nat → Int32) (n : Nat) (st : Int32) (j : Nat) (x : Int32) : Prop := jabs (x - fW j) ≤ fR j ∧ (fK j = x ∨ crowd fK x n < st)
theorem tot_selX {j : Nat} : ∀ n, tot (selX j) n = if j < n then n - 1 else n
  | 0 => by simp [tot]
  | n + 1 => by
    simp only [tot, tot_selX n]
    by_cases h : n = j
    · subst h
      simp [selX]
    · have h1 : selX j n = true := by simp [selX, h]
      rw [if_pos h1]
      by_cases h2 : j < n
      · rw [if_pos h2, if_pos (by omega)]; omega
      · rw [if_neg h2, if_neg (by omega)]
/-- the biggest of those that are r at most -/
theorem max_le {f : Nat → Int32} {sel : Nat → Bool} {r : Int32} : ∀ n, 0 < cle f sel r n → ∃ i, i < n ∧ sel i = true ∧ f i ≤ r ∧ ∀ j, j < n → sel j = true → f j ≤ r → f j ≤ f i
  | 0, h => absurd h (Nat.lt_irrefl _)
  | n + 1, h => by
    by_cases h1 : sel n = true ∧ f n ≤ r
    · by_cases h2 : 0 < cle f sel r n
      · obtain ⟨i, a, b, c, d⟩ := max_le n h2
        rcases Int32.le_total (f n) (f i) with e | e
        · refine ⟨i, by omega, b, c, fun j hj s1 s2 => ?_⟩
          by_cases z : j = n
          · rw [z]; exact e
          · exact d j (by omega) s1 s2
        · refine ⟨n, by omega, h1.1, h1.2, fun j hj s1 s2 => ?_⟩
          by_cases z : j = n
          · rw [z]; exact Int32.le_refl _
          · exact Int32.le_trans (d j (by omega) s1 s2) e
      · refine ⟨n, by omega, h1.1, h1.2, fun j hj s1 s2 => ?_⟩
        by_cases z : j = n
        · rw [z]; exact Int32.le_refl _
        · exfalso
          apply h2
          have h3 : cle f sel r (j + 1) ≤ cle f sel r n := cle_mono f sel r (by omega)
          have h4 : cle f sel r (j + 1) = cle f sel r j + 1 := by simp [cle, s1, s2]
          omega
    · have h2 : 0 < cle f sel r n := by
        simp only [cle] at h
        rw [if_neg h1] at h
        exact h
      obtain ⟨i, a, b, c, d⟩ := max_le n h2
      refine ⟨i, by omega, b, c, fun j hj s1 s2 => ?_⟩
      by_cases z : j = n
      · rw [z] at s1 s2
        exact absurd ⟨s1, s2⟩ h1
      · exact d j (by omega) s1 s2
theorem cle_same {f : Nat → Int32} {sel : Nat → Bool} {q r : Int32} : ∀ n, (∀ j, j < n → sel j = true → (f j ≤ q ↔ f j ≤ r)) → cle f sel q n = cle f sel r n
  | 0, _ => rfl
  | n + 1, h => by
    simp only [cle]
    rw [cle_same n (fun j hj => h j (by omega))]
    by_cases s : sel n = true
    · have := h n (by omega) s
      by_cases z : f n ≤ r
      · rw [if_pos ⟨s, this.mpr z⟩, if_pos ⟨s, z⟩]
      · rw [if_neg (fun y => z (this.mp y.2)), if_neg (fun y => z y.2)]
    · rw [if_neg (fun y => s y.1), if_neg (fun y => s y.1)]
theorem isMed_mem {f : Nat → Int32} {sel : Nat → Bool} {n : Nat} {r : Int32} (h : IsMed f sel n r) : ∃ i, i < n ∧ sel i = true ∧ f i = r := by
  have h1 := (h r).mp (Int32.le_refl _)
  obtain ⟨i, a, b, c, d⟩ := max_le n (show 0 < cle f sel r n by omega)
  have h2 : cle f sel (f i) n = cle f sel r n := cle_same n (fun j hj s => ⟨fun z => Int32.le_trans z c, fun z => d j hj s z⟩)
  have h3 := (h (f i)).mpr (by rw [h2]; exact h1)
  exact ⟨i, a, b, Int32.le_antisymm c h3⟩
/-- the median is there: a row that holds the chosen can be made -/
theorem row_ex (f : Nat → Int32) (sel : Nat → Bool) : ∀ n, ∃ g k, RowOf g k f sel n
  | 0 => ⟨f, 0, rowOf_0 _ _ _⟩
  | n + 1 => by
    obtain ⟨g, k, h⟩ := row_ex f sel n
    cases hs : sel n with
    | false => exact ⟨g, k, rowOf_not h hs⟩
    | true =>
      -- the place: how many of the row are f n at most
      have key : ∃ g', Ins g k (f n) g' := by
        have h1 := h.1
        have hp := cle_le g allS (f n) k
        refine ⟨fun i => if i < cle g allS (f n) k then g i else if i = cle g allS (f n) k then f n else g (i - 1), cle g allS (f n) k, hp, fun i hi => ?_, ?_, fun i a b => ?_, fun i a b => ?_, fun a => ?_⟩
        · simp only [if_pos hi]
        · simp
        · simp only [if_neg (show ¬ i < cle g allS (f n) k by omega), if_neg (show ¬ i = cle g allS (f n) k by omega)]
        · exact Int32.not_le.mp (fun z => absurd ((srt_cle h1 b (f n)).mp z) (by omega))
        · exact (srt_cle h1 (by omega) (f n)).mpr (by omega)
      obtain ⟨g', hg⟩ := key
      exact ⟨g', k + 1, rowOf_put h hs hg⟩
theorem med_is {f : Nat → Int32} {sel : Nat → Bool} {n : Nat} (h : 0 < tot sel n) : IsMed f sel n (medF f sel n) := by
  obtain ⟨g, k, hr⟩ := row_ex f sel n
  have := rowOf_med hr (by rw [hr.2.1]; exact h)
  rw [medF_eq this]
  exact this
theorem mid_is {f : Nat → Int32} {n : Nat} (h : n ≠ 0) : IsMed f allS n (midF f n) := by
  unfold midF
  rw [if_neg h]
  exact med_is (by rw [tot_all]; omega)
/-- the first who stands on the compromise -/
def IsDec (f : Nat → Int32) (n : Nat) (r : Int32) : Prop := ∃ k, k < n ∧ r = nI k ∧ f k = midF f n ∧ ∀ j, j < k → f j ≠ midF f n
theorem isDec_uniq {f : Nat → Int32} {n : Nat} {r r' : Int32} (h : IsDec f n r) (h' : IsDec f n r') : r = r' := by
  obtain ⟨k, a, rfl, b, c⟩ := h
  obtain ⟨k', a', rfl, b', c'⟩ := h'
  rcases Nat.lt_trichotomy k k' with z | z | z
  · exact absurd b (c' k z)
  · rw [z]
  · exact absurd b' (c k' z)
noncomputable def decF (f : Nat → Int32) (n : Nat) : Int32 := @dite _ (∃ r, IsDec f n r) (Classical.propDecidable _) (fun h => h.choose) (fun _ => 0)
theorem decF_eq {f : Nat → Int32} {n : Nat} {r : Int32} (h : IsDec f n r) : r = decF f n := by
  have h1 : ∃ r, IsDec f n r := ⟨r, h⟩
  unfold decF
  rw [dif_pos h1]
  exact isDec_uniq h h1.choose_spec
theorem mid_mem {f : Nat → Int32} {n : Nat} (h : n ≠ 0) : ∃ i, i < n ∧ f i = midF f n := by
  obtain ⟨i, a, -, b⟩ := isMed_mem (mid_is (f := f) h)
  exact ⟨i, a, b⟩
theorem dec_end {f : Nat → Int32} {n k : Nat} (hn : n ≠ 0) (hk : k < n) (h : f k = midF f n ∨ n ≤ k + 1) (hb : ∀ j, j < k → f j ≠ midF f n) : nI k = decF f n := by
  refine decF_eq ⟨k, hk, rfl, ?_, hb⟩
  rcases h with h | h
  · exact h
  · obtain ⟨i, a, b⟩ := mid_mem (f := f) hn
    by_cases z : i = k
    · rw [← z]; exact b
    · exact absurd b (hb i (by omega))
/-- the smallest place where a row is the least -/
def amin (g : Nat → Int32) (k : Nat) : Int32 × Int32 := foldN (fun p q => if g (p + 1) < q.2 then (nI (p + 1), g (p + 1)) else q) (0, g 0) k
theorem amin_lt {g : Nat → Int32} {k : Nat} {b v : Int32} (h : (b, v) = amin g k) (h1 : g (k + 1) < v) : (nI (k + 1), g (k + 1)) = amin g (k + 1) := by
  show _ = (if g (k + 1) < (amin g k).2 then (nI (k + 1), g (k + 1)) else amin g k)
  rw [← h, if_pos h1]
theorem amin_ge {g : Nat → Int32} {k : Nat} {b v : Int32} (h : (b, v) = amin g k) (h1 : ¬ g (k + 1) < v) : (b, v) = amin g (k + 1) := by
  show _ = (if g (k + 1) < (amin g k).2 then (nI (k + 1), g (k + 1)) else amin g k)
  rw [← h, if_neg h1]
def bestPl (fW : Nat → Int32) (n : Nat) : Int32 := (amin (fun p => disAll fW (nI p) n) 40).1
def winF (va vb a b : Int32) : Int32 := if va = vb then jmin a b else if vb < va then a else b
/-- equal for the first n -/
def EqN (n : Nat) (f g : Nat → Int32) : Prop := ∀ i, i < n → f i = g i
theorem crowd_congr {f g : Nat → Int32} {x : Int32} : ∀ {n : Nat}, EqN n f g → crowd f x n = crowd g x n
  | 0, _ => rfl
  | n + 1, h => by
    rw [crowd_s, crowd_s, crowd_congr (fun i hi => h i (Nat.lt_succ_of_lt hi)), h n (Nat.lt_succ_self n)]
theorem isMed_congr {f g : Nat → Int32} {sel : Nat → Bool} {n : Nat} {r : Int32} (h : EqN n f g) (hm : IsMed f sel n r) : IsMed g sel n r := fun q => by
  rw [hm q, cle_congr n h]
theorem medF_congr {f g : Nat → Int32} {sel : Nat → Bool} {n : Nat} (h : EqN n f g) : medF f sel n = medF g sel n := by
  by_cases h0 : 0 < tot sel n
  · exact (medF_eq (isMed_congr (fun i hi => (h i hi).symm) (med_is h0)))
  · unfold medF
    have e : (∃ r, IsMed f sel n r) = (∃ r, IsMed g sel n r) := by
      apply propext
      constructor
      · rintro ⟨r, hr⟩; exact ⟨r, isMed_congr h hr⟩
      · rintro ⟨r, hr⟩; exact ⟨r, isMed_congr (fun i hi => (h i hi).symm) hr⟩
    by_cases hx : ∃ r, IsMed f sel n r
    · have hy : ∃ r, IsMed g sel n r := e ▸ hx
      rw [dif_pos hx, dif_pos hy]
      exact isMed_uniq hx.choose_spec (isMed_congr (fun i hi => (h i hi).symm) hy.choose_spec)
    · have hy : ¬ ∃ r, IsMed g sel n r := e ▸ hx
      rw [dif_neg hx, dif_neg hy]
theorem midF_congr {f g : Nat → Int32} {n : Nat} (h : EqN n f g) : midF f n = midF g n := by
  unfold midF
  rw [medF_congr h]
theorem turns_0 (fW fR fP : Nat → Int32) (n : Nat) (st : Int32) (f : Nat → Int32) : turns fW fR fP n st f 0 = (f, 0) := rfl
theorem rnds_0 (fW fR fP : Nat → Int32) (n : Nat) (st : Int32) (f : Nat → Int32) : rnds fW fR fP n st f 0 = (f, 0) := rfl
theorem loEnd_0 (f : Nat → Int32) (a : Int32) : loEnd f a 0 = a := rfl
theorem hiEnd_0 (f : Nat → Int32) : hiEnd f 0 = 0 := rfl
theorem turns_congr {fW fR fP : Nat → Int32} {n : Nat} {st : Int32} {f g : Nat → Int32} (h : EqN n f g) : ∀ k, k ≤ n → EqN n (turns fW fR fP n st f k).1 (turns fW fR fP n st g k).1 ∧ (turns fW fR fP n st f k).2 = (turns fW fR fP n st g k).2
  | 0, _ => by rw [turns_0, turns_0]; exact ⟨h, rfl⟩
  | k + 1, hk => by
    obtain ⟨h1, h2⟩ := turns_congr (fW := fW) (fR := fR) (fP := fP) (st := st) h k (by omega)
    rw [turns_s, turns_s, midF_congr h]
    generalize turns fW fR fP n st f k = a at h1 h2 ⊢
    generalize turns fW fR fP n st g k = b at h1 h2 ⊢
    unfold turnF
    rw [h1 k (by omega), crowd_congr h1]
    by_cases c : stepC (fW k) (fR k) (fP k) (b.1 k) (midF g n) ≠ b.1 k ∧ crowd b.1 (stepC (fW k) (fR k) (fP k) (b.1 k) (midF g n)) n < st
    · rw [if_pos c, if_pos c]
      refine ⟨fun i hi => ?_, by rw [h2]⟩
      simp only [upd]
      rw [h1 i hi]
    · rw [if_neg c, if_neg c]
      exact ⟨h1, h2⟩
theorem rnds_congr {fW fR fP : Nat → Int32} {n : Nat} {st : Int32} {f g : Nat → Int32} (h : EqN n f g) : ∀ k, EqN n (rnds fW fR fP n st f k).1 (rnds fW fR fP n st g k).1 ∧ (rnds fW fR fP n st f k).2 = (rnds fW fR fP n st g k).2
  | 0 => by rw [rnds_0, rnds_0]; exact ⟨h, rfl⟩
  | k + 1 => by
    obtain ⟨h1, h2⟩ := rnds_congr (fW := fW) (fR := fR) (fP := fP) (st := st) h k
    have h3 := turns_congr (fW := fW) (fR := fR) (fP := fP) (st := st) h1 n (Nat.le_refl _)
    rw [rnds_s, rnds_s]
    refine ⟨h3.1, ?_⟩
    show _ + _ = _ + _
    rw [h2]
    exact congrArg (fun z => (rnds fW fR fP n st g k).2 + z) h3.2
theorem rndM_congr {fW fR fP : Nat → Int32} {n : Nat} {st : Int32} {f g : Nat → Int32} (h : EqN n f g) : rndM fW fR fP n st f = rndM fW fR fP n st g := (turns_congr h n (Nat.le_refl _)).2
theorem copyF_eq (f g : Nat → Int32) (n : Nat) : EqN n (copyF f g n) f := fun i hi => by simp [copyF, hi]
theorem end_congr {f g : Nat → Int32} (a : Int32) (n : Nat) (h : EqN n f g) : loEnd f a n = loEnd g a n ∧ hiEnd f n = hiEnd g n := by
  induction n with
  | zero => rw [loEnd_0, loEnd_0, hiEnd_0, hiEnd_0]; exact ⟨rfl, rfl⟩
  | succ n ih =>
    obtain ⟨h1, h2⟩ := ih (fun i hi => h i (Nat.lt_succ_of_lt hi))
    rw [loEnd_s, loEnd_s, hiEnd_s, hiEnd_s, h1, h2, h n (Nat.lt_succ_self n)]
    exact ⟨rfl, rfl⟩
theorem wide_congr {f g : Nat → Int32} {n : Nat} (h : EqN n f g) : wide f n = wide g n := by
  unfold wide
  rw [(end_congr 40 n h).1, (end_congr 40 n h).2]
theorem agree_congr {fV f g : Nat → Int32} {n : Nat} (h : EqN n f g) : agreeP fV f n ↔ agreeP fV g n := by
  unfold agreeP
  rw [wide_congr h]
/-- the first of 0 to 100 for which something holds, -1 without any -/
def IsFst (P : Nat → Prop) (r : Int32) : Prop := (∃ k, k ≤ 100 ∧ r = nI k ∧ P k ∧ ∀ j, j < k → ¬ P j) ∨ (r = -1 ∧ ∀ k, k ≤ 100 → ¬ P k)
theorem isFst_uniq {P P' : Nat → Prop} (hPP : ∀ k, P k ↔ P' k) {r r' : Int32} (h : IsFst P r) (h' : IsFst P' r') : r = r' := by
  rcases h with ⟨k, a, rfl, b, c⟩ | ⟨rfl, c⟩ <;> rcases h' with ⟨k', a', rfl, b', c'⟩ | ⟨rfl, c'⟩
  · rcases Nat.lt_trichotomy k k' with z | z | z
    · exact absurd ((hPP k).mp b) (c' k z)
    · rw [z]
    · exact absurd ((hPP k').mpr b') (c k' z)
  · exact absurd ((hPP k).mp b) (c' k a)
  · exact absurd ((hPP k').mpr b') (c k' a')
  · rfl
noncomputable def fstF (P : Nat → Prop) : Int32 := @dite _ (∃ r, IsFst P r) (Classical.propDecidable _) (fun h => h.choose) (fun _ => 0)
theorem fstF_eq {P P' : Nat → Prop} (hPP : ∀ k, P' k ↔ P k) {r : Int32} (h : IsFst P' r) : r = fstF P := by
  have h0 : IsFst P r := by
    have e : P' = P := funext fun k => propext (hPP k)
    rw [← e]; exact h
  have h1 : ∃ r, IsFst P r := ⟨r, h0⟩
  unfold fstF
  rw [dif_pos h1]
  exact isFst_uniq (fun _ => Iff.rfl) h0 h1.choose_spec
noncomputable def untilT (fV fW fR fP : Nat → Int32) (n : Nat) (st : Int32) (f : Nat → Int32) : Int32 := fstF (fun k => agreeP fV (rnds fW fR fP n st f k).1 n)
noncomputable def untilS (fW fR fP : Nat → Int32) (n : Nat) (st : Int32) (f : Nat → Int32) : Int32 := fstF (fun k => rndM fW fR fP n st (rnds fW fR fP n st f k).1 = 0)
noncomputable def bestSt (fW fK : Nat → Int32) (n j : Nat) : Int32 := (amin (fun p => jabs (medF (upd fK j (nI p)) allS n - fW j)) 40).1
