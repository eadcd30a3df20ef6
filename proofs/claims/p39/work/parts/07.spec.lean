/-! ===== plain mathematics of what the methods answer ===== -/
def jabs (x : Int32) : Int32 := if 0 ≤ x then x else 0 - x
def jmax (x y : Int32) : Int32 := if x < y then y else x
def jmin (x y : Int32) : Int32 := if y < x then y else x
def cutTo (x lo hi : Int32) : Int32 := jmax lo (jmin x hi)
def b2i (b : Bool) : Int32 := if b then 1 else 0
theorem b2i_t {p : Prop} (d : Decidable p) (h : p) : (1 : Int32) = b2i (@decide p d) := by simp [b2i, h]
theorem b2i_f {p : Prop} (d : Decidable p) (h : ¬ p) : (0 : Int32) = b2i (@decide p d) := by simp [b2i, h]
theorem b2i_ne {p : Prop} {d : Decidable p} (h : ¬ b2i (@decide p d) = 0) : p := by
  by_cases hp : p
  · exact hp
  · simp [b2i, hp] at h
theorem b2i_eq {p : Prop} {d : Decidable p} (h : b2i (@decide p d) = 0) : ¬ p := by
  intro hp
  simp [b2i, hp] at h
theorem nI_m1 {k : Nat} (h : 0 < k) : nI k - 1 = nI (k - 1) := by
  obtain ⟨j, rfl⟩ : ∃ j, k = j + 1 := ⟨k - 1, by omega⟩
  rw [nI_pred]; rfl
theorem nI_inc_m1 {k : Nat} (h : 0 < k) : nI k + Int32.ofInt (-1) = nI (k - 1) := by
  rw [← nI_m1 h]
  rw [Int32.sub_eq_add_neg]
  congr 1
theorem nI_div2 : ∀ k, k < 50 → nI k / 2 = nI (k / 2) := by decide +kernel
def foldN {α : Type} (f : Nat → α → α) (a : α) : Nat → α
  | 0 => a
  | i + 1 => f i (foldN f a i)
/-- how many of the first n stand on p -/
def crowd (f : Nat → Int32) (p : Int32) (n : Nat) : Int32 := foldN (fun i c => if f i = p then c + 1 else c) 0 n
theorem crowd_s (f : Nat → Int32) (p : Int32) (i : Nat) : crowd f p (i + 1) = if f i = p then crowd f p i + 1 else crowd f p i := rfl
/-- the two ends of where the first n stand -/
def loEnd (f : Nat → Int32) (a : Int32) (n : Nat) : Int32 := foldN (fun i c => jmin c (f i)) a n
def hiEnd (f : Nat → Int32) (n : Nat) : Int32 := foldN (fun i c => jmax c (f i)) 0 n
theorem loEnd_s (f : Nat → Int32) (a : Int32) (i : Nat) : loEnd f a (i + 1) = jmin (loEnd f a i) (f i) := rfl
theorem hiEnd_s (f : Nat → Int32) (i : Nat) : hiEnd f (i + 1) = jmax (hiEnd f i) (f i) := rfl
def wide (f : Nat → Int32) (n : Nat) : Int32 := jmax 0 (hiEnd f n - loEnd f 40 n)
/-- two of the first n are of two villages -/
def twoV (f : Nat → Int32) (n : Nat) : Prop := ∃ i, 1 ≤ i ∧ i < n ∧ f i ≠ f (i - 1)
def agreeP (fV f : Nat → Int32) (n : Nat) : Prop := twoV fV n ∧ wide f n ≤ 2
noncomputable def bP (p : Prop) : Int32 := @ite _ p (Classical.propDecidable p) 1 0
theorem bP_t {p : Prop} (h : p) : (1 : Int32) = bP p := by simp [bP, h]
theorem bP_f {p : Prop} (h : ¬ p) : (0 : Int32) = bP p := by simp [bP, h]
theorem bP_ne {p : Prop} (h : ¬ bP p = 0) : p := by
  by_cases hp : p
  · exact hp
  · simp [bP, hp] at h
theorem bP_eq {p : Prop} (h : bP p = 0) : ¬ p := by
  intro hp
  simp [bP, hp] at h
/-- discontents added; votes -/
def disAll (fW : Nat → Int32) (p : Int32) (n : Nat) : Int32 := foldN (fun i c => c + jabs (p - fW i)) 0 n
theorem disAll_s (fW : Nat → Int32) (p : Int32) (i : Nat) : disAll fW p (i + 1) = disAll fW p i + jabs (p - fW i) := rfl
def votes (fW : Nat → Int32) (p q : Int32) (n : Nat) : Int32 := foldN (fun i c => if jabs (p - fW i) < jabs (q - fW i) then c + 1 else c) 0 n
theorem votes_s (fW : Nat → Int32) (p q : Int32) (i : Nat) : votes fW p q (i + 1) = if jabs (p - fW i) < jabs (q - fW i) then votes fW p q i + 1 else votes fW p q i := rfl
/-- a gap closed in a row of n -/
def closeF (f : Nat → Int32) (g n : Nat) : Nat → Int32 := fun i => if g ≤ i ∧ i < n - 1 then f (i + 1) else f i
/-- the first n taken over -/
def copyF (f g : Nat → Int32) (n : Nat) : Nat → Int32 := fun i => if i < n then f i else g i
/-- sorted rows -/
def Srt (f : Nat → Int32) (n : Nat) : Prop := ∀ i j, i ≤ j → j < n → f i ≤ f j
/-- how many of the chosen of the first n stand at q or below; how many are chosen -/
def cle (f : Nat → Int32) (sel : Nat → Bool) (q : Int32) : Nat → Nat
  | 0 => 0
  | i + 1 => cle f sel q i + (if sel i = true ∧ f i ≤ q then 1 else 0)
def tot (sel : Nat → Bool) : Nat → Nat
  | 0 => 0
  | i + 1 => tot sel i + (if sel i = true then 1 else 0)
def allS : Nat → Bool := fun _ => true
/-- a row put in, place by place -/
def Ins (f : Nat → Int32) (n : Nat) (x : Int32) (g : Nat → Int32) : Prop :=
  ∃ p, p ≤ n ∧ (∀ i, i < p → g i = f i) ∧ g p = x ∧ (∀ i, p < i → i ≤ n → g i = f (i - 1)) ∧ (∀ i, p ≤ i → i < n → x < f i) ∧ (0 < p → f (p - 1) ≤ x)
theorem tot_le (sel : Nat → Bool) : ∀ n, tot sel n ≤ n
  | 0 => Nat.le_refl _
  | n + 1 => by
    have := tot_le sel n
    simp only [tot]
    split <;> omega
theorem tot_all : ∀ n, tot allS n = n
  | 0 => rfl
  | n + 1 => by simp [tot, tot_all n, allS]
theorem cle_congr {f g : Nat → Int32} {sel : Nat → Bool} {q : Int32} : ∀ n, (∀ i, i < n → f i = g i) → cle f sel q n = cle g sel q n
  | 0, _ => rfl
  | n + 1, h => by
    simp only [cle]
    rw [cle_congr n (fun i hi => h i (Nat.lt_succ_of_lt hi)), h n (Nat.lt_succ_self n)]
theorem cle_le (f : Nat → Int32) (sel : Nat → Bool) (q : Int32) : ∀ n, cle f sel q n ≤ n
  | 0 => Nat.le_refl _
  | n + 1 => by
    have := cle_le f sel q n
    simp only [cle]
    split <;> omega
theorem cle_mono (f : Nat → Int32) (sel : Nat → Bool) (q : Int32) {a b : Nat} (h : a ≤ b) : cle f sel q a ≤ cle f sel q b := by
  induction b with
  | zero => rw [Nat.le_zero.mp h]; exact Nat.le_refl _
  | succ b ih =>
    rcases Nat.lt_or_ge a (b + 1) with h1 | h1
    · exact Nat.le_trans (ih (by omega)) (by simp only [cle]; omega)
    · rw [show a = b + 1 by omega]; exact Nat.le_refl _
theorem cle_all (f : Nat → Int32) (q : Int32) : ∀ n, (∀ i, i < n → f i ≤ q) → cle f allS q n = n
  | 0, _ => rfl
  | n + 1, h => by
    simp only [cle]
    rw [cle_all f q n (fun i hi => h i (Nat.lt_succ_of_lt hi)), if_pos ⟨rfl, h n (Nat.lt_succ_self n)⟩]
theorem cle_none (f : Nat → Int32) (sel : Nat → Bool) (q : Int32) {a : Nat} : ∀ n, a ≤ n → (∀ i, a ≤ i → i < n → ¬ f i ≤ q) → cle f sel q n = cle f sel q a
  | 0, h, _ => by rw [Nat.le_zero.mp h]
  | n + 1, h, h1 => by
    rcases Nat.lt_or_ge a (n + 1) with h2 | h2
    · simp only [cle]
      rw [cle_none f sel q n (by omega) (fun i h3 h4 => h1 i h3 (by omega)), if_neg (fun z => h1 n (by omega) (by omega) z.2)]
      rfl
    · rw [show a = n + 1 by omega]
theorem ins_srt {f g : Nat → Int32} {n : Nat} {x : Int32} (hs : Srt f n) (h : Ins f n x g) : Srt g (n + 1) := by
  obtain ⟨p, hp, h1, h2, h3, h4, h5⟩ := h
  intro i j hij hj
  rcases Nat.lt_trichotomy i p with a | a | a <;> rcases Nat.lt_trichotomy j p with b | b | b
  · rw [h1 i a, h1 j b]; exact hs i j hij (by omega)
  · subst b
    rw [h1 i a, h2]
    exact Int32.le_trans (hs i (j - 1) (by omega) (by omega)) (h5 (by omega))
  · rw [h1 i a, h3 j b (by omega)]; exact hs i (j - 1) (by omega) (by omega)
  · omega
  · rw [a, b]; exact Int32.le_refl _
  · subst a
    rw [h2, h3 j b (by omega)]
    exact Int32.le_of_lt (h4 (j - 1) (by omega) (by omega))
  · omega
  · omega
  · rw [h3 i a (by omega), h3 j b (by omega)]; exact hs (i - 1) (j - 1) (by omega) (by omega)
theorem ins_cle {f g : Nat → Int32} {n : Nat} {x : Int32} (h : Ins f n x g) (q : Int32) : cle g allS q (n + 1) = cle f allS q n + (if x ≤ q then 1 else 0) := by
  obtain ⟨p, hp, h1, h2, h3, -, -⟩ := h
  have key : ∀ j, p + j ≤ n → cle g allS q (p + 1 + j) = cle f allS q (p + j) + (if x ≤ q then 1 else 0) := by
    intro j
    induction j with
    | zero =>
      intro _
      show cle g allS q p + (if allS p = true ∧ g p ≤ q then 1 else 0) = cle f allS q p + (if x ≤ q then 1 else 0)
      rw [cle_congr p h1, h2]
      simp [allS]
    | succ j ih =>
      intro hj
      show cle g allS q (p + 1 + j) + (if allS (p + 1 + j) = true ∧ g (p + 1 + j) ≤ q then 1 else 0) = cle f allS q (p + j) + (if allS (p + j) = true ∧ f (p + j) ≤ q then 1 else 0) + (if x ≤ q then 1 else 0)
      rw [ih (by omega), h3 (p + 1 + j) (by omega) (by omega), show p + 1 + j - 1 = p + j by omega]
      simp only [allS]
      omega
  have := key (n - p) (by omega)
  rw [show p + 1 + (n - p) = n + 1 by omega, show p + (n - p) = n by omega] at this
  exact this
theorem srt_cle {g : Nat → Int32} {k j : Nat} (hs : Srt g k) (hj : j < k) (q : Int32) : g j ≤ q ↔ j < cle g allS q k := by
  constructor
  · intro h
    have h1 : cle g allS q (j + 1) = j + 1 := cle_all g q (j + 1) (fun i hi => Int32.le_trans (hs i j (by omega) hj) h)
    have h2 := cle_mono g allS q (show j + 1 ≤ k by omega)
    omega
  · intro h
    by_cases h0 : g j ≤ q
    · exact h0
    · have h1 := cle_none g allS q k (show j ≤ k by omega) (fun i h3 h4 z => h0 (Int32.le_trans (hs j i h3 h4) z))
      have h2 := cle_le g allS q j
      omega
/-- the median of the chosen of the first n -/
def IsMed (f : Nat → Int32) (sel : Nat → Bool) (n : Nat) (r : Int32) : Prop := ∀ q : Int32, r ≤ q ↔ (tot sel n - 1) / 2 < cle f sel q n
theorem isMed_uniq {f : Nat → Int32} {sel : Nat → Bool} {n : Nat} {r r' : Int32} (h : IsMed f sel n r) (h' : IsMed f sel n r') : r = r' :=
  Int32.le_antisymm ((h r').mpr ((h' r').mp (Int32.le_refl _))) ((h' r).mpr ((h r).mp (Int32.le_refl _)))
noncomputable def medF (f : Nat → Int32) (sel : Nat → Bool) (n : Nat) : Int32 := @dite _ (∃ r, IsMed f sel n r) (Classical.propDecidable _) (fun h => h.choose) (fun _ => 0)
theorem medF_eq {f : Nat → Int32} {sel : Nat → Bool} {n : Nat} {r : Int32} (h : IsMed f sel n r) : medF f sel n = r := by
  have h1 : ∃ r, IsMed f sel n r := ⟨r, h⟩
  unfold medF
  rw [dif_pos h1]
  exact isMed_uniq h1.choose_spec h
/-- a row that holds the chosen: sorted, as many, as many at each plank or below -/
def RowOf (g : Nat → Int32) (k : Nat) (f : Nat → Int32) (sel : Nat → Bool) (n : Nat) : Prop := Srt g k ∧ k = tot sel n ∧ ∀ q : Int32, cle g allS q k = cle f sel q n
theorem rowOf_0 (g f : Nat → Int32) (sel : Nat → Bool) : RowOf g 0 f sel 0 := ⟨fun i j _ h => absurd h (Nat.not_lt_zero _), rfl, fun _ => rfl⟩
theorem rowOf_put {g g' f : Nat → Int32} {k n : Nat} {sel : Nat → Bool} (h : RowOf g k f sel n) (hs : sel n = true) (hi : Ins g k (f n) g') : RowOf g' (k + 1) f sel (n + 1) := by
  refine ⟨ins_srt h.1 hi, by simp [tot, hs, h.2.1], fun q => ?_⟩
  rw [ins_cle hi q, h.2.2 q]
  simp [cle, hs]
theorem rowOf_not {g f : Nat → Int32} {k n : Nat} {sel : Nat → Bool} (h : RowOf g k f sel n) (hs : sel n = false) : RowOf g k f sel (n + 1) := by
  refine ⟨h.1, by simp [tot, hs, h.2.1], fun q => ?_⟩
  rw [h.2.2 q]
  simp [cle, hs]
theorem rowOf_med {g f : Nat → Int32} {k n : Nat} {sel : Nat → Bool} (h : RowOf g k f sel n) (hk : 0 < k) : IsMed f sel n (g ((k - 1) / 2)) := by
  intro q
  rw [← h.2.1, ← h.2.2 q]
  exact srt_cle h.1 (by omega) q
/-- the class's compromise of all on f -/
noncomputable def midF (f : Nat → Int32) (n : Nat) : Int32 := if n = 0 then 0 else medF f allS n
def nearW (w r mid : Int32) : Int32 := cutTo mid (w - r) (w + r)
def stepC (w r pc fr mid : Int32) : Int32 := cutTo (nearW w r mid) (fr - pc) (fr + pc)
/-- one delegate's turn in a round -/
noncomputable def turnF (fW fR fP : Nat → Int32) (n : Nat) (st mid : Int32) (i : Nat) (q : (Nat → Int32) × Int32) : (Nat → Int32) × Int32 :=
  @ite _ (stepC (fW i) (fR i) (fP i) (q.1 i) mid ≠ q.1 i ∧ crowd q.1 (stepC (fW i) (fR i) (fP i) (q.1 i) mid) n < st) (Classical.propDecidable _) (upd q.1 i (stepC (fW i) (fR i) (fP i) (q.1 i) mid), q.2 + 1) q
noncomputable def turns (fW fR fP : Nat → Int32) (n : Nat) (st : Int32) (f : Nat → Int32) (k : Nat) : (Nat → Int32) × Int32 := foldN (turnF fW fR fP n st (midF f n)) (f, 0) k
theorem turns_s (fW fR fP : Nat → Int32) (n : Nat) (st : Int32) (f : Nat → Int32) (k : Nat) : turns fW fR fP n st f (k + 1) = turnF fW fR fP n st (midF f n) k (turns fW fR fP n st f k) := rfl
theorem turn_go {fW fR fP : Nat → Int32} {n : Nat} {st mid : Int32} {i : Nat} {q : (Nat → Int32) × Int32} {x : Int32} (hx : x = stepC (fW i) (fR i) (fP i) (q.1 i) mid) (h1 : ¬ x = q.1 i) (h2 : crowd q.1 x n < st) : turnF fW fR fP n st mid i q = (upd q.1 i x, q.2 + 1) := by
  subst hx
  unfold turnF
  exact if_pos ⟨h1, h2⟩
theorem turn_stay {fW fR fP : Nat → Int32} {n : Nat} {st mid : Int32} {i : Nat} {q : (Nat → Int32) × Int32} {x : Int32} (hx : x = stepC (fW i) (fR i) (fP i) (q.1 i) mid) (h : x = q.1 i ∨ ¬ crowd q.1 x n < st) : turnF fW fR fP n st mid i q = q := by
  subst hx
  unfold turnF
  exact if_neg (fun z => h.elim z.1 (fun y => y z.2))
/-- rounds, one after the other: where all stand, and how often one went -/
noncomputable def rndF (fW fR fP : Nat → Int32) (n : Nat) (st : Int32) (f : Nat → Int32) : Nat → Int32 := (turns fW fR fP n st f n).1
noncomputable def rndM (fW fR fP : Nat → Int32) (n : Nat) (st : Int32) (f : Nat → Int32) : Int32 := (turns fW fR fP n st f n).2
noncomputable def rnds (fW fR fP : Nat → Int32) (n : Nat) (st : Int32) (f : Nat → Int32) (k : Nat) : (Nat → Int32) × Int32 := foldN (fun _ q => (rndF fW fR fP n st q.1, q.2 + rndM fW fR fP n st q.1)) (f, 0) k
theorem rnds_s (fW fR fP : Nat → Int32) (n : Nat) (st : Int32) (f : Nat → Int32) (k : Nat) : rnds fW fR fP n st f (k + 1) = (rndF fW fR fP n st (rnds fW fR fP n st f k).1, (rnds fW fR fP n st f k).2 + rndM fW fR fP n st (rnds fW fR fP n st f k).1) := rfl
/-- the insertion's loop -/
def InsL (f : Nat → Int32) (n : Nat) (x : Int32) (p : Nat) (g : Nat → Int32) : Prop := p ≤ n ∧ (∀ i, i < p → g i = f i) ∧ (∀ i, p < i → i ≤ n → g i = f (i - 1)) ∧ (∀ i, p ≤ i → i < n → x < f i)
theorem insL_0 (f : Nat → Int32) (n : Nat) (x : Int32) : InsL f n x n f := ⟨Nat.le_refl _, fun _ _ => rfl, fun i a b => absurd a (by omega), fun i a b => absurd a (by omega)⟩
theorem insL_s {f : Nat → Int32} {n : Nat} {x : Int32} {p : Nat} {g : Nat → Int32} (h : InsL f n x p g) (hp : 0 < p) (hx : ¬ g (p - 1) ≤ x) : InsL f n x (p - 1) (upd g p (g (p - 1))) := by
  obtain ⟨h0, h1, h2, h3⟩ := h
  refine ⟨by omega, fun i hi => ?_, fun i a b => ?_, fun i a b => ?_⟩
  · rw [pk_un (by omega)]; exact h1 i (by omega)
  · by_cases e : i = p
    · subst e
      rw [pk_us, h1 (i - 1) (by omega)]
    · rw [pk_un e]; exact h2 i (by omega) b
  · by_cases e : i = p - 1
    · subst e
      rw [h1 (p - 1) (by omega)] at hx
      exact Int32.not_le.mp hx
    · exact h3 i (by omega) b
theorem insL_end {f : Nat → Int32} {n : Nat} {x : Int32} {p : Nat} {g : Nat → Int32} (h : InsL f n x p g) (hx : p ≤ 0 ∨ g (p - 1) ≤ x) : Ins f n x (upd g p x) := by
  obtain ⟨h0, h1, h2, h3⟩ := h
  refine ⟨p, h0, fun i hi => ?_, pk_us, fun i a b => ?_, h3, fun hp => ?_⟩
  · rw [pk_un (by omega)]; exact h1 i hi
  · rw [pk_un (by omega)]; exact h2 i a b
  · rw [← h1 (p - 1) (by omega)]
    exact hx.resolve_left (by omega)
def midRow (g : Nat → Int32) (k : Nat) : Int32 := if k = 0 then 0 else g ((k - 1) / 2)
theorem midRow_0 {g : Nat → Int32} {k : Nat} (h : k = 0) : (0 : Int32) = midRow g k := by simp [midRow, h]
theorem midRow_s {g : Nat → Int32} {k : Nat} (h : k ≠ 0) : g ((k - 1) / 2) = midRow g k := by simp [midRow, h]
theorem mid_of {g f : Nat → Int32} {i n : Nat} (h : RowOf g i f allS i) (e : i = n) : midRow g i = midF f n := by
  subst e
  unfold midRow midF
  split
  · rfl
  · exact (medF_eq (rowOf_med h (by omega))).symm
/-- the median of a row with one more, by the row's two middle places -/
def mwF (g : Nat → Int32) (k : Nat) (x : Int32) : Int32 := cutTo x (if 0 < k / 2 then g (k / 2 - 1) else 0) (if k / 2 < k then g (k / 2) else 40)
/-- the first n of a gap's closing -/
def closeL (f : Nat → Int32) (gp i : Nat) : Nat → Int32 := fun j => if gp ≤ j ∧ j < i then f (j + 1) else f j
theorem closeL_0 (f : Nat → Int32) (gp : Nat) : f = closeL f gp gp := by
  funext j
  simp only [closeL]
  rw [if_neg (by omega)]
theorem closeL_s {f g : Nat → Int32} {gp i : Nat} (h : g = closeL f gp i) (hi : gp ≤ i) : upd g i (g (i + 1)) = closeL f gp (i + 1) := by
  subst h
  funext j
  by_cases e : j = i
  · subst e
    rw [pk_us]
    simp only [closeL]
    rw [if_neg (by omega), if_pos (by omega)]
  · rw [pk_un e]
    simp only [closeL]
    by_cases c : gp ≤ j ∧ j < i
    · rw [if_pos c, if_pos (by omega)]
    · rw [if_neg c, if_neg (by omega)]
theorem closeL_end {f g : Nat → Int32} {gp i n : Nat} (h : g = closeL f gp i) (h1 : n ≤ i + 1) (h2 : i ≤ n - 1) : g = closeF f gp n := by
  subst h
  funext j
  simp only [closeL, closeF]
  rw [show i = n - 1 by omega]
theorem copyF_0 (f g : Nat → Int32) : g = copyF f g 0 := by
  funext j
  simp [copyF]
theorem copyF_s {f g g' : Nat → Int32} {i : Nat} (h : g' = copyF f g i) : upd g' i (f i) = copyF f g (i + 1) := by
  subst h
  funext j
  by_cases e : j = i
  · subst e
    rw [pk_us]
    simp [copyF]
  · rw [pk_un e]
    simp only [copyF]
    by_cases c : j < i
    · rw [if_pos c, if_pos (by omega)]
    · rw [if_neg c, if_neg (by omega)]
def selV (fV : Nat → Int32) (v : Int32) : Nat → Bool := fun i => decide (fV i = v)
def selX (d : Nat) : Nat → Bool := fun i => decide (i ≠ d)
theorem turns_stay {fW fR fP : Nat → Int32} {n : Nat} {st v : Int32} {f g : Nat → Int32} {i : Nat} (hT : (g, v) = turns fW fR fP n st f i) (h : stepC (fW i) (fR i) (fP i) (g i) (midF f n) = g i ∨ ¬ crowd g (stepC (fW i) (fR i) (fP i) (g i) (midF f n)) n < st) : (g, v) = turns fW fR fP n st f (i + 1) := by
  rw [turns_s, ← hT]
  unfold turnF
  rw [if_neg (fun z => h.elim z.1 (fun y => y z.2))]
theorem turns_go {fW fR fP : Nat → Int32} {n : Nat} {st v : Int32} {f g : Nat → Int32} {i : Nat} (hT : (g, v) = turns fW fR fP n st f i) (h1 : ¬ stepC (fW i) (fR i) (fP i) (g i) (midF f n) = g i) (h2 : crowd g (stepC (fW i) (fR i) (fP i) (g i) (midF f n)) n < st) : (upd g i (stepC (fW i) (fR i) (fP i) (g i) (midF f n)), v + 1) = turns fW fR fP n st f (i + 1) := by
  rw [turns_s, ← hT]
  unfold turnF
  rw [if_pos ⟨h1, h2⟩]
/-! ===== what calls refuse ===== -/
def okD (n : Nat) (d : Int32) : Prop := ∃ j, j < n ∧ d = nI j
def okB (lo hi : Nat) (x : Int32) : Prop := ∃ j, lo ≤ j ∧ j ≤ hi ∧ x = nI j
theorem okD_of {n : Nat} {d : Int32} (hn : n ≤ 1000) (h0 : ¬ d < 0) (h1 : d < nI n) : okD n d := by
  obtain ⟨j, hj, rfl⟩ := nI_of h0
  exact ⟨j, (nI_ltI hj (by omega)).mp h1, rfl⟩
theorem okD_neg {n : Nat} {d : Int32} (hn : n ≤ 1000) (h : d < 0) : ¬ okD n d := by
  rintro ⟨j, hj, rfl⟩
  exact nI_pos (show j < 2 ^ 31 by omega) h
theorem okD_big {n : Nat} {d : Int32} (hn : n ≤ 1000) (h : ¬ d < nI n) : ¬ okD n d := by
  rintro ⟨j, hj, rfl⟩
  exact h ((nI_ltI (show j < 2 ^ 31 by omega) (by omega)).mpr hj)
theorem okB_of {lo hi : Nat} {x : Int32} (hh : hi ≤ 1000) (hl : lo ≤ hi) (h1 : ¬ x < nI lo) (h2 : ¬ nI hi < x) : okB lo hi x := by
  have h0 : ¬ x < 0 := fun z => h1 (Int32.lt_of_lt_of_le z (nI_pos' (show lo < 2 ^ 31 by omega)))
  obtain ⟨j, hj, rfl⟩ := nI_of h0
  exact ⟨j, nf_lt_f hj (by omega) h1, nf_lt_f (by omega) hj h2, rfl⟩
theorem okB_lo {lo hi : Nat} {x : Int32} (hh : hi ≤ 1000) (h : x < nI lo) : ¬ okB lo hi x := by
  rintro ⟨j, h1, h2, rfl⟩
  rcases Nat.lt_or_ge lo (2 ^ 31) with a | a
  · exact absurd ((nI_ltI (show j < 2 ^ 31 by omega) a).mp h) (by omega)
  · omega
theorem okB_hi {lo hi : Nat} {x : Int32} (hh : hi ≤ 1000) (h : nI hi < x) : ¬ okB lo hi x := by
  rintro ⟨j, h1, h2, rfl⟩
  exact absurd ((nI_ltI (show hi < 2 ^ 31 by omega) (show j < 2 ^ 31 by omega)).mp h) (by omega)
noncomputable def ifp (p : Prop) (a b : Int32) : Int32 := @ite _ p (Classical.propDecidable p) a b
theorem ifp_t {p : Prop} {a b : Int32} (h : p) : ifp p a b = a := by unfold ifp; exact if_pos h
theorem ifp_f {p : Prop} {a b : Int32} (h : ¬ p) : ifp p a b = b := by unfold ifp; exact if_neg h
/-- the number of the first ground to refuse, 0 without any -/
noncomputable def cd1 (p : Prop) : Int32 := ifp p 1 0
noncomputable def cd2 (p q : Prop) : Int32 := ifp p 1 (ifp q 2 0)
noncomputable def cd3 (p q r : Prop) : Int32 := ifp p 1 (ifp q 2 (ifp r 3 0))
theorem cd1_1 {p : Prop} (h : p) : cd1 p = 1 := ifp_t h
theorem cd1_0 {p : Prop} (h : ¬ p) : cd1 p = 0 := ifp_f h
theorem cd2_1 {p q : Prop} (h : p) : cd2 p q = 1 := ifp_t h
theorem cd2_2 {p q : Prop} (h : ¬ p) (h1 : q) : cd2 p q = 2 := (ifp_f h).trans (ifp_t h1)
theorem cd2_0 {p q : Prop} (h : ¬ p) (h1 : ¬ q) : cd2 p q = 0 := (ifp_f h).trans (ifp_f h1)
theorem cd3_1 {p q r : Prop} (h : p) : cd3 p q r = 1 := ifp_t h
theorem cd3_2 {p q r : Prop} (h : ¬ p) (h1 : q) : cd3 p q r = 2 := (ifp_f h).trans (ifp_t h1)
theorem cd3_3 {p q r : Prop} (h : ¬ p) (h1 : ¬ q) (h2 : r) : cd3 p q r = 3 := (ifp_f h).trans ((ifp_f h1).trans (ifp_t h2))
theorem cd3_0 {p q r : Prop} (h : ¬ p) (h1 : ¬ q) (h2 : ¬ r) : cd3 p q r = 0 := (ifp_f h).trans ((ifp_f h1).trans (ifp_f h2))
