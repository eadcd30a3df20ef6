/-! ===== what the reference's methods answer, in the same words ===== -/
theorem bP_congr {p q : Prop} (h : p ↔ q) : bP p = bP q := by rw [propext h]
theorem cd1_inv {p : Prop} (h : cd1 p = 0) : ¬ p := fun z => by rw [cd1_1 z] at h; exact absurd h (by decide)
theorem cd2_inv {p q : Prop} (h : cd2 p q = 0) : ¬ p ∧ ¬ q := by
  by_cases hp : p
  · rw [cd2_1 hp] at h; exact absurd h (by decide)
  · by_cases hq : q
    · rw [cd2_2 hp hq] at h; exact absurd h (by decide)
    · exact ⟨hp, hq⟩
theorem cd3_inv {p q r : Prop} (h : cd3 p q r = 0) : ¬ p ∧ ¬ q ∧ ¬ r := by
  by_cases hp : p
  · rw [cd3_1 hp] at h; exact absurd h (by decide)
  · by_cases hq : q
    · rw [cd3_2 hp hq] at h; exact absurd h (by decide)
    · by_cases hr : r
      · rw [cd3_3 hp hq hr] at h; exact absurd h (by decide)
      · exact ⟨hp, hq, hr⟩
theorem nn {p : Prop} (h : ¬ ¬ p) : p := Classical.byContradiction h
/-- small numbers as integers -/
theorem sub_small {a b : Int32} (h1 : -1000 ≤ a.toInt) (h2 : a.toInt ≤ 1000) (h3 : -1000 ≤ b.toInt) (h4 : b.toInt ≤ 1000) : (a - b).toInt = a.toInt - b.toInt := by
  rw [Int32.toInt_sub]
  exact Int.bmod_eq_of_le (by omega) (by omega)
theorem add_small {a b : Int32} (h1 : -1000 ≤ a.toInt) (h2 : a.toInt ≤ 1000) (h3 : -1000 ≤ b.toInt) (h4 : b.toInt ≤ 1000) : (a + b).toInt = a.toInt + b.toInt := by
  rw [Int32.toInt_add]
  exact Int.bmod_eq_of_le (by omega) (by omega)
theorem neg_small {a : Int32} (h1 : -1000 ≤ a.toInt) (h2 : a.toInt ≤ 1000) : (-a).toInt = -a.toInt := by
  rw [Int32.toInt_neg]
  exact Int.bmod_eq_of_le (by omega) (by omega)
theorem okD_int {n : Nat} {x : Int32} (hn : n ≤ 1000) (h : okD n x) : 0 ≤ x.toInt ∧ x.toInt < n := by
  obtain ⟨j, hj, rfl⟩ := h
  rw [nI_toInt (by omega)]
  omega
theorem okB_int {lo hi : Nat} {x : Int32} (hh : hi ≤ 1000) (h : okB lo hi x) : (lo : Int) ≤ x.toInt ∧ x.toInt ≤ hi := by
  obtain ⟨j, h1, h2, rfl⟩ := h
  rw [nI_toInt (by omega)]
  omega
theorem okD_ofInt {n : Nat} {x : Int32} (h0 : 0 ≤ x.toInt) (h1 : x.toInt < n) (hn : n ≤ 1000) : okD n x := by
  refine okD_of hn (fun z => ?_) ?_
  · have := Int32.lt_iff_toInt_lt.mp z
    rw [show (0 : Int32).toInt = 0 from rfl] at this
    omega
  · rw [Int32.lt_iff_toInt_lt, nI_toInt (by omega)]
    exact h1
theorem jabs_sym {a b : Int32} (ha : okD 41 a) (hb : okD 41 b) : jabs (a - b) = jabs (b - a) := by
  have h1 := okD_int (by omega) ha
  have h2 := okD_int (by omega) hb
  have e1 := sub_small (a := a) (b := b) (by omega) (by omega) (by omega) (by omega)
  have e2 := sub_small (a := b) (b := a) (by omega) (by omega) (by omega) (by omega)
  have z : (0 : Int32).toInt = 0 := rfl
  have e3 := sub_small (a := 0) (b := a - b) (by rw [z]; omega) (by rw [z]; omega) (by omega) (by omega)
  have e4 := sub_small (a := 0) (b := b - a) (by rw [z]; omega) (by rw [z]; omega) (by omega) (by omega)
  apply Int32.toInt_inj.mp
  unfold jabs
  simp only [Int32.le_iff_toInt_le]
  split <;> split <;> omega
theorem jabs_le {a b : Int32} (ha : okD 41 a) (hb : okD 41 b) : jabs (a - b) < 41 := by
  have h1 := okD_int (by omega) ha
  have h2 := okD_int (by omega) hb
  have e1 := sub_small (a := a) (b := b) (by omega) (by omega) (by omega) (by omega)
  have z : (0 : Int32).toInt = 0 := rfl
  have e3 := sub_small (a := 0) (b := a - b) (by rw [z]; omega) (by rw [z]; omega) (by omega) (by omega)
  have z2 : (41 : Int32).toInt = 41 := rfl
  rw [Int32.lt_iff_toInt_lt]
  unfold jabs
  simp only [Int32.le_iff_toInt_le]
  split <;> omega
theorem jmaxI (a b : Int32) : (jmax a b).toInt = max a.toInt b.toInt := by
  unfold jmax
  simp only [Int32.lt_iff_toInt_lt]
  split <;> omega
theorem jminI (a b : Int32) : (jmin a b).toInt = min a.toInt b.toInt := by
  unfold jmin
  simp only [Int32.lt_iff_toInt_lt]
  split <;> omega
/-- the reference's step -/
def stepM (w r pc fr mid : Int32) : Int32 := fr + jmax (-pc) (jmin pc (jmax (w - r) (jmin (w + r) mid) - fr))
theorem step_eq {w r pc fr mid : Int32} (hw : okD 41 w) (hr : okB 0 20 r) (hp : okB 1 5 pc) (hf : okD 41 fr) (hm : okD 41 mid) : stepM w r pc fr mid = stepC w r pc fr mid ∧ okD 41 (stepC w r pc fr mid) := by
  have h1 := okD_int (by omega) hw
  have h2 := okB_int (by omega) hr
  have h3 := okB_int (by omega) hp
  have h4 := okD_int (by omega) hf
  have h5 := okD_int (by omega) hm
  have e1 := sub_small (a := w) (b := r) (by omega) (by omega) (by omega) (by omega)
  have e2 := add_small (a := w) (b := r) (by omega) (by omega) (by omega) (by omega)
  have e3 := neg_small (a := pc) (by omega) (by omega)
  have e4 := sub_small (a := fr) (b := pc) (by omega) (by omega) (by omega) (by omega)
  have e5 := add_small (a := fr) (b := pc) (by omega) (by omega) (by omega) (by omega)
  have g1 : (jmax (w - r) (jmin (w + r) mid)).toInt = max (w.toInt - r.toInt) (min (w.toInt + r.toInt) mid.toInt) := by rw [jmaxI, jminI, e1, e2]
  have e6 := sub_small (a := jmax (w - r) (jmin (w + r) mid)) (b := fr) (by omega) (by omega) (by omega) (by omega)
  have g2 : (jmax (-pc) (jmin pc (jmax (w - r) (jmin (w + r) mid) - fr))).toInt = max (-pc.toInt) (min pc.toInt (max (w.toInt - r.toInt) (min (w.toInt + r.toInt) mid.toInt) - fr.toInt)) := by rw [jmaxI, jminI, e6, g1, e3]
  have e7 := add_small (a := fr) (b := jmax (-pc) (jmin pc (jmax (w - r) (jmin (w + r) mid) - fr))) (by omega) (by omega) (by omega) (by omega)
  have g3 : (stepC w r pc fr mid).toInt = max (fr.toInt - pc.toInt) (min (max (w.toInt - r.toInt) (min mid.toInt (w.toInt + r.toInt))) (fr.toInt + pc.toInt)) := by
    unfold stepC nearW cutTo
    rw [jmaxI, jminI, jmaxI, jminI, e1, e2, e4, e5]
  constructor
  · apply Int32.toInt_inj.mp
    show (fr + jmax (-pc) (jmin pc (jmax (w - r) (jmin (w + r) mid) - fr))).toInt = _
    rw [e7, g2, g3]
    omega
  · exact okD_ofInt (by omega) (by omega) (by omega)
/-- the reference's compromise: -1 without any -/
noncomputable def medM (f : Nat → Int32) (sel : Nat → Bool) (n : Nat) : Int32 := if tot sel n = 0 then -1 else medF f sel n
noncomputable def midM (f : Nat → Int32) (n : Nat) : Int32 := if n = 0 then -1 else midF f n
theorem midM_ne {f : Nat → Int32} {n : Nat} (h : n ≠ 0) : midM f n = midF f n := by simp [midM, h]
def selM (fV : Nat → Int32) (of but : Int32) : Nat → Bool := fun i => decide (¬ nI i = but ∧ (of = -1 ∨ fV i = of))
theorem tot_cs {s s' : Nat → Bool} : ∀ n, (∀ i, i < n → s i = s' i) → tot s n = tot s' n
  | 0, _ => rfl
  | n + 1, h => by
    simp only [tot]
    rw [tot_cs n (fun i hi => h i (by omega)), h n (by omega)]
theorem cle_cs {f : Nat → Int32} {s s' : Nat → Bool} {q : Int32} : ∀ n, (∀ i, i < n → s i = s' i) → cle f s q n = cle f s' q n
  | 0, _ => rfl
  | n + 1, h => by
    simp only [cle]
    rw [cle_cs n (fun i hi => h i (by omega)), h n (by omega)]
theorem medF_cs {f : Nat → Int32} {s s' : Nat → Bool} {n : Nat} (h : ∀ i, i < n → s i = s' i) (h0 : 0 < tot s n) : medF f s n = medF f s' n := by
  have h1 := med_is (f := f) h0
  have h2 : IsMed f s' n (medF f s n) := fun q => by
    rw [h1 q, tot_cs n h, cle_cs n h]
  exact (medF_eq h2).symm
theorem medM_cs {f : Nat → Int32} {s s' : Nat → Bool} {n : Nat} (h : ∀ i, i < n → s i = s' i) : medM f s n = medM f s' n := by
  unfold medM
  rw [tot_cs n h]
  split
  · rfl
  · exact medF_cs h (by rw [tot_cs n h]; omega)
theorem nI_m1ne {i : Nat} (h : i < 2 ^ 31) : ¬ nI i = -1 := fun z => by
  have := congrArg Int32.toInt z
  rw [nI_toInt h, show (-1 : Int32).toInt = -1 from rfl] at this
  omega
theorem medM_all {fV f : Nat → Int32} {n : Nat} (hn : n ≤ 12) : medM f (selM fV (-1) (-1)) n = midM f n := by
  rw [medM_cs (s' := allS) (fun i hi => by simp [selM, allS, nI_m1ne (show i < 2 ^ 31 by omega)])]
  unfold medM midM
  rw [tot_all]
  split
  · rfl
  · rename_i h
    simp [midF, h]
theorem medM_V {fV f : Nat → Int32} {v : Int32} {n : Nat} (hn : n ≤ 12) (hv : okD 5 v) : medM f (selM fV v (-1)) n = medM f (selV fV v) n := by
  obtain ⟨j, hj, rfl⟩ := hv
  exact medM_cs (fun i hi => by simp [selM, selV, nI_m1ne (show i < 2 ^ 31 by omega), nI_m1ne (show j < 2 ^ 31 by omega)])
theorem medM_X {fV f : Nat → Int32} {j : Nat} {n : Nat} (hn : n ≤ 12) (hj : j < n) : medM f (selM fV (-1) (nI j)) n = medM f (selX j) n :=
  medM_cs (fun i hi => by simp [selM, selX, nI_eq (show i < 2 ^ 31 by omega) (show j < 2 ^ 31 by omega)])
theorem med_ok {f : Nat → Int32} {sel : Nat → Bool} {n : Nat} (hI : ∀ i, i < n → okD 41 (f i)) (h : 0 < tot sel n) : okD 41 (medF f sel n) := by
  obtain ⟨i, a, -, b⟩ := isMed_mem (med_is (f := f) h)
  rw [← b]
  exact hI i a
theorem mid_ok {f : Nat → Int32} {n : Nat} (hI : ∀ i, i < n → okD 41 (f i)) (h : n ≠ 0) : okD 41 (midF f n) := by
  obtain ⟨i, a, b⟩ := mid_mem (f := f) h
  rw [← b]
  exact hI i a
theorem okD_ne {n : Nat} {x : Int32} (hn : n ≤ 1000) (h : okD n x) : ¬ x = -1 := by
  obtain ⟨j, hj, rfl⟩ := h
  exact nI_m1ne (by omega)
/-- counting: how many of the chosen stand on q; how many below p -/
def ceq (f : Nat → Int32) (sel : Nat → Bool) (q : Int32) : Nat → Nat
  | 0 => 0
  | i + 1 => ceq f sel q i + (if sel i = true ∧ f i = q then 1 else 0)
def clt (f : Nat → Int32) (sel : Nat → Bool) (q : Int32) : Nat → Nat
  | 0 => 0
  | i + 1 => clt f sel q i + (if sel i = true ∧ f i < q then 1 else 0)
theorem clt_s {f : Nat → Int32} {sel : Nat → Bool} {p : Nat} (hp : p < 100) : ∀ n, (∀ i, i < n → okD 41 (f i)) → clt f sel (nI (p + 1)) n = clt f sel (nI p) n + ceq f sel (nI p) n
  | 0, _ => rfl
  | n + 1, h => by
    simp only [clt, ceq]
    rw [clt_s hp n (fun i hi => h i (by omega))]
    obtain ⟨y, hy, e⟩ := h n (by omega)
    rw [e]
    simp only [nI_ltI (show y < 2 ^ 31 by omega) (show p + 1 < 2 ^ 31 by omega), nI_ltI (show y < 2 ^ 31 by omega) (show p < 2 ^ 31 by omega), nI_eq (show y < 2 ^ 31 by omega) (show p < 2 ^ 31 by omega)]
    by_cases s : sel n = true
    · simp only [s, true_and]
      split <;> split <;> split <;> omega
    · simp only [Bool.not_eq_true] at s
      simp only [s, Bool.false_eq_true, false_and, if_false]
      omega
theorem clt_0 {f : Nat → Int32} {sel : Nat → Bool} : ∀ n, (∀ i, i < n → okD 41 (f i)) → clt f sel (nI 0) n = 0
  | 0, _ => rfl
  | n + 1, h => by
    simp only [clt]
    rw [clt_0 n (fun i hi => h i (by omega))]
    obtain ⟨y, hy, e⟩ := h n (by omega)
    rw [e, if_neg (fun z => absurd ((nI_ltI (show y < 2 ^ 31 by omega) (show (0 : Nat) < 2 ^ 31 by omega)).mp z.2) (by omega))]
theorem clt_41 {f : Nat → Int32} {sel : Nat → Bool} {p : Nat} (hp : 41 ≤ p) (hp2 : p < 100) : ∀ n, (∀ i, i < n → okD 41 (f i)) → clt f sel (nI p) n = tot sel n
  | 0, _ => rfl
  | n + 1, h => by
    simp only [clt, tot]
    rw [clt_41 hp hp2 n (fun i hi => h i (by omega))]
    obtain ⟨y, hy, e⟩ := h n (by omega)
    rw [e]
    have : nI y < nI p := (nI_ltI (by omega) (by omega)).mpr (by omega)
    simp [this]
theorem cle_clt {f : Nat → Int32} {sel : Nat → Bool} {q r : Int32} : ∀ n, (q < r → cle f sel q n ≤ clt f sel r n) ∧ (r ≤ q → clt f sel r n + ceq f sel r n ≤ cle f sel q n)
  | 0 => ⟨fun _ => Nat.le_refl _, fun _ => Nat.le_refl _⟩
  | n + 1 => by
    obtain ⟨h1, h2⟩ := cle_clt (f := f) (sel := sel) (q := q) (r := r) n
    simp only [cle, clt, ceq]
    by_cases s : sel n = true
    · simp only [s, true_and]
      refine ⟨fun z => ?_, fun z => ?_⟩
      · have := h1 z
        by_cases a : f n ≤ q
        · rw [if_pos a, if_pos (Int32.lt_of_le_of_lt a z)]; omega
        · rw [if_neg a]; omega
      · have := h2 z
        by_cases a : f n < r
        · rw [if_pos a, if_neg (fun y => by rw [y] at a; exact Int32.lt_irrefl a), if_pos (Int32.le_trans (Int32.le_of_lt a) z)]; omega
        · by_cases b : f n = r
          · rw [if_neg a, if_pos b, if_pos (by rw [b]; exact z)]; omega
          · rw [if_neg a, if_neg b]; omega
    · simp only [Bool.not_eq_true] at s
      simp only [s, Bool.false_eq_true, false_and, if_false]
      exact ⟨fun z => by have := h1 z; omega, fun z => by have := h2 z; omega⟩
theorem med_at {f : Nat → Int32} {sel : Nat → Bool} {n p x : Nat} (h1 : x + clt f sel (nI p) n = (tot sel n - 1) / 2) (h2 : x < ceq f sel (nI p) n) (h0 : tot sel n ≠ 0) : nI p = medM f sel n := by
  unfold medM
  rw [if_neg h0]
  refine (medF_eq fun q => ?_).symm
  obtain ⟨a, b⟩ := cle_clt (f := f) (sel := sel) (q := q) (r := nI p) n
  constructor
  · intro z
    have := b z
    omega
  · intro z
    by_cases c : nI p ≤ q
    · exact c
    · have := a (Int32.not_le.mp c)
      omega
theorem ceq_le (f : Nat → Int32) (sel : Nat → Bool) (q : Int32) : ∀ n, ceq f sel q n ≤ n
  | 0 => Nat.le_refl _
  | n + 1 => by
    have := ceq_le f sel q n
    simp only [ceq]
    split <;> omega
theorem nI_subn {x k : Nat} (h : k ≤ x) : nI x - nI k = nI (x - k) := by
  have e : nI (x - k) + nI k = nI x := by rw [nI_add]; congr 1; omega
  rw [← e, Int32.add_sub_cancel]
theorem nI_subneg {x k : Nat} (hx : x < 500) (hk : k < 500) : nI x - nI k < 0 ↔ x < k := by
  have a := nI_toInt (show x < 2 ^ 31 by omega)
  have b := nI_toInt (show k < 2 ^ 31 by omega)
  have := sub_small (a := nI x) (b := nI k) (by omega) (by omega) (by omega) (by omega)
  rw [Int32.lt_iff_toInt_lt, this, a, b, show (0 : Int32).toInt = 0 from rfl]
  omega
/-- the reference's widths -/
theorem end_in {f : Nat → Int32} {a : Int32} : ∀ n i, i < n → loEnd f a n ≤ f i ∧ f i ≤ hiEnd f n
  | 0, _, h => absurd h (Nat.not_lt_zero _)
  | n + 1, i, h => by
    rw [loEnd_s, hiEnd_s]
    have e1 : ∀ x y : Int32, jmin x y ≤ x ∧ jmin x y ≤ y := fun x y => ⟨(jmin_le x y x).mpr (Or.inl (Int32.le_refl _)), (jmin_le x y y).mpr (Or.inr (Int32.le_refl _))⟩
    have e2 : ∀ x y : Int32, x ≤ jmax x y ∧ y ≤ jmax x y := fun x y => (jmax_le x y (jmax x y)).mp (Int32.le_refl _)
    rcases Nat.lt_or_ge i n with c | c
    · obtain ⟨h1, h2⟩ := end_in (f := f) (a := a) n i c
      exact ⟨Int32.le_trans (e1 _ _).1 h1, Int32.le_trans h2 (e2 _ _).1⟩
    · rw [show i = n by omega]
      exact ⟨(e1 _ _).2, (e2 _ _).2⟩
theorem end_rg {f : Nat → Int32} {a : Int32} (ha : 0 ≤ a.toInt ∧ a.toInt ≤ 41) : ∀ n, (∀ i, i < n → okD 41 (f i)) → 0 ≤ (loEnd f a n).toInt ∧ (loEnd f a n).toInt ≤ 41 ∧ 0 ≤ (hiEnd f n).toInt ∧ (hiEnd f n).toInt ≤ 40
  | 0, _ => by
    rw [loEnd_0, hiEnd_0, show (0 : Int32).toInt = 0 from rfl]
    omega
  | n + 1, h => by
    have h1 := end_rg ha n (fun i hi => h i (by omega))
    have h2 := okD_int (by omega) (h n (by omega))
    rw [loEnd_s, hiEnd_s, jminI, jmaxI]
    omega
theorem lo_41 {f : Nat → Int32} : ∀ n, (∀ i, i < n + 1 → okD 41 (f i)) → loEnd f 41 (n + 1) = loEnd f 40 (n + 1)
  | 0, h => by
    have h2 := okD_int (by omega) (h 0 (by omega))
    rw [loEnd_s, loEnd_s, loEnd_0, loEnd_0]
    apply Int32.toInt_inj.mp
    rw [jminI, jminI, show (41 : Int32).toInt = 41 from rfl, show (40 : Int32).toInt = 40 from rfl]
    omega
  | n + 1, h => by
    rw [loEnd_s, loEnd_s f 40, lo_41 n (fun i hi => h i (by omega))]
theorem wide_M {f : Nat → Int32} {n : Nat} (hI : ∀ i, i < n → okD 41 (f i)) (h : 2 ≤ n) : hiEnd f n - loEnd f 41 n = wide f n := by
  obtain ⟨k, rfl⟩ : ∃ k, n = k + 1 := ⟨n - 1, by omega⟩
  rw [lo_41 k hI]
  unfold wide
  have h1 := end_rg (f := f) (a := 40) (by decide) (k + 1) hI
  obtain ⟨h2, h3⟩ := end_in (f := f) (a := 40) (k + 1) 0 (by omega)
  have h4 := Int32.le_iff_toInt_le.mp (Int32.le_trans h2 h3)
  have e := sub_small (a := hiEnd f (k + 1)) (b := loEnd f 40 (k + 1)) (by omega) (by omega) (by omega) (by omega)
  apply Int32.toInt_inj.mp
  rw [jmaxI, e, show (0 : Int32).toInt = 0 from rfl]
  omega
theorem wide_few {f : Nat → Int32} {n : Nat} (hI : ∀ i, i < n → okD 41 (f i)) (h : n < 2) : (0 : Int32) = wide f n := by
  unfold wide
  match n, h with
  | 0, _ => rfl
  | 1, _ =>
    have h2 := okD_int (by omega) (hI 0 (by omega))
    rw [loEnd_s, hiEnd_s, loEnd_0, hiEnd_0]
    apply Int32.toInt_inj.mp
    have e1 := jminI 40 (f 0)
    have e2 := jmaxI 0 (f 0)
    rw [show (40 : Int32).toInt = 40 from rfl] at e1
    rw [show (0 : Int32).toInt = 0 from rfl] at e2
    have e := sub_small (a := jmax 0 (f 0)) (b := jmin 40 (f 0)) (by omega) (by omega) (by omega) (by omega)
    rw [jmaxI, e, e1, e2, show (0 : Int32).toInt = 0 from rfl]
    omega
def twoM (f : Nat → Int32) (n : Nat) : Prop := ∃ i, 1 ≤ i ∧ i < n ∧ f i ≠ f 0
theorem two_eq {f : Nat → Int32} {n : Nat} : twoM f n ↔ twoV f n := by
  constructor
  · rintro ⟨i, h1, h2, h3⟩
    refine nn fun h => h3 ?_
    have key : ∀ j, j < n → f j = f 0 := by
      intro j
      induction j with
      | zero => intro _; rfl
      | succ j ih =>
        intro hj
        rw [← ih (by omega)]
        exact nn fun z => h ⟨j + 1, by omega, hj, z⟩
    exact key i h2
  · rintro ⟨i, h1, h2, h3⟩
    refine nn fun h => h3 ?_
    have e : ∀ j, 1 ≤ j → j < n → f j = f 0 := fun j a b => nn fun z => h ⟨j, a, b, z⟩
    rw [e i h1 h2]
    by_cases c : i = 1
    · rw [c]
    · rw [e (i - 1) (by omega) (by omega)]
/-- all delegates' numbers as they must be -/
def Inv (fW fR fP fK : Nat → Int32) (n : Nat) : Prop := ∀ i, i < n → okD 41 (fW i) ∧ okB 0 20 (fR i) ∧ okB 1 5 (fP i) ∧ okD 41 (fK i)
theorem Inv.K {fW fR fP fK : Nat → Int32} {n : Nat} (h : Inv fW fR fP fK n) : ∀ i, i < n → okD 41 (fK i) := fun i hi => (h i hi).2.2.2
theorem turn_ok {fW fR fP f : Nat → Int32} {n : Nat} {st : Int32} (h : Inv fW fR fP f n) : ∀ k, k ≤ n → Inv fW fR fP (turns fW fR fP n st f k).1 n
  | 0, _ => by rw [turns_0]; exact h
  | k + 1, hk => by
    have ih := turn_ok (st := st) h k (by omega)
    rw [turns_s]
    generalize turns fW fR fP n st f k = q at ih ⊢
    unfold turnF
    split
    · intro i hi
      by_cases c : i = k
      · subst c
        have := ih i hi
        refine ⟨this.1, this.2.1, this.2.2.1, ?_⟩
        show okD 41 (upd q.1 i _ i)
        rw [pk_us]
        exact (step_eq this.1 this.2.1 this.2.2.1 this.2.2.2 (mid_ok h.K (by omega))).2
      · have := ih i hi
        refine ⟨this.1, this.2.1, this.2.2.1, ?_⟩
        show okD 41 (upd q.1 k _ i)
        rw [pk_un c]
        exact this.2.2.2
    · exact ih
theorem rndF_ok {fW fR fP f : Nat → Int32} {n : Nat} {st : Int32} (h : Inv fW fR fP f n) : Inv fW fR fP (rndF fW fR fP n st f) n := turn_ok h n (Nat.le_refl _)
theorem rnds_ok {fW fR fP f : Nat → Int32} {n : Nat} {st : Int32} (h : Inv fW fR fP f n) : ∀ k, Inv fW fR fP (rnds fW fR fP n st f k).1 n
  | 0 => by rw [rnds_0]; exact h
  | k + 1 => by rw [rnds_s]; exact rndF_ok (rnds_ok h k)
/-- how often one goes in a round: 0 to n -/
theorem moves_in {fW fR fP f : Nat → Int32} {n : Nat} {st : Int32} : ∀ k, ∃ x, x ≤ k ∧ (turns fW fR fP n st f k).2 = nI x
  | 0 => ⟨0, Nat.le_refl _, by rw [turns_0]; rfl⟩
  | k + 1 => by
    obtain ⟨x, hx, e⟩ := moves_in (fW := fW) (fR := fR) (fP := fP) (f := f) (n := n) (st := st) k
    rw [turns_s]
    generalize turns fW fR fP n st f k = q at e ⊢
    unfold turnF
    split
    · exact ⟨x + 1, by omega, by show q.2 + 1 = _; rw [e, nI_1]⟩
    · exact ⟨x, by omega, e⟩
theorem moves_0 {fW fR fP f : Nat → Int32} {n : Nat} {st : Int32} (hn : n ≤ 12) : rndM fW fR fP n st f ≤ 0 ↔ rndM fW fR fP n st f = 0 := by
  obtain ⟨x, hx, e⟩ := moves_in (fW := fW) (fR := fR) (fP := fP) (f := f) (n := n) (st := st) n
  have e' : rndM fW fR fP n st f = nI x := e
  rw [e', show (0 : Int32) = nI 0 from rfl, nI_leI (by omega) (by omega), nI_eq (by omega) (by omega)]
  omega
theorem nI_m1m {n : Nat} {x : Int32} (hn : n ≤ 12) : (0 ≤ x ∧ x ≤ nI n - 1) ↔ okD n x := by
  have e := sub_small (a := nI n) (b := 1) (by rw [nI_toInt (by omega)]; omega) (by rw [nI_toInt (by omega)]; omega) (by decide) (by decide)
  rw [nI_toInt (by omega), show (1 : Int32).toInt = 1 from rfl] at e
  constructor
  · rintro ⟨a, b⟩
    rw [Int32.le_iff_toInt_le] at a b
    rw [show (0 : Int32).toInt = 0 from rfl] at a
    exact okD_ofInt a (by omega) (by omega)
  · intro h
    have := okD_int (by omega) h
    rw [Int32.le_iff_toInt_le, Int32.le_iff_toInt_le, show (0 : Int32).toInt = 0 from rfl]
    omega
theorem isIn_D {k : Nat} {x : Int32} (hk : k < 1000) : (0 ≤ x ∧ x ≤ nI k) ↔ okD (k + 1) x := by
  constructor
  · rintro ⟨a, b⟩
    rw [Int32.le_iff_toInt_le] at a b
    rw [show (0 : Int32).toInt = 0 from rfl] at a
    rw [nI_toInt (by omega)] at b
    exact okD_ofInt a (by omega) (by omega)
  · intro h
    have := okD_int (by omega) h
    rw [Int32.le_iff_toInt_le, Int32.le_iff_toInt_le, show (0 : Int32).toInt = 0 from rfl, nI_toInt (by omega)]
    omega
theorem isIn_B {lo hi : Nat} {x : Int32} (hh : hi ≤ 1000) (hl : lo ≤ hi) : (nI lo ≤ x ∧ x ≤ nI hi) ↔ okB lo hi x := by
  constructor
  · rintro ⟨a, b⟩
    exact okB_of hh hl (Int32.not_lt.mpr a) (Int32.not_lt.mpr b)
  · rintro ⟨j, a, b, rfl⟩
    exact ⟨(nI_leI (by omega) (by omega)).mpr a, (nI_leI (by omega) (by omega)).mpr b⟩
/-- equal rows in a cell -/
theorem w_cg {D : va_G} {A : Nat → Prop} {ws : va_W} {H : Heap} {a n : Nat} {cA : ClassId} {f g : Nat → Int32} (hP : va_P D vwCl ws H) (hD : va_D A ws) (k : Nat) (hk : ws[k]? = some (a, .inl (cA, n, .inl f))) (h : ∀ i, i < n → f i = g i) : va_P D vwCl (ws.set k (a, .inl (cA, n, .inl g))) H ∧ va_D A (ws.set k (a, .inl (cA, n, .inl g))) := by
  refine ⟨hP.set hD hk ?_ (fun _ _ => rfl), hD.set hk⟩
  have h1 := hP k _ hk
  show H[a]? = some (vp_cell cA (n, .inl g))
  have h2 : H[a]? = some (vp_cell cA (n, .inl f)) := h1
  rw [h2, vp_cell_i, vp_cell_i]
  apply congrArg some
  unfold arrV
  congr 1
  apply Array.ext
  · simp
  · intro i hi1 hi2
    simp only [Array.getElem_ofFn]
    rw [h i (by simpa using hi1)]
theorem cx1 {c : Int32} {P : Prop} (h : c = 1) (z : c = 0) : P := absurd (h.symm.trans z) (by decide)
theorem cx2 {c : Int32} {P : Prop} (h : c = 2) (z : c = 0) : P := absurd (h.symm.trans z) (by decide)
theorem cx3 {c : Int32} {P : Prop} (h : c = 3) (z : c = 0) : P := absurd (h.symm.trans z) (by decide)
theorem or_1 (p : Prop) : bP p ||| 1 = 1 := by
  rcases bP_01 p with h | h <;> rw [h] <;> rfl
theorem or_0 (p : Prop) : bP p ||| 0 = bP p := by
  rcases bP_01 p with h | h <;> rw [h] <;> rfl
theorem two_1 (f : Nat → Int32) : (0 : Int32) = bP (twoM f 1) := bP_f (fun ⟨i, a, b, _⟩ => by omega)
theorem two_or1 {f : Nat → Int32} {i : Nat} {v : Int32} (hv : v = bP (twoM f i)) (h1 : 1 ≤ i) (h : ¬ f i = f 0) : v ||| 1 = bP (twoM f (i + 1)) := by
  rw [hv, or_1]
  exact bP_t ⟨i, h1, by omega, h⟩
theorem two_or0 {f : Nat → Int32} {i : Nat} {v : Int32} (hv : v = bP (twoM f i)) (h : f i = f 0) : v ||| 0 = bP (twoM f (i + 1)) := by
  rw [hv, or_0]
  refine bP_congr ⟨fun ⟨j, a, b, c⟩ => ⟨j, a, by omega, c⟩, fun ⟨j, a, b, c⟩ => ⟨j, a, ?_, c⟩⟩
  rcases Nat.lt_or_ge j i with z | z
  · exact z
  · exact absurd (by rw [show j = i by omega]; exact h) c
theorem two_ex {f : Nat → Int32} {i n : Nat} (h : n ≤ i) (h2 : i ≤ n ∨ i = 1) : twoM f i ↔ twoM f n := by
  rcases h2 with h2 | h2
  · rw [show i = n by omega]
  · exact ⟨fun ⟨j, a, b, _⟩ => by omega, fun ⟨j, a, b, _⟩ => by omega⟩
theorem disAll_0 (fW : Nat → Int32) (p : Int32) : disAll fW p 0 = 0 := rfl
theorem disAll_M {fW fK : Nat → Int32} {n : Nat} : disAll fW (midM fK n) n = disAll fW (midF fK n) n := by
  by_cases h : n = 0
  · rw [h, disAll_0, disAll_0]
  · rw [midM_ne h]
theorem medM_one {f : Nat → Int32} {sel : Nat → Bool} {n : Nat} (hI : ∀ i, i < n → okD 41 (f i)) (h : medM f sel n = -1) : tot sel n = 0 := by
  refine nn fun z => ?_
  unfold medM at h
  rw [if_neg z] at h
  exact okD_ne (by omega) (med_ok hI (by omega)) h
theorem medM_not {f : Nat → Int32} {sel : Nat → Bool} {n : Nat} (h : ¬ medM f sel n = -1) : ¬ tot sel n = 0 := fun z => h (by simp [medM, z])
theorem medM_F {f : Nat → Int32} {sel : Nat → Bool} {n : Nat} (h : ¬ tot sel n = 0) : medM f sel n = medF f sel n := by simp [medM, h]
theorem votes_in (fW : Nat → Int32) (x y : Int32) : ∀ n, ∃ k, k ≤ n ∧ votes fW x y n = nI k
  | 0 => ⟨0, Nat.le_refl _, rfl⟩
  | n + 1 => by
    obtain ⟨k, hk, e⟩ := votes_in fW x y n
    rw [votes_s, e]
    split
    · exact ⟨k + 1, by omega, nI_1 k⟩
    · exact ⟨k, by omega, rfl⟩
/-- the winner, by the difference -/
theorem win_M {va vb : Int32} {n : Nat} (hn : n ≤ 12) (ha : ∃ k, k ≤ n ∧ va = nI k) (hb : ∃ k, k ≤ n ∧ vb = nI k) : (0 < va - vb ↔ vb < va) ∧ (va - vb < 0 ↔ va < vb) := by
  obtain ⟨x, hx, rfl⟩ := ha
  obtain ⟨y, hy, rfl⟩ := hb
  have a := nI_toInt (show x < 2 ^ 31 by omega)
  have b := nI_toInt (show y < 2 ^ 31 by omega)
  have := sub_small (a := nI x) (b := nI y) (by omega) (by omega) (by omega) (by omega)
  rw [Int32.lt_iff_toInt_lt, Int32.lt_iff_toInt_lt, Int32.lt_iff_toInt_lt, Int32.lt_iff_toInt_lt, this, a, b, show (0 : Int32).toInt = 0 from rfl]
  omega
theorem ceq_s (f : Nat → Int32) (sel : Nat → Bool) (q : Int32) (i : Nat) : ceq f sel q (i + 1) = ceq f sel q i + (if sel i = true ∧ f i = q then 1 else 0) := rfl
/-- the counting's loop: what is counted -/
def Cnt (f : Nat → Int32) (sel : Nat → Bool) (i : Nat) (g : Nat → Int32) : Prop := ∀ q, q < 41 → g q = nI (ceq f sel (nI q) i)
theorem cnt_skip {f g : Nat → Int32} {sel : Nat → Bool} {i : Nat} (h : Cnt f sel i g) (hs : ¬ sel i = true) : Cnt f sel (i + 1) g := fun q hq => by
  rw [ceq_s, if_neg (fun z => hs z.1), h q hq]
  rfl
theorem cnt_put {f g : Nat → Int32} {sel : Nat → Bool} {i y : Nat} (h : Cnt f sel i g) (hs : sel i = true) (hy : y < 41) (e : f i = nI y) : Cnt f sel (i + 1) (upd g y (g y + 1)) := fun q hq => by
  rw [ceq_s]
  by_cases c : q = y
  · subst c
    rw [pk_us, if_pos ⟨hs, e⟩, h q hq, nI_1]
  · rw [pk_un c, if_neg (fun z => c ((nI_eq (by omega) (by omega)).mp (e.symm.trans z.2)).symm), h q hq]
    rfl
theorem tot_s (sel : Nat → Bool) (i : Nat) : tot sel (i + 1) = tot sel i + (if sel i = true then 1 else 0) := rfl
theorem selM_t {fV : Nat → Int32} {of but : Int32} {i : Nat} (h : ¬ nI i = but) (h2 : of = -1 ∨ fV i = of) : selM fV of but i = true := by simp [selM, h, h2]
theorem selM_f1 {fV : Nat → Int32} {of but : Int32} {i : Nat} (h : nI i = but) : ¬ selM fV of but i = true := by simp [selM, h]
theorem selM_f2 {fV : Nat → Int32} {of but : Int32} {i : Nat} (h : ¬ of = -1) (h2 : ¬ fV i = of) : ¬ selM fV of but i = true := by simp [selM, h, h2]
/-- what is left: half of them, less those below -/
def Left (f : Nat → Int32) (sel : Nat → Bool) (n p : Nat) (l : Int32) : Prop := tot sel n ≠ 0 → ∃ x, x ≤ 12 ∧ l = nI x ∧ x + clt f sel (nI p) n = (tot sel n - 1) / 2
theorem left_0 {f : Nat → Int32} {sel : Nat → Bool} {n : Nat} (hn : n ≤ 12) (hI : ∀ i, i < n → okD 41 (f i)) : Left f sel n 0 ((nI (tot sel n) - 1) / 2) := fun h => by
  have := tot_le sel n
  refine ⟨(tot sel n - 1) / 2, by omega, ?_, by rw [clt_0 n hI]; rfl⟩
  rw [nI_m1 (by omega), nI_div2 _ (by omega)]
theorem left_s {f g : Nat → Int32} {sel : Nat → Bool} {n p : Nat} {l : Int32} (hn : n ≤ 12) (hI : ∀ i, i < n → okD 41 (f i)) (hC : Cnt f sel n g) (h : Left f sel n p l) (hp : p < 41) (h0 : ¬ l - g p < 0) : Left f sel n (p + 1) (l - g p) := fun z => by
  obtain ⟨x, hx, e, hs⟩ := h z
  have hk := ceq_le f sel (nI p) n
  rw [hC p hp, e] at h0 ⊢
  have : ¬ x < ceq f sel (nI p) n := fun w => h0 ((nI_subneg (x := x) (k := ceq f sel (nI p) n) (by omega) (by omega)).mpr w)
  exact ⟨x - ceq f sel (nI p) n, by omega, nI_subn (by omega), by rw [clt_s (by omega) n hI]; omega⟩
theorem left_end {f g : Nat → Int32} {sel : Nat → Bool} {n p : Nat} {l : Int32} (hn : n ≤ 12) (hC : Cnt f sel n g) (h : Left f sel n p l) (hp : p < 41) (h0 : l - g p < 0) (hz : tot sel n ≠ 0) : nI p = medM f sel n := by
  obtain ⟨x, hx, e, hs⟩ := h hz
  have hk := ceq_le f sel (nI p) n
  rw [hC p hp, e] at h0
  exact med_at hs ((nI_subneg (x := x) (k := ceq f sel (nI p) n) (by omega) (by omega)).mp h0) hz
theorem left_41 {f : Nat → Int32} {sel : Nat → Bool} {n p : Nat} {l : Int32} (hI : ∀ i, i < n → okD 41 (f i)) (h : Left f sel n p l) (hp : p = 41) : tot sel n = 0 := nn fun z => by
  obtain ⟨x, hx, e, hs⟩ := h z
  rw [clt_41 (by omega) (by omega) n hI] at hs
  omega
theorem medM_none {f : Nat → Int32} {sel : Nat → Bool} {n : Nat} (h : tot sel n = 0) : (-1 : Int32) = medM f sel n := by simp [medM, h]
/-- a delegate's own best place: the rows that are tried -/
theorem upd_upd {g f : Nat → Int32} {j : Nat} {x : Int32} (h : ∀ i, i ≠ j → g i = f i) : upd g j x = upd f j x := by
  funext i
  by_cases c : i = j
  · rw [c, pk_us, pk_us]
  · rw [pk_un c, pk_un c, h i c]
theorem upd_id {g f : Nat → Int32} {j : Nat} (h : ∀ i, i ≠ j → g i = f i) : upd g j (f j) = f := by
  funext i
  by_cases c : i = j
  · rw [c, pk_us]
  · rw [pk_un c, h i c]
theorem upd_ok {f : Nat → Int32} {n j p : Nat} (hI : ∀ i, i < n → okD 41 (f i)) (hp : p < 41) : ∀ i, i < n → okD 41 (upd f j (nI p) i) := fun i hi => by
  by_cases c : i = j
  · rw [c, pk_us]; exact ⟨p, hp, rfl⟩
  · rw [pk_un c]; exact hI i hi
theorem nI_inj {j k : Nat} {d : Int32} (hj : j < 1000) (hk : k < 1000) (h1 : d = nI j) (h2 : d = nI k) : k = j := (nI_eq (by omega) (by omega)).mp (h2.symm.trans h1)
theorem inv_send {fW fR fP fK : Nat → Int32} {n : Nat} {x rr pp : Int32} (h : Inv fW fR fP fK n) (hx : okD 41 x) (hr : okB 0 20 rr) (hp : okB 1 5 pp) : Inv (upd fW n x) (upd fR n rr) (upd fP n pp) (upd fK n x) (n + 1) := fun i hi => by
  by_cases c : i = n
  · subst c
    rw [pk_us, pk_us, pk_us, pk_us]
    exact ⟨hx, hr, hp, hx⟩
  · rw [pk_un c, pk_un c, pk_un c, pk_un c]
    exact h i (by omega)
theorem inv_close {fW fR fP fK : Nat → Int32} {n j : Nat} (h : Inv fW fR fP fK n) : Inv (closeF fW j n) (closeF fR j n) (closeF fP j n) (closeF fK j n) (n - 1) := fun i hi => by
  simp only [closeF]
  by_cases c : j ≤ i ∧ i < n - 1
  · rw [if_pos c, if_pos c, if_pos c, if_pos c]
    exact h (i + 1) (by omega)
  · rw [if_neg c, if_neg c, if_neg c, if_neg c]
    exact h i (by omega)
theorem inv_W {fW fR fP fK : Nat → Int32} {n j : Nat} {x : Int32} (h : Inv fW fR fP fK n) (hx : okD 41 x) : Inv (upd fW j x) fR fP fK n := fun i hi => by
  have := h i hi
  by_cases c : i = j
  · subst c
    rw [pk_us]
    exact ⟨hx, this.2⟩
  · rw [pk_un c]
    exact this
theorem inv_K {fW fR fP fK : Nat → Int32} {n j : Nat} {x : Int32} (h : Inv fW fR fP fK n) (hx : okD 41 x) : Inv fW fR fP (upd fK j x) n := fun i hi => by
  have := h i hi
  by_cases c : i = j
  · subst c
    rw [pk_us]
    exact ⟨this.1, this.2.1, this.2.2.1, hx⟩
  · rw [pk_un c]
    exact this
