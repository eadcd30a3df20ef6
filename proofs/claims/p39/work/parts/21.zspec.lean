/-! ===== plain mathematics of the law's simulation ===== -/
theorem cutI (x lo hi : Int32) : (cutTo x lo hi).toInt = max lo.toInt (min x.toInt hi.toInt) := by
  unfold cutTo
  rw [jmaxI, jminI]
theorem jabsI {x : Int32} (h1 : -1000 ≤ x.toInt) (h2 : x.toInt ≤ 1000) : (0 ≤ x.toInt ∧ (jabs x).toInt = x.toInt) ∨ (x.toInt < 0 ∧ (jabs x).toInt = -x.toInt) := by
  unfold jabs
  by_cases h : (0 : Int32) ≤ x
  · rw [if_pos h]
    rw [Int32.le_iff_toInt_le, show (0 : Int32).toInt = 0 from rfl] at h
    exact Or.inl ⟨h, rfl⟩
  · rw [if_neg h]
    rw [Int32.le_iff_toInt_le, show (0 : Int32).toInt = 0 from rfl] at h
    refine Or.inr ⟨by omega, ?_⟩
    rw [sub_small (by decide) (by decide) h1 h2, show (0 : Int32).toInt = 0 from rfl]
    omega
theorem I_1 : (1 : Int32).toInt = 1 := rfl
theorem I_m1 : (-1 : Int32).toInt = -1 := by decide
/-- small numbers -/
def sm (lo hi : Int) (x : Int32) : Prop := lo ≤ x.toInt ∧ x.toInt ≤ hi
theorem sm_D {n : Nat} {x : Int32} (hn : n ≤ 1000) (h : okD n x) : sm 0 (n - 1) x := by
  have := okD_int hn h
  exact ⟨this.1, by omega⟩
theorem sm_B {lo hi : Nat} {x : Int32} (hh : hi ≤ 1000) (h : okB lo hi x) : sm lo hi x := okB_int hh h
theorem nI_sm {i : Nat} (h : i < 2 ^ 31) : (nI i).toInt = i := nI_toInt h
/-- going plank by plank: after i planks -/
theorem near_e {w r t g : Int32} {i : Nat} (bw : sm 0 40 w) (br : sm 0 20 r) (bt : sm (-1) 40 t) (hi : (i : Int) ≤ r.toInt) (hg : g = cutTo t (w - nI i) (w + nI i)) (h : g = t) : g = nearW w r t := by
  obtain ⟨a1, a2⟩ := bw
  obtain ⟨b1, b2⟩ := br
  obtain ⟨c1, c2⟩ := bt
  have e := nI_sm (show i < 2 ^ 31 by omega)
  unfold nearW
  apply Int32.toInt_inj.mp
  have h1 : g.toInt = t.toInt := by rw [h]
  have h2 : g.toInt = _ := congrArg Int32.toInt hg
  rw [cutI, sub_small (by omega) (by omega) (by omega) (by omega), add_small (by omega) (by omega) (by omega) (by omega), e] at h2
  rw [cutI, sub_small (by omega) (by omega) (by omega) (by omega), add_small (by omega) (by omega) (by omega) (by omega)]
  omega
theorem near_r {w r t g : Int32} {i : Nat} (bw : sm 0 40 w) (br : sm 0 20 r) (bt : sm (-1) 40 t) (hi : (i : Int) ≤ r.toInt) (hg : g = cutTo t (w - nI i) (w + nI i)) (h : r ≤ nI i) : g = nearW w r t := by
  obtain ⟨b1, b2⟩ := br
  have e := nI_sm (show i < 2 ^ 31 by omega)
  rw [Int32.le_iff_toInt_le, e] at h
  have hr : r = nI i := Int32.toInt_inj.mp (by rw [e]; omega)
  rw [hr]
  exact hg
theorem near_u {w t g : Int32} {i : Nat} (bw : sm 0 40 w) (bt : sm (-1) 40 t) (hi : i ≤ 100) (hg : g = cutTo t (w - nI i) (w + nI i)) (h : ¬ g = t) (hd : ¬ t ≤ g) : g.toInt = w.toInt + i ∧ w.toInt + i < t.toInt := by
  obtain ⟨a1, a2⟩ := bw
  obtain ⟨c1, c2⟩ := bt
  have e := nI_sm (show i < 2 ^ 31 by omega)
  rw [Int32.le_iff_toInt_le] at hd
  have h2 : g.toInt = _ := congrArg Int32.toInt hg
  rw [cutI, sub_small (by omega) (by omega) (by omega) (by omega), add_small (by omega) (by omega) (by omega) (by omega), e] at h2
  omega
theorem near_d {w t g : Int32} {i : Nat} (bw : sm 0 40 w) (bt : sm (-1) 40 t) (hi : i ≤ 100) (hg : g = cutTo t (w - nI i) (w + nI i)) (h : ¬ g = t) (hd : t ≤ g) : g.toInt = w.toInt - i ∧ t.toInt < w.toInt - i := by
  obtain ⟨a1, a2⟩ := bw
  obtain ⟨c1, c2⟩ := bt
  have e := nI_sm (show i < 2 ^ 31 by omega)
  have hne : g.toInt ≠ t.toInt := fun z => h (Int32.toInt_inj.mp z)
  rw [Int32.le_iff_toInt_le] at hd
  have h2 : g.toInt = _ := congrArg Int32.toInt hg
  rw [cutI, sub_small (by omega) (by omega) (by omega) (by omega), add_small (by omega) (by omega) (by omega) (by omega), e] at h2
  omega
theorem near_us {w t g : Int32} {i : Nat} (bw : sm 0 40 w) (bt : sm (-1) 40 t) (hi : i ≤ 100) (hg : g = cutTo t (w - nI i) (w + nI i)) (h : ¬ g = t) (hd : ¬ t ≤ g) : g + 1 = cutTo t (w - nI (i + 1)) (w + nI (i + 1)) := by
  obtain ⟨h1, h2⟩ := near_u bw bt hi hg h hd
  obtain ⟨a1, a2⟩ := bw
  obtain ⟨c1, c2⟩ := bt
  have e := nI_sm (show i + 1 < 2 ^ 31 by omega)
  have e1 : (g + 1).toInt = g.toInt + 1 := by rw [add_small (by omega) (by omega) (by rw [I_1]; omega) (by rw [I_1]; omega), I_1]
  apply Int32.toInt_inj.mp
  rw [cutI, e1, sub_small (by omega) (by omega) (by omega) (by omega), add_small (by omega) (by omega) (by omega) (by omega), e]
  omega
theorem near_ds {w t g : Int32} {i : Nat} (bw : sm 0 40 w) (bt : sm (-1) 40 t) (hi : i ≤ 100) (hg : g = cutTo t (w - nI i) (w + nI i)) (h : ¬ g = t) (hd : t ≤ g) : g + (-1) = cutTo t (w - nI (i + 1)) (w + nI (i + 1)) := by
  obtain ⟨h1, h2⟩ := near_d bw bt hi hg h hd
  obtain ⟨a1, a2⟩ := bw
  obtain ⟨c1, c2⟩ := bt
  have e := nI_sm (show i + 1 < 2 ^ 31 by omega)
  have e1 : (g + (-1)).toInt = g.toInt - 1 := by
    rw [add_small (by omega) (by omega) (by rw [I_m1]; omega) (by rw [I_m1]; omega), I_m1]
    omega
  apply Int32.toInt_inj.mp
  rw [cutI, e1, sub_small (by omega) (by omega) (by omega) (by omega), add_small (by omega) (by omega) (by omega) (by omega), e]
  omega
/-- the next plank's distance from the wished one -/
theorem near_ua {w t g : Int32} {i : Nat} (bw : sm 0 40 w) (bt : sm (-1) 40 t) (hi : i ≤ 100) (hg : g = cutTo t (w - nI i) (w + nI i)) (h : ¬ g = t) (hd : ¬ t ≤ g) : (jabs (g + 1 - w)).toInt = i + 1 := by
  obtain ⟨h1, h2⟩ := near_u bw bt hi hg h hd
  obtain ⟨a1, a2⟩ := bw
  obtain ⟨c1, c2⟩ := bt
  have e1 : (g + 1).toInt = g.toInt + 1 := by rw [add_small (by omega) (by omega) (by rw [I_1]; omega) (by rw [I_1]; omega), I_1]
  have e2 : (g + 1 - w).toInt = g.toInt + 1 - w.toInt := by rw [sub_small (by omega) (by omega) (by omega) (by omega), e1]
  rcases jabsI (x := g + 1 - w) (by omega) (by omega) with z | z <;> omega
theorem near_da {w t g : Int32} {i : Nat} (bw : sm 0 40 w) (bt : sm (-1) 40 t) (hi : i ≤ 100) (hg : g = cutTo t (w - nI i) (w + nI i)) (h : ¬ g = t) (hd : t ≤ g) : (jabs (g + (-1) - w)).toInt = i + 1 := by
  obtain ⟨h1, h2⟩ := near_d bw bt hi hg h hd
  obtain ⟨a1, a2⟩ := bw
  obtain ⟨c1, c2⟩ := bt
  have e1 : (g + (-1)).toInt = g.toInt - 1 := by
    rw [add_small (by omega) (by omega) (by rw [I_m1]; omega) (by rw [I_m1]; omega), I_m1]
    omega
  have e2 : (g + (-1) - w).toInt = g.toInt - 1 - w.toInt := by rw [sub_small (by omega) (by omega) (by omega) (by omega), e1]
  rcases jabsI (x := g + (-1) - w) (by omega) (by omega) with z | z <;> omega
theorem near_out {w r t g x : Int32} {i : Nat} (bw : sm 0 40 w) (br : sm 0 20 r) (bt : sm (-1) 40 t) (hi : (i : Int) ≤ r.toInt) (hg : g = cutTo t (w - nI i) (w + nI i)) (hx : x.toInt = i + 1) (h : r < x) : g = nearW w r t := by
  rw [Int32.lt_iff_toInt_lt, hx] at h
  refine near_r bw br bt hi hg ?_
  obtain ⟨b1, b2⟩ := br
  rw [Int32.le_iff_toInt_le, nI_sm (show i < 2 ^ 31 by omega)]
  omega
theorem near_in {r x : Int32} {i : Nat} (hx : x.toInt = i + 1) (h : ¬ r < x) : ((i + 1 : Nat) : Int) ≤ r.toInt := by
  rw [Int32.lt_iff_toInt_lt, hx] at h
  omega
theorem near_go {r : Int32} {i : Nat} (hi : i ≤ 100) (h : ¬ r ≤ nI i) : ((i + 1 : Nat) : Int) ≤ r.toInt := by
  rw [Int32.le_iff_toInt_le, nI_sm (show i < 2 ^ 31 by omega)] at h
  omega
theorem near_0 (w t : Int32) (bw : sm 0 40 w) (bt : sm (-1) 40 t) : w = cutTo t (w - nI 0) (w + nI 0) := by
  obtain ⟨a1, a2⟩ := bw
  obtain ⟨c1, c2⟩ := bt
  have e := nI_sm (show 0 < 2 ^ 31 by omega)
  apply Int32.toInt_inj.mp
  rw [cutI, sub_small (by omega) (by omega) (by omega) (by omega), add_small (by omega) (by omega) (by omega) (by omega), e]
  omega
theorem near_b {w r t : Int32} (bw : sm 0 40 w) (br : sm 0 20 r) (bt : sm 0 40 t) : sm 0 40 (nearW w r t) := by
  obtain ⟨a1, a2⟩ := bw
  obtain ⟨b1, b2⟩ := br
  obtain ⟨c1, c2⟩ := bt
  unfold sm nearW
  rw [cutI, sub_small (by omega) (by omega) (by omega) (by omega), add_small (by omega) (by omega) (by omega) (by omega)]
  omega
theorem sm_w {lo hi lo' hi' : Int} {x : Int32} (h : sm lo hi x) (h1 : lo' ≤ lo) (h2 : hi ≤ hi') : sm lo' hi' x := ⟨by have := h.1; omega, by have := h.2; omega⟩
/-- the median by counting from below -/
def Below (f : Nat → Int32) (sel : Nat → Bool) (n p : Nat) (l : Int32) : Prop := l = nI (clt f sel (nI p) n) ∧ (tot sel n ≠ 0 → 2 * clt f sel (nI p) n < tot sel n)
theorem below_0 {f : Nat → Int32} {sel : Nat → Bool} {n : Nat} (hI : ∀ i, i < n → okD 41 (f i)) : Below f sel n 0 0 := by
  refine ⟨?_, fun h => ?_⟩
  · rw [clt_0 n hI]
    rfl
  · rw [clt_0 n hI]
    omega
theorem below_l {f g : Nat → Int32} {sel : Nat → Bool} {n p : Nat} {l : Int32} (hI : ∀ i, i < n → okD 41 (f i)) (hC : Cnt f sel n g) (h : Below f sel n p l) (hp : p < 41) : l + g p = nI (clt f sel (nI (p + 1)) n) := by
  rw [h.1, hC p hp, nI_add, clt_s (by omega) n hI]
theorem clt_le (f : Nat → Int32) (sel : Nat → Bool) (q : Int32) : ∀ n, clt f sel q n ≤ n
  | 0 => Nat.le_refl _
  | n + 1 => by
    have := clt_le f sel q n
    simp only [clt]
    split <;> omega
theorem nI_two {x : Nat} : 2 * nI x = nI (2 * x) := (Int32.ofNat_mul 2 x).symm
theorem below_s {f g : Nat → Int32} {sel : Nat → Bool} {n p : Nat} {l : Int32} (hn : n ≤ 12) (hI : ∀ i, i < n → okD 41 (f i)) (hC : Cnt f sel n g) (h : Below f sel n p l) (hp : p < 41) (h0 : nI (tot sel n) ≤ 0 ∨ 2 * (l + g p) < nI (tot sel n)) : Below f sel n (p + 1) (l + g p) := by
  have e := below_l hI hC h hp
  refine ⟨e, fun h1 => ?_⟩
  have h2 := tot_le sel n
  have h3 := clt_le f sel (nI (p + 1)) n
  rcases h0 with h0 | h0
  · exact absurd ((nI_leI (a := tot sel n) (b := 0) (by omega) (by omega)).mp h0) (by omega)
  · rw [e, nI_two] at h0
    exact (nI_ltI (by omega) (by omega)).mp h0
theorem below_r {f g : Nat → Int32} {sel : Nat → Bool} {n p : Nat} {l : Int32} (hn : n ≤ 12) (hI : ∀ i, i < n → okD 41 (f i)) (hC : Cnt f sel n g) (h : Below f sel n p l) (hp : p < 41) (h0 : ¬ nI (tot sel n) ≤ 0) (h1 : ¬ 2 * (l + g p) < nI (tot sel n)) : nI p = medM f sel n := by
  have e := below_l hI hC h hp
  have h2 := tot_le sel n
  have h3 := clt_le f sel (nI (p + 1)) n
  have hz : tot sel n ≠ 0 := fun z => h0 (by rw [z]; decide)
  have h4 := h.2 hz
  rw [e, nI_two] at h1
  have h5 : ¬ 2 * clt f sel (nI (p + 1)) n < tot sel n := fun z => h1 ((nI_ltI (by omega) (by omega)).mpr z)
  have h6 := clt_s (f := f) (sel := sel) (p := p) (by omega) n hI
  exact med_at (x := (tot sel n - 1) / 2 - clt f sel (nI p) n) (by omega) (by omega) hz
theorem below_41 {f : Nat → Int32} {sel : Nat → Bool} {n p : Nat} {l : Int32} (hI : ∀ i, i < n → okD 41 (f i)) (h : Below f sel n p l) (hp : p = 41) : tot sel n = 0 := nn fun z => by
  subst hp
  have := h.2 z
  rw [clt_41 (Nat.le_refl _) (by omega) n hI] at this
  omega
theorem v_neg {v : Int32} (hv : v = -1 ∨ okD 5 v) (h : v < 0) : v = -1 := hv.resolve_right fun z => by
  obtain ⟨j, hj, rfl⟩ := z
  exact nI_pos (by omega) h
theorem v_pos {v : Int32} (h : ¬ v < 0) : ¬ v = -1 := fun z => h (by rw [z]; decide)
/-- the greatest distance, as the simulation looks for it -/
def Far (f : Nat → Int32) (n i j : Nat) (r : Int32) : Prop := 0 ≤ r.toInt ∧ (∀ a b, a < n → b < n → (a < i ∨ (a = i ∧ b < j)) → (f a).toInt - (f b).toInt ≤ r.toInt) ∧ (r.toInt = 0 ∨ ∃ a b, a < n ∧ b < n ∧ r.toInt = (f a).toInt - (f b).toInt)
theorem far_0 (f : Nat → Int32) (n : Nat) : Far f n 0 0 0 := ⟨by decide, fun a b _ _ h => by omega, Or.inl rfl⟩
theorem far_s {f : Nat → Int32} {n i j : Nat} {r : Int32} (hI : ∀ i, i < n → okD 41 (f i)) (h : Far f n i j r) (hi : i < n) (hj : j < n) : Far f n i (j + 1) (jmax r (f i - f j)) := by
  obtain ⟨h0, h1, h2⟩ := h
  have bi := okD_int (by omega) (hI i hi)
  have bj := okD_int (by omega) (hI j hj)
  have e : (f i - f j).toInt = (f i).toInt - (f j).toInt := sub_small (by omega) (by omega) (by omega) (by omega)
  refine ⟨?_, fun a b ha hb c => ?_, ?_⟩
  · rw [jmaxI]; omega
  · rw [jmaxI, e]
    by_cases z : a = i ∧ b = j
    · rw [z.1, z.2]; omega
    · have := h1 a b ha hb (by omega)
      omega
  · rw [jmaxI, e]
    by_cases z : r.toInt ≤ (f i).toInt - (f j).toInt
    · exact Or.inr ⟨i, j, hi, hj, by omega⟩
    · rw [Int.max_eq_left (by omega)]
      exact h2
theorem far_n {f : Nat → Int32} {n i j : Nat} {r : Int32} (h : Far f n i j r) (hj : n ≤ j) : Far f n (i + 1) 0 r :=
  ⟨h.1, fun a b ha hb c => h.2.1 a b ha hb (by omega), h.2.2⟩
theorem end_at {f : Nat → Int32} {a : Int32} : ∀ n, (loEnd f a n = a ∨ ∃ i, i < n ∧ loEnd f a n = f i) ∧ (hiEnd f n = 0 ∨ ∃ i, i < n ∧ hiEnd f n = f i)
  | 0 => ⟨Or.inl rfl, Or.inl rfl⟩
  | n + 1 => by
    obtain ⟨h1, h2⟩ := end_at (f := f) (a := a) n
    rw [loEnd_s, hiEnd_s]
    constructor
    · unfold jmin
      split
      · exact Or.inr ⟨n, by omega, rfl⟩
      · rcases h1 with h1 | ⟨i, hi, h1⟩
        · exact Or.inl h1
        · exact Or.inr ⟨i, by omega, h1⟩
    · unfold jmax
      split
      · exact Or.inr ⟨n, by omega, rfl⟩
      · rcases h2 with h2 | ⟨i, hi, h2⟩
        · exact Or.inl h2
        · exact Or.inr ⟨i, by omega, h2⟩
/-- what the two ends of a bridge are -/
theorem ends_i {f : Nat → Int32} {n : Nat} (hI : ∀ i, i < n → okD 41 (f i)) (h : n ≠ 0) : (∃ i, i < n ∧ loEnd f 40 n = f i) ∧ (∃ i, i < n ∧ hiEnd f n = f i) := by
  obtain ⟨h1, h2⟩ := end_at (f := f) (a := 40) n
  have b0 := okD_int (by omega) (hI 0 (by omega))
  have e := end_in (f := f) (a := 40) n 0 (by omega)
  rw [Int32.le_iff_toInt_le, Int32.le_iff_toInt_le] at e
  constructor
  · rcases h1 with h1 | h1
    · refine ⟨0, by omega, ?_⟩
      apply Int32.toInt_inj.mp
      have e1 : (loEnd f 40 n).toInt = 40 := by rw [h1]; rfl
      omega
    · exact h1
  · rcases h2 with h2 | h2
    · refine ⟨0, by omega, ?_⟩
      apply Int32.toInt_inj.mp
      have e1 : (hiEnd f n).toInt = 0 := by rw [h2]; rfl
      omega
    · exact h2
theorem wideI {f : Nat → Int32} {n : Nat} (hI : ∀ i, i < n → okD 41 (f i)) (h : n ≠ 0) : (wide f n).toInt = (hiEnd f n).toInt - (loEnd f 40 n).toInt := by
  have e := end_in (f := f) (a := 40) n 0 (by omega)
  rw [Int32.le_iff_toInt_le, Int32.le_iff_toInt_le] at e
  have g := end_rg (f := f) (a := 40) (by decide) n hI
  unfold wide
  rw [jmaxI, sub_small (by omega) (by omega) (by omega) (by omega), show (0 : Int32).toInt = 0 from rfl]
  omega
theorem far_end {f : Nat → Int32} {n i j : Nat} {r : Int32} (hI : ∀ i, i < n → okD 41 (f i)) (h : Far f n i j r) (hi : n ≤ i) : r = wide f n := by
  obtain ⟨h0, h1, h2⟩ := h
  apply Int32.toInt_inj.mp
  by_cases hn : n = 0
  · subst hn
    rcases h2 with h2 | ⟨a, b, ha, -⟩
    · rw [h2]; rfl
    · omega
  · rw [wideI hI hn]
    obtain ⟨⟨a, ha, ea⟩, b, hb, eb⟩ := ends_i hI hn
    have k1 := h1 b a hb ha (Or.inl (by omega))
    have ea' : (loEnd f 40 n).toInt = (f a).toInt := by rw [ea]
    have eb' : (hiEnd f n).toInt = (f b).toInt := by rw [eb]
    rcases h2 with h2 | ⟨c, d, hc, hd, h2⟩
    · have e := end_in (f := f) (a := 40) n 0 (by omega)
      rw [Int32.le_iff_toInt_le, Int32.le_iff_toInt_le] at e
      omega
    · have e1 := end_in (f := f) (a := 40) n c hc
      have e2 := end_in (f := f) (a := 40) n d hd
      rw [Int32.le_iff_toInt_le, Int32.le_iff_toInt_le] at e1 e2
      omega
/-- two of two villages, as the simulation looks for them -/
def Two (f : Nat → Int32) (n i j : Nat) (r : Int32) : Prop := (r = 0 ∧ ∀ a b, a < n → b < n → (a < i ∨ (a = i ∧ b < j)) → f a = f b) ∨ (r = 1 ∧ ∃ a b, a < n ∧ b < n ∧ f a ≠ f b)
theorem two_0 (f : Nat → Int32) (n : Nat) : Two f n 0 0 0 := Or.inl ⟨rfl, fun a b _ _ h => by omega⟩
theorem two_ne {f : Nat → Int32} {n i j : Nat} {r : Int32} (h : Two f n i j r) (h0 : ¬ r = 0) : Two f n i (j + 1) 1 := h.elim (fun z => absurd z.1 h0) (fun z => Or.inr ⟨rfl, z.2⟩)
theorem two_go {f : Nat → Int32} {n i j : Nat} (hi : i < n) (hj : j < n) (h : ¬ f i = f j) : Two f n i (j + 1) 1 := Or.inr ⟨rfl, i, j, hi, hj, h⟩
theorem two_st {f : Nat → Int32} {n i j : Nat} {r : Int32} (h : Two f n i j r) (h0 : r = 0) (he : f i = f j) : Two f n i (j + 1) 0 := by
  rcases h with h | h
  · refine Or.inl ⟨rfl, fun a b ha hb c => ?_⟩
    by_cases z : a = i ∧ b = j
    · rw [z.1, z.2]; exact he
    · exact h.2 a b ha hb (by omega)
  · rw [h.1] at h0
    exact absurd h0 (by decide)
theorem two_n {f : Nat → Int32} {n i j : Nat} {r : Int32} (h : Two f n i j r) (hj : n ≤ j) : Two f n (i + 1) 0 r := by
  rcases h with h | h
  · exact Or.inl ⟨h.1, fun a b ha hb c => h.2 a b ha hb (by omega)⟩
  · exact Or.inr h
theorem two_end {f : Nat → Int32} {n i j : Nat} {r : Int32} (h : Two f n i j r) (hi : n ≤ i) : r = bP (twoV f n) := by
  rcases h with ⟨h, h1⟩ | ⟨h, a, b, ha, hb, h1⟩
  · rw [h]
    exact bP_f fun ⟨i, z1, z2, z3⟩ => z3 (h1 i (i - 1) (by omega) (by omega) (Or.inl (by omega)))
  · rw [h]
    refine bP_t (two_eq.mp (nn fun z => h1 ?_))
    have key : ∀ k, k < n → f k = f 0 := fun k hk => by
      by_cases c : k = 0
      · rw [c]
      · exact nn fun y => z ⟨k, by omega, hk, y⟩
    rw [key a ha, key b hb]
theorem wide_3 {f : Nat → Int32} {n : Nat} : wide f n < 3 ↔ wide f n ≤ 2 := by
  rw [Int32.lt_iff_toInt_lt, Int32.le_iff_toInt_le, show (3 : Int32).toInt = 3 from rfl, show (2 : Int32).toInt = 2 from rfl]
  omega
theorem crowd_p {f : Nat → Int32} {x v : Int32} {i : Nat} (hv : v = crowd f x i) (h : f i = x) : v + 1 = crowd f x (i + 1) := by rw [crowd_s, if_pos h, hv]
theorem crowd_n {f : Nat → Int32} {x v : Int32} {i : Nat} (hv : v = crowd f x i) (h : ¬ f i = x) : v + 0 = crowd f x (i + 1) := by rw [crowd_s, if_neg h, hv, Int32.add_zero]
theorem dis_s {fW : Nat → Int32} {x v : Int32} {i : Nat} (hv : v = disAll fW x i) (hW : okD 41 (fW i)) (hx : okD 41 x) : v + jabs (fW i - x) = disAll fW x (i + 1) := by rw [disAll_s, hv, jabs_sym hx hW]
theorem medM_F1 {f : Nat → Int32} {n : Nat} (hn : n ≤ 12) (fV : Nat → Int32) (h : n ≠ 0) : medM f (selM fV (-1) (-1)) n = midF f n := (medM_all hn).trans (midM_ne h)
/-! ===== a copy ===== -/
def CP (n i : Nat) (f g : Nat → Int32) : Prop := (∀ k, k < n → g k = f k) ∧ ∀ k, k < i → g (n + k) = f k
theorem cp_0 (n : Nat) (f : Nat → Int32) : CP n 0 f f := ⟨fun _ _ => rfl, fun k h => absurd h (Nat.not_lt_zero _)⟩
theorem cp_s {n i : Nat} {f g : Nat → Int32} (h : CP n i f g) (hi : i < n) : CP n (i + 1) f (upd g (n + i) (g i)) := by
  refine ⟨fun k hk => ?_, fun k hk => ?_⟩
  · rw [pk_un (by omega)]
    exact h.1 k hk
  · by_cases c : k = i
    · subst c
      rw [pk_us]
      exact h.1 k hi
    · rw [pk_un (by omega)]
      exact h.2 k (by omega)
theorem cp_ref {n i q : Nat} {ax : Nat → Nat} : va_up (refsF i (fun k => ax (n + k))) i (some q) = refsF (i + 1) (fun k => va_up ax (n + i) q (n + k)) := by
  rw [refsF_s]
  refine refsF_congr (fun k hk => ?_)
  by_cases c : k = i
  · subst c
    simp [va_up]
  · rw [va_up_ne _ _ c, va_up_ne _ _ (by omega)]
theorem rowsC_split {cA : ClassId} {n : Nat} {ad ax : Nat → Nat} {V W R P K Vx Wx Rx Px Kx : Nat → Int32} (hA : ∀ k, k < n → ax k = ad k) (h1 : CP n n V Vx) (h2 : CP n n W Wx) (h3 : CP n n R Rx) (h4 : CP n n P Px) (h5 : CP n n K Kx) : rowsC cA (n + n) ax Vx Wx Rx Px Kx = rowsC cA n ad V W R P K ++ rowsC cA n (fun k => ax (n + k)) V W R P K := by
  apply List.ext_getElem?
  intro j
  by_cases c : j < n
  · rw [List.getElem?_append_left (by rw [rowsC_len]; exact c), rowsC_at (by omega), rowsC_at c, hA j c, h1.1 j c, h2.1 j c, h3.1 j c, h4.1 j c, h5.1 j c]
  · rw [List.getElem?_append_right (by rw [rowsC_len]; omega), rowsC_len]
    by_cases d : j < n + n
    · obtain ⟨i, rfl⟩ : ∃ i, j = n + i := ⟨j - n, by omega⟩
      rw [Nat.add_sub_cancel_left, rowsC_at d, rowsC_at (show i < n by omega), h1.2 i (by omega), h2.2 i (by omega), h3.2 i (by omega), h4.2 i (by omega), h5.2 i (by omega)]
    · rw [rowsC_no (by omega), rowsC_no (by omega)]
theorem cp_P {D : va_G} {X Y T1 T2 : va_W} {H : Heap} (h : va_P D vwCl ((X ++ Y) ++ (T1 ++ T2)) H) : va_P D vwCl (X ++ (T1 ++ (Y ++ T2))) H := by
  have h1 : va_P D vwCl (((X ++ Y) ++ T1) ++ T2) H := by rw [List.append_assoc (X ++ Y)]; exact h
  have h2 : va_P D vwCl (((X ++ Y) ++ T2) ++ T1) H := h1.swap
  have h3 : va_P D vwCl ((X ++ (Y ++ T2)) ++ T1) H := by rw [← List.append_assoc X]; exact h2
  have h4 : va_P D vwCl ((X ++ T1) ++ (Y ++ T2)) H := h3.swap
  rw [List.append_assoc] at h4
  exact h4
theorem cp_D {A : Nat → Prop} {X Y T1 T2 : va_W} (h : va_D A ((X ++ Y) ++ (T1 ++ T2))) : va_D A (X ++ (T1 ++ (Y ++ T2))) := by
  have h1 : va_D A (((X ++ Y) ++ T1) ++ T2) := by rw [List.append_assoc (X ++ Y)]; exact h
  have h2 : va_D A (((X ++ Y) ++ T2) ++ T1) := h1.swap
  have h3 : va_D A ((X ++ (Y ++ T2)) ++ T1) := by rw [← List.append_assoc X]; exact h2
  have h4 : va_D A ((X ++ T1) ++ (Y ++ T2)) := h3.swap
  rw [List.append_assoc] at h4
  exact h4
/-! ===== what the simulation is asked at the end ===== -/
theorem tot_has {sel : Nat → Bool} {i : Nat} (hs : sel i = true) : ∀ n, i < n → tot sel n ≠ 0
  | 0, h => absurd h (Nat.not_lt_zero _)
  | n + 1, h => by
    rw [tot_s]
    by_cases c : i = n
    · subst c
      rw [if_pos hs]
      omega
    · have := tot_has hs n (by omega)
      omega
theorem without_eq {fV f : Nat → Int32} {n i : Nat} (hn : n ≤ 12) (hi : i < n) (h1 : 1 < n) : medF f (selX i) n = medM f (selM fV (-1) (nI i)) n := by
  rw [medM_X hn hi, medM_F]
  rw [tot_selX, if_pos hi]
  omega
theorem of_eq {fV f : Nat → Int32} {n i : Nat} (hn : n ≤ 12) (hi : i < n) (hv : okD 5 (fV i)) : medF f (selV fV (fV i)) n = medM f (selM fV (fV i) (-1)) n := by
  rw [medM_V hn hv, medM_F]
  exact tot_has (i := i) (by simp [selV]) n hi
set_option maxRecDepth 100000 in
theorem fp_b : ∀ n, n < 13 → ∀ x, x < 481 → n ≠ 0 → Op.cmpValue (FP.dcmp (FP.ddiv (FP.i2d (nI x)) (FP.i2d (nI n))) (FP.ddiv (FP.i2d (nI x)) (FP.i2d (nI n)))) .l = 0 := by decide +kernel
theorem fp_0 : Op.cmpValue (FP.dcmp FP.dconst0 FP.dconst0) .l = 0 := by decide +kernel
theorem mean_c {f : Nat → Int32} {n : Nat} (hn : n ≤ 12) (hI : ∀ i, i < n → okD 41 (f i)) : Op.cmpValue (FP.dcmp (meanD f n) (meanD f n)) .l = 0 := by
  by_cases h : n = 0
  · rw [← mean_0 h]
    exact fp_0
  · obtain ⟨x, hx, e⟩ := sumF_le n hI
    rw [← mean_s h, e]
    exact fp_b n (by omega) x (by omega) h
