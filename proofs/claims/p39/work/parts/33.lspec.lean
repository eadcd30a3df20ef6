/-! ===== what the law asks of every bridge ===== -/
theorem crowd_N (f : Nat → Int32) (x : Int32) : ∀ n, crowd f x n = nI (ceq f allS x n)
  | 0 => rfl
  | n + 1 => by
    rw [crowd_s, ceq_s, crowd_N f x n]
    by_cases h : f n = x
    · rw [if_pos h, if_pos ⟨rfl, h⟩, nI_1]
    · rw [if_neg h, if_neg (fun z => h z.2), Nat.add_zero]
/-- all who stand on planks -/
def allOn (f : Nat → Int32) (n : Nat) : Nat → Int32
  | 0 => 0
  | p + 1 => allOn f n p + crowd f (nI p) n
theorem allOn_s (f : Nat → Int32) (n p : Nat) : allOn f n (p + 1) = allOn f n p + crowd f (nI p) n := rfl
theorem allOn_N {f : Nat → Int32} {n : Nat} (hI : ∀ i, i < n → okD 41 (f i)) : ∀ p, p ≤ 50 → allOn f n p = nI (clt f allS (nI p) n)
  | 0, _ => by
    rw [clt_0 n hI]
    rfl
  | p + 1, hp => by
    rw [allOn_s, allOn_N hI p (by omega), crowd_N, nI_add, clt_s (by omega) n hI]
theorem allOn_41 {f : Nat → Int32} {n p : Nat} (hI : ∀ i, i < n → okD 41 (f i)) (hp : p = 41) : allOn f n p = nI n := by
  subst hp
  rw [allOn_N hI 41 (by omega), clt_41 (Nat.le_refl _) (by omega) n hI, tot_all]
theorem crowd_pos {f : Nat → Int32} {n i : Nat} {x : Int32} (hn : n ≤ 12) (hi : i < n) (hx : f i = x) : ¬ crowd f x n < 1 := by
  have key : ∀ m, i < m → ceq f allS x m ≠ 0 := by
    intro m
    induction m with
    | zero => intro h; omega
    | succ m ih =>
      intro h
      rw [ceq_s]
      by_cases c : i = m
      · subst c
        rw [if_pos ⟨rfl, hx⟩]
        omega
      · have := ih (by omega)
        omega
  have h1 := key n hi
  have h2 := ceq_le f allS x n
  rw [crowd_N]
  intro h
  have := (nI_ltI (a := ceq f allS x n) (b := 1) (by omega) (by omega)).mp h
  omega
/-- below, and above, the compromise -/
def lowF (f : Nat → Int32) (t : Int32) (n : Nat) : Int32 := foldN (fun i c => if f i < t then c + 1 else c + 0) 0 n
theorem lowF_1 {f : Nat → Int32} {t v : Int32} {i : Nat} (hv : v = lowF f t i) (h : f i < t) : v + 1 = lowF f t (i + 1) := by
  show _ = (if f i < t then lowF f t i + 1 else lowF f t i + 0)
  rw [if_pos h, hv]
theorem lowF_0 {f : Nat → Int32} {t v : Int32} {i : Nat} (hv : v = lowF f t i) (h : ¬ f i < t) : v + 0 = lowF f t (i + 1) := by
  show _ = (if f i < t then lowF f t i + 1 else lowF f t i + 0)
  rw [if_neg h, hv]
def aboF (f : Nat → Int32) (t : Int32) (n : Nat) : Int32 := foldN (fun i c => if t < f i then c + 1 else c + 0) 0 n
theorem aboF_1 {f : Nat → Int32} {t v : Int32} {i : Nat} (hv : v = aboF f t i) (h : t < f i) : v + 1 = aboF f t (i + 1) := by
  show _ = (if t < f i then aboF f t i + 1 else aboF f t i + 0)
  rw [if_pos h, hv]
theorem aboF_0 {f : Nat → Int32} {t v : Int32} {i : Nat} (hv : v = aboF f t i) (h : ¬ t < f i) : v + 0 = aboF f t (i + 1) := by
  show _ = (if t < f i then aboF f t i + 1 else aboF f t i + 0)
  rw [if_neg h, hv]
theorem lowF_N (f : Nat → Int32) (t : Int32) : ∀ n, lowF f t n = nI (clt f allS t n)
  | 0 => rfl
  | n + 1 => by
    by_cases h : f n < t
    · rw [← lowF_1 rfl h, lowF_N f t n, nI_1]
      simp [clt, allS, h]
    · rw [← lowF_0 rfl h, lowF_N f t n, Int32.add_zero]
      simp [clt, h]
theorem aboF_N (f : Nat → Int32) (t : Int32) : ∀ n, aboF f t n = nI (n - cle f allS t n)
  | 0 => rfl
  | n + 1 => by
    have hc := cle_le f allS t n
    by_cases h : t < f n
    · have h1 : ¬ f n ≤ t := Int32.not_le.mpr h
      rw [← aboF_1 rfl h, aboF_N f t n, nI_1]
      simp only [cle]
      rw [if_neg (fun z => h1 z.2)]
      congr 1
      omega
    · have h1 : f n ≤ t := Int32.not_lt.mp h
      rw [← aboF_0 rfl h, aboF_N f t n, Int32.add_zero]
      simp only [cle]
      rw [if_pos ⟨rfl, h1⟩]
      congr 1
      omega
theorem low_half {f : Nat → Int32} {n : Nat} (hn : n ≤ 12) (h0 : n ≠ 0) (hI : ∀ i, i < n → okD 41 (f i)) : ¬ nI n ≤ 2 * lowF f (midF f n) n := by
  rw [lowF_N, nI_two]
  have h1 := clt_le f allS (midF f n) n
  intro h
  have h2 := (nI_leI (by omega) (by omega)).mp h
  have hm := mid_is (f := f) h0
  obtain ⟨m, hm41, em⟩ := mid_ok hI h0
  rw [em] at hm h2
  have hm : ∀ q : Int32, nI m ≤ q ↔ (tot allS n - 1) / 2 < cle f allS q n := hm
  rw [tot_all] at hm
  by_cases z : m = 0
  · subst z
    rw [clt_0 n hI] at h2
    omega
  · have e1 := clt_s (f := f) (sel := allS) (p := m - 1) (by omega) n hI
    rw [show m - 1 + 1 = m by omega] at e1
    have e2 := (cle_clt (f := f) (sel := allS) (q := nI (m - 1)) (r := nI (m - 1)) n).2 (Int32.le_refl _)
    have e3 : ¬ (n - 1) / 2 < cle f allS (nI (m - 1)) n := fun y => by
      have := (nI_leI (by omega) (by omega)).mp ((hm (nI (m - 1))).mpr y)
      omega
    omega
theorem abo_half {f : Nat → Int32} {n : Nat} (hn : n ≤ 12) (h0 : n ≠ 0) : ¬ nI n < 2 * aboF f (midF f n) n := by
  rw [aboF_N, nI_two]
  have hm := (mid_is (f := f) h0 (midF f n)).mp (Int32.le_refl _)
  rw [tot_all] at hm
  intro h
  have h2 := (nI_ltI (by omega) (by omega)).mp h
  omega
theorem dec_ex {f : Nat → Int32} {n : Nat} (h0 : n ≠ 0) : ∃ k, k < n ∧ decF f n = nI k ∧ f k = midF f n := by
  have key : ∀ m, (∃ k, k < m ∧ f k = midF f n) → ∃ k, k < m ∧ f k = midF f n ∧ ∀ j, j < k → f j ≠ midF f n := by
    intro m
    induction m with
    | zero => rintro ⟨k, h, -⟩; omega
    | succ m ih =>
      rintro ⟨k, h1, h2⟩
      by_cases c : ∃ k, k < m ∧ f k = midF f n
      · obtain ⟨k', a, b, d⟩ := ih c
        exact ⟨k', by omega, b, d⟩
      · have e : k = m := nn fun z => c ⟨k, by omega, h2⟩
        subst e
        exact ⟨k, by omega, h2, fun j hj z => c ⟨j, hj, z⟩⟩
  obtain ⟨k, a, b, d⟩ := key n (mid_mem h0)
  exact ⟨k, a, dec_is a b d, b⟩
theorem wide_e {f : Nat → Int32} {n : Nat} (hI : ∀ i, i < n → okD 41 (f i)) (h : n ≠ 0) : wide f n = hiEnd f n - loEnd f 40 n := by
  have g := end_rg (f := f) (a := 40) (by decide) n hI
  apply Int32.toInt_inj.mp
  rw [wideI hI h, sub_small (by omega) (by omega) (by omega) (by omega)]
theorem mid_lo {f : Nat → Int32} {n : Nat} (h : n ≠ 0) : ¬ midF f n < loEnd f 40 n := by
  obtain ⟨k, a, b⟩ := mid_mem (f := f) h
  rw [← b]
  exact Int32.not_lt.mpr (end_in n k a).1
theorem mid_hi {f : Nat → Int32} {n : Nat} (h : n ≠ 0) : midF f n ≤ hiEnd f n := by
  obtain ⟨k, a, b⟩ := mid_mem (f := f) h
  rw [← b]
  exact (end_in (a := 40) n k a).2
/-- the best plank -/
theorem best_ok (fW : Nat → Int32) (n : Nat) : okD 41 (bestPl fW n) := by
  obtain ⟨m, a, b, -⟩ := best_is fW n
  exact ⟨m, by omega, b⟩
theorem best_le {fW : Nat → Int32} {n : Nat} {x : Int32} (hx : okD 41 x) : ¬ disAll fW x n < disAll fW (bestPl fW n) n := by
  obtain ⟨m, a, b, c⟩ := best_is fW n
  obtain ⟨p, hp, rfl⟩ := hx
  rw [b]
  exact Int32.not_lt.mpr (c p (Nat.zero_le _) (by omega)).1
theorem best_first {fW : Nat → Int32} {n : Nat} {x : Int32} (hx : okD 41 x) (he : disAll fW x n = disAll fW (bestPl fW n) n) : ¬ x < bestPl fW n := by
  obtain ⟨m, a, b, c⟩ := best_is fW n
  obtain ⟨p, hp, rfl⟩ := hx
  rw [b] at he ⊢
  have h1 : disAll fW (nI p) n ≤ disAll fW (nI m) n := by
    rw [he]
    exact Int32.le_refl _
  have := (c p (Nat.zero_le _) (by omega)).2 h1
  intro z
  have := (nI_ltI (by omega) (by omega)).mp z
  omega
/-- votes -/
theorem votes_two (fW : Nat → Int32) (x y : Int32) : ∀ n, ∃ a b, a + b ≤ n ∧ votes fW x y n = nI a ∧ votes fW y x n = nI b
  | 0 => ⟨0, 0, Nat.le_refl _, rfl, rfl⟩
  | n + 1 => by
    obtain ⟨a, b, h, e1, e2⟩ := votes_two fW x y n
    rw [votes_s, votes_s, e1, e2]
    by_cases c : jabs (x - fW n) < jabs (y - fW n)
    · rw [if_pos c, if_neg (Int32.not_lt.mpr (Int32.le_of_lt c))]
      exact ⟨a + 1, b, by omega, nI_1 a, rfl⟩
    · rw [if_neg c]
      by_cases d : jabs (y - fW n) < jabs (x - fW n)
      · rw [if_pos d]
        exact ⟨a, b + 1, by omega, rfl, nI_1 b⟩
      · rw [if_neg d]
        exact ⟨a, b, by omega, rfl, rfl⟩
theorem votes_pos {fW : Nat → Int32} {x y : Int32} {n : Nat} (hn : n ≤ 12) : ¬ votes fW x y n < 0 := by
  obtain ⟨a, b, h, e1, e2⟩ := votes_two fW x y n
  rw [e1]
  exact nI_pos (by omega)
theorem votes_sum {fW : Nat → Int32} {x y : Int32} {n : Nat} (hn : n ≤ 12) : ¬ nI n < votes fW x y n + votes fW y x n := by
  obtain ⟨a, b, h, e1, e2⟩ := votes_two fW x y n
  rw [e1, e2, nI_add]
  intro z
  have := (nI_ltI (by omega) (by omega)).mp z
  omega
theorem win_a {va vb a b : Int32} (h : ¬ va ≤ vb) : winF va vb a b = a := by
  have h1 : vb < va := Int32.not_le.mp h
  have h2 : ¬ va = vb := fun z => h (by rw [z]; exact Int32.le_refl _)
  simp [winF, h1, h2]
theorem win_b {va vb a b : Int32} (h : va ≤ vb) (h1 : ¬ vb ≤ va) : winF va vb a b = b := by
  have h2 : ¬ va = vb := fun z => h1 (by rw [z]; exact Int32.le_refl _)
  have h3 : ¬ vb < va := Int32.not_lt.mpr h
  simp [winF, h2, h3]
theorem win_c {va vb a b : Int32} (h : va ≤ vb) (h1 : vb ≤ va) : winF va vb a b = jmin a b := by
  have h2 : va = vb := Int32.le_antisymm h h1
  simp [winF, h2]
/-- a round -/
theorem rnds_1 {fW fR fP : Nat → Int32} {n : Nat} {st : Int32} {f : Nat → Int32} : (rnds fW fR fP n st f 1).1 = rndF fW fR fP n st f ∧ (rnds fW fR fP n st f 1).2 = rndM fW fR fP n st f := by
  rw [show rnds fW fR fP n st f 1 = (rndF fW fR fP n st (rnds fW fR fP n st f 0).1, (rnds fW fR fP n st f 0).2 + rndM fW fR fP n st (rnds fW fR fP n st f 0).1) from rfl, rnds_0]
  exact ⟨rfl, Int32.zero_add _⟩
noncomputable def movF (f g : Nat → Int32) (n : Nat) : Int32 := foldN (fun i c => c + bP (¬ g i = f i)) 0 n
theorem movF_s (f g : Nat → Int32) (i : Nat) : movF f g (i + 1) = movF f g i + bP (¬ g i = f i) := rfl
theorem movF_congr {f g h : Nat → Int32} : ∀ n, (∀ i, i < n → g i = h i) → movF f g n = movF f h n
  | 0, _ => rfl
  | n + 1, e => by rw [movF_s, movF_s, movF_congr n (fun i hi => e i (by omega)), e n (by omega)]
theorem turns_all {fW fR fP f : Nat → Int32} {n : Nat} {st : Int32} : ∀ k, (∀ i, k ≤ i → (turns fW fR fP n st f k).1 i = f i) ∧ (turns fW fR fP n st f k).2 = movF f (turns fW fR fP n st f k).1 k ∧ ∀ i, i < k → (turns fW fR fP n st f k).1 i = f i ∨ (turns fW fR fP n st f k).1 i = stepC (fW i) (fR i) (fP i) (f i) (midF f n)
  | 0 => by
    rw [turns_0]
    exact ⟨fun _ _ => rfl, rfl, fun i h => absurd h (Nat.not_lt_zero _)⟩
  | k + 1 => by
    obtain ⟨h1, h2, h3⟩ := turns_all (fW := fW) (fR := fR) (fP := fP) (f := f) (n := n) (st := st) k
    rw [turns_s]
    generalize turns fW fR fP n st f k = q at h1 h2 h3 ⊢
    unfold turnF
    have ek := h1 k (Nat.le_refl _)
    obtain ⟨x, hx⟩ : ∃ x, x = stepC (fW k) (fR k) (fP k) (q.1 k) (midF f n) := ⟨_, rfl⟩
    rw [← hx]
    by_cases c : x ≠ q.1 k ∧ crowd q.1 x n < st
    · rw [if_pos c]
      refine ⟨fun i hi => ?_, ?_, fun i hi => ?_⟩
      · show upd q.1 k x i = f i
        rw [pk_un (by omega)]
        exact h1 i (by omega)
      · show q.2 + 1 = movF f (upd q.1 k x) (k + 1)
        have e3 : movF f q.1 k = movF f (upd q.1 k x) k := movF_congr k (fun i hi => (pk_un (by omega)).symm)
        have e4 : (1 : Int32) = bP (¬ x = f k) := bP_t (fun z => c.1 (z.trans ek.symm))
        rw [movF_s, pk_us, ← e4, h2, e3]
      · show upd q.1 k x i = f i ∨ upd q.1 k x i = stepC (fW i) (fR i) (fP i) (f i) (midF f n)
        by_cases e : i = k
        · rw [e, pk_us, hx, ek]
          exact Or.inr rfl
        · rw [pk_un e]
          exact h3 i (by omega)
    · rw [if_neg c]
      refine ⟨fun i hi => h1 i (by omega), ?_, fun i hi => ?_⟩
      · have e4 : (0 : Int32) = bP (¬ q.1 k = f k) := bP_f (not_not_intro ek)
        rw [movF_s, h2, ← e4, Int32.add_zero]
      · by_cases e : i = k
        · subst e
          exact Or.inl (h1 i (Nat.le_refl _))
        · exact h3 i (by omega)
theorem mov_eq {fW fR fP f : Nat → Int32} {n i : Nat} {st : Int32} (hi : i = n) : movF f (rndF fW fR fP n st f) i = rndM fW fR fP n st f := by
  subst hi
  exact (turns_all i).2.1.symm
theorem rnd_at {fW fR fP f : Nat → Int32} {n i : Nat} {st : Int32} (hi : i < n) (h : ¬ rndF fW fR fP n st f i = f i) : rndF fW fR fP n st f i = stepC (fW i) (fR i) (fP i) (f i) (midF f n) := ((turns_all n).2.2 i hi).resolve_left h
theorem jabsD {a b : Int32} (ha : sm 0 40 a) (hb : sm 0 40 b) : (jabs (a - b)).toInt = max (a.toInt - b.toInt) (b.toInt - a.toInt) := by
  obtain ⟨a1, a2⟩ := ha
  obtain ⟨b1, b2⟩ := hb
  have e : (a - b).toInt = a.toInt - b.toInt := sub_small (by omega) (by omega) (by omega) (by omega)
  rcases jabsI (x := a - b) (by omega) (by omega) with z | z <;> omega
theorem step_I {w r p k t x : Int32} (bw : sm 0 40 w) (br : sm 0 20 r) (bp : sm 1 5 p) (bk : sm 0 40 k) (bt : sm 0 40 t) (hx : x = stepC w r p k t) :
    sm 0 40 x ∧ jabs (x - k) ≤ p ∧ (jabs (k - w) ≤ r → jabs (x - w) ≤ r) ∧ (¬ jabs (k - w) ≤ r → jabs (x - w) ≤ jabs (k - w)) ∧ (jabs (k - w) ≤ r → x ≠ k → jabs (x - t) < jabs (k - t)) := by
  have hw := id bw
  have hk := id bk
  have ht := id bt
  obtain ⟨w1, w2⟩ := bw
  obtain ⟨r1, r2⟩ := br
  obtain ⟨p1, p2⟩ := bp
  obtain ⟨k1, k2⟩ := bk
  obtain ⟨t1, t2⟩ := bt
  have ex : x.toInt = max (k.toInt - p.toInt) (min (max (w.toInt - r.toInt) (min t.toInt (w.toInt + r.toInt))) (k.toInt + p.toInt)) := by
    rw [hx]
    unfold stepC nearW
    rw [cutI, cutI, sub_small (by omega) (by omega) (by omega) (by omega), sub_small (by omega) (by omega) (by omega) (by omega), add_small (by omega) (by omega) (by omega) (by omega), add_small (by omega) (by omega) (by omega) (by omega)]
  have bx : sm 0 40 x := ⟨by omega, by omega⟩
  have e1 := jabsD bx hk
  have e2 := jabsD hk hw
  have e3 := jabsD bx hw
  have e4 := jabsD bx ht
  have e5 := jabsD hk ht
  refine ⟨bx, ?_, ?_, ?_, ?_⟩
  · rw [Int32.le_iff_toInt_le, e1]
    omega
  · rw [Int32.le_iff_toInt_le, Int32.le_iff_toInt_le, e2, e3]
    intro h
    omega
  · rw [Int32.le_iff_toInt_le, Int32.le_iff_toInt_le, e2, e3]
    intro h
    omega
  · rw [Int32.le_iff_toInt_le, Int32.lt_iff_toInt_lt, e2, e4, e5]
    intro h hne
    have hne' : x.toInt ≠ k.toInt := fun z => hne (Int32.toInt_inj.mp z)
    omega
/-- what a round does to one of them -/
theorem rnd_I {fW fR fP f : Nat → Int32} {n i : Nat} {st : Int32} (hV : Inv fW fR fP f n) (hi : i < n) :
    (¬ rndF fW fR fP n st f i = f i → jabs (rndF fW fR fP n st f i - f i) ≤ fP i) ∧ (jabs (f i - fW i) ≤ fR i → jabs (rndF fW fR fP n st f i - fW i) ≤ fR i) ∧ (¬ jabs (f i - fW i) ≤ fR i → jabs (rndF fW fR fP n st f i - fW i) ≤ jabs (f i - fW i)) ∧ (¬ rndF fW fR fP n st f i = f i → jabs (f i - fW i) ≤ fR i → jabs (rndF fW fR fP n st f i - midF f n) < jabs (f i - midF f n)) := by
  have h := hV i hi
  by_cases c : rndF fW fR fP n st f i = f i
  · refine ⟨fun z => absurd c z, fun z => by rw [c]; exact z, fun z => by rw [c]; exact Int32.le_refl _, fun z => absurd c z⟩
  · have g := step_I (sm_w (sm_D (by omega) h.1) (by omega) (by omega)) (sm_w (sm_B (by omega) h.2.1) (by omega) (by omega)) (sm_w (sm_B (by omega) h.2.2.1) (by omega) (by omega)) (sm_w (sm_D (by omega) h.2.2.2) (by omega) (by omega)) (sm_w (sm_D (by omega) (mid_ok hV.K (by omega))) (by omega) (by omega)) (rnd_at (st := st) hi c)
    exact ⟨fun _ => g.2.1, g.2.2.1, g.2.2.2.1, fun z y => g.2.2.2.2 y z⟩
