/-! settle ends: Bland's rule, Cramer's rule, small numbers -/
/-- seven of them -/
def S7 (f : Nat → Rat) : Rat := f 0 + f 1 + f 2 + f 3 + f 4 + f 5 + f 6
theorem lt7 {r : Nat} (h : r < 7) : r = 0 ∨ r = 1 ∨ r = 2 ∨ r = 3 ∨ r = 4 ∨ r = 5 ∨ r = 6 := by omega
theorem S7_congr {f g : Nat → Rat} (h : ∀ i, i < 7 → f i = g i) : S7 f = S7 g := by
  simp only [S7, h 0 (by decide), h 1 (by decide), h 2 (by decide), h 3 (by decide), h 4 (by decide), h 5 (by decide), h 6 (by decide)]
theorem S7_add (f g : Nat → Rat) : S7 (fun i => f i + g i) = S7 f + S7 g := by simp only [S7]; grind
theorem S7_mul (f : Nat → Rat) (x : Rat) : S7 (fun i => f i * x) = S7 f * x := by simp only [S7]; grind
theorem S7_sub (f g : Nat → Rat) : S7 (fun i => f i - g i) = S7 f - S7 g := by simp only [S7]; grind
/-- one of them apart -/
theorem S7_one {f : Nat → Rat} {r : Nat} (h : r < 7) : S7 f = S7 (fun i => if i = r then 0 else f i) + f r := by
  rcases lt7 h with rfl | rfl | rfl | rfl | rfl | rfl | rfl <;> simp [S7] <;> grind
theorem S7_only {f : Nat → Rat} {r : Nat} (h : r < 7) (h0 : ∀ i, i < 7 → i ≠ r → f i = 0) : S7 f = f r := by
  rw [S7_one h]
  have : S7 (fun i => if i = r then 0 else f i) = S7 (fun _ => 0) := S7_congr (fun i hi => by by_cases e : i = r <;> simp [e]; exact h0 i hi e)
  rw [this]; simp only [S7]; grind
theorem S7_nn {f : Nat → Rat} (h : ∀ i, i < 7 → 0 ≤ f i) : 0 ≤ S7 f := by
  have a0 := h 0 (by decide); have a1 := h 1 (by decide); have a2 := h 2 (by decide); have a3 := h 3 (by decide); have a4 := h 4 (by decide); have a5 := h 5 (by decide); have a6 := h 6 (by decide)
  simp only [S7]; grind
theorem S7_le {f : Nat → Rat} (h : ∀ i, i < 7 → f i ≤ 0) : S7 f ≤ 0 := by
  have a0 := h 0 (by decide); have a1 := h 1 (by decide); have a2 := h 2 (by decide); have a3 := h 3 (by decide); have a4 := h 4 (by decide); have a5 := h 5 (by decide); have a6 := h 6 (by decide)
  simp only [S7]; grind
theorem S7_pos {f : Nat → Rat} (h : 0 < S7 f) : ∃ i, i < 7 ∧ 0 < f i := by
  apply Classical.byContradiction
  intro q
  have := S7_le (f := f) (fun i hi => by
    have : ¬ 0 < f i := fun z => q ⟨i, hi, z⟩
    grind)
  grind
/-- the pivot, of rows and places -/
def pv (T : Nat → Nat → Rat) (r c : Nat) : Nat → Nat → Rat := fun i j => if i = r then T r j / T r c else T i j - T i c * (T r j / T r c)
/-- a row that is made of the tableau's rows -/
def RS (T : Nat → Nat → Rat) (b : Nat → Nat) (w : Nat → Rat) : Prop := ∀ j, j < 72 → w j = S7 (fun i => w (b i) * T i j)
theorem rs_pv {T : Nat → Nat → Rat} {b : Nat → Nat} {w : Nat → Rat} {r c : Nat} (hr : r < 7) (hc : c < 72) (hp : T r c ≠ 0) (h : RS T b w) : RS (pv T r c) (upN b r c) w := by
  intro j hj
  have e1 := h j hj
  have e2 := h c hc
  have hX : T r j / T r c * T r c = T r j := by grind
  generalize hx : T r j / T r c = X at hX
  have key : S7 (fun i => w (upN b r c i) * pv T r c i j) = S7 (fun i => w (b i) * T i j) - S7 (fun i => w (b i) * T i c) * X + w c * X := by
    rw [S7_one hr, S7_one (f := fun i => w (b i) * T i j) hr, S7_one (f := fun i => w (b i) * T i c) hr]
    have a1 : S7 (fun i => if i = r then 0 else w (upN b r c i) * pv T r c i j) = S7 (fun i => if i = r then 0 else w (b i) * T i j) - S7 (fun i => if i = r then 0 else w (b i) * T i c) * X := by
      rw [← S7_mul, ← S7_sub]
      apply S7_congr
      intro i hi
      by_cases e : i = r
      · simp only [e, if_true]; grind
      · simp only [e, if_false, upN, pv, hx]; grind
    rw [a1]
    have a2 : w (upN b r c r) * pv T r c r j = w c * X := by simp [upN, pv, hx]
    rw [a2]
    grind
  rw [key, ← e1, ← e2]
  grind

/-- what a tableau keeps: basis columns, goal row, amounts -/
def Tab (T : Nat → Nat → Rat) (b : Nat → Nat) : Prop := (∀ k, k < 7 → b k < 71) ∧ (∀ i k, i < 7 → k < 7 → T i (b k) = if i = k then 1 else 0) ∧ ∀ k, k < 7 → T 7 (b k) = 0
theorem tab_pv {T : Nat → Nat → Rat} {b : Nat → Nat} {r c : Nat} (hr : r < 7) (hc : c < 71) (hp : T r c ≠ 0) (h : Tab T b) : Tab (pv T r c) (upN b r c) := by
  refine ⟨fun k hk => ?_, fun i k hi hk => ?_, fun k hk => ?_⟩
  · unfold upN; split
    · exact hc
    · exact h.1 k hk
  · by_cases e : k = r
    · subst e
      by_cases e2 : i = k
      · subst e2; simp [upN, pv]; grind
      · simp only [upN, if_true, pv, e2, if_false]; grind
    · have h1 := h.2.1 i k hi hk
      have h2 := h.2.1 r k hr hk
      simp only [upN, e, if_false, pv]
      rw [if_neg (fun q => e q.symm)] at h2
      by_cases e2 : i = r
      · subst e2
        simp only [if_true]
        rw [h2, if_neg (fun q => e q.symm)]
        grind
      · simp only [e2, if_false]
        rw [h1, h2]; grind
  · have h1 := h.2.2 k hk
    have h7 : ¬ 7 = r := by omega
    by_cases e : k = r
    · subst e
      simp only [upN, if_true, pv, h7, if_false]; grind
    · have h2 := h.2.1 r k hr hk
      rw [if_neg (fun q => e q.symm)] at h2
      simp only [upN, e, if_false, pv, h7]
      rw [h1, h2]; grind
/-- its own rows are made of its rows -/
theorem rs_own {T : Nat → Nat → Rat} {b : Nat → Nat} (h : Tab T b) {k : Nat} (hk : k < 7) : RS T b (T k) := by
  intro j hj
  rw [S7_only (r := k) hk (fun i hi hn => by rw [h.2.1 k i hk hi, if_neg (fun q => hn q.symm)]; grind), h.2.1 k k hk hk, if_pos rfl]
  grind
theorem rs_comb {T : Nat → Nat → Rat} {b : Nat → Nat} {u v : Nat → Rat} (x : Rat) (hu : RS T b u) (hv : RS T b v) : RS T b (fun j => u j + v j * x) := by
  intro j hj
  show u j + v j * x = _
  rw [hu j hj, hv j hj, ← S7_mul, ← S7_add]
  exact S7_congr (fun i _ => by grind)
/-- the goal row after a pivot differs by one of the rows -/
theorem goal_pv {T : Nat → Nat → Rat} {r c : Nat} (hr : r < 7) (j : Nat) : pv T r c 7 j = T 7 j - T 7 c * pv T r c r j := by
  have h7 : ¬ 7 = r := by omega
  simp [pv, h7]
/-- a run without an end, by Bland's rule -/
def RunB (op : Nat → Prop) (T : Nat → Nat → Nat → Rat) (b : Nat → Nat → Nat) (r c : Nat → Nat) : Prop :=
  (∀ n, Tab (T n) (b n)) ∧ (∀ n i, i < 7 → 0 ≤ T n i 71) ∧ (∀ n, T (n + 1) = pv (T n) (r n) (c n)) ∧ (∀ n, b (n + 1) = upN (b n) (r n) (c n)) ∧
  (∀ n, c n < 64 ∧ op (c n) ∧ T n 7 (c n) < 0 ∧ ∀ j, j < c n → op j → 0 ≤ T n 7 j) ∧
  ∀ n, r n < 7 ∧ 0 < T n (r n) (c n) ∧ ∀ i, i < 7 → 0 < T n i (c n) → T n i 71 * T n (r n) (c n) = T n (r n) 71 * T n i (c n) → b n (r n) ≤ b n i
section BL
variable {op : Nat → Prop} {T : Nat → Nat → Nat → Rat} {b : Nat → Nat → Nat} {r c : Nat → Nat}
theorem run_rs (h : RunB op T b r c) {w : Nat → Rat} {n : Nat} (hw : RS (T n) (b n) w) : ∀ d, RS (T (n + d)) (b (n + d)) w
  | 0 => hw
  | d + 1 => by
    show RS (T (n + d + 1)) (b (n + d + 1)) w
    rw [h.2.2.1, h.2.2.2.1]
    have h5 := h.2.2.2.2.1 (n + d)
    have h6 := h.2.2.2.2.2 (n + d)
    exact rs_pv h6.1 (by omega) (by have := h6.2.1; grind) (run_rs h hw d)
theorem run_goal (h : RunB op T b r c) {n : Nat} : ∀ d, RS (T (n + d)) (b (n + d)) (fun j => T n 7 j - T (n + d) 7 j)
  | 0 => fun j _ => by
    show T n 7 j - T n 7 j = S7 (fun i => (T n 7 (b n i) - T n 7 (b n i)) * T n i j)
    have e : S7 (fun i => (T n 7 (b n i) - T n 7 (b n i)) * T n i j) = S7 (fun _ => 0) := S7_congr (fun i _ => by grind)
    rw [e]; simp only [S7]; grind
  | d + 1 => by
    have h5 := h.2.2.2.2.1 (n + d)
    have h6 := h.2.2.2.2.2 (n + d)
    have k1 := rs_pv h6.1 (by omega : c (n + d) < 72) (by have := h6.2.1; grind) (run_goal h (n := n) d)
    rw [← h.2.2.1, ← h.2.2.2.1] at k1
    have k2 := rs_own (h.1 (n + d + 1)) h6.1
    have k3 := rs_comb (T (n + d) 7 (c (n + d))) k1 k2
    intro j hj
    have k4 := k3 j hj
    have g : ∀ j, T (n + d + 1) 7 j = T (n + d) 7 j - T (n + d) 7 (c (n + d)) * T (n + d + 1) (r (n + d)) j := fun j => by rw [h.2.2.1]; exact goal_pv h6.1 j
    show T n 7 j - T (n + d + 1) 7 j = _
    have e1 : T n 7 j - T (n + d + 1) 7 j = T n 7 j - T (n + d) 7 j + T (n + d + 1) (r (n + d)) j * T (n + d) 7 (c (n + d)) := by rw [g j]; grind
    refine e1.trans (k4.trans ?_)
    exact S7_congr (fun i _ => by show _ = (T n 7 (b (n + d + 1) i) - T (n + d + 1) 7 (b (n + d + 1) i)) * T (n + d + 1) i j; rw [g (b (n + d + 1) i)]; grind)
/-- the goal never rises; it stays where the amount is 0 alone -/
theorem run_z (h : RunB op T b r c) (n : Nat) : T (n + 1) 7 71 = T n 7 71 - T n 7 (c n) * (T n (r n) 71 / T n (r n) (c n)) := by
  have h6 := h.2.2.2.2.2 n
  have h7 : ¬ 7 = r n := by omega
  rw [h.2.2.1]; simp [pv, h7]
theorem div_nn {a p : Rat} (ha : 0 ≤ a) (hp : 0 < p) : 0 ≤ a / p := by
  rw [Rat.div_def]; exact Rat.mul_nonneg ha (Rat.le_of_lt (Rat.inv_pos.mpr hp))
theorem run_up (h : RunB op T b r c) (n : Nat) : T n 7 71 ≤ T (n + 1) 7 71 := by
  rw [run_z h n]
  have h5 := (h.2.2.2.2.1 n).2.2.1
  have h6 := h.2.2.2.2.2 n
  have a := div_nn (h.2.1 n (r n) h6.1) h6.2.1
  have := Rat.mul_nonneg (Rat.le_of_lt (show 0 < - T n 7 (c n) by grind)) a
  grind
theorem run_mono (h : RunB op T b r c) (n : Nat) : ∀ d, T n 7 71 ≤ T (n + d) 7 71
  | 0 => Rat.le_refl
  | d + 1 => Rat.le_trans (run_mono h n d) (run_up h (n + d))
theorem run_deg (h : RunB op T b r c) {n : Nat} (e : T (n + 1) 7 71 ≤ T n 7 71) : T n (r n) 71 = 0 := by
  rw [run_z h n] at e
  have h5 := (h.2.2.2.2.1 n).2.2.1
  have h6 := h.2.2.2.2.2 n
  have a := div_nn (h.2.1 n (r n) h6.1) h6.2.1
  have k : T n (r n) 71 / T n (r n) (c n) * T n (r n) (c n) = T n (r n) 71 := by have := h6.2.1; grind
  have m := Rat.mul_nonneg (Rat.le_of_lt (show 0 < - T n 7 (c n) by grind)) a
  have z : T n 7 (c n) * (T n (r n) 71 / T n (r n) (c n)) = 0 := by grind
  have z2 : T n (r n) 71 / T n (r n) (c n) = 0 := by
    rcases Rat.mul_eq_zero.mp z with q | q
    · grind
    · exact q
  rw [← k, z2]; grind
/-- the window from a to a + P, at whose ends the basis is the same -/
theorem win_row (h : RunB op T b r c) {a P : Nat} (hb : ∀ k, k < 7 → b (a + P) k = b a k) {k j : Nat} (hk : k < 7) (hj : j < 72) : T (a + P) k j = T a k j := by
  have e := run_rs h (rs_own (h.1 a) hk) P j hj
  rw [e, S7_only (r := k) hk (fun i hi hn => by rw [hb i hi, (h.1 a).2.1 k i hk hi, if_neg (fun q => hn q.symm)]; grind), hb k hk, (h.1 a).2.1 k k hk hk, if_pos rfl]
  grind
theorem win_goal (h : RunB op T b r c) {a P : Nat} (hb : ∀ k, k < 7 → b (a + P) k = b a k) {j : Nat} (hj : j < 72) : T (a + P) 7 j = T a 7 j := by
  have e := run_goal h (n := a) P j hj
  have z : S7 (fun i => (T a 7 (b (a + P) i) - T (a + P) 7 (b (a + P) i)) * T (a + P) i j) = S7 (fun _ => 0) := S7_congr (fun i hi => by
    rw [(h.1 (a + P)).2.2 i hi, hb i hi, (h.1 a).2.2 i hi]; grind)
  have e2 : T a 7 j - T (a + P) 7 j = 0 := e.trans (z.trans (by simp only [S7]; grind))
  grind
theorem win_z (h : RunB op T b r c) {a P : Nat} (hb : ∀ k, k < 7 → b (a + P) k = b a k) {n : Nat} (h1 : a ≤ n) (h2 : n < a + P) : T n (r n) 71 = 0 := by
  apply run_deg h
  obtain ⟨d, rfl⟩ := Nat.exists_eq_add_of_le h1
  have k1 := run_mono h a d
  obtain ⟨d2, e2⟩ := Nat.exists_eq_add_of_le (show a + d + 1 ≤ a + P by omega)
  have k2 := run_mono h (a + d + 1) d2
  rw [← e2] at k2
  have k3 := win_goal h hb (show 71 < 72 by decide)
  rw [k3] at k2
  exact Rat.le_trans k2 k1
theorem win_b (h : RunB op T b r c) {a P : Nat} (hb : ∀ k, k < 7 → b (a + P) k = b a k) {i : Nat} (hi : i < 7) : ∀ d, d ≤ P → T (a + d) i 71 = T a i 71
  | 0, _ => rfl
  | d + 1, hd => by
    have ih := win_b h hb hi d (by omega)
    have z := win_z h hb (n := a + d) (by omega) (by omega)
    show T (a + d + 1) i 71 = _
    rw [← ih, h.2.2.1]
    unfold pv
    by_cases e : i = r (a + d)
    · rw [if_pos e, z, e, z]; grind
    · rw [if_neg e, z]; grind
/-- every row of one is made of the rows of each other one in the window; so are the goals' differences -/
theorem win_diff (h : RunB op T b r c) {a P : Nat} (hb : ∀ k, k < 7 → b (a + P) k = b a k) {n1 n2 : Nat} (h1 : a ≤ n1) (h2 : n1 < a + P) (h3 : a ≤ n2) (h4 : n2 < a + P) : RS (T n2) (b n2) (fun j => T n1 7 j - T n2 7 j) := by
  by_cases q : n1 ≤ n2
  · obtain ⟨d, rfl⟩ := Nat.exists_eq_add_of_le q
    exact run_goal h d
  · obtain ⟨d1, e1⟩ := Nat.exists_eq_add_of_le (show n1 ≤ a + P by omega)
    obtain ⟨d2, rfl⟩ := Nat.exists_eq_add_of_le h3
    have k1 := run_goal h (n := n1) d1
    rw [← e1] at k1
    have k2 : RS (T a) (b a) (fun j => T n1 7 j - T (a + P) 7 j) := fun j hj => by
      refine (k1 j hj).trans (S7_congr (fun i hi => ?_))
      show (T n1 7 (b (a + P) i) - T (a + P) 7 (b (a + P) i)) * T (a + P) i j = _
      rw [hb i hi, win_row h hb hi hj]
    have k3 := run_rs h k2 d2
    have k4 := run_goal h (n := a) d2
    have k5 := rs_comb 1 k3 k4
    have g : ∀ j, j < 72 → T n1 7 j - T (a + d2) 7 j = (T n1 7 j - T (a + P) 7 j) + (T a 7 j - T (a + d2) 7 j) * 1 := fun j hj => by rw [win_goal h hb hj]; grind
    intro j hj
    refine (g j hj).trans ((k5 j hj).trans (S7_congr (fun i hi => ?_)))
    show ((T n1 7 (b (a + d2) i) - T (a + P) 7 (b (a + d2) i)) + (T a 7 (b (a + d2) i) - T (a + d2) 7 (b (a + d2) i)) * 1) * _ = (T n1 7 (b (a + d2) i) - T (a + d2) 7 (b (a + d2) i)) * _
    rw [g _ (by have := (h.1 (a + d2)).1 i hi; omega)]
/-- what stands in a row at one time and not at another came in between -/
theorem came (h : RunB op T b r c) {n i v : Nat} : ∀ d, b (n + d) i = v → b n i ≠ v → ∃ m, n ≤ m ∧ m < n + d ∧ r m = i ∧ c m = v
  | 0, h1, h2 => absurd h1 h2
  | d + 1, h1, h2 => by
    by_cases q : b (n + d) i = v
    · obtain ⟨m, a1, a2, a3⟩ := came h d q h2
      exact ⟨m, a1, by omega, a3⟩
    · have e : b (n + d + 1) i = v := h1
      rw [h.2.2.2.1] at e
      unfold upN at e
      by_cases e2 : i = r (n + d)
      · rw [if_pos e2] at e
        exact ⟨n + d, by omega, by omega, e2.symm, e⟩
      · rw [if_neg e2] at e
        exact absurd e q
theorem win_came (h : RunB op T b r c) {a P : Nat} (hb : ∀ k, k < 7 → b (a + P) k = b a k) {n1 n2 i v : Nat} (hi : i < 7) (h1 : a ≤ n1) (h2 : n1 < a + P) (h3 : a ≤ n2) (h4 : n2 < a + P) (hv : b n2 i = v) (hn : b n1 i ≠ v) : ∃ m, a ≤ m ∧ m < a + P ∧ r m = i ∧ c m = v := by
  by_cases q : n1 ≤ n2
  · obtain ⟨d, rfl⟩ := Nat.exists_eq_add_of_le q
    obtain ⟨m, a1, a2, a3⟩ := came h d hv hn
    exact ⟨m, by omega, by omega, a3⟩
  · obtain ⟨d2, rfl⟩ := Nat.exists_eq_add_of_le h3
    by_cases q2 : b a i = v
    · obtain ⟨d1, e1⟩ := Nat.exists_eq_add_of_le (show n1 ≤ a + P by omega)
      obtain ⟨m, a1, a2, a3⟩ := came h (n := n1) d1 (by rw [← e1, hb i hi]; exact q2) hn
      exact ⟨m, by omega, by omega, a3⟩
    · obtain ⟨m, a1, a2, a3⟩ := came h d2 hv q2
      exact ⟨m, by omega, by omega, a3⟩
/-- the greatest of the first d numbers -/
theorem greatest (f : Nat → Nat) (a : Nat) : ∀ d, 0 < d → ∃ m, a ≤ m ∧ m < a + d ∧ ∀ n, a ≤ n → n < a + d → f n ≤ f m
  | 0, h => absurd h (by decide)
  | 1, _ => ⟨a, by omega, by omega, fun n h1 h2 => by rw [show n = a by omega]; exact Nat.le_refl _⟩
  | d + 2, _ => by
    obtain ⟨m, h1, h2, h3⟩ := greatest f a (d + 1) (by omega)
    by_cases q : f m ≤ f (a + d + 1)
    · exact ⟨a + d + 1, by omega, by omega, fun n g1 g2 => by
        by_cases e : n = a + d + 1
        · rw [e]; exact Nat.le_refl _
        · exact Nat.le_trans (h3 n g1 (by omega)) q⟩
    · exact ⟨m, h1, by omega, fun n g1 g2 => by
        by_cases e : n = a + d + 1
        · rw [e]; omega
        · exact h3 n g1 (by omega)⟩
/-- Bland: the basis never comes again -/
theorem bland (h : RunB op T b r c) {a P : Nat} (hP : 0 < P) (hb : ∀ k, k < 7 → b (a + P) k = b a k) : False := by
  obtain ⟨n1, w1, w2, hmax⟩ := greatest c a P hP
  have q1 := h.2.2.2.2.1 n1
  -- the greatest that comes in, goes out again
  have hnb : ∀ k, k < 7 → b n1 k ≠ c n1 := fun k hk e => by
    have := (h.1 n1).2.2 k hk
    rw [e] at this
    have := q1.2.2.1
    grind
  obtain ⟨n2, v1, v2, hout⟩ : ∃ n2, a ≤ n2 ∧ n2 < a + P ∧ b n2 (r n2) = c n1 := by
    have h6 := h.2.2.2.2.2 n1
    apply Classical.byContradiction
    intro no
    have stay : ∀ k, k < 7 → ∀ d n, a ≤ n → n + d ≤ a + P → b n k = c n1 → b (n + d) k = c n1 := by
      intro k hk d
      induction d with
      | zero => intro n _ _ e; exact e
      | succ d ih =>
        intro n g1 g2 e
        have e1 := ih n g1 (by omega) e
        show b (n + d + 1) k = _
        rw [h.2.2.2.1]
        unfold upN
        by_cases e2 : k = r (n + d)
        · exact absurd ⟨n + d, by omega, by omega, e2 ▸ e1⟩ no
        · rw [if_neg e2]; exact e1
    have e0 : b (n1 + 1) (r n1) = c n1 := by rw [h.2.2.2.1]; simp [upN]
    obtain ⟨d1, ed1⟩ := Nat.exists_eq_add_of_le (show n1 + 1 ≤ a + P by omega)
    have e1 := stay (r n1) h6.1 d1 (n1 + 1) (by omega) (by omega) e0
    rw [← ed1, hb _ h6.1] at e1
    obtain ⟨d2, ed2⟩ := Nat.exists_eq_add_of_le w1
    have e2 := stay (r n1) h6.1 d2 a (by omega) (by omega) e1
    rw [← ed2] at e2
    exact hnb _ h6.1 e2
  have q2 := h.2.2.2.2.1 n2
  have p2 := h.2.2.2.2.2 n2
  -- what comes in there is less
  have hs : c n2 < c n1 := by
    have g1 := hmax n2 v1 v2
    have g2 : c n2 ≠ c n1 := fun e => by
      have := (h.1 n2).2.2 (r n2) p2.1
      rw [hout, ← e] at this
      have := q2.2.2.1
      grind
    omega
  have cs := q1.2.2.2 (c n2) hs q2.2.1
  have eq := win_diff h hb w1 w2 v1 v2 (c n2) (by omega)
  have eq2 : T n1 7 (c n2) - T n2 7 (c n2) = S7 (fun i => T n1 7 (b n2 i) * T n2 i (c n2)) := eq.trans (S7_congr (fun i hi => by
    show (T n1 7 (b n2 i) - T n2 7 (b n2 i)) * _ = _
    rw [(h.1 n2).2.2 i hi]; grind))
  obtain ⟨i, hi, hpos⟩ := S7_pos (f := fun i => T n1 7 (b n2 i) * T n2 i (c n2)) (by rw [← eq2]; have := q2.2.2.1; grind)
  have hnz : T n1 7 (b n2 i) ≠ 0 := fun e => by rw [e] at hpos; grind
  have hne : ∀ k, k < 7 → b n1 k ≠ b n2 i := fun k hk e => hnz (by rw [← e]; exact (h.1 n1).2.2 k hk)
  obtain ⟨m, m1, m2, m3, m4⟩ := win_came h hb hi w1 w2 v1 v2 rfl (hne i hi)
  have hle := hmax m m1 m2
  rw [m4] at hle
  have hop := (h.2.2.2.2.1 m).2.1
  rw [m4] at hop
  have hir : i ≠ r n2 := fun e => by
    rw [e, hout] at hpos
    have n1' := q1.2.2.1
    have n2' := p2.2.1
    have := Rat.mul_pos (show 0 < - T n1 7 (c n1) by grind) n2'
    grind
  have hlt : b n2 i < c n1 := by
    have : b n2 i ≠ c n1 := fun e => by
      have g1 := (h.1 n2).2.1 i (r n2) hi p2.1
      rw [if_neg hir, hout, ← e, (h.1 n2).2.1 i i hi hi, if_pos rfl] at g1
      exact absurd g1 (by decide)
    omega
  have hcn := q1.2.2.2 _ hlt hop
  have hTi : 0 < T n2 i (c n2) := by
    apply Classical.byContradiction
    intro q
    have := Rat.mul_nonneg hcn (show 0 ≤ - T n2 i (c n2) by grind)
    grind
  -- both amounts are 0
  have hz1 := win_z h hb v1 v2
  have hz2 : T n2 i 71 = 0 := by
    have g0 := win_z h hb m1 m2
    rw [m3] at g0
    obtain ⟨dm, rfl⟩ := Nat.exists_eq_add_of_le m1
    obtain ⟨d2, rfl⟩ := Nat.exists_eq_add_of_le v1
    rw [win_b h hb hi dm (by omega)] at g0
    rw [win_b h hb hi d2 (by omega)]
    exact g0
  have := p2.2.2 i hi hTi (by rw [hz1, hz2]; grind)
  rw [hout] at this
  omega
end BL
/-! determinants, as far as Cramer's rule -/
def smN : Nat → (Nat → Rat) → Rat
  | 0, _ => 0
  | n + 1, f => smN n f + f n
theorem smN_congr {f g : Nat → Rat} : ∀ {n : Nat}, (∀ i, i < n → f i = g i) → smN n f = smN n g
  | 0, _ => rfl
  | n + 1, h => by simp only [smN, smN_congr (n := n) (fun i hi => h i (by omega)), h n (by omega)]
theorem smN_add (f g : Nat → Rat) : ∀ n, smN n (fun i => f i + g i) = smN n f + smN n g
  | 0 => by simp only [smN]; grind
  | n + 1 => by simp only [smN, smN_add f g n]; grind
theorem smN_mul (f : Nat → Rat) (x : Rat) : ∀ n, smN n (fun i => x * f i) = x * smN n f
  | 0 => by simp only [smN]; grind
  | n + 1 => by simp only [smN, smN_mul f x n]; grind
theorem smN_z {f : Nat → Rat} : ∀ {n : Nat}, (∀ i, i < n → f i = 0) → smN n f = 0
  | 0, _ => rfl
  | n + 1, h => by simp only [smN, smN_z (n := n) (fun i hi => h i (by omega)), h n (by omega)]; grind
theorem smN_only {f : Nat → Rat} {p : Nat} : ∀ {n : Nat}, p < n → (∀ i, i < n → i ≠ p → f i = 0) → smN n f = f p
  | 0, h, _ => absurd h (by omega)
  | n + 1, h, h0 => by
    by_cases e : p = n
    · subst e
      simp only [smN, smN_z (n := p) (fun i hi => h0 i (by omega) (by omega))]; grind
    · simp only [smN, smN_only (p := p) (n := n) (by omega) (fun i hi => h0 i (by omega)), h0 n (by omega) (by omega)]; grind
theorem smN_two {f : Nat → Rat} {p : Nat} : ∀ {n : Nat}, p + 1 < n → (∀ i, i < n → i ≠ p → i ≠ p + 1 → f i = 0) → smN n f = f p + f (p + 1)
  | 0, h, _ => absurd h (by omega)
  | n + 1, h, h0 => by
    by_cases e : p + 1 = n
    · subst e
      simp only [smN, smN_z (n := p) (fun i hi => h0 i (by omega) (by omega) (by omega))]; grind
    · simp only [smN, smN_two (p := p) (n := n) (by omega) (fun i hi => h0 i (by omega)), h0 n (by omega) (by omega) (by omega)]; grind
def sgn (j : Nat) : Rat := if j % 2 = 0 then 1 else -1
theorem sgn_s (j : Nat) : sgn (j + 1) = - sgn j := by
  unfold sgn
  by_cases h : j % 2 = 0
  · rw [if_pos h, if_neg (by omega)]
  · rw [if_neg h, if_pos (by omega)]; decide
def sk (j k : Nat) : Nat := if k < j then k else k + 1
/-- of n columns, by the last place of each -/
def dt : Nat → (Nat → Nat → Rat) → Rat
  | 0, _ => 1
  | n + 1, f => smN (n + 1) (fun j => sgn j * f j n * dt n (fun k => f (sk j k)))
theorem dt_congr : ∀ {n : Nat} {f g : Nat → Nat → Rat}, (∀ k i, k < n → i < n → f k i = g k i) → dt n f = dt n g
  | 0, _, _, _ => rfl
  | n + 1, f, g, h => by
    unfold dt
    apply smN_congr
    intro j hj
    rw [h j n hj (by omega), dt_congr (n := n) (f := fun k => f (sk j k)) (g := fun k => g (sk j k)) (fun k i hk hi => h (sk j k) i (by unfold sk; split <;> omega) (by omega))]
/-- another column in its place -/
def upc (f : Nat → Nat → Rat) (p : Nat) (u : Nat → Rat) : Nat → Nat → Rat := fun k => if k = p then u else f k
theorem sk_upc {f : Nat → Nat → Rat} {p j : Nat} {u : Nat → Rat} (h : j ≠ p) : (fun k => upc f p u (sk j k)) = upc (fun k => f (sk j k)) (if p < j then p else p - 1) u := by
  funext k
  unfold upc
  by_cases e : sk j k = p
  · rw [if_pos e, if_pos (by unfold sk at e; split at e <;> split <;> omega)]
  · rw [if_neg e, if_neg (by unfold sk at e; split at e <;> split <;> omega)]
theorem sk_own {f : Nat → Nat → Rat} {p : Nat} {u : Nat → Rat} : (fun k => upc f p u (sk p k)) = fun k => f (sk p k) := by
  funext k
  unfold upc
  rw [if_neg (by unfold sk; split <;> omega)]
theorem dt_lin (x : Rat) (u v : Nat → Rat) : ∀ (n : Nat) (f : Nat → Nat → Rat) (p : Nat), p < n → dt n (upc f p (fun i => u i + x * v i)) = dt n (upc f p u) + x * dt n (upc f p v)
  | 0, _, _, h => absurd h (by omega)
  | n + 1, f, p, h => by
    unfold dt
    rw [← smN_mul, ← smN_add]
    apply smN_congr
    intro j hj
    by_cases e : j = p
    · subst e
      rw [sk_own, sk_own, sk_own]
      simp only [upc, if_true]; grind
    · rw [sk_upc e, sk_upc e, sk_upc e, dt_lin x u v n _ _ (by split <;> omega)]
      simp only [upc, e, if_false]; grind
theorem dt_adj : ∀ (n : Nat) (f : Nat → Nat → Rat) (p : Nat), p + 1 < n → f p = f (p + 1) → dt n f = 0
  | 0, _, _, h, _ => absurd h (by omega)
  | n + 1, f, p, h, e => by
    unfold dt
    rw [smN_two (p := p) h (fun j hj h1 h2 => ?_)]
    · have e2 : (fun k => f (sk p k)) = fun k => f (sk (p + 1) k) := by
        funext k
        unfold sk
        by_cases q : k < p
        · rw [if_pos q, if_pos (by omega)]
        · by_cases q2 : k = p
          · subst q2; rw [if_neg q, if_pos (by omega)]; exact e.symm
          · rw [if_neg q, if_neg (by omega)]
      rw [sgn_s, e2, e]; grind
    · by_cases q : j < p
      · rw [dt_adj n _ (p - 1) (by omega) (by unfold sk; rw [if_neg (by omega), if_neg (by omega)]; rw [show p - 1 + 1 = p by omega]; exact e)]; grind
      · rw [dt_adj n _ p (by omega) (by unfold sk; rw [if_pos (by omega), if_pos (by omega)]; exact e)]; grind
/-- the columns p and p + 1 change places -/
def swp (f : Nat → Nat → Rat) (p : Nat) : Nat → Nat → Rat := fun k => if k = p then f (p + 1) else if k = p + 1 then f p else f k
theorem dt_swp {n : Nat} {f : Nat → Nat → Rat} {p : Nat} (h : p + 1 < n) : dt n (swp f p) = - dt n f := by
  have two : ∀ a b : Nat → Rat, dt n (upc (upc f p (fun i => a i + 1 * b i)) (p + 1) (fun i => a i + 1 * b i)) = dt n (upc (upc f p a) (p + 1) a) + dt n (upc (upc f p a) (p + 1) b) + dt n (upc (upc f p b) (p + 1) a) + dt n (upc (upc f p b) (p + 1) b) := by
    intro a b
    have cm : ∀ u v : Nat → Rat, upc (upc f p u) (p + 1) v = upc (upc f (p + 1) v) p u := fun u v => by
      funext k
      unfold upc
      by_cases e1 : k = p + 1
      · rw [if_pos e1, if_neg (by omega), if_pos e1]
      · rw [if_neg e1]; by_cases e2 : k = p <;> simp [e1, e2]
    rw [dt_lin 1 a b n _ (p + 1) h, cm _ a, cm _ b, dt_lin 1 a b n _ p (by omega), dt_lin 1 a b n _ p (by omega), ← cm, ← cm, ← cm, ← cm]; grind
  have z : ∀ a : Nat → Rat, dt n (upc (upc f p a) (p + 1) a) = 0 := fun a => dt_adj n _ p h (by unfold upc; rw [if_neg (by omega), if_pos rfl, if_pos rfl])
  have k := two (f p) (f (p + 1))
  rw [z, z, z] at k
  have e1 : upc (upc f p (f p)) (p + 1) (f (p + 1)) = f := by
    funext q; unfold upc
    by_cases e1 : q = p + 1
    · rw [if_pos e1, e1]
    · rw [if_neg e1]; by_cases e2 : q = p
      · rw [if_pos e2, e2]
      · rw [if_neg e2]
  have e2 : upc (upc f p (f (p + 1))) (p + 1) (f p) = swp f p := by
    funext q; unfold upc swp
    by_cases e1 : q = p + 1
    · rw [if_pos e1, if_neg (by omega), if_pos e1]
    · rw [if_neg e1, if_neg e1]
  rw [e1, e2] at k
  grind
theorem dt_eq {n : Nat} : ∀ (d : Nat) (f : Nat → Nat → Rat) (p : Nat), p + d + 1 < n → f p = f (p + d + 1) → dt n f = 0
  | 0, f, p, h, e => dt_adj n f p h e
  | d + 1, f, p, h, e => by
    have k := dt_swp (f := f) (p := p + d + 1) (n := n) (by omega)
    have k2 : dt n (swp f (p + d + 1)) = 0 := dt_eq d _ p (by omega) (by unfold swp; rw [if_neg (show ¬ p = p + d + 1 by omega), if_neg (show ¬ p = p + d + 1 + 1 by omega), if_pos rfl]; exact e)
    grind
theorem dt_two {n : Nat} {f : Nat → Nat → Rat} {p q : Nat} (hp : p < n) (hq : q < n) (hn : p ≠ q) (e : f p = f q) : dt n f = 0 := by
  by_cases h : p < q
  · exact dt_eq (q - p - 1) f p (by omega) (by rw [show p + (q - p - 1) + 1 = q by omega]; exact e)
  · exact dt_eq (p - q - 1) f q (by omega) (by rw [show q + (p - q - 1) + 1 = p by omega]; exact e.symm)
theorem upc_own {f : Nat → Nat → Rat} {p : Nat} : upc f p (f p) = f := by
  funext k; unfold upc; by_cases e : k = p
  · rw [if_pos e, e]
  · rw [if_neg e]
/-- Cramer -/
theorem cramer {n : Nat} {f : Nat → Nat → Rat} {p : Nat} (hp : p < n) (x : Nat → Rat) : ∀ m, m ≤ n → dt n (upc f p (fun i => smN m (fun k => x k * f k i))) = smN m (fun k => x k * (if k = p then dt n f else 0))
  | 0, _ => by
    have h := dt_lin (-1) (fun _ => 0) (fun _ => 0) n f p hp
    simp only [smN]
    have e : (fun _ : Nat => (0 : Rat) + -1 * 0) = fun _ => 0 := by funext i; grind
    rw [e] at h
    grind
  | m + 1, hm => by
    have e : (fun i => smN (m + 1) (fun k => x k * f k i)) = fun i => smN m (fun k => x k * f k i) + x m * f m i := rfl
    rw [e, dt_lin (x m) _ (f m) n f p hp, cramer hp x m (by omega)]
    simp only [smN]
    by_cases q : m = p
    · subst q; rw [upc_own, if_pos rfl]
    · rw [if_neg q, dt_two (f := upc f p (f m)) (p := m) (q := p) (by omega) hp q (by unfold upc; rw [if_neg q, if_pos rfl])]
theorem cramer7 {f : Nat → Nat → Rat} {p : Nat} {w : Nat → Rat} (hp : p < 7) (x : Nat → Rat) (hw : ∀ i, i < 7 → w i = S7 (fun k => x k * f k i)) : dt 7 (upc f p w) = x p * dt 7 f := by
  have e : dt 7 (upc f p w) = dt 7 (upc f p (fun i => smN 7 (fun k => x k * f k i))) := dt_congr (fun k i hk hi => by
    unfold upc
    by_cases q : k = p
    · rw [if_pos q, if_pos q, hw i hi]; simp only [S7, smN]; grind
    · rw [if_neg q, if_neg q])
  rw [e, cramer hp x 7 (by omega), smN_only (p := p) hp (fun i hi hn => by rw [if_neg hn]; grind), if_pos rfl]

/-- whole numbers, and how large -/
def wh (q : Rat) (m : Nat) : Prop := ∃ z : Int, q = z ∧ z.natAbs ≤ m
theorem wh_add {a b : Rat} {m n : Nat} (ha : wh a m) (hb : wh b n) : wh (a + b) (m + n) := by
  obtain ⟨x, rfl, hx⟩ := ha
  obtain ⟨y, rfl, hy⟩ := hb
  exact ⟨x + y, by rw [Rat.intCast_add], by omega⟩
theorem wh_mul {a b : Rat} {m n : Nat} (ha : wh a m) (hb : wh b n) : wh (a * b) (m * n) := by
  obtain ⟨x, rfl, hx⟩ := ha
  obtain ⟨y, rfl, hy⟩ := hb
  exact ⟨x * y, by rw [Rat.intCast_mul], by rw [Int.natAbs_mul]; exact Nat.mul_le_mul hx hy⟩
theorem wh_mono {a : Rat} {m n : Nat} (ha : wh a m) (h : m ≤ n) : wh a n := by
  obtain ⟨x, e, hx⟩ := ha
  exact ⟨x, e, by omega⟩
theorem wh_sm {f : Nat → Rat} {m : Nat} : ∀ {n : Nat}, (∀ i, i < n → wh (f i) m) → wh (smN n f) (n * m)
  | 0, _ => ⟨0, rfl, by simp⟩
  | n + 1, h => wh_mono (wh_add (wh_sm (n := n) (fun i hi => h i (by omega))) (h n (by omega))) (by rw [Nat.succ_mul]; exact Nat.le_refl _)
theorem wh_sgn (j : Nat) : wh (sgn j) 1 := by
  unfold sgn; split
  · exact ⟨1, rfl, by decide⟩
  · exact ⟨-1, by decide +kernel, by decide⟩
def fac : Nat → Nat
  | 0 => 1
  | n + 1 => (n + 1) * fac n
theorem wh_dt1 : ∀ {n : Nat} {f : Nat → Nat → Rat}, (∀ k i, k < n → i < n → wh (f k i) 1) → wh (dt n f) (fac n)
  | 0, _, _ => ⟨1, rfl, by decide⟩
  | n + 1, f, h => by
    unfold dt fac
    refine wh_sm (fun j hj => ?_)
    have a := wh_mul (wh_mul (wh_sgn j) (h j n hj (by omega))) (wh_dt1 (n := n) (f := fun k => f (sk j k)) (fun k i hk hi => h _ i (by unfold sk; split <;> omega) (by omega)))
    exact wh_mono a (by simp)
theorem wh_dt6 {V : Nat} : ∀ {n : Nat} {f : Nat → Nat → Rat} {p : Nat}, p < n → (∀ k i, k < n → i < n → wh (f k i) (if k = p then V else 1)) → wh (dt n f) (V * fac n)
  | 0, _, _, h, _ => absurd h (by omega)
  | n + 1, f, p, hp, h => by
    unfold dt fac
    have key : ∀ j, j < n + 1 → wh (sgn j * f j n * dt n (fun k => f (sk j k))) (V * fac n) := fun j hj => by
      by_cases e : j = p
      · subst e
        have h1 := h j n hj (by omega)
        rw [if_pos rfl] at h1
        have a := wh_mul (wh_mul (wh_sgn j) h1) (wh_dt1 (n := n) (f := fun k => f (sk j k)) (fun k i hk hi => by
          have := h (sk j k) i (by unfold sk; split <;> omega) (by omega)
          rw [if_neg (by unfold sk; split <;> omega)] at this
          exact this))
        exact wh_mono a (by simp)
      · have h1 := h j n hj (by omega)
        rw [if_neg e] at h1
        have a := wh_mul (wh_mul (wh_sgn j) h1) (wh_dt6 (n := n) (f := fun k => f (sk j k)) (p := if p < j then p else p - 1) (by split <;> omega) (fun k i hk hi => by
          have := h (sk j k) i (by unfold sk; split <;> omega) (by omega)
          by_cases q : sk j k = p
          · rw [if_pos q] at this
            rw [if_pos (by unfold sk at q; split at q <;> split <;> omega)]
            exact this
          · rw [if_neg q] at this
            rw [if_neg (by unfold sk at q; split at q <;> split <;> omega)]
            exact this))
        exact wh_mono a (by simp)
    exact wh_mono (wh_sm key) (by rw [Nat.mul_left_comm]; exact Nat.le_refl _)
theorem rat_md (q : Rat) : q * (q.den : Rat) = (q.num : Rat) := by
  have h : q = (q.num : Rat) / (q.den : Rat) := by rw [← Rat.mkRat_eq_div, Rat.mkRat_self]
  have h0 : (q.den : Rat) ≠ 0 := fun e => q.den_nz (by
    have e2 : ((q.den : Int) : Rat) = 0 := e
    exact Int.ofNat_eq_zero.mp (Rat.intCast_eq_zero_iff.mp e2))
  generalize hx : (q.num : Rat) = x at h ⊢
  generalize hy : (q.den : Rat) = y at h h0 ⊢
  rw [h]; grind
/-- a fraction of whole numbers is small -/
theorem wh_frac {q d : Rat} {m n : Nat} (h : wh (q * d) m) (hd : wh d n) (h0 : d ≠ 0) : q.num.natAbs ≤ m ∧ q.den ≤ n := by
  obtain ⟨z, ez, hz⟩ := h
  obtain ⟨y, rfl, hy⟩ := hd
  have hy0 : y ≠ 0 := fun e => h0 (by rw [e]; rfl)
  have key : q.num * y = z * q.den := by
    have e1 : q * (y : Rat) * (q.den : Rat) = (z : Rat) * (q.den : Rat) := by rw [ez]
    have e2 : q * (q.den : Rat) = (q.num : Rat) := rat_md q
    have e3 : (q.num : Rat) * (y : Rat) = (z : Rat) * (q.den : Rat) := by rw [← e2]; grind
    have e4 : ((q.num * y : Int) : Rat) = ((z * (q.den : Int) : Int) : Rat) := by rw [Rat.intCast_mul, Rat.intCast_mul]; exact e3
    exact Rat.intCast_inj.mp e4
  have c : Nat.Coprime q.num.natAbs q.den := q.reduced
  have k2 : q.num.natAbs * y.natAbs = z.natAbs * q.den := by
    have := congrArg Int.natAbs key
    rw [Int.natAbs_mul, Int.natAbs_mul, Int.natAbs_natCast] at this
    exact this
  have d1 : q.den ∣ y.natAbs := (Nat.Coprime.symm c).dvd_of_dvd_mul_left ⟨z.natAbs, by rw [k2, Nat.mul_comm]⟩
  have d2 : q.num.natAbs ∣ z.natAbs := c.dvd_of_dvd_mul_right ⟨y.natAbs, k2.symm⟩
  have p1 : 0 < y.natAbs := Int.natAbs_pos.mpr hy0
  refine ⟨?_, Nat.le_trans (Nat.le_of_dvd p1 d1) hy⟩
  by_cases e : z.natAbs = 0
  · rw [e, Nat.zero_mul] at k2
    have : q.num.natAbs = 0 := (Nat.mul_eq_zero.mp k2).resolve_right (by omega)
    omega
  · exact Nat.le_trans (Nat.le_of_dvd (by omega) d2) hz
/-! the two choices -/
theorem nth0 {p : Nat → Bool} : ∀ (f b c : Nat), nthP p 0 f b 0 = some c → b ≤ c ∧ c < b + f ∧ p c = true ∧ ∀ j, b ≤ j → j < c → ¬ p j = true
  | 0, _, _, h => by cases h
  | f + 1, b, c, h => by
    simp only [nthP] at h
    by_cases q : p b = true
    · rw [if_pos q, if_pos (by decide)] at h
      cases h
      exact ⟨Nat.le_refl _, by omega, q, fun j h1 h2 => absurd h1 (by omega)⟩
    · rw [if_neg q] at h
      obtain ⟨h1, h2, h3, h4⟩ := nth0 f (b + 1) c h
      exact ⟨by omega, by omega, h3, fun j g1 g2 => by
        by_cases e : j = b
        · rw [e]; exact q
        · exact h4 j (by omega) g2⟩
theorem num_neg {q : Rat} : q.num < 0 ↔ q < 0 := by
  rw [Rat.lt_iff]; simp
theorem num_pos {q : Rat} : 0 < q.num ↔ 0 < q := by
  rw [Rat.lt_iff]; simp
theorem den_pos (q : Rat) : 0 < (q.den : Rat) := by
  have h : (0 : Rat) < ((q.den : Int) : Rat) := Rat.intCast_pos.mpr (by have := q.den_pos; omega)
  exact h
/-- the comparison of two rows, as their ratios -/
theorem ratio {a p x y : Rat} (hp : 0 < p) (hy : 0 < y) : (a.num * p.den * (x.den * y.num) < x.num * y.den * (a.den * p.num) ↔ a / p < x / y) ∧ (a.num * p.den * (x.den * y.num) = x.num * y.den * (a.den * p.num) ↔ a / p = x / y) := by
  have ea := rat_md a
  have ep := rat_md p
  have ex := rat_md x
  have ey := rat_md y
  have pa := den_pos a
  have pp := den_pos p
  have px := den_pos x
  have py := den_pos y
  have c1 : ((a.num * p.den * (x.den * y.num) : Int) : Rat) = (a / p) * (p * y * ((a.den : Rat) * p.den * x.den * y.den)) := by
    rw [Rat.intCast_mul, Rat.intCast_mul, Rat.intCast_mul, ← ea, ← ey]
    show a * (a.den : Rat) * (p.den : Rat) * ((x.den : Rat) * (y * (y.den : Rat))) = _
    have : a / p * p = a := by grind
    grind
  have c2 : ((x.num * y.den * (a.den * p.num) : Int) : Rat) = (x / y) * (p * y * ((a.den : Rat) * p.den * x.den * y.den)) := by
    rw [Rat.intCast_mul, Rat.intCast_mul, Rat.intCast_mul, ← ex, ← ep]
    show x * (x.den : Rat) * (y.den : Rat) * ((a.den : Rat) * (p * (p.den : Rat))) = _
    have : x / y * y = x := by grind
    grind
  have hK : 0 < p * y * ((a.den : Rat) * p.den * x.den * y.den) := Rat.mul_pos (Rat.mul_pos hp hy) (Rat.mul_pos (Rat.mul_pos (Rat.mul_pos pa pp) px) py)
  generalize p * y * ((a.den : Rat) * p.den * x.den * y.den) = K at c1 c2 hK
  constructor
  · rw [← Rat.intCast_lt_intCast, c1, c2]
    constructor
    · intro h
      apply Classical.byContradiction
      intro q
      have := Rat.mul_le_mul_of_nonneg_right (show x / y ≤ a / p by grind) (Rat.le_of_lt hK)
      grind
    · intro h; exact Rat.mul_lt_mul_of_pos_right h hK
  · rw [← Rat.intCast_inj, c1, c2]
    constructor
    · intro h
      have : (a / p - x / y) * K = 0 := by grind
      rcases Rat.mul_eq_zero.mp this with q | q
      · grind
      · grind
    · intro h; rw [h]
/-- the row that leaves: the least ratio, of equals the least in the basis -/
def Lv (t : Nat → Rat) (b : Nat → Nat) (c m f : Nat) : Prop := f < m ∧ 0 < t (72 * f + c) ∧ ∀ k, k < m → 0 < t (72 * k + c) → t (72 * f + 71) / t (72 * f + c) ≤ t (72 * k + 71) / t (72 * k + c) ∧ (t (72 * f + 71) / t (72 * f + c) = t (72 * k + 71) / t (72 * k + c) → b f ≤ b k)
def LvO (t : Nat → Rat) (b : Nat → Nat) (c m : Nat) (o : Option Nat) : Prop := match o with
  | none => ∀ k, k < m → ¬ 0 < t (72 * k + c)
  | some f => Lv t b c m f
theorem lv_ok {t : Nat → Rat} {b : Nat → Nat} {c : Nat} : ∀ (n m : Nat) (o : Option Nat), LvO t b c m o → LvO t b c (m + n) (lvF t b c n m o)
  | 0, _, _, h => h
  | n + 1, m, o, h => by
    rw [show m + (n + 1) = m + 1 + n by omega]
    simp only [lvF]
    refine lv_ok n (m + 1) _ ?_
    by_cases hm : 0 < (t (72 * m + c)).num
    · rw [if_pos hm]
      have hm' := num_pos.mp hm
      cases o with
      | none =>
        refine ⟨by omega, hm', fun k hk hp => ?_⟩
        by_cases e : k = m
        · rw [e]; exact ⟨Rat.le_refl, fun _ => Nat.le_refl _⟩
        · exact absurd hp (h k (by omega))
      | some f =>
        obtain ⟨h1, h2, h3⟩ := h
        have R := ratio (a := t (72 * m + 71)) (x := t (72 * f + 71)) hm' h2
        by_cases q : (t (72 * m + 71)).num * (t (72 * m + c)).den * ((t (72 * f + 71)).den * (t (72 * f + c)).num) < (t (72 * f + 71)).num * (t (72 * f + c)).den * ((t (72 * m + 71)).den * (t (72 * m + c)).num) ∨ ((t (72 * m + 71)).num * (t (72 * m + c)).den * ((t (72 * f + 71)).den * (t (72 * f + c)).num) = (t (72 * f + 71)).num * (t (72 * f + c)).den * ((t (72 * m + 71)).den * (t (72 * m + c)).num) ∧ b m < b f)
        · dsimp only
          rw [if_pos q, R.1, R.2] at *
          refine ⟨by omega, hm', fun k hk hp => ?_⟩
          by_cases e : k = m
          · rw [e]; exact ⟨Rat.le_refl, fun _ => Nat.le_refl _⟩
          · obtain ⟨g1, g2⟩ := h3 k (by omega) hp
            rcases q with q | ⟨q, q2⟩
            · exact ⟨by grind, fun e2 => by grind⟩
            · exact ⟨by grind, fun e2 => by have := g2 (by grind); omega⟩
        · dsimp only
          rw [if_neg q]
          rw [R.1, R.2] at q
          refine ⟨by omega, h2, fun k hk hp => ?_⟩
          by_cases e : k = m
          · subst e
            exact ⟨by grind, fun e2 => by
              have : ¬ b k < b f := fun z => q (Or.inr ⟨e2.symm, z⟩)
              omega⟩
          · exact h3 k (by omega) hp
    · rw [if_neg hm]
      have hm' : ¬ 0 < t (72 * m + c) := fun z => hm (num_pos.mpr z)
      cases o with
      | none =>
        intro k hk
        by_cases e : k = m
        · rw [e]; exact hm'
        · exact h k (by omega)
      | some f =>
        obtain ⟨h1, h2, h3⟩ := h
        refine ⟨by omega, h2, fun k hk hp => ?_⟩
        by_cases e : k = m
        · rw [e] at hp; exact absurd hp hm'
        · exact h3 k (by omega) hp
/-! what every tableau keeps that comes of the first by pivots, and how large its numbers are -/
def vw (t : Nat → Rat) : Nat → Nat → Rat := fun i j => t (72 * i + j)
def AOk (A : Nat → Nat → Rat) (V : Nat) : Prop := (∀ i j, i < 7 → j < 71 → wh (A i j) 1) ∧ (∀ i, i < 7 → wh (A i 71) V) ∧ (∀ j, j < 64 → A 6 j = 1) ∧ (∀ j, j < 71 → 0 ≤ A 6 j) ∧ A 6 71 ≤ V
def Ivt (A : Nat → Nat → Rat) (ga : Nat → Rat) (T : Nat → Nat → Rat) (b : Nat → Nat) : Prop := Tab T b ∧ (∀ k, k < 7 → RS T b (A k)) ∧ dt 7 (fun k i => A i (b k)) ≠ 0 ∧ RS T b (fun j => ga j - T 7 j)
def Fsb (T : Nat → Nat → Rat) : Prop := ∀ i, i < 7 → 0 ≤ T i 71
section IV
variable {A T T' : Nat → Nat → Rat} {ga : Nat → Rat} {b : Nat → Nat} {V G r c : Nat}
theorem inv_congr (e : ∀ i j, i < 8 → j < 72 → T i j = T' i j) (h : Ivt A ga T b) : Ivt A ga T' b := by
  obtain ⟨⟨h1, h2, h3⟩, h4, h5, h6⟩ := h
  have bb : ∀ k, k < 7 → b k < 72 := fun k hk => by have := h1 k hk; omega
  refine ⟨⟨h1, fun i k hi hk => by rw [← e i (b k) (by omega) (bb k hk)]; exact h2 i k hi hk, fun k hk => by rw [← e 7 (b k) (by omega) (bb k hk)]; exact h3 k hk⟩, fun k hk j hj => (h4 k hk j hj).trans (S7_congr (fun i hi => by rw [e i j (by omega) hj])), h5, fun j hj => ?_⟩
  show ga j - T' 7 j = _
  rw [← e 7 j (by omega) hj]
  refine (h6 j hj).trans (S7_congr (fun i hi => ?_))
  show (ga (b i) - T 7 (b i)) * _ = (ga (b i) - T' 7 (b i)) * _
  rw [e i j (by omega) hj, e 7 (b i) (by omega) (bb i hi)]
theorem inv_cr (h : Ivt A ga T b) {i j : Nat} (hi : i < 7) (hj : j < 72) : dt 7 (upc (fun k i => A i (b k)) i (fun i => A i j)) = T i j * dt 7 (fun k i => A i (b k)) :=
  cramer7 (f := fun k i => A i (b k)) hi (fun k => T k j) (fun q hq => (h.2.1 q hq j hj).trans (S7_congr (fun k _ => by grind)))
theorem inv_pv (hr : r < 7) (hc : c < 71) (hp : T r c ≠ 0) (h : Ivt A ga T b) : Ivt A ga (pv T r c) (upN b r c) := by
  have h1 := tab_pv hr hc hp h.1
  refine ⟨h1, fun k hk => rs_pv hr (by omega) hp (h.2.1 k hk), ?_, ?_⟩
  · have e : (fun k i => A i (upN b r c k)) = upc (fun k i => A i (b k)) r (fun i => A i c) := by
      funext k
      unfold upN upc
      split <;> rfl
    rw [e, inv_cr h hr (by omega)]
    intro q
    rcases Rat.mul_eq_zero.mp q with q | q
    · exact hp q
    · exact h.2.2.1 q
  · have k3 := rs_comb (T 7 c) (rs_pv hr (by omega) hp h.2.2.2) (rs_own h1 hr)
    have e : (fun j => ga j - pv T r c 7 j) = fun j => ga j - T 7 j + pv T r c r j * T 7 c := by
      funext j
      rw [goal_pv hr]; grind
    rw [e]
    exact k3
theorem inv_d (hA : AOk A V) (h : Ivt A ga T b) : wh (dt 7 (fun k i => A i (b k))) 5040 := wh_dt1 (n := 7) (fun k i hk hi => hA.1 i (b k) hi (h.1.1 k hk))
theorem inv_w1 (hA : AOk A V) (h : Ivt A ga T b) {i j : Nat} (hi : i < 7) (hj : j < 71) : wh (T i j * dt 7 (fun k i => A i (b k))) 5040 := by
  rw [← inv_cr h hi (by omega)]
  refine wh_dt1 (n := 7) (fun k q hk hq => ?_)
  unfold upc
  split
  · exact hA.1 q j hq hj
  · exact hA.1 q (b k) hq (h.1.1 k hk)
theorem inv_w6 (hA : AOk A V) (h : Ivt A ga T b) {i : Nat} (hi : i < 7) : wh (T i 71 * dt 7 (fun k i => A i (b k))) (V * 5040) := by
  rw [← inv_cr h hi (by omega)]
  refine wh_dt6 (n := 7) hi (fun k q hk hq => ?_)
  unfold upc
  split
  · exact hA.2.1 q hq
  · exact hA.1 q (b k) hq (h.1.1 k hk)
theorem inv_st (hA : AOk A V) (hV : V ≤ 6) (h : Ivt A ga T b) {i j : Nat} (hi : i < 7) (hj : j < 72) : (T i j).num.natAbs ≤ 30240 ∧ (T i j).den ≤ 5040 := by
  by_cases e : j < 71
  · have := wh_frac (inv_w1 hA h hi e) (inv_d hA h) h.2.2.1
    exact ⟨by omega, this.2⟩
  · rw [show j = 71 by omega]
    have := wh_frac (inv_w6 hA h hi) (inv_d hA h) h.2.2.1
    exact ⟨by omega, this.2⟩
theorem wh_S7 {f : Nat → Rat} {m : Nat} (h : ∀ i, i < 7 → wh (f i) m) : wh (S7 f) (7 * m) := by
  have e : S7 f = smN 7 f := by simp only [S7, smN]; grind
  rw [e]; exact wh_sm h
theorem wh_neg {q : Rat} {m : Nat} (h : wh q m) : wh (-q) m := by
  obtain ⟨z, rfl, hz⟩ := h
  exact ⟨-z, by rw [Rat.intCast_neg], by rw [Int.natAbs_neg]; exact hz⟩
theorem inv_goal (h : Ivt A ga T b) {j : Nat} (hj : j < 72) : T 7 j = ga j - S7 (fun i => ga (b i) * T i j) := by
  have e := h.2.2.2 j hj
  have e2 : S7 (fun i => (ga (b i) - T 7 (b i)) * T i j) = S7 (fun i => ga (b i) * T i j) := S7_congr (fun i hi => by rw [h.1.2.2 i hi]; grind)
  have e3 : ga j - T 7 j = S7 (fun i => ga (b i) * T i j) := e.trans e2
  grind
/-- partial goals too: x i is the goal's number of the i-th of the basis, or 0 -/
theorem inv_pw (hA : AOk A V) (h : Ivt A ga T b) {j : Nat} (hj : j < 71) {y : Rat} {x : Nat → Rat} (hy : wh y G) (hx : ∀ i, i < 7 → wh (x i) G) : wh ((y - S7 (fun i => x i * T i j)) * dt 7 (fun k i => A i (b k))) (G * 40320) := by
  have e : (y - S7 (fun i => x i * T i j)) * dt 7 (fun k i => A i (b k)) = y * dt 7 (fun k i => A i (b k)) + - S7 (fun i => x i * (T i j * dt 7 (fun k i => A i (b k)))) := by
    have : S7 (fun i => x i * (T i j * dt 7 (fun k i => A i (b k)))) = S7 (fun i => x i * T i j) * dt 7 (fun k i => A i (b k)) := by rw [← S7_mul]; exact S7_congr (fun i _ => by grind)
    rw [this]; grind
  rw [e]
  refine wh_mono (wh_add (wh_mul hy (inv_d hA h)) (wh_neg (wh_S7 (fun i hi => wh_mul (hx i hi) (inv_w1 hA h hi hj))))) (by omega)
theorem inv_pz (hA : AOk A V) (h : Ivt A ga T b) {y : Rat} {x : Nat → Rat} (hy : wh y G) (hx : ∀ i, i < 7 → wh (x i) G) : wh ((y - S7 (fun i => x i * T i 71)) * dt 7 (fun k i => A i (b k))) (G * 5040 + 7 * (G * (V * 5040))) := by
  have e : (y - S7 (fun i => x i * T i 71)) * dt 7 (fun k i => A i (b k)) = y * dt 7 (fun k i => A i (b k)) + - S7 (fun i => x i * (T i 71 * dt 7 (fun k i => A i (b k)))) := by
    have : S7 (fun i => x i * (T i 71 * dt 7 (fun k i => A i (b k)))) = S7 (fun i => x i * T i 71) * dt 7 (fun k i => A i (b k)) := by rw [← S7_mul]; exact S7_congr (fun i _ => by grind)
    rw [this]; grind
  rw [e]
  exact wh_add (wh_mul hy (inv_d hA h)) (wh_neg (wh_S7 (fun i hi => wh_mul (hx i hi) (inv_w6 hA h hi))))
theorem S7_mono {f g : Nat → Rat} (h : ∀ i, i < 7 → f i ≤ g i) : S7 f ≤ S7 g := by
  have := S7_nn (f := fun i => g i - f i) (fun i hi => by have := h i hi; grind)
  rw [S7_sub] at this
  grind
theorem wh_abs {q : Rat} {m : Nat} (h : wh q m) : -(m : Rat) ≤ q ∧ q ≤ (m : Rat) := by
  obtain ⟨z, rfl, hz⟩ := h
  have h1 : -(m : Int) ≤ z := by omega
  have h2 : z ≤ (m : Int) := by omega
  refine ⟨?_, ?_⟩
  · have := Rat.intCast_le_intCast.mpr h1
    rw [Rat.intCast_neg] at this
    exact this
  · exact Rat.intCast_le_intCast.mpr h2
/-- the amounts of what goes by vehicles are no more than there are -/
theorem inv_am (hA : AOk A V) (h : Ivt A ga T b) (hF : Fsb T) {x : Nat → Rat} (hx : ∀ i, i < 7 → wh (x i) G) (h0 : ∀ i, i < 7 → 64 ≤ b i → x i = 0) : -((G : Rat) * V) ≤ S7 (fun i => x i * T i 71) ∧ S7 (fun i => x i * T i 71) ≤ (G : Rat) * V := by
  have e := h.2.1 6 (by decide) 71 (by decide)
  have hG : (0 : Rat) ≤ (G : Rat) := Rat.natCast_nonneg
  have v6 : S7 (fun i => (G : Rat) * (A 6 (b i) * T i 71)) ≤ (G : Rat) * V := by
    have : S7 (fun i => (G : Rat) * (A 6 (b i) * T i 71)) = (G : Rat) * A 6 71 := by rw [e, Rat.mul_comm, ← S7_mul]; exact S7_congr (fun i _ => by grind)
    rw [this]
    exact Rat.mul_le_mul_of_nonneg_left hA.2.2.2.2 hG
  have key : ∀ i, i < 7 → -((G : Rat) * (A 6 (b i) * T i 71)) ≤ x i * T i 71 ∧ x i * T i 71 ≤ (G : Rat) * (A 6 (b i) * T i 71) := fun i hi => by
    have hb := h.1.1 i hi
    have n1 := Rat.mul_nonneg (hA.2.2.2.1 (b i) hb) (hF i hi)
    by_cases q : 64 ≤ b i
    · rw [h0 i hi q]
      have := Rat.mul_nonneg hG n1
      constructor <;> grind
    · rw [hA.2.2.1 (b i) (by omega)]
      have w := wh_abs (hx i hi)
      have a1 := Rat.mul_le_mul_of_nonneg_right w.1 (hF i hi)
      have a2 := Rat.mul_le_mul_of_nonneg_right w.2 (hF i hi)
      constructor <;> grind
  have k1 := S7_mono (fun i hi => (key i hi).1)
  have k2 := S7_mono (fun i hi => (key i hi).2)
  have k3 : S7 (fun i => -((G : Rat) * (A 6 (b i) * T i 71))) = - S7 (fun i => (G : Rat) * (A 6 (b i) * T i 71)) := by simp only [S7]; grind
  rw [k3] at k1
  constructor <;> grind
theorem wh_cut {q d : Rat} {m n M : Nat} (h : wh (q * d) m) (hd : wh d n) (h1 : -(M : Rat) ≤ q) (h2 : q ≤ (M : Rat)) : wh (q * d) (M * n) := by
  obtain ⟨z, ez, -⟩ := h
  refine ⟨z, ez, ?_⟩
  have w := wh_abs hd
  have hM : (0 : Rat) ≤ (M : Rat) := Rat.natCast_nonneg
  have hn : (0 : Rat) ≤ (n : Rat) := Rat.natCast_nonneg
  have e : ((M * n : Nat) : Rat) = (M : Rat) * n := Rat.natCast_mul M n
  have up : q * d ≤ (M : Rat) * n := by
    by_cases s : 0 ≤ d
    · exact Rat.le_trans (Rat.mul_le_mul_of_nonneg_right h2 s) (Rat.mul_le_mul_of_nonneg_left w.2 hM)
    · have a := Rat.mul_le_mul_of_nonneg_right (show -q ≤ (M : Rat) by grind) (show 0 ≤ -d by grind)
      have b := Rat.mul_le_mul_of_nonneg_left (show -d ≤ (n : Rat) by grind) hM
      grind
  have lo : -((M : Rat) * n) ≤ q * d := by
    by_cases s : 0 ≤ d
    · have a := Rat.mul_le_mul_of_nonneg_right (show -q ≤ (M : Rat) by grind) s
      have b := Rat.mul_le_mul_of_nonneg_left w.2 hM
      grind
    · have a := Rat.mul_le_mul_of_nonneg_right h2 (show 0 ≤ -d by grind)
      have b := Rat.mul_le_mul_of_nonneg_left (show -d ≤ (n : Rat) by grind) hM
      grind
  rw [ez, ← e] at up lo
  have u1 : z ≤ ((M * n : Nat) : Int) := Rat.intCast_le_intCast.mp up
  have u2 : -((M * n : Nat) : Int) ≤ z := Rat.intCast_le_intCast.mp (by rw [Rat.intCast_neg]; exact lo)
  omega
end IV
/-! settle ends -/
section SE
variable {A T : Nat → Nat → Rat} {ga : Nat → Rat} {b : Nat → Nat} {V G r c : Nat} {t : Nat → Rat} {op : Nat → Int32}
theorem sm_of {q d : Rat} {m : Nat} (h : wh (q * d) m) (hd : wh d 5040) (h0 : d ≠ 0) (hm : m < 2 ^ 30) : Sm q := by
  have := wh_frac h hd h0
  exact ⟨by omega, by omega⟩
theorem part_sm1 (hA : AOk A V) (hV : V ≤ 6) (h : Ivt A ga T b) {y : Rat} {x : Nat → Rat} (hy : wh y 1) (hx : ∀ i, i < 7 → wh (x i) 1) {j : Nat} (hj : j < 72) : Sm (y - S7 (fun i => x i * T i j)) := by
  by_cases e : j < 71
  · exact sm_of (inv_pw hA h e hy hx) (inv_d hA h) h.2.2.1 (by decide)
  · rw [show j = 71 by omega]
    exact sm_of (inv_pz hA h hy hx) (inv_d hA h) h.2.2.1 (by omega)
theorem part_sm (hA : AOk A V) (hV : V ≤ 6) (h : Ivt A ga T b) (hF : Fsb T) (hG : G ≤ 14000) {y : Rat} {x : Nat → Rat} (hy : wh y G) (hx : ∀ i, i < 7 → wh (x i) G) (h0 : ∀ i, i < 7 → 64 ≤ b i → x i = 0) {j : Nat} (hj : j < 72) (h71 : j = 71 → y = 0) : Sm (y - S7 (fun i => x i * T i j)) := by
  by_cases e : j < 71
  · exact sm_of (inv_pw hA h e hy hx) (inv_d hA h) h.2.2.1 (by omega)
  · have e2 : j = 71 := by omega
    subst e2
    rw [h71 rfl]
    have am := inv_am hA h hF hx h0
    have hGV : ((G * V : Nat) : Rat) = (G : Rat) * V := Rat.natCast_mul G V
    have w := inv_pz (y := 0) hA h ⟨0, rfl, by simp⟩ hx
    refine sm_of (wh_cut (M := G * V) w (inv_d hA h) ?_ ?_) (inv_d hA h) h.2.2.1 ?_
    · rw [hGV]; grind
    · rw [hGV]; grind
    · have : G * V ≤ 14000 * 6 := Nat.mul_le_mul hG hV
      omega
/-- the goal's numbers: small, or none for what stays unserved -/
def Gl (ga : Nat → Rat) (G : Nat) : Prop := ga 71 = 0 ∧ (∀ j, j < 71 → wh (ga j) G) ∧ (G ≤ 1 ∨ G ≤ 14000 ∧ ∀ j, 64 ≤ j → j < 71 → ga j = 0)
theorem inv_sm (hA : AOk A V) (hV : V ≤ 6) (h : Ivt A ga T b) (hF : Fsb T) (hg : Gl ga G) {i j : Nat} (hi : i < 8) (hj : j < 72) : Sm (T i j) := by
  by_cases e : i < 7
  · have := inv_st hA hV h e hj
    exact ⟨by omega, by omega⟩
  · rw [show i = 7 by omega, inv_goal h hj]
    have hb := h.1.1
    have wy : wh (ga j) G := by
      by_cases q : j < 71
      · exact hg.2.1 j q
      · rw [show j = 71 by omega, hg.1]; exact ⟨0, rfl, by simp⟩
    rcases hg.2.2 with m | ⟨m, z⟩
    · exact part_sm1 hA hV h (wh_mono wy m) (fun i hi => wh_mono (hg.2.1 (b i) (hb i hi)) m) hj
    · exact part_sm hA hV h hF m wy (fun i hi => hg.2.1 (b i) (hb i hi)) (fun i hi q => z (b i) q (hb i hi)) hj (fun q => by rw [q]; exact hg.1)
theorem inv_sm1 (hA : AOk A V) (hV : V ≤ 6) (h : Ivt A ga T b) (h71 : ga 71 = 0) (hg : ∀ j, j < 71 → wh (ga j) 1) {i j : Nat} (hi : i < 8) (hj : j < 72) : Sm (T i j) := by
  by_cases e : i < 7
  · have := inv_st hA hV h e hj
    exact ⟨by omega, by omega⟩
  · rw [show i = 7 by omega, inv_goal h hj]
    refine part_sm1 hA hV h ?_ (fun i hi => hg (b i) (h.1.1 i hi)) hj
    by_cases q : j < 71
    · exact hg j q
    · rw [show j = 71 by omega, h71]; exact ⟨0, rfl, by simp⟩
theorem div_le {a p x y : Rat} (hp : 0 < p) (hy : 0 < y) (h : a / p ≤ x / y) : y * (a / p) ≤ x := by
  have e : x / y * y = x := by grind
  have := Rat.mul_le_mul_of_nonneg_left h (Rat.le_of_lt hy)
  grind
theorem step_ok (hA : AOk A V) (h : Ivt A ga T b) (hF : Fsb T) (ht : ∀ i j, i < 8 → j < 72 → t (72 * i + j) = T i j) (hc : nthP (cmP t op) 0 64 0 0 = some c) :
    (c < 64 ∧ ¬ op c = 0 ∧ T 7 c < 0 ∧ ∀ j, j < c → ¬ op j = 0 → 0 ≤ T 7 j) ∧ ∃ r, lvF t b c 7 0 none = some r ∧ (r < 7 ∧ 0 < T r c ∧ ∀ i, i < 7 → 0 < T i c → T i 71 * T r c = T r 71 * T i c → b r ≤ b i) ∧ Fsb (pv T r c) := by
  obtain ⟨-, h2, h3, h4⟩ := nth0 64 0 c hc
  have e7 : ∀ j, j < 64 → t (504 + j) = T 7 j := fun j hj => ht 7 j (by decide) (by omega)
  have ec : ∀ i, i < 7 → t (72 * i + c) = T i c := fun i hi => ht i c (by omega) (by omega)
  have e1 : ∀ i, i < 7 → t (72 * i + 71) = T i 71 := fun i hi => ht i 71 (by omega) (by omega)
  simp only [cmP, Bool.and_eq_true, decide_eq_true_eq] at h3
  refine ⟨⟨by omega, h3.1, ?_, fun j hj ho => ?_⟩, ?_⟩
  · rw [← e7 c (by omega)]; exact num_neg.mp h3.2
  · have := h4 j (by omega) hj
    simp only [cmP, Bool.and_eq_true, decide_eq_true_eq, not_and] at this
    have q := this ho
    rw [num_neg, e7 j (by omega)] at q
    grind
  · have L := lv_ok (t := t) (b := b) (c := c) 7 0 none (fun k hk => absurd hk (by omega))
    cases e : lvF t b c 7 0 none with
    | none =>
      exfalso
      rw [e] at L
      have n : ∀ k, k < 7 → T k c ≤ 0 := fun k hk => by
        have := L k (by omega)
        rw [ec k hk] at this
        grind
      have v := h.2.1 6 (by decide) c (by omega)
      rw [hA.2.2.1 c (by omega)] at v
      have z := S7_le (f := fun i => A 6 (b i) * T i c) (fun i hi => by
        have a := Rat.mul_nonneg (hA.2.2.2.1 (b i) (h.1.1 i hi)) (show 0 ≤ - T i c by have := n i hi; grind)
        grind)
      rw [← v] at z
      exact absurd z (by decide)
    | some r =>
      rw [e] at L
      obtain ⟨g1, g2, g3⟩ : Lv t b c 7 r := L
      rw [ec r g1] at g2
      have k3 : ∀ k, k < 7 → 0 < T k c → T r 71 / T r c ≤ T k 71 / T k c ∧ (T r 71 / T r c = T k 71 / T k c → b r ≤ b k) := fun k hk hp => by
        have := g3 k hk (by rw [ec k hk]; exact hp)
        rw [ec k hk, ec r g1, e1 k hk, e1 r g1] at this
        exact this
      refine ⟨r, rfl, ⟨g1, g2, fun i hi hp he => (k3 i hi hp).2 ?_⟩, fun i hi => ?_⟩
      · have a1 : T r 71 / T r c * T r c = T r 71 := by grind
        have a2 : T i 71 / T i c * T i c = T i 71 := by grind
        have a3 : (T r 71 / T r c - T i 71 / T i c) * (T r c * T i c) = 0 := by grind
        rcases Rat.mul_eq_zero.mp a3 with q | q
        · grind
        · have := Rat.mul_pos g2 hp
          grind
      · unfold pv
        have ra := div_nn (hF r g1) g2
        by_cases q : i = r
        · rw [if_pos q]; exact ra
        · rw [if_neg q]
          have fi := hF i hi
          by_cases s : 0 < T i c
          · have := div_le g2 s (k3 i hi s).1
            grind
          · have := Rat.mul_nonneg (show 0 ≤ - T i c by grind) ra
            grind
theorem pvT_vw {t : Nat → Rat} {T : Nat → Nat → Rat} (ht : ∀ i j, i < 8 → j < 72 → t (72 * i + j) = T i j) (hr : r < 7) (hc : c < 64) : ∀ i j, i < 8 → j < 72 → pvT t r c (72 * i + j) = pv T r c i j := by
  intro i j hi hj
  unfold pvT pv
  rw [show (72 * i + j) / 72 = i by omega, show (72 * i + j) % 72 = j by omega, ht i j hi hj, ht r c (by omega) (by omega), ht i c hi (by omega), ht r j (by omega) hj]
  by_cases e : i = r
  · rw [if_pos e, if_pos e, e]
  · rw [if_neg e, if_neg e]
/-- one step of it -/
def stp (op : Nat → Int32) (s : (Nat → Rat) × (Nat → Nat)) : (Nat → Rat) × (Nat → Nat) := match nthP (cmP s.1 op) 0 64 0 0 with
  | none => s
  | some c => match lvF s.1 s.2 c 7 0 none with
    | none => s
    | some r => (pvT s.1 r c, upN s.2 r c)
def itr (op : Nat → Int32) (s : (Nat → Rat) × (Nat → Nat)) : Nat → (Nat → Rat) × (Nat → Nat)
  | 0 => s
  | n + 1 => stp op (itr op s n)
theorem itr_sh (op : Nat → Int32) (s : (Nat → Rat) × (Nat → Nat)) : ∀ n, itr op (stp op s) n = itr op s (n + 1)
  | 0 => rfl
  | n + 1 => by show stp op _ = stp op _; rw [itr_sh op s n]
def cmO (op : Nat → Int32) (s : (Nat → Rat) × (Nat → Nat)) : Option Nat := nthP (cmP s.1 op) 0 64 0 0
def cmG (op : Nat → Int32) (s : (Nat → Rat) × (Nat → Nat)) : Nat := (cmO op s).getD 0
def lvG (op : Nat → Int32) (s : (Nat → Rat) × (Nat → Nat)) : Nat := (lvF s.1 s.2 (cmG op s) 7 0 none).getD 0
def seqT (op : Nat → Int32) (s : (Nat → Rat) × (Nat → Nat)) : Nat → Nat → Nat → Rat
  | 0 => vw s.1
  | n + 1 => pv (seqT op s n) (lvG op (itr op s n)) (cmG op (itr op s n))
theorem pigeon : ∀ (M : Nat) (f : Nat → Nat), (∀ n, n ≤ M → f n < M) → ∃ i j, i < j ∧ j ≤ M ∧ f i = f j
  | 0, f, h => absurd (h 0 (Nat.le_refl _)) (by omega)
  | M + 1, f, h => by
    by_cases q : ∃ i, i ≤ M ∧ f i = f (M + 1)
    · obtain ⟨i, h1, h2⟩ := q
      exact ⟨i, M + 1, by omega, Nat.le_refl _, h2⟩
    · have q2 : ∀ i, i ≤ M → f i ≠ f (M + 1) := fun i hi e => q ⟨i, hi, e⟩
      obtain ⟨i, j, g1, g2, g3⟩ := pigeon M (fun i => if f i = M then f (M + 1) else f i) (fun n hn => by
        show (if f n = M then f (M + 1) else f n) < M
        have h1 := h n (by omega)
        have h2 := h (M + 1) (by omega)
        by_cases e : f n = M
        · rw [if_pos e]; have := q2 n hn; omega
        · rw [if_neg e]; omega)
      refine ⟨i, j, g1, by omega, ?_⟩
      by_cases e1 : f i = M
      · by_cases e2 : f j = M
        · rw [e1, e2]
        · rw [if_pos e1, if_neg e2] at g3; exact absurd g3.symm (q2 j (by omega))
      · by_cases e2 : f j = M
        · rw [if_neg e1, if_pos e2] at g3; exact absurd g3 (q2 i (by omega))
        · rw [if_neg e1, if_neg e2] at g3; exact g3
def cod (b : Nat → Nat) : Nat := b 0 + 72 * (b 1 + 72 * (b 2 + 72 * (b 3 + 72 * (b 4 + 72 * (b 5 + 72 * b 6)))))
theorem cod_eq {b b' : Nat → Nat} (h : ∀ k, k < 7 → b k < 72) (h' : ∀ k, k < 7 → b' k < 72) (e : cod b = cod b') : ∀ k, k < 7 → b k = b' k := by
  unfold cod at e
  have a0 := h 0 (by decide); have a1 := h 1 (by decide); have a2 := h 2 (by decide); have a3 := h 3 (by decide); have a4 := h 4 (by decide); have a5 := h 5 (by decide)
  have c0 := h' 0 (by decide); have c1 := h' 1 (by decide); have c2 := h' 2 (by decide); have c3 := h' 3 (by decide); have c4 := h' 4 (by decide); have c5 := h' 5 (by decide)
  have e0 : b 0 = b' 0 := by omega
  have r0 : b 1 + 72 * (b 2 + 72 * (b 3 + 72 * (b 4 + 72 * (b 5 + 72 * b 6)))) = b' 1 + 72 * (b' 2 + 72 * (b' 3 + 72 * (b' 4 + 72 * (b' 5 + 72 * b' 6)))) := by omega
  have e1 : b 1 = b' 1 := by omega
  have r1 : b 2 + 72 * (b 3 + 72 * (b 4 + 72 * (b 5 + 72 * b 6))) = b' 2 + 72 * (b' 3 + 72 * (b' 4 + 72 * (b' 5 + 72 * b' 6))) := by omega
  have e2 : b 2 = b' 2 := by omega
  have r2 : b 3 + 72 * (b 4 + 72 * (b 5 + 72 * b 6)) = b' 3 + 72 * (b' 4 + 72 * (b' 5 + 72 * b' 6)) := by omega
  have e3 : b 3 = b' 3 := by omega
  have r3 : b 4 + 72 * (b 5 + 72 * b 6) = b' 4 + 72 * (b' 5 + 72 * b' 6) := by omega
  have e4 : b 4 = b' 4 := by omega
  have r4 : b 5 + 72 * b 6 = b' 5 + 72 * b' 6 := by omega
  intro k hk
  rcases lt7 hk with rfl | rfl | rfl | rfl | rfl | rfl | rfl <;> omega
theorem cod_lt {b : Nat → Nat} (h : ∀ k, k < 7 → b k < 72) : cod b < 72 * (72 * (72 * (72 * (72 * (72 * 72))))) := by
  unfold cod
  have a0 := h 0 (by decide); have a1 := h 1 (by decide); have a2 := h 2 (by decide); have a3 := h 3 (by decide); have a4 := h 4 (by decide); have a5 := h 5 (by decide); have a6 := h 6 (by decide)
  omega
/-- at every step what it keeps -/
theorem itr_ok (hA : AOk A V) {s : (Nat → Rat) × (Nat → Nat)} (h : Ivt A ga (vw s.1) s.2) (hF : Fsb (vw s.1)) : ∀ n, (∀ k, k < n → cmO op (itr op s k) ≠ none) → Ivt A ga (seqT op s n) (itr op s n).2 ∧ Fsb (seqT op s n) ∧ ∀ i j, i < 8 → j < 72 → (itr op s n).1 (72 * i + j) = seqT op s n i j
  | 0, _ => ⟨h, hF, fun _ _ _ _ => rfl⟩
  | n + 1, hn => by
    obtain ⟨i1, i2, i3⟩ := itr_ok hA h hF n (fun k hk => hn k (by omega))
    obtain ⟨c, hc⟩ := Option.ne_none_iff_exists'.mp (hn n (by omega))
    obtain ⟨⟨c1, c2, c3, c4⟩, r, hr, ⟨r1, r2, r3⟩, r4⟩ := step_ok (op := op) hA i1 i2 i3 hc
    have ec : cmG op (itr op s n) = c := by unfold cmG; rw [hc]; rfl
    have er : lvG op (itr op s n) = r := by unfold lvG; rw [ec, hr]; rfl
    have es : itr op s (n + 1) = (pvT (itr op s n).1 r c, upN (itr op s n).2 r c) := by
      show stp op (itr op s n) = _
      have hc' : nthP (cmP (itr op s n).1 op) 0 64 0 0 = some c := hc
      simp only [stp, hc', hr]
    have eT : seqT op s (n + 1) = pv (seqT op s n) r c := by show pv _ _ _ = _; rw [ec, er]
    rw [es, eT]
    exact ⟨inv_pv r1 (by omega) (by grind) i1, r4, pvT_vw i3 r1 c1⟩
theorem settle_ends (hA : AOk A V) {s : (Nat → Rat) × (Nat → Nat)} (h : Ivt A ga (vw s.1) s.2) (hF : Fsb (vw s.1)) : ∃ n, cmO op (itr op s n) = none := by
  apply Classical.byContradiction
  intro no
  have hn : ∀ n, cmO op (itr op s n) ≠ none := fun n e => no ⟨n, e⟩
  have ok := fun n => itr_ok (op := op) hA h hF n (fun k _ => hn k)
  have st : ∀ n, ∃ c r, cmG op (itr op s n) = c ∧ lvG op (itr op s n) = r ∧ (c < 64 ∧ ¬ op c = 0 ∧ seqT op s n 7 c < 0 ∧ ∀ j, j < c → ¬ op j = 0 → 0 ≤ seqT op s n 7 j) ∧ (r < 7 ∧ 0 < seqT op s n r c ∧ ∀ i, i < 7 → 0 < seqT op s n i c → seqT op s n i 71 * seqT op s n r c = seqT op s n r 71 * seqT op s n i c → (itr op s n).2 r ≤ (itr op s n).2 i) ∧ (itr op s (n + 1)).2 = upN (itr op s n).2 r c := fun n => by
    obtain ⟨i1, i2, i3⟩ := ok n
    obtain ⟨c, hc⟩ := Option.ne_none_iff_exists'.mp (hn n)
    obtain ⟨g, r, hr, g2, -⟩ := step_ok (op := op) hA i1 i2 i3 hc
    have ec : cmG op (itr op s n) = c := by unfold cmG; rw [hc]; rfl
    have er : lvG op (itr op s n) = r := by unfold lvG; rw [ec, hr]; rfl
    refine ⟨c, r, ec, er, g, g2, ?_⟩
    show (stp op (itr op s n)).2 = _
    have hc' : nthP (cmP (itr op s n).1 op) 0 64 0 0 = some c := hc
    simp only [stp, hc', hr]
  have R : RunB (fun j => ¬ op j = 0) (seqT op s) (fun n => (itr op s n).2) (fun n => lvG op (itr op s n)) (fun n => cmG op (itr op s n)) := by
    refine ⟨fun n => (ok n).1.1, fun n => (ok n).2.1, fun n => rfl, fun n => ?_, fun n => ?_, fun n => ?_⟩
    · obtain ⟨c, r, ec, er, -, -, e⟩ := st n
      dsimp only
      rw [ec, er]; exact e
    · obtain ⟨c, r, ec, -, g, -⟩ := st n
      dsimp only
      rw [ec]; exact g
    · obtain ⟨c, r, ec, er, -, g, -⟩ := st n
      dsimp only
      rw [ec, er]; exact g
  have bd : ∀ n k, k < 7 → (itr op s n).2 k < 72 := fun n k hk => by have := (ok n).1.1.1 k hk; omega
  obtain ⟨i, j, h1, -, h3⟩ := pigeon _ (fun n => cod (itr op s n).2) (fun n _ => cod_lt (bd n))
  obtain ⟨d, rfl⟩ := Nat.exists_eq_add_of_le (Nat.le_of_lt h1)
  exact bland R (a := i) (P := d) (by omega) (fun k hk => (cod_eq (bd _) (bd _) h3 k hk).symm)
/-- what settle needs, and what it leaves -/
theorem settle_good (hA : AOk A V) (hV : V ≤ 6) (hg : Gl ga G) : ∀ (n : Nat) (s : (Nat → Rat) × (Nat → Nat)), Ivt A ga (vw s.1) s.2 → Fsb (vw s.1) → cmO op (itr op s n) = none → ∃ m, GoodN op m s.1 s.2 ∧ Ivt A ga (vw (runS op m s.1 s.2).1) (runS op m s.1 s.2).2 ∧ Fsb (vw (runS op m s.1 s.2).1) ∧ nthP (cmP (runS op m s.1 s.2).1 op) 0 64 0 0 = none := by
  have smA : ∀ s : (Nat → Rat) × (Nat → Nat), Ivt A ga (vw s.1) s.2 → Fsb (vw s.1) → (∀ x, x < 576 → Sm (s.1 x)) ∧ (∀ x, x < 504 → St (s.1 x)) ∧ ∀ j, j < 7 → s.2 j < 72 := fun s h hF => by
    refine ⟨fun x hx => ?_, fun x hx => ?_, fun j hj => by have := h.1.1 j hj; omega⟩
    · have := inv_sm hA hV h hF hg (i := x / 72) (j := x % 72) (by omega) (by omega)
      unfold vw at this
      rw [show 72 * (x / 72) + x % 72 = x by omega] at this
      exact this
    · have := inv_st hA hV h (i := x / 72) (j := x % 72) (by omega) (by omega)
      unfold vw at this
      rw [show 72 * (x / 72) + x % 72 = x by omega] at this
      exact ⟨by omega, by omega⟩
  intro n
  induction n with
  | zero =>
    intro s h hF e
    have e' : nthP (cmP s.1 op) 0 64 0 0 = none := e
    refine ⟨1, ⟨smA s h hF, by rw [e']; trivial⟩, ?_⟩
    simp only [runS, e']
    exact ⟨h, hF, trivial⟩
  | succ n ih =>
    intro s h hF e
    cases e' : nthP (cmP s.1 op) 0 64 0 0 with
    | none =>
      refine ⟨1, ⟨smA s h hF, by rw [e']; trivial⟩, ?_⟩
      simp only [runS, e']
      exact ⟨h, hF, trivial⟩
    | some c =>
      obtain ⟨⟨c1, c2, c3, c4⟩, r, hr, ⟨r1, r2, r3⟩, r4⟩ := step_ok (op := op) (t := s.1) hA h hF (fun _ _ _ _ => rfl) e'
      have es : stp op s = (pvT s.1 r c, upN s.2 r c) := by simp only [stp, e', hr]
      have hp : vw s.1 r c ≠ 0 := by grind
      have ev := pvT_vw (t := s.1) (T := vw s.1) (r := r) (c := c) (fun _ _ _ _ => rfl) r1 c1
      have h2 : Ivt A ga (vw (pvT s.1 r c)) (upN s.2 r c) := inv_congr (fun i j hi hj => (ev i j hi hj).symm) (inv_pv r1 (by omega) hp h)
      have F2 : Fsb (vw (pvT s.1 r c)) := fun i hi => by
        show 0 ≤ pvT s.1 r c (72 * i + 71)
        rw [ev i 71 (by omega) (by omega)]; exact r4 i hi
      have := ih (pvT s.1 r c, upN s.2 r c) h2 F2 (by rw [← es, itr_sh]; exact e)
      obtain ⟨m, g1, g2⟩ := this
      refine ⟨m + 1, ⟨smA s h hF, by rw [e']; dsimp only; rw [hr]; exact ⟨r1, hp, g1⟩⟩, ?_⟩
      simp only [runS, e', hr]
      exact g2
end SE
/-! the first tableau; clean; aim: what the two goals of solve need -/
def laA (ak fv : Nat) : Nat → Nat → Rat := fun i j => ((laV ak fv i j : Int) : Rat)
def ga1 : Nat → Rat := fun j => if 64 ≤ j ∧ j < 71 then 1 else 0
section FT
variable {ak fv : Nat}
theorem laV_01 {i j : Nat} (h : ¬ (i = 6 ∧ j = 71)) : laV ak fv i j = 0 ∨ laV ak fv i j = 1 := by
  unfold laV
  rw [if_neg h]
  split
  · exact Or.inr rfl
  · exact Or.inl rfl
theorem laV_id {i k : Nat} (hi : i < 7) (hk : k < 7) : laV ak fv i (64 + k) = if i = k then 1 else 0 := by
  unfold laV
  rw [if_neg (by omega)]
  by_cases e : i = k
  · subst e
    rw [if_pos rfl, if_pos]
    by_cases e6 : i = 6
    · exact Or.inr ⟨e6, Or.inr rfl⟩
    · by_cases q : ak.testBit i = true
      · exact Or.inl (Or.inl ⟨by omega, q, Or.inr (Or.inl rfl)⟩)
      · exact Or.inl (Or.inr ⟨by omega, q, rfl⟩)
  · rw [if_neg e, if_neg]
    rintro ((⟨-, -, h⟩ | ⟨-, -, h⟩) | ⟨-, h⟩)
    · rcases h with h | h | h <;> omega
    · omega
    · omega
theorem laV_r7 {j : Nat} : laV ak fv 7 j = 0 := by
  unfold laV
  rw [if_neg (by omega), if_neg]
  rintro ((⟨h, -⟩ | ⟨h, -⟩) | ⟨h, -⟩) <;> omega
theorem laT_row {i j : Nat} (hi : i < 7) (hj : j < 72) : vw (laT ak fv) i j = laA ak fv i j := by
  show la8 ak fv 7 0 (72 * i + j) = _
  unfold la8
  rw [if_neg (by omega), show (72 * i + j) / 72 = i by omega, show (72 * i + j) % 72 = j by omega]
  rfl
theorem laS7 {j : Nat} : ((laS ak fv 7 j : Int) : Rat) = S7 (fun i => laA ak fv i j) := by
  simp only [laS, S7, laA, Rat.intCast_add]
  show (0 : Rat) + _ + _ + _ + _ + _ + _ + _ = _
  grind
theorem laT_goal {j : Nat} (hj : j < 72) : vw (laT ak fv) 7 j = if 64 ≤ j ∧ j < 71 then 0 else - S7 (fun i => laA ak fv i j) := by
  show la8 ak fv 7 0 (72 * 7 + j) = _
  unfold la8
  by_cases h : 64 ≤ j ∧ j < 71
  · rw [if_neg (by omega), if_pos h, show (72 * 7 + j) / 72 = 7 by omega, laV_r7]; rfl
  · rw [if_pos (by omega), if_neg h, ← laS7, if_neg (by omega), show 72 * 7 + j - 504 = j by omega, Rat.intCast_neg]
theorem laA_ok (hfv : fv ≤ 6) : AOk (laA ak fv) 6 := by
  have w : ∀ {i j : Nat}, ¬ (i = 6 ∧ j = 71) → wh (laA ak fv i j) 1 := fun {i j} h => by
    refine ⟨laV ak fv i j, rfl, ?_⟩
    rcases laV_01 (ak := ak) (fv := fv) h with e | e <;> rw [e] <;> decide
  have e71 : laV ak fv 6 71 = fv := by unfold laV; rw [if_pos ⟨rfl, rfl⟩]
  refine ⟨fun i j _ hj => w (by omega), fun i hi => ?_, fun j hj => ?_, fun j hj => ?_, ?_⟩
  · by_cases e : i = 6
    · subst e; exact ⟨laV ak fv 6 71, rfl, by rw [e71]; omega⟩
    · exact wh_mono (w (by omega)) (by decide)
  · show ((laV ak fv 6 j : Int) : Rat) = 1
    have : laV ak fv 6 j = 1 := by
      unfold laV
      rw [if_neg (by omega), if_pos (Or.inr ⟨rfl, Or.inl hj⟩)]
    rw [this]; rfl
  · show (0 : Rat) ≤ ((laV ak fv 6 j : Int) : Rat)
    rcases laV_01 (ak := ak) (fv := fv) (i := 6) (j := j) (by omega) with e | e <;> rw [e] <;> decide
  · show ((laV ak fv 6 71 : Int) : Rat) ≤ ((6 : Nat) : Rat)
    rw [e71]
    exact Rat.intCast_le_intCast.mpr (by omega)
theorem dt_id : ∀ (n : Nat) (f : Nat → Nat → Rat), (∀ k i, k < n → i < n → f k i = if i = k then 1 else 0) → dt n f ≠ 0
  | 0, _, _ => by show (1 : Rat) ≠ 0; decide
  | n + 1, f, h => by
    have e : dt (n + 1) f = sgn n * f n n * dt n (fun k => f (sk n k)) := by
      show smN (n + 1) _ = _
      exact smN_only (f := fun j => sgn j * f j n * dt n (fun k => f (sk j k))) (p := n) (by omega) (fun i hi hne => by
        show sgn i * f i n * _ = 0
        rw [h i n hi (by omega), if_neg (fun q => hne q.symm)]; grind)
    have k := dt_id n (fun k => f (sk n k)) (fun k i hk hi => by
      show f (sk n k) i = _
      unfold sk
      rw [if_pos hk]; exact h k i (by omega) (by omega))
    rw [e, h n n (by omega) (by omega), if_pos rfl]
    have s : sgn n ≠ 0 := by unfold sgn; split <;> decide +kernel
    intro q
    rcases Rat.mul_eq_zero.mp q with q | q
    · grind
    · exact k q
theorem laA_id {i k : Nat} (hi : i < 7) (hk : k < 7) : laA ak fv i (64 + k) = if i = k then 1 else 0 := by
  show ((laV ak fv i (64 + k) : Int) : Rat) = _
  rw [laV_id hi hk]
  split <;> rfl
theorem la_inv : Ivt (laA ak fv) ga1 (vw (laT ak fv)) (fun j => 64 + j) := by
  refine ⟨⟨fun k hk => by show 64 + k < 71; omega, fun i k hi hk => ?_, fun k hk => ?_⟩, fun k hk j hj => ?_, ?_, fun j hj => ?_⟩
  · show vw (laT ak fv) i (64 + k) = _
    rw [laT_row hi (by omega), laA_id hi hk]
  · show vw (laT ak fv) 7 (64 + k) = 0
    rw [laT_goal (by omega), if_pos ⟨by omega, by omega⟩]
  · rw [S7_only (r := k) hk (fun i hi hn => by show laA ak fv k (64 + i) * _ = 0; rw [laA_id hk hi, if_neg (fun q => hn q.symm)]; grind)]
    show _ = laA ak fv k (64 + k) * vw (laT ak fv) k j
    rw [laA_id hk hk, if_pos rfl, laT_row hk hj]; grind
  · exact dt_id 7 _ (fun k i hk hi => laA_id hi hk)
  · have e : S7 (fun i => (ga1 (64 + i) - vw (laT ak fv) 7 (64 + i)) * vw (laT ak fv) i j) = S7 (fun i => laA ak fv i j) := S7_congr (fun i hi => by
      have g : ga1 (64 + i) = 1 := by unfold ga1; rw [if_pos ⟨by omega, by omega⟩]
      rw [g, laT_goal (by omega), if_pos ⟨by omega, by omega⟩, laT_row hi hj]; grind)
    refine Eq.trans ?_ e.symm
    show ga1 j - vw (laT ak fv) 7 j = _
    rw [laT_goal hj]
    unfold ga1
    by_cases q : 64 ≤ j ∧ j < 71
    · rw [if_pos q, if_pos q]
      obtain ⟨k, rfl⟩ := Nat.exists_eq_add_of_le q.1
      rw [S7_only (r := k) (by omega) (fun i hi hn => by rw [laA_id hi (by omega), if_neg hn]), laA_id (by omega) (by omega), if_pos rfl]; grind
    · rw [if_neg q, if_neg q]; grind
theorem la_fs : Fsb (vw (laT ak fv)) := fun i hi => by
  rw [laT_row hi (by omega)]
  show (0 : Rat) ≤ ((laV ak fv i 71 : Int) : Rat)
  refine Rat.intCast_nonneg.mpr ?_
  unfold laV
  split
  · omega
  · split <;> decide
theorem ga1_gl : Gl ga1 1 := by
  refine ⟨rfl, fun j _ => ?_, Or.inl (Nat.le_refl _)⟩
  unfold ga1
  split
  · exact ⟨1, rfl, by decide⟩
  · exact ⟨0, rfl, by decide⟩
end FT
section CA
variable {A T : Nat → Nat → Rat} {ga : Nat → Rat} {b : Nat → Nat} {op : Nat → Int32}
/-- where nothing stays unserved, what is made has the amount 0 -/
def Zer (s : (Nat → Rat) × (Nat → Nat)) : Prop := ∀ i, i < 7 → 64 ≤ s.2 i → s.1 (72 * i + 71) = 0
theorem zer_of {s : (Nat → Rat) × (Nat → Nat)} (h : Ivt A ga1 (vw s.1) s.2) (hF : Fsb (vw s.1)) (h0 : s.1 575 = 0) : Zer s := by
  have e := inv_goal h (show 71 < 72 by decide)
  have e0 : vw s.1 7 71 = 0 := h0
  have eg : ga1 71 = 0 := rfl
  rw [e0, eg] at e
  have z : S7 (fun i => ga1 (s.2 i) * vw s.1 i 71) = 0 := by grind
  have nn : ∀ i, i < 7 → 0 ≤ ga1 (s.2 i) * vw s.1 i 71 := fun i hi => by
    refine Rat.mul_nonneg ?_ (hF i hi)
    unfold ga1; split <;> decide
  intro i hi hb
  have one := S7_one (f := fun i => ga1 (s.2 i) * vw s.1 i 71) hi
  have rest := S7_nn (f := fun k => if k = i then 0 else ga1 (s.2 k) * vw s.1 k 71) (fun k hk => by
    by_cases q : k = i
    · rw [if_pos q]; exact Rat.le_refl
    · rw [if_neg q]; exact nn k hk)
  have me := nn i hi
  have g1 : ga1 (s.2 i) = 1 := by unfold ga1; rw [if_pos ⟨hb, h.1.1 i hi⟩]
  rw [g1] at one me
  show vw s.1 i 71 = 0
  grind
theorem smA_of {s : (Nat → Rat) × (Nat → Nat)} (hA : AOk A 6) (h : Ivt A ga1 (vw s.1) s.2) : SmA s := by
  refine ⟨fun x hx => ?_, fun j hj => by have := h.1.1 j hj; omega⟩
  have := inv_sm1 hA (by decide) h ga1_gl.1 ga1_gl.2.1 (i := x / 72) (j := x % 72) (by omega) (by omega)
  unfold vw at this
  rw [show 72 * (x / 72) + x % 72 = x by omega] at this
  exact this
theorem cl_step {s : (Nat → Rat) × (Nat → Nat)} {i : Nat} (hi : i < 7) (h : Ivt A ga1 (vw s.1) s.2) (hF : Fsb (vw s.1)) (hz : Zer s) : Ivt A ga1 (vw (clS op s i).1) (clS op s i).2 ∧ Fsb (vw (clS op s i).1) ∧ Zer (clS op s i) := by
  unfold clS
  cases e : cl1 op s i with
  | none => exact ⟨h, hF, hz⟩
  | some c =>
    unfold cl1 at e
    by_cases q : s.2 i < 64
    · rw [if_pos q] at e; cases e
    · rw [if_neg q] at e
      obtain ⟨-, c1, c2, -⟩ := nth0 64 0 c e
      simp only [clP, Bool.and_eq_true, decide_eq_true_eq] at c2
      have hp : vw s.1 i c ≠ 0 := c2.2
      have ev := pvT_vw (t := s.1) (T := vw s.1) (r := i) (c := c) (fun _ _ _ _ => rfl) hi (by omega)
      have b0 : vw s.1 i 71 = 0 := hz i hi (by omega)
      have k : ∀ j, j < 7 → pv (vw s.1) i c j 71 = vw s.1 j 71 := fun j hj => by
        unfold pv
        by_cases e2 : j = i
        · rw [if_pos e2, b0, e2, b0]; grind
        · rw [if_neg e2, b0]; grind
      refine ⟨inv_congr (fun i' j hi' hj => (ev i' j hi' hj).symm) (inv_pv hi (by omega) hp h), fun j hj => ?_, fun j hj hb => ?_⟩
      · show 0 ≤ pvT s.1 i c (72 * j + 71)
        rw [ev j 71 (by omega) (by omega), k j hj]; exact hF j hj
      · show pvT s.1 i c (72 * j + 71) = 0
        rw [ev j 71 (by omega) (by omega), k j hj]
        refine hz j hj ?_
        have hb' : 64 ≤ upN s.2 i c j := hb
        unfold upN at hb'
        by_cases e2 : j = i
        · rw [if_pos e2] at hb'; omega
        · rw [if_neg e2] at hb'; exact hb'
theorem cl_good (hA : AOk A 6) : ∀ (n i : Nat) (s : (Nat → Rat) × (Nat → Nat)), i + n ≤ 7 → Ivt A ga1 (vw s.1) s.2 → Fsb (vw s.1) → Zer s → GdC op n i s ∧ Ivt A ga1 (vw (clF op n i s).1) (clF op n i s).2 ∧ Fsb (vw (clF op n i s).1)
  | 0, _, s, _, h, hF, _ => ⟨smA_of hA h, h, hF⟩
  | n + 1, i, s, hn, h, hF, hz => by
    obtain ⟨a, b, c⟩ := cl_step (op := op) (i := i) (by omega) h hF hz
    obtain ⟨g1, g2⟩ := cl_good hA n (i + 1) (clS op s i) (by omega) a b c
    exact ⟨⟨smA_of hA h, g1⟩, g2⟩
/-- aim: the goal row after k of the rows -/
def AmI (v : Nat → Int) (T : Nat → Nat → Rat) (b : Nat → Nat) (t : Nat → Rat) (k : Nat) : Prop := (∀ i j, i < 7 → j < 72 → t (72 * i + j) = T i j) ∧ ∀ j, j < 72 → t (504 + j) = (v j : Rat) - S7 (fun i => (if i < k then (v (b i) : Rat) else 0) * T i j)
theorem am_step {v : Nat → Int} {t : Nat → Rat} {k : Nat} (hT : Tab T b) (hv : ∀ j, 64 ≤ j → v j = 0) (hk : k < 7) (h : AmI v T b t k) : AmI v T b (amS b t k) (k + 1) := by
  have hb := hT.1
  refine ⟨fun i j hi hj => ?_, fun j hj => ?_⟩
  · unfold amS
    rw [if_neg (by omega)]; exact h.1 i j hi hj
  · have sp : S7 (fun i => (if i < k + 1 then (v (b i) : Rat) else 0) * T i j) = S7 (fun i => (if i < k then (v (b i) : Rat) else 0) * T i j) + (v (b k) : Rat) * T k j := by
      rw [S7_one hk, S7_one (f := fun i => (if i < k then (v (b i) : Rat) else 0) * T i j) hk]
      rw [if_neg (show ¬ k < k by omega), if_pos (show k < k + 1 by omega)]
      have : S7 (fun i => if i = k then 0 else (if i < k + 1 then (v (b i) : Rat) else 0) * T i j) = S7 (fun i => if i = k then 0 else (if i < k then (v (b i) : Rat) else 0) * T i j) := S7_congr (fun i hi => by
        by_cases e : i = k
        · rw [if_pos e, if_pos e]
        · rw [if_neg e, if_neg e]
          by_cases e2 : i < k
          · rw [if_pos e2, if_pos (by omega)]
          · rw [if_neg e2, if_neg (by omega)])
      rw [this]; grind
    unfold amS
    rw [show (504 + j) / 72 = 7 by omega, show (504 + j) % 72 = j by omega]
    by_cases q : b k < 64
    · rw [if_pos ⟨q, rfl⟩, h.2 j hj, h.1 k j hk hj, h.2 (b k) (by omega), sp]
      have z : S7 (fun i => (if i < k then (v (b i) : Rat) else 0) * T i (b k)) = S7 (fun _ => 0) := S7_congr (fun i hi => by
        by_cases e : i < k
        · rw [if_pos e, hT.2.1 i k hi hk, if_neg (by omega)]; grind
        · rw [if_neg e]; grind)
      have z2 : S7 (fun _ => 0) = 0 := by simp only [S7]; grind
      rw [z, z2]; grind
    · rw [if_neg (fun z => q z.1), h.2 j hj, sp, hv (b k) (by omega)]
      show _ = _ - (_ + ((0 : Int) : Rat) * _)
      have : ((0 : Int) : Rat) = 0 := rfl
      rw [this]; grind
theorem am_sm {v : Nat → Int} {t : Nat → Rat} {k : Nat} (hA : AOk A 6) (h : Ivt A ga T b) (hF : Fsb T) (hv : ∀ j, 64 ≤ j → v j = 0) (hw : ∀ j, (v j).natAbs ≤ 14000) (hi : AmI v T b t k) : ∀ x, x < 576 → Sm (t x) := by
  intro x hx
  by_cases q : x < 504
  · have e := hi.1 (x / 72) (x % 72) (by omega) (by omega)
    rw [show 72 * (x / 72) + x % 72 = x by omega] at e
    rw [e]
    have := inv_st hA (by decide) h (i := x / 72) (j := x % 72) (by omega) (by omega)
    exact ⟨by omega, by omega⟩
  · have e := hi.2 (x - 504) (by omega)
    rw [show 504 + (x - 504) = x by omega] at e
    rw [e]
    refine part_sm (G := 14000) hA (by decide) h hF (Nat.le_refl _) ⟨v (x - 504), rfl, hw _⟩ (fun i hi => ?_) (fun i hi hb => ?_) (by omega) (fun q2 => by rw [q2, hv 71 (by decide)]; rfl)
    · split
      · exact ⟨v (b i), rfl, hw _⟩
      · exact ⟨0, rfl, by decide⟩
    · split
      · rw [hv (b i) hb]; rfl
      · rfl
theorem am_good {v : Nat → Int} (hA : AOk A 6) (h : Ivt A ga T b) (hF : Fsb T) (hv : ∀ j, 64 ≤ j → v j = 0) (hw : ∀ j, (v j).natAbs ≤ 14000) : ∀ (n k : Nat) (t : Nat → Rat), k + n ≤ 7 → AmI v T b t k → GdA b n k t ∧ AmI v T b (amF b n k t) (k + n)
  | 0, k, t, _, hi => ⟨am_sm hA h hF hv hw hi, hi⟩
  | n + 1, k, t, hk, hi => by
    have s := am_step (k := k) h.1 hv (by omega) hi
    obtain ⟨g1, g2⟩ := am_good hA h hF hv hw n (k + 1) (amS b t k) (by omega) s
    exact ⟨⟨am_sm hA h hF hv hw hi, g1⟩, by rw [show k + (n + 1) = k + 1 + n by omega]; exact g2⟩
theorem am_start {v : Nat → Int} {t : Nat → Rat} : AmI v (vw t) b (am0 v t) 0 := by
  refine ⟨fun i j hi hj => ?_, fun j hj => ?_⟩
  · unfold am0 vw
    rw [if_neg (by omega)]
  · unfold am0
    rw [if_pos (by omega), show (504 + j) % 72 = j by omega]
    have z : S7 (fun i => (if i < 0 then (v (b i) : Rat) else 0) * vw t i j) = S7 (fun _ => 0) := S7_congr (fun i hi => by rw [if_neg (by omega)]; grind)
    have z2 : S7 (fun _ => 0) = 0 := by simp only [S7]; grind
    rw [z, z2]; grind
/-- the tableau with its new goal -/
theorem am_inv {v : Nat → Int} {t : Nat → Rat} (h : Ivt A ga T b) (hF : Fsb T) (hi : AmI v T b t 7) : Ivt A (fun j => (v j : Rat)) (vw t) b ∧ Fsb (vw t) := by
  have eR : ∀ i j, i < 7 → j < 72 → vw t i j = T i j := fun i j hi' hj => hi.1 i j hi' hj
  have eG : ∀ j, j < 72 → vw t 7 j = (v j : Rat) - S7 (fun i => (v (b i) : Rat) * T i j) := fun j hj => by
    show t (504 + j) = _
    rw [hi.2 j hj]
    rw [S7_congr (f := fun i => (if i < 7 then (v (b i) : Rat) else 0) * T i j) (g := fun i => (v (b i) : Rat) * T i j) (fun i hi' => by rw [if_pos hi'])]
  have bb : ∀ k, k < 7 → b k < 72 := fun k hk => by have := h.1.1 k hk; omega
  have eZ : ∀ k, k < 7 → vw t 7 (b k) = 0 := fun k hk => by
    rw [eG _ (bb k hk), S7_only (r := k) hk (fun i hi' hn => by rw [h.1.2.1 i k hi' hk, if_neg hn]; grind), h.1.2.1 k k hk hk, if_pos rfl]; grind
  refine ⟨⟨⟨h.1.1, fun i k hi' hk => by rw [eR i _ hi' (bb k hk)]; exact h.1.2.1 i k hi' hk, eZ⟩, fun k hk j hj => (h.2.1 k hk j hj).trans (S7_congr (fun i hi' => by rw [eR i j hi' hj])), h.2.2.1, fun j hj => ?_⟩, fun i hi' => by rw [eR i 71 hi' (by decide)]; exact hF i hi'⟩
  have e1 : (v j : Rat) - vw t 7 j = S7 (fun i => (v (b i) : Rat) * T i j) := by rw [eG j hj]; grind
  exact e1.trans (S7_congr (fun i hi' => by show _ = ((v (b i) : Rat) - vw t 7 (b i)) * vw t i j; rw [eZ i hi', eR i j hi' hj]; grind))
theorem amV_0 {co : Nat → Int32} {w : Nat} : ∀ j, 64 ≤ j → amV co w j = 0 := fun j hj => by unfold amV; rw [if_pos (Or.inr hj)]
theorem amV_w {co : Nat → Int32} {w : Nat} (hco : ∀ j, j < 64 → (co j).toInt ≤ 14000) : ∀ j, (amV co w j).natAbs ≤ 14000 := fun j => by
  unfold amV
  split
  · decide
  · split
    · split <;> decide
    · split
      · decide
      · rename_i h1 _ h3
        have h4 := hco j (by omega)
        have h5 : (0 : Int) ≤ (co j).toInt := by
          have := Int32.not_lt.mp h3
          simpa using Int32.le_iff_toInt_le.mp this
        omega
theorem amV_gl {co : Nat → Int32} {w : Nat} (hco : ∀ j, j < 64 → (co j).toInt ≤ 14000) : Gl (fun j => (amV co w j : Rat)) 14000 :=
  ⟨by show ((amV co w 71 : Int) : Rat) = 0; rw [amV_0 71 (by decide)]; rfl, fun j _ => ⟨amV co w j, rfl, amV_w hco j⟩, Or.inr ⟨Nat.le_refl _, fun j h1 _ => by show ((amV co w j : Int) : Rat) = 0; rw [amV_0 j h1]; rfl⟩⟩
/-- solve comes to its end, with small numbers all the way -/
theorem solve_ok {ak fv : Nat} (hfv : fv ≤ 6) {co : Nat → Int32} (hco : ∀ j, j < 64 → (co j).toInt ≤ 14000) (op : Nat → Int32) :
    ∃ n n2, GoodN op n (laT ak fv) (fun j => 64 + j) ∧ ((runS op n (laT ak fv) (fun j => 64 + j)).1 575 = 0 →
      GdC op 7 0 (runS op n (laT ak fv) (fun j => 64 + j)) ∧
      (∀ j, j < 7 → (clF op 7 0 (runS op n (laT ak fv) (fun j => 64 + j))).2 j < 64 → (clF op 7 0 (runS op n (laT ak fv) (fun j => 64 + j))).1 (72 * j + (clF op 7 0 (runS op n (laT ak fv) (fun j => 64 + j))).2 j) = 1) ∧
      GdA (clF op 7 0 (runS op n (laT ak fv) (fun j => 64 + j))).2 7 0 (am0 (amV co 0) (clF op 7 0 (runS op n (laT ak fv) (fun j => 64 + j))).1) ∧
      GoodN op n2 (amF (clF op 7 0 (runS op n (laT ak fv) (fun j => 64 + j))).2 7 0 (am0 (amV co 0) (clF op 7 0 (runS op n (laT ak fv) (fun j => 64 + j))).1)) (clF op 7 0 (runS op n (laT ak fv) (fun j => 64 + j))).2 ∧
      Ivt (laA ak fv) (fun j => (amV co 0 j : Rat)) (vw (runS op n2 (amF (clF op 7 0 (runS op n (laT ak fv) (fun j => 64 + j))).2 7 0 (am0 (amV co 0) (clF op 7 0 (runS op n (laT ak fv) (fun j => 64 + j))).1)) (clF op 7 0 (runS op n (laT ak fv) (fun j => 64 + j))).2).1) (runS op n2 (amF (clF op 7 0 (runS op n (laT ak fv) (fun j => 64 + j))).2 7 0 (am0 (amV co 0) (clF op 7 0 (runS op n (laT ak fv) (fun j => 64 + j))).1)) (clF op 7 0 (runS op n (laT ak fv) (fun j => 64 + j))).2).2 ∧
      Fsb (vw (runS op n2 (amF (clF op 7 0 (runS op n (laT ak fv) (fun j => 64 + j))).2 7 0 (am0 (amV co 0) (clF op 7 0 (runS op n (laT ak fv) (fun j => 64 + j))).1)) (clF op 7 0 (runS op n (laT ak fv) (fun j => 64 + j))).2).1)) := by
  have hA := laA_ok (ak := ak) hfv
  obtain ⟨n0, e0⟩ := settle_ends (op := op) (s := (laT ak fv, fun j => 64 + j)) hA la_inv la_fs
  obtain ⟨n, g1, g2, g3, g4⟩ := settle_good (op := op) hA (by decide) ga1_gl n0 (laT ak fv, fun j => 64 + j) la_inv la_fs e0
  dsimp only at g1 g2 g3 g4
  refine ⟨n, ?_⟩
  generalize runS op n (laT ak fv) (fun j => 64 + j) = s1 at g2 g3 g4 ⊢
  by_cases z : s1.1 575 = 0
  · obtain ⟨c1, c2, c3⟩ := cl_good (op := op) hA 7 0 s1 (by decide) g2 g3 (zer_of g2 g3 z)
    generalize clF op 7 0 s1 = s2 at c2 c3 ⊢
    obtain ⟨a1, a2⟩ := am_good (v := amV co 0) hA c2 c3 amV_0 (amV_w hco) 7 0 (am0 (amV co 0) s2.1) (by decide) am_start
    obtain ⟨b1, b2⟩ := am_inv c2 c3 a2
    obtain ⟨n1, e1⟩ := settle_ends (op := op) (s := (amF s2.2 7 0 (am0 (amV co 0) s2.1), s2.2)) hA b1 b2
    obtain ⟨n2, f1, f2, f3, -⟩ := settle_good (op := op) hA (by decide) (amV_gl hco) n1 (amF s2.2 7 0 (am0 (amV co 0) s2.1), s2.2) b1 b2 e1
    refine ⟨n2, g1, fun _ => ⟨c1, fun j hj hb => ?_, a1, f1, f2, f3⟩⟩
    have := c2.1.2.1 j j hj hj
    rw [if_pos rfl] at this
    exact this
  · exact ⟨0, g1, fun q => absurd q z⟩
end CA
