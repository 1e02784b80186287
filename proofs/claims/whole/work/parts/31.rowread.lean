/-! ROWS READ: what a row's functions answer -/
theorem FU_lt {d : Nat} (h : d < 2000) : d < FU := h
theorem oI_subneg {a b : Nat} (h : a ≤ b) : oI a - oI b = -(oI (b - a)) := by
  have h1 : oI b = oI a + oI (b - a) := by rw [oI_add, show a + (b - a) = b by omega]
  rw [h1, Int32.sub_eq_add_neg, Int32.neg_add, Int32.sub_eq_add_neg, ← Int32.add_assoc, Int32.add_right_neg, Int32.zero_add]
theorem neg_toInt {k : Nat} (h : k < 2147483648) : (-(oI k)).toInt = -(k : Int) := by
  rw [Int32.toInt_neg, oI_toInt h, Int.bmod_eq_of_le]
  · omega
  · omega
theorem neg_le0 {k : Nat} (h : k < 2147483648) : (-(oI k) ≤ oI 0) = True := by
  rw [Int32.le_iff_toInt_le, neg_toInt h, oI_toInt (by omega)]
  simp
theorem in_out (a : Int32) (n : Nat) (hn : n < 2147483648) : (∃ k, k < n ∧ a = oI k) ∨ a < 0 ∨ oI n ≤ a := by
  by_cases h0 : a < 0
  · exact .inr (.inl h0)
  by_cases h1 : oI n ≤ a
  · exact .inr (.inr h1)
  rw [Int32.lt_iff_toInt_lt] at h0
  rw [Int32.le_iff_toInt_le, oI_toInt hn] at h1
  have h2 : (0 : Int32).toInt = 0 := rfl
  have hb := a.toInt_lt
  refine .inl ⟨a.toInt.toNat, by omega, ?_⟩
  rw [← Int32.toInt_inj, oI_toInt (by omega)]
  omega
theorem lt_mx {g : Nat → Nat} {n : Nat} (h : 1 ≤ n) : lst g n ≤ mx g n := Nat.le_trans (lst_at g n 0 h) (le_mx g n 0 h)
theorem fst_uni {g : Nat → Nat} {v j : Nat} : ∀ (n : Nat), j ≤ n → (∀ k, k < j → g k ≠ v) → (j = n ∨ g j = v) → fst g n v = j
  | 0, hj, h1, h2 => by simp only [fst]; omega
  | n + 1, hj, h1, h2 => by
    rw [fst]
    by_cases e : j = n + 1
    · have := fst_uni (g := g) (v := v) (j := n) n (Nat.le_refl n) (fun k hk => h1 k (by omega)) (.inl rfl)
      rw [this, if_neg (by omega), if_neg (h1 n (by omega))]; exact e.symm
    · have h3 : g j = v := by rcases h2 with h | h; exact absurd h e; exact h
      have := fst_uni (g := g) (v := v) (j := j) n (by omega) h1 (.inr h3)
      rw [this]
      by_cases e2 : j < n
      · rw [if_pos e2]
      · have : j = n := by omega
        subst this
        rw [if_neg e2, if_pos h3]
theorem fst_no {g : Nat → Nat} {v : Nat} : ∀ (n k : Nat), k < fst g n v → g k ≠ v
  | 0, k, h => by simp only [fst] at h; omega
  | n + 1, k, h => by
    rw [fst] at h
    have hl := fst_le g n v
    by_cases c : fst g n v < n
    · rw [if_pos c] at h; exact fst_no n k h
    · rw [if_neg c] at h
      by_cases c2 : g n = v
      · rw [if_pos c2] at h; exact fst_no n k (by omega)
      · rw [if_neg c2] at h
        by_cases c3 : k = n
        · rw [c3]; exact c2
        · exact fst_no n k (by omega)
theorem fst_yes {g : Nat → Nat} {v : Nat} : ∀ (n : Nat), fst g n v < n → g (fst g n v) = v
  | 0, h => by omega
  | n + 1, h => by
    rw [fst] at h ⊢
    by_cases c : fst g n v < n
    · rw [if_pos c]; exact fst_yes n c
    · rw [if_neg c] at h ⊢
      by_cases c2 : g n = v
      · rw [if_pos c2]; exact c2
      · rw [if_neg c2] at h; omega
theorem fst_lt {g : Nat → Nat} {v n k : Nat} (hk : k < n) (h : g k = v) : fst g n v ≤ k := by
  have := fst_no (g := g) (v := v) n k
  by_cases c : k < fst g n v
  · exact absurd h (this c)
  · omega
theorem cnt_mono (g : Nat → Nat) (v : Nat) : ∀ (n k : Nat), k ≤ n → cnt g k v ≤ cnt g n v
  | 0, k, h => by have : k = 0 := by omega
                  subst this; omega
  | n + 1, k, h => by
    by_cases e : k = n + 1
    · subst e; omega
    · have := cnt_mono g v n k (by omega)
      rw [cnt]; omega
theorem cnt_none {g : Nat → Nat} {v : Nat} : ∀ (j : Nat), (∀ k, k < j → g k ≠ v) → cnt g j v = 0
  | 0, _ => rfl
  | j + 1, h => by rw [cnt, cnt_none j (fun k hk => h k (by omega)), if_neg (h j (by omega))]
/-- how often the value at p stands from p on -/
def sf (g : Nat → Nat) (n p : Nat) : Nat := cnt g n (g p) - cnt g p (g p)
theorem mx_sf (g : Nat → Nat) (n : Nat) : mx (sf g n) n = mst g n := by
  apply Nat.le_antisymm
  · apply mx_le
    intro i hi
    have := le_mx (fun i => cnt g n (g i)) n i hi
    unfold sf mst
    omega
  · by_cases h0 : n = 0
    · subst h0; simp [mst, mx]
    · obtain ⟨i, hi, he⟩ := mx_at (fun i => cnt g n (g i)) n (by omega)
      have hl := fst_lt hi (rfl : g i = g i)
      have hy := fst_yes (g := g) (v := g i) n (by omega)
      have hz := cnt_none (g := g) (v := g i) (fst g n (g i)) (fst_no n)
      have := le_mx (sf g n) n (fst g n (g i)) (by omega)
      unfold mst
      rw [← he]
      simp only [sf, hy, hz] at this
      simpa using this
theorem hf_succ (g : Nat → Nat) {i : Nat} (h : 1 ≤ i) : hf g (i + 1) = max (hf g i) (nd g i) := by
  obtain ⟨k, rfl⟩ : ∃ k, i = k + 1 := ⟨i - 1, by omega⟩
  rfl
def RwA (S : St) (r n : Nat) (g : Nat → Nat) : Prop :=
  oO S r 3 = some () ∧ gI S r 3 1 = some (oI n) ∧ gR S r 3 0 = some (r + 1) ∧ (∀ i, i < n → aI S (r + 1) (oI i) = some (oI (g i))) ∧ n ≤ 24 ∧ (∀ i, g i ≤ 255) ∧ aN S (r + 1) 0 = some (oI 24)
theorem x4_size {S : St} {r n : Nat} {g : Nat → Nat} (h : RwA S r n g) : f_X4_size S r = some (oI n) := by
  simp only [f_X4_size, h.1, h.2.1, h.2.2.1, Option.bind_some, reduceIte, if_true, if_false]
theorem x4_room {S : St} {r n : Nat} {g : Nat → Nat} (h : RwA S r n g) {k : Nat} (hk : k < 2147483648) : f_X4_hasRoomFor S r (oI k) = some (if 24 < n + k then 0 else 1) := by
  have hn := h.2.2.2.2.1
  rw [f_X4_hasRoomFor]
  simp (disch := omega) only [h.1, h.2.1, h.2.2.1, h.2.2.2.2.2.2, oI_le, oI_lt, oI_eq, oI_add, oI_mul, oI_sub, l0, l1, l2, l3, l4, l5, l6, l7, l8, l9, l10, l11, l12, l13, l15, l24, l255, Option.bind_some, reduceIte, if_true, if_false]
  by_cases c : 24 < n + k
  · simp only [c, show 24 - n < k by omega, Option.bind_some, reduceIte, if_true, if_false, ← l0, zz0]
  · simp only [c, show ¬ 24 - n < k by omega, Option.bind_some, reduceIte, if_true, if_false, ← l1, zz1]
theorem x4_has_in {S : St} {r n : Nat} {g : Nat → Nat} (h : RwA S r n g) {k : Nat} (hk : k < n) : f_X4_has S r (oI k) = some 1 := by
  have hn := h.2.2.2.2.1
  rw [f_X4_has]
  simp (disch := omega) only [oI_n0, oI_le, h.1, h.2.1, h.2.2.1, Option.bind_some, reduceIte, if_true, if_false, show ¬ n ≤ k by omega, zz1]
theorem x4_has_out {S : St} {r n : Nat} {g : Nat → Nat} (h : RwA S r n g) {a : Int32} (hk : a < 0 ∨ oI n ≤ a) : f_X4_has S r a = some 0 := by
  rw [f_X4_has]
  by_cases c : a < 0
  · simp only [c, Option.bind_some, reduceIte, if_true, if_false, zz0]
  · have : oI n ≤ a := by rcases hk with h | h; exact absurd h c; exact h
    simp only [c, this, h.1, h.2.1, h.2.2.1, Option.bind_some, reduceIte, if_true, if_false, zz0]
theorem x4_at {S : St} {r n : Nat} {g : Nat → Nat} (h : RwA S r n g) {k : Nat} (hk : k < n) : f_X4_at S r (oI k) = some (oI (g k)) := by
  rw [f_X4_at]
  simp only [h.1, h.2.1, h.2.2.1, x4_has_in h hk, h.2.2.2.1 k hk, Option.bind_some, reduceIte, if_true, if_false, show ((1 : Int32) = 0) = False by decide]
theorem x4_runs_L {S : St} {r n : Nat} {g : Nat → Nat} (h : RwA S r n g) {m : Nat} (hm : m ≤ n) : ∀ (d fu i : Nat), i + d = m → d < fu → f_X4_runsAmong_L4 S r (oI m) fu (oI (rn g i)) (oI i) = some (oI (rn g m))
  | d, 0, i, e, hf => by omega
  | 0, fu + 1, i, e, hf => by
    have hn := h.2.2.2.2.1
    have : i = m := by omega
    subst this
    rw [f_X4_runsAmong_L4]
    simp (disch := omega) only [oI_le, oI_lt, oI_eq, oI_add, oI_mul, oI_sub, l0, l1, l2, l3, l4, l5, l6, l7, l8, l9, l10, l11, l12, l13, l15, l24, l255, Nat.le_refl, Option.bind_some, reduceIte, if_true, if_false]
  | d + 1, fu + 1, i, e, hf => by
    have hn := h.2.2.2.2.1
    have ih := x4_runs_L h hm d fu (i + 1) (by omega) (by omega)
    have hr := rn_le g i
    have hi := h.2.2.2.1 i (by omega)
    have g1 := h.2.2.2.2.2.1 i
    have g2 := h.2.2.2.2.2.1 (i - 1)
    rw [f_X4_runsAmong_L4]
    simp (disch := omega) only [oI_le, oI_lt, oI_eq, oI_add, oI_mul, oI_sub, l0, l1, l2, l3, l4, l5, l6, l7, l8, l9, l10, l11, l12, l13, l15, l24, l255, h.1, h.2.1, h.2.2.1, Option.bind_some, reduceIte, if_true, if_false, show ¬ m ≤ i by omega, show ¬ n ≤ i by omega]
    by_cases h0 : i = 0
    · subst h0
      simp only [rn, true_or, Option.bind_some, reduceIte, if_true, if_false, Nat.zero_add] at ih ⊢
      exact ih
    · have hj := h.2.2.2.1 (i - 1) (by omega)
      simp (disch := omega) only [h0, hi, hj, oI_le, oI_lt, oI_eq, oI_add, oI_mul, oI_sub, l0, l1, l2, l3, l4, l5, l6, l7, l8, l9, l10, l11, l12, l13, l15, l24, l255, Option.bind_some, reduceIte, if_true, if_false]
      by_cases hc : g i = g (i - 1)
      · simp only [rn, h0, hc, ne_eq, not_true_eq_false, or_self, Option.bind_some, reduceIte, if_true, if_false, Nat.add_zero] at ih ⊢
        exact ih
      · simp only [rn, h0, hc, ne_eq, not_false_eq_true, or_true, Option.bind_some, reduceIte, if_true, if_false] at ih ⊢
        exact ih
theorem x4_runs {S : St} {r n : Nat} {g : Nat → Nat} (h : RwA S r n g) {m : Nat} (hm : m ≤ n) : f_X4_runsAmong S r (oI m) = some (oI (rn g m)) := by
  have hn := h.2.2.2.2.1
  have := x4_runs_L h hm m FU 0 (by omega) (FU_lt (by omega))
  simp only [f_X4_runsAmong, l0]
  simp only [rn] at this
  simp only [this, Option.bind_some, reduceIte, if_true, if_false]
theorem x4_diff_L14 {S : St} {r n : Nat} {g : Nat → Nat} (h : RwA S r n g) {i : Nat} (hi : i < n) (c : Int32) : ∀ (d fu j : Nat), j + d = i → d < fu → (∀ k, k < j → g k ≠ g i) → f_X4_differentValues_L14 S r c (oI i) fu (oI j) = some (oI (fst g i (g i)))
  | d, 0, j, e, hf, _ => by omega
  | 0, fu + 1, j, e, hf, hk => by
    have hn := h.2.2.2.2.1
    have : j = i := by omega
    subst this
    rw [f_X4_differentValues_L14, fst_uni (j := j) j (Nat.le_refl j) hk (.inl rfl)]
    simp (disch := omega) only [oI_le, oI_lt, oI_eq, oI_add, oI_mul, oI_sub, l0, l1, l2, l3, l4, l5, l6, l7, l8, l9, l10, l11, l12, l13, l15, l24, l255, Nat.le_refl, Option.bind_some, reduceIte, if_true, if_false]
  | d + 1, fu + 1, j, e, hf, hk => by
    have hn := h.2.2.2.2.1
    have hj := h.2.2.2.1 j (by omega)
    have hi' := h.2.2.2.1 i (by omega)
    have g1 := h.2.2.2.2.2.1 i
    have g2 := h.2.2.2.2.2.1 j
    rw [f_X4_differentValues_L14]
    simp (disch := omega) only [oI_le, oI_lt, oI_eq, oI_add, oI_mul, oI_sub, l0, l1, l2, l3, l4, l5, l6, l7, l8, l9, l10, l11, l12, l13, l15, l24, l255, h.1, h.2.1, h.2.2.1, Option.bind_some, reduceIte, if_true, if_false, show ¬ i ≤ j by omega, hi', hj]
    by_cases hc : g j = g i
    · rw [fst_uni (j := j) i (by omega) hk (.inr hc)]
      simp only [hc, Option.bind_some, reduceIte, if_true, if_false]
    · simp only [hc, Option.bind_some, reduceIte, if_true, if_false]
      exact x4_diff_L14 h hi c d fu (j + 1) (by omega) (by omega) (fun k hk' => by
        by_cases e2 : k = j
        · rw [e2]; exact hc
        · exact hk k (by omega))
theorem x4_diff_L4 {S : St} {r n : Nat} {g : Nat → Nat} (h : RwA S r n g) : ∀ (d fu i : Nat), i + d = n → d < fu → f_X4_differentValues_L4 S r fu (oI (df g i)) (oI i) = some (oI (df g n))
  | d, 0, i, e, hf => by omega
  | 0, fu + 1, i, e, hf => by
    have hn := h.2.2.2.2.1
    have : i = n := by omega
    subst this
    rw [f_X4_differentValues_L4]
    simp (disch := omega) only [h.1, h.2.1, h.2.2.1, oI_le, oI_lt, oI_eq, oI_add, oI_mul, oI_sub, l0, l1, l2, l3, l4, l5, l6, l7, l8, l9, l10, l11, l12, l13, l15, l24, l255, Nat.le_refl, Option.bind_some, reduceIte, if_true, if_false]
  | d + 1, fu + 1, i, e, hf => by
    have hn := h.2.2.2.2.1
    have ih := x4_diff_L4 h d fu (i + 1) (by omega) (by omega)
    have hl := fst_le g i (g i)
    have hin := x4_diff_L14 h (i := i) (by omega) (oI (df g i)) i FU 0 (by omega) (FU_lt (by omega)) (fun k hk => by omega)
    rw [← l0] at hin
    rw [f_X4_differentValues_L4]
    simp (disch := omega) only [h.1, h.2.1, h.2.2.1, oI_le, hin, oI_eq, Option.bind_some, reduceIte, if_true, if_false, show ¬ n ≤ i by omega, l1, oI_add]
    by_cases hc : fst g i (g i) = i
    · simp only [df, hc, Option.bind_some, reduceIte, if_true, if_false] at ih ⊢
      exact ih
    · simp only [df, hc, Option.bind_some, reduceIte, if_true, if_false, Nat.add_zero] at ih ⊢
      exact ih
theorem x4_diff {S : St} {r n : Nat} {g : Nat → Nat} (h : RwA S r n g) : f_X4_differentValues S r = some (oI (df g n)) := by
  have hn := h.2.2.2.2.1
  have := x4_diff_L4 h n FU 0 (by omega) (FU_lt (by omega))
  simp only [f_X4_differentValues, l0]
  simp only [df] at this
  simp only [this, Option.bind_some, reduceIte, if_true, if_false]
theorem x4_steps_L {S : St} {r n : Nat} {g : Nat → Nat} (h : RwA S r n g) : ∀ (d fu i : Nat), i + d = n → 1 ≤ i → d < fu → f_X4_spanOfSteps_L4 S r fu (oI (hf g i)) (oI i) = some (oI (hf g n))
  | d, 0, i, e, _, hf => by omega
  | 0, fu + 1, i, e, _, hf => by
    have hn := h.2.2.2.2.1
    have : i = n := by omega
    subst this
    rw [f_X4_spanOfSteps_L4]
    simp (disch := omega) only [h.1, h.2.1, h.2.2.1, oI_le, oI_lt, oI_eq, oI_add, oI_mul, oI_sub, l0, l1, l2, l3, l4, l5, l6, l7, l8, l9, l10, l11, l12, l13, l15, l24, l255, Nat.le_refl, Option.bind_some, reduceIte, if_true, if_false]
  | d + 1, fu + 1, i, e, h1, hfu => by
    have hn := h.2.2.2.2.1
    have ih := x4_steps_L h d fu (i + 1) (by omega) (by omega) (by omega)
    have hi := h.2.2.2.1 i (by omega)
    have hj := h.2.2.2.1 (i - 1) (by omega)
    have g1 := h.2.2.2.2.2.1 i
    have g2 := h.2.2.2.2.2.1 (i - 1)
    have hb := hf_le h.2.2.2.2.2.1 i
    rw [f_X4_spanOfSteps_L4]
    rw [hf_succ g h1] at ih
    simp (disch := omega) only [h.1, h.2.1, h.2.2.1, oI_le, Option.bind_some, reduceIte, if_true, if_false, show ¬ n ≤ i by omega, l0, l1, oI_sub, hi, hj]
    by_cases hc : g (i - 1) < g i
    · simp (disch := omega) only [nd, hc, oI_sub, oI_add, oI_le, show ¬ g i - g (i - 1) ≤ 0 by omega, Option.bind_some, reduceIte, if_true, if_false] at ih ⊢
      by_cases hm : g i - g (i - 1) + 1 ≤ hf g i
      · simp only [hm, Option.bind_some, reduceIte, if_true, if_false] at ih ⊢
        rw [Nat.max_eq_left hm] at ih
        exact ih
      · simp only [hm, Option.bind_some, reduceIte, if_true, if_false] at ih ⊢
        rw [Nat.max_eq_right (by omega)] at ih
        exact ih
    · rw [oI_subneg (show g i ≤ g (i - 1) by omega)]
      simp (disch := omega) only [nd, hc, neg_le0, Int32.neg_neg, oI_le, oI_add, Option.bind_some, reduceIte, if_true, if_false] at ih ⊢
      by_cases hm : g (i - 1) - g i ≤ hf g i
      · simp only [hm, Option.bind_some, reduceIte, if_true, if_false] at ih ⊢
        rw [Nat.max_eq_left hm] at ih
        exact ih
      · simp only [hm, Option.bind_some, reduceIte, if_true, if_false] at ih ⊢
        rw [Nat.max_eq_right (by omega)] at ih
        exact ih
theorem x4_steps {S : St} {r n : Nat} {g : Nat → Nat} (h : RwA S r n g) (h1 : 1 ≤ n) : f_X4_spanOfSteps S r = some (oI (if hf g n = 0 then 1 else 2 * hf g n)) := by
  have hn := h.2.2.2.2.1
  have hb := hf_le h.2.2.2.2.2.1 n
  have := x4_steps_L h (n - 1) FU 1 (by omega) (by omega) (FU_lt (by omega))
  simp only [f_X4_spanOfSteps, l0, l1, l2]
  simp only [hf] at this
  simp (disch := omega) only [this, oI_eq, oI_mul, Option.bind_some, reduceIte, if_true, if_false]
  split <;> rfl
theorem x4_most_L17 {S : St} {r n : Nat} {g : Nat → Nat} (h : RwA S r n g) {p : Nat} (hp : p < n) (a : Int32) : ∀ (d fu i c : Nat), i + d = n → d < fu → c ≤ i → f_X4_mostTimes_L17 S r a (oI p) fu (oI c) (oI i) = some (oI (c + (cnt g n (g p) - cnt g i (g p))))
  | d, 0, i, c, e, hf, _ => by omega
  | 0, fu + 1, i, c, e, hf, _ => by
    have hn := h.2.2.2.2.1
    have : i = n := by omega
    subst this
    rw [f_X4_mostTimes_L17]
    simp (disch := omega) only [h.1, h.2.1, h.2.2.1, oI_le, oI_lt, oI_eq, oI_add, oI_mul, oI_sub, l0, l1, l2, l3, l4, l5, l6, l7, l8, l9, l10, l11, l12, l13, l15, l24, l255, Nat.le_refl, Option.bind_some, reduceIte, if_true, if_false, Nat.sub_self, Nat.add_zero]
  | d + 1, fu + 1, i, c, e, hf, hc => by
    have hn := h.2.2.2.2.1
    have hi := h.2.2.2.1 i (by omega)
    have hj := h.2.2.2.1 p (by omega)
    have g1 := h.2.2.2.2.2.1 i
    have g2 := h.2.2.2.2.2.1 p
    have hm := cnt_mono g (g p) n (i + 1) (by omega)
    rw [f_X4_mostTimes_L17]
    simp (disch := omega) only [h.1, h.2.1, h.2.2.1, oI_le, oI_lt, oI_eq, oI_add, oI_mul, oI_sub, l0, l1, l2, l3, l4, l5, l6, l7, l8, l9, l10, l11, l12, l13, l15, l24, l255, Option.bind_some, reduceIte, if_true, if_false, show ¬ n ≤ i by omega, hi, hj]
    by_cases hc : g i = g p
    · have ih := x4_most_L17 h hp a d fu (i + 1) (c + 1) (by omega) (by omega) (by omega)
      simp only [cnt, hc, Option.bind_some, reduceIte, if_true, if_false] at ih hm ⊢
      rw [ih, show c + 1 + (cnt g n (g p) - (cnt g i (g p) + 1)) = c + (cnt g n (g p) - cnt g i (g p)) by omega]
    · have ih := x4_most_L17 h hp a d fu (i + 1) c (by omega) (by omega) (by omega)
      simp only [cnt, hc, Option.bind_some, reduceIte, if_true, if_false, Nat.add_zero] at ih ⊢
      exact ih
theorem x4_most_L4 {S : St} {r n : Nat} {g : Nat → Nat} (h : RwA S r n g) : ∀ (d fu i : Nat), i + d = n → d < fu → f_X4_mostTimes_L4 S r fu (oI (mx (sf g n) i)) (oI i) = some (oI (mx (sf g n) n))
  | d, 0, i, e, hf => by omega
  | 0, fu + 1, i, e, hf => by
    have hn := h.2.2.2.2.1
    have : i = n := by omega
    subst this
    rw [f_X4_mostTimes_L4]
    simp (disch := omega) only [h.1, h.2.1, h.2.2.1, oI_le, oI_lt, oI_eq, oI_add, oI_mul, oI_sub, l0, l1, l2, l3, l4, l5, l6, l7, l8, l9, l10, l11, l12, l13, l15, l24, l255, Nat.le_refl, Option.bind_some, reduceIte, if_true, if_false]
  | d + 1, fu + 1, i, e, hf => by
    have hn := h.2.2.2.2.1
    have ih := x4_most_L4 h d fu (i + 1) (by omega) (by omega)
    have hin := x4_most_L17 h (p := i) (by omega) (oI (mx (sf g n) i)) d.succ FU i 0 (by omega) (FU_lt (by omega)) (by omega)
    rw [Nat.zero_add, ← l0] at hin
    have hb : mx (sf g n) i ≤ 24 := mx_le i (fun k _ => by have := cnt_le g n (g k); unfold sf; omega)
    have hb2 : sf g n i ≤ 24 := by have := cnt_le g n (g i); unfold sf; omega
    have e1 : cnt g n (g i) - cnt g i (g i) = sf g n i := rfl
    rw [e1] at hin
    rw [f_X4_mostTimes_L4]
    simp (disch := omega) only [h.1, h.2.1, h.2.2.1, oI_le, hin, Option.bind_some, reduceIte, if_true, if_false, show ¬ n ≤ i by omega, l1, oI_add]
    rw [mx] at ih
    by_cases hc : sf g n i ≤ mx (sf g n) i
    · rw [Nat.max_eq_left hc] at ih
      simp only [hc, Option.bind_some, reduceIte, if_true, if_false]
      exact ih
    · rw [Nat.max_eq_right (by omega)] at ih
      simp only [hc, Option.bind_some, reduceIte, if_true, if_false]
      exact ih
theorem x4_most {S : St} {r n : Nat} {g : Nat → Nat} (h : RwA S r n g) : f_X4_mostTimes S r = some (oI (mst g n)) := by
  have hn := h.2.2.2.2.1
  have := x4_most_L4 h n FU 0 (by omega) (FU_lt (by omega))
  rw [mx_sf] at this
  simp only [f_X4_mostTimes, l0]
  simp only [mx] at this
  simp only [this, Option.bind_some, reduceIte, if_true, if_false]
theorem x4_span_L {S : St} {r n : Nat} {g : Nat → Nat} (h : RwA S r n g) : ∀ (d fu i : Nat), i + d = n → d < fu → f_X4_span_L8 S r fu (oI (lst g i)) (oI (mx g i)) (oI i) = some (oI (lst g n), oI (mx g n))
  | d, 0, i, e, hf => by omega
  | 0, fu + 1, i, e, hf => by
    have hn := h.2.2.2.2.1
    have : i = n := by omega
    subst this
    rw [f_X4_span_L8]
    simp (disch := omega) only [h.1, h.2.1, h.2.2.1, oI_le, oI_lt, oI_eq, oI_add, oI_mul, oI_sub, l0, l1, l2, l3, l4, l5, l6, l7, l8, l9, l10, l11, l12, l13, l15, l24, l255, Nat.le_refl, Option.bind_some, reduceIte, if_true, if_false]
  | d + 1, fu + 1, i, e, hf => by
    have hn := h.2.2.2.2.1
    have ih := x4_span_L h d fu (i + 1) (by omega) (by omega)
    have hi := h.2.2.2.1 i (by omega)
    have g1 := h.2.2.2.2.2.1 i
    have b1 := lst_le g i
    have b2 : mx g i ≤ 255 := mx_le i (fun k _ => h.2.2.2.2.2.1 k)
    rw [f_X4_span_L8]
    simp (disch := omega) only [h.1, h.2.1, h.2.2.1, oI_le, oI_lt, oI_eq, oI_add, oI_mul, oI_sub, l0, l1, l2, l3, l4, l5, l6, l7, l8, l9, l10, l11, l12, l13, l15, l24, l255, Option.bind_some, reduceIte, if_true, if_false, show ¬ n ≤ i by omega, hi]
    rw [lst, mx] at ih
    by_cases c1 : lst g i ≤ g i <;> by_cases c2 : g i ≤ mx g i
    · rw [Nat.min_eq_left c1, Nat.max_eq_left c2] at ih
      simp only [c1, c2, Option.bind_some, reduceIte, if_true, if_false]
      exact ih
    · rw [Nat.min_eq_left c1, Nat.max_eq_right (by omega)] at ih
      simp only [c1, c2, Option.bind_some, reduceIte, if_true, if_false]
      exact ih
    · rw [Nat.min_eq_right (by omega), Nat.max_eq_left c2] at ih
      simp only [c1, c2, Option.bind_some, reduceIte, if_true, if_false]
      exact ih
    · rw [Nat.min_eq_right (by omega), Nat.max_eq_right (by omega)] at ih
      simp only [c1, c2, Option.bind_some, reduceIte, if_true, if_false]
      exact ih
theorem x4_span {S : St} {r n : Nat} {g : Nat → Nat} (h : RwA S r n g) (h1 : 1 ≤ n) : f_X4_span S r = some (oI (mx g n - lst g n + 1)) := by
  have hn := h.2.2.2.2.1
  have := x4_span_L h n FU 0 (by omega) (FU_lt (by omega))
  simp only [f_X4_span, l0, l255]
  simp only [mx, lst] at this
  have hl := lt_mx (g := g) h1
  simp (disch := omega) only [this, oI_sub, l1, oI_add, Option.bind_some, reduceIte, if_true, if_false]
theorem x4_first_L {S : St} {r n : Nat} {g : Nat → Nat} (h : RwA S r n g) {w : Nat} (hw : w ≤ 255) : ∀ (d fu j : Nat), j + d = n → d < fu → (∀ k, k < j → g k ≠ w) → f_X4_firstPlace_L2 S r (oI w) fu (oI j) = some (if fst g n w < n then .inl (oI (fst g n w)) else .inr ())
  | d, 0, j, e, hf, _ => by omega
  | 0, fu + 1, j, e, hf, hk => by
    have hn := h.2.2.2.2.1
    have : j = n := by omega
    subst this
    rw [f_X4_firstPlace_L2, fst_uni (j := j) j (Nat.le_refl j) hk (.inl rfl)]
    simp (disch := omega) only [h.1, h.2.1, h.2.2.1, oI_le, oI_lt, oI_eq, oI_add, oI_mul, oI_sub, l0, l1, l2, l3, l4, l5, l6, l7, l8, l9, l10, l11, l12, l13, l15, l24, l255, Nat.le_refl, Option.bind_some, reduceIte, if_true, if_false, show ¬ j < j by omega]
  | d + 1, fu + 1, j, e, hf, hk => by
    have hn := h.2.2.2.2.1
    have hj := h.2.2.2.1 j (by omega)
    have g2 := h.2.2.2.2.2.1 j
    rw [f_X4_firstPlace_L2]
    simp (disch := omega) only [h.1, h.2.1, h.2.2.1, oI_le, oI_lt, oI_eq, oI_add, oI_mul, oI_sub, l0, l1, l2, l3, l4, l5, l6, l7, l8, l9, l10, l11, l12, l13, l15, l24, l255, Option.bind_some, reduceIte, if_true, if_false, show ¬ n ≤ j by omega, hj]
    by_cases hc : g j = w
    · rw [fst_uni (j := j) n (by omega) hk (.inr hc)]
      simp only [hc, Option.bind_some, reduceIte, if_true, if_false, show j < n by omega]
    · simp only [hc, Option.bind_some, reduceIte, if_true, if_false]
      exact x4_first_L h hw d fu (j + 1) (by omega) (by omega) (fun k hk' => by
        by_cases e2 : k = j
        · rw [e2]; exact hc
        · exact hk k (by omega))
theorem x4_first {S : St} {r n : Nat} {g : Nat → Nat} (h : RwA S r n g) {w : Nat} (hw : w ≤ 255) : f_X4_firstPlace S r (oI w) = some (if fst g n w < n then oI (fst g n w) else -1) := by
  have hn := h.2.2.2.2.1
  have := x4_first_L h hw n FU 0 (by omega) (FU_lt (by omega)) (fun k hk => by omega)
  simp only [f_X4_firstPlace, l0]
  simp only [this, Option.bind_some, reduceIte, if_true, if_false]
  split <;> rfl
theorem x4_times_L {S : St} {r n : Nat} {g : Nat → Nat} (h : RwA S r n g) {w : Nat} (hw : w ≤ 255) : ∀ (d fu i : Nat), i + d = n → d < fu → f_X4_timesOf_L4 S r (oI w) fu (oI (cnt g i w)) (oI i) = some (oI (cnt g n w))
  | d, 0, i, e, hf => by omega
  | 0, fu + 1, i, e, hf => by
    have hn := h.2.2.2.2.1
    have : i = n := by omega
    subst this
    rw [f_X4_timesOf_L4]
    simp (disch := omega) only [h.1, h.2.1, h.2.2.1, oI_le, oI_lt, oI_eq, oI_add, oI_mul, oI_sub, l0, l1, l2, l3, l4, l5, l6, l7, l8, l9, l10, l11, l12, l13, l15, l24, l255, Nat.le_refl, Option.bind_some, reduceIte, if_true, if_false]
  | d + 1, fu + 1, i, e, hf => by
    have hn := h.2.2.2.2.1
    have ih := x4_times_L h hw d fu (i + 1) (by omega) (by omega)
    have hi := h.2.2.2.1 i (by omega)
    have g1 := h.2.2.2.2.2.1 i
    rw [f_X4_timesOf_L4]
    simp (disch := omega) only [h.1, h.2.1, h.2.2.1, oI_le, oI_lt, oI_eq, oI_add, oI_mul, oI_sub, l0, l1, l2, l3, l4, l5, l6, l7, l8, l9, l10, l11, l12, l13, l15, l24, l255, Option.bind_some, reduceIte, if_true, if_false, show ¬ n ≤ i by omega, hi]
    by_cases hc : g i = w
    · simp only [cnt, hc, Option.bind_some, reduceIte, if_true, if_false] at ih ⊢
      exact ih
    · simp only [cnt, hc, Option.bind_some, reduceIte, if_true, if_false, Nat.add_zero] at ih ⊢
      exact ih
theorem x4_times {S : St} {r n : Nat} {g : Nat → Nat} (h : RwA S r n g) {w : Nat} (hw : w ≤ 255) : f_X4_timesOf S r (oI w) = some (oI (cnt g n w)) := by
  have hn := h.2.2.2.2.1
  have := x4_times_L h hw n FU 0 (by omega) (FU_lt (by omega))
  simp only [f_X4_timesOf, l0]
  simp only [cnt] at this
  simp only [this, Option.bind_some, reduceIte, if_true, if_false]
theorem x4_common_L {S : St} {r n : Nat} {g : Nat → Nat} (h : RwA S r n g) : ∀ (d fu i : Nat), i + d = n → d < fu → f_X4_commonValue_L11 S r (oI (mst g n)) fu (oI (cmn g n i)) (oI i) = some (oI (cmn g n n))
  | d, 0, i, e, hf => by omega
  | 0, fu + 1, i, e, hf => by
    have hn := h.2.2.2.2.1
    have : i = n := by omega
    subst this
    rw [f_X4_commonValue_L11]
    simp (disch := omega) only [h.1, h.2.1, h.2.2.1, oI_le, oI_lt, oI_eq, oI_add, oI_mul, oI_sub, l0, l1, l2, l3, l4, l5, l6, l7, l8, l9, l10, l11, l12, l13, l15, l24, l255, Nat.le_refl, Option.bind_some, reduceIte, if_true, if_false]
  | d + 1, fu + 1, i, e, hf => by
    have hn := h.2.2.2.2.1
    have ih := x4_common_L h d fu (i + 1) (by omega) (by omega)
    have hi := h.2.2.2.1 i (by omega)
    have g1 := h.2.2.2.2.2.1 i
    have b1 := cmn_le g n i
    have b2 := mst_le g n
    have b3 := cnt_le g n (g i)
    rw [f_X4_commonValue_L11]
    simp (disch := omega) only [h.1, h.2.1, h.2.2.1, oI_le, oI_lt, oI_eq, oI_add, oI_mul, oI_sub, l0, l1, l2, l3, l4, l5, l6, l7, l8, l9, l10, l11, l12, l13, l15, l24, l255, Option.bind_some, reduceIte, if_true, if_false, show ¬ n ≤ i by omega, hi, x4_times h g1]
    rw [cmn] at ih
    by_cases hc : cnt g n (g i) = mst g n
    · simp only [hc, Option.bind_some, reduceIte, if_true, if_false] at ih ⊢
      by_cases c2 : g i < cmn g n i
      · rw [Nat.min_eq_right (by omega)] at ih
        simp only [c2, Option.bind_some, reduceIte, if_true, if_false]
        exact ih
      · rw [Nat.min_eq_left (by omega)] at ih
        simp only [c2, Option.bind_some, reduceIte, if_true, if_false]
        exact ih
    · simp only [hc, Option.bind_some, reduceIte, if_true, if_false] at ih ⊢
      exact ih
theorem x4_common {S : St} {r n : Nat} {g : Nat → Nat} (h : RwA S r n g) : f_X4_commonValue S r = some (oI (cmn g n n)) := by
  have hn := h.2.2.2.2.1
  have := x4_common_L h n FU 0 (by omega) (FU_lt (by omega))
  simp only [f_X4_commonValue, l0, l255, h.1, h.2.1, h.2.2.1, x4_most h, Option.bind_some, reduceIte, if_true, if_false]
  simp only [cmn] at this
  simp only [this, Option.bind_some, reduceIte, if_true, if_false]
theorem x4_least_L {S : St} {r n : Nat} {g : Nat → Nat} (h : RwA S r n g) : ∀ (d fu i : Nat), i + d = n → d < fu → f_X4_least_L6 S r fu (oI (lst g i)) (oI i) = some (oI (lst g n))
  | d, 0, i, e, hf => by omega
  | 0, fu + 1, i, e, hf => by
    have hn := h.2.2.2.2.1
    have : i = n := by omega
    subst this
    rw [f_X4_least_L6]
    simp (disch := omega) only [h.1, h.2.1, h.2.2.1, oI_le, oI_lt, oI_eq, oI_add, oI_mul, oI_sub, l0, l1, l2, l3, l4, l5, l6, l7, l8, l9, l10, l11, l12, l13, l15, l24, l255, Nat.le_refl, Option.bind_some, reduceIte, if_true, if_false]
  | d + 1, fu + 1, i, e, hf => by
    have hn := h.2.2.2.2.1
    have ih := x4_least_L h d fu (i + 1) (by omega) (by omega)
    have hi := h.2.2.2.1 i (by omega)
    have g1 := h.2.2.2.2.2.1 i
    have b1 := lst_le g i
    rw [f_X4_least_L6]
    simp (disch := omega) only [h.1, h.2.1, h.2.2.1, oI_le, oI_lt, oI_eq, oI_add, oI_mul, oI_sub, l0, l1, l2, l3, l4, l5, l6, l7, l8, l9, l10, l11, l12, l13, l15, l24, l255, Option.bind_some, reduceIte, if_true, if_false, show ¬ n ≤ i by omega, hi]
    rw [lst] at ih
    by_cases c1 : g i < lst g i
    · rw [Nat.min_eq_right (by omega)] at ih
      simp only [c1, Option.bind_some, reduceIte, if_true, if_false]
      exact ih
    · rw [Nat.min_eq_left (by omega)] at ih
      simp only [c1, Option.bind_some, reduceIte, if_true, if_false]
      exact ih
theorem x4_least {S : St} {r n : Nat} {g : Nat → Nat} (h : RwA S r n g) : f_X4_least S r = some (oI (lst g n)) := by
  have hn := h.2.2.2.2.1
  have := x4_least_L h n FU 0 (by omega) (FU_lt (by omega))
  simp only [f_X4_least, l0, l255]
  simp only [lst] at this
  simp only [this, Option.bind_some, reduceIte, if_true, if_false]
theorem x4_sum_L {S : St} {r n : Nat} {g : Nat → Nat} (h : RwA S r n g) : ∀ (d fu i : Nat), i + d = n → d < fu → f_X4_sum_L4 S r fu (oI (sm g i)) (oI i) = some (oI (sm g n))
  | d, 0, i, e, hf => by omega
  | 0, fu + 1, i, e, hf => by
    have hn := h.2.2.2.2.1
    have : i = n := by omega
    subst this
    rw [f_X4_sum_L4]
    simp (disch := omega) only [h.1, h.2.1, h.2.2.1, oI_le, oI_lt, oI_eq, oI_add, oI_mul, oI_sub, l0, l1, l2, l3, l4, l5, l6, l7, l8, l9, l10, l11, l12, l13, l15, l24, l255, Nat.le_refl, Option.bind_some, reduceIte, if_true, if_false]
  | d + 1, fu + 1, i, e, hf => by
    have hn := h.2.2.2.2.1
    have ih := x4_sum_L h d fu (i + 1) (by omega) (by omega)
    have hi := h.2.2.2.1 i (by omega)
    rw [f_X4_sum_L4]
    simp (disch := omega) only [h.1, h.2.1, h.2.2.1, oI_le, oI_lt, oI_eq, oI_add, oI_mul, oI_sub, l0, l1, l2, l3, l4, l5, l6, l7, l8, l9, l10, l11, l12, l13, l15, l24, l255, Option.bind_some, reduceIte, if_true, if_false, show ¬ n ≤ i by omega, hi]
    exact ih
theorem x4_sum {S : St} {r n : Nat} {g : Nat → Nat} (h : RwA S r n g) : f_X4_sum S r = some (oI (sm g n)) := by
  have hn := h.2.2.2.2.1
  have := x4_sum_L h n FU 0 (by omega) (FU_lt (by omega))
  simp only [f_X4_sum, l0]
  simp only [sm] at this
  simp only [this, Option.bind_some, reduceIte, if_true, if_false]
def eqn (g k : Nat → Nat) : Nat → Bool
  | 0 => true
  | n + 1 => eqn g k n && decide (g n = k n)
theorem eqn_up {g k : Nat → Nat} : ∀ (n i : Nat), i ≤ n → eqn g k n = true → eqn g k i = true
  | 0, i, hi, h => by have : i = 0 := by omega
                      rw [this]; rfl
  | n + 1, i, hi, h => by
    by_cases e : i = n + 1
    · rw [e]; exact h
    · rw [eqn, Bool.and_eq_true] at h
      exact eqn_up n i (by omega) h.1
theorem eqn_at {g k : Nat → Nat} {n : Nat} (h : eqn g k n = true) (i : Nat) (hi : i < n) : g i = k i := by
  have := eqn_up n (i + 1) hi h
  rw [eqn, Bool.and_eq_true, decide_eq_true_eq] at this
  exact this.2
theorem eqn_of {g k : Nat → Nat} : ∀ (n : Nat), (∀ i, i < n → g i = k i) → eqn g k n = true
  | 0, _ => rfl
  | n + 1, h => by rw [eqn, Bool.and_eq_true, decide_eq_true_eq]; exact ⟨eqn_of n (fun i hi => h i (by omega)), h n (by omega)⟩
theorem eqn_congr {g k g' k' : Nat → Nat} : ∀ (n : Nat), (∀ i, i < n → g i = g' i) → (∀ i, i < n → k i = k' i) → eqn g k n = eqn g' k' n
  | 0, _, _ => rfl
  | n + 1, h, h' => by rw [eqn, eqn, eqn_congr n (fun i hi => h i (by omega)) (fun i hi => h' i (by omega)), h n (by omega), h' n (by omega)]
theorem eqn_symm (g k : Nat → Nat) : ∀ (n : Nat), eqn g k n = eqn k g n
  | 0 => rfl
  | n + 1 => by rw [eqn, eqn, eqn_symm g k n]; congr 1; simp only [eq_comm]
theorem x4_like_L {S : St} {r n r2 : Nat} {g g2 : Nat → Nat} (h : RwA S r n g) (k : RwA S r2 n g2) : ∀ (d fu i : Nat), i + d = n → d < fu → eqn g g2 i = true → f_X4_isLike_L15 S r r2 fu (oI i) = some (if eqn g g2 n = true then .inr () else .inl 0)
  | d, 0, i, e, hf, _ => by omega
  | 0, fu + 1, i, e, hf, he => by
    have hn := h.2.2.2.2.1
    have : i = n := by omega
    subst this
    rw [f_X4_isLike_L15]
    simp (disch := omega) only [he, h.1, h.2.1, h.2.2.1, oI_le, oI_lt, oI_eq, oI_add, oI_mul, oI_sub, l0, l1, l2, l3, l4, l5, l6, l7, l8, l9, l10, l11, l12, l13, l15, l24, l255, Nat.le_refl, Option.bind_some, reduceIte, if_true, if_false]
  | d + 1, fu + 1, i, e, hf, he => by
    have hn := h.2.2.2.2.1
    have hi := h.2.2.2.1 i (by omega)
    have ki := k.2.2.2.1 i (by omega)
    have g1 := h.2.2.2.2.2.1 i
    have g3 := k.2.2.2.2.2.1 i
    rw [f_X4_isLike_L15]
    simp (disch := omega) only [h.1, h.2.1, h.2.2.1, k.2.2.1, oI_le, oI_lt, oI_eq, oI_add, oI_mul, oI_sub, l0, l1, l2, l3, l4, l5, l6, l7, l8, l9, l10, l11, l12, l13, l15, l24, l255, Option.bind_some, reduceIte, if_true, if_false, show ¬ n ≤ i by omega, hi, ki]
    by_cases hc : g i = g2 i
    · simp only [hc, Option.bind_some, reduceIte, if_true, if_false]
      exact x4_like_L h k d fu (i + 1) (by omega) (by omega) (by simp only [eqn, he, hc, decide_true, Bool.and_self])
    · rw [if_neg (fun c' => hc (eqn_at c' i (by omega)))]
      simp only [hc, Option.bind_some, reduceIte, if_true, if_false]
theorem x4_like {S : St} {r n r2 n2 : Nat} {g g2 : Nat → Nat} (h : RwA S r n g) (k : RwA S r2 n2 g2) : f_X4_isLike S r r2 = some (if n = n2 ∧ eqn g g2 n = true then 1 else 0) := by
  have hn := h.2.2.2.2.1
  have kn := k.2.2.2.2.1
  rw [f_X4_isLike]
  simp (disch := omega) only [h.1, h.2.1, h.2.2.1, k.2.1, oI_eq, Option.bind_some, reduceIte, if_true, if_false]
  by_cases e : n = n2
  · subst e
    have := x4_like_L h k n FU 0 (by omega) (FU_lt (by omega)) rfl
    simp only [l0, this, Option.bind_some, reduceIte, if_true, if_false, true_and]
    split <;> rfl
  · simp only [e, Option.bind_some, reduceIte, if_true, if_false, false_and]
