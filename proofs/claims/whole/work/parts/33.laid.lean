/-! THE MODEL'S LAID ROW: what its functions answer -/
def LdA (S : St) (M n : Nat) (g : Nat → Nat) : Prop :=
  oO S M 6 = some () ∧ gI S M 6 7 = some (oI n) ∧ gR S M 6 6 = some (M + 4) ∧ (∀ i, i < n → aI S (M + 4) (oI i) = some (oI (g i))) ∧ n ≤ 24 ∧ (∀ i, g i ≤ 255)
theorem x7_runs_L {S : St} {M n : Nat} {g : Nat → Nat} (h : LdA S M n g) {m : Nat} (hm : m ≤ n) : ∀ (d fu i : Nat), i + d = m → d < fu → 1 ≤ i → f_X7_runsOf_L12 S M (oI m) fu (oI (rn g i)) (oI i) = some (oI (rn g m))
  | d, 0, i, e, hf, _ => by omega
  | 0, fu + 1, i, e, hf, _ => by
    have hn := h.2.2.2.2.1
    have : i = m := by omega
    subst this
    rw [f_X7_runsOf_L12]
    simp (disch := omega) only [oI_le, oI_lt, oI_eq, oI_add, oI_mul, oI_sub, l0, l1, l2, l3, l4, l5, l6, l7, l8, l9, l10, l11, l12, l13, l15, l24, l255, Nat.le_refl, Option.bind_some, reduceIte, if_true, if_false]
  | d + 1, fu + 1, i, e, hf, h0 => by
    have hn := h.2.2.2.2.1
    have ih := x7_runs_L h hm d fu (i + 1) (by omega) (by omega) (by omega)
    have hi := h.2.2.2.1 i (by omega)
    have hj := h.2.2.2.1 (i - 1) (by omega)
    have g1 := h.2.2.2.2.2 i
    have g2 := h.2.2.2.2.2 (i - 1)
    rw [f_X7_runsOf_L12]
    simp (disch := omega) only [oI_le, oI_lt, oI_eq, oI_add, oI_mul, oI_sub, l0, l1, l2, l3, l4, l5, l6, l7, l8, l9, l10, l11, l12, l13, l15, l24, l255, h.1, h.2.1, h.2.2.1, Option.bind_some, reduceIte, if_true, if_false, show ¬ m ≤ i by omega, hi, hj]
    by_cases hc : g i = g (i - 1)
    · simp only [rn, show ¬ i = 0 by omega, hc, ne_eq, not_true_eq_false, or_self, Option.bind_some, reduceIte, if_true, if_false, Nat.add_zero, oI_add] at ih ⊢
      exact ih
    · simp only [rn, hc, ne_eq, not_false_eq_true, or_true, Option.bind_some, reduceIte, if_true, if_false, oI_add] at ih ⊢
      exact ih
theorem x7_runs {S : St} {M n : Nat} {g : Nat → Nat} (h : LdA S M n g) {m : Nat} (hm : m ≤ n) : f_X7_runsOf S M (oI m) = some (oI (rn g m)) := by
  have hn := h.2.2.2.2.1
  rw [f_X7_runsOf]
  by_cases h0 : m = 0
  · subst h0
    obtain ⟨fu, hfu⟩ : ∃ fu, FU = fu + 1 := ⟨1999, rfl⟩
    rw [hfu]
    simp (disch := omega) only [oI_le, oI_lt, oI_eq, oI_add, oI_mul, oI_sub, l0, l1, l2, l3, l4, l5, l6, l7, l8, l9, l10, l11, l12, l13, l15, l24, l255, Nat.le_refl, Option.bind_some, reduceIte, if_true, if_false]
    rw [f_X7_runsOf_L12]
    simp (disch := omega) only [oI_le, oI_lt, oI_eq, oI_add, oI_mul, oI_sub, l0, l1, l2, l3, l4, l5, l6, l7, l8, l9, l10, l11, l12, l13, l15, l24, l255, Nat.le_refl, Option.bind_some, reduceIte, if_true, if_false, show 0 ≤ 1 by omega, rn]
  · have := x7_runs_L h hm (m - 1) FU 1 (by omega) (FU_lt (by omega)) (by omega)
    simp (disch := omega) only [oI_le, oI_lt, oI_eq, oI_add, oI_mul, oI_sub, l0, l1, l2, l3, l4, l5, l6, l7, l8, l9, l10, l11, l12, l13, l15, l24, l255, show ¬ m ≤ 0 by omega, Option.bind_some, reduceIte, if_true, if_false]
    simp only [rn, true_or, Option.bind_some, reduceIte, if_true, if_false, Nat.zero_add] at this
    simp only [this, Option.bind_some, reduceIte, if_true, if_false]
theorem x7_first_L {S : St} {M n : Nat} {g : Nat → Nat} (h : LdA S M n g) {w : Nat} (hw : w ≤ 255) : ∀ (d fu j : Nat), j + d = n → d < fu → (∀ k, k < j → g k ≠ w) → f_X7_firstOf_L2 S M (oI w) fu (oI j) = some (oI (fst g n w))
  | d, 0, j, e, hf, _ => by omega
  | 0, fu + 1, j, e, hf, hk => by
    have hn := h.2.2.2.2.1
    have : j = n := by omega
    subst this
    rw [f_X7_firstOf_L2, fst_uni (j := j) j (Nat.le_refl j) hk (.inl rfl)]
    simp (disch := omega) only [h.1, h.2.1, h.2.2.1, oI_le, oI_lt, oI_eq, oI_add, oI_mul, oI_sub, l0, l1, l2, l3, l4, l5, l6, l7, l8, l9, l10, l11, l12, l13, l15, l24, l255, Nat.le_refl, Option.bind_some, reduceIte, if_true, if_false]
  | d + 1, fu + 1, j, e, hf, hk => by
    have hn := h.2.2.2.2.1
    have hj := h.2.2.2.1 j (by omega)
    have g2 := h.2.2.2.2.2 j
    rw [f_X7_firstOf_L2]
    simp (disch := omega) only [h.1, h.2.1, h.2.2.1, oI_le, oI_lt, oI_eq, oI_add, oI_mul, oI_sub, l0, l1, l2, l3, l4, l5, l6, l7, l8, l9, l10, l11, l12, l13, l15, l24, l255, Option.bind_some, reduceIte, if_true, if_false, show ¬ n ≤ j by omega, hj]
    by_cases hc : g j = w
    · rw [fst_uni (j := j) n (by omega) hk (.inr hc)]
      simp only [hc, Option.bind_some, reduceIte, if_true, if_false]
    · simp only [hc, Option.bind_some, reduceIte, if_true, if_false]
      exact x7_first_L h hw d fu (j + 1) (by omega) (by omega) (fun k hk' => by
        by_cases e2 : k = j
        · rw [e2]; exact hc
        · exact hk k (by omega))
theorem x7_first {S : St} {M n : Nat} {g : Nat → Nat} (h : LdA S M n g) {w : Nat} (hw : w ≤ 255) : f_X7_firstOf S M (oI w) = some (oI (fst g n w)) := by
  have hn := h.2.2.2.2.1
  have := x7_first_L h hw n FU 0 (by omega) (FU_lt (by omega)) (fun k hk => by omega)
  simp only [f_X7_firstOf, l0, this, Option.bind_some, reduceIte, if_true, if_false]
theorem fst_self {g : Nat → Nat} {n i : Nat} (hi : i < n) : (fst g n (g i) = i) = (fst g i (g i) = i) := by
  apply propext
  constructor
  · intro e
    exact fst_uni i (Nat.le_refl i) (fun k hk => fst_no n k (by omega)) (.inl rfl)
  · intro e
    exact fst_uni n (by omega) (fun k hk => fst_no i k (by omega)) (.inr rfl)
theorem x7_diff_L {S : St} {M n : Nat} {g : Nat → Nat} (h : LdA S M n g) : ∀ (d fu i : Nat), i + d = n → d < fu → f_X7_different_L4 S M fu (oI (df g i)) (oI i) = some (oI (df g n))
  | d, 0, i, e, hf => by omega
  | 0, fu + 1, i, e, hf => by
    have hn := h.2.2.2.2.1
    have : i = n := by omega
    subst this
    rw [f_X7_different_L4]
    simp (disch := omega) only [h.1, h.2.1, h.2.2.1, oI_le, oI_lt, oI_eq, oI_add, oI_mul, oI_sub, l0, l1, l2, l3, l4, l5, l6, l7, l8, l9, l10, l11, l12, l13, l15, l24, l255, Nat.le_refl, Option.bind_some, reduceIte, if_true, if_false]
  | d + 1, fu + 1, i, e, hf => by
    have hn := h.2.2.2.2.1
    have ih := x7_diff_L h d fu (i + 1) (by omega) (by omega)
    have hi := h.2.2.2.1 i (by omega)
    have g1 := h.2.2.2.2.2 i
    have hl := fst_le g n (g i)
    rw [f_X7_different_L4]
    simp (disch := omega) only [h.1, h.2.1, h.2.2.1, oI_le, oI_lt, oI_eq, oI_add, oI_mul, oI_sub, l0, l1, l2, l3, l4, l5, l6, l7, l8, l9, l10, l11, l12, l13, l15, l24, l255, Option.bind_some, reduceIte, if_true, if_false, show ¬ n ≤ i by omega, hi, x7_first h g1, fst_self (show i < n by omega)]
    by_cases hc : fst g i (g i) = i
    · simp only [df, hc, Option.bind_some, reduceIte, if_true, if_false, oI_add] at ih ⊢
      exact ih
    · simp only [df, hc, Option.bind_some, reduceIte, if_true, if_false, Nat.add_zero, oI_add] at ih ⊢
      exact ih
theorem x7_diff {S : St} {M n : Nat} {g : Nat → Nat} (h : LdA S M n g) : f_X7_different S M = some (oI (df g n)) := by
  have hn := h.2.2.2.2.1
  have := x7_diff_L h n FU 0 (by omega) (FU_lt (by omega))
  simp only [df] at this
  simp only [f_X7_different, l0, this, Option.bind_some, reduceIte, if_true, if_false]
theorem x7_bits_L {m : Nat} (hm : m ≤ 512) : ∀ (d fu k : Nat), k + d = 9 → d < fu → k ≤ wid m → f_X7_bitsFor_L2 (oI m) fu (oI k) = some (oI (wid m))
  | d, 0, k, e, hf, _ => by omega
  | 0, fu + 1, k, e, hf, hk => by
    have : k = 9 := by omega
    subst this
    have h9 : wid m = 9 := by have := wid_le m; omega
    rw [f_X7_bitsFor_L2, h9, sh_pow 9 (by omega)]
    simp (disch := omega) only [oI_le, show m ≤ 2 ^ 9 from hm, Option.bind_some, reduceIte, if_true, if_false]
  | d + 1, fu + 1, k, e, hf, hk => by
    have hp := pow_le k (by omega)
    rw [f_X7_bitsFor_L2, sh_pow k (by omega)]
    simp (disch := omega) only [oI_le, oI_lt, oI_eq, oI_add, oI_mul, oI_sub, l0, l1, l2, l3, l4, l5, l6, l7, l8, l9, l10, l11, l12, l13, l15, l24, l255, Option.bind_some, reduceIte, if_true, if_false]
    by_cases c : m ≤ 2 ^ k
    · have := wid_of_le (by omega) c
      have e2 : k = wid m := by omega
      subst e2
      simp only [c, Option.bind_some, reduceIte, if_true, if_false]
    · simp only [c, Option.bind_some, reduceIte, if_true, if_false]
      exact x7_bits_L hm d fu (k + 1) (by omega) (by omega) (lt_wid (by omega) (by omega))
theorem x7_bits {m : Nat} (hm : m ≤ 512) : f_X7_bitsFor (oI m) = some (oI (wid m)) := by
  have := x7_bits_L hm 9 FU 0 (by omega) (FU_lt (by omega)) (by omega)
  simp only [f_X7_bitsFor, l0, this, Option.bind_some, reduceIte, if_true, if_false]
theorem wid_mono {a b : Nat} (h : a ≤ b) : wid a ≤ wid b := by
  by_cases c : wid b = 9
  · rw [c]; exact wid_le a
  · have h9 := wid_le b
    by_cases c2 : a ≤ 2 ^ wid b
    · exact wid_of_le (by omega) c2
    · have := lt_wid (m := b) (k := wid b) (by omega) (by omega)
      omega
theorem wh_mono {a b : Nat} (h : a ≤ b) : wh a ≤ wh b := by
  unfold wh
  by_cases c : a = 0
  · rw [if_pos c]; omega
  · rw [if_neg c, if_neg (by omega)]; exact wid_mono (by omega)
theorem wh_max (a b : Nat) : wh (max a b) = max (wh a) (wh b) := by
  by_cases c : a ≤ b
  · rw [Nat.max_eq_right c, Nat.max_eq_right (wh_mono c)]
  · rw [Nat.max_eq_left (by omega), Nat.max_eq_left (wh_mono (by omega))]
theorem wh_fit {d b : Nat} (hd : d ≤ 256) (hb : b < 9) : (wh d ≤ b + 1) = (d ≤ 2 ^ b) := by
  apply propext
  unfold wh
  have hp : 2 ^ (b + 1) = 2 * 2 ^ b := by rw [Nat.pow_succ, Nat.mul_comm]
  by_cases c : d = 0
  · rw [if_pos c]; subst c; constructor <;> intro _ <;> omega
  · rw [if_neg c]
    constructor
    · intro h
      by_cases c2 : d ≤ 2 ^ b
      · exact c2
      · by_cases c3 : b + 1 < 9
        · have := lt_wid (m := 2 * d) (k := b + 1) c3 (by omega)
          omega
        · have : b = 8 := by omega
          subst this
          exact hd
    · intro h
      exact wid_of_le (by omega) (by omega)
theorem wh_zero {d : Nat} : (wh d ≤ 0) = (d = 0) := by
  apply propext
  constructor
  · intro h
    by_cases c : d = 0
    · exact c
    · unfold wh at h
      rw [if_neg c] at h
      have := lt_wid (m := 2 * d) (k := 0) (by omega) (by show 1 < 2 * d; omega)
      omega
  · intro h; subst h; simp [wh]
theorem x7_within {a b c : Int32} : f_X7_within a b c = some (if a < b ∨ c < a then 0 else 1) := by
  rw [f_X7_within]
  by_cases c1 : a < b
  · simp only [c1, Option.bind_some, reduceIte, if_true, if_false, true_or, zz0]
  · by_cases c2 : c < a
    · simp only [c1, c2, Option.bind_some, reduceIte, if_true, if_false, or_true, zz0]
    · simp only [c1, c2, Option.bind_some, reduceIte, if_true, if_false, or_self, zz1]
theorem x7_step_L {S : St} {M : Nat} {x : Int32} {a b : Nat} (ha : a ≤ 255) (hb : b ≤ 255) (b0 : Nat) (h9 : b0 ≤ 9) : ∀ (d fu k : Nat), k + d = max b0 (wh (if a < b then b - a + 1 else a - b)) → d < fu → b0 ≤ k → f_X7_stepBits_L28 S M x (oI b - oI a) fu (oI k) = some (oI (max b0 (wh (if a < b then b - a + 1 else a - b)))) := by
  intro d
  have hd : (if a < b then b - a + 1 else a - b) ≤ 256 := by split <;> omega
  have hw := wh_le (if a < b then b - a + 1 else a - b)
  induction d with
  | zero =>
    intro fu k e hf hk
    obtain ⟨fu, rfl⟩ : ∃ f, fu = f + 1 := ⟨fu - 1, by omega⟩
    have e' : k = max b0 (wh (if a < b then b - a + 1 else a - b)) := by omega
    rw [← e']
    have hfit : wh (if a < b then b - a + 1 else a - b) ≤ k := by omega
    rw [f_X7_stepBits_L28]
    by_cases c0 : k = 0
    · subst c0
      have hz := wh_zero.mp hfit
      have hab : a = b := by
        by_cases c : a < b
        · rw [if_pos c] at hz; omega
        · rw [if_neg c] at hz; omega
      subst hab
      simp only [Int32.sub_self, l0, Option.bind_some, reduceIte, if_true, if_false]
    · obtain ⟨j, rfl⟩ : ∃ j, k = j + 1 := ⟨k - 1, by omega⟩
      have hp := pow_le j (by omega)
      rw [wh_fit hd (by omega)] at hfit
      have hs : (oI b - oI a).toInt = (b : Int) - (a : Int) := by
        by_cases c : a ≤ b
        · rw [oI_sub c, oI_toInt (by omega)]; omega
        · rw [oI_subneg (by omega), neg_toInt (by omega)]; omega
      have n1 : ¬ (oI b - oI a < -oI (2 ^ j)) := by
        rw [Int32.lt_iff_toInt_lt, hs, neg_toInt (by omega)]
        by_cases c : a < b
        · rw [if_pos c] at hfit; omega
        · rw [if_neg c] at hfit; omega
      have n2 : ¬ (oI (2 ^ j - 1) < oI b - oI a) := by
        rw [Int32.lt_iff_toInt_lt, hs, oI_toInt (by omega)]
        have : 0 < 2 ^ j := Nat.two_pow_pos j
        by_cases c : a < b
        · rw [if_pos c] at hfit; omega
        · rw [if_neg c] at hfit; omega
      simp (disch := omega) only [l0, oI_eq, show ¬ j + 1 = 0 by omega, l1, oI_sub, Nat.add_sub_cancel, sh_pow', Option.bind_some, reduceIte, if_true, if_false]
      rw [oI_sub (Nat.two_pow_pos j), x7_within]
      simp only [n1, n2, or_self, Option.bind_some, reduceIte, if_true, if_false, show ((1 : Int32) = oI 0) = False by decide]
  | succ d ih =>
    intro fu k e hf hk
    obtain ⟨fu, rfl⟩ : ∃ f, fu = f + 1 := ⟨fu - 1, by omega⟩
    have hnf : ¬ wh (if a < b then b - a + 1 else a - b) ≤ k := by omega
    have ih' := ih fu (k + 1) (by omega) (by omega) (by omega)
    rw [f_X7_stepBits_L28]
    by_cases c0 : k = 0
    · subst c0
      rw [wh_zero] at hnf
      have hab : (oI b - oI a = oI 0) = False := by
        apply eq_false
        intro e3
        have : oI b = oI a := by
          have := congrArg (fun z => z + oI a) e3
          simp only [Int32.sub_add_cancel, oI_add, Nat.zero_add] at this
          exact this
        rw [oI_eq (by omega) (by omega)] at this
        subst this
        rw [if_neg (by omega)] at hnf
        omega
      simp only [l0, hab, l1, oI_add, Option.bind_some, reduceIte, if_true, if_false]
      exact ih'
    · obtain ⟨j, rfl⟩ : ∃ j, k = j + 1 := ⟨k - 1, by omega⟩
      have hp := pow_le j (by omega)
      rw [wh_fit hd (by omega)] at hnf
      have hs : (oI b - oI a).toInt = (b : Int) - (a : Int) := by
        by_cases c : a ≤ b
        · rw [oI_sub c, oI_toInt (by omega)]; omega
        · rw [oI_subneg (by omega), neg_toInt (by omega)]; omega
      have n1 : (oI b - oI a < -oI (2 ^ j)) ∨ (oI (2 ^ j - 1) < oI b - oI a) := by
        rw [Int32.lt_iff_toInt_lt, Int32.lt_iff_toInt_lt, hs, neg_toInt (by omega), oI_toInt (by omega)]
        have : 0 < 2 ^ j := Nat.two_pow_pos j
        by_cases c : a < b
        · rw [if_pos c] at hnf; omega
        · rw [if_neg c] at hnf; omega
      simp (disch := omega) only [l0, oI_eq, show ¬ j + 1 = 0 by omega, l1, oI_sub, Nat.add_sub_cancel, sh_pow', Option.bind_some, reduceIte, if_true, if_false]
      rw [oI_sub (Nat.two_pow_pos j), x7_within, if_pos n1]
      simp only [Option.bind_some, reduceIte, if_true, if_false, oI_add]
      exact ih'
theorem x7_steps_L {S : St} {M n : Nat} {g : Nat → Nat} (h : LdA S M n g) : ∀ (d fu i : Nat), i + d = n → d < fu → 1 ≤ i → f_X7_stepBits_L4 S M fu (oI (wh (hf g i))) (oI i) = some (oI (wh (hf g n)))
  | d, 0, i, e, hf, _ => by omega
  | 0, fu + 1, i, e, hf, _ => by
    have hn := h.2.2.2.2.1
    have : i = n := by omega
    subst this
    rw [f_X7_stepBits_L4]
    simp (disch := omega) only [h.1, h.2.1, h.2.2.1, oI_le, oI_lt, oI_eq, oI_add, oI_mul, oI_sub, l0, l1, l2, l3, l4, l5, l6, l7, l8, l9, l10, l11, l12, l13, l15, l24, l255, Nat.le_refl, Option.bind_some, reduceIte, if_true, if_false]
  | d + 1, fu + 1, i, e, hfu, h0 => by
    have hn := h.2.2.2.2.1
    have ih := x7_steps_L h d fu (i + 1) (by omega) (by omega) (by omega)
    have hi := h.2.2.2.1 i (by omega)
    have hj := h.2.2.2.1 (i - 1) (by omega)
    have g1 := h.2.2.2.2.2 i
    have g2 := h.2.2.2.2.2 (i - 1)
    have w0 := wh_le (hf g i)
    have w1 := wh_le (nd g i)
    have hin := x7_step_L (S := S) (M := M) (x := oI i) g2 g1 (wh (hf g i)) w0 (max (wh (hf g i)) (wh (nd g i)) - wh (hf g i)) FU (wh (hf g i)) (by unfold nd; omega) (FU_lt (by omega)) (by omega)
    rw [f_X7_stepBits_L4]
    rw [hf_succ g h0, wh_max] at ih
    unfold nd at ih
    simp (disch := omega) only [h.1, h.2.1, h.2.2.1, oI_le, oI_sub, l1, oI_add, Option.bind_some, reduceIte, if_true, if_false, show ¬ n ≤ i by omega]
    simp only [hi, hj, Option.bind_some, reduceIte, if_true, if_false]
    rw [hin]
    exact ih
theorem x7_steps {S : St} {M n : Nat} {g : Nat → Nat} (h : LdA S M n g) (h1 : 1 ≤ n) : f_X7_stepBits S M = some (oI (wh (hf g n))) := by
  have hn := h.2.2.2.2.1
  have := x7_steps_L h (n - 1) FU 1 (by omega) (FU_lt (by omega)) (by omega)
  simp only [hf, wh, Option.bind_some, reduceIte, if_true, if_false] at this
  simp only [f_X7_stepBits, l0, l1, this, Option.bind_some, reduceIte, if_true, if_false]
  rfl
theorem x7_times_L {S : St} {M n : Nat} {g : Nat → Nat} (h : LdA S M n g) {w : Nat} (hw : w ≤ 255) : ∀ (d fu i : Nat), i + d = n → d < fu → f_X7_timesOf_L4 S M (oI w) fu (oI (cnt g i w)) (oI i) = some (oI (cnt g n w))
  | d, 0, i, e, hf => by omega
  | 0, fu + 1, i, e, hf => by
    have hn := h.2.2.2.2.1
    have : i = n := by omega
    subst this
    rw [f_X7_timesOf_L4]
    simp (disch := omega) only [h.1, h.2.1, h.2.2.1, oI_le, oI_lt, oI_eq, oI_add, oI_mul, oI_sub, l0, l1, l2, l3, l4, l5, l6, l7, l8, l9, l10, l11, l12, l13, l15, l24, l255, Nat.le_refl, Option.bind_some, reduceIte, if_true, if_false]
  | d + 1, fu + 1, i, e, hf => by
    have hn := h.2.2.2.2.1
    have ih := x7_times_L h hw d fu (i + 1) (by omega) (by omega)
    have hi := h.2.2.2.1 i (by omega)
    have g1 := h.2.2.2.2.2 i
    rw [f_X7_timesOf_L4]
    simp (disch := omega) only [h.1, h.2.1, h.2.2.1, oI_le, oI_lt, oI_eq, oI_add, oI_mul, oI_sub, l0, l1, l2, l3, l4, l5, l6, l7, l8, l9, l10, l11, l12, l13, l15, l24, l255, Option.bind_some, reduceIte, if_true, if_false, show ¬ n ≤ i by omega, hi]
    by_cases hc : g i = w
    · simp only [cnt, hc, Option.bind_some, reduceIte, if_true, if_false, oI_add] at ih ⊢
      exact ih
    · simp only [cnt, hc, Option.bind_some, reduceIte, if_true, if_false, Nat.add_zero, oI_add] at ih ⊢
      exact ih
theorem x7_times {S : St} {M n : Nat} {g : Nat → Nat} (h : LdA S M n g) {w : Nat} (hw : w ≤ 255) : f_X7_timesOf S M (oI w) = some (oI (cnt g n w)) := by
  have hn := h.2.2.2.2.1
  have := x7_times_L h hw n FU 0 (by omega) (FU_lt (by omega))
  simp only [cnt] at this
  simp only [f_X7_timesOf, l0, this, Option.bind_some, reduceIte, if_true, if_false]
/-- the common one among the first i -/
def cmP (g : Nat → Nat) (n i c : Nat) : Prop := (∃ k, k < i ∧ c = g k) ∧ (∀ k, k < i → cnt g n (g k) ≤ cnt g n c) ∧ (∀ k, k < i → cnt g n (g k) = cnt g n c → c ≤ g k)
theorem cmP_mst {g : Nat → Nat} {n c : Nat} (h : cmP g n n c) : cnt g n c = mst g n := by
  obtain ⟨⟨k, hk, e⟩, h2, _⟩ := h
  apply Nat.le_antisymm
  · rw [e]; exact le_mx (fun i => cnt g n (g i)) n k hk
  · exact mx_le n (fun i hi => h2 i hi)
theorem cmn_prop (g : Nat → Nat) (n : Nat) : ∀ i, (∀ k, k < i → cnt g n (g k) = mst g n → cmn g n i ≤ g k) ∧ (cmn g n i = 255 ∨ ∃ k, k < i ∧ cnt g n (g k) = mst g n ∧ cmn g n i = g k)
  | 0 => ⟨fun k hk => by omega, .inl rfl⟩
  | i + 1 => by
    obtain ⟨h1, h2⟩ := cmn_prop g n i
    rw [cmn]
    by_cases c : cnt g n (g i) = mst g n
    · rw [if_pos c]
      constructor
      · intro k hk e
        by_cases e2 : k = i
        · subst e2; omega
        · have := h1 k (by omega) e; omega
      · by_cases c2 : cmn g n i ≤ g i
        · rw [Nat.min_eq_left c2]
          rcases h2 with h | ⟨k, hk, e1, e2⟩
          · exact .inl h
          · exact .inr ⟨k, by omega, e1, e2⟩
        · rw [Nat.min_eq_right (by omega)]
          exact .inr ⟨i, by omega, c, rfl⟩
    · rw [if_neg c]
      constructor
      · intro k hk e
        by_cases e2 : k = i
        · subst e2; exact absurd e c
        · exact h1 k (by omega) e
      · rcases h2 with h | ⟨k, hk, e1, e2⟩
        · exact .inl h
        · exact .inr ⟨k, by omega, e1, e2⟩
theorem cmP_cmn {g : Nat → Nat} {n c : Nat} (hg : ∀ i, g i ≤ 255) (h : cmP g n n c) : c = cmn g n n := by
  have hm := cmP_mst h
  obtain ⟨⟨k, hk, e⟩, h2, h3⟩ := h
  obtain ⟨p1, p2⟩ := cmn_prop g n n
  have a1 : cmn g n n ≤ c := by rw [e]; exact p1 k hk (by rw [← e]; exact hm)
  rcases p2 with p | ⟨j, hj, e1, e2⟩
  · have := hg k; omega
  · have := h3 j hj (by omega); omega
theorem cmP_next {g : Nat → Nat} {n i c : Nat} (h : cmP g n i c) : cmP g n (i + 1) (if cnt g n c < cnt g n (g i) then g i else if cnt g n (g i) = cnt g n c then (if c ≤ g i then c else g i) else c) := by
  obtain ⟨⟨k, hk, e⟩, h2, h3⟩ := h
  by_cases c1 : cnt g n c < cnt g n (g i)
  · rw [if_pos c1]
    refine ⟨⟨i, by omega, rfl⟩, fun k hk => ?_, fun k hk e => ?_⟩
    · by_cases e2 : k = i
      · subst e2; omega
      · have := h2 k (by omega); omega
    · by_cases e2 : k = i
      · subst e2; omega
      · have := h2 k (by omega); omega
  · rw [if_neg c1]
    by_cases c2 : cnt g n (g i) = cnt g n c
    · rw [if_pos c2]
      by_cases c3 : c ≤ g i
      · rw [if_pos c3]
        refine ⟨⟨k, by omega, e⟩, fun k hk => ?_, fun k hk e => ?_⟩
        · by_cases e2 : k = i
          · subst e2; omega
          · exact h2 k (by omega)
        · by_cases e2 : k = i
          · subst e2; omega
          · exact h3 k (by omega) e
      · rw [if_neg c3]
        refine ⟨⟨i, by omega, rfl⟩, fun k hk => ?_, fun k hk e => ?_⟩
        · by_cases e2 : k = i
          · subst e2; omega
          · have := h2 k (by omega); omega
        · by_cases e2 : k = i
          · subst e2; omega
          · have := h3 k (by omega) (by omega); omega
    · rw [if_neg c2]
      refine ⟨⟨k, by omega, e⟩, fun k hk => ?_, fun k hk e => ?_⟩
      · by_cases e2 : k = i
        · subst e2; omega
        · exact h2 k (by omega)
      · by_cases e2 : k = i
        · subst e2; omega
        · exact h3 k (by omega) e
theorem x7_common_L {S : St} {M n : Nat} {g : Nat → Nat} (h : LdA S M n g) : ∀ (d fu i c : Nat), i + d = n → d < fu → cmP g n i c → f_X7_commonOne_L9 S M fu (oI c) (oI i) = some (oI (cmn g n n))
  | d, 0, i, c, e, hf, _ => by omega
  | 0, fu + 1, i, c, e, hf, hP => by
    have hn := h.2.2.2.2.1
    have : i = n := by omega
    subst this
    rw [f_X7_commonOne_L9, ← cmP_cmn h.2.2.2.2.2 hP]
    simp (disch := omega) only [h.1, h.2.1, h.2.2.1, oI_le, oI_lt, oI_eq, oI_add, oI_mul, oI_sub, l0, l1, l2, l3, l4, l5, l6, l7, l8, l9, l10, l11, l12, l13, l15, l24, l255, Nat.le_refl, Option.bind_some, reduceIte, if_true, if_false]
  | d + 1, fu + 1, i, c, e, hf, hP => by
    have hn := h.2.2.2.2.1
    have ih := x7_common_L h d fu (i + 1) _ (by omega) (by omega) (cmP_next hP)
    have hi := h.2.2.2.1 i (by omega)
    have g1 := h.2.2.2.2.2 i
    have hc : c ≤ 255 := by obtain ⟨⟨k, _, e⟩, _⟩ := hP; rw [e]; exact h.2.2.2.2.2 k
    have b1 := cnt_le g n c
    have b2 := cnt_le g n (g i)
    rw [f_X7_commonOne_L9]
    simp (disch := omega) only [h.1, h.2.1, h.2.2.1, oI_le, l1, oI_add, Option.bind_some, reduceIte, if_true, if_false, show ¬ n ≤ i by omega, hi, x7_times h g1, x7_times h hc]
    by_cases c1 : cnt g n c < cnt g n (g i)
    · have e1 : (0 : Int32) < oI (cnt g n (g i)) - oI (cnt g n c) := by
        rw [oI_sub (by omega), l0, oI_lt (by omega) (by omega)]; omega
      simp only [e1, c1, Option.bind_some, reduceIte, if_true, if_false] at ih ⊢
      exact ih
    · by_cases c2 : cnt g n (g i) = cnt g n c
      · simp only [Int32.sub_self, c2, Option.bind_some, reduceIte, if_true, if_false, Nat.lt_irrefl, show ¬ ((0 : Int32) < 0) by decide] at ih ⊢
        by_cases c3 : c ≤ g i
        · simp only [c3, Option.bind_some, reduceIte, if_true, if_false] at ih ⊢
          exact ih
        · simp only [c3, Option.bind_some, reduceIte, if_true, if_false] at ih ⊢
          exact ih
      · have e0 : (oI (cnt g n (g i)) - oI (cnt g n c)).toInt = (cnt g n (g i) : Int) - (cnt g n c : Int) := by
          rw [oI_subneg (by omega), neg_toInt (by omega)]; omega
        have e1 : ¬ (0 : Int32) < oI (cnt g n (g i)) - oI (cnt g n c) := by
          rw [Int32.lt_iff_toInt_lt, e0, show (0 : Int32).toInt = 0 from rfl]; omega
        have e2 : ¬ oI (cnt g n (g i)) - oI (cnt g n c) = 0 := by
          rw [← Int32.toInt_inj, e0, show (0 : Int32).toInt = 0 from rfl]; omega
        simp only [e1, e2, c1, c2, Option.bind_some, reduceIte, if_true, if_false] at ih ⊢
        exact ih
theorem cmP_one (g : Nat → Nat) (n : Nat) : cmP g n 1 (g 0) := by
  refine ⟨⟨0, by omega, rfl⟩, fun k hk => ?_, fun k hk _ => ?_⟩
  · have : k = 0 := by omega
    subst this; omega
  · have : k = 0 := by omega
    subst this; omega
theorem x7_common {S : St} {M n : Nat} {g : Nat → Nat} (h : LdA S M n g) (h1 : 1 ≤ n) : f_X7_commonOne S M = some (oI (cmn g n n)) := by
  have hn := h.2.2.2.2.1
  have := x7_common_L h (n - 1) FU 1 (g 0) (by omega) (FU_lt (by omega)) (cmP_one g n)
  have h0 := h.2.2.2.1 0 h1
  simp only [f_X7_commonOne, h.1, h.2.1, h.2.2.1, l0, h0, l1, this, Option.bind_some, reduceIte, if_true, if_false]
theorem cmP_run (g : Nat → Nat) (n : Nat) : ∀ i, 1 ≤ i → ∃ c, cmP g n i c
  | 0, h => by omega
  | 1, _ => ⟨g 0, cmP_one g n⟩
  | i + 2, _ => by
    obtain ⟨c, hc⟩ := cmP_run g n (i + 1) (by omega)
    exact ⟨_, cmP_next hc⟩
theorem cnt_cmn {g : Nat → Nat} {n : Nat} (hg : ∀ i, g i ≤ 255) (h1 : 1 ≤ n) : cnt g n (cmn g n n) = mst g n := by
  obtain ⟨c, hc⟩ := cmP_run g n n h1
  rw [← cmP_cmn hg hc]
  exact cmP_mst hc
theorem x7_rare {S : St} {M n : Nat} {g : Nat → Nat} (h : LdA S M n g) (h1 : 1 ≤ n) : f_X7_rare S M = some (oI (n - mst g n)) := by
  have hn := h.2.2.2.2.1
  have hm := mst_le g n
  have hc := cmn_le g n n
  simp (disch := omega) only [f_X7_rare, h.1, h.2.1, h.2.2.1, x7_common h h1, x7_times h hc, cnt_cmn h.2.2.2.2.2 h1, oI_sub, Option.bind_some, reduceIte, if_true, if_false]
theorem x7_least_L {S : St} {M n : Nat} {g : Nat → Nat} (h : LdA S M n g) : ∀ (d fu i : Nat), i + d = n → d < fu → f_X7_least_L9 S M fu (oI (lst g i)) (oI i) = some (oI (lst g n))
  | d, 0, i, e, hf => by omega
  | 0, fu + 1, i, e, hf => by
    have hn := h.2.2.2.2.1
    have : i = n := by omega
    subst this
    rw [f_X7_least_L9]
    simp (disch := omega) only [h.1, h.2.1, h.2.2.1, oI_le, oI_lt, oI_eq, oI_add, oI_mul, oI_sub, l0, l1, l2, l3, l4, l5, l6, l7, l8, l9, l10, l11, l12, l13, l15, l24, l255, Nat.le_refl, Option.bind_some, reduceIte, if_true, if_false]
  | d + 1, fu + 1, i, e, hf => by
    have hn := h.2.2.2.2.1
    have ih := x7_least_L h d fu (i + 1) (by omega) (by omega)
    have hi := h.2.2.2.1 i (by omega)
    have g1 := h.2.2.2.2.2 i
    have b1 := lst_le g i
    rw [f_X7_least_L9]
    simp (disch := omega) only [h.1, h.2.1, h.2.2.1, oI_le, oI_lt, oI_eq, oI_add, oI_mul, oI_sub, l0, l1, l2, l3, l4, l5, l6, l7, l8, l9, l10, l11, l12, l13, l15, l24, l255, Option.bind_some, reduceIte, if_true, if_false, show ¬ n ≤ i by omega, hi]
    rw [lst] at ih
    by_cases c1 : lst g i ≤ g i
    · rw [Nat.min_eq_left c1] at ih
      simp only [c1, Option.bind_some, reduceIte, if_true, if_false]
      exact ih
    · rw [Nat.min_eq_right (by omega)] at ih
      simp only [c1, Option.bind_some, reduceIte, if_true, if_false]
      exact ih
theorem x7_least {S : St} {M n : Nat} {g : Nat → Nat} (h : LdA S M n g) (h1 : 1 ≤ n) : f_X7_least S M = some (oI (lst g n)) := by
  have hn := h.2.2.2.2.1
  have := x7_least_L h (n - 1) FU 1 (by omega) (FU_lt (by omega))
  have h0 := h.2.2.2.1 0 h1
  have e1 : lst g 1 = g 0 := by have := h.2.2.2.2.2 0; simp only [lst]; omega
  rw [e1] at this
  simp only [f_X7_least, h.1, h.2.1, h.2.2.1, l0, h0, l1, this, Option.bind_some, reduceIte, if_true, if_false]
theorem x7_frame_L {S : St} {M n : Nat} {g : Nat → Nat} (h : LdA S M n g) : ∀ (d fu i : Nat), i + d = n → d < fu → f_X7_frameBits_L9 S M fu (oI (mx g i)) (oI i) = some (oI (mx g n))
  | d, 0, i, e, hf => by omega
  | 0, fu + 1, i, e, hf => by
    have hn := h.2.2.2.2.1
    have : i = n := by omega
    subst this
    rw [f_X7_frameBits_L9]
    simp (disch := omega) only [h.1, h.2.1, h.2.2.1, oI_le, oI_lt, oI_eq, oI_add, oI_mul, oI_sub, l0, l1, l2, l3, l4, l5, l6, l7, l8, l9, l10, l11, l12, l13, l15, l24, l255, Nat.le_refl, Option.bind_some, reduceIte, if_true, if_false]
  | d + 1, fu + 1, i, e, hf => by
    have hn := h.2.2.2.2.1
    have ih := x7_frame_L h d fu (i + 1) (by omega) (by omega)
    have hi := h.2.2.2.1 i (by omega)
    have g1 := h.2.2.2.2.2 i
    have b1 := mx_255 h.2.2.2.2.2 i
    rw [f_X7_frameBits_L9]
    simp (disch := omega) only [h.1, h.2.1, h.2.2.1, oI_le, oI_lt, oI_eq, oI_add, oI_mul, oI_sub, l0, l1, l2, l3, l4, l5, l6, l7, l8, l9, l10, l11, l12, l13, l15, l24, l255, Option.bind_some, reduceIte, if_true, if_false, show ¬ n ≤ i by omega, hi]
    rw [mx] at ih
    by_cases c1 : g i ≤ mx g i
    · rw [Nat.max_eq_left c1] at ih
      simp only [c1, Option.bind_some, reduceIte, if_true, if_false]
      exact ih
    · rw [Nat.max_eq_right (by omega)] at ih
      simp only [c1, Option.bind_some, reduceIte, if_true, if_false]
      exact ih
theorem x7_frame {S : St} {M n : Nat} {g : Nat → Nat} (h : LdA S M n g) (h1 : 1 ≤ n) : f_X7_frameBits S M = some (oI (wid (mx g n - lst g n + 1))) := by
  have hn := h.2.2.2.2.1
  have := x7_frame_L h (n - 1) FU 1 (by omega) (FU_lt (by omega))
  have h0 := h.2.2.2.1 0 h1
  have e1 : mx g 1 = g 0 := by simp only [mx]; omega
  have hx := mx_255 h.2.2.2.2.2 n
  have hl := lt_mx (g := g) h1
  rw [e1] at this
  simp (disch := omega) only [f_X7_frameBits, h.1, h.2.1, h.2.2.1, l0, h0, l1, this, x7_least h h1, oI_sub, oI_add, x7_bits, Option.bind_some, reduceIte, if_true, if_false]
theorem x7_cost {S : St} {M n : Nat} {g : Nat → Nat} (h : LdA S M n g) (h1 : 1 ≤ n) {c : Nat} (hc : c ≤ 5) : f_X7_costBy S M (oI c) = some (oI (bt g n c)) := by
  have hn := h.2.2.2.2.1
  have hd := df_le g n
  rw [f_X7_costBy]
  simp (disch := omega) only [h.1, h.2.1, h.2.2.1, x7_runs h (Nat.le_refl n), x7_diff h, x7_steps h h1, x7_rare h h1, x7_frame h h1, x7_bits, oI_le, oI_lt, oI_eq, oI_add, oI_mul, oI_sub, l0, l1, l2, l3, l4, l5, l6, l7, l8, l9, l10, l11, l12, l13, l15, l24, l255, Option.bind_some, reduceIte, if_true, if_false]
  unfold bt
  by_cases c0 : c = 0
  · simp only [c0, Option.bind_some, reduceIte, if_true, if_false]
  by_cases c1 : c = 1
  · simp only [c1, show ¬ (1 : Nat) = 0 by decide, Option.bind_some, reduceIte, if_true, if_false]
  by_cases c2 : c = 2
  · simp only [c2, show ¬ (2 : Nat) = 0 by decide, show ¬ (2 : Nat) = 1 by decide, Option.bind_some, reduceIte, if_true, if_false]
  by_cases c3 : c = 3
  · simp only [c3, show ¬ (3 : Nat) = 0 by decide, show ¬ (3 : Nat) = 1 by decide, show ¬ (3 : Nat) = 2 by decide, Option.bind_some, reduceIte, if_true, if_false]
  by_cases c4 : c = 4
  · simp only [c4, show ¬ (4 : Nat) = 0 by decide, show ¬ (4 : Nat) = 1 by decide, show ¬ (4 : Nat) = 2 by decide, show ¬ (4 : Nat) = 3 by decide, Option.bind_some, reduceIte, if_true, if_false]
  simp only [c0, c1, c2, c3, c4, Option.bind_some, reduceIte, if_true, if_false]
theorem x7_best_L {S : St} {M n : Nat} {g : Nat → Nat} (h : LdA S M n g) (h1 : 1 ≤ n) : ∀ (d fu k : Nat), k + d = 5 → d + 1 < fu → f_X7_bestCode_L4 S M fu (oI (bsF g n k)) (oI (k + 1)) = some (oI (bs g n))
  | d, 0, k, e, hf => by omega
  | 0, fu + 1, k, e, hf => by
    have : k = 5 := by omega
    subst this
    rw [f_X7_bestCode_L4]
    simp (disch := omega) only [oI_le, oI_lt, oI_eq, oI_add, oI_mul, oI_sub, l0, l1, l2, l3, l4, l5, l6, l7, l8, l9, l10, l11, l12, l13, l15, l24, l255, Nat.le_refl, bs, Option.bind_some, reduceIte, if_true, if_false, show 6 ≤ 5 + 1 by omega]
  | d + 1, fu + 1, k, e, hf => by
    have hn := h.2.2.2.2.1
    have b1 := bt_le g n (k + 1)
    have b2 := bt_le g n (bsF g n k)
    have b3 := bsF_le g n k
    have ih := x7_best_L h h1 d fu (k + 1) (by omega) (by omega)
    rw [f_X7_bestCode_L4]
    simp (disch := omega) only [oI_le, oI_lt, oI_eq, oI_add, oI_mul, oI_sub, l0, l1, l2, l3, l4, l5, l6, l7, l8, l9, l10, l11, l12, l13, l15, l24, l255, show ¬ 6 ≤ k + 1 by omega, x7_cost h h1 (show k + 1 ≤ 5 by omega), x7_cost h h1 (show bsF g n k ≤ 5 by omega), h.1, h.2.1, h.2.2.1, Option.bind_some, reduceIte, if_true, if_false]
    rw [bsF] at ih
    by_cases c : bt g n (k + 1) < bt g n (bsF g n k)
    · simp only [c, show ¬ bt g n (bsF g n k) ≤ bt g n (k + 1) by omega, Option.bind_some, reduceIte, if_true, if_false] at ih ⊢
      exact ih
    · simp only [c, show bt g n (bsF g n k) ≤ bt g n (k + 1) by omega, Option.bind_some, reduceIte, if_true, if_false] at ih ⊢
      exact ih
theorem x7_best {S : St} {M n : Nat} {g : Nat → Nat} (h : LdA S M n g) (h1 : 1 ≤ n) : f_X7_bestCode S M = some (oI (bs g n)) := by
  have := x7_best_L h h1 5 FU 0 (by omega) (FU_lt (by omega))
  simp only [bsF, Nat.zero_add] at this
  simp only [f_X7_bestCode, l0, l1, this, Option.bind_some, reduceIte, if_true, if_false]
theorem x7_regret {S : St} {M n : Nat} {g : Nat → Nat} (h : LdA S M n g) (h1 : 1 ≤ n) {c : Nat} (hc : c ≤ 5) : f_X7_regretBy S M (oI c) = some (oI (bt g n c) - oI (bt g n (bs g n))) := by
  have hb := bs_le g n
  simp only [f_X7_regretBy, h.1, h.2.1, h.2.2.1, x7_cost h h1 hc, x7_best h h1, x7_cost h h1 hb, Option.bind_some, reduceIte, if_true, if_false]
theorem x7_work {S : St} {M n : Nat} {g : Nat → Nat} (h : LdA S M n g) (h1 : 1 ≤ n) {c q w : Nat} (hc : c ≤ 5) (hq : q ≤ 2) (hw : w ≤ 255) : f_X7_workBy S M (oI c) (oI q) (oI w) = some (oI (ef g n c q w)) := by
  have hn := h.2.2.2.2.1
  have hl := fst_le g n w
  have hm := mst_le g n
  have hcm := cmn_le g n n
  have hls := lst_le g n
  have hw9 := wid_le (mx g n - lst g n + 1)
  have hp := pow_le (wid (mx g n - lst g n + 1)) (by omega)
  rw [f_X7_workBy]
  have e1 : (if oI n ≤ oI (fst g n w) then some (oI n) else some (oI (fst g n w) + 1) : Option Int32) = some (oI (rc g n w)) := by
    simp (disch := omega) only [oI_le, l1, oI_add]
    unfold rc
    by_cases c : fst g n w < n
    · simp only [c, show ¬ n ≤ fst g n w by omega, Option.bind_some, reduceIte, if_true, if_false]
    · simp only [c, show n ≤ fst g n w by omega, Option.bind_some, reduceIte, if_true, if_false]
  have e2 : (if oI q = 2 then some (oI (rc g n w)) else some (oI n) : Option Int32) = some (oI (re g n q w)) := by
    simp (disch := omega) only [oI_eq, l2]
    unfold re
    by_cases c : q = 2
    · simp only [c, Option.bind_some, reduceIte, if_true, if_false]
    · simp only [c, Option.bind_some, reduceIte, if_true, if_false]
  simp only [h.1, h.2.1, h.2.2.1, x7_first h hw, Option.bind_some]
  simp only [e1, Option.bind_some]
  simp only [e2, Option.bind_some]
  simp (disch := omega) only [h.1, h.2.1, h.2.2.1, x7_runs h (re_le g n q w), x7_diff h, x7_common h h1, x7_rare h h1, x7_least h h1, x7_frame h h1, sh_pow', oI_le, oI_lt, oI_eq, oI_add, oI_mul, oI_sub, l0, l1, l2, l3, l4, l5, l6, l7, l8, l9, l10, l11, l12, l13, l15, l24, l255, Option.bind_some, reduceIte, if_true, if_false]
  unfold ef
  by_cases c1 : c = 1
  · simp only [c1, show ¬ (1 : Nat) = 0 by decide, Option.bind_some, reduceIte, if_true, if_false]
  by_cases c2 : c = 2
  · simp only [c2, show ¬ (2 : Nat) = 0 by decide, show ¬ (2 : Nat) = 1 by decide, Option.bind_some, reduceIte, if_true, if_false]
    by_cases d1 : q = 1
    · simp only [d1, Option.bind_some, reduceIte, if_true, if_false, oI_add]
    · by_cases d2 : fst g n w < n
      · simp only [d1, d2, show ¬ fst g n w = n by omega, Option.bind_some, reduceIte, if_true, if_false, oI_add]
      · simp only [d1, d2, show fst g n w = n by omega, Nat.lt_irrefl, Option.bind_some, reduceIte, if_true, if_false, oI_add]
  by_cases c4 : c = 4
  · simp only [c4, show ¬ (4 : Nat) = 0 by decide, show ¬ (4 : Nat) = 1 by decide, show ¬ (4 : Nat) = 2 by decide, show ¬ (4 : Nat) = 3 by decide, Option.bind_some, reduceIte, if_true, if_false]
    by_cases d2 : q = 2
    · simp only [d2, Option.bind_some, reduceIte, if_true, if_false]
    · by_cases d0 : q = 0
      · by_cases d3 : w = cmn g n n
        · simp only [d0, d3, show ¬ (0 : Nat) = 2 by decide, true_and, Option.bind_some, reduceIte, if_true, if_false]
        · simp only [d0, d3, show ¬ (0 : Nat) = 2 by decide, and_false, Option.bind_some, reduceIte, if_true, if_false]
      · simp only [d0, d2, false_and, Option.bind_some, reduceIte, if_true, if_false]
  by_cases c5 : c = 5
  · simp only [c5, show ¬ (5 : Nat) = 0 by decide, show ¬ (5 : Nat) = 1 by decide, show ¬ (5 : Nat) = 2 by decide, show ¬ (5 : Nat) = 3 by decide, show ¬ (5 : Nat) = 4 by decide, Option.bind_some, reduceIte, if_true, if_false]
    by_cases d1 : q = 1
    · simp only [re, d1, show ¬ (1 : Nat) = 2 by decide, Option.bind_some, reduceIte, if_true, if_false]
    · by_cases d2 : w < lst g n
      · simp only [d1, d2, Option.bind_some, reduceIte, if_true, if_false]
      · by_cases d3 : w < lst g n + 2 ^ wid (mx g n - lst g n + 1)
        · simp only [d1, d2, d3, Option.bind_some, reduceIte, if_true, if_false]
        · simp only [d1, d2, d3, Option.bind_some, reduceIte, if_true, if_false]
  by_cases c0 : c = 0
  · simp only [c0, show ¬ (0 : Nat) = 1 by decide, show ¬ (0 : Nat) = 2 by decide, show ¬ (0 : Nat) = 4 by decide, show ¬ (0 : Nat) = 5 by decide, Option.bind_some, reduceIte, if_true, if_false]
  have c3 : c = 3 := by omega
  simp only [c3, show ¬ (3 : Nat) = 0 by decide, show ¬ (3 : Nat) = 1 by decide, show ¬ (3 : Nat) = 2 by decide, show ¬ (3 : Nat) = 4 by decide, show ¬ (3 : Nat) = 5 by decide, Option.bind_some, reduceIte, if_true, if_false]
theorem x7_ans_L {S : St} {M n : Nat} {g : Nat → Nat} (h : LdA S M n g) : ∀ (d fu i : Nat), i + d = n → d < fu → f_X7_answer_L42 S M fu (oI (sm g i)) (oI i) = some (oI (sm g n))
  | d, 0, i, e, hf => by omega
  | 0, fu + 1, i, e, hf => by
    have hn := h.2.2.2.2.1
    have : i = n := by omega
    subst this
    rw [f_X7_answer_L42]
    simp (disch := omega) only [h.1, h.2.1, h.2.2.1, oI_le, oI_lt, oI_eq, oI_add, oI_mul, oI_sub, l0, l1, l2, l3, l4, l5, l6, l7, l8, l9, l10, l11, l12, l13, l15, l24, l255, Nat.le_refl, Option.bind_some, reduceIte, if_true, if_false]
  | d + 1, fu + 1, i, e, hf => by
    have hn := h.2.2.2.2.1
    have ih := x7_ans_L h d fu (i + 1) (by omega) (by omega)
    have hi := h.2.2.2.1 i (by omega)
    rw [f_X7_answer_L42]
    simp (disch := omega) only [h.1, h.2.1, h.2.2.1, oI_le, oI_lt, oI_eq, oI_add, oI_mul, oI_sub, l0, l1, l2, l3, l4, l5, l6, l7, l8, l9, l10, l11, l12, l13, l15, l24, l255, Option.bind_some, reduceIte, if_true, if_false, show ¬ n ≤ i by omega, hi]
    exact ih
theorem x7_answer {S : St} {M n : Nat} {g : Nat → Nat} (h : LdA S M n g) {q w : Nat} (hq : q ≤ 2) (hw : w ≤ 255) : f_X7_answer S M (oI q) (oI w) = some (an g n q w) := by
  have hn := h.2.2.2.2.1
  have hl := fst_le g n w
  have := x7_ans_L h n FU 0 (by omega) (FU_lt (by omega))
  simp only [sm] at this
  rw [f_X7_answer]
  simp (disch := omega) only [h.1, h.2.1, h.2.2.1, x7_times h hw, x7_first h hw, this, oI_eq, oI_le, l0, l2, Option.bind_some, reduceIte, if_true, if_false]
  unfold an
  by_cases c0 : q = 0
  · simp only [c0, Option.bind_some, reduceIte, if_true, if_false]
  by_cases c2 : q = 2
  · simp only [c2, show ¬ (2 : Nat) = 0 by decide, show ¬ (2 : Nat) = 1 by decide, Option.bind_some, reduceIte, if_true, if_false]
    by_cases c : fst g n w < n
    · simp only [c, show ¬ n ≤ fst g n w by omega, Option.bind_some, reduceIte, if_true, if_false]
    · simp only [c, show n ≤ fst g n w by omega, Option.bind_some, reduceIte, if_true, if_false]
  have c1 : q = 1 := by omega
  simp only [c1, show ¬ (1 : Nat) = 0 by decide, show ¬ (1 : Nat) = 2 by decide, Option.bind_some, reduceIte, if_true, if_false]
