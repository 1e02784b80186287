/-! THE TEXT: one step, the model's side -/
/-- the number so far: -1 where no digit stands -/
def numT (s : Ts) : Int32 := if s.1 = 1 then oI s.2.1 else if s.1 = 3 then oI s.2.2 else -1
def TmM (A : Nat → Nat → Int32) (F : Nat → Int32) (s : Ts) (r : Nat) : Prop :=
  F 9 = oI r ∧ F 10 = (if 2 ≤ s.1 then 1 else 0) ∧ F 11 = numT s ∧ (s.1 ≠ 0 → A 4 (2 * r) = oI s.2.1) ∧ (s.1 = 0 ∨ s.1 = 1 → A 4 (2 * r + 1) = 1) ∧ (s.1 = 3 → A 4 (2 * r + 1) = oI s.2.2)
def FrP (A A' : Nat → Nat → Int32) (F F' : Nat → Int32) : Prop := (∀ a, a ≠ 4 → A' a = A a) ∧ ∀ k, k ≠ 9 → k ≠ 10 → k ≠ 11 → F' k = F k
theorem FrP_refl (A : Nat → Nat → Int32) (F : Nat → Int32) : FrP A A F F := ⟨fun _ _ => rfl, fun _ _ _ _ => rfl⟩
theorem FrP_trans {A A1 A2 : Nat → Nat → Int32} {F F1 F2 : Nat → Int32} (h : FrP A A1 F F1) (k : FrP A1 A2 F1 F2) : FrP A A2 F F2 := ⟨fun a c => (k.1 a c).trans (h.1 a c), fun a c d e => (k.2 a c d e).trans (h.2 a c d e)⟩
theorem up2_up {β : Type} (A : Nat → Nat → β) (a k : Nat) (v w : β) : up2 (up2 A a k v) a k w = up2 A a k w := by
  funext a' k'; unfold up2; by_cases c : a' = a ∧ k' = k
  · rw [if_pos c, if_pos c]
  · rw [if_neg c, if_neg c, if_neg c]
theorem FrP_1 {A : Nat → Nat → Int32} {F : Nat → Int32} (k : Nat) (v w : Int32) : FrP A (up2 A 4 k v) F (upF F 11 w) := ⟨fun a ha => up2_row _ _ ha, fun j a b c => upF_ne F w c⟩
theorem wi {k : Nat} {lo hi : Nat} {c1 c2 : Int32} (hc1 : c1 = oI lo) (hc2 : c2 = oI hi) (hk : k < 2147483648) (hl : lo < 2147483648) (hh : hi < 2147483648) : f_X7_within (oI k) c1 c2 = some (if lo ≤ k ∧ k ≤ hi then 1 else 0) := by
  subst hc1 hc2
  by_cases c : lo ≤ k ∧ k ≤ hi
  · rw [if_pos c]; exact wi_in c.1 c.2 hh
  · rw [if_neg c]
    refine wi_out ?_
    rw [oI_lt hk hl, oI_lt hh hk]
    omega
theorem m_dig_0 {S : St} {M : Nat} {A : Nat → Nat → Int32} {F : Nat → Int32} {H : Int64} {O : Nat → Int64} {d r : Nat} (h9 : F 9 = oI r) (hr : r ≤ 30) (h10 : F 10 = 0) (h11 : F 11 = -1) (hd : d ≤ 9) : f_X7_takesDigit (MS S M A F H O) M (oI d) = some (1, MS S M (up2 A 4 (2 * r) (oI d)) (upF F 11 (oI d)) H O) := by
  have w1 := wi (k := d) (lo := 0) (hi := 9) (c1 := 0) (c2 := 9) rfl rfl (by omega) (by omega) (by omega)
  have w2 := wi (k := d) (lo := 0) (hi := 255) (c1 := 0) (c2 := 255) rfl rfl (by omega) (by omega) (by omega)
  rw [if_pos ⟨by omega, by omega⟩] at w1 w2
  have g9 : upF F 11 (oI d) 9 = oI r := by rw [upF_ne _ _ (by decide)]; exact h9
  have g10 : upF F 11 (oI d) 10 = 0 := by rw [upF_ne _ _ (by decide)]; exact h10
  have e1 : (2 * oI r + 0 : Int32) = oI (2 * r) := by rw [Int32.add_zero, l2, oI_mul]
  simp only [f_X7_takesDigit, m_g11, h11, w1, show ¬ (1 : Int32) = 0 by decide, show ¬ ((-1 : Int32) = 0) by decide, m_g10, h10, w2, m_p11, m_r8, m_g9, g9, g10, e1, upF_eq, m_s4 (show 2 * r < 64 by omega), zz1, Option.bind_some, reduceIte, if_true, if_false]
theorem m_dig_1 {S : St} {M : Nat} {A : Nat → Nat → Int32} {F : Nat → Int32} {H : Int64} {O : Nat → Int64} {d v r : Nat} (h9 : F 9 = oI r) (hr : r ≤ 30) (h10 : F 10 = 0) (h11 : F 11 = oI v) (hv : v ≤ 255) (hd : d ≤ 9) (ok : 10 ≤ 10 * v + d ∧ 10 * v + d ≤ 255) : f_X7_takesDigit (MS S M A F H O) M (oI d) = some (1, MS S M (up2 A 4 (2 * r) (oI (10 * v + d))) (upF F 11 (oI (10 * v + d))) H O) := by
  have w1 := wi (k := d) (lo := 0) (hi := 9) (c1 := 0) (c2 := 9) rfl rfl (by omega) (by omega) (by omega)
  have w2 := wi (k := 10 * v + d) (lo := 0) (hi := 255) (c1 := 0) (c2 := 255) rfl rfl (by omega) (by omega) (by omega)
  rw [if_pos ⟨by omega, by omega⟩] at w1 w2
  have g9 : upF F 11 (oI (10 * v + d)) 9 = oI r := by rw [upF_ne _ _ (by decide)]; exact h9
  have g10 : upF F 11 (oI (10 * v + d)) 10 = 0 := by rw [upF_ne _ _ (by decide)]; exact h10
  have e1 : (2 * oI r + 0 : Int32) = oI (2 * r) := by rw [Int32.add_zero, l2, oI_mul]
  have e2 : (10 * oI v + oI d : Int32) = oI (10 * v + d) := by rw [l10, oI_mul, oI_add]
  have n0 : (oI v = 0) = False := by rw [l0, oI_eq (by omega) (by omega)]; exact eq_false (by omega)
  simp only [f_X7_takesDigit, m_g11, h11, ne_m1 (show v < 2147483648 by omega), n0, e2, w1, show ¬ (1 : Int32) = 0 by decide, m_g10, h10, w2, m_p11, m_r8, m_g9, g9, g10, e1, upF_eq, m_s4 (show 2 * r < 64 by omega), zz1, Option.bind_some, reduceIte, if_true, if_false]
theorem m_dig_2 {S : St} {M : Nat} {A : Nat → Nat → Int32} {F : Nat → Int32} {H : Int64} {O : Nat → Int64} {d r : Nat} (h9 : F 9 = oI r) (hr : r ≤ 30) (h10 : F 10 = 1) (h11 : F 11 = -1) (hd : d ≤ 9) (h1 : 1 ≤ d) : f_X7_takesDigit (MS S M A F H O) M (oI d) = some (1, MS S M (up2 A 4 (2 * r + 1) (oI d)) (upF F 11 (oI d)) H O) := by
  have w1 := wi (k := d) (lo := 0) (hi := 9) (c1 := 0) (c2 := 9) rfl rfl (by omega) (by omega) (by omega)
  have w2 := wi (k := d) (lo := 1) (hi := 24) (c1 := 1) (c2 := 24) rfl rfl (by omega) (by omega) (by omega)
  rw [if_pos ⟨by omega, by omega⟩] at w1 w2
  have g9 : upF F 11 (oI d) 9 = oI r := by rw [upF_ne _ _ (by decide)]; exact h9
  have g10 : upF F 11 (oI d) 10 = 1 := by rw [upF_ne _ _ (by decide)]; exact h10
  have e1 : (2 * oI r + 1 : Int32) = oI (2 * r + 1) := by rw [l2, l1, oI_mul, oI_add]
  simp only [f_X7_takesDigit, m_g11, h11, w1, show ¬ (1 : Int32) = 0 by decide, show ¬ ((-1 : Int32) = 0) by decide, m_g10, h10, w2, m_p11, m_r8, m_g9, g9, g10, e1, upF_eq, m_s4 (show 2 * r + 1 < 64 by omega), zz1, Option.bind_some, reduceIte, if_true, if_false]
theorem m_dig_3 {S : St} {M : Nat} {A : Nat → Nat → Int32} {F : Nat → Int32} {H : Int64} {O : Nat → Int64} {d k r : Nat} (h9 : F 9 = oI r) (hr : r ≤ 30) (h10 : F 10 = 1) (h11 : F 11 = oI k) (hk : 1 ≤ k) (hd : d ≤ 9) (ok : 10 * k + d ≤ 24) : f_X7_takesDigit (MS S M A F H O) M (oI d) = some (1, MS S M (up2 A 4 (2 * r + 1) (oI (10 * k + d))) (upF F 11 (oI (10 * k + d))) H O) := by
  have w1 := wi (k := d) (lo := 0) (hi := 9) (c1 := 0) (c2 := 9) rfl rfl (by omega) (by omega) (by omega)
  have w2 := wi (k := 10 * k + d) (lo := 1) (hi := 24) (c1 := 1) (c2 := 24) rfl rfl (by omega) (by omega) (by omega)
  rw [if_pos ⟨by omega, by omega⟩] at w1 w2
  have g9 : upF F 11 (oI (10 * k + d)) 9 = oI r := by rw [upF_ne _ _ (by decide)]; exact h9
  have g10 : upF F 11 (oI (10 * k + d)) 10 = 1 := by rw [upF_ne _ _ (by decide)]; exact h10
  have e1 : (2 * oI r + 1 : Int32) = oI (2 * r + 1) := by rw [l2, l1, oI_mul, oI_add]
  have e2 : (10 * oI k + oI d : Int32) = oI (10 * k + d) := by rw [l10, oI_mul, oI_add]
  have n0 : (oI k = 0) = False := by rw [l0, oI_eq (by omega) (by omega)]; exact eq_false (by omega)
  simp only [f_X7_takesDigit, m_g11, h11, ne_m1 (show k < 2147483648 by omega), n0, e2, w1, show ¬ (1 : Int32) = 0 by decide, m_g10, h10, w2, m_p11, m_r8, m_g9, g9, g10, e1, upF_eq, m_s4 (show 2 * r + 1 < 64 by omega), zz1, Option.bind_some, reduceIte, if_true, if_false]
