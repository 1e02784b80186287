/-! THE TEXT: a digit refused, the model's side -/
theorem m_tail {S : St} {M : Nat} {A : Nat → Nat → Int32} {F : Nat → Int32} {H : Int64} {O : Nat → Int64} {r b : Nat} (h9 : F 9 = oI r) (hr : r ≤ 30) (hb : b ≤ 1) (h10 : F 10 = oI b) :
    ((pI (MS S M A F H O) M 6 11 (F 11)).bind fun Z29 => (gR Z29 M 6 8).bind fun x31 => (gI Z29 M 6 9).bind fun x33 => (gI Z29 M 6 10).bind fun x35 => (if x35 = 0 then some 0 else some 1 : Option Int32).bind fun t37 => (gI Z29 M 6 11).bind fun x39 => (sI Z29 x31 ((2 * x33) + t37) x39).bind fun Z41 => (zz 0).bind fun _ => some ((0 : Int32), Z41))
      = some (0, MS S M (up2 A 4 (2 * r + b) (F 11)) (upF F 11 (F 11)) H O) := by
  have g9 : upF F 11 (F 11) 9 = oI r := by rw [upF_ne _ _ (by decide)]; exact h9
  have g10 : upF F 11 (F 11) 10 = oI b := by rw [upF_ne _ _ (by decide)]; exact h10
  have e1 : (2 * oI r + oI b : Int32) = oI (2 * r + b) := by rw [l2, oI_mul, oI_add]
  have hw : (if oI b = 0 then some 0 else some 1 : Option Int32) = some (oI b) := by
    have : b = 0 ∨ b = 1 := by omega
    rcases this with rfl | rfl <;> rfl
  simp only [m_p11, m_r8, m_g9, m_g10, m_g11, g9, g10, hw, e1, upF_eq, m_s4 (show 2 * r + b < 64 by omega), zz0, Option.bind_some, reduceIte, if_true, if_false]
theorem m_no_x {S : St} {M : Nat} {A : Nat → Nat → Int32} {F : Nat → Int32} {H : Int64} {O : Nat → Int64} {x : Int32} {r b : Nat} (h9 : F 9 = oI r) (hr : r ≤ 30) (hb : b ≤ 1) (h10 : F 10 = oI b) (hx : x < oI 0 ∨ oI 9 < x) :
    f_X7_takesDigit (MS S M A F H O) M x = some (0, MS S M (up2 A 4 (2 * r + b) (F 11)) (upF F 11 (F 11)) H O) := by
  rw [← m_tail h9 hr hb h10]
  have w1 := wi_out hx
  rw [show (oI 0 : Int32) = 0 from rfl, show (oI 9 : Int32) = 9 from rfl] at w1
  by_cases hm : F 11 = -1
  · simp only [f_X7_takesDigit, m_g11, hm, w1, Option.bind_some, reduceIte, if_true, if_false]
  · simp only [f_X7_takesDigit, m_g11, hm, w1, Option.bind_some, reduceIte, if_true, if_false]
theorem m_no_0 {S : St} {M : Nat} {A : Nat → Nat → Int32} {F : Nat → Int32} {H : Int64} {O : Nat → Int64} {x : Int32} {r b : Nat} (h9 : F 9 = oI r) (hr : r ≤ 30) (hb : b ≤ 1) (h10 : F 10 = oI b) (h11 : F 11 = 0) :
    f_X7_takesDigit (MS S M A F H O) M x = some (0, MS S M (up2 A 4 (2 * r + b) (F 11)) (upF F 11 (F 11)) H O) := by
  rw [← m_tail h9 hr hb h10, f_X7_takesDigit, x7_within]
  by_cases c : x < 0 ∨ 9 < x
  · simp only [m_g11, h11, if_pos c, show ¬ ((0 : Int32) = -1) by decide, Option.bind_some, reduceIte, if_true, if_false]
  · simp only [m_g11, h11, if_neg c, show ¬ ((0 : Int32) = -1) by decide, show ¬ ((1 : Int32) = 0) by decide, Option.bind_some, reduceIte, if_true, if_false]
theorem m_no_t {S : St} {M : Nat} {A : Nat → Nat → Int32} {F : Nat → Int32} {H : Int64} {O : Nat → Int64} {x t3 : Int32} {r b : Nat} (h9 : F 9 = oI r) (hr : r ≤ 30) (hb : b ≤ 1) (h10 : F 10 = oI b) (h3 : (if F 11 = -1 then some x else some (10 * F 11 + x) : Option Int32) = some t3) (hw : f_X7_within t3 (if b = 0 then 0 else 1) (if b = 0 then 255 else 24) = some 0) :
    f_X7_takesDigit (MS S M A F H O) M x = some (0, MS S M (up2 A 4 (2 * r + b) (F 11)) (upF F 11 (F 11)) H O) := by
  by_cases h0 : F 11 = 0
  · exact m_no_0 h9 hr hb h10 h0
  rw [← m_tail h9 hr hb h10, f_X7_takesDigit, x7_within]
  have e1 : (if oI b = 0 then some 0 else some 1 : Option Int32) = some (if b = 0 then 0 else 1) := by
    have : b = 0 ∨ b = 1 := by omega
    rcases this with rfl | rfl <;> rfl
  have e2 : (if oI b = 0 then some 255 else some 24 : Option Int32) = some (if b = 0 then 255 else 24) := by
    have : b = 0 ∨ b = 1 := by omega
    rcases this with rfl | rfl <;> rfl
  by_cases c : x < 0 ∨ 9 < x
  · simp only [m_g11, h3, if_pos c, Option.bind_some]
    simp only [Option.bind_some, reduceIte, if_true, if_false]
  · simp only [m_g11, h3, if_neg c, h0, show ¬ ((1 : Int32) = 0) by decide, m_g10, h10, Option.bind_some, if_false]
    simp only [e1, e2, Option.bind_some, hw, if_true]
