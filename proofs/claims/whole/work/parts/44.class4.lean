/-! THE CLASS'S ANSWERS -/
def bestB (b : Bk) : Nat := bs (bG b) (bN b)
def pr (A : Cn) (j i : Nat) : Int32 :=
  if i = 0 then oI (bN (cB A j)) else if i = 1 then oI (bC (cB A j)) else if i = 2 then oI (bt (bG (cB A j)) (bN (cB A j)) (bC (cB A j))) else if i = 3 then oI (bV (cB A j))
  else if i = 4 then bK (cB A j) 3 else if i = 5 then bK (cB A j) 4 else if i = 6 then bK (cB A j) 5 else if i = 7 then bK (cB A j) 6 else if i = 8 then oI (bestB (cB A j))
  else if i = 9 then oI (bt (bG (cB A j)) (bN (cB A j)) (bestB (cB A j))) else if i = 10 then oI (fal (cB A) (cN A) (bN (cB A j)) (bG (cB A j))) else bK (cB A j) 7
theorem x6_prop {S : St} {x : Nat} {W : Nat → Nat → Int32} {R : Nat → Nat → Nat} {A : Cn} {nh : Nat} {Hs : Nat → Cn} (h : ClsW W R A nh Hs) (ok : okS A nh Hs) {j i : Nat} (hj : j < cN A) (hi : i ≤ 11) : f_X6_propertyOf (WS S x W R) x (x + R 2 j) (oI i) = some (pr A j i) := by
  have h8 := ok.1.1
  have hj8 : j < 8 := by omega
  have hq := kd_b h.1 hj8
  have hA := BlW_A (S := S) (x := x) (R := R) hq (h.1.2.2.2.2.2 j hj)
  have hb := h.1.2.2.2.2.2 j hj
  rw [show (1 + 1 : Nat) = 2 from rfl] at hb
  have hok := ok.1.2.2.2.2 j hj
  have hal := x2_alike kd_one ok.1 h.1 hA
  rw [if_pos (by have := fal_le (cB A) hj; omega)] at hal
  have b1 := x1_bits hA hok.1 hok.2.2.1
  have b2 := x1_best hA hok.1
  have b3 := x1_bits hA hok.1 (bs_le (bG (cB A j)) (bN (cB A j)))
  have hc : i = 0 ∨ i = 1 ∨ i = 2 ∨ i = 3 ∨ i = 4 ∨ i = 5 ∨ i = 6 ∨ i = 7 ∨ i = 8 ∨ i = 9 ∨ i = 10 ∨ i = 11 := by omega
  rcases hc with rfl | rfl | rfl | rfl | rfl | rfl | rfl | rfl | rfl | rfl | rfl | rfl
  · rw [f_X6_propertyOf, if_pos (show oI 0 = 0 from rfl)]
    simp only [r_0 hq, hA.1, x4_size hA, Option.bind_some, reduceIte, if_true, if_false]
    rfl
  · rw [f_X6_propertyOf, if_neg (show ¬ oI 1 = 0 by decide), if_pos (show oI 1 = 1 from rfl)]
    simp only [r_0 hq, g_0_1 hq, hb.2.1, Option.bind_some, reduceIte, if_true, if_false]
    rfl
  · rw [f_X6_propertyOf, if_neg (show ¬ oI 2 = 0 by decide), if_neg (show ¬ oI 2 = 1 by decide), if_pos (show oI 2 = 2 from rfl)]
    simp only [r_0 hq, g_0_1 hq, hb.2.1, b1, Option.bind_some, reduceIte, if_true, if_false]
    rfl
  · rw [f_X6_propertyOf, if_neg (show ¬ oI 3 = 0 by decide), if_neg (show ¬ oI 3 = 1 by decide), if_neg (show ¬ oI 3 = 2 by decide), if_pos (show oI 3 = 3 from rfl)]
    simp only [r_0 hq, g_0_2 hq, hb.2.2.1, Option.bind_some, reduceIte, if_true, if_false]
    rfl
  · rw [f_X6_propertyOf, if_neg (show ¬ oI 4 = 0 by decide), if_neg (show ¬ oI 4 = 1 by decide), if_neg (show ¬ oI 4 = 2 by decide), if_neg (show ¬ oI 4 = 3 by decide), if_pos (show oI 4 = 4 from rfl)]
    simp only [r_0 hq, g_0_3 hq, hb.2.2.2 3 (by decide) (by decide), Option.bind_some, reduceIte, if_true, if_false]
    rfl
  · rw [f_X6_propertyOf, if_neg (show ¬ oI 5 = 0 by decide), if_neg (show ¬ oI 5 = 1 by decide), if_neg (show ¬ oI 5 = 2 by decide), if_neg (show ¬ oI 5 = 3 by decide), if_neg (show ¬ oI 5 = 4 by decide), if_pos (show oI 5 = 5 from rfl)]
    simp only [r_0 hq, g_0_4 hq, hb.2.2.2 4 (by decide) (by decide), Option.bind_some, reduceIte, if_true, if_false]
    rfl
  · rw [f_X6_propertyOf, if_neg (show ¬ oI 6 = 0 by decide), if_neg (show ¬ oI 6 = 1 by decide), if_neg (show ¬ oI 6 = 2 by decide), if_neg (show ¬ oI 6 = 3 by decide), if_neg (show ¬ oI 6 = 4 by decide), if_neg (show ¬ oI 6 = 5 by decide), if_pos (show oI 6 = 6 from rfl)]
    simp only [r_0 hq, g_0_5 hq, hb.2.2.2 5 (by decide) (by decide), Option.bind_some, reduceIte, if_true, if_false]
    rfl
  · rw [f_X6_propertyOf, if_neg (show ¬ oI 7 = 0 by decide), if_neg (show ¬ oI 7 = 1 by decide), if_neg (show ¬ oI 7 = 2 by decide), if_neg (show ¬ oI 7 = 3 by decide), if_neg (show ¬ oI 7 = 4 by decide), if_neg (show ¬ oI 7 = 5 by decide), if_neg (show ¬ oI 7 = 6 by decide), if_pos (show oI 7 = 7 from rfl)]
    simp only [r_0 hq, g_0_6 hq, hb.2.2.2 6 (by decide) (by decide), Option.bind_some, reduceIte, if_true, if_false]
    rfl
  · rw [f_X6_propertyOf, if_neg (show ¬ oI 8 = 0 by decide), if_neg (show ¬ oI 8 = 1 by decide), if_neg (show ¬ oI 8 = 2 by decide), if_neg (show ¬ oI 8 = 3 by decide), if_neg (show ¬ oI 8 = 4 by decide), if_neg (show ¬ oI 8 = 5 by decide), if_neg (show ¬ oI 8 = 6 by decide), if_neg (show ¬ oI 8 = 7 by decide), if_pos (show oI 8 = 8 from rfl)]
    simp only [r_0 hq, b2, Option.bind_some, reduceIte, if_true, if_false]
    rfl
  · rw [f_X6_propertyOf, if_neg (show ¬ oI 9 = 0 by decide), if_neg (show ¬ oI 9 = 1 by decide), if_neg (show ¬ oI 9 = 2 by decide), if_neg (show ¬ oI 9 = 3 by decide), if_neg (show ¬ oI 9 = 4 by decide), if_neg (show ¬ oI 9 = 5 by decide), if_neg (show ¬ oI 9 = 6 by decide), if_neg (show ¬ oI 9 = 7 by decide), if_neg (show ¬ oI 9 = 8 by decide), if_pos (show oI 9 = 9 from rfl)]
    simp only [r_0 hq, b2, b3, Option.bind_some, reduceIte, if_true, if_false]
    rfl
  · rw [f_X6_propertyOf, if_neg (show ¬ oI 10 = 0 by decide), if_neg (show ¬ oI 10 = 1 by decide), if_neg (show ¬ oI 10 = 2 by decide), if_neg (show ¬ oI 10 = 3 by decide), if_neg (show ¬ oI 10 = 4 by decide), if_neg (show ¬ oI 10 = 5 by decide), if_neg (show ¬ oI 10 = 6 by decide), if_neg (show ¬ oI 10 = 7 by decide), if_neg (show ¬ oI 10 = 8 by decide), if_neg (show ¬ oI 10 = 9 by decide), if_pos (show oI 10 = 10 from rfl)]
    simp only [r_0 hq, r_5_0, o_1 kd_one, hal, Option.bind_some, reduceIte, if_true, if_false]
    rfl
  · rw [f_X6_propertyOf, if_neg (show ¬ oI 11 = 0 by decide), if_neg (show ¬ oI 11 = 1 by decide), if_neg (show ¬ oI 11 = 2 by decide), if_neg (show ¬ oI 11 = 3 by decide), if_neg (show ¬ oI 11 = 4 by decide), if_neg (show ¬ oI 11 = 5 by decide), if_neg (show ¬ oI 11 = 6 by decide), if_neg (show ¬ oI 11 = 7 by decide), if_neg (show ¬ oI 11 = 8 by decide), if_neg (show ¬ oI 11 = 9 by decide), if_neg (show ¬ oI 11 = 10 by decide)]
    simp only [r_0 hq, g_0_7 hq, hb.2.2.2 7 (by decide) (by decide), Option.bind_some, reduceIte, if_true, if_false]
    rfl
def sumP (A : Cn) (i : Nat) : Nat → Int32
  | 0 => 0
  | m + 1 => sumP A i m + pr A m i
theorem x6_sum_L {S : St} {x : Nat} {W : Nat → Nat → Int32} {R : Nat → Nat → Nat} {A : Cn} {nh : Nat} {Hs : Nat → Cn} (h : ClsW W R A nh Hs) (ok : okS A nh Hs) {k : Nat} (hk : k ≤ 11) : ∀ (d fu i : Nat), i + d = cN A → d < fu → f_X6_sumOf_L4 (WS S x W R) x (oI k) fu (sumP A k i) (oI i) = some (sumP A k (cN A))
  | d, 0, i, e, hf => by omega
  | 0, fu + 1, i, e, hf => by
    have h8 := ok.1.1
    have : i = cN A := by omega
    subst this
    rw [f_X6_sumOf_L4]
    simp (disch := omega) only [r_5_0, o_1 kd_one, x2_size kd_one h.1, oI_le, Nat.le_refl, Option.bind_some, reduceIte, if_true, if_false]
  | d + 1, fu + 1, i, e, hf => by
    have h8 := ok.1.1
    have ih := x6_sum_L (S := S) (x := x) h ok hk d fu (i + 1) (by omega) (by omega)
    rw [f_X6_sumOf_L4]
    simp (disch := omega) only [r_5_0, o_1 kd_one, x2_size kd_one h.1, oI_le, show ¬ cN A ≤ i by omega, x2_at kd_one h.1 h8 (show i < cN A by omega), o_5, l1, oI_add, Option.bind_some, reduceIte, if_true, if_false]
    rw [x6_prop h ok (show i < cN A by omega) hk]
    exact ih
theorem x6_sum {S : St} {x : Nat} {W : Nat → Nat → Int32} {R : Nat → Nat → Nat} {A : Cn} {nh : Nat} {Hs : Nat → Cn} (h : ClsW W R A nh Hs) (ok : okS A nh Hs) {k : Nat} (hk : k ≤ 11) : f_X6_sumOf (WS S x W R) x (oI k) = some (sumP A k (cN A)) := by
  have h8 := ok.1.1
  have := x6_sum_L (S := S) (x := x) h ok hk (cN A) FU 0 (by omega) (FU_lt (by omega))
  simp only [sumP] at this
  rw [show (oI 0 : Int32) = 0 from rfl] at this
  simp only [f_X6_sumOf, this, Option.bind_some, reduceIte, if_true, if_false]
def ct (A : Cn) (nh i : Nat) : Int32 :=
  if i = 0 then oI (cN A) else if i = 1 then oI (cD A) else if i = 2 then sumP A 0 (cN A) else if i = 3 then sumP A 2 (cN A) else if i = 4 then sumP A 9 (cN A) else if i = 5 then sumP A 4 (cN A)
  else if i = 6 then sumP A 5 (cN A) else if i = 7 then sumP A 7 (cN A) else if i = 8 then oI (cdr A (cN A)) else if i = 9 then oI nh else oI (cwc A (i - 10) (cN A))
theorem x6_count {S : St} {x : Nat} {W : Nat → Nat → Int32} {R : Nat → Nat → Nat} {A : Cn} {nh : Nat} {Hs : Nat → Cn} (h : ClsW W R A nh Hs) (ok : okS A nh Hs) {i : Nat} (hi : i ≤ 15) : f_X6_countOf (WS S x W R) x (oI i) = some (ct A nh i) := by
  have s0 := x6_sum (S := S) (x := x) h ok (show 0 ≤ 11 by decide)
  have s2 := x6_sum (S := S) (x := x) h ok (show 2 ≤ 11 by decide)
  have s9 := x6_sum (S := S) (x := x) h ok (show 9 ≤ 11 by decide)
  have s4 := x6_sum (S := S) (x := x) h ok (show 4 ≤ 11 by decide)
  have s5 := x6_sum (S := S) (x := x) h ok (show 5 ≤ 11 by decide)
  have s7 := x6_sum (S := S) (x := x) h ok (show 7 ≤ 11 by decide)
  rw [show (oI 0 : Int32) = 0 from rfl] at s0
  rw [show (oI 2 : Int32) = 2 from rfl] at s2
  rw [show (oI 9 : Int32) = 9 from rfl] at s9
  rw [show (oI 4 : Int32) = 4 from rfl] at s4
  rw [show (oI 5 : Int32) = 5 from rfl] at s5
  rw [show (oI 7 : Int32) = 7 from rfl] at s7
  have hc : i = 0 ∨ i = 1 ∨ i = 2 ∨ i = 3 ∨ i = 4 ∨ i = 5 ∨ i = 6 ∨ i = 7 ∨ i = 8 ∨ i = 9 ∨ i = 10 ∨ i = 11 ∨ i = 12 ∨ i = 13 ∨ i = 14 ∨ i = 15 := by omega
  rcases hc with rfl | rfl | rfl | rfl | rfl | rfl | rfl | rfl | rfl | rfl | rfl | rfl | rfl | rfl | rfl | rfl
  · rw [f_X6_countOf, if_pos (show oI 0 = 0 from rfl)]
    simp only [r_5_0, o_1 kd_one, x2_size kd_one h.1, Option.bind_some, reduceIte, if_true, if_false]
    rfl
  · rw [f_X6_countOf, if_neg (show ¬ oI 1 = 0 by decide), if_pos (show oI 1 = 1 from rfl)]
    simp only [r_5_0, g_1_2 kd_one, h.1.2.2.1, Option.bind_some, reduceIte, if_true, if_false]
    rfl
  · rw [f_X6_countOf, if_neg (show ¬ oI 2 = 0 by decide), if_neg (show ¬ oI 2 = 1 by decide), if_pos (show oI 2 = 2 from rfl)]
    simp only [o_5, s0, Option.bind_some, reduceIte, if_true, if_false]
    rfl
  · rw [f_X6_countOf, if_neg (show ¬ oI 3 = 0 by decide), if_neg (show ¬ oI 3 = 1 by decide), if_neg (show ¬ oI 3 = 2 by decide), if_pos (show oI 3 = 3 from rfl)]
    simp only [o_5, s2, Option.bind_some, reduceIte, if_true, if_false]
    rfl
  · rw [f_X6_countOf, if_neg (show ¬ oI 4 = 0 by decide), if_neg (show ¬ oI 4 = 1 by decide), if_neg (show ¬ oI 4 = 2 by decide), if_neg (show ¬ oI 4 = 3 by decide), if_pos (show oI 4 = 4 from rfl)]
    simp only [o_5, s9, Option.bind_some, reduceIte, if_true, if_false]
    rfl
  · rw [f_X6_countOf, if_neg (show ¬ oI 5 = 0 by decide), if_neg (show ¬ oI 5 = 1 by decide), if_neg (show ¬ oI 5 = 2 by decide), if_neg (show ¬ oI 5 = 3 by decide), if_neg (show ¬ oI 5 = 4 by decide), if_pos (show oI 5 = 5 from rfl)]
    simp only [o_5, s4, Option.bind_some, reduceIte, if_true, if_false]
    rfl
  · rw [f_X6_countOf, if_neg (show ¬ oI 6 = 0 by decide), if_neg (show ¬ oI 6 = 1 by decide), if_neg (show ¬ oI 6 = 2 by decide), if_neg (show ¬ oI 6 = 3 by decide), if_neg (show ¬ oI 6 = 4 by decide), if_neg (show ¬ oI 6 = 5 by decide), if_pos (show oI 6 = 6 from rfl)]
    simp only [o_5, s5, Option.bind_some, reduceIte, if_true, if_false]
    rfl
  · rw [f_X6_countOf, if_neg (show ¬ oI 7 = 0 by decide), if_neg (show ¬ oI 7 = 1 by decide), if_neg (show ¬ oI 7 = 2 by decide), if_neg (show ¬ oI 7 = 3 by decide), if_neg (show ¬ oI 7 = 4 by decide), if_neg (show ¬ oI 7 = 5 by decide), if_neg (show ¬ oI 7 = 6 by decide), if_pos (show oI 7 = 7 from rfl)]
    simp only [o_5, s7, Option.bind_some, reduceIte, if_true, if_false]
    rfl
  · rw [f_X6_countOf, if_neg (show ¬ oI 8 = 0 by decide), if_neg (show ¬ oI 8 = 1 by decide), if_neg (show ¬ oI 8 = 2 by decide), if_neg (show ¬ oI 8 = 3 by decide), if_neg (show ¬ oI 8 = 4 by decide), if_neg (show ¬ oI 8 = 5 by decide), if_neg (show ¬ oI 8 = 6 by decide), if_neg (show ¬ oI 8 = 7 by decide), if_pos (show oI 8 = 8 from rfl)]
    simp only [r_5_0, o_1 kd_one, x2_rows kd_one ok.1 h.1, Option.bind_some, reduceIte, if_true, if_false]
    rfl
  · rw [f_X6_countOf, if_neg (show ¬ oI 9 = 0 by decide), if_neg (show ¬ oI 9 = 1 by decide), if_neg (show ¬ oI 9 = 2 by decide), if_neg (show ¬ oI 9 = 3 by decide), if_neg (show ¬ oI 9 = 4 by decide), if_neg (show ¬ oI 9 = 5 by decide), if_neg (show ¬ oI 9 = 6 by decide), if_neg (show ¬ oI 9 = 7 by decide), if_neg (show ¬ oI 9 = 8 by decide), if_pos (show oI 9 = 9 from rfl)]
    simp only [r_5_1, o_2 kd_27, f_X3_size, g_2_1 kd_27, h.2.2.2.1, Option.bind_some, reduceIte, if_true, if_false]
    rfl
  · rw [f_X6_countOf, if_neg (show ¬ oI 10 = 0 by decide), if_neg (show ¬ oI 10 = 1 by decide), if_neg (show ¬ oI 10 = 2 by decide), if_neg (show ¬ oI 10 = 3 by decide), if_neg (show ¬ oI 10 = 4 by decide), if_neg (show ¬ oI 10 = 5 by decide), if_neg (show ¬ oI 10 = 6 by decide), if_neg (show ¬ oI 10 = 7 by decide), if_neg (show ¬ oI 10 = 8 by decide), if_neg (show ¬ oI 10 = 9 by decide)]
    have hc := x2_code (S := S) (x := x) (c := 0) kd_one ok.1 h.1 (by omega)
    rw [show (oI 10 - 10 : Int32) = oI 0 by decide]
    simp only [r_5_0, o_1 kd_one, hc, Option.bind_some, reduceIte, if_true, if_false]
    rfl
  · rw [f_X6_countOf, if_neg (show ¬ oI 11 = 0 by decide), if_neg (show ¬ oI 11 = 1 by decide), if_neg (show ¬ oI 11 = 2 by decide), if_neg (show ¬ oI 11 = 3 by decide), if_neg (show ¬ oI 11 = 4 by decide), if_neg (show ¬ oI 11 = 5 by decide), if_neg (show ¬ oI 11 = 6 by decide), if_neg (show ¬ oI 11 = 7 by decide), if_neg (show ¬ oI 11 = 8 by decide), if_neg (show ¬ oI 11 = 9 by decide)]
    have hc := x2_code (S := S) (x := x) (c := 1) kd_one ok.1 h.1 (by omega)
    rw [show (oI 11 - 10 : Int32) = oI 1 by decide]
    simp only [r_5_0, o_1 kd_one, hc, Option.bind_some, reduceIte, if_true, if_false]
    rfl
  · rw [f_X6_countOf, if_neg (show ¬ oI 12 = 0 by decide), if_neg (show ¬ oI 12 = 1 by decide), if_neg (show ¬ oI 12 = 2 by decide), if_neg (show ¬ oI 12 = 3 by decide), if_neg (show ¬ oI 12 = 4 by decide), if_neg (show ¬ oI 12 = 5 by decide), if_neg (show ¬ oI 12 = 6 by decide), if_neg (show ¬ oI 12 = 7 by decide), if_neg (show ¬ oI 12 = 8 by decide), if_neg (show ¬ oI 12 = 9 by decide)]
    have hc := x2_code (S := S) (x := x) (c := 2) kd_one ok.1 h.1 (by omega)
    rw [show (oI 12 - 10 : Int32) = oI 2 by decide]
    simp only [r_5_0, o_1 kd_one, hc, Option.bind_some, reduceIte, if_true, if_false]
    rfl
  · rw [f_X6_countOf, if_neg (show ¬ oI 13 = 0 by decide), if_neg (show ¬ oI 13 = 1 by decide), if_neg (show ¬ oI 13 = 2 by decide), if_neg (show ¬ oI 13 = 3 by decide), if_neg (show ¬ oI 13 = 4 by decide), if_neg (show ¬ oI 13 = 5 by decide), if_neg (show ¬ oI 13 = 6 by decide), if_neg (show ¬ oI 13 = 7 by decide), if_neg (show ¬ oI 13 = 8 by decide), if_neg (show ¬ oI 13 = 9 by decide)]
    have hc := x2_code (S := S) (x := x) (c := 3) kd_one ok.1 h.1 (by omega)
    rw [show (oI 13 - 10 : Int32) = oI 3 by decide]
    simp only [r_5_0, o_1 kd_one, hc, Option.bind_some, reduceIte, if_true, if_false]
    rfl
  · rw [f_X6_countOf, if_neg (show ¬ oI 14 = 0 by decide), if_neg (show ¬ oI 14 = 1 by decide), if_neg (show ¬ oI 14 = 2 by decide), if_neg (show ¬ oI 14 = 3 by decide), if_neg (show ¬ oI 14 = 4 by decide), if_neg (show ¬ oI 14 = 5 by decide), if_neg (show ¬ oI 14 = 6 by decide), if_neg (show ¬ oI 14 = 7 by decide), if_neg (show ¬ oI 14 = 8 by decide), if_neg (show ¬ oI 14 = 9 by decide)]
    have hc := x2_code (S := S) (x := x) (c := 4) kd_one ok.1 h.1 (by omega)
    rw [show (oI 14 - 10 : Int32) = oI 4 by decide]
    simp only [r_5_0, o_1 kd_one, hc, Option.bind_some, reduceIte, if_true, if_false]
    rfl
  · rw [f_X6_countOf, if_neg (show ¬ oI 15 = 0 by decide), if_neg (show ¬ oI 15 = 1 by decide), if_neg (show ¬ oI 15 = 2 by decide), if_neg (show ¬ oI 15 = 3 by decide), if_neg (show ¬ oI 15 = 4 by decide), if_neg (show ¬ oI 15 = 5 by decide), if_neg (show ¬ oI 15 = 6 by decide), if_neg (show ¬ oI 15 = 7 by decide), if_neg (show ¬ oI 15 = 8 by decide), if_neg (show ¬ oI 15 = 9 by decide)]
    have hc := x2_code (S := S) (x := x) (c := 5) kd_one ok.1 h.1 (by omega)
    rw [show (oI 15 - 10 : Int32) = oI 5 by decide]
    simp only [r_5_0, o_1 kd_one, hc, Option.bind_some, reduceIte, if_true, if_false]
    rfl
def regB (A : Cn) (b : Bk) (k : Nat) : Int32 := exB b * oI (min (max 1 (dl (bV b) (cD A) (cY A))) k)
def gainB (A : Cn) (b : Bk) : Int32 := exB b * oI (min (dl (bV b) (cD A) (cY A)) 200) - fineB A b
theorem x6_regret {S : St} {x : Nat} {W : Nat → Nat → Int32} {R : Nat → Nat → Nat} {A : Cn} {nh : Nat} {Hs : Nat → Cn} (h : ClsW W R A nh Hs) (ok : okS A nh Hs) {j k : Nat} (hj : j < cN A) (hk : k ≤ 200) : f_X6_regretOf (WS S x W R) x (x + R 2 j) (oI k) = some (regB A (cB A j) k) := by
  have h8 := ok.1.1
  have hj8 : j < 8 := by omega
  have hq := kd_b h.1 hj8
  have hA := BlW_A (S := S) (x := x) (R := R) hq (h.1.2.2.2.2.2 j hj)
  have hb := h.1.2.2.2.2.2 j hj
  rw [show (1 + 1 : Nat) = 2 from rfl] at hb
  have hok := ok.1.2.2.2.2 j hj
  have hdl := dl_le (day := cD A) hok.2.2.2.1 ok.1.2.2.1
  simp (disch := omega) only [f_X6_regretOf, r_5_0, g_1_2 kd_one, g_1_3 kd_one, h.1.2.2.1, h.1.2.2.2.1, o_0 hq, x0_days hq hb hok ok.1.2.1 ok.1.2.2.1, x0_excess hq hb hok, l1, oI_lt, Option.bind_some, reduceIte, if_true, if_false, regB]
  by_cases c1 : 1 < dl (bV (cB A j)) (cD A) (cY A)
  · rw [if_pos c1, Nat.max_eq_right (by omega)]
    simp (disch := omega) only [oI_lt]
    by_cases c2 : dl (bV (cB A j)) (cD A) (cY A) < k
    · rw [if_pos c2, Nat.min_eq_left (by omega)]
    · rw [if_neg c2, Nat.min_eq_right (by omega)]
  · rw [if_neg c1, Nat.max_eq_left (by omega)]
    simp (disch := omega) only [oI_lt]
    by_cases c2 : 1 < k
    · rw [if_pos c2, Nat.min_eq_left (by omega)]
    · rw [if_neg c2, Nat.min_eq_right (by omega)]
theorem x6_gain {S : St} {x : Nat} {W : Nat → Nat → Int32} {R : Nat → Nat → Nat} {A : Cn} {nh : Nat} {Hs : Nat → Cn} (h : ClsW W R A nh Hs) (ok : okS A nh Hs) {j : Nat} (hj : j < cN A) : f_X6_gainOf (WS S x W R) x (x + R 2 j) = some (gainB A (cB A j)) := by
  have h8 := ok.1.1
  have hj8 : j < 8 := by omega
  have hq := kd_b h.1 hj8
  have hA := BlW_A (S := S) (x := x) (R := R) hq (h.1.2.2.2.2.2 j hj)
  have hb := h.1.2.2.2.2.2 j hj
  rw [show (1 + 1 : Nat) = 2 from rfl] at hb
  have hok := ok.1.2.2.2.2 j hj
  have hdl := dl_le (day := cD A) hok.2.2.2.1 ok.1.2.2.1
  have hf := x6_fine (S := S) (x := x) h ok hj
  simp (disch := omega) only [f_X6_gainOf, r_5_0, g_1_2 kd_one, g_1_3 kd_one, h.1.2.2.1, h.1.2.2.2.1, o_0 hq, x0_days hq hb hok ok.1.2.1 ok.1.2.2.1, x0_excess hq hb hok, o_5, hf, show (200 : Int32) = oI 200 from rfl, oI_lt, Option.bind_some, reduceIte, if_true, if_false, gainB]
  by_cases c2 : 200 < dl (bV (cB A j)) (cD A) (cY A)
  · rw [if_pos c2, Nat.min_eq_right (by omega)]
  · rw [if_neg c2, Nat.min_eq_left (by omega)]
/-- bits of b by its code with w laid at p -/
def chC (b : Bk) (p w : Nat) : Nat := bt (fun i => if i = p then w else bG b i) (bN b) (bC b)
def chF (b : Bk) (p : Nat) : Nat → Nat
  | 0 => 0
  | m + 1 => if chC b p (m + 1) < chC b p (chF b p m) then m + 1 else chF b p m
theorem chF_le (b : Bk) (p : Nat) : ∀ m, chF b p m ≤ m
  | 0 => Nat.le_refl 0
  | m + 1 => by have := chF_le b p m; simp only [chF]; split <;> omega
theorem x6_cheap_L {S : St} {x : Nat} {R : Nat → Nat → Nat} {A : Cn} {nh : Nat} {Hs : Nat → Cn} (ok : okS A nh Hs) {j p : Nat} (hj : j < cN A) (hp : p < bN (cB A j)) : ∀ (d fu i : Nat) (W : Nat → Nat → Int32) (g : Nat → Nat), i + d = 255 → d + 1 < fu → ClsW W R A nh Hs → RwW W 187 (bN (cB A j)) g → (∀ k, k ≠ p → g k = bG (cB A j) k) →
    ∃ W', f_X6_cheapestValue_L38 x (x + R 2 j) (oI p) fu (WS S x W R) (oI (chF (cB A j) p i)) (oI (chC (cB A j) p (chF (cB A j) p i))) (oI (i + 1)) = some (oI (chF (cB A j) p 255), WS S x W' R) ∧ Fr2 W W' 187
  | d, 0, i, W, g, e, hf, h, hw, hg => by omega
  | 0, fu + 1, i, W, g, e, hf, h, hw, hg => by
    have : i = 255 := by omega
    subst this
    refine ⟨W, ?_, Fr2_refl W 187⟩
    rw [f_X6_cheapestValue_L38]
    simp (disch := omega) only [l255, oI_lt, show 255 < 255 + 1 by omega, Option.bind_some, reduceIte, if_true, if_false]
  | d + 1, fu + 1, i, W, g, e, hf, h, hw, hg => by
    have h8 := ok.1.1
    have hj8 : j < 8 := by omega
    have hq := kd_b h.1 hj8
    have hA := BlW_A (S := S) (x := x) (R := R) hq (h.1.2.2.2.2.2 j hj)
    have hok := ok.1.2.2.2.2 j hj
    have hw1 := RwW_v (p := p) hw (show i + 1 ≤ 255 by omega)
    have f1 : Fr2 W (up2 W (187 + 1) p (oI (i + 1))) 187 := Fr2_v W 187 p (oI (i + 1))
    have h1 := cls_fr h ok (W' := up2 W (187 + 1) p (oI (i + 1))) (fun o ho => f1 o (by omega) (by omega))
    obtain ⟨W', e1, e2⟩ := x6_cheap_L (S := S) (x := x) (R := R) ok hj hp d fu (i + 1) _ _ (by omega) (by omega) h1 hw1 (fun k hk => by rw [if_neg hk]; exact hg k hk)
    refine ⟨W', ?_, Fr2_trans f1 e2⟩
    have hb1 := h1.1.2.2.2.2.2 j hj
    rw [show (1 + 1 : Nat) = 2 from rfl] at hb1
    have eb := x1_bits (RwW_at (S := S) (x := x) (R := R) kd_187 hw1) hok.1 hok.2.2.1
    rw [bt_congr (k := fun k => if k = p then i + 1 else bG (cB A j) k) _ _ (fun k hk => by
      by_cases c : k = p
      · rw [if_pos c, if_pos c]
      · rw [if_neg c, if_neg c]; exact hg k c)] at eb
    rw [show bt (fun k => if k = p then i + 1 else bG (cB A j) k) (bN (cB A j)) (bC (cB A j)) = chC (cB A j) p (i + 1) from rfl] at eb
    have c1 : chC (cB A j) p (i + 1) ≤ 20 * bN (cB A j) + 20 := bt_le _ _ _
    have c2 : chC (cB A j) p (chF (cB A j) p i) ≤ 20 * bN (cB A j) + 20 := bt_le _ _ _
    have h24 := hok.2.1
    rw [f_X6_cheapestValue_L38]
    simp (disch := omega) only [l255, oI_lt, show ¬ 255 < i + 1 by omega, r_5_3, o_3 kd_187, x4_replace kd_187 hw hp, g_0_1 hq, hb1.2.1, eb, oI_le, l1, oI_add, Option.bind_some, reduceIte, if_true, if_false]
    rw [chF] at e1
    by_cases c : chC (cB A j) p (i + 1) < chC (cB A j) p (chF (cB A j) p i)
    · simp only [c, show ¬ chC (cB A j) p (chF (cB A j) p i) ≤ chC (cB A j) p (i + 1) by omega, Option.bind_some, reduceIte, if_true, if_false] at e1 ⊢
      exact e1
    · simp only [c, show chC (cB A j) p (chF (cB A j) p i) ≤ chC (cB A j) p (i + 1) by omega, Option.bind_some, reduceIte, if_true, if_false] at e1 ⊢
      exact e1
theorem x6_cheap {S : St} {x : Nat} {W : Nat → Nat → Int32} {R : Nat → Nat → Nat} {A : Cn} {nh : Nat} {Hs : Nat → Cn} (h : ClsW W R A nh Hs) (ok : okS A nh Hs) {j p : Nat} (hj : j < cN A) (hp : p < bN (cB A j)) :
    ∃ W', f_X6_cheapestValue (WS S x W R) x (x + R 2 j) (oI p) = some (oI (chF (cB A j) p 255), WS S x W' R) ∧ ClsW W' R A nh Hs ∧ FrT W W' := by
  have h8 := ok.1.1
  have hj8 : j < 8 := by omega
  have hq := kd_b h.1 hj8
  have hA := BlW_A (S := S) (x := x) (R := R) hq (h.1.2.2.2.2.2 j hj)
  have hok := ok.1.2.2.2.2 j hj
  have hb := h.1.2.2.2.2.2 j hj
  rw [show (1 + 1 : Nat) = 2 from rfl] at hb
  have hs : 1 + 2 ≤ R 2 j ∧ R 2 j + 2 < 1 + 26 := slot_in (p := 1) h.1.1 hj8
  obtain ⟨W1, p1, p2, p3⟩ := x4_copy (S := S) (x := x) (R := R) kd_187 (kd0 hq).1 (by omega) (by omega) (by omega) hb.1
  have hw1 := RwW_v (p := p) p2 (show 0 ≤ 255 by omega)
  have f1 : Fr2 W (up2 W1 (187 + 1) p (oI 0)) 187 := Fr2_trans p3 (Fr2_v W1 187 p (oI 0))
  have h1 := cls_fr h ok (W' := up2 W1 (187 + 1) p (oI 0)) (fun o ho => f1 o (by omega) (by omega))
  obtain ⟨W', e1, e2⟩ := x6_cheap_L (S := S) (x := x) (R := R) ok hj hp 255 FU 0 _ _ (by omega) (FU_lt (by omega)) h1 hw1 (fun k hk => by rw [if_neg hk])
  have f2 := Fr2_trans f1 e2
  refine ⟨W', ?_, cls_fr h ok (fun o ho => f2 o (by omega) (by omega)), FrT_r f2⟩
  have hb1 := h1.1.2.2.2.2.2 j hj
  rw [show (1 + 1 : Nat) = 2 from rfl] at hb1
  have eb := x1_bits (RwW_at (S := S) (x := x) (R := R) kd_187 hw1) hok.1 hok.2.2.1
  rw [show bt (fun k => if k = p then 0 else bG (cB A j) k) (bN (cB A j)) (bC (cB A j)) = chC (cB A j) p 0 from rfl] at eb
  rw [show chF (cB A j) p 0 = 0 from rfl, Nat.zero_add] at e1
  simp only [f_X6_cheapestValue, r_5_3, r_0 hq, o_3 kd_187, p1, l0, x4_replace kd_187 p2 hp, g_0_1 hq, hb1.2.1, eb, l1, e1, Option.bind_some, reduceIte, if_true, if_false]
/-- the two rows one after another -/
def jg (a b : Bk) : Nat → Nat := fun t => if t < bN a then bG a t else bG b (0 + (t - bN a))
def mt (A : Cn) (j : Nat) : Nat → Int32 × Int32
  | 0 => (-1, 0)
  | m + 1 => if m = j ∨ 24 < bN (cB A j) + bN (cB A m) then mt A j m else
      if (mt A j m).1 = -1 then (oI m, oI (bt (jg (cB A j) (cB A m)) (bN (cB A j) + bN (cB A m)) (bC (cB A j))))
      else if (mt A j m).2 ≤ oI (bt (jg (cB A j) (cB A m)) (bN (cB A j) + bN (cB A m)) (bC (cB A j))) then mt A j m else (oI m, oI (bt (jg (cB A j) (cB A m)) (bN (cB A j) + bN (cB A m)) (bC (cB A j))))
theorem x6_mate_L {S : St} {x : Nat} {R : Nat → Nat → Nat} {A : Cn} {nh : Nat} {Hs : Nat → Cn} (ok : okS A nh Hs) {j : Nat} (hj : j < cN A) : ∀ (d fu i : Nat) (W : Nat → Nat → Int32), i + d = cN A → d < fu → ClsW W R A nh Hs →
    ∃ W', f_X6_mateOf_L7 x (x + R 2 j) fu (WS S x W R) (mt A j i).1 (mt A j i).2 (oI i) = some ((mt A j (cN A)).1, WS S x W' R) ∧ Fr2 W W' 187
  | d, 0, i, W, e, hf, h => by omega
  | 0, fu + 1, i, W, e, hf, h => by
    have h8 := ok.1.1
    have : i = cN A := by omega
    subst this
    refine ⟨W, ?_, Fr2_refl W 187⟩
    rw [f_X6_mateOf_L7]
    simp (disch := omega) only [r_5_0, o_1 kd_one, x2_size kd_one h.1, oI_le, Nat.le_refl, Option.bind_some, reduceIte, if_true, if_false]
  | d + 1, fu + 1, i, W, e, hf, h => by
    have h8 := ok.1.1
    have hj8 : j < 8 := by omega
    have hq := kd_b h.1 hj8
    have hA := BlW_A (S := S) (x := x) (R := R) hq (h.1.2.2.2.2.2 j hj)
    have hi : i < cN A := by omega
    have hi8 : i < 8 := by omega
    have kq := kd_b h.1 hi8
    have hok := ok.1.2.2.2.2 j hj
    have kok := ok.1.2.2.2.2 i hi
    have hb := h.1.2.2.2.2.2 j hj
    have kb := h.1.2.2.2.2.2 i hi
    rw [show (1 + 1 : Nat) = 2 from rfl] at hb kb
    have kA := BlW_A (S := S) (x := x) (R := R) kq kb
    have hs : 1 + 2 ≤ R 2 j ∧ R 2 j + 2 < 1 + 26 := slot_in (p := 1) h.1.1 hj8
    have ks : 1 + 2 ≤ R 2 i ∧ R 2 i + 2 < 1 + 26 := slot_in (p := 1) h.1.1 hi8
    have hne : (x + R 2 i = x + R 2 j) = (i = j) := propext ⟨fun e => h.1.1.2 i j hi8 hj8 (by show R 2 i = R 2 j; omega), fun e => by rw [e]⟩
    rw [f_X6_mateOf_L7]
    simp (disch := omega) only [r_5_0, o_1 kd_one, x2_size kd_one h.1, oI_le, show ¬ cN A ≤ i by omega, x2_at kd_one h.1 h8 hi, l1, oI_add, Option.bind_some, reduceIte, if_true, if_false]
    rw [show R (1 + 1) i = R 2 i from rfl]
    simp only [hne]
    by_cases c : i = j
    · have em : mt A j (i + 1) = mt A j i := by rw [mt, if_pos (.inl c)]
      obtain ⟨W', e1, e2⟩ := x6_mate_L (S := S) (x := x) (R := R) ok hj d fu (i + 1) W (by omega) (by omega) h
      rw [em] at e1
      refine ⟨W', ?_, e2⟩
      simp only [c, Option.bind_some, reduceIte, if_true, if_false] at e1 ⊢
      exact e1
    · have hr := x4_room hA (show bN (cB A i) < 2147483648 by have := kok.2.1; omega)
      by_cases c24 : 24 < bN (cB A j) + bN (cB A i)
      · have em : mt A j (i + 1) = mt A j i := by rw [mt, if_pos (.inr c24)]
        obtain ⟨W', e1, e2⟩ := x6_mate_L (S := S) (x := x) (R := R) ok hj d fu (i + 1) W (by omega) (by omega) h
        rw [em] at e1
        refine ⟨W', ?_, e2⟩
        rw [if_pos c24] at hr
        simp only [c, r_0 hq, r_0 kq, kA.1, hA.1, x4_size kA, hr, Option.bind_some, reduceIte, if_true, if_false] at e1 ⊢
        exact e1
      · rw [if_neg c24] at hr
        obtain ⟨W1, p1, p2, p3⟩ := x4_copy (S := S) (x := x) (R := R) kd_187 (kd0 hq).1 (by omega) (by omega) (by omega) hb.1
        have kb1 : RwW W1 (R 2 i + 1) (bN (cB A i)) (bG (cB A i)) := RwW_fr kb.1 (p3 _ (by omega) (by omega)) (p3 _ (by omega) (by omega))
        obtain ⟨W2, s1, s2, s3⟩ := x4_tail (S := S) (x := x) (R := R) (p := 0) kd_187 (kd0 kq).1 (by omega) (by omega) (by omega) p2 kb1 (by omega) (by omega)
        rw [Nat.sub_zero] at s2
        have f2 := Fr2_trans p3 s3
        have h2 := cls_fr h ok (W' := W2) (fun o ho => f2 o (by omega) (by omega))
        obtain ⟨W', e1, e2⟩ := x6_mate_L (S := S) (x := x) (R := R) ok hj d fu (i + 1) W2 (by omega) (by omega) h2
        have eb : f_X1_bits (WS S x W2 R) (x + 187) (oI (bC (cB A j))) = some (oI (bt (jg (cB A j) (cB A i)) (bN (cB A j) + bN (cB A i)) (bC (cB A j)))) := x1_bits (RwW_at (S := S) (x := x) (R := R) kd_187 s2) (by have := hok.1; omega) hok.2.2.1
        have eC : W2 (R 2 j) 1 = oI (bC (cB A j)) := by rw [f2 _ (by omega) (by omega)]; exact hb.2.1
        have em : mt A j (i + 1) = if (mt A j i).1 = -1 then (oI i, oI (bt (jg (cB A j) (cB A i)) (bN (cB A j) + bN (cB A i)) (bC (cB A j)))) else if (mt A j i).2 ≤ oI (bt (jg (cB A j) (cB A i)) (bN (cB A j) + bN (cB A i)) (bC (cB A j))) then mt A j i else (oI i, oI (bt (jg (cB A j) (cB A i)) (bN (cB A j) + bN (cB A i)) (bC (cB A j)))) := by
          rw [mt, if_neg (by omega)]
        refine ⟨W', ?_, Fr2_trans f2 e2⟩
        rw [← l0] at s1
        simp only [c, r_0 hq, r_0 kq, kA.1, hA.1, x4_size kA, hr, show ¬ (1 : Int32) = 0 by decide, show ¬ oI 1 = 0 by decide, r_5_3, o_3 kd_187, p1, s1, g_0_1 hq, eC, eb, Option.bind_some, reduceIte, if_true, if_false]
        rw [em] at e1
        by_cases d1 : (mt A j i).1 = -1
        · have d1' : (mt A j i).1 = -oI 1 := d1
          simp only [d1, d1', Option.bind_some, reduceIte, if_true, if_false] at e1 ⊢
          exact e1
        · have d1' : ¬ (mt A j i).1 = -oI 1 := d1
          by_cases d2 : (mt A j i).2 ≤ oI (bt (jg (cB A j) (cB A i)) (bN (cB A j) + bN (cB A i)) (bC (cB A j)))
          · simp only [d1, d1', d2, Option.bind_some, reduceIte, if_true, if_false] at e1 ⊢
            exact e1
          · simp only [d1, d1', d2, Option.bind_some, reduceIte, if_true, if_false] at e1 ⊢
            exact e1
theorem x6_mate {S : St} {x : Nat} {W : Nat → Nat → Int32} {R : Nat → Nat → Nat} {A : Cn} {nh : Nat} {Hs : Nat → Cn} (h : ClsW W R A nh Hs) (ok : okS A nh Hs) {j : Nat} (hj : j < cN A) :
    ∃ W', f_X6_mateOf (WS S x W R) x (x + R 2 j) = some ((mt A j (cN A)).1, WS S x W' R) ∧ ClsW W' R A nh Hs ∧ FrT W W' := by
  have h8 := ok.1.1
  obtain ⟨W', e1, e2⟩ := x6_mate_L (S := S) (x := x) (R := R) ok hj (cN A) FU 0 W (by omega) (FU_lt (by omega)) h
  refine ⟨W', ?_, cls_fr h ok (fun o ho => e2 o (by omega) (by omega)), FrT_r e2⟩
  rw [show (oI 0 : Int32) = 0 from rfl] at e1
  simp only [mt] at e1
  simp only [f_X6_mateOf, e1, Option.bind_some, reduceIte, if_true, if_false]
