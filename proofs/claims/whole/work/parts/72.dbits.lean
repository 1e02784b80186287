/-! DOUBLES: the class's doubleBits is doubleToLongBits, for a mean from 2 to the -2 to 2 to the 8 -/
abbrev oL (n : Nat) : Int64 := Int64.ofNat n
theorem oL_add (a b : Nat) : oL a + oL b = oL (a + b) := (Int64.ofNat_add a b).symm
theorem oL_pred (a : Nat) : oL (a + 1) - 1 = oL a := by
  rw [← oL_add]
  exact Int64.add_sub_cancel _ _
theorem cv_lt {o : Option Ordering} (h : o = some .lt) (w : CmpOp) : Op.cmpValue o w = -1 := by rw [h]; rfl
theorem cv_gt {o : Option Ordering} (h : o = some .gt) (w : CmpOp) : Op.cmpValue o w = 1 := by rw [h]; rfl
theorem cv_eq {o : Option Ordering} (h : o = some .eq) (w : CmpOp) : Op.cmpValue o w = 0 := by rw [h]; rfl
theorem cv_ge {o : Option Ordering} (h : o = some .gt ∨ o = some .eq) (w : CmpOp) : 0 ≤ Op.cmpValue o w := by
  rcases h with h | h
  · rw [cv_gt h]; decide
  · rw [cv_eq h]; decide
theorem not_lt0 {v : Int32} (h : 0 ≤ v) : ¬ v < 0 := Int32.not_lt.mpr h
theorem db_L18 {k : Nat} (hk : k < 4503599627370496) : ∀ (d fu i e : Nat), d < fu → d + i ≤ 100 → f_X6_doubleBits_L18 fu (dB (1023 + d) k) (oL e) (oI i) = some (dB 1023 k, oL (e + d))
  | d, 0, i, e, hf, hi => by omega
  | 0, fu + 1, i, e, hf, hi => by
    rw [f_X6_doubleBits_L18, show (1023 : Int32) = oI 1023 from rfl]
    simp (disch := omega) only [oI_le, show ¬ 1023 ≤ i by omega, if_false]
    rw [two_dB, cv_lt (dB_lt (by omega) (by omega) hk (by omega) (by omega) (by omega) (by omega)), if_pos (by decide)]
    rfl
  | d + 1, fu + 1, i, e, hf, hi => by
    have ih := db_L18 hk d fu (i + 1) (e + 1) (by omega) (by omega)
    have hh := dB_half (E := 1023 + (d + 1)) (k := k) (by omega) (by omega) hk
    rw [f_X6_doubleBits_L18, show (1023 : Int32) = oI 1023 from rfl]
    simp (disch := omega) only [oI_le, show ¬ 1023 ≤ i by omega, if_false]
    rw [hh, nn_dB (by omega) hk]
    have hc := cv_ge (dB_ge (E := 1023 + (d + 1)) (k := k) (E' := 1024) (by omega) (by omega) hk (by omega) (by omega) (by omega)) .l
    rw [← two_dB] at hc
    rw [if_neg (not_lt0 hc), Option.bind_some, show (1 : Int64) = oL 1 from rfl, oL_add, l1, oI_add, show 1023 + (d + 1) - 1 = 1023 + d by omega, ih, show e + 1 + d = e + (d + 1) by omega]
theorem db_L18_no {E k : Nat} (hk : k < 4503599627370496) (h1 : 1 ≤ E) (hE : E ≤ 1023) (fu e : Nat) : f_X6_doubleBits_L18 (fu + 1) (dB E k) (oL e) (oI 0) = some (dB E k, oL e) := by
  rw [f_X6_doubleBits_L18, show (1023 : Int32) = oI 1023 from rfl]
  simp (disch := omega) only [oI_le, show ¬ 1023 ≤ 0 by omega, if_false]
  rw [two_dB, cv_lt (dB_lt (by omega) (by omega) hk (by omega) (by omega) (by omega) (by omega)), if_pos (by decide)]
theorem db_L55 {k : Nat} (hk : k < 4503599627370496) : ∀ (d fu i e : Nat), d < fu → d + i ≤ 100 → d ≤ 100 → f_X6_doubleBits_L55 fu (dB (1023 - d) k) (oL (e + d)) (oI i) = some (dB 1023 k, oL e)
  | d, 0, i, e, hf, hi, hd => by omega
  | 0, fu + 1, i, e, hf, hi, hd => by
    rw [f_X6_doubleBits_L55, show (1022 : Int32) = oI 1022 from rfl]
    simp (disch := omega) only [oI_le, show ¬ 1022 ≤ i by omega, if_false]
    have hc := cv_ge (dB_ge (E := 1023 - 0) (k := k) (E' := 1023) (by omega) (by omega) hk (by omega) (by omega) (by omega)) .g
    rw [← one_dB] at hc
    rw [if_pos hc]
    rfl
  | d + 1, fu + 1, i, e, hf, hi, hd => by
    have ih := db_L55 hk d fu (i + 1) e (by omega) (by omega) (by omega)
    have hh := dB_dbl (E := 1023 - (d + 1)) (k := k) (by omega) (by omega) hk
    rw [f_X6_doubleBits_L55, show (1022 : Int32) = oI 1022 from rfl]
    simp (disch := omega) only [oI_le, show ¬ 1022 ≤ i by omega, if_false]
    rw [hh, nn_dB (by omega) hk, one_dB, cv_lt (dB_lt (by omega) (by omega) hk (by omega) (by omega) (by omega) (by omega)), if_neg (by decide), Option.bind_some, show e + (d + 1) = (e + d) + 1 by omega, oL_pred, l1, oI_add, show 1023 - (d + 1) + 1 = 1023 - d by omega, ih]
theorem sh52 : ∀ E, E < 1100 → (oL E) <<< ((52 : Int32).toInt64 &&& 63) = oL (E * 4503599627370496) := by decide +kernel
/-- the fraction, as a double, and its digits, as a long -/
theorem fr_part {k : Nat} (hk : k < 4503599627370496) : nn (FP.dsub (dB 1023 k) FP.dconst1) = some () ∧ nn (FP.dmul (FP.dsub (dB 1023 k) FP.dconst1) 4841369599423283200) = some () ∧ FP.d2l (FP.dmul (FP.dsub (dB 1023 k) FP.dconst1) 4841369599423283200) = oL k := by
  have hs : FP.dsub (dB 1023 k) FP.dconst1 = UInt64.ofNat (FP.Core.encode FP.Core.b64 (FP.Core.roundRatio FP.Core.b64 false k 1 (-52))) := by
    show UInt64.ofNat (FP.Core.encode FP.Core.b64 (FP.Core.round FP.Core.b64 (FP.Core.exactSum (FP.Core.decode FP.Core.b64 (dB 1023 k).toNat) (FP.Core.negate (FP.Core.decode FP.Core.b64 (FP.dconst1 : UInt64).toNat))))) = _
    rw [dB_val (by omega) (by omega) hk, one_val]
    have hv : FP.Core.sumUnits false (4503599627370496 + k) (((1023 : Nat) : Int) - 1075) true 4503599627370496 (-52) (-52) = (k : Int) := by
      unfold FP.Core.sumUnits FP.Core.signed FP.Core.inUnits
      rw [show (((1023 : Nat) : Int) - 1075 - -52).toNat = 0 by decide, show ((-52 : Int) - -52).toNat = 0 by decide]
      simp only [Nat.pow_zero, Nat.mul_one]
      rw [if_neg (by decide)]
      simp only [if_true]
      omega
    have he : FP.Core.exactSum (.fin false (4503599627370496 + k) (((1023 : Nat) : Int) - 1075)) (FP.Core.negate (.fin false 4503599627370496 (-52))) = .fin false k (-52) := by
      unfold FP.Core.negate FP.Core.exactSum
      dsimp only
      rw [show min (((1023 : Nat) : Int) - 1075) (-52) = -52 by decide, show (!false) = true from rfl, hv]
      unfold FP.Core.sumSign
      have : (if (k : Int) = 0 then (false && true) else decide ((k : Int) < 0)) = false := by
        split
        · rfl
        · simp
      rw [this]
      rfl
    rw [he]
    rfl
  by_cases h0 : k = 0
  · subst h0
    rw [hs]
    decide +kernel
  · obtain ⟨L, hL⟩ : ∃ L, L = k.log2 := ⟨_, rfl⟩
    have l1' : 2 ^ L ≤ k := by rw [hL]; exact Nat.log2_self_le h0
    have l2' : k < 2 ^ (L + 1) := by rw [hL]; exact Nat.lt_log2_self
    have l3' : L < 52 := (Nat.pow_lt_pow_iff_right (by decide : 1 < 2)).mp (Nat.lt_of_le_of_lt l1' (by rw [p52]; exact hk))
    have b1 : 4503599627370496 ≤ k * 2 ^ (52 - L) := by
      calc 4503599627370496 = 2 ^ L * 2 ^ (52 - L) := by rw [← Nat.pow_add, show L + (52 - L) = 52 by omega, p52]
        _ ≤ k * 2 ^ (52 - L) := Nat.mul_le_mul_right _ l1'
    have b2 : k * 2 ^ (52 - L) < 9007199254740992 := by
      calc k * 2 ^ (52 - L) < 2 ^ (L + 1) * 2 ^ (52 - L) := Nat.mul_lt_mul_of_pos_right l2' (Nat.two_pow_pos _)
        _ = 9007199254740992 := by rw [← Nat.pow_add, show L + 1 + (52 - L) = 53 by omega, p53]
    have r1 : FP.Core.roundRatio FP.Core.b64 false k 1 (-52) = .fin false (k * 2 ^ (52 - L)) ((L : Int) - 104) := by
      have hl : FP.Core.leading k 1 = L := by
        rw [ld_of hL.symm (show (1 : Nat).log2 = 0 by decide)]
        rw [if_pos]
        · omega
        · rw [show ((L : Int) - ((0 : Nat) : Int)).toNat = L by omega, show (-((L : Int) - ((0 : Nat) : Int))).toNat = 0 by omega]
          omega
      refine rr_exact h0 (by rw [qu_of, hl]; omega) ?_ ?_ b2 (by omega)
      · unfold FP.Core.unitsNum FP.Core.unitsDen
        rw [show ((-52 : Int) - ((L : Int) - 104)).toNat = 52 - L by omega, show ((L : Int) - 104 - -52).toNat = 0 by omega, Nat.pow_zero, Nat.mul_one]
      · unfold FP.Core.unitsDen
        exact Nat.mul_pos (by omega) (Nat.two_pow_pos _)
    obtain ⟨c, hc⟩ : ∃ c, c = k * 2 ^ (52 - L) := ⟨_, rfl⟩
    rw [← hc] at b1 b2 r1
    have e1 : UInt64.ofNat (FP.Core.encode FP.Core.b64 (.fin false c ((L : Int) - 104))) = dB (L + 971) (c - 4503599627370496) := dB_enc (by omega) (by omega) (by omega)
    rw [hs, r1, e1]
    have e2 : FP.dmul (dB (L + 971) (c - 4503599627370496)) 4841369599423283200 = dB (L + 1023) (c - 4503599627370496) := by
      show UInt64.ofNat (FP.Core.encode FP.Core.b64 (FP.Core.round FP.Core.b64 (FP.Core.exactProduct (FP.Core.decode FP.Core.b64 (dB (L + 971) (c - 4503599627370496)).toNat) (FP.Core.decode FP.Core.b64 (4841369599423283200 : UInt64).toNat)))) = _
      rw [dB_val (by omega) (by omega) (by omega), big_val, show 4503599627370496 + (c - 4503599627370496) = c by omega]
      have hr : FP.Core.roundRatio FP.Core.b64 false (c * 4503599627370496) 1 (((L + 971 : Nat) : Int) - 1075 + 0) = .fin false c ((L : Int) - 52) := by
        have hl : FP.Core.leading (c * 4503599627370496) 1 = 104 := by
          have hg : (c * 4503599627370496).log2 = 104 := lg_of (by rw [show (2 : Nat) ^ 104 = 20282409603651670423947251286016 by decide]; omega) (by rw [show (2 : Nat) ^ (104 + 1) = 40564819207303340847894502572032 by decide]; omega)
          rw [ld_of hg (show (1 : Nat).log2 = 0 by decide)]
          rw [if_pos]
          · rfl
          · rw [show ((104 : Nat) : Int) - ((0 : Nat) : Int) = 104 from rfl, show (104 : Int).toNat = 104 from rfl, show (-(104 : Int)).toNat = 0 from rfl, show (2 : Nat) ^ 104 = 20282409603651670423947251286016 by decide]
            omega
        refine rr_exact (by omega) (by rw [qu_of, hl]; omega) ?_ ?_ (by omega) (by omega)
        · unfold FP.Core.unitsNum FP.Core.unitsDen
          rw [show (((L + 971 : Nat) : Int) - 1075 + 0 - ((L : Int) - 52)).toNat = 0 by omega, show ((L : Int) - 52 - (((L + 971 : Nat) : Int) - 1075 + 0)).toNat = 52 by omega, p52, Nat.pow_zero, Nat.mul_one, Nat.one_mul]
        · unfold FP.Core.unitsDen
          exact Nat.mul_pos (by omega) (Nat.two_pow_pos _)
      have hq : FP.Core.round FP.Core.b64 (FP.Core.exactProduct (.fin false c (((L + 971 : Nat) : Int) - 1075)) (.fin false 4503599627370496 0)) = .fin false c ((L : Int) - 52) := hr
      rw [hq]
      exact dB_enc (by omega) (by omega) (by omega)
    rw [e2]
    refine ⟨nn_dB (by omega) (by omega), nn_dB (by omega) (by omega), ?_⟩
    show Int64.ofInt (FP.Core.toInt (-2 ^ 63) (2 ^ 63 - 1) (FP.Core.decode FP.Core.b64 (dB (L + 1023) (c - 4503599627370496)).toNat)) = _
    rw [dB_val (by omega) (by omega) (by omega), show 4503599627370496 + (c - 4503599627370496) = c by omega]
    have ht : FP.Core.truncate false c (((L + 1023 : Nat) : Int) - 1075) = (k : Int) := by
      unfold FP.Core.truncate FP.Core.signed
      rw [if_neg (by decide), show (((L + 1023 : Nat) : Int) - 1075).toNat = 0 by omega, show (-(((L + 1023 : Nat) : Int) - 1075)).toNat = 52 - L by omega, Nat.pow_zero, Nat.mul_one, hc, Nat.mul_div_cancel _ (Nat.two_pow_pos _)]
    unfold FP.Core.toInt
    dsimp only
    rw [ht, show max (-2 ^ 63 : Int) (min (2 ^ 63 - 1) (k : Int)) = (k : Int) by omega]
    rfl
theorem db_all {E k : Nat} (h1 : 1000 ≤ E) (hE : E ≤ 1090) (hk : k < 4503599627370496) : f_X6_doubleBits (dB E k) = some (UInt64.toInt64 (dB E k)) := by
  obtain ⟨f1, f2, f3⟩ := fr_part hk
  have hgt : FP.dcmp (dB E k) FP.dconst0 = some .gt := by
    show FP.Core.order (FP.Core.decode FP.Core.b64 (dB E k).toNat) (FP.Core.decode FP.Core.b64 (FP.dconst0 : UInt64).toNat) = _
    rw [dB_val (by omega) (by omega) hk, show FP.Core.decode FP.Core.b64 (FP.dconst0 : UInt64).toNat = .fin false 0 (-1074) by decide +kernel]
    unfold FP.Core.order FP.Core.signed FP.Core.inUnits
    dsimp only
    rw [if_neg (by decide), if_neg (by decide), Nat.zero_mul]
    exact congrArg some (cI_gt (Int.ofNat_lt.mpr (Nat.mul_pos (by omega) (Nat.two_pow_pos _))))
  have hfin : (oL E) <<< ((52 : Int32).toInt64 &&& 63) + oL k = UInt64.toInt64 (dB E k) := by
    rw [sh52 E (by omega), oL_add]
    rfl
  have loops : ∃ z2 : UInt64 × Int64, f_X6_doubleBits_L18 FU (dB E k) 1023 0 = some z2 ∧ f_X6_doubleBits_L55 FU z2.1 z2.2 0 = some (dB 1023 k, oL E) := by
    by_cases c : 1023 ≤ E
    · have a1 := db_L18 hk (E - 1023) FU 0 1023 (FU_lt (by omega)) (by omega)
      have a2 := db_L55 hk 0 FU 0 E (FU_lt (by omega)) (by omega) (by omega)
      rw [show 1023 + (E - 1023) = E by omega] at a1
      exact ⟨_, a1, a2⟩
    · have a1 := db_L18_no (E := E) hk (by omega) (by omega) 1999 1023
      have a2 := db_L55 hk (1023 - E) FU 0 E (FU_lt (by omega)) (by omega) (by omega)
      rw [show E + (1023 - E) = 1023 by omega, show 1023 - (1023 - E) = E by omega] at a2
      exact ⟨_, a1, a2⟩
  obtain ⟨z2, a1, a2⟩ := loops
  rw [f_X6_doubleBits, cv_gt hgt, if_pos (by decide), a1, Option.bind_some, a2, Option.bind_some]
  dsimp only
  rw [f1, Option.bind_some, f2, Option.bind_some, f3, hfin]
theorem jd_all {E k : Nat} (h1 : 1 ≤ E) (hE : E ≤ 2046) (hk : k < 4503599627370496) : f_Jxe99ae_doubleToLongBits_ccdee (dB E k) = some (UInt64.toInt64 (dB E k)) := by
  have hs := dB_self (dB E k) ⟨_, _, dB_val h1 hE hk⟩
  simp only [f_Jxe99ae_doubleToLongBits_ccdee, f_Jxe99ae_isNaN_b9ae7, cv_eq hs, if_true, Option.bind_some, zz0]
theorem db_zero : f_X6_doubleBits FP.dconst0 = some 0 := by decide +kernel
theorem jd_zero : f_Jxe99ae_doubleToLongBits_ccdee FP.dconst0 = some 0 := by decide +kernel
/-- a mean of small whole numbers -/
theorem mean_dB {m n : Nat} (hm : 1 ≤ m) (hn : 1 ≤ n) (hm2 : m < 1000000) (hn2 : n < 1000000) : ∃ E k, 1000 ≤ E ∧ E ≤ 1090 ∧ k < 4503599627370496 ∧ FP.ddiv (FP.i2d (oI m)) (FP.i2d (oI n)) = dB E k := by
  have i2 : ∀ m, 1 ≤ m → m < 1000000 → ∃ (c L : Nat), L < 20 ∧ 4503599627370496 ≤ c ∧ c < 9007199254740992 ∧ FP.Core.decode FP.Core.b64 (FP.i2d (oI m)).toNat = .fin false c ((L : Int) - 52) := by
    intro m hm hm2
    have l1' : 2 ^ m.log2 ≤ m := Nat.log2_self_le (by omega)
    have l2' : m < 2 ^ (m.log2 + 1) := Nat.lt_log2_self
    have l3' : m.log2 < 20 := (Nat.pow_lt_pow_iff_right (by decide : 1 < 2)).mp (Nat.lt_of_le_of_lt l1' (by rw [show (2 : Nat) ^ 20 = 1048576 by decide]; omega))
    obtain ⟨L, hL⟩ : ∃ L, L = m.log2 := ⟨_, rfl⟩
    rw [← hL] at l1' l2' l3'
    have b1 : 4503599627370496 ≤ m * 2 ^ (52 - L) := by
      calc 4503599627370496 = 2 ^ L * 2 ^ (52 - L) := by rw [← Nat.pow_add, show L + (52 - L) = 52 by omega, p52]
        _ ≤ m * 2 ^ (52 - L) := Nat.mul_le_mul_right _ l1'
    have b2 : m * 2 ^ (52 - L) < 9007199254740992 := by
      calc m * 2 ^ (52 - L) < 2 ^ (L + 1) * 2 ^ (52 - L) := Nat.mul_lt_mul_of_pos_right l2' (Nat.two_pow_pos _)
        _ = 9007199254740992 := by rw [← Nat.pow_add, show L + 1 + (52 - L) = 53 by omega, p53]
    have r1 : FP.Core.roundRatio FP.Core.b64 false m 1 0 = .fin false (m * 2 ^ (52 - L)) ((L : Int) - 52) := by
      have hl : FP.Core.leading m 1 = L := by
        rw [ld_of hL.symm (show (1 : Nat).log2 = 0 by decide)]
        rw [if_pos]
        · omega
        · rw [show ((L : Int) - ((0 : Nat) : Int)).toNat = L by omega, show (-((L : Int) - ((0 : Nat) : Int))).toNat = 0 by omega]
          omega
      refine rr_exact (by omega) (by rw [qu_of, hl]; omega) ?_ ?_ b2 (by omega)
      · unfold FP.Core.unitsNum FP.Core.unitsDen
        rw [show ((0 : Int) - ((L : Int) - 52)).toNat = 52 - L by omega, show ((L : Int) - 52 - 0).toNat = 0 by omega, Nat.pow_zero, Nat.mul_one]
      · unfold FP.Core.unitsDen
        exact Nat.mul_pos (by omega) (Nat.two_pow_pos _)
    obtain ⟨c, hc⟩ : ∃ c, c = m * 2 ^ (52 - L) := ⟨_, rfl⟩
    rw [← hc] at b1 b2 r1
    refine ⟨c, L, l3', b1, b2, ?_⟩
    have hi : FP.i2d (oI m) = dB (L + 1023) (c - 4503599627370496) := by
      show UInt64.ofNat (FP.Core.encode FP.Core.b64 (FP.Core.round FP.Core.b64 (FP.Core.ofInt (oI m).toInt))) = _
      rw [oI_toInt (by omega)]
      have : FP.Core.round FP.Core.b64 (FP.Core.ofInt (m : Int)) = .fin false c ((L : Int) - 52) := by
        rw [← r1]
        unfold FP.Core.ofInt
        rw [show decide ((m : Int) < 0) = false from decide_eq_false (by omega)]
        rfl
      rw [this]
      exact dB_enc (by omega) (by omega) (by omega)
    rw [hi, dB_val (by omega) (by omega) (by omega), show 4503599627370496 + (c - 4503599627370496) = c by omega, show (((L + 1023 : Nat) : Int) - 1075) = (L : Int) - 52 by omega]
  obtain ⟨c, L, h1, h2, h3, h4⟩ := i2 m hm hm2
  obtain ⟨c', L', h1', h2', h3', h4'⟩ := i2 n hn hn2
  have hq : ∃ C Q, FP.Core.quotient FP.Core.b64 (.fin false c ((L : Int) - 52)) (.fin false c' ((L' : Int) - 52)) = .fin false C Q ∧ 4503599627370496 ≤ C ∧ C < 9007199254740992 ∧ -75 ≤ Q ∧ Q ≤ 0 := by
    have e0 : FP.Core.quotient FP.Core.b64 (.fin false c ((L : Int) - 52)) (.fin false c' ((L' : Int) - 52)) = FP.Core.roundRatio FP.Core.b64 false c c' ((L : Int) - 52 - ((L' : Int) - 52)) := by
      unfold FP.Core.quotient
      dsimp only
      rw [if_neg (by omega)]
      rfl
    rw [e0]
    unfold FP.Core.roundRatio
    rw [if_neg (by omega)]
    unfold FP.Core.roundAt
    have hset : ∀ (N : Nat) (Q : Int), 4503599627370496 ≤ N → N ≤ 9007199254740992 → -75 ≤ Q → Q ≤ -1 → ∃ C Q', FP.Core.settle FP.Core.b64 false N Q = .fin false C Q' ∧ 4503599627370496 ≤ C ∧ C < 9007199254740992 ∧ -75 ≤ Q' ∧ Q' ≤ 0 := by
      intro N Q n1 n2 q1 q2
      unfold FP.Core.settle FP.Core.bound
      rw [f_p, f_qmax, f_tails]
      by_cases c : N < 9007199254740992
      · rw [if_pos c, if_pos (by omega)]
        exact ⟨N, Q, rfl, n1, c, q1, by omega⟩
      · rw [if_neg c, if_pos (by omega)]
        exact ⟨4503599627370496, Q + 1, rfl, Nat.le_refl _, by omega, by omega, by omega⟩
    have hne : ∀ (X Y : Nat), 0 < Y → 4503599627370496 * Y ≤ X → X < 9007199254740992 * Y → 4503599627370496 ≤ FP.Core.nearest X Y ∧ FP.Core.nearest X Y ≤ 9007199254740992 := by
      intro X Y hY x1 x2
      have d1 : 4503599627370496 ≤ X / Y := (Nat.le_div_iff_mul_le hY).mpr x1
      have d2 : X / Y < 9007199254740992 := (Nat.div_lt_iff_lt_mul hY).mpr x2
      unfold FP.Core.nearest
      split
      · omega
      · split
        · omega
        · omega
    have hl := ld_of (lg52 h2 h3) (lg52 h2' h3')
    rw [show (((52 : Nat) : Int) - ((52 : Nat) : Int)).toNat = 0 from rfl, show (-(((52 : Nat) : Int) - ((52 : Nat) : Int))).toNat = 0 from rfl, Nat.pow_zero, Nat.mul_one, Nat.mul_one] at hl
    by_cases cc : c' ≤ c
    · rw [if_pos cc] at hl
      have hQ : FP.Core.quantum FP.Core.b64 c c' ((L : Int) - 52 - ((L' : Int) - 52)) = (L : Int) - L' - 52 := by rw [qu_of, hl]; omega
      rw [hQ]
      obtain ⟨n1, n2⟩ := hne (FP.Core.unitsNum c ((L : Int) - 52 - ((L' : Int) - 52)) ((L : Int) - L' - 52)) (FP.Core.unitsDen c' ((L : Int) - 52 - ((L' : Int) - 52)) ((L : Int) - L' - 52)) (by
          unfold FP.Core.unitsDen; exact Nat.mul_pos (by omega) (Nat.two_pow_pos _)) (by
          unfold FP.Core.unitsNum FP.Core.unitsDen
          rw [show ((L : Int) - 52 - ((L' : Int) - 52) - ((L : Int) - L' - 52)).toNat = 52 by omega, show ((L : Int) - L' - 52 - ((L : Int) - 52 - ((L' : Int) - 52))).toNat = 0 by omega, p52]
          omega) (by
          unfold FP.Core.unitsNum FP.Core.unitsDen
          rw [show ((L : Int) - 52 - ((L' : Int) - 52) - ((L : Int) - L' - 52)).toNat = 52 by omega, show ((L : Int) - L' - 52 - ((L : Int) - 52 - ((L' : Int) - 52))).toNat = 0 by omega, p52]
          omega)
      exact hset _ _ n1 n2 (by omega) (by omega)
    · rw [if_neg cc] at hl
      have hQ : FP.Core.quantum FP.Core.b64 c c' ((L : Int) - 52 - ((L' : Int) - 52)) = (L : Int) - L' - 53 := by rw [qu_of, hl]; omega
      rw [hQ]
      obtain ⟨n1, n2⟩ := hne (FP.Core.unitsNum c ((L : Int) - 52 - ((L' : Int) - 52)) ((L : Int) - L' - 53)) (FP.Core.unitsDen c' ((L : Int) - 52 - ((L' : Int) - 52)) ((L : Int) - L' - 53)) (by
          unfold FP.Core.unitsDen; exact Nat.mul_pos (by omega) (Nat.two_pow_pos _)) (by
          unfold FP.Core.unitsNum FP.Core.unitsDen
          rw [show ((L : Int) - 52 - ((L' : Int) - 52) - ((L : Int) - L' - 53)).toNat = 53 by omega, show ((L : Int) - L' - 53 - ((L : Int) - 52 - ((L' : Int) - 52))).toNat = 0 by omega, p53]
          omega) (by
          unfold FP.Core.unitsNum FP.Core.unitsDen
          rw [show ((L : Int) - 52 - ((L' : Int) - 52) - ((L : Int) - L' - 53)).toNat = 53 by omega, show ((L : Int) - L' - 53 - ((L : Int) - 52 - ((L' : Int) - 52))).toNat = 0 by omega, p53]
          omega)
      exact hset _ _ n1 n2 (by omega) (by omega)
  obtain ⟨C, Q, hq, hC1, hC2, hQ1, hQ2⟩ := hq
  refine ⟨(Q + 1075).toNat, C - 4503599627370496, by omega, by omega, by omega, ?_⟩
  show UInt64.ofNat (FP.Core.encode FP.Core.b64 (FP.Core.quotient FP.Core.b64 (FP.Core.decode FP.Core.b64 (FP.i2d (oI m)).toNat) (FP.Core.decode FP.Core.b64 (FP.i2d (oI n)).toNat))) = _
  rw [h4, h4', hq]
  exact dB_enc (by omega) (by omega) (by omega)
