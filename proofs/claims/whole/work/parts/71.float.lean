/-! DOUBLES: halving, doubling and the bits of a mean, out of the core's definitions -/
theorem f_tails : FP.Core.b64.tails = 4503599627370496 := by decide
theorem f_exps : FP.Core.b64.exps = 2048 := by decide
theorem f_qmin : FP.Core.b64.qmin = -1074 := by decide
theorem f_qmax : FP.Core.b64.qmax = 971 := by decide
theorem f_p : (2 : Nat) ^ FP.Core.b64.p = 9007199254740992 := by decide
theorem p52 : (2 : Nat) ^ 52 = 4503599627370496 := by decide
theorem p53 : (2 : Nat) ^ 53 = 9007199254740992 := by decide
def dB (E k : Nat) : UInt64 := UInt64.ofNat (E * 4503599627370496 + k)
theorem dB_nat {E k : Nat} (hE : E ≤ 2046) (hk : k < 4503599627370496) : (dB E k).toNat = E * 4503599627370496 + k := by
  unfold dB
  rw [UInt64.toNat_ofNat', Nat.mod_eq_of_lt (by omega)]
theorem dB_dec {E k : Nat} (h1 : 1 ≤ E) (hE : E ≤ 2046) (hk : k < 4503599627370496) : FP.Core.decode FP.Core.b64 (E * 4503599627370496 + k) = .fin false (4503599627370496 + k) ((E : Int) - 1075) := by
  have d1 : (E * 4503599627370496 + k) / 4503599627370496 = E := by omega
  have d2 : (E * 4503599627370496 + k) % 4503599627370496 = k := by omega
  have e1 : FP.Core.fieldE FP.Core.b64 (E * 4503599627370496 + k) = E := by
    unfold FP.Core.fieldE; rw [f_tails, f_exps, d1]; omega
  have e2 : FP.Core.fieldT FP.Core.b64 (E * 4503599627370496 + k) = k := by
    unfold FP.Core.fieldT; rw [f_tails, d2]
  have e3 : FP.Core.fieldS FP.Core.b64 (E * 4503599627370496 + k) = false := by
    unfold FP.Core.fieldS; rw [f_tails, f_exps, d1, show E / 2048 % 2 = 0 by omega]; rfl
  unfold FP.Core.decode
  rw [e1, e2, e3, f_exps, f_tails, f_qmin, if_neg (by omega), if_neg (by omega)]
  congr 1
  omega
theorem dB_val {E k : Nat} (h1 : 1 ≤ E) (hE : E ≤ 2046) (hk : k < 4503599627370496) : FP.Core.decode FP.Core.b64 (dB E k).toNat = .fin false (4503599627370496 + k) ((E : Int) - 1075) := by
  rw [dB_nat hE hk, dB_dec h1 hE hk]
theorem dB_enc {E k c : Nat} {q : Int} (h1 : 1 ≤ E) (hc : c = 4503599627370496 + k) (hq : q = (E : Int) - 1075) : UInt64.ofNat (FP.Core.encode FP.Core.b64 (.fin false c q)) = dB E k := by
  subst hc hq
  unfold dB FP.Core.encode FP.Core.assemble
  dsimp only
  rw [f_tails, f_exps, f_qmin, if_neg (by omega)]
  refine congrArg UInt64.ofNat ?_
  rw [show ((E : Int) - 1075 - -1074).toNat + 1 = E by omega, show false.toNat = 0 from rfl]
  omega
theorem lg_of {A a : Nat} (h1 : 2 ^ a ≤ A) (h2 : A < 2 ^ (a + 1)) : A.log2 = a := by
  have h0 : A ≠ 0 := by
    have := Nat.two_pow_pos a
    omega
  exact (Nat.log2_eq_iff h0).mpr ⟨h1, h2⟩
theorem ld_of {A B a b : Nat} (hA : A.log2 = a) (hB : B.log2 = b) : FP.Core.leading A B = if B * 2 ^ ((a : Int) - b).toNat ≤ A * 2 ^ (-((a : Int) - b)).toNat then (a : Int) - b else (a : Int) - b - 1 := by
  unfold FP.Core.leading
  rw [hA, hB]
theorem qu_of (A B : Nat) (e : Int) : FP.Core.quantum FP.Core.b64 A B e = max (-1074) (FP.Core.leading A B + e - 52) := by
  unfold FP.Core.quantum
  rw [f_qmin, show (FP.Core.b64.p : Int) - 1 = 52 from by decide]
theorem rr_exact {A B c : Nat} {e q : Int} (hA : A ≠ 0) (hq : FP.Core.quantum FP.Core.b64 A B e = q) (h : FP.Core.unitsNum A e q = c * FP.Core.unitsDen B e q) (hD : 0 < FP.Core.unitsDen B e q) (hc : c < 9007199254740992) (hq2 : q ≤ 971) :
    FP.Core.roundRatio FP.Core.b64 false A B e = .fin false c q := by
  unfold FP.Core.roundRatio
  rw [if_neg hA, hq]
  unfold FP.Core.roundAt
  rw [h]
  have hn : FP.Core.nearest (c * FP.Core.unitsDen B e q) (FP.Core.unitsDen B e q) = c := by
    unfold FP.Core.nearest
    rw [Nat.mul_mod_left, Nat.mul_div_cancel _ hD, if_pos (by omega)]
  rw [hn]
  unfold FP.Core.settle FP.Core.bound
  rw [f_p, f_qmax, if_pos hc, if_pos hq2]
theorem lg52 {c : Nat} (h1 : 4503599627370496 ≤ c) (h2 : c < 9007199254740992) : c.log2 = 52 := lg_of (by rw [p52]; exact h1) (by rw [p53]; exact h2)
theorem two_val : FP.Core.decode FP.Core.b64 (4611686018427387904 : UInt64).toNat = .fin false 4503599627370496 (-51) := by decide +kernel
theorem one_val : FP.Core.decode FP.Core.b64 (FP.dconst1 : UInt64).toNat = .fin false 4503599627370496 (-52) := by decide +kernel
theorem big_val : FP.Core.decode FP.Core.b64 (4841369599423283200 : UInt64).toNat = .fin false 4503599627370496 0 := by decide +kernel
theorem dB_half {E k : Nat} (h1 : 2 ≤ E) (hE : E ≤ 2046) (hk : k < 4503599627370496) : FP.ddiv (dB E k) 4611686018427387904 = dB (E - 1) k := by
  show UInt64.ofNat (FP.Core.encode FP.Core.b64 (FP.Core.quotient FP.Core.b64 (FP.Core.decode FP.Core.b64 (dB E k).toNat) (FP.Core.decode FP.Core.b64 (4611686018427387904 : UInt64).toNat))) = _
  rw [dB_val (by omega) hE hk, two_val]
  have hr : FP.Core.roundRatio FP.Core.b64 false (4503599627370496 + k) 4503599627370496 ((E : Int) - 1075 - -51) = .fin false (4503599627370496 + k) ((E : Int) - 1076) := by
    have hl : FP.Core.leading (4503599627370496 + k) 4503599627370496 = 0 := by
      rw [ld_of (lg52 (by omega) (by omega)) (lg52 (Nat.le_refl _) (by omega))]
      rw [if_pos (by simp)]
      rfl
    refine rr_exact (by omega) (by rw [qu_of, hl]; omega) ?_ ?_ (by omega) (by omega)
    · unfold FP.Core.unitsNum FP.Core.unitsDen
      rw [show ((E : Int) - 1075 - -51 - ((E : Int) - 1076)).toNat = 52 by omega, show ((E : Int) - 1076 - ((E : Int) - 1075 - -51)).toNat = 0 by omega, p52, Nat.pow_zero, Nat.mul_one]
    · unfold FP.Core.unitsDen
      exact Nat.mul_pos (by omega) (Nat.two_pow_pos _)
  have hq : FP.Core.quotient FP.Core.b64 (.fin false (4503599627370496 + k) ((E : Int) - 1075)) (.fin false 4503599627370496 (-51)) = .fin false (4503599627370496 + k) ((E : Int) - 1076) := by
    rw [← hr]
    unfold FP.Core.quotient
    dsimp only
    rw [if_neg (by omega)]
    rfl
  rw [hq]
  exact dB_enc (by omega) rfl (by omega)
theorem dB_dbl {E k : Nat} (h1 : 1 ≤ E) (hE : E ≤ 2045) (hk : k < 4503599627370496) : FP.dmul (dB E k) 4611686018427387904 = dB (E + 1) k := by
  show UInt64.ofNat (FP.Core.encode FP.Core.b64 (FP.Core.round FP.Core.b64 (FP.Core.exactProduct (FP.Core.decode FP.Core.b64 (dB E k).toNat) (FP.Core.decode FP.Core.b64 (4611686018427387904 : UInt64).toNat)))) = _
  rw [dB_val (by omega) (by omega) hk, two_val]
  have hr : FP.Core.roundRatio FP.Core.b64 false ((4503599627370496 + k) * 4503599627370496) 1 ((E : Int) - 1075 + -51) = .fin false (4503599627370496 + k) ((E : Int) - 1074) := by
    have hl : FP.Core.leading ((4503599627370496 + k) * 4503599627370496) 1 = 104 := by
      have hg : ((4503599627370496 + k) * 4503599627370496).log2 = 104 := lg_of (by rw [show (2 : Nat) ^ 104 = 20282409603651670423947251286016 by decide]; omega) (by rw [show (2 : Nat) ^ (104 + 1) = 40564819207303340847894502572032 by decide]; omega)
      rw [ld_of hg (show (1 : Nat).log2 = 0 by decide)]
      rw [if_pos]
      · rfl
      · rw [show ((104 : Nat) : Int) - ((0 : Nat) : Int) = 104 from rfl, show (104 : Int).toNat = 104 from rfl, show (-(104 : Int)).toNat = 0 from rfl, show (2 : Nat) ^ 104 = 20282409603651670423947251286016 by decide]
        omega
    refine rr_exact (by omega) (by rw [qu_of, hl]; omega) ?_ ?_ (by omega) (by omega)
    · unfold FP.Core.unitsNum FP.Core.unitsDen
      rw [show ((E : Int) - 1075 + -51 - ((E : Int) - 1074)).toNat = 0 by omega, show ((E : Int) - 1074 - ((E : Int) - 1075 + -51)).toNat = 52 by omega, p52, Nat.pow_zero, Nat.mul_one, Nat.one_mul]
    · unfold FP.Core.unitsDen
      exact Nat.mul_pos (by omega) (Nat.two_pow_pos _)
  have hq : FP.Core.round FP.Core.b64 (FP.Core.exactProduct (.fin false (4503599627370496 + k) ((E : Int) - 1075)) (.fin false 4503599627370496 (-51))) = .fin false (4503599627370496 + k) ((E : Int) - 1074) := hr
  rw [hq]
  exact dB_enc (by omega) rfl (by omega)
theorem cI_lt {a b : Int} (h : a < b) : compare a b = .lt := by
  show compareOfLessAndEq a b = _
  unfold compareOfLessAndEq
  rw [if_pos h]
theorem cI_eq {a b : Int} (h : a = b) : compare a b = .eq := by
  show compareOfLessAndEq a b = _
  unfold compareOfLessAndEq
  rw [if_neg (by omega), if_pos h]
theorem cI_gt {a b : Int} (h : b < a) : compare a b = .gt := by
  show compareOfLessAndEq a b = _
  unfold compareOfLessAndEq
  rw [if_neg (by omega), if_neg (by omega)]
theorem dB_lt {E k E' k' : Nat} (h1 : 1 ≤ E) (hE : E ≤ 2046) (hk : k < 4503599627370496) (h1' : 1 ≤ E') (hE' : E' ≤ 2046) (hk' : k' < 4503599627370496) (h : E < E') : FP.dcmp (dB E k) (dB E' k') = some .lt := by
  show FP.Core.order (FP.Core.decode FP.Core.b64 (dB E k).toNat) (FP.Core.decode FP.Core.b64 (dB E' k').toNat) = _
  rw [dB_val h1 hE hk, dB_val h1' hE' hk']
  unfold FP.Core.order
  dsimp only
  rw [show min ((E : Int) - 1075) ((E' : Int) - 1075) = (E : Int) - 1075 by omega]
  unfold FP.Core.signed FP.Core.inUnits
  rw [if_neg (by decide), if_neg (by decide), show ((E : Int) - 1075 - ((E : Int) - 1075)).toNat = 0 by omega, show ((E' : Int) - 1075 - ((E : Int) - 1075)).toNat = (E' - E - 1) + 1 by omega, Nat.pow_succ, Nat.pow_zero, Nat.mul_one]
  have hp := Nat.two_pow_pos (E' - E - 1)
  have hlt : 4503599627370496 + k < (4503599627370496 + k') * (2 ^ (E' - E - 1) * 2) := by
    calc 4503599627370496 + k < 4503599627370496 * 2 := by omega
      _ ≤ (4503599627370496 + k') * (2 ^ (E' - E - 1) * 2) := Nat.mul_le_mul (by omega) (by omega)
  exact congrArg some (cI_lt (Int.ofNat_lt.mpr hlt))
theorem dB_ge {E k E' : Nat} (h1 : 1 ≤ E) (hE : E ≤ 2046) (hk : k < 4503599627370496) (h1' : 1 ≤ E') (hE' : E' ≤ 2046) (h : E' ≤ E) : FP.dcmp (dB E k) (dB E' 0) = some .gt ∨ FP.dcmp (dB E k) (dB E' 0) = some .eq := by
  show FP.Core.order (FP.Core.decode FP.Core.b64 (dB E k).toNat) (FP.Core.decode FP.Core.b64 (dB E' 0).toNat) = _ ∨ FP.Core.order (FP.Core.decode FP.Core.b64 (dB E k).toNat) (FP.Core.decode FP.Core.b64 (dB E' 0).toNat) = _
  rw [dB_val h1 hE hk, dB_val h1' hE' (by omega)]
  unfold FP.Core.order
  dsimp only
  rw [show min ((E : Int) - 1075) ((E' : Int) - 1075) = (E' : Int) - 1075 by omega]
  unfold FP.Core.signed FP.Core.inUnits
  rw [if_neg (by decide), if_neg (by decide), show ((E' : Int) - 1075 - ((E' : Int) - 1075)).toNat = 0 by omega, show ((E : Int) - 1075 - ((E' : Int) - 1075)).toNat = E - E' by omega, Nat.pow_zero, Nat.mul_one]
  have hp := Nat.two_pow_pos (E - E')
  have hle : 4503599627370496 + 0 ≤ (4503599627370496 + k) * 2 ^ (E - E') := by
    calc 4503599627370496 + 0 ≤ (4503599627370496 + k) * 1 := by omega
      _ ≤ (4503599627370496 + k) * 2 ^ (E - E') := Nat.mul_le_mul (Nat.le_refl _) (by omega)
  rcases Nat.lt_or_eq_of_le hle with hlt | heq
  · left
    exact congrArg some (cI_gt (Int.ofNat_lt.mpr hlt))
  · right
    exact congrArg some (cI_eq (congrArg Int.ofNat heq).symm)
theorem dB_self (x : UInt64) (h : ∃ c q, FP.Core.decode FP.Core.b64 x.toNat = .fin false c q) : FP.dcmp x x = some .eq := by
  obtain ⟨c, q, h⟩ := h
  show FP.Core.order (FP.Core.decode FP.Core.b64 x.toNat) (FP.Core.decode FP.Core.b64 x.toNat) = _
  rw [h]
  unfold FP.Core.order
  dsimp only
  exact congrArg some (cI_eq rfl)
theorem two_dB : (4611686018427387904 : UInt64) = dB 1024 0 := by decide +kernel
theorem one_dB : (FP.dconst1 : UInt64) = dB 1023 0 := by decide +kernel
theorem nn_dB {E k : Nat} (hE : E ≤ 2046) (hk : k < 4503599627370496) : nn (dB E k) = some () := by
  unfold nn
  rw [if_pos]
  rw [UInt64.le_iff_toNat_le, UInt64.toNat_and, dB_nat hE hk, show (0x7fffffffffffffff : UInt64).toNat = 2 ^ 63 - 1 by decide, Nat.and_two_pow_sub_one_eq_mod, Nat.mod_eq_of_lt (by omega), show (0x7ff0000000000000 : UInt64).toNat = 9218868437227405312 by decide]
  omega
