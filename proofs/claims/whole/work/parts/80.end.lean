/-! THE LAW'S LOOP -/
def Ends (o : Option (Int32 ⊕ St)) : Prop := ∃ T', o = some (.inr T')
theorem sc_at {L k : Nat} {xs : Nat → Int32} (hk : k < L) (hL : L ≤ 2560) : scr L xs (oI k) = some (xs k) := by
  unfold scr
  rw [oI_nat (by omega), if_neg]
  rw [oI_n0 (by omega), false_or]
  omega
theorem lt5 {L i : Nat} (hL : L ≤ 2560) (hi : i ≤ 2560) : ((Int32.ofNat L) - 5 < oI i) = (L < i + 5) := by
  show (oI L - oI 5 < oI i) = _
  by_cases c : 5 ≤ L
  · rw [oI_sub c, oI_lt (by omega) (by omega)]
    exact propext ⟨fun h => by omega, fun h => by omega⟩
  · rw [oI_subneg (by omega)]
    refine propext ⟨fun _ => by omega, fun _ => ?_⟩
    rw [Int32.lt_iff_toInt_lt, neg_toInt (by omega), oI_toInt (by omega)]
    omega
theorem lg_self (v : Int64) : lg_cmp v v = 0 := by
  unfold lg_cmp
  rw [if_neg (Int64.lt_irrefl), if_pos rfl]
theorem st_go {x M : Nat} {f g : St → Option (Int32 × St)} {T : St} (hr : Row f g x M T) {rec : St → Option (Int32 ⊕ St)} (ih : ∀ T2, Iv x M T2 → Ends (rec T2)) :
    Ends ((f T).bind fun z => (oO z.2 M 6).bind fun _ => (g z.2).bind fun z2 => (oO z2.2 M 6).bind fun _ => (f_X7_thrown z2.2 M).bind fun x58 => if x58 = z.1 then if z.1 = 0 then (aJ z2.2 (M + 6) 0).bind fun x61 => if (lg_cmp x61 (Int32.toInt64 z2.1)) = 0 then rec z2.2 else some (.inl 0) else rec z2.2 else some (.inl 0)) := by
  obtain ⟨k, T1, b, T2, r1, r2, r3, r4, r5, r6, r7⟩ := hr
  simp only [r1, r2, r3, r4, r5, Option.bind_some, if_true]
  by_cases c : k = 0
  · rw [if_pos c, r6 c, Option.bind_some, lg_self, if_pos rfl]
    exact ih T2 r7
  · rw [if_neg c]
    exact ih T2 r7
theorem st_clear {x M : Nat} {T : St} (hI : Iv x M T) : ∃ v T1 T2, oO T x 5 = some () ∧ f_X6_clearBuffer T x = some (v, T1) ∧ oO T1 M 6 = some () ∧ f_X7_clearBuffer T1 M = some (v, T2) ∧ Iv x M T2 := by
  obtain ⟨S, W, R, A, F, H, O, C, nh, Hs, len, t, rfl, hM, h, ok, hT, hm, hX⟩ := hI
  obtain ⟨W', c1, c2, c3⟩ := c_clear (S := MS S M A F H O) (x := x) h ok hT
  obtain ⟨F', m1, m2, m3⟩ := m_clear (S := WS S x W' R) (M := M) (H := H) (O := O) hm hX
  refine ⟨oI len, MS (WS S x W' R) M A F H O, MS (WS S x W' R) M A F' H O, by rw [MS_WS hM]; exact o_5, by rw [MS_WS hM, MS_WS hM]; exact c1, m_o, m1, S, W', R, A, F', H, O, C, nh, Hs, 0, t, rfl, hM, c2, ok, c3, m2, m3⟩
theorem st_ferr {x M : Nat} {T : St} (hI : Iv x M T) : ∃ v T1 T2, oO T x 5 = some () ∧ f_X6_firstError T x = some (v, T1) ∧ oO T1 M 6 = some () ∧ f_X7_firstError T1 M = some (v, T2) ∧ Iv x M T2 := by
  obtain ⟨S, W, R, A, F, H, O, C, nh, Hs, len, t, rfl, hM, h, ok, hT, hm, hX⟩ := hI
  obtain ⟨W', c1, c2, c3⟩ := c_ferr (S := MS S M A F H O) (x := x) h ok hT
  obtain ⟨A', F', m1, m2, m3⟩ := m_ferr (S := WS S x W' R) (M := M) (H := H) (O := O) hm hX
  refine ⟨oI (fE t len), MS (WS S x W' R) M A F H O, MS (WS S x W' R) M A' F' H O, by rw [MS_WS hM]; exact o_5, by rw [MS_WS hM, MS_WS hM]; exact c1, m_o, m1, S, W', R, A', F', H, O, C, nh, Hs, len, t, rfl, hM, c2, ok, c3, m2, m3⟩
theorem st_mean {x M : Nat} {T : St} (hI : Iv x M T) : ∃ v T2, oO T x 5 = some () ∧ f_X6_meanBits T x = some v ∧ oO T M 6 = some () ∧ f_X7_meanBits T M = some (v, T2) ∧ FP.dcmp v v = some .eq ∧ Iv x M T2 := by
  obtain ⟨S, W, R, A, F, H, O, C, nh, Hs, len, t, rfl, hM, h, ok, hT, hm, hX⟩ := hI
  have c1 := c_mean (S := MS S M A F H O) (x := x) h ok
  obtain ⟨A', F', m1, m2, m3⟩ := m_mean (S := WS S x W R) (M := M) (F := F) (H := H) (O := O) hm ok
  refine ⟨mnB C, MS (WS S x W R) M A' F' H O, by rw [MS_WS hM]; exact o_5, by rw [MS_WS hM]; exact c1, m_o, m1, mn_self ok.1, S, W, R, A', F', H, O, C, nh, Hs, len, t, rfl, hM, h, ok, hT, m2, TxM_M hX m3⟩
theorem st_digest {x M : Nat} {T : St} (hI : Iv x M T) : ∃ v T1 T2, oO T x 5 = some () ∧ f_X6_digest T x = some (v, T1) ∧ oO T1 M 6 = some () ∧ f_X7_digest T1 M = some (v, T2) ∧ Iv x M T2 := by
  obtain ⟨S, W, R, A, F, H, O, C, nh, Hs, len, t, rfl, hM, h, ok, hT, hm, hX⟩ := hI
  obtain ⟨v, v1, v2⟩ := mn_bits ok.1
  obtain ⟨W', c1, c2, c3⟩ := c_digest (S := MS S M A F H O) (x := x) h ok hT v1
  obtain ⟨A', F', H', m1, m2, m3⟩ := m_digest (S := WS S x W' R) (M := M) (F := F) (H := H) (O := O) hm ok hX v2
  refine ⟨dg5 C nh len v t, MS (WS S x W' R) M A F H O, MS (WS S x W' R) M A' F' H' O, by rw [MS_WS hM]; exact o_5, by rw [MS_WS hM, MS_WS hM]; exact c1, m_o, m1, S, W', R, A', F', H', O, C, nh, Hs, len, t, rfl, hM, c2, ok, c3, m2, m3⟩
theorem law_L {L x M : Nat} {xs : Nat → Int32} (hL : L ≤ 2560) : ∀ (fu i : Nat) (T : St), Iv x M T → i ≤ L → L < 5 * fu + i → Ends (f_L_law_L23 L xs x M (M + 6) fu T (oI i))
  | 0, i, T, hI, hi, hf => by omega
  | fu + 1, i, T, hI, hi, hf => by
    rw [f_L_law_L23]
    by_cases c : L < i + 5
    · rw [if_pos (by rw [lt5 hL (by omega)]; exact c)]
      exact ⟨T, rfl⟩
    rw [if_neg (by rw [lt5 hL (by omega)]; exact c)]
    have s0 : scr L xs (oI i) = some (xs i) := sc_at (by omega) hL
    have s1 : scr L xs (oI i + 1) = some (xs (i + 1)) := by rw [l1, oI_add]; exact sc_at (by omega) hL
    have s2 : scr L xs (oI i + 2) = some (xs (i + 2)) := by rw [l2, oI_add]; exact sc_at (by omega) hL
    have s3 : scr L xs (oI i + 3) = some (xs (i + 3)) := by rw [l3, oI_add]; exact sc_at (by omega) hL
    have s4 : scr L xs (oI i + 4) = some (xs (i + 4)) := by rw [l4, oI_add]; exact sc_at (by omega) hL
    have ih : ∀ T2, Iv x M T2 → Ends (f_L_law_L23 L xs x M (M + 6) fu T2 (oI i + 5)) := fun T2 h2 => by
      rw [l5, oI_add]
      exact law_L hL fu (i + 5) T2 h2 (by omega) (by omega)
    rw [s0, Option.bind_some]
    by_cases c0 : (xs i &&& 31) = 0
    · rw [if_pos c0]
      simp only [s1, s2, Option.bind_some]
      exact st_go (f := fun T => f_L_make T x (xs (i + 1)) (xs (i + 2)) (M + 6)) (g := fun T => f_X7_make T M (xs (i + 1)) (xs (i + 2))) (rec := fun T2 => f_L_law_L23 L xs x M (M + 6) fu T2 (oI i + 5)) (st_make hI (xs (i + 1)) (xs (i + 2))) ih
    rw [if_neg c0]
    by_cases c1 : (xs i &&& 31) = 1
    · rw [if_pos c1]
      exact st_go (f := fun T => f_L_read T x  (M + 6)) (g := fun T => f_X7_read T M ) (rec := fun T2 => f_L_law_L23 L xs x M (M + 6) fu T2 (oI i + 5)) (st_read hI ) ih
    rw [if_neg c1]
    by_cases c2 : (xs i &&& 31) = 2
    · rw [if_pos c2]
      simp only [s1, s2, Option.bind_some]
      exact st_go (f := fun T => f_L_add T x (xs (i + 1)) (xs (i + 2)) (M + 6)) (g := fun T => f_X7_add T M (xs (i + 1)) (xs (i + 2))) (rec := fun T2 => f_L_law_L23 L xs x M (M + 6) fu T2 (oI i + 5)) (st_add hI (xs (i + 1)) (xs (i + 2))) ih
    rw [if_neg c2]
    by_cases c3 : (xs i &&& 31) = 3
    · rw [if_pos c3]
      simp only [s1, s2, s3, Option.bind_some]
      exact st_go (f := fun T => f_L_put T x (xs (i + 1)) (xs (i + 2)) (xs (i + 3)) (M + 6)) (g := fun T => f_X7_put T M (xs (i + 1)) (xs (i + 2)) (xs (i + 3))) (rec := fun T2 => f_L_law_L23 L xs x M (M + 6) fu T2 (oI i + 5)) (st_put hI (xs (i + 1)) (xs (i + 2)) (xs (i + 3))) ih
    rw [if_neg c3]
    by_cases c4 : (xs i &&& 31) = 4
    · rw [if_pos c4]
      simp only [s1, s2, Option.bind_some]
      exact st_go (f := fun T => f_L_take T x (xs (i + 1)) (xs (i + 2)) (M + 6)) (g := fun T => f_X7_take T M (xs (i + 1)) (xs (i + 2))) (rec := fun T2 => f_L_law_L23 L xs x M (M + 6) fu T2 (oI i + 5)) (st_take hI (xs (i + 1)) (xs (i + 2))) ih
    rw [if_neg c4]
    by_cases c5 : (xs i &&& 31) = 5
    · rw [if_pos c5]
      simp only [s1, Option.bind_some]
      exact st_go (f := fun T => f_L_turn T x (xs (i + 1)) (M + 6)) (g := fun T => f_X7_turn T M (xs (i + 1))) (rec := fun T2 => f_L_law_L23 L xs x M (M + 6) fu T2 (oI i + 5)) (st_turn hI (xs (i + 1))) ih
    rw [if_neg c5]
    by_cases c6 : (xs i &&& 31) = 6
    · rw [if_pos c6]
      simp only [s1, s2, Option.bind_some]
      exact st_go (f := fun T => f_L_join T x (xs (i + 1)) (xs (i + 2)) (M + 6)) (g := fun T => f_X7_join T M (xs (i + 1)) (xs (i + 2))) (rec := fun T2 => f_L_law_L23 L xs x M (M + 6) fu T2 (oI i + 5)) (st_join hI (xs (i + 1)) (xs (i + 2))) ih
    rw [if_neg c6]
    by_cases c7 : (xs i &&& 31) = 7
    · rw [if_pos c7]
      simp only [s1, s2, Option.bind_some]
      exact st_go (f := fun T => f_L_cut T x (xs (i + 1)) (xs (i + 2)) (M + 6)) (g := fun T => f_X7_cut T M (xs (i + 1)) (xs (i + 2))) (rec := fun T2 => f_L_law_L23 L xs x M (M + 6) fu T2 (oI i + 5)) (st_cut hI (xs (i + 1)) (xs (i + 2))) ih
    rw [if_neg c7]
    by_cases c8 : (xs i &&& 31) = 8
    · rw [if_pos c8]
      simp only [s1, Option.bind_some]
      exact st_go (f := fun T => f_L_pass T x (xs (i + 1)) (M + 6)) (g := fun T => f_X7_pass T M (xs (i + 1))) (rec := fun T2 => f_L_law_L23 L xs x M (M + 6) fu T2 (oI i + 5)) (st_pass hI (xs (i + 1))) ih
    rw [if_neg c8]
    by_cases c9 : (xs i &&& 31) = 9
    · rw [if_pos c9]
      simp only [s1, Option.bind_some]
      exact st_go (f := fun T => f_L_breakVow T x (xs (i + 1)) (M + 6)) (g := fun T => f_X7_breakVow T M (xs (i + 1))) (rec := fun T2 => f_L_law_L23 L xs x M (M + 6) fu T2 (oI i + 5)) (st_breakVow hI (xs (i + 1))) ih
    rw [if_neg c9]
    by_cases c10 : (xs i &&& 31) = 10
    · rw [if_pos c10]
      simp only [s1, s2, s3, Option.bind_some]
      exact st_go (f := fun T => f_L_ask T x (xs (i + 1)) (xs (i + 2)) (xs (i + 3)) (M + 6)) (g := fun T => f_X7_ask T M (xs (i + 1)) (xs (i + 2)) (xs (i + 3))) (rec := fun T2 => f_L_law_L23 L xs x M (M + 6) fu T2 (oI i + 5)) (st_ask hI (xs (i + 1)) (xs (i + 2)) (xs (i + 3))) ih
    rw [if_neg c10]
    by_cases c11 : (xs i &&& 31) = 11
    · rw [if_pos c11]
      simp only [s1, s2, Option.bind_some]
      exact st_go (f := fun T => f_L_set T x (xs (i + 1)) (xs (i + 2)) (M + 6)) (g := fun T => f_X7_set T M (xs (i + 1)) (xs (i + 2))) (rec := fun T2 => f_L_law_L23 L xs x M (M + 6) fu T2 (oI i + 5)) (st_set hI (xs (i + 1)) (xs (i + 2))) ih
    rw [if_neg c11]
    by_cases c12 : (xs i &&& 31) = 12
    · rw [if_pos c12]
      simp only [s1, Option.bind_some]
      exact st_go (f := fun T => f_L_append T x (xs (i + 1)) (M + 6)) (g := fun T => f_X7_append T M (xs (i + 1))) (rec := fun T2 => f_L_law_L23 L xs x M (M + 6) fu T2 (oI i + 5)) (st_append hI (xs (i + 1))) ih
    rw [if_neg c12]
    by_cases c13 : (xs i &&& 31) = 13
    · rw [if_pos c13]
      obtain ⟨v, T1, T2, r1, r2, r3, r4, r5⟩ := st_clear hI
      simp only [r1, r2, r3, r4, Option.bind_some, if_true]
      exact ih T2 r5
    rw [if_neg c13]
    by_cases c14 : (xs i &&& 31) = 14
    · rw [if_pos c14]
      obtain ⟨v, T1, T2, r1, r2, r3, r4, r5⟩ := st_ferr hI
      simp only [r1, r2, r3, r4, Option.bind_some, if_true]
      exact ih T2 r5
    rw [if_neg c14]
    by_cases c15 : (xs i &&& 31) = 15
    · rw [if_pos c15]
      exact st_go (f := fun T => f_L_undo T x  (M + 6)) (g := fun T => f_X7_undo T M ) (rec := fun T2 => f_L_law_L23 L xs x M (M + 6) fu T2 (oI i + 5)) (st_undo hI ) ih
    rw [if_neg c15]
    by_cases c16 : (xs i &&& 31) = 16
    · rw [if_pos c16]
      simp only [s1, s2, Option.bind_some]
      exact st_go (f := fun T => f_L_block T x (xs (i + 1)) (xs (i + 2)) (M + 6)) (g := fun T => f_X7_block T M (xs (i + 1)) (xs (i + 2))) (rec := fun T2 => f_L_law_L23 L xs x M (M + 6) fu T2 (oI i + 5)) (st_block hI (xs (i + 1)) (xs (i + 2))) ih
    rw [if_neg c16]
    by_cases c17 : (xs i &&& 31) = 17
    · rw [if_pos c17]
      simp only [s1, s2, Option.bind_some]
      exact st_go (f := fun T => f_L_value T x (xs (i + 1)) (xs (i + 2)) (M + 6)) (g := fun T => f_X7_value T M (xs (i + 1)) (xs (i + 2))) (rec := fun T2 => f_L_law_L23 L xs x M (M + 6) fu T2 (oI i + 5)) (st_value hI (xs (i + 1)) (xs (i + 2))) ih
    rw [if_neg c17]
    by_cases c18 : (xs i &&& 31) = 18
    · rw [if_pos c18]
      simp only [s1, Option.bind_some]
      exact st_go (f := fun T => f_L_count T x (xs (i + 1)) (M + 6)) (g := fun T => f_X7_count T M (xs (i + 1))) (rec := fun T2 => f_L_law_L23 L xs x M (M + 6) fu T2 (oI i + 5)) (st_count hI (xs (i + 1))) ih
    rw [if_neg c18]
    by_cases c19 : (xs i &&& 31) = 19
    · rw [if_pos c19]
      simp only [s1, Option.bind_some]
      exact st_go (f := fun T => f_L_setting T x (xs (i + 1)) (M + 6)) (g := fun T => f_X7_setting T M (xs (i + 1))) (rec := fun T2 => f_L_law_L23 L xs x M (M + 6) fu T2 (oI i + 5)) (st_setting hI (xs (i + 1))) ih
    rw [if_neg c19]
    by_cases c20 : (xs i &&& 31) = 20
    · rw [if_pos c20]
      simp only [s1, s2, Option.bind_some]
      exact st_go (f := fun T => f_L_cost T x (xs (i + 1)) (xs (i + 2)) (M + 6)) (g := fun T => f_X7_cost T M (xs (i + 1)) (xs (i + 2))) (rec := fun T2 => f_L_law_L23 L xs x M (M + 6) fu T2 (oI i + 5)) (st_cost hI (xs (i + 1)) (xs (i + 2))) ih
    rw [if_neg c20]
    by_cases c21 : (xs i &&& 31) = 21
    · rw [if_pos c21]
      simp only [s1, s2, s3, s4, Option.bind_some]
      exact st_go (f := fun T => f_L_work T x (xs (i + 1)) (xs (i + 2)) (xs (i + 3)) (xs (i + 4)) (M + 6)) (g := fun T => f_X7_work T M (xs (i + 1)) (xs (i + 2)) (xs (i + 3)) (xs (i + 4))) (rec := fun T2 => f_L_law_L23 L xs x M (M + 6) fu T2 (oI i + 5)) (st_work hI (xs (i + 1)) (xs (i + 2)) (xs (i + 3)) (xs (i + 4))) ih
    rw [if_neg c21]
    by_cases c22 : (xs i &&& 31) = 22
    · rw [if_pos c22]
      simp only [s1, s2, Option.bind_some]
      exact st_go (f := fun T => f_L_regretIn T x (xs (i + 1)) (xs (i + 2)) (M + 6)) (g := fun T => f_X7_regretIn T M (xs (i + 1)) (xs (i + 2))) (rec := fun T2 => f_L_law_L23 L xs x M (M + 6) fu T2 (oI i + 5)) (st_regretIn hI (xs (i + 1)) (xs (i + 2))) ih
    rw [if_neg c22]
    by_cases c23 : (xs i &&& 31) = 23
    · rw [if_pos c23]
      simp only [s1, Option.bind_some]
      exact st_go (f := fun T => f_L_gain T x (xs (i + 1)) (M + 6)) (g := fun T => f_X7_gain T M (xs (i + 1))) (rec := fun T2 => f_L_law_L23 L xs x M (M + 6) fu T2 (oI i + 5)) (st_gain hI (xs (i + 1))) ih
    rw [if_neg c23]
    by_cases c24 : (xs i &&& 31) = 24
    · rw [if_pos c24]
      simp only [s1, s2, Option.bind_some]
      exact st_go (f := fun T => f_L_cheapest T x (xs (i + 1)) (xs (i + 2)) (M + 6)) (g := fun T => f_X7_cheapest T M (xs (i + 1)) (xs (i + 2))) (rec := fun T2 => f_L_law_L23 L xs x M (M + 6) fu T2 (oI i + 5)) (st_cheapest hI (xs (i + 1)) (xs (i + 2))) ih
    rw [if_neg c24]
    by_cases c25 : (xs i &&& 31) = 25
    · rw [if_pos c25]
      simp only [s1, Option.bind_some]
      exact st_go (f := fun T => f_L_mate T x (xs (i + 1)) (M + 6)) (g := fun T => f_X7_mate T M (xs (i + 1))) (rec := fun T2 => f_L_law_L23 L xs x M (M + 6) fu T2 (oI i + 5)) (st_mate hI (xs (i + 1))) ih
    rw [if_neg c25]
    by_cases c26 : (xs i &&& 31) = 26
    · rw [if_pos c26]
      obtain ⟨v, T2, r1, r2, r3, r4, r5, r6⟩ := st_mean hI
      simp only [r1, r2, r3, r4, Option.bind_some, cv_eq r5, if_true]
      exact ih T2 r6
    rw [if_neg c26]
    by_cases c27 : (xs i &&& 31) = 27
    · rw [if_pos c27]
      obtain ⟨v, T1, T2, r1, r2, r3, r4, r5⟩ := st_digest hI
      simp only [r1, r2, r3, r4, Option.bind_some, lg_self, if_true]
      exact ih T2 r5
    rw [if_neg c27]
    exact ih T hI
theorem law_fn {L : Nat} (hL : L ≤ 2560) (sz : Nat) (xs : Nat → Int32) : f_L_law (fun _ => none) sz L xs = some 1 := by
  obtain ⟨T, m1, m2⟩ := m_init (S := WS (fun _ => none) sz W0 R0) (M := sz + 189)
  have hI : Iv sz (sz + 189) (va_up T (sz + 189 + 6) (some (arJ 1 (fun _ => 0)))) :=
    ⟨fun _ => none, W0, R0, A0, fun _ => 0, 0, fun _ => 0, Cn0, 0, fun _ => Cn0, 0, fun _ => 0, m2, Nat.le_refl _, Cls_0, okS_0, TxW_0 _, Mod_0, TxM_0 _⟩
  obtain ⟨T', e⟩ := law_L (xs := xs) hL 513 0 _ hI (Nat.zero_le _) (by omega)
  rw [show (oI 0 : Int32) = 0 from rfl] at e
  have c1 := c_init (S := fun _ => none) (x := sz)
  simp only [f_L_law, c1, Option.bind_some, m1, e, Sum.elim_inr]
