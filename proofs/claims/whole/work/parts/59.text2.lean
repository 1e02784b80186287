/-! THE TEXT: the class's reading -/
theorem whole_b {m : Nat} (hm : m ≤ 3) {S : St} {x : Nat} {W : Nat → Nat → Int32} {R : Nat → Nat → Nat} (h : W 185 2 = oI m) : f_X5_partIsWhole (WS S x W R) (x + 185) = some (if m = 1 ∨ m = 3 then 1 else 0) := by
  simp (disch := omega) only [f_X5_partIsWhole, g_4_2 kd_185, h, l1, l3, oI_eq, Option.bind_some, reduceIte, if_true, if_false]
  by_cases c1 : m = 1
  · simp only [c1, true_or, Option.bind_some, reduceIte, if_true, if_false]
    rw [← l1, zz1]
    rfl
  · by_cases c3 : m = 3
    · simp only [c3, or_true, show ¬ (3 : Nat) = 1 by decide, Option.bind_some, reduceIte, if_true, if_false]
      rw [← l1, zz1]
      rfl
    · simp only [c1, c3, or_self, Option.bind_some, reduceIte, if_true, if_false, zz0]
theorem x5_accept {S : St} {x : Nat} {W : Nat → Nat → Int32} {R : Nat → Nat → Nat} {c : Nat} {s : Ts} (h : TmW W s) (ok : okT s) (hc : c ≤ 126) :
    ∃ W' : Nat → Nat → Int32, f_X5_accept (WS S x W R) (x + 185) (oI c) = some (if (stp c s).isSome = true then 1 else 0, WS S x W' R) ∧ FrX W W' ∧ ∀ s', stp c s = some s' → TmW W' s' := by
  by_cases hd : 48 ≤ c ∧ c ≤ 57
  · obtain ⟨W', e1, e2, e3⟩ := x5_digit (S := S) (x := x) (R := R) (d := c - 48) h ok (by omega)
    rw [show 48 + (c - 48) = c by omega] at e1 e3
    refine ⟨W', ?_, e2, e3⟩
    have hz : zz (if (stp c s).isSome = true then 1 else 0) = some () := by
      split
      · exact zz1
      · exact zz0
    simp (disch := omega) only [f_X5_accept, show (48 : Int32) = oI 48 from rfl, show (57 : Int32) = oI 57 from rfl, oI_lt, show ¬ c < 48 by omega, show ¬ 57 < c by omega, o_4 kd_185, oI_sub, e1, hz, Option.bind_some, reduceIte, if_true, if_false]
  · obtain ⟨m, v, k⟩ := s
    obtain ⟨h1, h2⟩ := h
    have o1 := ok.1
    dsimp only at h1 h2 o1
    have es : stp c (m, v, k) = if c = 44 ∧ (m = 1 ∨ m = 3) then some (0, 0, 0) else if c = 42 ∧ m = 1 then some (2, v, 1) else none := by
      unfold stp; rw [if_neg hd]
    have hw := whole_b (S := S) (x := x) (R := R) o1 h1
    have k1 : m = 1 → k = 1 := ok.2.2.2.2
    have main : ∃ W' : Nat → Nat → Int32, (if oI c = 44 then (oO (WS S x W R) (x + 185) 4).bind fun _ => (f_X5_partIsWhole (WS S x W R) (x + 185)).bind fun x11 => if x11 = 0 then (if oI c = 42 then (gI (WS S x W R) (x + 185) 4 2).bind fun x14 => if x14 = 1 then (pI (WS S x W R) (x + 185) 4 2 2).bind fun Z17 => some (1, Z17) else some (0, WS S x W R) else some (0, WS S x W R)) else (pI (WS S x W R) (x + 185) 4 2 0).bind fun Z19 => some (1, Z19)
      else if oI c = 42 then (gI (WS S x W R) (x + 185) 4 2).bind fun x4 => if x4 = 1 then (pI (WS S x W R) (x + 185) 4 2 2).bind fun Z7 => some (1, Z7) else some (0, WS S x W R) else some (0, WS S x W R) : Option (Int32 × St)) = some (if (stp c (m, v, k)).isSome = true then 1 else 0, WS S x W' R) ∧ FrX W W' ∧ ∀ s', stp c (m, v, k) = some s' → TmW W' s' := by
      by_cases c44 : c = 44
      · subst c44
        by_cases hm : m = 1 ∨ m = 3
        · have e' : stp 44 (m, v, k) = some (0, 0, 0) := by rw [es, if_pos ⟨rfl, hm⟩]
          refine ⟨up2 W 185 2 0, ?_, FrX_up W 2 _ (by decide), fun s' e => ?_⟩
          · simp only [e', show ((oI 44 : Int32) = 44) = True from eq_true rfl, o_4 kd_185, hw, if_pos hm, show ¬ (1 : Int32) = 0 by decide, p_4_2 kd_185, Option.isSome, Option.bind_some, reduceIte, if_true, if_false]
          · rw [e'] at e
            injection e with e
            subst e
            exact ⟨up2_eq _ _ _ _, fun e => absurd rfl e⟩
        · have e' : stp 44 (m, v, k) = none := by rw [es, if_neg (fun e => hm e.2), if_neg (fun e => absurd e.1 (by decide))]
          refine ⟨W, ?_, FrX_refl W, fun s' e => ?_⟩
          · simp only [e', show ((oI 44 : Int32) = 44) = True from eq_true rfl, show ((oI 44 : Int32) = 42) = False by decide, o_4 kd_185, hw, if_neg hm, Option.isSome, Bool.false_eq_true, Option.bind_some, reduceIte, if_true, if_false]
          · rw [e'] at e
            exact absurd e (by simp)
      · have n44 : (oI c = 44) = False := by rw [show (44 : Int32) = oI 44 from rfl, oI_eq (by omega) (by omega)]; exact eq_false c44
        by_cases c42 : c = 42 ∧ m = 1
        · obtain ⟨rfl, rfl⟩ := c42
          obtain ⟨h3, h4⟩ := h2 (by decide)
          have e' : stp 42 (1, v, k) = some (2, v, 1) := by rw [es, if_neg (fun e => c44 e.1), if_pos ⟨rfl, rfl⟩]
          refine ⟨up2 W 185 2 2, ?_, FrX_up W 2 _ (by decide), fun s' e => ?_⟩
          · simp only [e', n44, show ((oI 42 : Int32) = 42) = True from eq_true rfl, g_4_2 kd_185, h1, show ((oI 1 : Int32) = 1) = True from eq_true rfl, p_4_2 kd_185, Option.isSome, Option.bind_some, reduceIte, if_true, if_false]
          · rw [e'] at e
            injection e with e
            subst e
            exact ⟨up2_eq _ _ _ _, fun _ => ⟨by rw [up2_ne _ _ (by omega)]; exact h3, by rw [up2_ne _ _ (by omega), h4, k1 rfl]⟩⟩
        · have e' : stp c (m, v, k) = none := by rw [es, if_neg (fun e => c44 e.1), if_neg c42]
          refine ⟨W, ?_, FrX_refl W, fun s' e => ?_⟩
          · by_cases d42 : c = 42
            · have n1 : (oI m = 1) = False := by rw [l1, oI_eq (by omega) (by omega)]; exact eq_false (fun e => c42 ⟨d42, e⟩)
              subst d42
              simp only [e', n44, show ((oI 42 : Int32) = 42) = True from eq_true rfl, g_4_2 kd_185, h1, n1, Option.isSome, Bool.false_eq_true, Option.bind_some, reduceIte, if_true, if_false]
            · have n42 : (oI c = 42) = False := by rw [show (42 : Int32) = oI 42 from rfl, oI_eq (by omega) (by omega)]; exact eq_false d42
              simp only [e', n44, n42, Option.isSome, Bool.false_eq_true, Option.bind_some, reduceIte, if_true, if_false]
          · rw [e'] at e
            exact absurd e (by simp)
    obtain ⟨W', e1, e2, e3⟩ := main
    refine ⟨W', ?_, e2, e3⟩
    rw [← e1]
    by_cases c48 : c < 48
    · have h48 : (oI c < 48) = True := by rw [show (48 : Int32) = oI 48 from rfl, oI_lt (by omega) (by omega)]; exact eq_true c48
      simp only [f_X5_accept, h48, Option.bind_some, reduceIte, if_true, if_false]
    · have h48 : (oI c < 48) = False := by rw [show (48 : Int32) = oI 48 from rfl, oI_lt (by omega) (by omega)]; exact eq_false c48
      have h57 : ((57 : Int32) < oI c) = True := by rw [show (57 : Int32) = oI 57 from rfl, oI_lt (by omega) (by omega)]; exact eq_true (by omega)
      simp only [f_X5_accept, h48, h57, Option.bind_some, reduceIte, if_true, if_false]
