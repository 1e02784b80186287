/-! THE TEXT: one step of reading, the class's side -/
abbrev Ts : Type := Nat × Nat × Nat
/-- one sign: mode 0 nothing yet, 1 in a value, 2 after the star, 3 in the times -/
def stp (c : Nat) (s : Ts) : Option Ts :=
  if 48 ≤ c ∧ c ≤ 57 then
    if s.1 = 0 then some (1, c - 48, 1)
    else if s.1 = 1 then (if 10 ≤ 10 * s.2.1 + (c - 48) ∧ 10 * s.2.1 + (c - 48) ≤ 255 then some (1, 10 * s.2.1 + (c - 48), 1) else none)
    else if s.1 = 2 then (if 1 ≤ c - 48 then some (3, s.2.1, c - 48) else none)
    else if 10 * s.2.2 + (c - 48) ≤ 24 then some (3, s.2.1, 10 * s.2.2 + (c - 48)) else none
  else if c = 44 ∧ (s.1 = 1 ∨ s.1 = 3) then some (0, 0, 0)
  else if c = 42 ∧ s.1 = 1 then some (2, s.2.1, 1) else none
def okT (s : Ts) : Prop := s.1 ≤ 3 ∧ s.2.1 ≤ 255 ∧ s.2.2 ≤ 24 ∧ (s.1 = 3 → 1 ≤ s.2.2) ∧ (s.1 = 1 → s.2.2 = 1)
theorem okT_stp {c : Nat} {s s' : Ts} (h : okT s) (e : stp c s = some s') : okT s' := by
  obtain ⟨h1, h2, h3, h4, h5⟩ := h
  unfold stp at e
  unfold okT
  repeat' split at e
  all_goals first
    | (injection e with e; subst e; dsimp only; omega)
    | exact absurd e (by simp)
def TmW (W : Nat → Nat → Int32) (s : Ts) : Prop := W 185 2 = oI s.1 ∧ (s.1 ≠ 0 → W 185 3 = oI s.2.1 ∧ W 185 4 = oI s.2.2)
def FrX (W W' : Nat → Nat → Int32) : Prop := (∀ o, o ≠ 185 → W' o = W o) ∧ W' 185 1 = W 185 1
theorem FrX_refl (W : Nat → Nat → Int32) : FrX W W := ⟨fun _ _ => rfl, rfl⟩
theorem FrX_trans {W W1 W2 : Nat → Nat → Int32} (h : FrX W W1) (k : FrX W1 W2) : FrX W W2 := ⟨fun o c => (k.1 o c).trans (h.1 o c), k.2.trans h.2⟩
theorem FrX_up (W : Nat → Nat → Int32) (k : Nat) (v : Int32) (hk : k ≠ 1) : FrX W (up2 W 185 k v) := ⟨fun o c => up2_row W v c, up2_ne W v (fun e => hk e.2.symm)⟩
theorem x5_digit {S : St} {x : Nat} {W : Nat → Nat → Int32} {R : Nat → Nat → Nat} {d : Nat} {s : Ts} (h : TmW W s) (ok : okT s) (hd : d ≤ 9) :
    ∃ W' : Nat → Nat → Int32, f_X5_acceptDigit (WS S x W R) (x + 185) (oI d) = some (if (stp (48 + d) s).isSome = true then 1 else 0, WS S x W' R) ∧ FrX W W' ∧ ∀ s', stp (48 + d) s = some s' → TmW W' s' := by
  obtain ⟨m, v, k⟩ := s
  obtain ⟨h1, h2⟩ := h
  obtain ⟨o1, o2, o3, o4, o5⟩ := ok
  dsimp only at h1 h2 o1 o2 o3 o4 o5
  have hin : 48 ≤ 48 + d ∧ 48 + d ≤ 57 := by omega
  have hsub : 48 + d - 48 = d := by omega
  have hm : m = 0 ∨ m = 1 ∨ m = 2 ∨ m = 3 := by omega
  rcases hm with rfl | rfl | rfl | rfl
  · have es : stp (48 + d) (0, v, k) = some (1, d, 1) := by
      unfold stp; rw [if_pos hin, hsub, if_pos rfl]
    refine ⟨up2 (up2 (up2 W 185 2 1) 185 3 (oI d)) 185 4 1, ?_, FrX_trans (FrX_trans (FrX_up W 2 _ (by decide)) (FrX_up _ 3 _ (by decide))) (FrX_up _ 4 _ (by decide)), fun s' e => ?_⟩
    · rw [es]
      simp only [f_X5_acceptDigit, g_4_2 kd_185, h1, show ((oI 0 : Int32) = 0) = True from eq_true rfl, p_4_2 kd_185, p_4_3 kd_185, p_4_4 kd_185, Option.isSome, Option.bind_some, reduceIte, if_true, if_false]
    · rw [es] at e
      injection e with e
      subst e
      exact ⟨by simp [up2]; rfl, fun _ => ⟨by simp [up2], by simp [up2]; rfl⟩⟩
  · obtain ⟨h3, h4⟩ := h2 (by decide)
    have es : stp (48 + d) (1, v, k) = if 10 ≤ 10 * v + d ∧ 10 * v + d ≤ 255 then some (1, 10 * v + d, 1) else none := by
      unfold stp; rw [if_pos hin, hsub, if_neg (by dsimp only; omega), if_pos rfl]
    have k1 : k = 1 := o5 rfl
    refine ⟨up2 W 185 3 (oI (10 * v + d)), ?_, FrX_up _ 3 _ (by decide), fun s' e => ?_⟩
    · rw [es]
      simp (disch := omega) only [f_X5_acceptDigit, g_4_2 kd_185, h1, show ((oI 1 : Int32) = 0) = False by decide, show ((oI 1 : Int32) = 1) = True from eq_true rfl, g_4_3 kd_185, h3, l10, oI_mul, oI_add, p_4_3 kd_185, up2_eq, oI_lt, l255, Option.bind_some, reduceIte, if_true, if_false]
      by_cases c : 10 * v + d < 10
      · simp only [c, show ¬ (10 ≤ 10 * v + d ∧ 10 * v + d ≤ 255) by omega, zz0, Option.isSome, Option.bind_some, reduceIte, if_true, if_false, Bool.false_eq_true]
      · by_cases c2 : 255 < 10 * v + d
        · simp only [c, c2, show ¬ (10 ≤ 10 * v + d ∧ 10 * v + d ≤ 255) by omega, zz0, Option.isSome, Option.bind_some, reduceIte, if_true, if_false, Bool.false_eq_true]
        · rw [if_pos (show 10 ≤ 10 * v + d ∧ 10 * v + d ≤ 255 by omega)]
          simp only [c, c2, zz1, Option.isSome, Option.bind_some, reduceIte, if_true, if_false]
    · rw [es] at e
      split at e
      · injection e with e
        subst e
        exact ⟨by rw [up2_ne _ _ (by omega)]; exact h1, fun _ => ⟨up2_eq _ _ _ _, by rw [up2_ne _ _ (by omega), h4, k1]⟩⟩
      · exact absurd e (by simp)
  · obtain ⟨h3, h4⟩ := h2 (by decide)
    have es : stp (48 + d) (2, v, k) = if 1 ≤ d then some (3, v, d) else none := by
      unfold stp; rw [if_pos hin, hsub, if_neg (by dsimp only; omega), if_neg (by dsimp only; omega), if_pos rfl]
    refine ⟨up2 (up2 W 185 2 3) 185 4 (oI d), ?_, FrX_trans (FrX_up W 2 _ (by decide)) (FrX_up _ 4 _ (by decide)), fun s' e => ?_⟩
    · rw [es]
      simp (disch := omega) only [f_X5_acceptDigit, g_4_2 kd_185, h1, show ((oI 2 : Int32) = 0) = False by decide, show ((oI 2 : Int32) = 1) = False by decide, show ((oI 2 : Int32) = 2) = True from eq_true rfl, p_4_2 kd_185, p_4_4 kd_185, g_4_4 kd_185, up2_eq, show (oI d < (1 : Int32)) = (d < 1) from oI_lt (b := 1) (show d < 2147483648 by omega) (by decide), Option.bind_some, reduceIte, if_true, if_false]
      by_cases c : d < 1
      · simp only [c, show ¬ 1 ≤ d by omega, zz0, Option.isSome, Option.bind_some, reduceIte, if_true, if_false, Bool.false_eq_true]
      · simp only [c, show 1 ≤ d by omega, zz1, Option.isSome, Option.bind_some, reduceIte, if_true, if_false]
    · rw [es] at e
      split at e
      · injection e with e
        subst e
        exact ⟨by simp [up2]; rfl, fun _ => ⟨by rw [up2_ne _ _ (by omega), up2_ne _ _ (by omega)]; exact h3, up2_eq _ _ _ _⟩⟩
      · exact absurd e (by simp)
  · obtain ⟨h3, h4⟩ := h2 (by decide)
    have es : stp (48 + d) (3, v, k) = if 10 * k + d ≤ 24 then some (3, v, 10 * k + d) else none := by
      unfold stp; rw [if_pos hin, hsub, if_neg (by dsimp only; omega), if_neg (by dsimp only; omega), if_neg (by dsimp only; omega)]
    refine ⟨up2 W 185 4 (oI (10 * k + d)), ?_, FrX_up _ 4 _ (by decide), fun s' e => ?_⟩
    · rw [es]
      simp (disch := omega) only [f_X5_acceptDigit, g_4_2 kd_185, h1, show ((oI 3 : Int32) = 0) = False by decide, show ((oI 3 : Int32) = 1) = False by decide, show ((oI 3 : Int32) = 2) = False by decide, g_4_4 kd_185, h4, l10, oI_mul, oI_add, p_4_4 kd_185, up2_eq, l24, oI_lt, Option.bind_some, reduceIte, if_true, if_false]
      by_cases c : 24 < 10 * k + d
      · simp only [c, show ¬ 10 * k + d ≤ 24 by omega, zz0, Option.isSome, Option.bind_some, reduceIte, if_true, if_false, Bool.false_eq_true]
      · simp only [c, show 10 * k + d ≤ 24 by omega, zz1, Option.isSome, Option.bind_some, reduceIte, if_true, if_false]
    · rw [es] at e
      split at e
      · injection e with e
        subst e
        exact ⟨by rw [up2_ne _ _ (by omega)]; exact h1, fun _ => ⟨by rw [up2_ne _ _ (by omega)]; exact h3, up2_eq _ _ _ _⟩⟩
      · exact absurd e (by simp)
