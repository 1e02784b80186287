/-! THE TEXT: spelled into the trial row, the class's side -/
def isW (s : Ts) : Prop := s.1 = 1 ∨ s.1 = 3
/-- the row after the first i signs: the parts that a comma ended -/
def rowT (t : Nat → Nat) : Nat → Nat × (Nat → Nat)
  | 0 => (0, fun _ => 0)
  | i + 1 => if t i = 44 then ((rowT t i).1 + ((rnT t i).getD (0, 0, 0)).2.2, fun y => if y < (rowT t i).1 then (rowT t i).2 y else ((rnT t i).getD (0, 0, 0)).2.1) else rowT t i
theorem okT_g {t : Nat → Nat} {i : Nat} : okT ((rnT t i).getD (0, 0, 0)) := by
  cases h : rnT t i with
  | none => exact okT_0
  | some s => exact okT_rn h
theorem rowT_255 (t : Nat → Nat) : ∀ i y, (rowT t i).2 y ≤ 255
  | 0, y => by show 0 ≤ 255; omega
  | i + 1, y => by
    rw [rowT]
    split
    · dsimp only
      split
      · exact rowT_255 t i y
      · exact (okT_g (t := t) (i := i)).2.1
    · exact rowT_255 t i y
theorem rowT_mono (t : Nat → Nat) : ∀ m i, i ≤ m → (rowT t i).1 ≤ (rowT t m).1
  | 0, i, h => by have : i = 0 := by omega
                  rw [this]; exact Nat.le_refl _
  | m + 1, i, h => by
    by_cases e : i = m + 1
    · rw [e]; exact Nat.le_refl _
    · have := rowT_mono t m i (by omega)
      rw [rowT]
      split
      · dsimp only; omega
      · exact this
def FrY (W W' : Nat → Nat → Int32) : Prop := (∀ o, o ≠ 185 → o ≠ 187 → o ≠ 188 → W' o = W o) ∧ W' 185 1 = W 185 1
theorem FrY_trans {W W1 W2 : Nat → Nat → Int32} (h : FrY W W1) (k : FrY W1 W2) : FrY W W2 := ⟨fun o a b c => (k.1 o a b c).trans (h.1 o a b c), k.2.trans h.2⟩
theorem FrY_X {W W' : Nat → Nat → Int32} (h : FrX W W') : FrY W W' := ⟨fun o a _ _ => h.1 o a, h.2⟩
theorem FrY_r {W W' : Nat → Nat → Int32} (h : Fr2 W W' 187) : FrY W W' := ⟨fun o _ b c => h o b c, by rw [h 185 (by decide) (by decide)]⟩
theorem FrY_refl (W : Nat → Nat → Int32) : FrY W W := ⟨fun _ _ _ _ => rfl, rfl⟩
theorem TxW_Y {W W' : Nat → Nat → Int32} {len : Nat} {t : Nat → Nat} (h : TxW W len t) (f : FrY W W') : TxW W' len t := ⟨by rw [f.2]; exact h.1, h.2.1, fun i hi => by rw [f.1 186 (by decide) (by decide) (by decide)]; exact h.2.2 i hi⟩
theorem TmW_r {W W' : Nat → Nat → Int32} {s : Ts} (h : TmW W s) (f : Fr2 W W' 187) : TmW W' s := by
  unfold TmW
  rw [f 185 (by decide) (by decide)]
  exact h
/-- a part ended: pushed where there is room -/
theorem x5_end {S : St} {x : Nat} {W : Nat → Nat → Int32} {R : Nat → Nat → Nat} {s : Ts} {n : Nat} {g : Nat → Nat} (h : TmW W s) (ok : okT s) (hr : RwW W 187 n g) (hw : isW s) (hn : n + s.2.2 ≤ 24) :
    ∃ W', f_X5_endPart (WS S x W R) (x + 185) (x + 187) = some (1, WS S x W' R) ∧ RwW W' 187 (n + s.2.2) (fun i => if i < n then g i else s.2.1) ∧ Fr2 W W' 187 := by
  have hne : s.1 ≠ 0 := by rcases hw with h | h <;> omega
  obtain ⟨h3, h4⟩ := h.2 hne
  obtain ⟨W', p1, p2, p3⟩ := x4_push (S := S) (x := x) (R := R) (k := s.2.2) kd_187 hr ok.2.1 hn
  refine ⟨W', ?_, p2, p3⟩
  simp only [f_X5_endPart, o_4 kd_185, whole_b ok.1 h.1, if_pos (show s.1 = 1 ∨ s.1 = 3 from hw), show ¬ (1 : Int32) = 0 by decide, g_4_3 kd_185, h3, g_4_4 kd_185, h4, o_3 kd_187, p1, zz1, Option.bind_some, reduceIte, if_true, if_false]
theorem x5_end_no {S : St} {x : Nat} {W : Nat → Nat → Int32} {R : Nat → Nat → Nat} {s : Ts} {n : Nat} {g : Nat → Nat} (h : TmW W s) (ok : okT s) (hr : RwW W 187 n g) (hn : ¬ (isW s ∧ n + s.2.2 ≤ 24)) : f_X5_endPart (WS S x W R) (x + 185) (x + 187) = some (0, WS S x W R) := by
  by_cases hw : isW s
  · have hne : s.1 ≠ 0 := by rcases hw with h | h <;> omega
    obtain ⟨h3, h4⟩ := h.2 hne
    have h24 := ok.2.2.1
    have p1 := x4_push_no (S := S) (x := x) (R := R) (k := s.2.2) (w := oI s.2.1) kd_187 hr (by omega) (by by_cases c : 24 < n + s.2.2; exact c; exact absurd ⟨hw, by omega⟩ hn)
    simp only [f_X5_endPart, o_4 kd_185, whole_b ok.1 h.1, if_pos (show s.1 = 1 ∨ s.1 = 3 from hw), show ¬ (1 : Int32) = 0 by decide, g_4_3 kd_185, h3, g_4_4 kd_185, h4, o_3 kd_187, p1, zz0, Option.bind_some, reduceIte, if_true, if_false]
  · simp only [f_X5_endPart, o_4 kd_185, whole_b ok.1 h.1, if_neg (show ¬ (s.1 = 1 ∨ s.1 = 3) from hw), zz0, Option.bind_some, reduceIte, if_true, if_false]
