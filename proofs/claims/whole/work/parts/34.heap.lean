/-! THE CLASS'S HEAP, laid out -/
def ck (e : Nat) : Nat := if e = 0 then 1 else if e = 1 then 11 else if (e - 2) % 3 = 0 then 0 else if (e - 2) % 3 = 1 then 3 else 10
def kd (o : Nat) : Nat := if o = 0 then 5 else if o < 27 then ck (o - 1) else if o = 27 then 2 else if o = 28 then 12 else if o < 185 then ck ((o - 29) % 26) else if o = 185 then 4 else if o = 186 then 14 else if o = 187 then 3 else if o = 188 then 10 else 99
def cellW (x : Nat) (W : Nat → Nat → Int32) (R : Nat → Nat → Nat) (o : Nat) : Cl :=
  if kd o = 0 then .inl (0, [.ref (x + (o + 1)), .int (W o 1), .int (W o 2), .int (W o 3), .int (W o 4), .int (W o 5), .int (W o 6), .int (W o 7)])
  else if kd o = 1 then .inl (1, [.ref (x + (o + 1)), .int (W o 1), .int (W o 2), .int (W o 3), .int (W o 4)])
  else if kd o = 2 then .inl (2, [.ref (x + (o + 1)), .int (W o 1)])
  else if kd o = 3 then .inl (3, [.ref (x + (o + 1)), .int (W o 1)])
  else if kd o = 4 then .inl (4, [.ref (x + (o + 1)), .int (W o 1), .int (W o 2), .int (W o 3), .int (W o 4)])
  else if kd o = 5 then .inl (5, [.ref (x + 1), .ref (x + 27), .ref (x + 185), .ref (x + 187)])
  else if kd o = 10 then arI 24 (W o)
  else if kd o = 14 then arI 60 (W o)
  else if kd o = 11 then arR 1 8 (fun i => if i < 8 then some (x + R o i) else none)
  else arR 2 6 (fun i => if i < 6 then some (x + R o i) else none)
def WS (S : St) (x : Nat) (W : Nat → Nat → Int32) (R : Nat → Nat → Nat) : St := fun a => if x ≤ a ∧ a < x + 189 then some (cellW x W R (a - x)) else S a
def up2 {β : Type} (W : Nat → Nat → β) (o k : Nat) (v : β) : Nat → Nat → β := fun o' k' => if o' = o ∧ k' = k then v else W o' k'
theorem up2_eq {β : Type} (W : Nat → Nat → β) (o k : Nat) (v : β) : up2 W o k v o k = v := by simp [up2]
theorem up2_ne {β : Type} (W : Nat → Nat → β) {o k o' k' : Nat} (v : β) (h : ¬ (o' = o ∧ k' = k)) : up2 W o k v o' k' = W o' k' := if_neg h
theorem up2_row {β : Type} (W : Nat → Nat → β) {o k o' : Nat} (v : β) (h : o' ≠ o) : up2 W o k v o' = W o' := by
  funext k'; exact if_neg (fun c => h c.1)
theorem kd_lt {o k : Nat} (h : kd o = k) (hk : k ≠ 99) : o < 189 := by
  unfold kd at h
  by_cases c : o < 189
  · exact c
  · simp only [show ¬ o = 0 by omega, show ¬ o < 27 by omega, show ¬ o = 27 by omega, show ¬ o = 28 by omega, show ¬ o < 185 by omega, show ¬ o = 185 by omega, show ¬ o = 186 by omega, show ¬ o = 187 by omega, show ¬ o = 188 by omega, if_false] at h
    omega
theorem WS_at {S : St} {x : Nat} {W : Nat → Nat → Int32} {R : Nat → Nat → Nat} {o : Nat} (h : o < 189) : WS S x W R (x + o) = some (cellW x W R o) := by
  unfold WS
  rw [if_pos ⟨by omega, by omega⟩, Nat.add_sub_cancel_left]
theorem cellW_congr {x : Nat} {W W' : Nat → Nat → Int32} {R R' : Nat → Nat → Nat} {o : Nat} (h : W' o = W o) (h' : R' o = R o) : cellW x W' R' o = cellW x W R o := by
  unfold cellW
  rw [h, h']
theorem WS_up {S : St} {x : Nat} {W W' : Nat → Nat → Int32} {R R' : Nat → Nat → Nat} {o : Nat} {c : Cl} (h : o < 189) (hW : ∀ o', o' ≠ o → W' o' = W o') (hR : ∀ o', o' ≠ o → R' o' = R o') (hc : cellW x W' R' o = c) :
    va_up (WS S x W R) (x + o) (some c) = WS S x W' R' := by
  funext a
  unfold va_up WS
  by_cases e : a = x + o
  · subst e
    simp only [if_true, Nat.add_sub_cancel_left, hc, show x ≤ x + o ∧ x + o < x + 189 from ⟨by omega, by omega⟩, and_self]
  · by_cases c2 : x ≤ a ∧ a < x + 189
    · rw [if_neg e, if_pos c2, if_pos c2, cellW_congr (hW (a - x) (by omega)) (hR (a - x) (by omega))]
    · rw [if_neg e, if_neg c2, if_neg c2]
set_option maxRecDepth 20000 in
theorem kd0 {o : Nat} (h : kd o = 0) : kd (o + 1) = 3 ∧ kd (o + 2) = 10 := by
  have hl := kd_lt h (by omega)
  exact (show ∀ o, o < 189 → kd o = 0 → kd (o + 1) = 3 ∧ kd (o + 2) = 10 by decide) o hl h
set_option maxRecDepth 20000 in
theorem kd1 {o : Nat} (h : kd o = 1) : kd (o + 1) = 11 := by
  have hl := kd_lt h (by omega)
  exact (show ∀ o, o < 189 → kd o = 1 → kd (o + 1) = 11 by decide) o hl h
set_option maxRecDepth 20000 in
theorem kd3 {o : Nat} (h : kd o = 3) : kd (o + 1) = 10 := by
  have hl := kd_lt h (by omega)
  exact (show ∀ o, o < 189 → kd o = 3 → kd (o + 1) = 10 by decide) o hl h
theorem aR_of {S : St} {a t n : Nat} {f : Nat → Option Nat} (h : S a = some (arR t n f)) {k : Nat} (hk : k < n) (hn : n < 2147483648) : aR S a t (oI k) = f k := by
  simp only [aR, h, oI_nat (show k < 2147483648 by omega), oI_n0 (show k < 2147483648 by omega)]
  rw [if_pos ⟨trivial, by simp; omega⟩]
theorem sR_of {S : St} {a t ci y n : Nat} {f : Nat → Option Nat} (h : S a = some (arR t n f)) (ho : oO S y ci = some ()) {k : Nat} (hk : k < n) (hn : n < 2147483648) : sR S a t ci (oI k) y = some (va_up S a (some (arR t n (va_up f k (some y))))) := by
  simp only [sR, h, oI_nat (show k < 2147483648 by omega), oI_n0 (show k < 2147483648 by omega), ho]
  rw [if_pos ⟨trivial, by simp; omega⟩]
  rfl
theorem cw_0 {x : Nat} {W : Nat → Nat → Int32} {R : Nat → Nat → Nat} {o : Nat} (h : kd o = 0) : cellW x W R o = .inl (0, [.ref (x + (o + 1)), .int (W o 1), .int (W o 2), .int (W o 3), .int (W o 4), .int (W o 5), .int (W o 6), .int (W o 7)]) := by
  simp only [cellW, h, reduceIte]
theorem o_0 {S : St} {x : Nat} {W : Nat → Nat → Int32} {R : Nat → Nat → Nat} {o : Nat} (h : kd o = 0) : oO (WS S x W R) (x + o) 0 = some () := by
  simp only [oO, WS_at (kd_lt h (by decide)), cw_0 h, reduceIte]
theorem r_0 {S : St} {x : Nat} {W : Nat → Nat → Int32} {R : Nat → Nat → Nat} {o : Nat} (h : kd o = 0) : gR (WS S x W R) (x + o) 0 0 = some (x + (o + 1)) := by
  simp only [gR, WS_at (kd_lt h (by decide)), cw_0 h, reduceIte]
  rfl
theorem g_0_1 {S : St} {x : Nat} {W : Nat → Nat → Int32} {R : Nat → Nat → Nat} {o : Nat} (h : kd o = 0) : gI (WS S x W R) (x + o) 0 1 = some (W o 1) := by
  simp only [gI, WS_at (kd_lt h (by decide)), cw_0 h, reduceIte]
  rfl
theorem p_0_1 {S : St} {x : Nat} {W : Nat → Nat → Int32} {R : Nat → Nat → Nat} {o : Nat} (h : kd o = 0) (v : Int32) : pI (WS S x W R) (x + o) 0 1 v = some (WS S x (up2 W o 1 v) R) := by
  simp only [pI, pV, WS_at (kd_lt h (by decide)), cw_0 h, List.length, true_and]
  rw [if_pos (by decide)]
  refine congrArg some (WS_up (kd_lt h (by decide)) (fun o' e => up2_row W v e) (fun _ _ => rfl) ?_)
  rw [cw_0 h]
  simp [up2]
theorem g_0_2 {S : St} {x : Nat} {W : Nat → Nat → Int32} {R : Nat → Nat → Nat} {o : Nat} (h : kd o = 0) : gI (WS S x W R) (x + o) 0 2 = some (W o 2) := by
  simp only [gI, WS_at (kd_lt h (by decide)), cw_0 h, reduceIte]
  rfl
theorem p_0_2 {S : St} {x : Nat} {W : Nat → Nat → Int32} {R : Nat → Nat → Nat} {o : Nat} (h : kd o = 0) (v : Int32) : pI (WS S x W R) (x + o) 0 2 v = some (WS S x (up2 W o 2 v) R) := by
  simp only [pI, pV, WS_at (kd_lt h (by decide)), cw_0 h, List.length, true_and]
  rw [if_pos (by decide)]
  refine congrArg some (WS_up (kd_lt h (by decide)) (fun o' e => up2_row W v e) (fun _ _ => rfl) ?_)
  rw [cw_0 h]
  simp [up2]
theorem g_0_3 {S : St} {x : Nat} {W : Nat → Nat → Int32} {R : Nat → Nat → Nat} {o : Nat} (h : kd o = 0) : gI (WS S x W R) (x + o) 0 3 = some (W o 3) := by
  simp only [gI, WS_at (kd_lt h (by decide)), cw_0 h, reduceIte]
  rfl
theorem p_0_3 {S : St} {x : Nat} {W : Nat → Nat → Int32} {R : Nat → Nat → Nat} {o : Nat} (h : kd o = 0) (v : Int32) : pI (WS S x W R) (x + o) 0 3 v = some (WS S x (up2 W o 3 v) R) := by
  simp only [pI, pV, WS_at (kd_lt h (by decide)), cw_0 h, List.length, true_and]
  rw [if_pos (by decide)]
  refine congrArg some (WS_up (kd_lt h (by decide)) (fun o' e => up2_row W v e) (fun _ _ => rfl) ?_)
  rw [cw_0 h]
  simp [up2]
theorem g_0_4 {S : St} {x : Nat} {W : Nat → Nat → Int32} {R : Nat → Nat → Nat} {o : Nat} (h : kd o = 0) : gI (WS S x W R) (x + o) 0 4 = some (W o 4) := by
  simp only [gI, WS_at (kd_lt h (by decide)), cw_0 h, reduceIte]
  rfl
theorem p_0_4 {S : St} {x : Nat} {W : Nat → Nat → Int32} {R : Nat → Nat → Nat} {o : Nat} (h : kd o = 0) (v : Int32) : pI (WS S x W R) (x + o) 0 4 v = some (WS S x (up2 W o 4 v) R) := by
  simp only [pI, pV, WS_at (kd_lt h (by decide)), cw_0 h, List.length, true_and]
  rw [if_pos (by decide)]
  refine congrArg some (WS_up (kd_lt h (by decide)) (fun o' e => up2_row W v e) (fun _ _ => rfl) ?_)
  rw [cw_0 h]
  simp [up2]
theorem g_0_5 {S : St} {x : Nat} {W : Nat → Nat → Int32} {R : Nat → Nat → Nat} {o : Nat} (h : kd o = 0) : gI (WS S x W R) (x + o) 0 5 = some (W o 5) := by
  simp only [gI, WS_at (kd_lt h (by decide)), cw_0 h, reduceIte]
  rfl
theorem p_0_5 {S : St} {x : Nat} {W : Nat → Nat → Int32} {R : Nat → Nat → Nat} {o : Nat} (h : kd o = 0) (v : Int32) : pI (WS S x W R) (x + o) 0 5 v = some (WS S x (up2 W o 5 v) R) := by
  simp only [pI, pV, WS_at (kd_lt h (by decide)), cw_0 h, List.length, true_and]
  rw [if_pos (by decide)]
  refine congrArg some (WS_up (kd_lt h (by decide)) (fun o' e => up2_row W v e) (fun _ _ => rfl) ?_)
  rw [cw_0 h]
  simp [up2]
theorem g_0_6 {S : St} {x : Nat} {W : Nat → Nat → Int32} {R : Nat → Nat → Nat} {o : Nat} (h : kd o = 0) : gI (WS S x W R) (x + o) 0 6 = some (W o 6) := by
  simp only [gI, WS_at (kd_lt h (by decide)), cw_0 h, reduceIte]
  rfl
theorem p_0_6 {S : St} {x : Nat} {W : Nat → Nat → Int32} {R : Nat → Nat → Nat} {o : Nat} (h : kd o = 0) (v : Int32) : pI (WS S x W R) (x + o) 0 6 v = some (WS S x (up2 W o 6 v) R) := by
  simp only [pI, pV, WS_at (kd_lt h (by decide)), cw_0 h, List.length, true_and]
  rw [if_pos (by decide)]
  refine congrArg some (WS_up (kd_lt h (by decide)) (fun o' e => up2_row W v e) (fun _ _ => rfl) ?_)
  rw [cw_0 h]
  simp [up2]
theorem g_0_7 {S : St} {x : Nat} {W : Nat → Nat → Int32} {R : Nat → Nat → Nat} {o : Nat} (h : kd o = 0) : gI (WS S x W R) (x + o) 0 7 = some (W o 7) := by
  simp only [gI, WS_at (kd_lt h (by decide)), cw_0 h, reduceIte]
  rfl
theorem p_0_7 {S : St} {x : Nat} {W : Nat → Nat → Int32} {R : Nat → Nat → Nat} {o : Nat} (h : kd o = 0) (v : Int32) : pI (WS S x W R) (x + o) 0 7 v = some (WS S x (up2 W o 7 v) R) := by
  simp only [pI, pV, WS_at (kd_lt h (by decide)), cw_0 h, List.length, true_and]
  rw [if_pos (by decide)]
  refine congrArg some (WS_up (kd_lt h (by decide)) (fun o' e => up2_row W v e) (fun _ _ => rfl) ?_)
  rw [cw_0 h]
  simp [up2]
theorem cw_1 {x : Nat} {W : Nat → Nat → Int32} {R : Nat → Nat → Nat} {o : Nat} (h : kd o = 1) : cellW x W R o = .inl (1, [.ref (x + (o + 1)), .int (W o 1), .int (W o 2), .int (W o 3), .int (W o 4)]) := by
  simp only [cellW, h, reduceIte, show ¬ (1 : Nat) = 0 by decide]
theorem o_1 {S : St} {x : Nat} {W : Nat → Nat → Int32} {R : Nat → Nat → Nat} {o : Nat} (h : kd o = 1) : oO (WS S x W R) (x + o) 1 = some () := by
  simp only [oO, WS_at (kd_lt h (by decide)), cw_1 h, reduceIte]
theorem r_1 {S : St} {x : Nat} {W : Nat → Nat → Int32} {R : Nat → Nat → Nat} {o : Nat} (h : kd o = 1) : gR (WS S x W R) (x + o) 1 0 = some (x + (o + 1)) := by
  simp only [gR, WS_at (kd_lt h (by decide)), cw_1 h, reduceIte]
  rfl
theorem g_1_1 {S : St} {x : Nat} {W : Nat → Nat → Int32} {R : Nat → Nat → Nat} {o : Nat} (h : kd o = 1) : gI (WS S x W R) (x + o) 1 1 = some (W o 1) := by
  simp only [gI, WS_at (kd_lt h (by decide)), cw_1 h, reduceIte]
  rfl
theorem p_1_1 {S : St} {x : Nat} {W : Nat → Nat → Int32} {R : Nat → Nat → Nat} {o : Nat} (h : kd o = 1) (v : Int32) : pI (WS S x W R) (x + o) 1 1 v = some (WS S x (up2 W o 1 v) R) := by
  simp only [pI, pV, WS_at (kd_lt h (by decide)), cw_1 h, List.length, true_and]
  rw [if_pos (by decide)]
  refine congrArg some (WS_up (kd_lt h (by decide)) (fun o' e => up2_row W v e) (fun _ _ => rfl) ?_)
  rw [cw_1 h]
  simp [up2]
theorem g_1_2 {S : St} {x : Nat} {W : Nat → Nat → Int32} {R : Nat → Nat → Nat} {o : Nat} (h : kd o = 1) : gI (WS S x W R) (x + o) 1 2 = some (W o 2) := by
  simp only [gI, WS_at (kd_lt h (by decide)), cw_1 h, reduceIte]
  rfl
theorem p_1_2 {S : St} {x : Nat} {W : Nat → Nat → Int32} {R : Nat → Nat → Nat} {o : Nat} (h : kd o = 1) (v : Int32) : pI (WS S x W R) (x + o) 1 2 v = some (WS S x (up2 W o 2 v) R) := by
  simp only [pI, pV, WS_at (kd_lt h (by decide)), cw_1 h, List.length, true_and]
  rw [if_pos (by decide)]
  refine congrArg some (WS_up (kd_lt h (by decide)) (fun o' e => up2_row W v e) (fun _ _ => rfl) ?_)
  rw [cw_1 h]
  simp [up2]
theorem g_1_3 {S : St} {x : Nat} {W : Nat → Nat → Int32} {R : Nat → Nat → Nat} {o : Nat} (h : kd o = 1) : gI (WS S x W R) (x + o) 1 3 = some (W o 3) := by
  simp only [gI, WS_at (kd_lt h (by decide)), cw_1 h, reduceIte]
  rfl
theorem p_1_3 {S : St} {x : Nat} {W : Nat → Nat → Int32} {R : Nat → Nat → Nat} {o : Nat} (h : kd o = 1) (v : Int32) : pI (WS S x W R) (x + o) 1 3 v = some (WS S x (up2 W o 3 v) R) := by
  simp only [pI, pV, WS_at (kd_lt h (by decide)), cw_1 h, List.length, true_and]
  rw [if_pos (by decide)]
  refine congrArg some (WS_up (kd_lt h (by decide)) (fun o' e => up2_row W v e) (fun _ _ => rfl) ?_)
  rw [cw_1 h]
  simp [up2]
theorem g_1_4 {S : St} {x : Nat} {W : Nat → Nat → Int32} {R : Nat → Nat → Nat} {o : Nat} (h : kd o = 1) : gI (WS S x W R) (x + o) 1 4 = some (W o 4) := by
  simp only [gI, WS_at (kd_lt h (by decide)), cw_1 h, reduceIte]
  rfl
theorem p_1_4 {S : St} {x : Nat} {W : Nat → Nat → Int32} {R : Nat → Nat → Nat} {o : Nat} (h : kd o = 1) (v : Int32) : pI (WS S x W R) (x + o) 1 4 v = some (WS S x (up2 W o 4 v) R) := by
  simp only [pI, pV, WS_at (kd_lt h (by decide)), cw_1 h, List.length, true_and]
  rw [if_pos (by decide)]
  refine congrArg some (WS_up (kd_lt h (by decide)) (fun o' e => up2_row W v e) (fun _ _ => rfl) ?_)
  rw [cw_1 h]
  simp [up2]
theorem cw_2 {x : Nat} {W : Nat → Nat → Int32} {R : Nat → Nat → Nat} {o : Nat} (h : kd o = 2) : cellW x W R o = .inl (2, [.ref (x + (o + 1)), .int (W o 1)]) := by
  simp only [cellW, h, reduceIte, show ¬ (2 : Nat) = 0 by decide, show ¬ (2 : Nat) = 1 by decide]
theorem o_2 {S : St} {x : Nat} {W : Nat → Nat → Int32} {R : Nat → Nat → Nat} {o : Nat} (h : kd o = 2) : oO (WS S x W R) (x + o) 2 = some () := by
  simp only [oO, WS_at (kd_lt h (by decide)), cw_2 h, reduceIte]
theorem r_2 {S : St} {x : Nat} {W : Nat → Nat → Int32} {R : Nat → Nat → Nat} {o : Nat} (h : kd o = 2) : gR (WS S x W R) (x + o) 2 0 = some (x + (o + 1)) := by
  simp only [gR, WS_at (kd_lt h (by decide)), cw_2 h, reduceIte]
  rfl
theorem g_2_1 {S : St} {x : Nat} {W : Nat → Nat → Int32} {R : Nat → Nat → Nat} {o : Nat} (h : kd o = 2) : gI (WS S x W R) (x + o) 2 1 = some (W o 1) := by
  simp only [gI, WS_at (kd_lt h (by decide)), cw_2 h, reduceIte]
  rfl
theorem p_2_1 {S : St} {x : Nat} {W : Nat → Nat → Int32} {R : Nat → Nat → Nat} {o : Nat} (h : kd o = 2) (v : Int32) : pI (WS S x W R) (x + o) 2 1 v = some (WS S x (up2 W o 1 v) R) := by
  simp only [pI, pV, WS_at (kd_lt h (by decide)), cw_2 h, List.length, true_and]
  rw [if_pos (by decide)]
  refine congrArg some (WS_up (kd_lt h (by decide)) (fun o' e => up2_row W v e) (fun _ _ => rfl) ?_)
  rw [cw_2 h]
  simp [up2]
theorem cw_3 {x : Nat} {W : Nat → Nat → Int32} {R : Nat → Nat → Nat} {o : Nat} (h : kd o = 3) : cellW x W R o = .inl (3, [.ref (x + (o + 1)), .int (W o 1)]) := by
  simp only [cellW, h, reduceIte, show ¬ (3 : Nat) = 0 by decide, show ¬ (3 : Nat) = 1 by decide, show ¬ (3 : Nat) = 2 by decide]
theorem o_3 {S : St} {x : Nat} {W : Nat → Nat → Int32} {R : Nat → Nat → Nat} {o : Nat} (h : kd o = 3) : oO (WS S x W R) (x + o) 3 = some () := by
  simp only [oO, WS_at (kd_lt h (by decide)), cw_3 h, reduceIte]
theorem r_3 {S : St} {x : Nat} {W : Nat → Nat → Int32} {R : Nat → Nat → Nat} {o : Nat} (h : kd o = 3) : gR (WS S x W R) (x + o) 3 0 = some (x + (o + 1)) := by
  simp only [gR, WS_at (kd_lt h (by decide)), cw_3 h, reduceIte]
  rfl
theorem g_3_1 {S : St} {x : Nat} {W : Nat → Nat → Int32} {R : Nat → Nat → Nat} {o : Nat} (h : kd o = 3) : gI (WS S x W R) (x + o) 3 1 = some (W o 1) := by
  simp only [gI, WS_at (kd_lt h (by decide)), cw_3 h, reduceIte]
  rfl
theorem p_3_1 {S : St} {x : Nat} {W : Nat → Nat → Int32} {R : Nat → Nat → Nat} {o : Nat} (h : kd o = 3) (v : Int32) : pI (WS S x W R) (x + o) 3 1 v = some (WS S x (up2 W o 1 v) R) := by
  simp only [pI, pV, WS_at (kd_lt h (by decide)), cw_3 h, List.length, true_and]
  rw [if_pos (by decide)]
  refine congrArg some (WS_up (kd_lt h (by decide)) (fun o' e => up2_row W v e) (fun _ _ => rfl) ?_)
  rw [cw_3 h]
  simp [up2]
theorem cw_4 {x : Nat} {W : Nat → Nat → Int32} {R : Nat → Nat → Nat} {o : Nat} (h : kd o = 4) : cellW x W R o = .inl (4, [.ref (x + (o + 1)), .int (W o 1), .int (W o 2), .int (W o 3), .int (W o 4)]) := by
  simp only [cellW, h, reduceIte, show ¬ (4 : Nat) = 0 by decide, show ¬ (4 : Nat) = 1 by decide, show ¬ (4 : Nat) = 2 by decide, show ¬ (4 : Nat) = 3 by decide]
theorem o_4 {S : St} {x : Nat} {W : Nat → Nat → Int32} {R : Nat → Nat → Nat} {o : Nat} (h : kd o = 4) : oO (WS S x W R) (x + o) 4 = some () := by
  simp only [oO, WS_at (kd_lt h (by decide)), cw_4 h, reduceIte]
theorem r_4 {S : St} {x : Nat} {W : Nat → Nat → Int32} {R : Nat → Nat → Nat} {o : Nat} (h : kd o = 4) : gR (WS S x W R) (x + o) 4 0 = some (x + (o + 1)) := by
  simp only [gR, WS_at (kd_lt h (by decide)), cw_4 h, reduceIte]
  rfl
theorem g_4_1 {S : St} {x : Nat} {W : Nat → Nat → Int32} {R : Nat → Nat → Nat} {o : Nat} (h : kd o = 4) : gI (WS S x W R) (x + o) 4 1 = some (W o 1) := by
  simp only [gI, WS_at (kd_lt h (by decide)), cw_4 h, reduceIte]
  rfl
theorem p_4_1 {S : St} {x : Nat} {W : Nat → Nat → Int32} {R : Nat → Nat → Nat} {o : Nat} (h : kd o = 4) (v : Int32) : pI (WS S x W R) (x + o) 4 1 v = some (WS S x (up2 W o 1 v) R) := by
  simp only [pI, pV, WS_at (kd_lt h (by decide)), cw_4 h, List.length, true_and]
  rw [if_pos (by decide)]
  refine congrArg some (WS_up (kd_lt h (by decide)) (fun o' e => up2_row W v e) (fun _ _ => rfl) ?_)
  rw [cw_4 h]
  simp [up2]
theorem g_4_2 {S : St} {x : Nat} {W : Nat → Nat → Int32} {R : Nat → Nat → Nat} {o : Nat} (h : kd o = 4) : gI (WS S x W R) (x + o) 4 2 = some (W o 2) := by
  simp only [gI, WS_at (kd_lt h (by decide)), cw_4 h, reduceIte]
  rfl
theorem p_4_2 {S : St} {x : Nat} {W : Nat → Nat → Int32} {R : Nat → Nat → Nat} {o : Nat} (h : kd o = 4) (v : Int32) : pI (WS S x W R) (x + o) 4 2 v = some (WS S x (up2 W o 2 v) R) := by
  simp only [pI, pV, WS_at (kd_lt h (by decide)), cw_4 h, List.length, true_and]
  rw [if_pos (by decide)]
  refine congrArg some (WS_up (kd_lt h (by decide)) (fun o' e => up2_row W v e) (fun _ _ => rfl) ?_)
  rw [cw_4 h]
  simp [up2]
theorem g_4_3 {S : St} {x : Nat} {W : Nat → Nat → Int32} {R : Nat → Nat → Nat} {o : Nat} (h : kd o = 4) : gI (WS S x W R) (x + o) 4 3 = some (W o 3) := by
  simp only [gI, WS_at (kd_lt h (by decide)), cw_4 h, reduceIte]
  rfl
theorem p_4_3 {S : St} {x : Nat} {W : Nat → Nat → Int32} {R : Nat → Nat → Nat} {o : Nat} (h : kd o = 4) (v : Int32) : pI (WS S x W R) (x + o) 4 3 v = some (WS S x (up2 W o 3 v) R) := by
  simp only [pI, pV, WS_at (kd_lt h (by decide)), cw_4 h, List.length, true_and]
  rw [if_pos (by decide)]
  refine congrArg some (WS_up (kd_lt h (by decide)) (fun o' e => up2_row W v e) (fun _ _ => rfl) ?_)
  rw [cw_4 h]
  simp [up2]
theorem g_4_4 {S : St} {x : Nat} {W : Nat → Nat → Int32} {R : Nat → Nat → Nat} {o : Nat} (h : kd o = 4) : gI (WS S x W R) (x + o) 4 4 = some (W o 4) := by
  simp only [gI, WS_at (kd_lt h (by decide)), cw_4 h, reduceIte]
  rfl
theorem p_4_4 {S : St} {x : Nat} {W : Nat → Nat → Int32} {R : Nat → Nat → Nat} {o : Nat} (h : kd o = 4) (v : Int32) : pI (WS S x W R) (x + o) 4 4 v = some (WS S x (up2 W o 4 v) R) := by
  simp only [pI, pV, WS_at (kd_lt h (by decide)), cw_4 h, List.length, true_and]
  rw [if_pos (by decide)]
  refine congrArg some (WS_up (kd_lt h (by decide)) (fun o' e => up2_row W v e) (fun _ _ => rfl) ?_)
  rw [cw_4 h]
  simp [up2]
theorem cw_5 {x : Nat} {W : Nat → Nat → Int32} {R : Nat → Nat → Nat} : cellW x W R 0 = .inl (5, [.ref (x + 1), .ref (x + 27), .ref (x + 185), .ref (x + 187)]) := rfl
theorem WS_0 {S : St} {x : Nat} {W : Nat → Nat → Int32} {R : Nat → Nat → Nat} : WS S x W R x = some (cellW x W R 0) := WS_at (S := S) (x := x) (W := W) (R := R) (o := 0) (by decide)
theorem o_5 {S : St} {x : Nat} {W : Nat → Nat → Int32} {R : Nat → Nat → Nat} : oO (WS S x W R) x 5 = some () := by
  simp only [oO, WS_0, cw_5, reduceIte]
theorem r_5_0 {S : St} {x : Nat} {W : Nat → Nat → Int32} {R : Nat → Nat → Nat} : gR (WS S x W R) x 5 0 = some (x + 1) := by
  simp only [gR, WS_0, cw_5, reduceIte]
  rfl
theorem r_5_1 {S : St} {x : Nat} {W : Nat → Nat → Int32} {R : Nat → Nat → Nat} : gR (WS S x W R) x 5 1 = some (x + 27) := by
  simp only [gR, WS_0, cw_5, reduceIte]
  rfl
theorem r_5_2 {S : St} {x : Nat} {W : Nat → Nat → Int32} {R : Nat → Nat → Nat} : gR (WS S x W R) x 5 2 = some (x + 185) := by
  simp only [gR, WS_0, cw_5, reduceIte]
  rfl
theorem r_5_3 {S : St} {x : Nat} {W : Nat → Nat → Int32} {R : Nat → Nat → Nat} : gR (WS S x W R) x 5 3 = some (x + 187) := by
  simp only [gR, WS_0, cw_5, reduceIte]
  rfl
theorem cw_10 {x : Nat} {W : Nat → Nat → Int32} {R : Nat → Nat → Nat} {o : Nat} (h : kd o = 10) : cellW x W R o = arI 24 (W o) := by
  simp only [cellW, h, reduceIte, show ¬ (10 : Nat) = 0 by decide, show ¬ (10 : Nat) = 1 by decide, show ¬ (10 : Nat) = 2 by decide, show ¬ (10 : Nat) = 3 by decide, show ¬ (10 : Nat) = 4 by decide, show ¬ (10 : Nat) = 5 by decide]
theorem n_10 {S : St} {x : Nat} {W : Nat → Nat → Int32} {R : Nat → Nat → Nat} {o : Nat} (h : kd o = 10) : aN (WS S x W R) (x + o) 0 = some (oI 24) := by
  simp only [aN, WS_at (kd_lt h (by decide)), cw_10 h, reduceIte]
theorem a_10 {S : St} {x : Nat} {W : Nat → Nat → Int32} {R : Nat → Nat → Nat} {o : Nat} (h : kd o = 10) {k : Nat} (hk : k < 24) : aI (WS S x W R) (x + o) (oI k) = some (W o k) :=
  aI_of (by rw [WS_at (kd_lt h (by decide)), cw_10 h]) hk (by decide)
theorem s_10 {S : St} {x : Nat} {W : Nat → Nat → Int32} {R : Nat → Nat → Nat} {o : Nat} (h : kd o = 10) {k : Nat} (hk : k < 24) (v : Int32) : sI (WS S x W R) (x + o) (oI k) v = some (WS S x (up2 W o k v) R) := by
  rw [sI_of (by rw [WS_at (kd_lt h (by decide)), cw_10 h]) v hk (by decide)]
  refine congrArg some (WS_up (kd_lt h (by decide)) (fun o' e => up2_row W v e) (fun _ _ => rfl) ?_)
  rw [cw_10 h]
  congr 4
  funext k'
  simp only [up2, upd, true_and]
theorem cw_14 {x : Nat} {W : Nat → Nat → Int32} {R : Nat → Nat → Nat} {o : Nat} (h : kd o = 14) : cellW x W R o = arI 60 (W o) := by
  simp only [cellW, h, reduceIte, show ¬ (14 : Nat) = 0 by decide, show ¬ (14 : Nat) = 1 by decide, show ¬ (14 : Nat) = 2 by decide, show ¬ (14 : Nat) = 3 by decide, show ¬ (14 : Nat) = 4 by decide, show ¬ (14 : Nat) = 5 by decide, show ¬ (14 : Nat) = 10 by decide]
theorem n_14 {S : St} {x : Nat} {W : Nat → Nat → Int32} {R : Nat → Nat → Nat} {o : Nat} (h : kd o = 14) : aN (WS S x W R) (x + o) 0 = some (oI 60) := by
  simp only [aN, WS_at (kd_lt h (by decide)), cw_14 h, reduceIte]
theorem a_14 {S : St} {x : Nat} {W : Nat → Nat → Int32} {R : Nat → Nat → Nat} {o : Nat} (h : kd o = 14) {k : Nat} (hk : k < 60) : aI (WS S x W R) (x + o) (oI k) = some (W o k) :=
  aI_of (by rw [WS_at (kd_lt h (by decide)), cw_14 h]) hk (by decide)
theorem s_14 {S : St} {x : Nat} {W : Nat → Nat → Int32} {R : Nat → Nat → Nat} {o : Nat} (h : kd o = 14) {k : Nat} (hk : k < 60) (v : Int32) : sI (WS S x W R) (x + o) (oI k) v = some (WS S x (up2 W o k v) R) := by
  rw [sI_of (by rw [WS_at (kd_lt h (by decide)), cw_14 h]) v hk (by decide)]
  refine congrArg some (WS_up (kd_lt h (by decide)) (fun o' e => up2_row W v e) (fun _ _ => rfl) ?_)
  rw [cw_14 h]
  congr 4
  funext k'
  simp only [up2, upd, true_and]
theorem cw_11 {x : Nat} {W : Nat → Nat → Int32} {R : Nat → Nat → Nat} {o : Nat} (h : kd o = 11) : cellW x W R o = arR 1 8 (fun i => if i < 8 then some (x + R o i) else none) := by
  simp only [cellW, h, reduceIte, show ¬ (11 : Nat) = 0 by decide, show ¬ (11 : Nat) = 1 by decide, show ¬ (11 : Nat) = 2 by decide, show ¬ (11 : Nat) = 3 by decide, show ¬ (11 : Nat) = 4 by decide, show ¬ (11 : Nat) = 5 by decide, show ¬ (11 : Nat) = 10 by decide, show ¬ (11 : Nat) = 14 by decide]
theorem n_11 {S : St} {x : Nat} {W : Nat → Nat → Int32} {R : Nat → Nat → Nat} {o : Nat} (h : kd o = 11) : aN (WS S x W R) (x + o) 1 = some (oI 8) := by
  simp only [aN, WS_at (kd_lt h (by decide)), cw_11 h, reduceIte]
theorem a_11 {S : St} {x : Nat} {W : Nat → Nat → Int32} {R : Nat → Nat → Nat} {o : Nat} (h : kd o = 11) {k : Nat} (hk : k < 8) : aR (WS S x W R) (x + o) 1 (oI k) = some (x + R o k) :=
  by rw [aR_of (by rw [WS_at (kd_lt h (by decide)), cw_11 h]) hk (by decide)]; exact if_pos hk
theorem s_11 {S : St} {x : Nat} {W : Nat → Nat → Int32} {R : Nat → Nat → Nat} {o : Nat} (h : kd o = 11) {k t : Nat} (hk : k < 8) (ht : kd t = 0) : sR (WS S x W R) (x + o) 1 0 (oI k) (x + t) = some (WS S x W (up2 R o k t)) := by
  rw [sR_of (by rw [WS_at (kd_lt h (by decide)), cw_11 h]) (o_0 ht) hk (by decide)]
  refine congrArg some (WS_up (kd_lt h (by decide)) (fun _ _ => rfl) (fun o' e => up2_row R t e) ?_)
  rw [cw_11 h]
  refine congrArg (fun f => (arR 1 8 f : Cl)) (funext fun k' => ?_)
  unfold va_up up2
  by_cases c : k' = k
  · subst c
    simp [hk]
  · simp [c]
theorem cw_12 {x : Nat} {W : Nat → Nat → Int32} {R : Nat → Nat → Nat} {o : Nat} (h : kd o = 12) : cellW x W R o = arR 2 6 (fun i => if i < 6 then some (x + R o i) else none) := by
  simp only [cellW, h, reduceIte, show ¬ (12 : Nat) = 0 by decide, show ¬ (12 : Nat) = 1 by decide, show ¬ (12 : Nat) = 2 by decide, show ¬ (12 : Nat) = 3 by decide, show ¬ (12 : Nat) = 4 by decide, show ¬ (12 : Nat) = 5 by decide, show ¬ (12 : Nat) = 10 by decide, show ¬ (12 : Nat) = 14 by decide, show ¬ (12 : Nat) = 11 by decide]
theorem n_12 {S : St} {x : Nat} {W : Nat → Nat → Int32} {R : Nat → Nat → Nat} {o : Nat} (h : kd o = 12) : aN (WS S x W R) (x + o) 2 = some (oI 6) := by
  simp only [aN, WS_at (kd_lt h (by decide)), cw_12 h, reduceIte]
theorem a_12 {S : St} {x : Nat} {W : Nat → Nat → Int32} {R : Nat → Nat → Nat} {o : Nat} (h : kd o = 12) {k : Nat} (hk : k < 6) : aR (WS S x W R) (x + o) 2 (oI k) = some (x + R o k) :=
  by rw [aR_of (by rw [WS_at (kd_lt h (by decide)), cw_12 h]) hk (by decide)]; exact if_pos hk
theorem s_12 {S : St} {x : Nat} {W : Nat → Nat → Int32} {R : Nat → Nat → Nat} {o : Nat} (h : kd o = 12) {k t : Nat} (hk : k < 6) (ht : kd t = 1) : sR (WS S x W R) (x + o) 2 1 (oI k) (x + t) = some (WS S x W (up2 R o k t)) := by
  rw [sR_of (by rw [WS_at (kd_lt h (by decide)), cw_12 h]) (o_1 ht) hk (by decide)]
  refine congrArg some (WS_up (kd_lt h (by decide)) (fun _ _ => rfl) (fun o' e => up2_row R t e) ?_)
  rw [cw_12 h]
  refine congrArg (fun f => (arR 2 6 f : Cl)) (funext fun k' => ?_)
  unfold va_up up2
  by_cases c : k' = k
  · subst c
    simp [hk]
  · simp [c]
