/-! COLUMNS: a day, the alike, the codes -/
def liveUp (A : Cn) (m : Nat) : Cn := (cN A, cD A, cY A, cF A, fun j => if j < m then liveB (cB A j) (cD A) (cY A) else cB A j)
def sumX (A : Cn) : Nat → Int32
  | 0 => 0
  | m + 1 => sumX A m + exB (cB A m)
def dayC (A : Cn) : Cn := liveUp (cN A, cD A + 1, cY A, cF A, cB A) (cN A)
theorem okC_live {A : Cn} {m : Nat} (h : okC A) : okC (liveUp A m) := by
  refine ⟨h.1, h.2.1, h.2.2.1, h.2.2.2.1, fun i hi => ?_⟩
  show okB (if i < m then liveB (cB A i) (cD A) (cY A) else cB A i)
  split
  · exact okB_live (h.2.2.2.2 i hi) h.2.1
  · exact h.2.2.2.2 i hi
theorem okC_day {A : Cn} (h : okC A) (hd : cD A < 5000) : okC (dayC A) := okC_live (A := (cN A, cD A + 1, cY A, cF A, cB A)) ⟨h.1, hd, h.2.2.1, h.2.2.2.1, h.2.2.2.2⟩
theorem x2_live_L {S : St} {x : Nat} {R : Nat → Nat → Nat} {p : Nat} {A : Cn} (hp : kd p = 1) (ok : okC A) : ∀ (d fu i : Nat) (W : Nat → Nat → Int32), i + d = cN A → d < fu → ColW W R p (liveUp A i) →
    ∃ W', f_X2_liveDay_L14 (x + p) fu (WS S x W R) (sumX A i) (oI i) = some (sumX A (cN A), WS S x W' R) ∧ ColW W' R p (liveUp A (cN A)) ∧ FrC W W' R R p
  | d, 0, i, W, e, hf, h => by omega
  | 0, fu + 1, i, W, e, hf, h => by
    have h8 := ok.1
    have : i = cN A := by omega
    subst this
    refine ⟨W, ?_, h, FrC_refl W R p⟩
    rw [f_X2_liveDay_L14]
    have e1 : W p 1 = oI (cN A) := h.2.1
    simp (disch := omega) only [g_1_1 hp, e1, oI_le, Nat.le_refl, Option.bind_some, reduceIte, if_true, if_false]
  | d + 1, fu + 1, i, W, e, hf, h => by
    have h8 := ok.1
    have hi : i < 8 := by omega
    have e1 : W p 1 = oI (cN A) := h.2.1
    have e2 : W p 2 = oI (cD A) := h.2.2.1
    have e3 : W p 3 = oI (cY A) := h.2.2.2.1
    have eb : cB (liveUp A i) i = cB A i := if_neg (Nat.lt_irrefl i)
    have hb : BlW W (R (p + 1) i) (cB A i) := by
      have := h.2.2.2.2.2 i (by show i < cN A; omega)
      rw [eb] at this
      exact this
    obtain ⟨W1, f1, f2, f3⟩ := x0_live (S := S) (x := x) (R := R) (kd_slot hp h.1 hi) hb (ok.2.2.2.2 i (by omega)) ok.2.1 ok.2.2.1
    have hc := col_blk h h8 hi f3 f2
    have ec : updB (liveUp A i) i (liveB (cB A i) (cD A) (cY A)) = liveUp A (i + 1) := by
      unfold updB liveUp
      dsimp only [cN, cD, cY, cF, cB]
      congr 5
      funext k
      by_cases c : k = i
      · rw [if_pos c, if_pos (by omega), c]
      · rw [if_neg c]
        by_cases c2 : k < i
        · rw [if_pos c2, if_pos (by omega)]
        · rw [if_neg c2, if_neg (by omega)]
    rw [ec] at hc
    obtain ⟨W', g1, g2, g3⟩ := x2_live_L (S := S) (x := x) (R := R) hp ok d fu (i + 1) W1 (by omega) (by omega) hc
    refine ⟨W', ?_, g2, FrC_trans (FrC_blk h.1 hi f3) g3⟩
    rw [f_X2_liveDay_L14]
    simp (disch := omega) only [g_1_1 hp, e1, g_1_2 hp, e2, g_1_3 hp, e3, oI_le, show ¬ cN A ≤ i by omega, r_1 hp, a_11 (kd1 hp) hi, o_0 (kd_slot hp h.1 hi), f1, l1, oI_add, Option.bind_some, reduceIte, if_true, if_false]
    exact g1
theorem x2_live {S : St} {x : Nat} {W : Nat → Nat → Int32} {R : Nat → Nat → Nat} {p : Nat} {A : Cn} (hp : kd p = 1) (ok : okC A) (hd : cD A < 5000) (h : ColW W R p A) :
    ∃ W', f_X2_liveDay (WS S x W R) (x + p) = some (sumX (cN A, cD A + 1, cY A, cF A, cB A) (cN A), WS S x W' R) ∧ ColW W' R p (dayC A) ∧ FrC W W' R R p := by
  have h8 := ok.1
  have hc : ColW (up2 W p 2 (oI (cD A + 1))) R p (liveUp (cN A, cD A + 1, cY A, cF A, cB A) 0) := by
    obtain ⟨k0, k1, k2, k3, k4, k5⟩ := h
    refine ⟨k0, ?_, up2_eq _ p 2 _, ?_, ?_, fun j hj => ?_⟩
    · rw [up2_ne _ _ (by omega)]; exact k1
    · rw [up2_ne _ _ (by omega)]; exact k3
    · rw [up2_ne _ _ (by omega)]; exact k4
    · have hj' : j < cN A := hj
      have hs := slot_in k0 (show j < 8 by omega)
      show BlW _ _ (if j < 0 then liveB (cB A j) (cD A + 1) (cY A) else cB A j)
      rw [if_neg (by omega)]
      exact BlW_fr (k5 j hj') (up2_row _ _ (by omega)) (up2_row _ _ (by omega)) (up2_row _ _ (by omega))
  obtain ⟨W', e1, e2, e3⟩ := x2_live_L (S := S) (x := x) (R := R) (A := (cN A, cD A + 1, cY A, cF A, cB A)) hp ⟨h8, hd, ok.2.2.1, ok.2.2.2.1, ok.2.2.2.2⟩ (cN A) FU 0 _ (by show 0 + cN A = cN A; omega) (FU_lt (by omega)) hc
  refine ⟨W', ?_, e2, FrC_trans (FrC_p 2 _) e3⟩
  simp only [sumX] at e1
  simp only [f_X2_liveDay, g_1_2 hp, h.2.2.1, l1, oI_add, p_1_2 hp, ← l0, Option.bind_some, reduceIte, if_true, if_false]
  rw [show (oI 0 : Int32) = 0 from rfl] at e1
  rw [e1]
  rfl
/-- is block b like the row (n, g) -/
def lk (b : Bk) (n : Nat) (g : Nat → Nat) : Bool := decide (bN b = n) && eqn (bG b) g n
theorem lk_self (b : Bk) : lk b (bN b) (bG b) = true := by
  unfold lk
  rw [Bool.and_eq_true, decide_eq_true_eq]
  exact ⟨rfl, eqn_of _ (fun _ _ => rfl)⟩
def lkN (B : Nat → Bk) (n : Nat) (g : Nat → Nat) (i : Nat) : Nat := if lk (B i) n g = true then 1 else 0
/-- the first block like the row, m if none -/
def fal (B : Nat → Bk) (m n : Nat) (g : Nat → Nat) : Nat := fst (lkN B n g) m 1
theorem lk_like {S : St} {r r2 n2 : Nat} {b : Bk} {g2 : Nat → Nat} (h : RwA S r (bN b) (bG b)) (k : RwA S r2 n2 g2) : f_X4_isLike S r r2 = some (if lk b n2 g2 = true then 1 else 0) := by
  rw [x4_like h k]
  unfold lk
  congr 1
  by_cases e : bN b = n2
  · subst e
    simp only [decide_true, Bool.true_and, true_and]
  · simp only [e, decide_false, Bool.false_and, false_and, if_false, Bool.false_eq_true]
theorem x2_alike_L {S : St} {x : Nat} {W : Nat → Nat → Int32} {R : Nat → Nat → Nat} {p r n : Nat} {g : Nat → Nat} {A : Cn} (hp : kd p = 1) (ok : okC A) (h : ColW W R p A) (hr : RwA (WS S x W R) (x + r) n g) : ∀ (d fu i : Nat), i + d = cN A → d < fu → (∀ k, k < i → lkN (cB A) n g k ≠ 1) →
    f_X2_firstAlike_L2 (WS S x W R) (x + p) (x + r) fu (oI i) = some (if fal (cB A) (cN A) n g < cN A then .inl (oI (fal (cB A) (cN A) n g)) else .inr ())
  | d, 0, i, e, hf, hk => by omega
  | 0, fu + 1, i, e, hf, hk => by
    have h8 := ok.1
    have : i = cN A := by omega
    subst this
    rw [f_X2_firstAlike_L2]
    unfold fal
    rw [fst_uni (j := cN A) (cN A) (Nat.le_refl _) hk (.inl rfl)]
    simp (disch := omega) only [g_1_1 hp, h.2.1, oI_le, Nat.le_refl, Nat.lt_irrefl, Option.bind_some, reduceIte, if_true, if_false]
  | d + 1, fu + 1, i, e, hf, hk => by
    have h8 := ok.1
    have hi : i < 8 := by omega
    have hA := BlW_A (S := S) (x := x) (R := R) (kd_slot hp h.1 hi) (h.2.2.2.2.2 i (by omega))
    rw [f_X2_firstAlike_L2]
    simp (disch := omega) only [g_1_1 hp, h.2.1, oI_le, show ¬ cN A ≤ i by omega, r_1 hp, a_11 (kd1 hp) hi, r_0 (kd_slot hp h.1 hi), hA.1, lk_like hA hr, Option.bind_some, reduceIte, if_true, if_false]
    by_cases c : lk (cB A i) n g = true
    · have e1 : lkN (cB A) n g i = 1 := if_pos c
      unfold fal
      rw [fst_uni (j := i) (cN A) (by omega) hk (.inr e1)]
      simp only [c, Option.bind_some, reduceIte, if_true, if_false, show ¬ (1 : Int32) = 0 by decide, show i < cN A by omega]
    · have e1 : lkN (cB A) n g i ≠ 1 := by unfold lkN; rw [if_neg c]; decide
      simp only [c, Option.bind_some, reduceIte, if_true, if_false, l1, oI_add]
      exact x2_alike_L hp ok h hr d fu (i + 1) (by omega) (by omega) (fun k hk' => by
        by_cases e2 : k = i
        · rw [e2]; exact e1
        · exact hk k (by omega))
theorem x2_alike {S : St} {x : Nat} {W : Nat → Nat → Int32} {R : Nat → Nat → Nat} {p r n : Nat} {g : Nat → Nat} {A : Cn} (hp : kd p = 1) (ok : okC A) (h : ColW W R p A) (hr : RwA (WS S x W R) (x + r) n g) :
    f_X2_firstAlike (WS S x W R) (x + p) (x + r) = some (if fal (cB A) (cN A) n g < cN A then oI (fal (cB A) (cN A) n g) else -1) := by
  have h8 := ok.1
  have := x2_alike_L hp ok h hr (cN A) FU 0 (by omega) (FU_lt (by omega)) (fun k hk => by omega)
  simp only [f_X2_firstAlike, l0, this, Option.bind_some, reduceIte, if_true, if_false]
  split <;> rfl
theorem fal_le (B : Nat → Bk) {m j : Nat} (hj : j < m) : fal B m (bN (B j)) (bG (B j)) ≤ j := fst_lt hj (if_pos (lk_self (B j)))
/-- how many of the first m blocks are first of their like -/
def cdr (A : Cn) : Nat → Nat
  | 0 => 0
  | m + 1 => cdr A m + (if fal (cB A) (cN A) (bN (cB A m)) (bG (cB A m)) = m then 1 else 0)
theorem cdr_le (A : Cn) : ∀ m, cdr A m ≤ m
  | 0 => by simp [cdr]
  | m + 1 => by have := cdr_le A m; simp only [cdr]; split <;> omega
theorem x2_rows_L {S : St} {x : Nat} {W : Nat → Nat → Int32} {R : Nat → Nat → Nat} {p : Nat} {A : Cn} (hp : kd p = 1) (ok : okC A) (h : ColW W R p A) : ∀ (d fu i : Nat), i + d = cN A → d < fu →
    f_X2_differentRows_L4 (WS S x W R) (x + p) fu (oI (cdr A i)) (oI i) = some (oI (cdr A (cN A)))
  | d, 0, i, e, hf => by omega
  | 0, fu + 1, i, e, hf => by
    have h8 := ok.1
    have : i = cN A := by omega
    subst this
    rw [f_X2_differentRows_L4]
    simp (disch := omega) only [g_1_1 hp, h.2.1, oI_le, Nat.le_refl, Option.bind_some, reduceIte, if_true, if_false]
  | d + 1, fu + 1, i, e, hf => by
    have h8 := ok.1
    have hi : i < 8 := by omega
    have ih := x2_rows_L (S := S) (x := x) hp ok h d fu (i + 1) (by omega) (by omega)
    have hA := BlW_A (S := S) (x := x) (R := R) (kd_slot hp h.1 hi) (h.2.2.2.2.2 i (by omega))
    have hl := fal_le (cB A) (show i < cN A by omega)
    rw [f_X2_differentRows_L4]
    simp (disch := omega) only [g_1_1 hp, h.2.1, oI_le, show ¬ cN A ≤ i by omega, r_1 hp, a_11 (kd1 hp) hi, r_0 (kd_slot hp h.1 hi), o_1 hp, x2_alike hp ok h hA, show fal (cB A) (cN A) (bN (cB A i)) (bG (cB A i)) < cN A by omega, oI_eq, l1, oI_add, Option.bind_some, reduceIte, if_true, if_false]
    by_cases c : fal (cB A) (cN A) (bN (cB A i)) (bG (cB A i)) = i
    · simp only [cdr, c, Option.bind_some, reduceIte, if_true, if_false] at ih ⊢
      exact ih
    · simp only [cdr, c, Option.bind_some, reduceIte, if_true, if_false, Nat.add_zero] at ih ⊢
      exact ih
theorem x2_rows {S : St} {x : Nat} {W : Nat → Nat → Int32} {R : Nat → Nat → Nat} {p : Nat} {A : Cn} (hp : kd p = 1) (ok : okC A) (h : ColW W R p A) : f_X2_differentRows (WS S x W R) (x + p) = some (oI (cdr A (cN A))) := by
  have h8 := ok.1
  have := x2_rows_L (S := S) (x := x) hp ok h (cN A) FU 0 (by omega) (FU_lt (by omega))
  simp only [cdr] at this
  simp only [f_X2_differentRows, l0, this, Option.bind_some, reduceIte, if_true, if_false]
def cwc (A : Cn) (c : Nat) : Nat → Nat
  | 0 => 0
  | m + 1 => cwc A c m + (if bC (cB A m) = c then 1 else 0)
theorem x2_code_L {S : St} {x : Nat} {W : Nat → Nat → Int32} {R : Nat → Nat → Nat} {p c : Nat} {A : Cn} (hp : kd p = 1) (ok : okC A) (h : ColW W R p A) (hc : c ≤ 5) : ∀ (d fu i : Nat), i + d = cN A → d < fu →
    f_X2_blocksWithCode_L4 (WS S x W R) (x + p) (oI c) fu (oI (cwc A c i)) (oI i) = some (oI (cwc A c (cN A)))
  | d, 0, i, e, hf => by omega
  | 0, fu + 1, i, e, hf => by
    have h8 := ok.1
    have : i = cN A := by omega
    subst this
    rw [f_X2_blocksWithCode_L4]
    simp (disch := omega) only [g_1_1 hp, h.2.1, oI_le, Nat.le_refl, Option.bind_some, reduceIte, if_true, if_false]
  | d + 1, fu + 1, i, e, hf => by
    have h8 := ok.1
    have hi : i < 8 := by omega
    have ih := x2_code_L (S := S) (x := x) hp ok h hc d fu (i + 1) (by omega) (by omega)
    have hb := h.2.2.2.2.2 i (by omega)
    have h5 := (ok.2.2.2.2 i (by omega)).2.2.1
    rw [f_X2_blocksWithCode_L4]
    simp (disch := omega) only [g_1_1 hp, h.2.1, oI_le, show ¬ cN A ≤ i by omega, r_1 hp, a_11 (kd1 hp) hi, g_0_1 (kd_slot hp h.1 hi), hb.2.1, oI_eq, l1, oI_add, Option.bind_some, reduceIte, if_true, if_false]
    by_cases c : bC (cB A i) = c
    · simp only [cwc, c, Option.bind_some, reduceIte, if_true, if_false] at ih ⊢
      exact ih
    · simp only [cwc, c, Option.bind_some, reduceIte, if_true, if_false, Nat.add_zero] at ih ⊢
      exact ih
theorem x2_code {S : St} {x : Nat} {W : Nat → Nat → Int32} {R : Nat → Nat → Nat} {p c : Nat} {A : Cn} (hp : kd p = 1) (ok : okC A) (h : ColW W R p A) (hc : c ≤ 5) : f_X2_blocksWithCode (WS S x W R) (x + p) (oI c) = some (oI (cwc A c (cN A))) := by
  have h8 := ok.1
  have := x2_code_L (S := S) (x := x) hp ok h hc (cN A) FU 0 (by omega) (FU_lt (by omega))
  simp only [cwc] at this
  simp only [f_X2_blocksWithCode, l0, this, Option.bind_some, reduceIte, if_true, if_false]
