/-! COLUMNS -/
abbrev Cn : Type := Nat × Nat × Nat × Nat × (Nat → Bk)
abbrev cN (A : Cn) : Nat := A.1
abbrev cD (A : Cn) : Nat := A.2.1
abbrev cY (A : Cn) : Nat := A.2.2.1
abbrev cF (A : Cn) : Nat := A.2.2.2.1
abbrev cB (A : Cn) : Nat → Bk := A.2.2.2.2
def okC (A : Cn) : Prop := cN A ≤ 8 ∧ cD A ≤ 5000 ∧ cY A ≤ 400 ∧ cF A ≤ 100 ∧ ∀ j, j < cN A → okB (cB A j)
def ColOk (R : Nat → Nat → Nat) (p : Nat) : Prop := (∀ j, j < 8 → ∃ t, t < 8 ∧ R (p + 1) j = p + 2 + 3 * t) ∧ ∀ i j, i < 8 → j < 8 → R (p + 1) i = R (p + 1) j → i = j
def ColW (W : Nat → Nat → Int32) (R : Nat → Nat → Nat) (p : Nat) (A : Cn) : Prop :=
  ColOk R p ∧ W p 1 = oI (cN A) ∧ W p 2 = oI (cD A) ∧ W p 3 = oI (cY A) ∧ W p 4 = oI (cF A) ∧ ∀ j, j < cN A → BlW W (R (p + 1) j) (cB A j)
def FrC (W W' : Nat → Nat → Int32) (R R' : Nat → Nat → Nat) (p : Nat) : Prop := ∀ o, ¬ (p ≤ o ∧ o < p + 26) → W' o = W o ∧ R' o = R o
theorem FrC_refl (W : Nat → Nat → Int32) (R : Nat → Nat → Nat) (p : Nat) : FrC W W R R p := fun _ _ => ⟨rfl, rfl⟩
theorem FrC_trans {W W1 W2 : Nat → Nat → Int32} {R R1 R2 : Nat → Nat → Nat} {p : Nat} (h : FrC W W1 R R1 p) (k : FrC W1 W2 R1 R2 p) : FrC W W2 R R2 p := fun o c => ⟨(k o c).1.trans (h o c).1, (k o c).2.trans (h o c).2⟩
set_option maxRecDepth 40000 in
theorem kd1_is {p : Nat} (h : kd p = 1) : p = 1 ∨ ∃ t, t < 6 ∧ p = 29 + 26 * t :=
  (show ∀ p, p < 189 → kd p = 1 → p = 1 ∨ ∃ t, t < 6 ∧ p = 29 + 26 * t by decide) p (kd_lt h (by omega)) h
set_option maxRecDepth 40000 in
theorem kd_blk {p t : Nat} (h : kd p = 1) (ht : t < 8) : kd (p + 2 + 3 * t) = 0 := by
  rcases kd1_is h with rfl | ⟨s, hs, rfl⟩
  · exact (show ∀ t, t < 8 → kd (1 + 2 + 3 * t) = 0 by decide) t ht
  · exact (show ∀ s, s < 6 → ∀ t, t < 8 → kd (29 + 26 * s + 2 + 3 * t) = 0 by decide) s hs t ht
theorem kd_slot {R : Nat → Nat → Nat} {p j : Nat} (h : kd p = 1) (hc : ColOk R p) (hj : j < 8) : kd (R (p + 1) j) = 0 := by
  obtain ⟨t, ht, e⟩ := hc.1 j hj
  rw [e]; exact kd_blk h ht
theorem slot_in {R : Nat → Nat → Nat} {p j : Nat} (hc : ColOk R p) (hj : j < 8) : p + 2 ≤ R (p + 1) j ∧ R (p + 1) j + 2 < p + 26 := by
  obtain ⟨t, ht, e⟩ := hc.1 j hj
  rw [e]; omega
theorem slt_ne {R : Nat → Nat → Nat} {p i j : Nat} (hc : ColOk R p) (hi : i < 8) (hj : j < 8) (h : i ≠ j) : R (p + 1) i + 2 < R (p + 1) j ∨ R (p + 1) j + 2 < R (p + 1) i := by
  obtain ⟨t, ht, e⟩ := hc.1 i hi
  obtain ⟨s, hs, e'⟩ := hc.1 j hj
  have : ¬ t = s := fun c => h (hc.2 i j hi hj (by rw [e, e', c]))
  rw [e, e']; omega
theorem col_ne {p q : Nat} (h : kd p = 1) (k : kd q = 1) (hn : p ≠ q) : p + 26 ≤ q ∨ q + 26 ≤ p := by
  rcases kd1_is h with rfl | ⟨s, hs, rfl⟩ <;> rcases kd1_is k with rfl | ⟨t, ht, rfl⟩ <;> omega
theorem col_in {p : Nat} (h : kd p = 1) : p + 26 ≤ 185 ∧ (p + 26 ≤ 27 ∨ 29 ≤ p) := by
  rcases kd1_is h with rfl | ⟨s, hs, rfl⟩ <;> omega
theorem ColOk_fr {R R' : Nat → Nat → Nat} {p : Nat} (h : ColOk R p) (e : R' (p + 1) = R (p + 1)) : ColOk R' p := by
  unfold ColOk; rw [e]; exact h
theorem ColW_fr {W W' : Nat → Nat → Int32} {R R' : Nat → Nat → Nat} {p : Nat} {A : Cn} (h : ColW W R p A) (ok : cN A ≤ 8) (e : ∀ o, p ≤ o → o < p + 26 → W' o = W o) (e' : R' (p + 1) = R (p + 1)) : ColW W' R' p A := by
  obtain ⟨h0, h1, h2, h3, h4, h5⟩ := h
  have ep : W' p = W p := e p (by omega) (by omega)
  refine ⟨ColOk_fr h0 e', by rw [ep]; exact h1, by rw [ep]; exact h2, by rw [ep]; exact h3, by rw [ep]; exact h4, fun j hj => ?_⟩
  have hs := slot_in h0 (show j < 8 by omega)
  rw [e']
  exact BlW_fr (h5 j hj) (e _ (by omega) (by omega)) (e _ (by omega) (by omega)) (e _ (by omega) (by omega))
theorem ColW_frC {W W' : Nat → Nat → Int32} {R R' : Nat → Nat → Nat} {p q : Nat} {A : Cn} (h : ColW W R p A) (ok : cN A ≤ 8) (hp : kd p = 1) (hq : kd q = 1) (hn : p ≠ q) (f : FrC W W' R R' q) : ColW W' R' p A := by
  have := col_ne hp hq hn
  exact ColW_fr h ok (fun o a b => (f o (by omega)).1) (f (p + 1) (by omega)).2
def updB (A : Cn) (j : Nat) (b : Bk) : Cn := (cN A, cD A, cY A, cF A, fun i => if i = j then b else cB A i)
theorem col_blk {W W' : Nat → Nat → Int32} {R : Nat → Nat → Nat} {p j : Nat} {A : Cn} {b : Bk} (h : ColW W R p A) (ok : cN A ≤ 8) (hj : j < 8) (f : Fr3 W W' (R (p + 1) j)) (hb : BlW W' (R (p + 1) j) b) : ColW W' R p (updB A j b) := by
  obtain ⟨h0, h1, h2, h3, h4, h5⟩ := h
  have hs := slot_in h0 hj
  have ep : W' p = W p := f p (by omega) (by omega) (by omega)
  refine ⟨h0, by rw [ep]; exact h1, by rw [ep]; exact h2, by rw [ep]; exact h3, by rw [ep]; exact h4, fun i hi => ?_⟩
  show BlW W' (R (p + 1) i) (if i = j then b else cB A i)
  by_cases c : i = j
  · rw [if_pos c, c]; exact hb
  · rw [if_neg c]
    have hi' : i < cN A := hi
    have := slt_ne h0 (show i < 8 by omega) hj c
    exact BlW_fr (h5 i hi) (f _ (by omega) (by omega) (by omega)) (f _ (by omega) (by omega) (by omega)) (f _ (by omega) (by omega) (by omega))
theorem FrC_blk {W W' : Nat → Nat → Int32} {R : Nat → Nat → Nat} {p j : Nat} (h0 : ColOk R p) (hj : j < 8) (f : Fr3 W W' (R (p + 1) j)) : FrC W W' R R p := by
  have hs := slot_in h0 hj
  exact fun o c => ⟨f o (by omega) (by omega) (by omega), rfl⟩
theorem FrC_p {W : Nat → Nat → Int32} {R : Nat → Nat → Nat} {p : Nat} (k : Nat) (v : Int32) : FrC W (up2 W p k v) R R p := fun o c => ⟨up2_row W v (by omega), rfl⟩
theorem okC_upd {A : Cn} {j : Nat} {b : Bk} (h : okC A) (hb : okB b) : okC (updB A j b) := by
  refine ⟨h.1, h.2.1, h.2.2.1, h.2.2.2.1, fun i hi => ?_⟩
  show okB (if i = j then b else cB A i)
  split
  · exact hb
  · exact h.2.2.2.2 i hi
theorem x2_size {S : St} {x : Nat} {W : Nat → Nat → Int32} {R : Nat → Nat → Nat} {p : Nat} {A : Cn} (hp : kd p = 1) (h : ColW W R p A) : f_X2_size (WS S x W R) (x + p) = some (oI (cN A)) := by
  simp only [f_X2_size, g_1_1 hp, h.2.1, Option.bind_some, reduceIte, if_true, if_false]
theorem x2_full {S : St} {x : Nat} {W : Nat → Nat → Int32} {R : Nat → Nat → Nat} {p : Nat} {A : Cn} (hp : kd p = 1) (h : ColW W R p A) (ok : cN A ≤ 8) : f_X2_isFull (WS S x W R) (x + p) = some (if cN A < 8 then 0 else 1) := by
  simp (disch := omega) only [f_X2_isFull, g_1_1 hp, h.2.1, r_1 hp, n_11 (kd1 hp), oI_lt, Option.bind_some, reduceIte, if_true, if_false]
  by_cases c : cN A < 8
  · simp only [c, Option.bind_some, reduceIte, if_true, if_false, zz0]
  · simp only [c, Option.bind_some, reduceIte, if_true, if_false, zz1]
theorem x2_has_in {S : St} {x : Nat} {W : Nat → Nat → Int32} {R : Nat → Nat → Nat} {p j : Nat} {A : Cn} (hp : kd p = 1) (h : ColW W R p A) (ok : cN A ≤ 8) (hj : j < cN A) : f_X2_has (WS S x W R) (x + p) (oI j) = some 1 := by
  rw [f_X2_has]
  simp (disch := omega) only [oI_n0, g_1_1 hp, h.2.1, oI_le, show ¬ cN A ≤ j by omega, zz1, Option.bind_some, reduceIte, if_true, if_false]
theorem x2_has_out {S : St} {x : Nat} {W : Nat → Nat → Int32} {R : Nat → Nat → Nat} {p : Nat} {a : Int32} {A : Cn} (hp : kd p = 1) (h : ColW W R p A) (hj : a < 0 ∨ oI (cN A) ≤ a) : f_X2_has (WS S x W R) (x + p) a = some 0 := by
  rw [f_X2_has]
  by_cases c : a < 0
  · simp only [c, Option.bind_some, reduceIte, if_true, if_false, zz0]
  · have : oI (cN A) ≤ a := by rcases hj with h | h; exact absurd h c; exact h
    simp only [c, g_1_1 hp, h.2.1, this, Option.bind_some, reduceIte, if_true, if_false, zz0]
theorem x2_at {S : St} {x : Nat} {W : Nat → Nat → Int32} {R : Nat → Nat → Nat} {p j : Nat} {A : Cn} (hp : kd p = 1) (h : ColW W R p A) (ok : cN A ≤ 8) (hj : j < cN A) : f_X2_at (WS S x W R) (x + p) (oI j) = some (x + R (p + 1) j) := by
  rw [f_X2_at]
  simp only [r_1 hp, o_1 hp, x2_has_in hp h ok hj, show ¬ (1 : Int32) = 0 by decide, a_11 (kd1 hp) (show j < 8 by omega), Option.bind_some, reduceIte, if_true, if_false]
def openC (A : Cn) (n : Nat) (g : Nat → Nat) : Cn := (cN A + 1, cD A, cY A, cF A, fun i => if i = cN A then zB n g (cD A) else cB A i)
theorem okC_open {A : Cn} {n : Nat} {g : Nat → Nat} (h : okC A) (hn : cN A < 8) (h1 : 1 ≤ n) (h2 : n ≤ 24) (hg : ∀ i, g i ≤ 255) : okC (openC A n g) := by
  refine ⟨hn, h.2.1, h.2.2.1, h.2.2.2.1, fun i hi => ?_⟩
  show okB (if i = cN A then zB n g (cD A) else cB A i)
  have hi' : i < cN A + 1 := hi
  by_cases c : i = cN A
  · rw [if_pos c]; exact okB_z h1 h2 hg h.2.1
  · rw [if_neg c]; exact h.2.2.2.2 i (by omega)
theorem x2_open {S : St} {x : Nat} {W : Nat → Nat → Int32} {R : Nat → Nat → Nat} {p r n : Nat} {g : Nat → Nat} {A : Cn} (hp : kd p = 1) (h : ColW W R p A) (hn : cN A < 8) (hr : kd r = 3) (hd : r + 1 < p ∨ p + 26 ≤ r) (hw : RwW W r n g) (h1 : 1 ≤ n) :
    ∃ W', f_X2_open (WS S x W R) (x + p) (x + r) = some (oI (cN A), WS S x W' R) ∧ ColW W' R p (openC A n g) ∧ FrC W W' R R p := by
  have hs := slot_in h.1 hn
  obtain ⟨W1, e1, e2, e3⟩ := x0_begin (S := S) (x := x) (R := R) (day := cD A) (kd_slot hp h.1 hn) hr (by omega) (by omega) (by omega) hw h1
  have hc := col_blk h (by omega) hn e3 e2
  have hW1 : W1 p = W p := e3 p (by omega) (by omega) (by omega)
  refine ⟨up2 W1 p 1 (oI (cN A + 1)), ?_, ?_, FrC_trans (FrC_blk h.1 hn e3) (FrC_p 1 _)⟩
  · simp (disch := omega) only [f_X2_open, o_1 hp, x2_full hp h (by omega), hn, r_1 hp, g_1_1 hp, h.2.1, a_11 (kd1 hp) hn, g_1_2 hp, h.2.2.1, o_0 (kd_slot hp h.1 hn), e1, hW1, l1, oI_add, p_1_1 hp, up2_eq, oI_sub, Nat.add_sub_cancel, Option.bind_some, reduceIte, if_true, if_false]
  · obtain ⟨k0, k1, k2, k3, k4, k5⟩ := hc
    refine ⟨k0, up2_eq _ p 1 _, ?_, ?_, ?_, fun j hj => ?_⟩
    · rw [up2_ne _ _ (by omega)]; exact k2
    · rw [up2_ne _ _ (by omega)]; exact k3
    · rw [up2_ne _ _ (by omega)]; exact k4
    · have hj' : j < cN A + 1 := hj
      have hs2 := slot_in h.1 (show j < 8 by omega)
      have hb : BlW W1 (R (p + 1) j) (if j = cN A then zB n g (cD A) else cB A j) := by
        by_cases c : j = cN A
        · rw [if_pos c, c]; exact e2
        · rw [if_neg c]
          have := k5 j (by show j < cN A; omega)
          have e4 : cB (updB A (cN A) (zB n g (cD A))) j = cB A j := by
            show (if j = cN A then _ else _) = _
            rw [if_neg c]
          rw [e4] at this
          exact this
      exact BlW_fr hb (up2_row _ _ (by omega)) (up2_row _ _ (by omega)) (up2_row _ _ (by omega))
theorem x2_copy_L {S : St} {x : Nat} {R : Nat → Nat → Nat} {p q : Nat} {A : Cn} (hp : kd p = 1) (hq : kd q = 1) (hn : p ≠ q) (h8 : cN A ≤ 8) (hR : ColOk R p) : ∀ (d fu i : Nat) (W : Nat → Nat → Int32), i + d = cN A → d < fu → ColW W R q A → W p 1 = oI (cN A) → W p 2 = oI (cD A) → W p 3 = oI (cY A) → W p 4 = oI (cF A) → (∀ j, j < i → BlW W (R (p + 1) j) (cB A j)) →
    ∃ W', f_X2_copyFrom_L34 (x + p) (x + q) fu (WS S x W R) (oI i) = some (WS S x W' R) ∧ ColW W' R p A ∧ FrC W W' R R p
  | d, 0, i, W, e, hf, h, k1, k2, k3, k4, hb => by omega
  | 0, fu + 1, i, W, e, hf, h, k1, k2, k3, k4, hb => by
    have : i = cN A := by omega
    subst this
    refine ⟨W, ?_, ⟨hR, k1, k2, k3, k4, hb⟩, FrC_refl W R p⟩
    rw [f_X2_copyFrom_L34]
    simp (disch := omega) only [g_1_1 hp, k1, oI_le, Nat.le_refl, Option.bind_some, reduceIte, if_true, if_false]
  | d + 1, fu + 1, i, W, e, hf, h, k1, k2, k3, k4, hb => by
    have hi : i < 8 := by omega
    have hs := slot_in hR hi
    have hs' := slot_in h.1 hi
    have hc := col_ne hp hq hn
    obtain ⟨W1, e1, e2, e3⟩ := x0_copy (S := S) (x := x) (R := R) (kd_slot hp hR hi) (kd_slot hq h.1 hi) (by omega) (h.2.2.2.2.2 i (by omega))
    have ep : W1 p = W p := e3 p (by omega) (by omega) (by omega)
    obtain ⟨W', f1, f2, f3⟩ := x2_copy_L (S := S) (x := x) (R := R) hp hq hn h8 hR d fu (i + 1) W1 (by omega) (by omega) (ColW_frC h h8 hq hp (fun c => hn c.symm) (FrC_blk hR hi e3)) (by rw [ep]; exact k1) (by rw [ep]; exact k2) (by rw [ep]; exact k3) (by rw [ep]; exact k4) (fun j hj => by
      by_cases c : j = i
      · rw [c]; exact e2
      · have := slt_ne hR (show j < 8 by omega) hi c
        exact BlW_fr (hb j (by omega)) (e3 _ (by omega) (by omega) (by omega)) (e3 _ (by omega) (by omega) (by omega)) (e3 _ (by omega) (by omega) (by omega)))
    refine ⟨W', ?_, f2, FrC_trans (FrC_blk hR hi e3) f3⟩
    rw [f_X2_copyFrom_L34]
    simp (disch := omega) only [g_1_1 hp, k1, oI_le, show ¬ cN A ≤ i by omega, r_1 hp, r_1 hq, a_11 (kd1 hp) hi, a_11 (kd1 hq) hi, o_0 (kd_slot hp hR hi), e1, l1, oI_add, Option.bind_some, reduceIte, if_true, if_false]
    exact f1
theorem x2_copy {S : St} {x : Nat} {W : Nat → Nat → Int32} {R : Nat → Nat → Nat} {p q : Nat} {A : Cn} (hp : kd p = 1) (hq : kd q = 1) (hn : p ≠ q) (h8 : cN A ≤ 8) (hR : ColOk R p) (h : ColW W R q A) :
    ∃ W', f_X2_copyFrom (WS S x W R) (x + p) (x + q) = some (WS S x W' R) ∧ ColW W' R p A ∧ FrC W W' R R p := by
  have f : FrC W (up2 (up2 (up2 (up2 W p 1 (oI (cN A))) p 2 (oI (cD A))) p 3 (oI (cY A))) p 4 (oI (cF A))) R R p := FrC_trans (FrC_trans (FrC_trans (FrC_p 1 _) (FrC_p 2 _)) (FrC_p 3 _)) (FrC_p 4 _)
  obtain ⟨W', e1, e2, e3⟩ := x2_copy_L (S := S) (x := x) (R := R) (A := A) hp hq hn h8 hR (cN A) FU 0 _ (by omega) (FU_lt (by omega)) (ColW_frC h h8 hq hp (fun c => hn c.symm) f) (by simp [up2]) (by simp [up2]) (by simp [up2]) (by simp [up2]) (fun j hj => by omega)
  refine ⟨W', ?_, e2, FrC_trans f e3⟩
  have hne : q ≠ p := fun c => hn c.symm
  simp only [f_X2_copyFrom, g_1_1 hq, g_1_2 hq, g_1_3 hq, g_1_4 hq, p_1_1 hp, p_1_2 hp, p_1_3 hp, p_1_4 hp, up2_row _ _ hne, h.2.1, h.2.2.1, h.2.2.2.1, h.2.2.2.2.1, l0, e1, Option.bind_some, reduceIte, if_true, if_false]
def dropC (A : Cn) (j : Nat) : Cn := (cN A - 1, cD A, cY A, cF A, fun i => if i < j then cB A i else cB A (i + 1))
theorem okC_drop {A : Cn} {j : Nat} (h : okC A) : okC (dropC A j) := by
  refine ⟨by have := h.1; show cN A - 1 ≤ 8; omega, h.2.1, h.2.2.1, h.2.2.2.1, fun i hi => ?_⟩
  show okB (if i < j then cB A i else cB A (i + 1))
  have hi' : i < cN A - 1 := hi
  split
  · exact h.2.2.2.2 i (by omega)
  · exact h.2.2.2.2 (i + 1) (by omega)
theorem x2_drop_L {S : St} {x : Nat} {W : Nat → Nat → Int32} {R0 : Nat → Nat → Nat} {p j n y : Nat} (hp : kd p = 1) (h8 : n ≤ 8) (hs : W p 1 = oI n) (hk : ∀ k, k < 8 → kd (R0 (p + 1) k) = 0) : ∀ (d fu i : Nat) (R : Nat → Nat → Nat), i + d + 1 = n → d < fu → j ≤ i → (∀ k, R (p + 1) k = if j ≤ k ∧ k < i then R0 (p + 1) (k + 1) else R0 (p + 1) k) → (∀ o, o ≠ p + 1 → R o = R0 o) →
    ∃ R', f_X2_drop_L18 (x + p) y fu (WS S x W R) (oI i) = some (WS S x W R') ∧ (∀ k, R' (p + 1) k = if j ≤ k ∧ k < n - 1 then R0 (p + 1) (k + 1) else R0 (p + 1) k) ∧ (∀ o, o ≠ p + 1 → R' o = R0 o)
  | d, 0, i, R, e, hf, hj, h1, h2 => by omega
  | 0, fu + 1, i, R, e, hf, hj, h1, h2 => by
    refine ⟨R, ?_, fun k => ?_, h2⟩
    · rw [f_X2_drop_L18]
      simp (disch := omega) only [g_1_1 hp, hs, oI_le, l1, oI_add, show n ≤ i + 1 by omega, Option.bind_some, reduceIte, if_true, if_false]
    · rw [h1 k, show n - 1 = i by omega]
  | d + 1, fu + 1, i, R, e, hf, hj, h1, h2 => by
    have e0 : R (p + 1) (i + 1) = R0 (p + 1) (i + 1) := by rw [h1, if_neg (by omega)]
    obtain ⟨R', f1, f2, f3⟩ := x2_drop_L (S := S) (x := x) (y := y) (j := j) hp h8 hs hk d fu (i + 1) (up2 R (p + 1) i (R0 (p + 1) (i + 1))) (by omega) (by omega) (by omega) (fun k => by
      by_cases c : k = i
      · subst c; rw [up2_eq, if_pos ⟨hj, by omega⟩]
      · rw [up2_ne _ _ (by omega), h1 k]
        by_cases c2 : j ≤ k ∧ k < i
        · rw [if_pos c2, if_pos ⟨c2.1, by omega⟩]
        · rw [if_neg c2, if_neg (by omega)]) (fun o ho => by rw [up2_row _ _ ho]; exact h2 o ho)
    refine ⟨R', ?_, f2, f3⟩
    rw [f_X2_drop_L18]
    simp (disch := omega) only [g_1_1 hp, hs, oI_le, l1, oI_add, show ¬ n ≤ i + 1 by omega, r_1 hp, a_11 (kd1 hp) (show i + 1 < 8 by omega), e0, s_11 (kd1 hp) (show i < 8 by omega) (hk (i + 1) (by omega)), Option.bind_some, reduceIte, if_true, if_false]
    exact f1
theorem x2_drop {S : St} {x : Nat} {W : Nat → Nat → Int32} {R : Nat → Nat → Nat} {p j : Nat} {A : Cn} (hp : kd p = 1) (h : ColW W R p A) (h8 : cN A ≤ 8) (hj : j < cN A) :
    ∃ W' R', f_X2_drop (WS S x W R) (x + p) (oI j) = some (WS S x W' R') ∧ ColW W' R' p (dropC A j) ∧ FrC W W' R R' p := by
  obtain ⟨R1, e1, e2, e3⟩ := x2_drop_L (S := S) (x := x) (R0 := R) (j := j) (y := x + R (p + 1) j) hp h8 h.2.1 (fun k hk => kd_slot hp h.1 hk) (cN A - 1 - j) FU j R (by omega) (FU_lt (by omega)) (by omega) (fun k => by rw [if_neg (by omega)]) (fun _ _ => rfl)
  have e4 : ∀ k, k < 8 → (up2 R1 (p + 1) (cN A - 1) (R (p + 1) j)) (p + 1) k = R (p + 1) (if k < j then k else if k < cN A - 1 then k + 1 else if k = cN A - 1 then j else k) := by
    intro k hk
    by_cases c0 : k = cN A - 1
    · rw [c0, up2_eq, if_neg (by omega), if_neg (by omega), if_pos rfl]
    · rw [up2_ne _ _ (by omega), e2 k]
      by_cases c1 : k < j
      · rw [if_pos c1, if_neg (by omega)]
      · by_cases c2 : k < cN A - 1
        · rw [if_neg c1, if_pos c2, if_pos ⟨by omega, c2⟩]
        · rw [if_neg c1, if_neg c2, if_neg c0, if_neg (by omega)]
  have ha : ∀ k, k < 8 → (if k < j then k else if k < cN A - 1 then k + 1 else if k = cN A - 1 then j else k) < 8 := by
    intro k hk
    repeat' split
    all_goals omega
  refine ⟨up2 W p 1 (oI (cN A - 1)), up2 R1 (p + 1) (cN A - 1) (R (p + 1) j), ?_, ⟨⟨fun k hk => ?_, fun i k hi hk e => ?_⟩, up2_eq _ p 1 _, ?_, ?_, ?_, fun i hi => ?_⟩, fun o c => ⟨up2_row _ _ (by omega), by rw [up2_row _ _ (by omega)]; exact e3 o (by omega)⟩⟩
  · simp (disch := omega) only [f_X2_drop, o_1 hp, x2_has_in hp h h8 hj, show ¬ (1 : Int32) = 0 by decide, r_1 hp, a_11 (kd1 hp) (show j < 8 by omega), e1, g_1_1 hp, h.2.1, l1, oI_sub, p_1_1 hp, up2_eq, s_11 (kd1 hp) (show cN A - 1 < 8 by omega) (kd_slot hp h.1 (show j < 8 by omega)), Option.bind_some, reduceIte, if_true, if_false]
    rfl
  · rw [e4 k hk]; exact h.1.1 _ (ha k hk)
  · rw [e4 i hi, e4 k hk] at e
    have := h.1.2 _ _ (ha i hi) (ha k hk) e
    revert this
    repeat' split
    all_goals omega
  · rw [up2_ne _ _ (by omega)]; exact h.2.2.1
  · rw [up2_ne _ _ (by omega)]; exact h.2.2.2.1
  · rw [up2_ne _ _ (by omega)]; exact h.2.2.2.2.1
  · have hi' : i < cN A - 1 := hi
    rw [e4 i (by omega)]
    show BlW _ _ (if i < j then cB A i else cB A (i + 1))
    by_cases c : i < j
    · have hs := slot_in h.1 (show i < 8 by omega)
      rw [if_pos c, if_pos c]
      exact BlW_fr (h.2.2.2.2.2 i (by omega)) (up2_row _ _ (by omega)) (up2_row _ _ (by omega)) (up2_row _ _ (by omega))
    · have hs := slot_in h.1 (show i + 1 < 8 by omega)
      rw [if_neg c, if_neg c, if_pos hi']
      exact BlW_fr (h.2.2.2.2.2 (i + 1) (by omega)) (up2_row _ _ (by omega)) (up2_row _ _ (by omega)) (up2_row _ _ (by omega))
