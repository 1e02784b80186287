/-! ROWS SET: what a row's functions leave -/
def RwW (W : Nat → Nat → Int32) (o n : Nat) (g : Nat → Nat) : Prop := W o 1 = oI n ∧ (∀ i, i < n → W (o + 1) i = oI (g i)) ∧ n ≤ 24 ∧ ∀ i, g i ≤ 255
def Fr2 (W W' : Nat → Nat → Int32) (o : Nat) : Prop := ∀ o', o' ≠ o → o' ≠ o + 1 → W' o' = W o'
theorem Fr2_refl (W : Nat → Nat → Int32) (o : Nat) : Fr2 W W o := fun _ _ _ => rfl
theorem Fr2_trans {W W1 W2 : Nat → Nat → Int32} {o : Nat} (h : Fr2 W W1 o) (k : Fr2 W1 W2 o) : Fr2 W W2 o := fun o' a b => (k o' a b).trans (h o' a b)
theorem Fr2_n (W : Nat → Nat → Int32) (o k : Nat) (v : Int32) : Fr2 W (up2 W o k v) o := fun o' a _ => up2_row W v a
theorem Fr2_v (W : Nat → Nat → Int32) (o k : Nat) (v : Int32) : Fr2 W (up2 W (o + 1) k v) o := fun o' _ b => up2_row W v b
theorem RwW_at {S : St} {x : Nat} {W : Nat → Nat → Int32} {R : Nat → Nat → Nat} {o n : Nat} {g : Nat → Nat} (ho : kd o = 3) (h : RwW W o n g) : RwA (WS S x W R) (x + o) n g := by
  refine ⟨o_3 ho, by rw [g_3_1 ho, h.1], r_3 ho, fun i hi => ?_, h.2.2.1, h.2.2.2, n_10 (kd3 ho)⟩
  have hn := h.2.2.1
  rw [Nat.add_assoc, a_10 (kd3 ho) (show i < 24 by omega), h.2.1 i hi]
theorem RwW_fr {W W' : Nat → Nat → Int32} {o n : Nat} {g : Nat → Nat} (h : RwW W o n g) (e1 : W' o = W o) (e2 : W' (o + 1) = W (o + 1)) : RwW W' o n g := by
  unfold RwW
  rw [e1, e2]
  exact h
theorem RwW_congr {W : Nat → Nat → Int32} {o n : Nat} {g k : Nat → Nat} (h : RwW W o n g) (e : ∀ i, i < n → g i = k i) (hk : ∀ i, k i ≤ 255) : RwW W o n k :=
  ⟨h.1, fun i hi => by rw [h.2.1 i hi, e i hi], h.2.2.1, hk⟩
/-- set the size -/
theorem RwW_n {W : Nat → Nat → Int32} {o n m : Nat} {g : Nat → Nat} (h : RwW W o n g) (hm : m ≤ n) : RwW (up2 W o 1 (oI m)) o m g := by
  have hn := h.2.2.1
  refine ⟨up2_eq W o 1 _, fun i hi => ?_, by omega, h.2.2.2⟩
  rw [up2_row W _ (show o + 1 ≠ o by omega)]
  exact h.2.1 i (by omega)
/-- set one value -/
theorem RwW_v {W : Nat → Nat → Int32} {o n p w : Nat} {g : Nat → Nat} (h : RwW W o n g) (hw : w ≤ 255) : RwW (up2 W (o + 1) p (oI w)) o n (fun i => if i = p then w else g i) := by
  refine ⟨?_, fun i hi => ?_, h.2.2.1, fun i => ?_⟩
  · rw [up2_row W _ (show o ≠ o + 1 by omega)]; exact h.1
  · by_cases c : i = p
    · subst c; rw [up2_eq]; simp only [if_true]
    · rw [up2_ne W _ (fun e => c e.2)]; dsimp only; rw [if_neg c]; exact h.2.1 i hi
  · dsimp only
    split
    · exact hw
    · exact h.2.2.2 i
/-- one more value -/
theorem RwW_push {W : Nat → Nat → Int32} {o n w : Nat} {g : Nat → Nat} (h : RwW W o n g) (hw : w ≤ 255) (hn : n < 24) : RwW (up2 (up2 W (o + 1) n (oI w)) o 1 (oI (n + 1))) o (n + 1) (fun i => if i < n then g i else w) := by
  refine ⟨up2_eq _ o 1 _, fun i hi => ?_, by omega, fun i => ?_⟩
  · rw [up2_row _ _ (show o + 1 ≠ o by omega)]
    by_cases c : i < n
    · rw [up2_ne W _ (by omega)]; dsimp only; rw [if_pos c]; exact h.2.1 i c
    · have : i = n := by omega
      subst this
      rw [up2_eq]
      dsimp only
      rw [if_neg c]
  · dsimp only
    split
    · exact h.2.2.2 i
    · exact hw
theorem x4_clear {S : St} {x : Nat} {W : Nat → Nat → Int32} {R : Nat → Nat → Nat} {o : Nat} (ho : kd o = 3) : f_X4_clear (WS S x W R) (x + o) = some (WS S x (up2 W o 1 (oI 0)) R) := by
  simp only [f_X4_clear, p_3_1 ho, Option.bind_some, reduceIte, if_true, if_false, l0]
theorem RwW_zero (W : Nat → Nat → Int32) (o : Nat) (g : Nat → Nat) (hg : ∀ i, g i ≤ 255) : RwW (up2 W o 1 (oI 0)) o 0 g := ⟨up2_eq W o 1 _, fun i hi => by omega, by omega, hg⟩
theorem x4_push_L {S : St} {x : Nat} {R : Nat → Nat → Nat} {o w k : Nat} (ho : kd o = 3) (hw : w ≤ 255) (hk : k ≤ 24) : ∀ (d fu i n : Nat) (W : Nat → Nat → Int32) (g : Nat → Nat), i + d = k → d < fu → n + d ≤ 24 → RwW W o n g →
    ∃ W', f_X4_push_L12 (x + o) (oI w) (oI k) fu (WS S x W R) (oI i) = some (WS S x W' R) ∧ RwW W' o (n + d) (fun i => if i < n then g i else w) ∧ Fr2 W W' o
  | d, 0, i, n, W, g, e, hf, hn, h => by omega
  | 0, fu + 1, i, n, W, g, e, hf, hn, h => by
    have : i = k := by omega
    subst this
    refine ⟨W, ?_, RwW_congr h (fun i hi => (if_pos hi).symm) (fun i => ?_), Fr2_refl W o⟩
    · rw [f_X4_push_L12]
      simp (disch := omega) only [oI_le, Nat.le_refl, Option.bind_some, reduceIte, if_true, if_false]
    · split
      · exact h.2.2.2 i
      · exact hw
  | d + 1, fu + 1, i, n, W, g, e, hf, hn, h => by
    obtain ⟨W', e1, e2, e3⟩ := x4_push_L ho hw hk d fu (i + 1) (n + 1) _ _ (by omega) (by omega) (by omega) (RwW_push h hw (by omega))
    refine ⟨W', ?_, ?_, Fr2_trans (Fr2_trans (Fr2_v W o n (oI w)) (Fr2_n _ o 1 _)) e3⟩
    · rw [f_X4_push_L12]
      simp (disch := omega) only [oI_le, show ¬ k ≤ i by omega, r_3 ho, g_3_1 ho, h.1, s_10 (kd3 ho), up2_row W _ (show o ≠ o + 1 by omega), p_3_1 ho, l1, oI_add, Option.bind_some, reduceIte, if_true, if_false]
      exact e1
    · rw [show n + (d + 1) = n + 1 + d by omega]
      refine RwW_congr e2 (fun i hi => ?_) (fun i => ?_)
      · by_cases c : i < n
        · simp only [c, show i < n + 1 by omega, if_true]
        · simp only [c, if_false]; split <;> rfl
      · split
        · exact h.2.2.2 i
        · exact hw
theorem x4_push {S : St} {x : Nat} {W : Nat → Nat → Int32} {R : Nat → Nat → Nat} {o n w k : Nat} {g : Nat → Nat} (ho : kd o = 3) (h : RwW W o n g) (hw : w ≤ 255) (hk : n + k ≤ 24) :
    ∃ W', f_X4_push (WS S x W R) (x + o) (oI w) (oI k) = some (1, WS S x W' R) ∧ RwW W' o (n + k) (fun i => if i < n then g i else w) ∧ Fr2 W W' o := by
  obtain ⟨W', e1, e2, e3⟩ := x4_push_L (S := S) (x := x) (R := R) ho hw (show k ≤ 24 by omega) k FU 0 n W g (by omega) (FU_lt (by omega)) hk h
  refine ⟨W', ?_, e2, e3⟩
  rw [f_X4_push]
  simp only [o_3 ho, x4_room (RwW_at ho h) (show k < 2147483648 by omega), show ¬ 24 < n + k by omega, Option.bind_some, reduceIte, if_true, if_false, show ¬ (1 : Int32) = 0 by decide]
  rw [l0, e1]
  simp only [Option.bind_some, reduceIte, if_true, if_false]
theorem x4_push_no {S : St} {x : Nat} {W : Nat → Nat → Int32} {R : Nat → Nat → Nat} {o n k : Nat} {w : Int32} {g : Nat → Nat} (ho : kd o = 3) (h : RwW W o n g) (hk' : k < 2147483648) (hk : 24 < n + k) :
    f_X4_push (WS S x W R) (x + o) w (oI k) = some (0, WS S x W R) := by
  rw [f_X4_push]
  simp only [o_3 ho, x4_room (RwW_at ho h) hk', hk, Option.bind_some, reduceIte, if_true, if_false]
theorem x4_copy_L {S : St} {x : Nat} {R : Nat → Nat → Nat} {o q n : Nat} {g : Nat → Nat} (ho : kd o = 3) (hq : kd q = 3) (hd : o ≠ q) (hd1 : o + 1 ≠ q) (hd2 : q + 1 ≠ o) : ∀ (d fu i : Nat) (W : Nat → Nat → Int32), i + d = n → d < fu → RwW W q n g → W o 1 = oI n → (∀ k, k < i → W (o + 1) k = oI (g k)) →
    ∃ W', f_X4_copyFrom_L10 (x + o) (x + q) fu (WS S x W R) (oI i) = some (WS S x W' R) ∧ RwW W' o n g ∧ Fr2 W W' o
  | d, 0, i, W, e, hf, h, hs, hv => by omega
  | 0, fu + 1, i, W, e, hf, h, hs, hv => by
    have hn := h.2.2.1
    have : i = n := by omega
    subst this
    refine ⟨W, ?_, ⟨hs, hv, h.2.2.1, h.2.2.2⟩, Fr2_refl W o⟩
    rw [f_X4_copyFrom_L10]
    simp (disch := omega) only [g_3_1 ho, hs, oI_le, Nat.le_refl, Option.bind_some, reduceIte, if_true, if_false]
  | d + 1, fu + 1, i, W, e, hf, h, hs, hv => by
    have hn := h.2.2.1
    have hvi := h.2.1 i (by omega)
    obtain ⟨W', e1, e2, e3⟩ := x4_copy_L (S := S) (x := x) (R := R) ho hq hd hd1 hd2 d fu (i + 1) (up2 W (o + 1) i (oI (g i))) (by omega) (by omega) (RwW_fr h (up2_row W _ (fun c => hd1 c.symm)) (up2_row W _ (by omega))) (by rw [up2_row W _ (by omega)]; exact hs) (fun k hk => by
      by_cases c : k = i
      · subst c; rw [up2_eq]
      · rw [up2_ne W _ (by omega)]; exact hv k (by omega))
    refine ⟨W', ?_, e2, Fr2_trans (Fr2_v W o i _) e3⟩
    rw [f_X4_copyFrom_L10]
    simp (disch := omega) only [g_3_1 ho, hs, oI_le, show ¬ n ≤ i by omega, r_3 ho, r_3 hq, a_10 (kd3 hq), hvi, s_10 (kd3 ho), l1, oI_add, Option.bind_some, reduceIte, if_true, if_false]
    exact e1
theorem x4_copy {S : St} {x : Nat} {W : Nat → Nat → Int32} {R : Nat → Nat → Nat} {o q n : Nat} {g : Nat → Nat} (ho : kd o = 3) (hq : kd q = 3) (hd : o ≠ q) (hd1 : o + 1 ≠ q) (hd2 : q + 1 ≠ o) (h : RwW W q n g) :
    ∃ W', f_X4_copyFrom (WS S x W R) (x + o) (x + q) = some (WS S x W' R) ∧ RwW W' o n g ∧ Fr2 W W' o := by
  have hn := h.2.2.1
  obtain ⟨W', e1, e2, e3⟩ := x4_copy_L (S := S) (x := x) (R := R) (n := n) (g := g) ho hq hd hd1 hd2 n FU 0 (up2 W o 1 (oI n)) (by omega) (FU_lt (by omega)) (RwW_fr h (up2_row W _ (fun c => hd c.symm)) (up2_row W _ (by omega))) (up2_eq W o 1 _) (fun k hk => by omega)
  refine ⟨W', ?_, e2, Fr2_trans (Fr2_n W o 1 _) e3⟩
  rw [f_X4_copyFrom]
  simp only [g_3_1 hq, h.1, p_3_1 ho, l0, e1, Option.bind_some, reduceIte, if_true, if_false]
theorem x4_replace {S : St} {x : Nat} {W : Nat → Nat → Int32} {R : Nat → Nat → Nat} {o n p : Nat} {g : Nat → Nat} (ho : kd o = 3) (h : RwW W o n g) (hp : p < n) (v : Int32) :
    f_X4_replace (WS S x W R) (x + o) (oI p) v = some (WS S x (up2 W (o + 1) p v) R) := by
  have hn := h.2.2.1
  rw [f_X4_replace]
  simp only [o_3 ho, x4_has_in (RwW_at ho h) hp, show ¬ (1 : Int32) = 0 by decide, r_3 ho, s_10 (kd3 ho) (show p < 24 by omega), Option.bind_some, reduceIte, if_true, if_false]
theorem x4_remove_L {S : St} {x : Nat} {R : Nat → Nat → Nat} {o n p : Nat} {g : Nat → Nat} (ho : kd o = 3) (hn : n ≤ 24) : ∀ (d fu i : Nat) (W : Nat → Nat → Int32), i + d + 1 = n → d < fu → p ≤ i → W o 1 = oI n → (∀ k, k < n → W (o + 1) k = oI (if p ≤ k ∧ k < i then g (k + 1) else g k)) →
    ∃ W', f_X4_remove_L10 (x + o) fu (WS S x W R) (oI i) = some (WS S x W' R) ∧ W' o 1 = oI n ∧ (∀ k, k + 1 < n → W' (o + 1) k = oI (if p ≤ k then g (k + 1) else g k)) ∧ Fr2 W W' o
  | d, 0, i, W, e, hf, hp, hs, hv => by omega
  | 0, fu + 1, i, W, e, hf, hp, hs, hv => by
    refine ⟨W, ?_, hs, fun k hk => ?_, Fr2_refl W o⟩
    · rw [f_X4_remove_L10]
      simp (disch := omega) only [g_3_1 ho, hs, oI_le, l1, oI_add, show n ≤ i + 1 by omega, Option.bind_some, reduceIte, if_true, if_false]
    · rw [hv k (by omega)]
      by_cases c : p ≤ k
      · rw [if_pos ⟨c, by omega⟩, if_pos c]
      · rw [if_neg (fun e => c e.1), if_neg c]
  | d + 1, fu + 1, i, W, e, hf, hp, hs, hv => by
    have hvi : W (o + 1) (i + 1) = oI (g (i + 1)) := by rw [hv (i + 1) (by omega), if_neg (by omega)]
    obtain ⟨W', e1, e2, e3, e4⟩ := x4_remove_L (S := S) (x := x) (R := R) (g := g) (p := p) ho hn d fu (i + 1) (up2 W (o + 1) i (oI (g (i + 1)))) (by omega) (by omega) (by omega) (by rw [up2_row W _ (by omega)]; exact hs) (fun k hk => by
      by_cases c : k = i
      · subst c; rw [up2_eq, if_pos ⟨hp, by omega⟩]
      · rw [up2_ne W _ (by omega), hv k hk]
        by_cases c2 : p ≤ k ∧ k < i
        · rw [if_pos c2, if_pos ⟨c2.1, by omega⟩]
        · rw [if_neg c2, if_neg (by omega)])
    refine ⟨W', ?_, e2, e3, Fr2_trans (Fr2_v W o i _) e4⟩
    rw [f_X4_remove_L10]
    simp (disch := omega) only [g_3_1 ho, hs, oI_le, l1, oI_add, show ¬ n ≤ i + 1 by omega, r_3 ho, a_10 (kd3 ho), hvi, s_10 (kd3 ho), Option.bind_some, reduceIte, if_true, if_false]
    exact e1
theorem x4_remove {S : St} {x : Nat} {W : Nat → Nat → Int32} {R : Nat → Nat → Nat} {o n p : Nat} {g : Nat → Nat} (ho : kd o = 3) (h : RwW W o n g) (hp : p < n) :
    ∃ W', f_X4_remove (WS S x W R) (x + o) (oI p) = some (WS S x W' R) ∧ RwW W' o (n - 1) (fun k => if p ≤ k then g (k + 1) else g k) ∧ Fr2 W W' o := by
  have hn := h.2.2.1
  obtain ⟨W', e1, e2, e3, e4⟩ := x4_remove_L (S := S) (x := x) (R := R) (g := g) (p := p) ho hn (n - 1 - p) FU p W (by omega) (FU_lt (by omega)) (by omega) h.1 (fun k hk => by rw [h.2.1 k hk, if_neg (by omega)])
  refine ⟨up2 W' o 1 (oI (n - 1)), ?_, ⟨up2_eq W' o 1 _, fun k hk => ?_, by omega, fun k => ?_⟩, Fr2_trans e4 (Fr2_n W' o 1 _)⟩
  · rw [f_X4_remove]
    simp (disch := omega) only [o_3 ho, x4_has_in (RwW_at ho h) hp, show ¬ (1 : Int32) = 0 by decide, e1, g_3_1 ho, e2, l1, oI_sub, p_3_1 ho, Option.bind_some, reduceIte, if_true, if_false]
    rfl
  · rw [up2_row W' _ (by omega)]; exact e3 k (by omega)
  · dsimp only
    split <;> exact h.2.2.2 _
theorem x4_reverse_L {S : St} {x : Nat} {R : Nat → Nat → Nat} {o n : Nat} {g : Nat → Nat} (ho : kd o = 3) (hn : n ≤ 24) (h1 : 1 ≤ n) : ∀ (d fu i : Nat) (W : Nat → Nat → Int32), i + d = n → d < fu → 2 * i ≤ n + 1 → W o 1 = oI n → (∀ k, k < n → W (o + 1) k = oI (if k < i ∨ n ≤ k + i then g (n - 1 - k) else g k)) →
    ∃ W', f_X4_reverse_L2 (x + o) fu (WS S x W R) (oI i) = some (WS S x W' R) ∧ W' o 1 = oI n ∧ (∀ k, k < n → W' (o + 1) k = oI (g (n - 1 - k))) ∧ Fr2 W W' o
  | d, 0, i, W, e, hf, hp, hs, hv => by omega
  | d, fu + 1, i, W, e, hf, hp, hs, hv => by
    by_cases cc : n ≤ 2 * i + 1
    · refine ⟨W, ?_, hs, fun k hk => ?_, Fr2_refl W o⟩
      · rw [f_X4_reverse_L2]
        by_cases c : i ≤ n - 1
        · simp (disch := omega) only [g_3_1 ho, hs, l1, oI_sub, oI_le, show n - 1 - i ≤ i by omega, Option.bind_some, reduceIte, if_true, if_false]
        · have : (oI n - oI 1 - oI i ≤ oI i) = True := by
            rw [oI_sub h1, oI_subneg (by omega), Int32.le_iff_toInt_le, neg_toInt (by omega), oI_toInt (by omega)]
            simp
          simp only [g_3_1 ho, hs, l1, this, Option.bind_some, reduceIte, if_true, if_false]
      · rw [hv k hk]
        by_cases c : k < i ∨ n ≤ k + i
        · rw [if_pos c]
        · rw [if_neg c, show n - 1 - k = k by omega]
    · have hi : i < n := by omega
      have hvi : W (o + 1) i = oI (g i) := by rw [hv i hi, if_neg (by omega)]
      have hvj : W (o + 1) (n - 1 - i) = oI (g (n - 1 - i)) := by rw [hv (n - 1 - i) (by omega), if_neg (by omega)]
      obtain ⟨d', rfl⟩ : ∃ d', d = d' + 1 := ⟨d - 1, by omega⟩
      obtain ⟨W', e1, e2, e3, e4⟩ := x4_reverse_L (S := S) (x := x) (R := R) (g := g) ho hn h1 d' fu (i + 1) (up2 (up2 W (o + 1) i (oI (g (n - 1 - i)))) (o + 1) (n - 1 - i) (oI (g i))) (by omega) (by omega) (by omega) (by rw [up2_row _ _ (by omega), up2_row _ _ (by omega)]; exact hs) (fun k hk => by
        by_cases c : k = n - 1 - i
        · rw [c, up2_eq, if_pos (by omega), show n - 1 - (n - 1 - i) = i by omega]
        · rw [up2_ne _ _ (by omega)]
          by_cases c2 : k = i
          · rw [c2, up2_eq, if_pos (by omega)]
          · rw [up2_ne _ _ (by omega), hv k hk]
            by_cases c3 : k < i ∨ n ≤ k + i
            · rw [if_pos c3, if_pos (by omega)]
            · rw [if_neg c3, if_neg (by omega)])
      refine ⟨W', ?_, e2, e3, Fr2_trans (Fr2_trans (Fr2_v W o i _) (Fr2_v _ o _ _)) e4⟩
      rw [f_X4_reverse_L2]
      simp (disch := omega) only [g_3_1 ho, hs, l1, oI_sub, oI_le, show ¬ n - 1 - i ≤ i by omega, r_3 ho, a_10 (kd3 ho), hvi, hvj, s_10 (kd3 ho), up2_row _ _ (show o ≠ o + 1 by omega), oI_add, Option.bind_some, reduceIte, if_true, if_false]
      exact e1
theorem x4_reverse {S : St} {x : Nat} {W : Nat → Nat → Int32} {R : Nat → Nat → Nat} {o n : Nat} {g : Nat → Nat} (ho : kd o = 3) (h : RwW W o n g) (h1 : 1 ≤ n) :
    ∃ W', f_X4_reverse (WS S x W R) (x + o) = some (WS S x W' R) ∧ RwW W' o n (fun k => g (n - 1 - k)) ∧ Fr2 W W' o := by
  have hn := h.2.2.1
  obtain ⟨W', e1, e2, e3, e4⟩ := x4_reverse_L (S := S) (x := x) (R := R) (g := g) ho hn h1 n FU 0 W (by omega) (FU_lt (by omega)) (by omega) h.1 (fun k hk => by rw [h.2.1 k hk, if_neg (by omega)])
  refine ⟨W', ?_, ⟨e2, e3, hn, fun i => h.2.2.2 _⟩, e4⟩
  rw [f_X4_reverse]
  simp only [l0, e1, Option.bind_some, reduceIte, if_true, if_false]
theorem x4_tail_L {S : St} {x : Nat} {R : Nat → Nat → Nat} {o q m : Nat} {k : Nat → Nat} (ho : kd o = 3) (hq : kd q = 3) (hd : o ≠ q) (hd1 : o + 1 ≠ q) (hd2 : q + 1 ≠ o) : ∀ (d fu i n : Nat) (W : Nat → Nat → Int32) (g : Nat → Nat), i + d = m → d < fu → n + d ≤ 24 → RwW W q m k → RwW W o n g →
    ∃ W', f_X4_pushTail_L2 (x + o) (x + q) fu (WS S x W R) (oI i) = some (WS S x W' R) ∧ RwW W' o (n + d) (fun t => if t < n then g t else k (i + (t - n))) ∧ Fr2 W W' o
  | d, 0, i, n, W, g, e, hf, hn, h, h' => by omega
  | 0, fu + 1, i, n, W, g, e, hf, hn, h, h' => by
    have hm := h.2.2.1
    have : i = m := by omega
    subst this
    refine ⟨W, ?_, RwW_congr h' (fun i hi => (if_pos hi).symm) (fun i => ?_), Fr2_refl W o⟩
    · rw [f_X4_pushTail_L2]
      simp (disch := omega) only [g_3_1 hq, h.1, oI_le, Nat.le_refl, Option.bind_some, reduceIte, if_true, if_false]
    · split
      · exact h'.2.2.2 i
      · exact h.2.2.2 _
  | d + 1, fu + 1, i, n, W, g, e, hf, hn, h, h' => by
    have hm := h.2.2.1
    obtain ⟨W1, p1, p2, p3⟩ := x4_push (S := S) (x := x) (R := R) (k := 1) ho h' (h.2.2.2 i) (by omega)
    obtain ⟨W', e1, e2, e3⟩ := x4_tail_L (S := S) (x := x) (R := R) ho hq hd hd1 hd2 d fu (i + 1) (n + 1) W1 _ (by omega) (by omega) (by omega) (RwW_fr h (p3 q (fun c => hd c.symm) (fun c => hd1 c.symm)) (p3 (q + 1) (by omega) (by omega))) p2
    refine ⟨W', ?_, ?_, Fr2_trans p3 e3⟩
    · rw [f_X4_pushTail_L2]
      simp (disch := omega) only [g_3_1 hq, h.1, oI_le, show ¬ m ≤ i by omega, o_3 hq, o_3 ho, x4_at (RwW_at hq h), l1, p1, oI_add, Option.bind_some, reduceIte, if_true, if_false]
      exact e1
    · rw [show n + (d + 1) = n + 1 + d by omega]
      refine RwW_congr e2 (fun t ht => ?_) (fun t => ?_)
      · by_cases c : t < n
        · simp only [c, show t < n + 1 by omega, if_true]
        · by_cases c2 : t = n
          · subst c2; simp only [show t < t + 1 by omega, Nat.lt_irrefl, if_true, if_false, Nat.sub_self, Nat.add_zero]
          · simp only [c, show ¬ t < n + 1 by omega, if_false]
            rw [show i + 1 + (t - (n + 1)) = i + (t - n) by omega]
      · split
        · exact h'.2.2.2 t
        · exact h.2.2.2 _
theorem x4_tail {S : St} {x : Nat} {W : Nat → Nat → Int32} {R : Nat → Nat → Nat} {o q n m p : Nat} {g k : Nat → Nat} (ho : kd o = 3) (hq : kd q = 3) (hd : o ≠ q) (hd1 : o + 1 ≠ q) (hd2 : q + 1 ≠ o) (h : RwW W o n g) (h' : RwW W q m k) (hp : p ≤ m) (hn : n + (m - p) ≤ 24) :
    ∃ W', f_X4_pushTail (WS S x W R) (x + o) (x + q) (oI p) = some (WS S x W' R) ∧ RwW W' o (n + (m - p)) (fun t => if t < n then g t else k (p + (t - n))) ∧ Fr2 W W' o := by
  have hm := h'.2.2.1
  obtain ⟨W', e1, e2, e3⟩ := x4_tail_L (S := S) (x := x) (R := R) ho hq hd hd1 hd2 (m - p) FU p n W g (by omega) (FU_lt (by omega)) hn h' h
  refine ⟨W', ?_, e2, e3⟩
  rw [f_X4_pushTail, e1]
  rfl
theorem x4_shorten {S : St} {x : Nat} {W : Nat → Nat → Int32} {R : Nat → Nat → Nat} {o n p : Nat} {g : Nat → Nat} (ho : kd o = 3) (h : RwW W o n g) (hp : p < n) :
    f_X4_shorten (WS S x W R) (x + o) (oI p) = some (WS S x (up2 W o 1 (oI p)) R) := by
  rw [f_X4_shorten]
  simp only [o_3 ho, x4_has_in (RwW_at ho h) hp, show ¬ (1 : Int32) = 0 by decide, p_3_1 ho, Option.bind_some, reduceIte, if_true, if_false]
