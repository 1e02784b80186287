/-! BLOCKS -/
abbrev Bk : Type := Nat × Nat × Nat × (Nat → Nat) × (Nat → Int32)
abbrev bN (b : Bk) : Nat := b.1
abbrev bC (b : Bk) : Nat := b.2.1
abbrev bV (b : Bk) : Nat := b.2.2.1
abbrev bG (b : Bk) : Nat → Nat := b.2.2.2.1
abbrev bK (b : Bk) : Nat → Int32 := b.2.2.2.2
def okB (b : Bk) : Prop := 1 ≤ bN b ∧ bN b ≤ 24 ∧ bC b ≤ 5 ∧ bV b ≤ 5000 ∧ ∀ i, bG b i ≤ 255
def BlW (W : Nat → Nat → Int32) (q : Nat) (b : Bk) : Prop := RwW W (q + 1) (bN b) (bG b) ∧ W q 1 = oI (bC b) ∧ W q 2 = oI (bV b) ∧ ∀ k, 3 ≤ k → k < 8 → W q k = bK b k
def Fr3 (W W' : Nat → Nat → Int32) (q : Nat) : Prop := ∀ o', o' ≠ q → o' ≠ q + 1 → o' ≠ q + 2 → W' o' = W o'
theorem Fr3_refl (W : Nat → Nat → Int32) (q : Nat) : Fr3 W W q := fun _ _ _ _ => rfl
theorem Fr3_trans {W W1 W2 : Nat → Nat → Int32} {o : Nat} (h : Fr3 W W1 o) (k : Fr3 W1 W2 o) : Fr3 W W2 o := fun o' a b c => (k o' a b c).trans (h o' a b c)
theorem Fr3_row {W W' : Nat → Nat → Int32} {q : Nat} (h : Fr2 W W' (q + 1)) : Fr3 W W' q := fun o' _ b c => h o' b c
theorem Fr3_f (W : Nat → Nat → Int32) (q k : Nat) (v : Int32) : Fr3 W (up2 W q k v) q := fun o' a _ _ => up2_row W v a
theorem BlW_fr {W W' : Nat → Nat → Int32} {q : Nat} {b : Bk} (h : BlW W q b) (e0 : W' q = W q) (e1 : W' (q + 1) = W (q + 1)) (e2 : W' (q + 2) = W (q + 2)) : BlW W' q b := by
  unfold BlW
  rw [e0]
  exact ⟨RwW_fr h.1 e1 e2, h.2⟩
theorem BlW_rw {W W' : Nat → Nat → Int32} {q : Nat} {b : Bk} (h : BlW W q b) (n : Nat) (g : Nat → Nat) (h' : RwW W' (q + 1) n g) (e : W' q = W q) : BlW W' q (n, bC b, bV b, g, bK b) :=
  ⟨h', by rw [e]; exact h.2.1, by rw [e]; exact h.2.2.1, fun k a c => by rw [e]; exact h.2.2.2 k a c⟩
theorem BlW_A {S : St} {x : Nat} {W : Nat → Nat → Int32} {R : Nat → Nat → Nat} {q : Nat} {b : Bk} (hq : kd q = 0) (h : BlW W q b) : RwA (WS S x W R) (x + (q + 1)) (bN b) (bG b) := RwW_at (kd0 hq).1 h.1
/-- set one of the counts -/
def setK (b : Bk) (k : Nat) (v : Int32) : Bk := (bN b, bC b, bV b, bG b, fun j => if j = k then v else bK b j)
theorem BlW_k {W : Nat → Nat → Int32} {q k : Nat} {b : Bk} (h : BlW W q b) (hk : 3 ≤ k) (v : Int32) : BlW (up2 W q k v) q (setK b k v) := by
  refine ⟨RwW_fr h.1 (up2_row W v (by omega)) (up2_row W v (by omega)), ?_, ?_, fun j a c => ?_⟩
  · rw [up2_ne W v (by omega)]; exact h.2.1
  · rw [up2_ne W v (by omega)]; exact h.2.2.1
  · by_cases e : j = k
    · subst e; rw [up2_eq]; show v = if j = j then v else bK b j; rw [if_pos rfl]
    · rw [up2_ne W v (by omega)]; show W q j = if j = k then v else bK b j; rw [if_neg e]; exact h.2.2.2 j a c
theorem BlW_cv {W : Nat → Nat → Int32} {q : Nat} {b : Bk} (h : BlW W q b) (c v : Nat) : BlW (up2 (up2 W q 1 (oI c)) q 2 (oI v)) q (bN b, c, v, bG b, bK b) := by
  refine ⟨RwW_fr h.1 ?_ ?_, ?_, up2_eq _ q 2 _, fun j a e => ?_⟩
  · rw [up2_row _ _ (by omega), up2_row _ _ (by omega)]
  · rw [up2_row _ _ (by omega), up2_row _ _ (by omega)]
  · rw [up2_ne _ _ (by omega), up2_eq]
  · rw [up2_ne _ _ (by omega), up2_ne _ _ (by omega)]; exact h.2.2.2 j a e
/-- days left of a vow -/
def dl (v day year : Nat) : Nat := year + v - day
theorem dl_int {v day year : Nat} (hv : v ≤ 5000) (hd : day ≤ 5000) (hy : year ≤ 400) : (oI year - (oI day - oI v)).toInt = (year : Int) - ((day : Int) - (v : Int)) := by
  have e1 : oI year - (oI day - oI v) = oI (year + v) - oI day := by
    rw [← oI_add, Int32.sub_eq_add_neg, Int32.neg_sub, Int32.sub_eq_add_neg, Int32.sub_eq_add_neg, Int32.add_assoc]
  rw [e1]
  by_cases c : day ≤ year + v
  · rw [oI_sub c, oI_toInt (by omega)]; omega
  · rw [oI_subneg (by omega), neg_toInt (by omega)]; omega
theorem dl_pos {v day year : Nat} (hv : v ≤ 5000) (hd : day ≤ 5000) (hy : year ≤ 400) : (if 0 < oI year - (oI day - oI v) then oI year - (oI day - oI v) else 0) = oI (dl v day year) := by
  unfold dl
  have h := dl_int hv hd hy
  by_cases c : day < year + v
  · rw [if_pos (by rw [Int32.lt_iff_toInt_lt, h, show (0 : Int32).toInt = 0 from rfl]; omega)]
    rw [← Int32.toInt_inj, h, oI_toInt (by omega)]; omega
  · rw [if_neg (by rw [Int32.lt_iff_toInt_lt, h, show (0 : Int32).toInt = 0 from rfl]; omega)]
    rw [show year + v - day = 0 by omega, l0]
theorem dl_le {v day year : Nat} (hv : v ≤ 5000) (hy : year ≤ 400) : dl v day year ≤ 5400 := by unfold dl; omega
/-- how much more its code takes than the best -/
def exB (b : Bk) : Int32 := oI (bt (bG b) (bN b) (bC b)) - oI (bt (bG b) (bN b) (bs (bG b) (bN b)))
def vowB (b : Bk) (day : Nat) : Bk := setK (bN b, bs (bG b) (bN b), day, bG b, bK b) 7 (bK b 7 + 1)
def zB (n : Nat) (g : Nat → Nat) (day : Nat) : Bk := vowB (n, 0, 0, g, fun _ => 0) day
def liveB (b : Bk) (day year : Nat) : Bk := if dl (bV b) day year = 0 then vowB (setK b 3 (bK b 3 + exB b)) day else setK b 3 (bK b 3 + exB b)
def absB (a b : Bk) : Bk := setK (setK (setK (bN a + bN b, bC a, bV a, fun t => if t < bN a then bG a t else bG b (0 + (t - bN a)), bK a) 3 (bK a 3 + bK b 3)) 4 (bK a 4 + bK b 4)) 6 (bK a 6 + bK b 6)
theorem okB_k {b : Bk} (h : okB b) (k : Nat) (v : Int32) : okB (setK b k v) := h
theorem okB_mk {n c v : Nat} {g : Nat → Nat} {K : Nat → Int32} (h1 : 1 ≤ n) (h2 : n ≤ 24) (h3 : c ≤ 5) (h4 : v ≤ 5000) (h5 : ∀ i, g i ≤ 255) : okB (n, c, v, g, K) := And.intro h1 (And.intro h2 (And.intro h3 (And.intro h4 h5)))
theorem okB_vow {b : Bk} (h : okB b) {day : Nat} (hd : day ≤ 5000) : okB (vowB b day) := by
  unfold vowB setK
  dsimp only [bN, bC, bV, bG]
  exact okB_mk h.1 h.2.1 (bs_le (bG b) (bN b)) hd h.2.2.2.2
theorem okB_live {b : Bk} (h : okB b) {day year : Nat} (hd : day ≤ 5000) : okB (liveB b day year) := by
  unfold liveB
  split
  · exact okB_vow (okB_k h 3 _) hd
  · exact okB_k h 3 _
theorem okB_z {n day : Nat} {g : Nat → Nat} (h1 : 1 ≤ n) (h2 : n ≤ 24) (hg : ∀ i, g i ≤ 255) (hd : day ≤ 5000) : okB (zB n g day) := by
  unfold zB vowB setK
  dsimp only [bN, bC, bV, bG]
  exact okB_mk h1 h2 (bs_le g n) hd hg
theorem okB_abs {a b : Bk} (h : okB a) (k : okB b) (hn : bN a + bN b ≤ 24) : okB (absB a b) := by
  refine ⟨by have := h.1; show 1 ≤ bN a + bN b; omega, hn, h.2.2.1, h.2.2.2.1, fun i => ?_⟩
  show (if i < bN a then bG a i else bG b (0 + (i - bN a))) ≤ 255
  split
  · exact h.2.2.2.2 i
  · exact k.2.2.2.2 _
theorem x0_excess {S : St} {x : Nat} {W : Nat → Nat → Int32} {R : Nat → Nat → Nat} {q : Nat} {b : Bk} (hq : kd q = 0) (h : BlW W q b) (ok : okB b) : f_X0_excess (WS S x W R) (x + q) = some (exB b) := by
  have hA := BlW_A (S := S) (x := x) (R := R) hq h
  simp only [f_X0_excess, r_0 hq, g_0_1 hq, h.2.1, x1_bits hA ok.1 ok.2.2.1, x1_best hA ok.1, x1_bits hA ok.1 (bs_le (bG b) (bN b)), Option.bind_some, reduceIte, if_true, if_false, exB]
theorem x0_days {S : St} {x : Nat} {W : Nat → Nat → Int32} {R : Nat → Nat → Nat} {q day year : Nat} {b : Bk} (hq : kd q = 0) (h : BlW W q b) (ok : okB b) (hd : day ≤ 5000) (hy : year ≤ 400) : f_X0_daysLeft (WS S x W R) (x + q) (oI day) (oI year) = some (oI (dl (bV b) day year)) := by
  simp only [f_X0_daysLeft, g_0_2 hq, h.2.2.1, Option.bind_some, reduceIte, if_true, if_false, dl_pos ok.2.2.2.1 hd hy]
theorem x0_vow0 {S : St} {x : Nat} {W : Nat → Nat → Int32} {R : Nat → Nat → Nat} {q day n : Nat} {g : Nat → Nat} {K : Nat → Int32} (hq : kd q = 0) (h : RwW W (q + 1) n g) (hK : ∀ k, 3 ≤ k → k < 8 → W q k = K k) (h1 : 1 ≤ n) :
    ∃ W', f_X0_vow (WS S x W R) (x + q) (oI day) = some (WS S x W' R) ∧ BlW W' q (setK (n, bs g n, day, g, K) 7 (K 7 + 1)) ∧ Fr3 W W' q := by
  have hA : RwA (WS S x W R) (x + (q + 1)) n g := RwW_at (kd0 hq).1 h
  have hb : BlW (up2 (up2 W q 1 (oI (bs g n))) q 2 (oI day)) q (n, bs g n, day, g, K) := by
    refine ⟨RwW_fr h ?_ ?_, ?_, up2_eq _ q 2 _, fun j a e => ?_⟩
    · rw [up2_row _ _ (by omega), up2_row _ _ (by omega)]
    · rw [up2_row _ _ (by omega), up2_row _ _ (by omega)]
    · rw [up2_ne _ _ (by omega), up2_eq]
    · rw [up2_ne _ _ (by omega), up2_ne _ _ (by omega)]; exact hK j a e
  refine ⟨_, ?_, BlW_k hb (show 3 ≤ 7 by decide) (K 7 + 1), Fr3_trans (Fr3_trans (Fr3_f W q 1 _) (Fr3_f _ q 2 _)) (Fr3_f _ q 7 _)⟩
  have e7 : up2 (up2 W q 1 (oI (bs g n))) q 2 (oI day) q 7 = K 7 := by
    rw [up2_ne _ _ (by omega), up2_ne _ _ (by omega)]; exact hK 7 (by omega) (by omega)
  simp only [f_X0_vow, r_0 hq, x1_best hA h1, p_0_1 hq, p_0_2 hq, g_0_7 hq, e7, p_0_7 hq, Option.bind_some, reduceIte, if_true, if_false]
theorem x0_vow {S : St} {x : Nat} {W : Nat → Nat → Int32} {R : Nat → Nat → Nat} {q day : Nat} {b : Bk} (hq : kd q = 0) (h : BlW W q b) (h1 : 1 ≤ bN b) :
    ∃ W', f_X0_vow (WS S x W R) (x + q) (oI day) = some (WS S x W' R) ∧ BlW W' q (vowB b day) ∧ Fr3 W W' q := x0_vow0 hq h.1 h.2.2.2 h1
theorem x0_live {S : St} {x : Nat} {W : Nat → Nat → Int32} {R : Nat → Nat → Nat} {q day year : Nat} {b : Bk} (hq : kd q = 0) (h : BlW W q b) (ok : okB b) (hd : day ≤ 5000) (hy : year ≤ 400) :
    ∃ W', f_X0_liveDay (WS S x W R) (x + q) (oI day) (oI year) = some (exB b, WS S x W' R) ∧ BlW W' q (liveB b day year) ∧ Fr3 W W' q := by
  have h3 := h.2.2.2 3 (by omega) (by omega)
  have hb := BlW_k h (show 3 ≤ 3 by decide) (bK b 3 + exB b)
  have hdl := dl_le (day := day) ok.2.2.2.1 hy
  have hd' := x0_days (S := S) (x := x) (R := R) hq hb (okB_k ok 3 _) hd hy
  have hd2 : bV (setK b 3 (bK b 3 + exB b)) = bV b := rfl
  rw [hd2] at hd'
  unfold liveB
  by_cases c : dl (bV b) day year = 0
  · obtain ⟨W', e1, e2, e3⟩ := x0_vow (S := S) (x := x) (R := R) (day := day) hq hb ok.1
    refine ⟨W', ?_, by rw [if_pos c]; exact e2, Fr3_trans (Fr3_f W q 3 _) e3⟩
    simp only [f_X0_liveDay, o_0 hq, x0_excess hq h ok, g_0_3 hq, h3, p_0_3 hq, hd', c, e1, Option.bind_some, reduceIte, if_true, if_false, show (oI 0 = 0) = True from eq_true rfl]
  · refine ⟨_, ?_, by rw [if_neg c]; exact hb, Fr3_f W q 3 _⟩
    have e0 : (oI (dl (bV b) day year) = 0) = False := by rw [l0, oI_eq (by omega) (by omega)]; exact eq_false c
    simp only [f_X0_liveDay, o_0 hq, x0_excess hq h ok, g_0_3 hq, h3, p_0_3 hq, hd', e0, Option.bind_some, reduceIte, if_true, if_false]
theorem x0_begin {S : St} {x : Nat} {W : Nat → Nat → Int32} {R : Nat → Nat → Nat} {q r n day : Nat} {g : Nat → Nat} (hq : kd q = 0) (hr : kd r = 3) (hd : q + 1 ≠ r) (hd1 : q + 2 ≠ r) (hd2 : r + 1 ≠ q + 1) (h : RwW W r n g) (h1 : 1 ≤ n) :
    ∃ W', f_X0_begin (WS S x W R) (x + q) (x + r) (oI day) = some (WS S x W' R) ∧ BlW W' q (zB n g day) ∧ Fr3 W W' q := by
  obtain ⟨W1, e1, e2, e3⟩ := x4_copy (S := S) (x := x) (R := R) (kd0 hq).1 hr hd hd1 hd2 h
  have hw : RwW (up2 (up2 (up2 (up2 (up2 W1 q 3 0) q 4 0) q 5 0) q 6 0) q 7 0) (q + 1) n g := by
    refine RwW_fr e2 ?_ ?_
    · rw [up2_row _ _ (by omega), up2_row _ _ (by omega), up2_row _ _ (by omega), up2_row _ _ (by omega), up2_row _ _ (by omega)]
    · rw [up2_row _ _ (by omega), up2_row _ _ (by omega), up2_row _ _ (by omega), up2_row _ _ (by omega), up2_row _ _ (by omega)]
  have hK : ∀ k, 3 ≤ k → k < 8 → up2 (up2 (up2 (up2 (up2 W1 q 3 0) q 4 0) q 5 0) q 6 0) q 7 0 q k = (fun _ => (0 : Int32)) k := by
    intro j a c
    have : j = 3 ∨ j = 4 ∨ j = 5 ∨ j = 6 ∨ j = 7 := by omega
    simp only [up2, true_and]
    rcases this with rfl | rfl | rfl | rfl | rfl <;> rfl
  obtain ⟨W', p1, p2, p3⟩ := x0_vow0 (S := S) (x := x) (R := R) (day := day) hq hw hK h1
  refine ⟨W', ?_, p2, Fr3_trans (Fr3_row e3) (Fr3_trans (Fr3_trans (Fr3_trans (Fr3_trans (Fr3_trans (Fr3_f W1 q 3 0) (Fr3_f _ q 4 0)) (Fr3_f _ q 5 0)) (Fr3_f _ q 6 0)) (Fr3_f _ q 7 0)) p3)⟩
  simp only [f_X0_begin, r_0 hq, o_3 (kd0 hq).1, e1, p_0_3 hq, p_0_4 hq, p_0_5 hq, p_0_6 hq, p_0_7 hq, o_0 hq, p1, Option.bind_some, reduceIte, if_true, if_false]
theorem x0_copy {S : St} {x : Nat} {W : Nat → Nat → Int32} {R : Nat → Nat → Nat} {q r : Nat} {b : Bk} (hq : kd q = 0) (hr : kd r = 0) (hd : q + 2 < r ∨ r + 2 < q) (h : BlW W r b) :
    ∃ W', f_X0_copyFrom (WS S x W R) (x + q) (x + r) = some (WS S x W' R) ∧ BlW W' q b ∧ Fr3 W W' q := by
  obtain ⟨W1, e1, e2, e3⟩ := x4_copy (S := S) (x := x) (R := R) (kd0 hq).1 (kd0 hr).1 (by omega) (by omega) (by omega) h.1
  have er : W1 r = W r := e3 r (by omega) (by omega)
  have hf : ∀ k, W1 r k = W r k := fun k => by rw [er]
  refine ⟨up2 (up2 (up2 (up2 (up2 (up2 (up2 W1 q 1 (W r 1)) q 2 (W r 2)) q 3 (W r 3)) q 4 (W r 4)) q 5 (W r 5)) q 6 (W r 6)) q 7 (W r 7), ?_, ⟨RwW_fr e2 ?_ ?_, ?_, ?_, fun j a c => ?_⟩, Fr3_trans (Fr3_row e3) ?_⟩
  · have hne : r ≠ q := by omega
    simp only [f_X0_copyFrom, r_0 hq, r_0 hr, o_3 (kd0 hq).1, e1, g_0_1 hr, g_0_2 hr, g_0_3 hr, g_0_4 hr, g_0_5 hr, g_0_6 hr, g_0_7 hr, p_0_1 hq, p_0_2 hq, p_0_3 hq, p_0_4 hq, p_0_5 hq, p_0_6 hq, p_0_7 hq, up2_row _ _ hne, hf, Option.bind_some, reduceIte, if_true, if_false]
  · rw [up2_row _ _ (by omega), up2_row _ _ (by omega), up2_row _ _ (by omega), up2_row _ _ (by omega), up2_row _ _ (by omega), up2_row _ _ (by omega), up2_row _ _ (by omega)]
  · rw [up2_row _ _ (by omega), up2_row _ _ (by omega), up2_row _ _ (by omega), up2_row _ _ (by omega), up2_row _ _ (by omega), up2_row _ _ (by omega), up2_row _ _ (by omega)]
  · rw [← h.2.1]; simp [up2]
  · rw [← h.2.2.1]; simp [up2]
  · rw [← h.2.2.2 j a c]
    have : j = 3 ∨ j = 4 ∨ j = 5 ∨ j = 6 ∨ j = 7 := by omega
    rcases this with rfl | rfl | rfl | rfl | rfl <;> simp [up2]
  · exact Fr3_trans (Fr3_trans (Fr3_trans (Fr3_trans (Fr3_trans (Fr3_trans (Fr3_f W1 q 1 _) (Fr3_f _ q 2 _)) (Fr3_f _ q 3 _)) (Fr3_f _ q 4 _)) (Fr3_f _ q 5 _)) (Fr3_f _ q 6 _)) (Fr3_f _ q 7 _)
theorem x0_absorb {S : St} {x : Nat} {W : Nat → Nat → Int32} {R : Nat → Nat → Nat} {q r : Nat} {a b : Bk} (hq : kd q = 0) (hr : kd r = 0) (hd : q + 2 < r ∨ r + 2 < q) (h : BlW W q a) (k : BlW W r b) (hn : bN a + bN b ≤ 24) :
    ∃ W', f_X0_absorb (WS S x W R) (x + q) (x + r) = some (WS S x W' R) ∧ BlW W' q (absB a b) ∧ Fr3 W W' q := by
  obtain ⟨W1, e1, e2, e3⟩ := x4_tail (S := S) (x := x) (R := R) (p := 0) (kd0 hq).1 (kd0 hr).1 (by omega) (by omega) (by omega) h.1 k.1 (by omega) (by omega)
  have er : W1 r = W r := e3 r (by omega) (by omega)
  have eq : W1 q = W q := e3 q (by omega) (by omega)
  have b1 := BlW_rw h _ _ e2 eq
  have b2 := BlW_k (BlW_k (BlW_k b1 (show 3 ≤ 3 by decide) (bK a 3 + bK b 3)) (show 3 ≤ 4 by decide) (bK a 4 + bK b 4)) (show 3 ≤ 6 by decide) (bK a 6 + bK b 6)
  refine ⟨_, ?_, b2, Fr3_trans (Fr3_row e3) (Fr3_trans (Fr3_trans (Fr3_f W1 q 3 _) (Fr3_f _ q 4 _)) (Fr3_f _ q 6 _))⟩
  have hne : r ≠ q := by omega
  have f1 : ∀ k, W1 r k = W r k := fun k => by rw [er]
  have f2 : ∀ k, W1 q k = W q k := fun k => by rw [eq]
  rw [← l0] at e1
  simp only [f_X0_absorb, r_0 hq, r_0 hr, o_3 (kd0 hq).1, e1, g_0_3 hq, g_0_4 hq, g_0_6 hq, g_0_3 hr, g_0_4 hr, g_0_6 hr, p_0_3 hq, p_0_4 hq, p_0_6 hq, up2_row _ _ hne, f1, f2, up2_ne _ _ (show ¬ (q = q ∧ 4 = 3) by omega), up2_ne _ _ (show ¬ (q = q ∧ 6 = 3) by omega), up2_ne _ _ (show ¬ (q = q ∧ 6 = 4) by omega), h.2.2.2 3 (by decide) (by decide), h.2.2.2 4 (by decide) (by decide), h.2.2.2 6 (by decide) (by decide), k.2.2.2 3 (by decide) (by decide), k.2.2.2 4 (by decide) (by decide), k.2.2.2 6 (by decide) (by decide), Option.bind_some, reduceIte, if_true, if_false]
