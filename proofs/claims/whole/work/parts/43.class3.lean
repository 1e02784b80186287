/-! THE CLASS'S OPERATIONS: join, cut, pass, set, undo -/
theorem c_join_1 {S : St} {x : Nat} {W : Nat → Nat → Int32} {R : Nat → Nat → Nat} {A : Cn} {nh : Nat} {Hs : Nat → Cn} (h : ClsW W R A nh Hs) (ok : okS A nh Hs) {a b : Int32} (ha : (a < 0 ∨ oI (cN A) ≤ a) ∨ (∃ j, j < cN A ∧ a = oI j) ∧ (b < 0 ∨ oI (cN A) ≤ b)) : f_X6_join (WS S x W R) x a b = some (.inl "java/lang/IndexOutOfBoundsException", WS S x W R) := by
  rcases ha with ha | ⟨⟨j, hj, rfl⟩, hb⟩
  · simp only [f_X6_join, o_5, x6_find_out h ok ha, Option.bind_some, reduceIte, if_true, if_false, Sum.elim_inl]
  · simp only [f_X6_join, o_5, x6_find_in h ok hj, x6_find_out h ok hb, Option.bind_some, reduceIte, if_true, if_false, Sum.elim_inl, Sum.elim_inr]
theorem c_join_2 {S : St} {x : Nat} {W : Nat → Nat → Int32} {R : Nat → Nat → Nat} {A : Cn} {nh : Nat} {Hs : Nat → Cn} (h : ClsW W R A nh Hs) (ok : okS A nh Hs) {j : Nat} (hj : j < cN A) : f_X6_join (WS S x W R) x (oI j) (oI j) = some (.inl "java/lang/IllegalArgumentException", WS S x W R) := by
  simp only [f_X6_join, o_5, x6_find_in h ok hj, Option.bind_some, reduceIte, if_true, if_false, Sum.elim_inr]
theorem c_join_3 {S : St} {x : Nat} {W : Nat → Nat → Int32} {R : Nat → Nat → Nat} {A : Cn} {nh : Nat} {Hs : Nat → Cn} (h : ClsW W R A nh Hs) (ok : okS A nh Hs) {j k : Nat} (hj : j < cN A) (hk : k < cN A) (hn : j ≠ k) (h24 : 24 < bN (cB A j) + bN (cB A k)) : f_X6_join (WS S x W R) x (oI j) (oI k) = some (.inl "java/lang/IllegalStateException", WS S x W R) := by
  have h8 := ok.1.1
  have hj8 : j < 8 := by omega
  have hq := kd_b h.1 hj8
  have hA := BlW_A (S := S) (x := x) (R := R) hq (h.1.2.2.2.2.2 j hj)
  have hk8 : k < 8 := by omega
  have kq := kd_b h.1 hk8
  have kA := BlW_A (S := S) (x := x) (R := R) kq (h.1.2.2.2.2.2 k hk)
  have kok := ok.1.2.2.2.2 k hk
  have hr := x4_room hA (show bN (cB A k) < 2147483648 by have := kok.2.1; omega)
  rw [if_pos h24] at hr
  simp (disch := omega) only [f_X6_join, o_5, x6_find_in h ok hj, x6_find_in h ok hk, oI_eq, hn, r_0 hq, r_0 kq, kA.1, hA.1, x4_size kA, hr, Option.bind_some, reduceIte, if_true, if_false, Sum.elim_inr]
def joinC (A : Cn) (j k : Nat) : Cn := dropC (updB A j (absB (cB A j) (cB A k))) k
theorem c_join {S : St} {x : Nat} {W : Nat → Nat → Int32} {R : Nat → Nat → Nat} {A : Cn} {nh : Nat} {Hs : Nat → Cn} (h : ClsW W R A nh Hs) (ok : okS A nh Hs) {j k : Nat} (hj : j < cN A) (hk : k < cN A) (hn : j ≠ k) (h24 : bN (cB A j) + bN (cB A k) ≤ 24) :
    ∃ W' R', f_X6_join (WS S x W R) x (oI j) (oI k) = some (.inr (if j ≤ k then oI j else oI (j - 1)), WS S x W' R') ∧ ClsW W' R' (joinC A j k) (svN nh) (svH A nh Hs) ∧ okS (joinC A j k) (svN nh) (svH A nh Hs) ∧ FrT W W' := by
  have h8 := ok.1.1
  have hj8 : j < 8 := by omega
  have hq := kd_b h.1 hj8
  have hA := BlW_A (S := S) (x := x) (R := R) hq (h.1.2.2.2.2.2 j hj)
  have hk8 : k < 8 := by omega
  have kq := kd_b h.1 hk8
  have kA := BlW_A (S := S) (x := x) (R := R) kq (h.1.2.2.2.2.2 k hk)
  have hok := ok.1.2.2.2.2 j hj
  have kok := ok.1.2.2.2.2 k hk
  have hr := x4_room hA (show bN (cB A k) < 2147483648 by have := kok.2.1; omega)
  rw [if_neg (by omega)] at hr
  obtain ⟨W1, R1, q1, q2, q3, q4⟩ := x6_save (S := S) (x := x) h ok
  have e2 := FrH_2 q4
  have hb := q2.1.2.2.2.2.2 j hj
  have hq' := kd_b q2.1 hj8
  rw [show (1 + 1 : Nat) = 2 from rfl, e2] at hb
  rw [e2] at hq'
  have kb := q2.1.2.2.2.2.2 k hk
  have kq' := kd_b q2.1 hk8
  rw [show (1 + 1 : Nat) = 2 from rfl, e2] at kb
  rw [e2] at kq'
  obtain ⟨W2, p1, p2, p3⟩ := x0_absorb (S := S) (x := x) (R := R1) hq' kq' (slt_ne (p := 1) h.1.1 hj8 hk8 hn) hb kb h24
  have b2 := p2
  have f2 := p3
  rw [← e2] at b2 f2
  obtain ⟨c1, c2⟩ := cls_blk q2 q3 hj8 f2 b2
  have ok2 : okS (updB A j (absB (cB A j) (cB A k))) (svN nh) (svH A nh Hs) := okS_upd q3 (okB_abs hok kok h24)
  obtain ⟨W3, R3, d1, d2, d3⟩ := x2_drop (S := S) (x := x) (j := k) kd_one c1.1 ok2.1.1 hk
  refine ⟨W3, R3, ?_, cls_col c1 ok2 d3 d2, ⟨okC_drop ok2.1, ok2.2⟩, FrT_trans (FrT_H q4) (FrT_trans c2 (FrT_C d3))⟩
  simp (disch := omega) only [f_X6_join, o_5, x6_find_in h ok hj, x6_find_in h ok hk, oI_eq, oI_le, hn, r_0 hq, r_0 kq, kA.1, hA.1, x4_size kA, hr, show ¬ (1 : Int32) = 0 by decide, r_5_1, r_5_0, o_2 kd_27, q1, o_0 hq', p1, o_1 kd_one, d1, Option.bind_some, reduceIte, if_true, if_false, Sum.elim_inr]
  by_cases c : j ≤ k
  · simp only [c, Option.bind_some, reduceIte, if_true, if_false]
  · simp (disch := omega) only [c, l1, oI_sub, Option.bind_some, reduceIte, if_true, if_false]
theorem c_cut_1 {S : St} {x : Nat} {W : Nat → Nat → Int32} {R : Nat → Nat → Nat} {A : Cn} {nh : Nat} {Hs : Nat → Cn} (h : ClsW W R A nh Hs) (ok : okS A nh Hs) {a p : Int32} (ha : (a < 0 ∨ oI (cN A) ≤ a) ∨ ∃ j, j < cN A ∧ a = oI j ∧ (p < 0 ∨ oI (bN (cB A j)) ≤ p)) : f_X6_cut (WS S x W R) x a p = some (.inl "java/lang/IndexOutOfBoundsException", WS S x W R) := by
  simp only [f_X6_cut, o_5, x6_place_out h ok ha, Option.bind_some, reduceIte, if_true, if_false, Sum.elim_inl]
theorem c_cut_1z {S : St} {x : Nat} {W : Nat → Nat → Int32} {R : Nat → Nat → Nat} {A : Cn} {nh : Nat} {Hs : Nat → Cn} (h : ClsW W R A nh Hs) (ok : okS A nh Hs) {j : Nat} (hj : j < cN A) : f_X6_cut (WS S x W R) x (oI j) (oI 0) = some (.inl "java/lang/IndexOutOfBoundsException", WS S x W R) := by
  have h8 := ok.1.1
  have hj8 : j < 8 := by omega
  have hq := kd_b h.1 hj8
  have hA := BlW_A (S := S) (x := x) (R := R) hq (h.1.2.2.2.2.2 j hj)
  have hok := ok.1.2.2.2.2 j hj
  simp (disch := omega) only [f_X6_cut, o_5, x6_place_in h ok hj (show 0 < bN (cB A j) from hok.1), r_0 hq, l1, oI_le, show ¬ 1 ≤ 0 by omega, Option.bind_some, reduceIte, if_true, if_false, Sum.elim_inr]
theorem c_cut_2 {S : St} {x : Nat} {W : Nat → Nat → Int32} {R : Nat → Nat → Nat} {A : Cn} {nh : Nat} {Hs : Nat → Cn} (h : ClsW W R A nh Hs) (ok : okS A nh Hs) {j p : Nat} (hj : j < cN A) (hp : p < bN (cB A j)) (h1 : 1 ≤ p) (hn : ¬ cN A < 8) : f_X6_cut (WS S x W R) x (oI j) (oI p) = some (.inl "java/lang/IllegalStateException", WS S x W R) := by
  have h8 := ok.1.1
  have hj8 : j < 8 := by omega
  have hq := kd_b h.1 hj8
  have hA := BlW_A (S := S) (x := x) (R := R) hq (h.1.2.2.2.2.2 j hj)
  have hok := ok.1.2.2.2.2 j hj
  have h24 := hok.2.1
  simp (disch := omega) only [f_X6_cut, o_5, x6_place_in h ok hj hp, r_0 hq, l1, oI_le, h1, x6_room h ok, hn, Option.bind_some, reduceIte, if_true, if_false, Sum.elim_inl, Sum.elim_inr]
def shB (b : Bk) (p : Nat) : Bk := (p, bC b, bV b, bG b, bK b)
def cutC (A : Cn) (j p : Nat) : Cn := openC (updB A j (shB (cB A j) p)) (0 + (bN (cB A j) - p)) (fun t => if t < 0 then 0 else bG (cB A j) (p + (t - 0)))
theorem c_cut {S : St} {x : Nat} {W : Nat → Nat → Int32} {R : Nat → Nat → Nat} {A : Cn} {nh : Nat} {Hs : Nat → Cn} (h : ClsW W R A nh Hs) (ok : okS A nh Hs) {j p : Nat} (hj : j < cN A) (hp : p < bN (cB A j)) (h1 : 1 ≤ p) (hn : cN A < 8) :
    ∃ W' R', f_X6_cut (WS S x W R) x (oI j) (oI p) = some (.inr (oI (cN A)), WS S x W' R') ∧ ClsW W' R' (cutC A j p) (svN nh) (svH A nh Hs) ∧ okS (cutC A j p) (svN nh) (svH A nh Hs) ∧ FrT W W' := by
  have h8 := ok.1.1
  have hj8 : j < 8 := by omega
  have hq := kd_b h.1 hj8
  have hA := BlW_A (S := S) (x := x) (R := R) hq (h.1.2.2.2.2.2 j hj)
  have hok := ok.1.2.2.2.2 j hj
  have h24 := hok.2.1
  obtain ⟨W1, R1, q1, q2, q3, q4⟩ := x6_save (S := S) (x := x) h ok
  have e2 := FrH_2 q4
  have hb := q2.1.2.2.2.2.2 j hj
  have hq' := kd_b q2.1 hj8
  rw [show (1 + 1 : Nat) = 2 from rfl, e2] at hb
  rw [e2] at hq'
  have hs : 1 + 2 ≤ R 2 j ∧ R 2 j + 2 < 1 + 26 := slot_in (p := 1) h.1.1 hj8
  have z := RwW_zero W1 187 (fun _ => 0) (fun _ => by omega)
  have f0 := Fr2_n W1 187 1 (oI 0)
  have hb0 : RwW (up2 W1 187 1 (oI 0)) (R 2 j + 1) (bN (cB A j)) (bG (cB A j)) := RwW_fr hb.1 (f0 _ (by omega) (by omega)) (f0 _ (by omega) (by omega))
  obtain ⟨W2, p1, p2, p3⟩ := x4_tail (S := S) (x := x) (R := R1) kd_187 (kd0 hq').1 (by omega) (by omega) (by omega) z hb0 (show p ≤ bN (cB A j) by omega) (by omega)
  have f2 : Fr2 W1 W2 187 := Fr2_trans f0 p3
  have c0 := cls_fr q2 q3 (W' := W2) (fun o ho => f2 o (by omega) (by omega))
  have hb2 : BlW W2 (R 2 j) (cB A j) := BlW_fr hb (f2 _ (by omega) (by omega)) (f2 _ (by omega) (by omega)) (f2 _ (by omega) (by omega))
  have hb3 := BlW_rw hb2 _ _ (RwW_n hb2.1 (show p ≤ bN (cB A j) by omega)) (up2_row _ _ (by omega))
  have f3 : Fr3 W2 _ (R 2 j) := Fr3_row (Fr2_n W2 (R 2 j + 1) 1 (oI p))
  have b3 := hb3
  have f4 := f3
  rw [← e2] at b3 f4
  obtain ⟨c1, c2⟩ := cls_blk c0 q3 hj8 f4 b3
  have ok2 : okS (updB A j (shB (cB A j) p)) (svN nh) (svH A nh Hs) := okS_upd q3 (okB_mk h1 (by omega) hok.2.2.1 hok.2.2.2.1 hok.2.2.2.2)
  have p2' := RwW_fr p2 (f3 187 (by omega) (by omega) (by omega)) (f3 188 (by omega) (by omega) (by omega))
  rw [e2] at c1 c2
  obtain ⟨W4, s1, s2, s3, s4⟩ := x6_open (S := S) (x := x) c1 ok2 hn p2' (by omega)
  refine ⟨W4, R1, ?_, s2, s3, FrT_trans (FrT_H q4) (FrT_trans (FrT_r f2) (FrT_trans c2 s4))⟩
  simp (disch := omega) only [f_X6_cut, o_5, x6_place_in h ok hj hp, r_0 hq, l1, oI_le, h1, x6_room h ok, hn, r_5_1, r_5_0, r_5_3, o_2 kd_27, q1, o_3 kd_187, x4_clear kd_187, p1, o_3 (kd0 hq').1, x4_shorten (kd0 hq').1 hb2.1 hp, o_1 kd_one, Option.bind_some, reduceIte, if_true, if_false, Sum.elim_inl, Sum.elim_inr]
  rw [s1]
  rfl
def nextD (A : Cn) : Cn := (cN A, cD A + 1, cY A, cF A, cB A)
def dayN (A : Cn) : Nat → Cn
  | 0 => A
  | m + 1 => dayC (dayN A m)
def paS (A : Cn) : Nat → Int32
  | 0 => 0
  | m + 1 => paS A m + sumX (nextD (dayN A m)) (cN (dayN A m))
theorem dayN_n (A : Cn) : ∀ m, cN (dayN A m) = cN A ∧ cD (dayN A m) = cD A + m
  | 0 => ⟨rfl, rfl⟩
  | m + 1 => by
    have h := dayN_n A m
    exact ⟨h.1, by show cD (dayN A m) + 1 = _; rw [h.2]; omega⟩
theorem okC_dayN {A : Cn} (h : okC A) : ∀ m, cD A + m ≤ 5000 → okC (dayN A m)
  | 0, _ => h
  | m + 1, hm => okC_day (okC_dayN h m (by omega)) (by rw [(dayN_n A m).2]; omega)
theorem c_pass_1 {S : St} {x : Nat} {W : Nat → Nat → Int32} {R : Nat → Nat → Nat} {a : Int32} (ha : a < oI 1 ∨ oI 100 < a) : f_X6_pass (WS S x W R) x a = some (.inl "java/lang/IllegalArgumentException", WS S x W R) := by
  simp only [f_X6_pass, l1, show (100 : Int32) = oI 100 from rfl, rq_out ha, Option.bind_some, reduceIte, if_true, if_false, Sum.elim_inl]
theorem c_pass_2 {S : St} {x : Nat} {W : Nat → Nat → Int32} {R : Nat → Nat → Nat} {A : Cn} {nh : Nat} {Hs : Nat → Cn} (h : ClsW W R A nh Hs) (ok : okS A nh Hs) {k : Nat} (h1 : 1 ≤ k) (h2 : k ≤ 100) (hd : 5000 < cD A + k) : f_X6_pass (WS S x W R) x (oI k) = some (.inl "java/lang/IllegalStateException", WS S x W R) := by
  have := ok.1.2.1
  simp (disch := omega) only [f_X6_pass, l1, show (100 : Int32) = oI 100 from rfl, show (5000 : Int32) = oI 5000 from rfl, rq_in h1 h2, r_5_0, g_1_2 kd_one, h.1.2.2.1, oI_add, oI_le, show ¬ cD A + k ≤ 5000 by omega, Option.bind_some, reduceIte, if_true, if_false, Sum.elim_inr]
theorem c_pass_L {S : St} {x : Nat} {R : Nat → Nat → Nat} {A : Cn} {nh k : Nat} {Hs : Nat → Cn} (ok : okS A nh Hs) (hk : k ≤ 100) (hd : cD A + k ≤ 5000) : ∀ (d fu i : Nat) (W : Nat → Nat → Int32), i + d = k → d < fu → ClsW W R (dayN A i) nh Hs →
    ∃ W', f_X6_pass_L47 x (oI k) fu (WS S x W R) (paS A i) (oI i) = some (paS A k, WS S x W' R) ∧ ClsW W' R (dayN A k) nh Hs ∧ FrT W W'
  | d, 0, i, W, e, hf, h => by omega
  | 0, fu + 1, i, W, e, hf, h => by
    have : i = k := by omega
    subst this
    refine ⟨W, ?_, h, FrT_refl W⟩
    rw [f_X6_pass_L47]
    simp (disch := omega) only [oI_le, Nat.le_refl, Option.bind_some, reduceIte, if_true, if_false]
  | d + 1, fu + 1, i, W, e, hf, h => by
    have oki := okC_dayN ok.1 i (by omega)
    have hdi := (dayN_n A i).2
    obtain ⟨W1, e1, e2, e3⟩ := x2_live (S := S) (x := x) (R := R) kd_one oki (by omega) h.1
    obtain ⟨W', f1, f2, f3⟩ := c_pass_L (S := S) (x := x) (R := R) ok hk hd d fu (i + 1) W1 (by omega) (by omega) (cls_col h ⟨oki, ok.2⟩ e3 e2)
    refine ⟨W', ?_, f2, FrT_trans (FrT_C e3) f3⟩
    rw [f_X6_pass_L47]
    simp (disch := omega) only [oI_le, show ¬ k ≤ i by omega, r_5_0, o_1 kd_one, e1, l1, oI_add, Option.bind_some, reduceIte, if_true, if_false]
    exact f1
theorem c_pass {S : St} {x : Nat} {W : Nat → Nat → Int32} {R : Nat → Nat → Nat} {A : Cn} {nh : Nat} {Hs : Nat → Cn} (h : ClsW W R A nh Hs) (ok : okS A nh Hs) {k : Nat} (h1 : 1 ≤ k) (h2 : k ≤ 100) (hd : cD A + k ≤ 5000) :
    ∃ W' R', f_X6_pass (WS S x W R) x (oI k) = some (.inr (paS A k), WS S x W' R') ∧ ClsW W' R' (dayN A k) (svN nh) (svH A nh Hs) ∧ okS (dayN A k) (svN nh) (svH A nh Hs) ∧ FrT W W' := by
  obtain ⟨W1, R1, q1, q2, q3, q4⟩ := x6_save (S := S) (x := x) h ok
  obtain ⟨W', f1, f2, f3⟩ := c_pass_L (S := S) (x := x) (R := R1) q3 h2 hd k FU 0 W1 (by omega) (FU_lt (by omega)) q2
  refine ⟨W', R1, ?_, f2, ⟨okC_dayN ok.1 k hd, q3.2⟩, FrT_trans (FrT_H q4) f3⟩
  simp only [paS] at f1
  rw [show (oI 0 : Int32) = 0 from rfl] at f1
  simp (disch := omega) only [f_X6_pass, l1, show (100 : Int32) = oI 100 from rfl, show (5000 : Int32) = oI 5000 from rfl, rq_in h1 h2, r_5_0, r_5_1, g_1_2 kd_one, h.1.2.2.1, oI_add, oI_le, hd, o_2 kd_27, q1, f1, Option.bind_some, reduceIte, if_true, if_false, Sum.elim_inr]
def setC (A : Cn) (i v : Nat) : Cn := if i = 0 then (cN A, cD A, v, cF A, cB A) else (cN A, cD A, cY A, v, cB A)
def getC (A : Cn) (i : Nat) : Nat := if i = 0 then cY A else cF A
theorem x6_set_in {S : St} {x : Nat} {W : Nat → Nat → Int32} {R : Nat → Nat → Nat} {A : Cn} {nh : Nat} {Hs : Nat → Cn} (h : ClsW W R A nh Hs) (ok : okS A nh Hs) {i : Nat} (hi : i ≤ 1) : f_X6_settingAt (WS S x W R) x (oI i) = some (.inr (oI (getC A i))) := by
  have : i = 0 ∨ i = 1 := by omega
  rcases this with rfl | rfl
  · simp only [f_X6_settingAt, r_5_0, g_1_3 kd_one, h.1.2.2.2.1, show ((oI 0 : Int32) = 0) = True from eq_true rfl, Option.bind_some, reduceIte, if_true, if_false, getC]
  · simp only [f_X6_settingAt, r_5_0, g_1_4 kd_one, h.1.2.2.2.2.1, show ((oI 1 : Int32) = 0) = False by decide, show ((oI 1 : Int32) = 1) = True from eq_true rfl, Option.bind_some, reduceIte, if_true, if_false, getC, show ¬ (1 : Nat) = 0 by decide]
theorem x6_set_out {S : St} {x : Nat} {W : Nat → Nat → Int32} {R : Nat → Nat → Nat} {a : Int32} (ha : a < oI 0 ∨ oI 1 < a) : f_X6_settingAt (WS S x W R) x a = some (.inl "java/lang/IndexOutOfBoundsException") := by
  have h0 : ¬ a = 0 := by rintro rfl; revert ha; decide
  have h1 : ¬ a = 1 := by rintro rfl; revert ha; decide
  simp only [f_X6_settingAt, h0, h1, Option.bind_some, reduceIte, if_true, if_false]
theorem c_set_1 {S : St} {x : Nat} {W : Nat → Nat → Int32} {R : Nat → Nat → Nat} {a v : Int32} (ha : a < oI 0 ∨ oI 1 < a) : f_X6_set (WS S x W R) x a v = some (.inl "java/lang/IndexOutOfBoundsException", WS S x W R) := by
  simp only [f_X6_set, o_5, x6_set_out ha, Option.bind_some, reduceIte, if_true, if_false, Sum.elim_inl]
theorem c_set_2 {S : St} {x : Nat} {W : Nat → Nat → Int32} {R : Nat → Nat → Nat} {A : Cn} {nh : Nat} {Hs : Nat → Cn} (h : ClsW W R A nh Hs) (ok : okS A nh Hs) {i : Nat} {v : Int32} (hi : i ≤ 1) (hv : (i = 0 ∧ (v < oI 1 ∨ oI 400 < v)) ∨ (i = 1 ∧ (v < oI 0 ∨ oI 100 < v))) : f_X6_set (WS S x W R) x (oI i) v = some (.inl "java/lang/IllegalArgumentException", WS S x W R) := by
  rcases hv with ⟨rfl, hv⟩ | ⟨rfl, hv⟩
  · simp only [f_X6_set, o_5, x6_set_in h ok hi, show ((oI 0 : Int32) = 0) = True from eq_true rfl, l1, show (400 : Int32) = oI 400 from rfl, rq_out hv, Option.bind_some, reduceIte, if_true, if_false, Sum.elim_inl, Sum.elim_inr]
  · have e0 : ((oI 1 : Int32) = 0) = False := by decide
    have := rq_out hv
    rw [show (oI 0 : Int32) = 0 from rfl] at this
    simp only [f_X6_set, o_5, x6_set_in h ok hi, e0, show (100 : Int32) = oI 100 from rfl, this, Option.bind_some, reduceIte, if_true, if_false, Sum.elim_inl, Sum.elim_inr]
theorem okC_set {A : Cn} {i v : Nat} (ok : okC A) (hv : (i = 0 ∧ v ≤ 400) ∨ (i = 1 ∧ v ≤ 100)) : okC (setC A i v) := by
  unfold setC
  rcases hv with ⟨rfl, hv⟩ | ⟨rfl, hv⟩
  · rw [if_pos rfl]; exact ⟨ok.1, ok.2.1, hv, ok.2.2.2⟩
  · rw [if_neg (by decide)]; exact ⟨ok.1, ok.2.1, ok.2.2.1, hv, ok.2.2.2.2⟩
theorem col_set {W : Nat → Nat → Int32} {R : Nat → Nat → Nat} {A : Cn} {i v : Nat} (h : ColW W R 1 A) (h8 : cN A ≤ 8) (hi : i ≤ 1) : ColW (up2 W 1 (3 + i) (oI v)) R 1 (setC A i v) := by
  obtain ⟨k0, k1, k2, k3, k4, k5⟩ := h
  have hb : ∀ j, j < cN A → BlW (up2 W 1 (3 + i) (oI v)) (R 2 j) (cB A j) := fun j hj => by
    have hs : 1 + 2 ≤ R 2 j ∧ R 2 j + 2 < 1 + 26 := slot_in (p := 1) k0 (show j < 8 by omega)
    exact BlW_fr (k5 j hj) (up2_row _ _ (by omega)) (up2_row _ _ (by omega)) (up2_row _ _ (by omega))
  have e1 : up2 W 1 (3 + i) (oI v) 1 1 = oI (cN A) := by rw [up2_ne _ _ (by omega)]; exact k1
  have e2 : up2 W 1 (3 + i) (oI v) 1 2 = oI (cD A) := by rw [up2_ne _ _ (by omega)]; exact k2
  unfold setC
  by_cases c : i = 0
  · subst c
    rw [if_pos rfl]
    exact ⟨k0, e1, e2, up2_eq _ _ _ _, by rw [up2_ne _ _ (by omega)]; exact k4, hb⟩
  · have : i = 1 := by omega
    subst this
    rw [if_neg c]
    exact ⟨k0, e1, e2, by rw [up2_ne _ _ (by omega)]; exact k3, up2_eq _ _ _ _, hb⟩
theorem c_set {S : St} {x : Nat} {W : Nat → Nat → Int32} {R : Nat → Nat → Nat} {A : Cn} {nh : Nat} {Hs : Nat → Cn} (h : ClsW W R A nh Hs) (ok : okS A nh Hs) {i v : Nat} (hv : (i = 0 ∧ 1 ≤ v ∧ v ≤ 400) ∨ (i = 1 ∧ v ≤ 100)) :
    ∃ W' R', f_X6_set (WS S x W R) x (oI i) (oI v) = some (.inr (oI (getC A i)), WS S x W' R') ∧ ClsW W' R' (setC A i v) (svN nh) (svH A nh Hs) ∧ okS (setC A i v) (svN nh) (svH A nh Hs) ∧ FrT W W' := by
  obtain ⟨W1, R1, q1, q2, q3, q4⟩ := x6_save (S := S) (x := x) h ok
  have hi : i ≤ 1 := by omega
  have fc : FrC W1 (up2 W1 1 (3 + i) (oI v)) R1 R1 1 := FrC_p _ _
  refine ⟨_, R1, ?_, cls_col q2 q3 fc (col_set q2.1 q3.1.1 hi), ⟨okC_set ok.1 (by omega), q3.2⟩, FrT_trans (FrT_H q4) (FrT_C fc)⟩
  rcases hv with ⟨rfl, h1, h2⟩ | ⟨rfl, h2⟩
  · simp only [f_X6_set, o_5, x6_set_in h ok hi, show ((oI 0 : Int32) = 0) = True from eq_true rfl, l1, show (400 : Int32) = oI 400 from rfl, rq_in h1 h2 (show 400 < 2147483648 by omega), r_5_1, r_5_0, o_2 kd_27, q1, p_1_3 kd_one, Option.bind_some, reduceIte, if_true, if_false, Sum.elim_inr]
  · have e0 : ((oI 1 : Int32) = 0) = False := by decide
    have := rq_in (Nat.zero_le v) h2 (show 100 < 2147483648 by omega)
    rw [show (oI 0 : Int32) = 0 from rfl] at this
    simp only [f_X6_set, o_5, x6_set_in h ok hi, e0, show (100 : Int32) = oI 100 from rfl, this, r_5_1, r_5_0, o_2 kd_27, q1, p_1_4 kd_one, Option.bind_some, reduceIte, if_true, if_false, Sum.elim_inr]
theorem c_undo_1 {S : St} {x : Nat} {W : Nat → Nat → Int32} {R : Nat → Nat → Nat} {A : Cn} {Hs : Nat → Cn} (h : ClsW W R A 0 Hs) : f_X6_undo (WS S x W R) x = some (.inl "java/lang/IllegalStateException", WS S x W R) := by
  simp only [f_X6_undo, r_5_1, o_2 kd_27, f_X3_size, g_2_1 kd_27, h.2.2.2.1, show ((oI 0 : Int32) = 0) = True from eq_true rfl, Option.bind_some, reduceIte, if_true, if_false]
theorem c_undo {S : St} {x : Nat} {W : Nat → Nat → Int32} {R : Nat → Nat → Nat} {A : Cn} {nh : Nat} {Hs : Nat → Cn} (h : ClsW W R A (nh + 1) Hs) (ok : okS A (nh + 1) Hs) :
    ∃ W', f_X6_undo (WS S x W R) x = some (.inr (oI nh), WS S x W' R) ∧ ClsW W' R (Hs nh) nh Hs ∧ okS (Hs nh) nh Hs ∧ FrT W W' := by
  have h6 := ok.2.1
  obtain ⟨W', e1, e2, e3⟩ := x3_restore (S := S) (x := x) h ok
  refine ⟨W', ?_, e2, ⟨ok.2.2 nh (by omega), by omega, fun i hi => ok.2.2 i (by omega)⟩, e3 185 (by omega), e3 186 (by omega)⟩
  have e0 : (oI (nh + 1) = 0) = False := by rw [l0, oI_eq (by omega) (by omega)]; exact eq_false (by omega)
  simp only [f_X6_undo, r_5_1, r_5_0, o_2 kd_27, f_X3_size, g_2_1 kd_27, h.2.2.2.1, e0, e1, e2.2.2.2.1, Option.bind_some, reduceIte, if_true, if_false]
