/-! THE CLASS'S OPERATIONS, continued -/
def putB (b : Bk) (p w : Nat) : Bk := (bN b, bC b, bV b, fun i => if i = p then w else bG b i, bK b)
theorem okB_put {b : Bk} {p w : Nat} (ok : okB b) (hw : w ≤ 255) : okB (putB b p w) := by
  unfold putB
  refine okB_mk ok.1 ok.2.1 ok.2.2.1 ok.2.2.2.1 (fun i => ?_)
  split
  · exact hw
  · exact ok.2.2.2.2 i
theorem c_put_1 {S : St} {x : Nat} {W : Nat → Nat → Int32} {R : Nat → Nat → Nat} {A : Cn} {nh : Nat} {Hs : Nat → Cn} (h : ClsW W R A nh Hs) (ok : okS A nh Hs) {a p v : Int32} (ha : (a < 0 ∨ oI (cN A) ≤ a) ∨ ∃ j, j < cN A ∧ a = oI j ∧ (p < 0 ∨ oI (bN (cB A j)) ≤ p)) : f_X6_put (WS S x W R) x a p v = some (.inl "java/lang/IndexOutOfBoundsException", WS S x W R) := by
  simp only [f_X6_put, o_5, x6_place_out h ok ha, Option.bind_some, reduceIte, if_true, if_false, Sum.elim_inl]
theorem c_put_2 {S : St} {x : Nat} {W : Nat → Nat → Int32} {R : Nat → Nat → Nat} {A : Cn} {nh : Nat} {Hs : Nat → Cn} (h : ClsW W R A nh Hs) (ok : okS A nh Hs) {j p : Nat} {v : Int32} (hj : j < cN A) (hp : p < bN (cB A j)) (hv : v < oI 0 ∨ oI 255 < v) : f_X6_put (WS S x W R) x (oI j) (oI p) v = some (.inl "java/lang/IllegalArgumentException", WS S x W R) := by
  have h8 := ok.1.1
  simp only [f_X6_put, o_5, x6_place_in h ok hj hp, r_0 (kd_b h.1 (show j < 8 by omega)), rv_out hv, Option.bind_some, reduceIte, if_true, if_false, Sum.elim_inl, Sum.elim_inr]
theorem c_put {S : St} {x : Nat} {W : Nat → Nat → Int32} {R : Nat → Nat → Nat} {A : Cn} {nh : Nat} {Hs : Nat → Cn} (h : ClsW W R A nh Hs) (ok : okS A nh Hs) {j p w : Nat} (hj : j < cN A) (hp : p < bN (cB A j)) (hw : w ≤ 255) :
    ∃ W' R', f_X6_put (WS S x W R) x (oI j) (oI p) (oI w) = some (.inr (oI (bG (cB A j) p)), WS S x W' R') ∧ ClsW W' R' (updB A j (putB (cB A j) p w)) (svN nh) (svH A nh Hs) ∧ okS (updB A j (putB (cB A j) p w)) (svN nh) (svH A nh Hs) ∧ FrT W W' := by
  have h8 := ok.1.1
  have hj8 : j < 8 := by omega
  have hq := kd_b h.1 hj8
  have hA := BlW_A (S := S) (x := x) (R := R) hq (h.1.2.2.2.2.2 j hj)
  obtain ⟨W1, R1, q1, q2, q3, q4⟩ := x6_save (S := S) (x := x) h ok
  have e2 := FrH_2 q4
  have hb := q2.1.2.2.2.2.2 j hj
  have hq' := kd_b q2.1 hj8
  rw [show (1 + 1 : Nat) = 2 from rfl, e2] at hb
  rw [e2] at hq'
  have hb2 := BlW_rw hb _ _ (RwW_v (p := p) hb.1 hw) (up2_row _ _ (by omega))
  have f3 : Fr3 W1 _ (R 2 j) := Fr3_row (Fr2_v W1 (R 2 j + 1) p (oI w))
  rw [← e2] at hb2 f3
  obtain ⟨c1, c2⟩ := cls_blk q2 q3 hj8 f3 hb2
  refine ⟨_, R1, ?_, c1, okS_upd q3 (okB_put (ok.1.2.2.2.2 j hj) hw), FrT_trans (FrT_H q4) c2⟩
  simp only [f_X6_put, o_5, x6_place_in h ok hj hp, r_0 hq, rv_in hw, r_5_1, r_5_0, o_2 kd_27, q1, o_3 (kd0 hq').1, x4_at (RwW_at (kd0 hq').1 hb.1) hp, x4_replace (kd0 hq').1 hb.1 hp, e2, Option.bind_some, reduceIte, if_true, if_false, Sum.elim_inl, Sum.elim_inr]
def takeB (b : Bk) (p : Nat) : Bk := (bN b - 1, bC b, bV b, fun k => if p ≤ k then bG b (k + 1) else bG b k, bK b)
theorem okB_take {b : Bk} {p : Nat} (ok : okB b) (hn : 1 < bN b) : okB (takeB b p) := by
  unfold takeB
  have := ok.2.1
  refine okB_mk (by omega) (by omega) ok.2.2.1 ok.2.2.2.1 (fun i => ?_)
  split <;> exact ok.2.2.2.2 _
theorem c_take_1 {S : St} {x : Nat} {W : Nat → Nat → Int32} {R : Nat → Nat → Nat} {A : Cn} {nh : Nat} {Hs : Nat → Cn} (h : ClsW W R A nh Hs) (ok : okS A nh Hs) {a p : Int32} (ha : (a < 0 ∨ oI (cN A) ≤ a) ∨ ∃ j, j < cN A ∧ a = oI j ∧ (p < 0 ∨ oI (bN (cB A j)) ≤ p)) : f_X6_take (WS S x W R) x a p = some (.inl "java/lang/IndexOutOfBoundsException", WS S x W R) := by
  simp only [f_X6_take, o_5, x6_place_out h ok ha, Option.bind_some, reduceIte, if_true, if_false, Sum.elim_inl]
theorem c_take_2 {S : St} {x : Nat} {W : Nat → Nat → Int32} {R : Nat → Nat → Nat} {A : Cn} {nh : Nat} {Hs : Nat → Cn} (h : ClsW W R A nh Hs) (ok : okS A nh Hs) {j p : Nat} (hj : j < cN A) (hp : p < bN (cB A j)) (hn : bN (cB A j) = 1) : f_X6_take (WS S x W R) x (oI j) (oI p) = some (.inl "java/lang/IllegalStateException", WS S x W R) := by
  have h8 := ok.1.1
  have hj8 : j < 8 := by omega
  have hq := kd_b h.1 hj8
  have hA := BlW_A (S := S) (x := x) (R := R) hq (h.1.2.2.2.2.2 j hj)
  simp only [f_X6_take, o_5, x6_place_in h ok hj hp, r_0 hq, hA.1, x4_size hA, hn, l1, Int32.lt_irrefl, Option.bind_some, reduceIte, if_true, if_false, Sum.elim_inl, Sum.elim_inr]
theorem c_take {S : St} {x : Nat} {W : Nat → Nat → Int32} {R : Nat → Nat → Nat} {A : Cn} {nh : Nat} {Hs : Nat → Cn} (h : ClsW W R A nh Hs) (ok : okS A nh Hs) {j p : Nat} (hj : j < cN A) (hp : p < bN (cB A j)) (hn : 1 < bN (cB A j)) :
    ∃ W' R', f_X6_take (WS S x W R) x (oI j) (oI p) = some (.inr (oI (bG (cB A j) p)), WS S x W' R') ∧ ClsW W' R' (updB A j (takeB (cB A j) p)) (svN nh) (svH A nh Hs) ∧ okS (updB A j (takeB (cB A j) p)) (svN nh) (svH A nh Hs) ∧ FrT W W' := by
  have h8 := ok.1.1
  have hj8 : j < 8 := by omega
  have hq := kd_b h.1 hj8
  have hA := BlW_A (S := S) (x := x) (R := R) hq (h.1.2.2.2.2.2 j hj)
  obtain ⟨W1, R1, q1, q2, q3, q4⟩ := x6_save (S := S) (x := x) h ok
  have e2 := FrH_2 q4
  have hb := q2.1.2.2.2.2.2 j hj
  have hq' := kd_b q2.1 hj8
  rw [show (1 + 1 : Nat) = 2 from rfl, e2] at hb
  rw [e2] at hq'
  obtain ⟨W2, p1, p2, p3⟩ := x4_remove (S := S) (x := x) (R := R1) (kd0 hq').1 hb.1 hp
  have hb2 := BlW_rw hb _ _ p2 (p3 _ (by omega) (by omega))
  have f3 := Fr3_row p3
  rw [← e2] at hb2 f3
  obtain ⟨c1, c2⟩ := cls_blk q2 q3 hj8 f3 hb2
  have hok := ok.1.2.2.2.2 j hj
  have h24 := hok.2.1
  refine ⟨W2, R1, ?_, c1, okS_upd q3 (okB_take hok hn), FrT_trans (FrT_H q4) c2⟩
  have h1 : ((1 : Int32) < oI (bN (cB A j))) = True := by rw [l1, oI_lt (by omega) (by omega)]; exact eq_true hn
  simp only [f_X6_take, o_5, x6_place_in h ok hj hp, r_0 hq, hA.1, x4_size hA, h1, r_5_1, r_5_0, o_2 kd_27, q1, o_3 (kd0 hq').1, x4_at (RwW_at (kd0 hq').1 hb.1) hp, p1, Option.bind_some, reduceIte, if_true, if_false, Sum.elim_inl, Sum.elim_inr]
def turnB (b : Bk) : Bk := (bN b, bC b, bV b, fun k => bG b (bN b - 1 - k), bK b)
theorem okB_turn {b : Bk} (ok : okB b) : okB (turnB b) := okB_mk ok.1 ok.2.1 ok.2.2.1 ok.2.2.2.1 (fun i => ok.2.2.2.2 _)
theorem c_turn_1 {S : St} {x : Nat} {W : Nat → Nat → Int32} {R : Nat → Nat → Nat} {A : Cn} {nh : Nat} {Hs : Nat → Cn} (h : ClsW W R A nh Hs) (ok : okS A nh Hs) {a : Int32} (ha : a < 0 ∨ oI (cN A) ≤ a) : f_X6_turn (WS S x W R) x a = some (.inl "java/lang/IndexOutOfBoundsException", WS S x W R) := by
  simp only [f_X6_turn, o_5, x6_find_out h ok ha, Option.bind_some, reduceIte, if_true, if_false, Sum.elim_inl]
theorem c_turn {S : St} {x : Nat} {W : Nat → Nat → Int32} {R : Nat → Nat → Nat} {A : Cn} {nh : Nat} {Hs : Nat → Cn} (h : ClsW W R A nh Hs) (ok : okS A nh Hs) {j : Nat} (hj : j < cN A) :
    ∃ W' R', f_X6_turn (WS S x W R) x (oI j) = some (.inr (oI (bG (cB A j) (bN (cB A j) - 1))), WS S x W' R') ∧ ClsW W' R' (updB A j (turnB (cB A j))) (svN nh) (svH A nh Hs) ∧ okS (updB A j (turnB (cB A j))) (svN nh) (svH A nh Hs) ∧ FrT W W' := by
  have h8 := ok.1.1
  have hj8 : j < 8 := by omega
  have hq := kd_b h.1 hj8
  have hA := BlW_A (S := S) (x := x) (R := R) hq (h.1.2.2.2.2.2 j hj)
  obtain ⟨W1, R1, q1, q2, q3, q4⟩ := x6_save (S := S) (x := x) h ok
  have e2 := FrH_2 q4
  have hb := q2.1.2.2.2.2.2 j hj
  have hq' := kd_b q2.1 hj8
  rw [show (1 + 1 : Nat) = 2 from rfl, e2] at hb
  rw [e2] at hq'
  have hok := ok.1.2.2.2.2 j hj
  obtain ⟨W2, p1, p2, p3⟩ := x4_reverse (S := S) (x := x) (R := R1) (kd0 hq').1 hb.1 hok.1
  have hb2 := BlW_rw hb _ _ p2 (p3 _ (by omega) (by omega))
  have f3 := Fr3_row p3
  rw [← e2] at hb2 f3
  obtain ⟨c1, c2⟩ := cls_blk q2 q3 hj8 f3 hb2
  refine ⟨W2, R1, ?_, c1, okS_upd q3 (okB_turn hok), FrT_trans (FrT_H q4) c2⟩
  have ha := x4_at (RwW_at (S := S) (x := x) (R := R1) (kd0 hq').1 p2) (show 0 < bN (cB A j) from hok.1)
  rw [Nat.sub_zero] at ha
  simp only [f_X6_turn, o_5, x6_find_in h ok hj, r_0 hq, r_5_1, r_5_0, o_2 kd_27, q1, o_3 (kd0 hq').1, l0, p1, ha, Option.bind_some, reduceIte, if_true, if_false, Sum.elim_inl, Sum.elim_inr]
theorem c_break_1 {S : St} {x : Nat} {W : Nat → Nat → Int32} {R : Nat → Nat → Nat} {A : Cn} {nh : Nat} {Hs : Nat → Cn} (h : ClsW W R A nh Hs) (ok : okS A nh Hs) {a : Int32} (ha : a < 0 ∨ oI (cN A) ≤ a) : f_X6_breakVow (WS S x W R) x a = some (.inl "java/lang/IndexOutOfBoundsException", WS S x W R) := by
  simp only [f_X6_breakVow, o_5, x6_find_out h ok ha, Option.bind_some, reduceIte, if_true, if_false, Sum.elim_inl]
/-- the fine for breaking it now -/
def fineB (A : Cn) (b : Bk) : Int32 := oI (cF A) * oI (dl (bV b) (cD A) (cY A))
theorem x6_fine {S : St} {x : Nat} {W : Nat → Nat → Int32} {R : Nat → Nat → Nat} {A : Cn} {nh : Nat} {Hs : Nat → Cn} (h : ClsW W R A nh Hs) (ok : okS A nh Hs) {j : Nat} (hj : j < cN A) : f_X6_fineOf (WS S x W R) x (x + R 2 j) = some (fineB A (cB A j)) := by
  have h8 := ok.1.1
  have hj8 : j < 8 := by omega
  have hq := kd_b h.1 hj8
  simp only [f_X6_fineOf, r_5_0, g_1_2 kd_one, g_1_3 kd_one, g_1_4 kd_one, h.1.2.2.1, h.1.2.2.2.1, h.1.2.2.2.2.1, o_0 hq, x0_days hq (h.1.2.2.2.2.2 j hj) (ok.1.2.2.2.2 j hj) ok.1.2.1 ok.1.2.2.1, Option.bind_some, reduceIte, if_true, if_false, fineB]
def breakB (A : Cn) (b : Bk) : Bk := vowB (setK b 6 (bK b 6 + fineB A b)) (cD A)
theorem c_break {S : St} {x : Nat} {W : Nat → Nat → Int32} {R : Nat → Nat → Nat} {A : Cn} {nh : Nat} {Hs : Nat → Cn} (h : ClsW W R A nh Hs) (ok : okS A nh Hs) {j : Nat} (hj : j < cN A) :
    ∃ W' R', f_X6_breakVow (WS S x W R) x (oI j) = some (.inr (fineB A (cB A j)), WS S x W' R') ∧ ClsW W' R' (updB A j (breakB A (cB A j))) (svN nh) (svH A nh Hs) ∧ okS (updB A j (breakB A (cB A j))) (svN nh) (svH A nh Hs) ∧ FrT W W' := by
  have h8 := ok.1.1
  have hj8 : j < 8 := by omega
  have hq := kd_b h.1 hj8
  have hA := BlW_A (S := S) (x := x) (R := R) hq (h.1.2.2.2.2.2 j hj)
  obtain ⟨W1, R1, q1, q2, q3, q4⟩ := x6_save (S := S) (x := x) h ok
  have e2 := FrH_2 q4
  have hb := q2.1.2.2.2.2.2 j hj
  have hq' := kd_b q2.1 hj8
  rw [show (1 + 1 : Nat) = 2 from rfl, e2] at hb
  rw [e2] at hq'
  have hok := ok.1.2.2.2.2 j hj
  have hfine := x6_fine (S := S) (x := x) q2 q3 hj
  rw [e2] at hfine
  have hb1 := BlW_k hb (show 3 ≤ 6 by decide) (bK (cB A j) 6 + fineB A (cB A j))
  obtain ⟨W2, p1, p2, p3⟩ := x0_vow (S := S) (x := x) (R := R1) (day := cD A) hq' hb1 hok.1
  have f3 := Fr3_trans (Fr3_f W1 (R 2 j) 6 _) p3
  have hs : 1 + 2 ≤ R 2 j ∧ R 2 j + 2 < 1 + 26 := slot_in (p := 1) h.1.1 hj8
  rw [← e2] at p2 f3
  obtain ⟨c1, c2⟩ := cls_blk q2 q3 hj8 f3 p2
  refine ⟨W2, R1, ?_, c1, okS_upd q3 (okB_vow (okB_k hok 6 _) ok.1.2.1), FrT_trans (FrT_H q4) c2⟩
  have e6 := hb.2.2.2 6 (by omega) (by omega)
  have e7 : up2 W1 (R 2 j) 6 (bK (cB A j) 6 + fineB A (cB A j)) 1 2 = oI (cD A) := by rw [up2_row _ _ (by omega)]; exact q2.1.2.2.1
  simp only [f_X6_breakVow, o_5, x6_find_in h ok hj, r_5_1, r_5_0, o_2 kd_27, q1, hfine, g_0_6 hq', e6, p_0_6 hq', g_1_2 kd_one, e7, o_0 hq', p1, Option.bind_some, reduceIte, if_true, if_false, Sum.elim_inl, Sum.elim_inr]
theorem c_ask_1 {S : St} {x : Nat} {W : Nat → Nat → Int32} {R : Nat → Nat → Nat} {A : Cn} {nh : Nat} {Hs : Nat → Cn} (h : ClsW W R A nh Hs) (ok : okS A nh Hs) {a q v : Int32} (ha : a < 0 ∨ oI (cN A) ≤ a) : f_X6_ask (WS S x W R) x a q v = some (.inl "java/lang/IndexOutOfBoundsException", WS S x W R) := by
  simp only [f_X6_ask, o_5, x6_find_out h ok ha, Option.bind_some, reduceIte, if_true, if_false, Sum.elim_inl]
theorem rqq_out {q v : Int32} (hv : (q < oI 0 ∨ oI 2 < q) ∨ (∃ k, k ≤ 2 ∧ q = oI k) ∧ (v < oI 0 ∨ oI 255 < v)) : f_X6_requireQuestion q v = some (.inl "java/lang/IllegalArgumentException") := by
  rcases hv with hv | ⟨⟨k, hk, rfl⟩, hv⟩
  · simp only [f_X6_requireQuestion, l0, l2, rq_out hv, Option.bind_some, reduceIte, if_true, if_false, Sum.elim_inl]
  · simp only [f_X6_requireQuestion, l0, l2, rq_in (Nat.zero_le k) hk (show 2 < 2147483648 by omega), rv_out hv, Option.bind_some, reduceIte, if_true, if_false, Sum.elim_inl, Sum.elim_inr]
theorem rqq_in {q v : Nat} (hq : q ≤ 2) (hv : v ≤ 255) : f_X6_requireQuestion (oI q) (oI v) = some (.inr ()) := by
  simp only [f_X6_requireQuestion, l0, l2, rq_in (Nat.zero_le q) hq (show 2 < 2147483648 by omega), rv_in hv, Option.bind_some, reduceIte, if_true, if_false, Sum.elim_inr]
theorem c_ask_2 {S : St} {x : Nat} {W : Nat → Nat → Int32} {R : Nat → Nat → Nat} {A : Cn} {nh : Nat} {Hs : Nat → Cn} (h : ClsW W R A nh Hs) (ok : okS A nh Hs) {j : Nat} {q v : Int32} (hj : j < cN A) (hv : (q < oI 0 ∨ oI 2 < q) ∨ (∃ k, k ≤ 2 ∧ q = oI k) ∧ (v < oI 0 ∨ oI 255 < v)) : f_X6_ask (WS S x W R) x (oI j) q v = some (.inl "java/lang/IllegalArgumentException", WS S x W R) := by
  simp only [f_X6_ask, o_5, x6_find_in h ok hj, rqq_out hv, Option.bind_some, reduceIte, if_true, if_false, Sum.elim_inl, Sum.elim_inr]
def askB (b : Bk) (q v : Nat) : Bk := setK (setK b 5 (bK b 5 + 1)) 4 (bK b 4 + oI (ef (bG b) (bN b) (bC b) q v))
theorem c_ask {S : St} {x : Nat} {W : Nat → Nat → Int32} {R : Nat → Nat → Nat} {A : Cn} {nh : Nat} {Hs : Nat → Cn} (h : ClsW W R A nh Hs) (ok : okS A nh Hs) {j q v : Nat} (hj : j < cN A) (hq2 : q ≤ 2) (hv : v ≤ 255) :
    ∃ W' R', f_X6_ask (WS S x W R) x (oI j) (oI q) (oI v) = some (.inr (an (bG (cB A j)) (bN (cB A j)) q v), WS S x W' R') ∧ ClsW W' R' (updB A j (askB (cB A j) q v)) (svN nh) (svH A nh Hs) ∧ okS (updB A j (askB (cB A j) q v)) (svN nh) (svH A nh Hs) ∧ FrT W W' := by
  have h8 := ok.1.1
  have hj8 : j < 8 := by omega
  have hq := kd_b h.1 hj8
  have hA := BlW_A (S := S) (x := x) (R := R) hq (h.1.2.2.2.2.2 j hj)
  obtain ⟨W1, R1, q1, q2, q3, q4⟩ := x6_save (S := S) (x := x) h ok
  have e2 := FrH_2 q4
  have hb := q2.1.2.2.2.2.2 j hj
  have hq' := kd_b q2.1 hj8
  rw [show (1 + 1 : Nat) = 2 from rfl, e2] at hb
  rw [e2] at hq'
  have hok := ok.1.2.2.2.2 j hj
  have hb1 := BlW_k hb (show 3 ≤ 5 by decide) (bK (cB A j) 5 + 1)
  have hb2 := BlW_k hb1 (show 3 ≤ 4 by decide) (bK (cB A j) 4 + oI (ef (bG (cB A j)) (bN (cB A j)) (bC (cB A j)) q v))
  have hA1 := BlW_A (S := S) (x := x) (R := R1) hq' hb1
  have hA2 := BlW_A (S := S) (x := x) (R := R1) hq' hb2
  have f3 := Fr3_trans (Fr3_f W1 (R 2 j) 5 (bK (cB A j) 5 + 1)) (Fr3_f _ (R 2 j) 4 (bK (cB A j) 4 + oI (ef (bG (cB A j)) (bN (cB A j)) (bC (cB A j)) q v)))
  have e5 := hb.2.2.2 5 (by omega) (by omega)
  have e4 := hb1.2.2.2 4 (by omega) (by omega)
  have e4' : bK (setK (cB A j) 5 (bK (cB A j) 5 + 1)) 4 = bK (cB A j) 4 := by
    show (if (4 : Nat) = 5 then bK (cB A j) 5 + 1 else bK (cB A j) 4) = _
    rw [if_neg (by decide)]
  rw [e4'] at e4
  have e1 := hb1.2.1
  have hx : f_X1_effort (WS S x (up2 W1 (R 2 j) 5 (bK (cB A j) 5 + 1)) R1) (x + (R 2 j + 1)) (oI (bC (cB A j))) (oI q) (oI v) = some (oI (ef (bG (cB A j)) (bN (cB A j)) (bC (cB A j)) q v)) := x1_effort hA1 hok.1 hok.2.2.1 hq2 hv
  have hy := x1_answer hA2 hq2 hv
  have hb3 := hb2
  rw [← e2] at hb3 f3
  obtain ⟨c1, c2⟩ := cls_blk q2 q3 hj8 f3 hb3
  refine ⟨_, R1, ?_, c1, okS_upd q3 (okB_k (okB_k hok 5 _) 4 _), FrT_trans (FrT_H q4) c2⟩
  simp only [f_X6_ask, o_5, x6_find_in h ok hj, rqq_in hq2 hv, r_5_1, r_5_0, o_2 kd_27, q1, g_0_5 hq', e5, p_0_5 hq', g_0_4 hq', e4, r_0 hq', g_0_1 hq', e1, e2, Option.bind_some, reduceIte, if_true, if_false, Sum.elim_inl, Sum.elim_inr]
  rw [show bC (setK (cB A j) 5 (bK (cB A j) 5 + 1)) = bC (cB A j) from rfl, hx]
  simp only [p_0_4 hq', r_0 hq', Option.bind_some, reduceIte, if_true, if_false]
  rw [hy]
  rfl
