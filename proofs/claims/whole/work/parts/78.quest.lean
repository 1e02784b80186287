/-! QUESTIONS ASKED OF BOTH SIDES -/
theorem rqL {k lo hi : Nat} {c1 c2 : Int32} (e1 : c1 = oI lo) (e2 : c2 = oI hi) (h1 : lo ≤ k) (h2 : k ≤ hi) (hh : hi < 2147483648) : f_X6_requireWithin (oI k) c1 c2 = some (.inr ()) := by
  rw [e1, e2]; exact rq_in h1 h2 hh
theorem rqN {a : Int32} {lo hi : Nat} {c1 c2 : Int32} (e1 : c1 = oI lo) (e2 : c2 = oI hi) (h : a < oI lo ∨ oI hi < a) : f_X6_requireWithin a c1 c2 = some (.inl "java/lang/IllegalArgumentException") := by
  rw [e1, e2]; exact rq_out h
theorem wiL {k lo hi : Nat} {c1 c2 : Int32} (e1 : c1 = oI lo) (e2 : c2 = oI hi) (h1 : lo ≤ k) (h2 : k ≤ hi) (hh : hi < 2147483648) : f_X7_within (oI k) c1 c2 = some 1 := by
  rw [e1, e2]; exact wi_in h1 h2 hh
theorem wiN {a : Int32} {lo hi : Nat} {c1 c2 : Int32} (e1 : c1 = oI lo) (e2 : c2 = oI hi) (h : a < oI lo ∨ oI hi < a) : f_X7_within a c1 c2 = some 0 := by
  rw [e1, e2]; exact wi_out h
theorem cd_in {q : Nat} (h : q ≤ 5) : f_X7_isCode (oI q) = some 1 := by
  simp only [f_X7_isCode, wiL (k := q) (lo := 0) (hi := 5) (c1 := 0) (c2 := 5) rfl rfl (by omega) h (by omega), zz1, Option.bind_some, reduceIte, if_true, if_false]
theorem cd_out {q : Int32} (h : q < oI 0 ∨ oI 5 < q) : f_X7_isCode q = some 0 := by
  simp only [f_X7_isCode, wiN (lo := 0) (hi := 5) (c1 := 0) (c2 := 5) rfl rfl h, zz0, Option.bind_some, reduceIte, if_true, if_false]
theorem c_block_1 {S : St} {x : Nat} {W : Nat → Nat → Int32} {R : Nat → Nat → Nat} {A : Cn} {nh : Nat} {Hs : Nat → Cn} (h : ClsW W R A nh Hs) (ok : okS A nh Hs) {a : Int32} (ha : a < 0 ∨ oI (cN A) ≤ a) (i : Int32) : f_X6_block (WS S x W R) x a i = some (.inl "java/lang/IndexOutOfBoundsException") := by
  simp only [f_X6_block, o_5, x6_find_out h ok ha, Sum.elim_inl, Sum.elim_inr, Option.bind_some, reduceIte, if_true, if_false]
theorem c_block_2 {S : St} {x : Nat} {W : Nat → Nat → Int32} {R : Nat → Nat → Nat} {A : Cn} {nh : Nat} {Hs : Nat → Cn} (h : ClsW W R A nh Hs) (ok : okS A nh Hs) {j : Nat} (hj : j < cN A) {i : Int32} (hi : i < oI 0 ∨ oI 11 < i) : f_X6_block (WS S x W R) x (oI j) i = some (.inl "java/lang/IllegalArgumentException") := by
  simp only [f_X6_block, o_5, x6_find_in h ok hj, rqN (lo := 0) (hi := 11) (c1 := 0) (c2 := 11) rfl rfl hi, Sum.elim_inl, Sum.elim_inr, Option.bind_some, reduceIte, if_true, if_false]
theorem c_block {S : St} {x : Nat} {W : Nat → Nat → Int32} {R : Nat → Nat → Nat} {A : Cn} {nh : Nat} {Hs : Nat → Cn} (h : ClsW W R A nh Hs) (ok : okS A nh Hs) {j i : Nat} (hj : j < cN A) (hi : i ≤ 11) : f_X6_block (WS S x W R) x (oI j) (oI i) = some (.inr (pr A j i)) := by
  simp only [f_X6_block, o_5, x6_find_in h ok hj, rqL (k := i) (lo := 0) (hi := 11) (c1 := 0) (c2 := 11) rfl rfl (by omega) hi (by omega), x6_prop h ok hj hi, Sum.elim_inl, Sum.elim_inr, Option.bind_some, reduceIte, if_true, if_false]
theorem m_block_1 {S : St} {M : Nat} {A : Nat → Nat → Int32} {F : Nat → Int32} {H : Int64} {O : Nat → Int64} {C : Cn} {nh : Nat} {Hs : Nat → Cn} (h : ModW A F C nh Hs) (ok : okS C nh Hs) {a : Int32} (ha : a < 0 ∨ oI (cN C) ≤ a) (i : Int32) : f_X7_block (MS S M A F H O) M a i = some (0, MS S M A (upF F 5 1) H O) := by
  simp only [f_X7_block, m_o, x7_isBlock_out h.1 ok.1.1 ha, m_p5, m_g5, upF_eq, show ¬ (1 : Int32) ≤ 0 by decide, show ¬ (2 : Int32) ≤ 0 by decide, show ¬ (3 : Int32) ≤ 0 by decide, show (0 : Int32) ≤ 0 by decide, show ¬ (1 : Int32) = 0 by decide, Option.bind_some, reduceIte, if_true, if_false]
theorem m_block_2 {S : St} {M : Nat} {A : Nat → Nat → Int32} {F : Nat → Int32} {H : Int64} {O : Nat → Int64} {C : Cn} {nh : Nat} {Hs : Nat → Cn} (h : ModW A F C nh Hs) (ok : okS C nh Hs) {j : Nat} (hj : j < cN C) {i : Int32} (hi : i < oI 0 ∨ oI 11 < i) : f_X7_block (MS S M A F H O) M (oI j) i = some (0, MS S M A (upF F 5 2) H O) := by
  simp only [f_X7_block, m_o, x7_isBlock_in h.1 ok.1.1 hj, wiN (lo := 0) (hi := 11) (c1 := 0) (c2 := 11) rfl rfl hi, m_p5, m_g5, upF_eq, show ¬ (1 : Int32) ≤ 0 by decide, show ¬ (2 : Int32) ≤ 0 by decide, show ¬ (3 : Int32) ≤ 0 by decide, show (0 : Int32) ≤ 0 by decide, show ¬ (1 : Int32) = 0 by decide, Option.bind_some, reduceIte, if_true, if_false]
theorem m_block {S : St} {M : Nat} {A : Nat → Nat → Int32} {F : Nat → Int32} {H : Int64} {O : Nat → Int64} {C : Cn} {nh : Nat} {Hs : Nat → Cn} (h : ModW A F C nh Hs) (ok : okS C nh Hs) {j i : Nat} (hj : j < cN C) (hi : i ≤ 11) :
    ∃ A' F', f_X7_block (MS S M A F H O) M (oI j) (oI i) = some (pr C j i, MS S M A' F' H O) ∧ F' 5 = 0 ∧ ModW A' F' C nh Hs ∧ FrM A A' F F' := by
  have k0 := ModW_F h (show 5 ≠ 1 by decide) 0
  obtain ⟨A1, F1, p1, p2⟩ := x7_now (S := S) (M := M) (F := upF F 5 0) (H := H) (O := O) k0.1 ok.1 hj hi
  refine ⟨A1, F1, ?_, by rw [p2.2 5 (by decide), upF_eq], FrL_W p2 k0, p2.1 2 (by decide), by rw [p2.2 3 (by decide), upF_ne _ _ (by decide)]⟩
  simp only [f_X7_block, m_o, x7_isBlock_in h.1 ok.1.1 hj, wiL (k := i) (lo := 0) (hi := 11) (c1 := 0) (c2 := 11) rfl rfl (by omega) hi (by omega), m_p5, m_g5, upF_eq, p1, show ¬ (1 : Int32) ≤ 0 by decide, show ¬ (2 : Int32) ≤ 0 by decide, show ¬ (3 : Int32) ≤ 0 by decide, show (0 : Int32) ≤ 0 by decide, show ¬ (1 : Int32) = 0 by decide, Option.bind_some, reduceIte, if_true, if_false]
theorem c_value_1 {S : St} {x : Nat} {W : Nat → Nat → Int32} {R : Nat → Nat → Nat} {A : Cn} {nh : Nat} {Hs : Nat → Cn} (h : ClsW W R A nh Hs) (ok : okS A nh Hs) {a p : Int32} (ha : (a < 0 ∨ oI (cN A) ≤ a) ∨ ∃ j, j < cN A ∧ a = oI j ∧ (p < 0 ∨ oI (bN (cB A j)) ≤ p)) : f_X6_value (WS S x W R) x a p = some (.inl "java/lang/IndexOutOfBoundsException") := by
  simp only [f_X6_value, o_5, x6_place_out h ok ha, Sum.elim_inl, Sum.elim_inr, Option.bind_some, reduceIte, if_true, if_false]
theorem c_value {S : St} {x : Nat} {W : Nat → Nat → Int32} {R : Nat → Nat → Nat} {A : Cn} {nh : Nat} {Hs : Nat → Cn} (h : ClsW W R A nh Hs) (ok : okS A nh Hs) {j p : Nat} (hj : j < cN A) (hp : p < bN (cB A j)) : f_X6_value (WS S x W R) x (oI j) (oI p) = some (.inr (oI (bG (cB A j) p))) := by
  have h8 := ok.1.1
  have hj8 : j < 8 := by omega
  have hq := kd_b h.1 hj8
  have hA := BlW_A (S := S) (x := x) (R := R) hq (h.1.2.2.2.2.2 j hj)
  simp only [f_X6_value, o_5, x6_place_in h ok hj hp, r_0 hq, hA.1, x4_at hA hp, Sum.elim_inl, Sum.elim_inr, Option.bind_some, reduceIte, if_true, if_false]
theorem m_value_1 {S : St} {M : Nat} {A : Nat → Nat → Int32} {F : Nat → Int32} {H : Int64} {O : Nat → Int64} {C : Cn} {nh : Nat} {Hs : Nat → Cn} (h : ModW A F C nh Hs) (ok : okS C nh Hs) {a p : Int32} (ha : (a < 0 ∨ oI (cN C) ≤ a) ∨ ∃ j, j < cN C ∧ a = oI j ∧ (p < 0 ∨ oI (bN (cB C j)) ≤ p)) : f_X7_value (MS S M A F H O) M a p = some (0, MS S M A (upF F 5 1) H O) := by
  simp only [f_X7_value, m_o, x7_isPlace_out h.1 ok.1 ha, m_p5, m_g5, upF_eq, show ¬ (1 : Int32) ≤ 0 by decide, show ¬ (2 : Int32) ≤ 0 by decide, show ¬ (3 : Int32) ≤ 0 by decide, show (0 : Int32) ≤ 0 by decide, show ¬ (1 : Int32) = 0 by decide, Option.bind_some, reduceIte, if_true, if_false]
theorem m_value {S : St} {M : Nat} {A : Nat → Nat → Int32} {F : Nat → Int32} {H : Int64} {O : Nat → Int64} {C : Cn} {nh : Nat} {Hs : Nat → Cn} (h : ModW A F C nh Hs) (ok : okS C nh Hs) {j p : Nat} (hj : j < cN C) (hp : p < bN (cB C j)) :
    ∃ A' F', f_X7_value (MS S M A F H O) M (oI j) (oI p) = some (oI (bG (cB C j) p), MS S M A' F' H O) ∧ F' 5 = 0 ∧ ModW A' F' C nh Hs ∧ FrM A A' F F' := by
  have h8 := ok.1.1
  have h24 := (ok.1.2.2.2.2 j hj).2.1
  refine ⟨A, upF F 5 0, ?_, upF_eq _ _ _, ModW_F h (by decide) 0, rfl, upF_ne _ _ (by decide)⟩
  have e1 := x7_of (S := S) (M := M) (A := A) (F := upF F 5 0) (H := H) (O := O) (show 4 + 32 * j + (8 + p) < 260 by omega)
  rw [(h.1.2.2.2.2 j hj).2.2.2.2 p hp] at e1
  simp only [f_X7_value, m_o, x7_isPlace_in h.1 ok.1 hj hp, m_p5, m_g5, upF_eq, l8, oI_add, e1, show ¬ (1 : Int32) ≤ 0 by decide, show ¬ (2 : Int32) ≤ 0 by decide, show ¬ (3 : Int32) ≤ 0 by decide, show (0 : Int32) ≤ 0 by decide, show ¬ (1 : Int32) = 0 by decide, Option.bind_some, reduceIte, if_true, if_false]
theorem c_count_1 {S : St} {x : Nat} {W : Nat → Nat → Int32} {R : Nat → Nat → Nat} {A : Cn} {nh : Nat} {Hs : Nat → Cn} (h : ClsW W R A nh Hs) (ok : okS A nh Hs) {i : Int32} (hi : i < oI 0 ∨ oI 15 < i) : f_X6_count (WS S x W R) x i = some (.inl "java/lang/IllegalArgumentException") := by
  simp only [f_X6_count, rqN (lo := 0) (hi := 15) (c1 := 0) (c2 := 15) rfl rfl hi, Sum.elim_inl, Sum.elim_inr, Option.bind_some, reduceIte, if_true, if_false]
theorem c_count {S : St} {x : Nat} {W : Nat → Nat → Int32} {R : Nat → Nat → Nat} {A : Cn} {nh : Nat} {Hs : Nat → Cn} (h : ClsW W R A nh Hs) (ok : okS A nh Hs) {i : Nat} (hi : i ≤ 15) : f_X6_count (WS S x W R) x (oI i) = some (.inr (ct A nh i)) := by
  simp only [f_X6_count, rqL (k := i) (lo := 0) (hi := 15) (c1 := 0) (c2 := 15) rfl rfl (by omega) hi (by omega), o_5, x6_count h ok hi, Sum.elim_inl, Sum.elim_inr, Option.bind_some, reduceIte, if_true, if_false]
theorem m_count_1 {S : St} {M : Nat} {A : Nat → Nat → Int32} {F : Nat → Int32} {H : Int64} {O : Nat → Int64} {C : Cn} {nh : Nat} {Hs : Nat → Cn} (h : ModW A F C nh Hs) (ok : okS C nh Hs) {i : Int32} (hi : i < oI 0 ∨ oI 15 < i) : f_X7_count (MS S M A F H O) M i = some (0, MS S M A (upF F 5 1) H O) := by
  simp only [f_X7_count, wiN (lo := 0) (hi := 15) (c1 := 0) (c2 := 15) rfl rfl hi, m_p5, m_g5, upF_eq, show ¬ (1 : Int32) ≤ 0 by decide, show ¬ (2 : Int32) ≤ 0 by decide, show ¬ (3 : Int32) ≤ 0 by decide, show (0 : Int32) ≤ 0 by decide, show ¬ (1 : Int32) = 0 by decide, Option.bind_some, reduceIte, if_true, if_false]
theorem m_count {S : St} {M : Nat} {A : Nat → Nat → Int32} {F : Nat → Int32} {H : Int64} {O : Nat → Int64} {C : Cn} {nh : Nat} {Hs : Nat → Cn} (h : ModW A F C nh Hs) (ok : okS C nh Hs) {i : Nat} (hi : i ≤ 15) :
    ∃ A' F', f_X7_count (MS S M A F H O) M (oI i) = some (ct C nh i, MS S M A' F' H O) ∧ F' 5 = 0 ∧ ModW A' F' C nh Hs ∧ FrM A A' F F' := by
  have k0 := ModW_F h (show 5 ≠ 1 by decide) 0
  obtain ⟨A1, F1, p1, p2⟩ := x7_counted (S := S) (M := M) (F := upF F 5 0) (H := H) (O := O) k0 ok hi
  refine ⟨A1, F1, ?_, by rw [p2.2 5 (by decide), upF_eq], FrL_W p2 k0, p2.1 2 (by decide), by rw [p2.2 3 (by decide), upF_ne _ _ (by decide)]⟩
  simp only [f_X7_count, m_o, wiL (k := i) (lo := 0) (hi := 15) (c1 := 0) (c2 := 15) rfl rfl (by omega) hi (by omega), m_p5, m_g5, upF_eq, p1, show ¬ (1 : Int32) ≤ 0 by decide, show ¬ (2 : Int32) ≤ 0 by decide, show ¬ (3 : Int32) ≤ 0 by decide, show (0 : Int32) ≤ 0 by decide, show ¬ (1 : Int32) = 0 by decide, Option.bind_some, reduceIte, if_true, if_false]
theorem c_setting_1 {S : St} {x : Nat} {W : Nat → Nat → Int32} {R : Nat → Nat → Nat} {A : Cn} {nh : Nat} {Hs : Nat → Cn} (h : ClsW W R A nh Hs) (ok : okS A nh Hs) {a : Int32} (ha : a < oI 0 ∨ oI 1 < a) : f_X6_setting (WS S x W R) x a = some (.inl "java/lang/IndexOutOfBoundsException") := by
  simp only [f_X6_setting, o_5, x6_set_out ha, Sum.elim_inl, Sum.elim_inr, Option.bind_some, reduceIte, if_true, if_false]
theorem c_setting {S : St} {x : Nat} {W : Nat → Nat → Int32} {R : Nat → Nat → Nat} {A : Cn} {nh : Nat} {Hs : Nat → Cn} (h : ClsW W R A nh Hs) (ok : okS A nh Hs) {i : Nat} (hi : i ≤ 1) : f_X6_setting (WS S x W R) x (oI i) = some (.inr (oI (getC A i))) := by
  simp only [f_X6_setting, o_5, x6_set_in h ok hi, Sum.elim_inl, Sum.elim_inr, Option.bind_some, reduceIte, if_true, if_false]
theorem ws_out {a : Int32} (h : a < oI 0 ∨ oI 1 < a) : f_X7_isSetting a = some 0 := by
  simp only [f_X7_isSetting, wiN (lo := 0) (hi := 1) (c1 := 0) (c2 := 1) rfl rfl h, zz0, Option.bind_some, reduceIte, if_true, if_false]
theorem ws_in {i : Nat} (h : i ≤ 1) : f_X7_isSetting (oI i) = some 1 := by
  simp only [f_X7_isSetting, wiL (k := i) (lo := 0) (hi := 1) (c1 := 0) (c2 := 1) rfl rfl (by omega) h (by omega), zz1, Option.bind_some, reduceIte, if_true, if_false]
theorem m_setting_1 {S : St} {M : Nat} {A : Nat → Nat → Int32} {F : Nat → Int32} {H : Int64} {O : Nat → Int64} {C : Cn} {nh : Nat} {Hs : Nat → Cn} (h : ModW A F C nh Hs) (ok : okS C nh Hs) {a : Int32} (ha : a < oI 0 ∨ oI 1 < a) : f_X7_setting (MS S M A F H O) M a = some (0, MS S M A (upF F 5 1) H O) := by
  simp only [f_X7_setting, ws_out ha, m_p5, m_g5, upF_eq, show ¬ (1 : Int32) ≤ 0 by decide, show ¬ (2 : Int32) ≤ 0 by decide, show ¬ (3 : Int32) ≤ 0 by decide, show (0 : Int32) ≤ 0 by decide, show ¬ (1 : Int32) = 0 by decide, Option.bind_some, reduceIte, if_true, if_false]
theorem m_setting {S : St} {M : Nat} {A : Nat → Nat → Int32} {F : Nat → Int32} {H : Int64} {O : Nat → Int64} {C : Cn} {nh : Nat} {Hs : Nat → Cn} (h : ModW A F C nh Hs) (ok : okS C nh Hs) {i : Nat} (hi : i ≤ 1) :
    ∃ A' F', f_X7_setting (MS S M A F H O) M (oI i) = some (oI (getC C i), MS S M A' F' H O) ∧ F' 5 = 0 ∧ ModW A' F' C nh Hs ∧ FrM A A' F F' := by
  refine ⟨A, upF F 5 0, ?_, upF_eq _ _ _, ModW_F h (by decide) 0, rfl, upF_ne _ _ (by decide)⟩
  have e1 : A 0 i = oI (getC C i) := by
    have hc : i = 0 ∨ i = 1 := by omega
    rcases hc with rfl | rfl
    · exact h.1.1
    · exact h.1.2.1
  simp only [f_X7_setting, ws_in hi, m_p5, m_g5, upF_eq, m_r0, m_a0 (show i < 260 by omega), e1, show ¬ (1 : Int32) ≤ 0 by decide, show ¬ (2 : Int32) ≤ 0 by decide, show ¬ (3 : Int32) ≤ 0 by decide, show (0 : Int32) ≤ 0 by decide, show ¬ (1 : Int32) = 0 by decide, Option.bind_some, reduceIte, if_true, if_false]
theorem c_cost_1 {S : St} {x : Nat} {W : Nat → Nat → Int32} {R : Nat → Nat → Nat} {A : Cn} {nh : Nat} {Hs : Nat → Cn} (h : ClsW W R A nh Hs) (ok : okS A nh Hs) {a : Int32} (ha : a < 0 ∨ oI (cN A) ≤ a) (i : Int32) : f_X6_cost (WS S x W R) x a i = some (.inl "java/lang/IndexOutOfBoundsException") := by
  simp only [f_X6_cost, o_5, x6_find_out h ok ha, Sum.elim_inl, Sum.elim_inr, Option.bind_some, reduceIte, if_true, if_false]
theorem c_cost_2 {S : St} {x : Nat} {W : Nat → Nat → Int32} {R : Nat → Nat → Nat} {A : Cn} {nh : Nat} {Hs : Nat → Cn} (h : ClsW W R A nh Hs) (ok : okS A nh Hs) {j : Nat} (hj : j < cN A) {i : Int32} (hi : i < oI 0 ∨ oI 5 < i) : f_X6_cost (WS S x W R) x (oI j) i = some (.inl "java/lang/IllegalArgumentException") := by
  simp only [f_X6_cost, o_5, x6_find_in h ok hj, rqN (lo := 0) (hi := 5) (c1 := 0) (c2 := 5) rfl rfl hi, Sum.elim_inl, Sum.elim_inr, Option.bind_some, reduceIte, if_true, if_false]
theorem c_cost {S : St} {x : Nat} {W : Nat → Nat → Int32} {R : Nat → Nat → Nat} {A : Cn} {nh : Nat} {Hs : Nat → Cn} (h : ClsW W R A nh Hs) (ok : okS A nh Hs) {j i : Nat} (hj : j < cN A) (hi : i ≤ 5) : f_X6_cost (WS S x W R) x (oI j) (oI i) = some (.inr (oI (bt (bG (cB A j)) (bN (cB A j)) i))) := by
  have h8 := ok.1.1
  have hj8 : j < 8 := by omega
  have hq := kd_b h.1 hj8
  have hA := BlW_A (S := S) (x := x) (R := R) hq (h.1.2.2.2.2.2 j hj)
  have hok := ok.1.2.2.2.2 j hj
  simp only [f_X6_cost, o_5, x6_find_in h ok hj, rqL (k := i) (lo := 0) (hi := 5) (c1 := 0) (c2 := 5) rfl rfl (by omega) hi (by omega), r_0 hq, x1_bits hA hok.1 hi, Sum.elim_inl, Sum.elim_inr, Option.bind_some, reduceIte, if_true, if_false]
theorem m_cost_1 {S : St} {M : Nat} {A : Nat → Nat → Int32} {F : Nat → Int32} {H : Int64} {O : Nat → Int64} {C : Cn} {nh : Nat} {Hs : Nat → Cn} (h : ModW A F C nh Hs) (ok : okS C nh Hs) {a : Int32} (ha : a < 0 ∨ oI (cN C) ≤ a) (i : Int32) : f_X7_cost (MS S M A F H O) M a i = some (0, MS S M A (upF F 5 1) H O) := by
  simp only [f_X7_cost, m_o, x7_isBlock_out h.1 ok.1.1 ha, m_p5, m_g5, upF_eq, show ¬ (1 : Int32) ≤ 0 by decide, show ¬ (2 : Int32) ≤ 0 by decide, show ¬ (3 : Int32) ≤ 0 by decide, show (0 : Int32) ≤ 0 by decide, show ¬ (1 : Int32) = 0 by decide, Option.bind_some, reduceIte, if_true, if_false]
theorem m_cost_2 {S : St} {M : Nat} {A : Nat → Nat → Int32} {F : Nat → Int32} {H : Int64} {O : Nat → Int64} {C : Cn} {nh : Nat} {Hs : Nat → Cn} (h : ModW A F C nh Hs) (ok : okS C nh Hs) {j : Nat} (hj : j < cN C) {i : Int32} (hi : i < oI 0 ∨ oI 5 < i) : f_X7_cost (MS S M A F H O) M (oI j) i = some (0, MS S M A (upF F 5 2) H O) := by
  simp only [f_X7_cost, m_o, x7_isBlock_in h.1 ok.1.1 hj, cd_out hi, m_p5, m_g5, upF_eq, show ¬ (1 : Int32) ≤ 0 by decide, show ¬ (2 : Int32) ≤ 0 by decide, show ¬ (3 : Int32) ≤ 0 by decide, show (0 : Int32) ≤ 0 by decide, show ¬ (1 : Int32) = 0 by decide, Option.bind_some, reduceIte, if_true, if_false]
theorem m_cost {S : St} {M : Nat} {A : Nat → Nat → Int32} {F : Nat → Int32} {H : Int64} {O : Nat → Int64} {C : Cn} {nh : Nat} {Hs : Nat → Cn} (h : ModW A F C nh Hs) (ok : okS C nh Hs) {j i : Nat} (hj : j < cN C) (hi : i ≤ 5) :
    ∃ A' F', f_X7_cost (MS S M A F H O) M (oI j) (oI i) = some (oI (bt (bG (cB C j)) (bN (cB C j)) i), MS S M A' F' H O) ∧ F' 5 = 0 ∧ ModW A' F' C nh Hs ∧ FrM A A' F F' := by
  have k0 := ModW_F h (show 5 ≠ 1 by decide) 0
  obtain ⟨A1, F1, p1, p2⟩ := x7_costNow (S := S) (M := M) (F := upF F 5 0) (H := H) (O := O) k0.1 ok.1 hj hi
  refine ⟨A1, F1, ?_, by rw [p2.2 5 (by decide), upF_eq], FrL_W p2 k0, p2.1 2 (by decide), by rw [p2.2 3 (by decide), upF_ne _ _ (by decide)]⟩
  simp only [f_X7_cost, m_o, x7_isBlock_in h.1 ok.1.1 hj, cd_in hi, m_p5, m_g5, upF_eq, p1, show ¬ (1 : Int32) ≤ 0 by decide, show ¬ (2 : Int32) ≤ 0 by decide, show ¬ (3 : Int32) ≤ 0 by decide, show (0 : Int32) ≤ 0 by decide, show ¬ (1 : Int32) = 0 by decide, Option.bind_some, reduceIte, if_true, if_false]
theorem c_work_1 {S : St} {x : Nat} {W : Nat → Nat → Int32} {R : Nat → Nat → Nat} {A : Cn} {nh : Nat} {Hs : Nat → Cn} (h : ClsW W R A nh Hs) (ok : okS A nh Hs) {a : Int32} (ha : a < 0 ∨ oI (cN A) ≤ a) (c q v : Int32) : f_X6_work (WS S x W R) x a c q v = some (.inl "java/lang/IndexOutOfBoundsException") := by
  simp only [f_X6_work, o_5, x6_find_out h ok ha, Sum.elim_inl, Sum.elim_inr, Option.bind_some, reduceIte, if_true, if_false]
theorem c_work_2 {S : St} {x : Nat} {W : Nat → Nat → Int32} {R : Nat → Nat → Nat} {A : Cn} {nh : Nat} {Hs : Nat → Cn} (h : ClsW W R A nh Hs) (ok : okS A nh Hs) {j : Nat} (hj : j < cN A) {c q v : Int32} (hv : (c < oI 0 ∨ oI 5 < c) ∨ (∃ k, k ≤ 5 ∧ c = oI k) ∧ ((q < oI 0 ∨ oI 2 < q) ∨ (∃ k, k ≤ 2 ∧ q = oI k) ∧ (v < oI 0 ∨ oI 255 < v))) : f_X6_work (WS S x W R) x (oI j) c q v = some (.inl "java/lang/IllegalArgumentException") := by
  rcases hv with hv | ⟨⟨k, hk, rfl⟩, hv⟩
  · simp only [f_X6_work, o_5, x6_find_in h ok hj, rqN (lo := 0) (hi := 5) (c1 := 0) (c2 := 5) rfl rfl hv, Sum.elim_inl, Sum.elim_inr, Option.bind_some, reduceIte, if_true, if_false]
  · simp only [f_X6_work, o_5, x6_find_in h ok hj, rqL (k := k) (lo := 0) (hi := 5) (c1 := 0) (c2 := 5) rfl rfl (by omega) hk (by omega), rqq_out hv, Sum.elim_inl, Sum.elim_inr, Option.bind_some, reduceIte, if_true, if_false]
theorem c_work {S : St} {x : Nat} {W : Nat → Nat → Int32} {R : Nat → Nat → Nat} {A : Cn} {nh : Nat} {Hs : Nat → Cn} (h : ClsW W R A nh Hs) (ok : okS A nh Hs) {j c q v : Nat} (hj : j < cN A) (hc : c ≤ 5) (hq2 : q ≤ 2) (hv : v ≤ 255) : f_X6_work (WS S x W R) x (oI j) (oI c) (oI q) (oI v) = some (.inr (oI (ef (bG (cB A j)) (bN (cB A j)) c q v))) := by
  have h8 := ok.1.1
  have hj8 : j < 8 := by omega
  have hq := kd_b h.1 hj8
  have hA := BlW_A (S := S) (x := x) (R := R) hq (h.1.2.2.2.2.2 j hj)
  have hok := ok.1.2.2.2.2 j hj
  simp only [f_X6_work, o_5, x6_find_in h ok hj, rqL (k := c) (lo := 0) (hi := 5) (c1 := 0) (c2 := 5) rfl rfl (by omega) hc (by omega), rqq_in hq2 hv, r_0 hq, x1_effort hA hok.1 hc hq2 hv, Sum.elim_inl, Sum.elim_inr, Option.bind_some, reduceIte, if_true, if_false]
theorem m_work_1 {S : St} {M : Nat} {A : Nat → Nat → Int32} {F : Nat → Int32} {H : Int64} {O : Nat → Int64} {C : Cn} {nh : Nat} {Hs : Nat → Cn} (h : ModW A F C nh Hs) (ok : okS C nh Hs) {a : Int32} (ha : a < 0 ∨ oI (cN C) ≤ a) (c q v : Int32) : f_X7_work (MS S M A F H O) M a c q v = some (0, MS S M A (upF F 5 1) H O) := by
  simp only [f_X7_work, m_o, x7_isBlock_out h.1 ok.1.1 ha, m_p5, m_g5, upF_eq, show ¬ (1 : Int32) ≤ 0 by decide, show ¬ (2 : Int32) ≤ 0 by decide, show ¬ (3 : Int32) ≤ 0 by decide, show (0 : Int32) ≤ 0 by decide, show ¬ (1 : Int32) = 0 by decide, Option.bind_some, reduceIte, if_true, if_false]
theorem m_work_2 {S : St} {M : Nat} {A : Nat → Nat → Int32} {F : Nat → Int32} {H : Int64} {O : Nat → Int64} {C : Cn} {nh : Nat} {Hs : Nat → Cn} (h : ModW A F C nh Hs) (ok : okS C nh Hs) {j : Nat} (hj : j < cN C) {c q v : Int32} (hv : (c < oI 0 ∨ oI 5 < c) ∨ (∃ k, k ≤ 5 ∧ c = oI k) ∧ ((q < oI 0 ∨ oI 2 < q) ∨ (∃ k, k ≤ 2 ∧ q = oI k) ∧ (v < oI 0 ∨ oI 255 < v))) : f_X7_work (MS S M A F H O) M (oI j) c q v = some (0, MS S M A (upF F 5 2) H O) := by
  rcases hv with hv | ⟨⟨k, hk, rfl⟩, hv | ⟨⟨k2, hk2, rfl⟩, hv⟩⟩
  · simp only [f_X7_work, m_o, x7_isBlock_in h.1 ok.1.1 hj, cd_out hv, m_p5, m_g5, upF_eq, show ¬ (1 : Int32) ≤ 0 by decide, show ¬ (2 : Int32) ≤ 0 by decide, show ¬ (3 : Int32) ≤ 0 by decide, show (0 : Int32) ≤ 0 by decide, show ¬ (1 : Int32) = 0 by decide, Option.bind_some, reduceIte, if_true, if_false]
  · simp only [f_X7_work, m_o, x7_isBlock_in h.1 ok.1.1 hj, cd_in hk, qu_out hv, m_p5, m_g5, upF_eq, show ¬ (1 : Int32) ≤ 0 by decide, show ¬ (2 : Int32) ≤ 0 by decide, show ¬ (3 : Int32) ≤ 0 by decide, show (0 : Int32) ≤ 0 by decide, show ¬ (1 : Int32) = 0 by decide, Option.bind_some, reduceIte, if_true, if_false]
  · simp only [f_X7_work, m_o, x7_isBlock_in h.1 ok.1.1 hj, cd_in hk, qu_in hk2, va_out hv, m_p5, m_g5, upF_eq, show ¬ (1 : Int32) ≤ 0 by decide, show ¬ (2 : Int32) ≤ 0 by decide, show ¬ (3 : Int32) ≤ 0 by decide, show (0 : Int32) ≤ 0 by decide, show ¬ (1 : Int32) = 0 by decide, Option.bind_some, reduceIte, if_true, if_false]
theorem m_work {S : St} {M : Nat} {A : Nat → Nat → Int32} {F : Nat → Int32} {H : Int64} {O : Nat → Int64} {C : Cn} {nh : Nat} {Hs : Nat → Cn} (h : ModW A F C nh Hs) (ok : okS C nh Hs) {j c q v : Nat} (hj : j < cN C) (hc : c ≤ 5) (hq : q ≤ 2) (hv : v ≤ 255) :
    ∃ A' F', f_X7_work (MS S M A F H O) M (oI j) (oI c) (oI q) (oI v) = some (oI (ef (bG (cB C j)) (bN (cB C j)) c q v), MS S M A' F' H O) ∧ F' 5 = 0 ∧ ModW A' F' C nh Hs ∧ FrM A A' F F' := by
  have k0 := ModW_F h (show 5 ≠ 1 by decide) 0
  obtain ⟨A1, F1, p1, p2⟩ := x7_workNow (S := S) (M := M) (F := upF F 5 0) (H := H) (O := O) k0.1 ok.1 hj hc hq hv
  refine ⟨A1, F1, ?_, by rw [p2.2 5 (by decide), upF_eq], FrL_W p2 k0, p2.1 2 (by decide), by rw [p2.2 3 (by decide), upF_ne _ _ (by decide)]⟩
  simp only [f_X7_work, m_o, x7_isBlock_in h.1 ok.1.1 hj, cd_in hc, qu_in hq, va_in hv, m_p5, m_g5, upF_eq, p1, show ¬ (1 : Int32) ≤ 0 by decide, show ¬ (2 : Int32) ≤ 0 by decide, show ¬ (3 : Int32) ≤ 0 by decide, show (0 : Int32) ≤ 0 by decide, show ¬ (1 : Int32) = 0 by decide, Option.bind_some, reduceIte, if_true, if_false]
theorem c_regretIn_1 {S : St} {x : Nat} {W : Nat → Nat → Int32} {R : Nat → Nat → Nat} {A : Cn} {nh : Nat} {Hs : Nat → Cn} (h : ClsW W R A nh Hs) (ok : okS A nh Hs) {a : Int32} (ha : a < 0 ∨ oI (cN A) ≤ a) (i : Int32) : f_X6_regretIn (WS S x W R) x a i = some (.inl "java/lang/IndexOutOfBoundsException") := by
  simp only [f_X6_regretIn, o_5, x6_find_out h ok ha, Sum.elim_inl, Sum.elim_inr, Option.bind_some, reduceIte, if_true, if_false]
theorem c_regretIn_2 {S : St} {x : Nat} {W : Nat → Nat → Int32} {R : Nat → Nat → Nat} {A : Cn} {nh : Nat} {Hs : Nat → Cn} (h : ClsW W R A nh Hs) (ok : okS A nh Hs) {j : Nat} (hj : j < cN A) {i : Int32} (hi : i < oI 0 ∨ oI 200 < i) : f_X6_regretIn (WS S x W R) x (oI j) i = some (.inl "java/lang/IllegalArgumentException") := by
  simp only [f_X6_regretIn, o_5, x6_find_in h ok hj, rqN (lo := 0) (hi := 200) (c1 := 0) (c2 := 200) rfl rfl hi, Sum.elim_inl, Sum.elim_inr, Option.bind_some, reduceIte, if_true, if_false]
theorem c_regretIn {S : St} {x : Nat} {W : Nat → Nat → Int32} {R : Nat → Nat → Nat} {A : Cn} {nh : Nat} {Hs : Nat → Cn} (h : ClsW W R A nh Hs) (ok : okS A nh Hs) {j i : Nat} (hj : j < cN A) (hi : i ≤ 200) : f_X6_regretIn (WS S x W R) x (oI j) (oI i) = some (.inr (regB A (cB A j) i)) := by
  simp only [f_X6_regretIn, o_5, x6_find_in h ok hj, rqL (k := i) (lo := 0) (hi := 200) (c1 := 0) (c2 := 200) rfl rfl (by omega) hi (by omega), x6_regret h ok hj hi, Sum.elim_inl, Sum.elim_inr, Option.bind_some, reduceIte, if_true, if_false]
theorem m_regretIn_1 {S : St} {M : Nat} {A : Nat → Nat → Int32} {F : Nat → Int32} {H : Int64} {O : Nat → Int64} {C : Cn} {nh : Nat} {Hs : Nat → Cn} (h : ModW A F C nh Hs) (ok : okS C nh Hs) {a : Int32} (ha : a < 0 ∨ oI (cN C) ≤ a) (i : Int32) : f_X7_regretIn (MS S M A F H O) M a i = some (0, MS S M A (upF F 5 1) H O) := by
  simp only [f_X7_regretIn, m_o, x7_isBlock_out h.1 ok.1.1 ha, m_p5, m_g5, upF_eq, show ¬ (1 : Int32) ≤ 0 by decide, show ¬ (2 : Int32) ≤ 0 by decide, show ¬ (3 : Int32) ≤ 0 by decide, show (0 : Int32) ≤ 0 by decide, show ¬ (1 : Int32) = 0 by decide, Option.bind_some, reduceIte, if_true, if_false]
theorem m_regretIn_2 {S : St} {M : Nat} {A : Nat → Nat → Int32} {F : Nat → Int32} {H : Int64} {O : Nat → Int64} {C : Cn} {nh : Nat} {Hs : Nat → Cn} (h : ModW A F C nh Hs) (ok : okS C nh Hs) {j : Nat} (hj : j < cN C) {i : Int32} (hi : i < oI 0 ∨ oI 200 < i) : f_X7_regretIn (MS S M A F H O) M (oI j) i = some (0, MS S M A (upF F 5 2) H O) := by
  simp only [f_X7_regretIn, m_o, x7_isBlock_in h.1 ok.1.1 hj, wiN (lo := 0) (hi := 200) (c1 := 0) (c2 := 200) rfl rfl hi, m_p5, m_g5, upF_eq, show ¬ (1 : Int32) ≤ 0 by decide, show ¬ (2 : Int32) ≤ 0 by decide, show ¬ (3 : Int32) ≤ 0 by decide, show (0 : Int32) ≤ 0 by decide, show ¬ (1 : Int32) = 0 by decide, Option.bind_some, reduceIte, if_true, if_false]
theorem m_regretIn {S : St} {M : Nat} {A : Nat → Nat → Int32} {F : Nat → Int32} {H : Int64} {O : Nat → Int64} {C : Cn} {nh : Nat} {Hs : Nat → Cn} (h : ModW A F C nh Hs) (ok : okS C nh Hs) {j i : Nat} (hj : j < cN C) (hi : i ≤ 200) :
    ∃ A' F', f_X7_regretIn (MS S M A F H O) M (oI j) (oI i) = some (regB C (cB C j) i, MS S M A' F' H O) ∧ F' 5 = 0 ∧ ModW A' F' C nh Hs ∧ FrM A A' F F' := by
  have k0 := ModW_F h (show 5 ≠ 1 by decide) 0
  obtain ⟨A1, F1, p1, p2⟩ := x7_regretThen (S := S) (M := M) (F := upF F 5 0) (H := H) (O := O) k0.1 ok.1 hj hi
  refine ⟨A1, F1, ?_, by rw [p2.2 5 (by decide), upF_eq], FrL_W p2 k0, p2.1 2 (by decide), by rw [p2.2 3 (by decide), upF_ne _ _ (by decide)]⟩
  simp only [f_X7_regretIn, m_o, x7_isBlock_in h.1 ok.1.1 hj, wiL (k := i) (lo := 0) (hi := 200) (c1 := 0) (c2 := 200) rfl rfl (by omega) hi (by omega), m_p5, m_g5, upF_eq, p1, show ¬ (1 : Int32) ≤ 0 by decide, show ¬ (2 : Int32) ≤ 0 by decide, show ¬ (3 : Int32) ≤ 0 by decide, show (0 : Int32) ≤ 0 by decide, show ¬ (1 : Int32) = 0 by decide, Option.bind_some, reduceIte, if_true, if_false]
theorem c_gain_1 {S : St} {x : Nat} {W : Nat → Nat → Int32} {R : Nat → Nat → Nat} {A : Cn} {nh : Nat} {Hs : Nat → Cn} (h : ClsW W R A nh Hs) (ok : okS A nh Hs) {a : Int32} (ha : a < 0 ∨ oI (cN A) ≤ a) : f_X6_gain (WS S x W R) x a = some (.inl "java/lang/IndexOutOfBoundsException") := by
  simp only [f_X6_gain, o_5, x6_find_out h ok ha, Sum.elim_inl, Sum.elim_inr, Option.bind_some, reduceIte, if_true, if_false]
theorem c_gain {S : St} {x : Nat} {W : Nat → Nat → Int32} {R : Nat → Nat → Nat} {A : Cn} {nh : Nat} {Hs : Nat → Cn} (h : ClsW W R A nh Hs) (ok : okS A nh Hs) {j : Nat} (hj : j < cN A) : f_X6_gain (WS S x W R) x (oI j) = some (.inr (gainB A (cB A j))) := by
  simp only [f_X6_gain, o_5, x6_find_in h ok hj, x6_gain h ok hj, Sum.elim_inl, Sum.elim_inr, Option.bind_some, reduceIte, if_true, if_false]
theorem m_gain_1 {S : St} {M : Nat} {A : Nat → Nat → Int32} {F : Nat → Int32} {H : Int64} {O : Nat → Int64} {C : Cn} {nh : Nat} {Hs : Nat → Cn} (h : ModW A F C nh Hs) (ok : okS C nh Hs) {a : Int32} (ha : a < 0 ∨ oI (cN C) ≤ a) : f_X7_gain (MS S M A F H O) M a = some (0, MS S M A (upF F 5 1) H O) := by
  simp only [f_X7_gain, m_o, x7_isBlock_out h.1 ok.1.1 ha, m_p5, m_g5, upF_eq, show ¬ (1 : Int32) ≤ 0 by decide, show ¬ (2 : Int32) ≤ 0 by decide, show ¬ (3 : Int32) ≤ 0 by decide, show (0 : Int32) ≤ 0 by decide, show ¬ (1 : Int32) = 0 by decide, Option.bind_some, reduceIte, if_true, if_false]
theorem m_gain {S : St} {M : Nat} {A : Nat → Nat → Int32} {F : Nat → Int32} {H : Int64} {O : Nat → Int64} {C : Cn} {nh : Nat} {Hs : Nat → Cn} (h : ModW A F C nh Hs) (ok : okS C nh Hs) {j : Nat} (hj : j < cN C) :
    ∃ A' F', f_X7_gain (MS S M A F H O) M (oI j) = some (gainB C (cB C j), MS S M A' F' H O) ∧ F' 5 = 0 ∧ ModW A' F' C nh Hs ∧ FrM A A' F F' := by
  have k0 := ModW_F h (show 5 ≠ 1 by decide) 0
  obtain ⟨A1, F1, p1, p2⟩ := x7_gainNow (S := S) (M := M) (F := upF F 5 0) (H := H) (O := O) k0.1 ok.1 hj
  refine ⟨A1, F1, ?_, by rw [p2.2 5 (by decide), upF_eq], FrL_W p2 k0, p2.1 2 (by decide), by rw [p2.2 3 (by decide), upF_ne _ _ (by decide)]⟩
  simp only [f_X7_gain, m_o, x7_isBlock_in h.1 ok.1.1 hj, m_p5, m_g5, upF_eq, p1, show ¬ (1 : Int32) ≤ 0 by decide, show ¬ (2 : Int32) ≤ 0 by decide, show ¬ (3 : Int32) ≤ 0 by decide, show (0 : Int32) ≤ 0 by decide, show ¬ (1 : Int32) = 0 by decide, Option.bind_some, reduceIte, if_true, if_false]
theorem c_cheapest_1 {S : St} {x : Nat} {W : Nat → Nat → Int32} {R : Nat → Nat → Nat} {A : Cn} {nh : Nat} {Hs : Nat → Cn} (h : ClsW W R A nh Hs) (ok : okS A nh Hs) {a p : Int32} (ha : (a < 0 ∨ oI (cN A) ≤ a) ∨ ∃ j, j < cN A ∧ a = oI j ∧ (p < 0 ∨ oI (bN (cB A j)) ≤ p)) : f_X6_cheapest (WS S x W R) x a p = some (.inl "java/lang/IndexOutOfBoundsException", WS S x W R) := by
  simp only [f_X6_cheapest, o_5, x6_place_out h ok ha, Sum.elim_inl, Sum.elim_inr, Option.bind_some, reduceIte, if_true, if_false]
theorem c_cheapest {S : St} {x : Nat} {W : Nat → Nat → Int32} {R : Nat → Nat → Nat} {A : Cn} {nh : Nat} {Hs : Nat → Cn} (h : ClsW W R A nh Hs) (ok : okS A nh Hs) {j p : Nat} (hj : j < cN A) (hp : p < bN (cB A j)) : ∃ W', f_X6_cheapest (WS S x W R) x (oI j) (oI p) = some (.inr (oI (chF (cB A j) p 255)), WS S x W' R) ∧ ClsW W' R A nh Hs ∧ FrT W W' := by
  obtain ⟨W', e1, e2, e3⟩ := x6_cheap (S := S) (x := x) h ok hj hp
  refine ⟨W', ?_, e2, e3⟩
  simp only [f_X6_cheapest, o_5, x6_place_in h ok hj hp, e1, Sum.elim_inl, Sum.elim_inr, Option.bind_some, reduceIte, if_true, if_false]
theorem m_cheapest_1 {S : St} {M : Nat} {A : Nat → Nat → Int32} {F : Nat → Int32} {H : Int64} {O : Nat → Int64} {C : Cn} {nh : Nat} {Hs : Nat → Cn} (h : ModW A F C nh Hs) (ok : okS C nh Hs) {a p : Int32} (ha : (a < 0 ∨ oI (cN C) ≤ a) ∨ ∃ j, j < cN C ∧ a = oI j ∧ (p < 0 ∨ oI (bN (cB C j)) ≤ p)) : f_X7_cheapest (MS S M A F H O) M a p = some (0, MS S M A (upF F 5 1) H O) := by
  simp only [f_X7_cheapest, m_o, x7_isPlace_out h.1 ok.1 ha, m_p5, m_g5, upF_eq, show ¬ (1 : Int32) ≤ 0 by decide, show ¬ (2 : Int32) ≤ 0 by decide, show ¬ (3 : Int32) ≤ 0 by decide, show (0 : Int32) ≤ 0 by decide, show ¬ (1 : Int32) = 0 by decide, Option.bind_some, reduceIte, if_true, if_false]
theorem m_cheapest {S : St} {M : Nat} {A : Nat → Nat → Int32} {F : Nat → Int32} {H : Int64} {O : Nat → Int64} {C : Cn} {nh : Nat} {Hs : Nat → Cn} (h : ModW A F C nh Hs) (ok : okS C nh Hs) {j p : Nat} (hj : j < cN C) (hp : p < bN (cB C j)) :
    ∃ A' F', f_X7_cheapest (MS S M A F H O) M (oI j) (oI p) = some (oI (chF (cB C j) p 255), MS S M A' F' H O) ∧ F' 5 = 0 ∧ ModW A' F' C nh Hs ∧ FrM A A' F F' := by
  have k0 := ModW_F h (show 5 ≠ 1 by decide) 0
  obtain ⟨A1, F1, p1, p2⟩ := x7_cheap (S := S) (M := M) (F := upF F 5 0) (H := H) (O := O) k0.1 ok.1 hj hp
  refine ⟨A1, F1, ?_, by rw [p2.2 5 (by decide), upF_eq], FrL_W p2 k0, p2.1 2 (by decide), by rw [p2.2 3 (by decide), upF_ne _ _ (by decide)]⟩
  simp only [f_X7_cheapest, m_o, x7_isPlace_in h.1 ok.1 hj hp, m_p5, m_g5, upF_eq, p1, show ¬ (1 : Int32) ≤ 0 by decide, show ¬ (2 : Int32) ≤ 0 by decide, show ¬ (3 : Int32) ≤ 0 by decide, show (0 : Int32) ≤ 0 by decide, show ¬ (1 : Int32) = 0 by decide, Option.bind_some, reduceIte, if_true, if_false]
theorem c_mate_1 {S : St} {x : Nat} {W : Nat → Nat → Int32} {R : Nat → Nat → Nat} {A : Cn} {nh : Nat} {Hs : Nat → Cn} (h : ClsW W R A nh Hs) (ok : okS A nh Hs) {a : Int32} (ha : a < 0 ∨ oI (cN A) ≤ a) : f_X6_mate (WS S x W R) x a = some (.inl "java/lang/IndexOutOfBoundsException", WS S x W R) := by
  simp only [f_X6_mate, o_5, x6_find_out h ok ha, Sum.elim_inl, Sum.elim_inr, Option.bind_some, reduceIte, if_true, if_false]
theorem c_mate {S : St} {x : Nat} {W : Nat → Nat → Int32} {R : Nat → Nat → Nat} {A : Cn} {nh : Nat} {Hs : Nat → Cn} (h : ClsW W R A nh Hs) (ok : okS A nh Hs) {j : Nat} (hj : j < cN A) : ∃ W', f_X6_mate (WS S x W R) x (oI j) = some (.inr (mt A j (cN A)).1, WS S x W' R) ∧ ClsW W' R A nh Hs ∧ FrT W W' := by
  obtain ⟨W', e1, e2, e3⟩ := x6_mate (S := S) (x := x) h ok hj
  refine ⟨W', ?_, e2, e3⟩
  simp only [f_X6_mate, o_5, x6_find_in h ok hj, e1, Sum.elim_inl, Sum.elim_inr, Option.bind_some, reduceIte, if_true, if_false]
theorem m_mate_1 {S : St} {M : Nat} {A : Nat → Nat → Int32} {F : Nat → Int32} {H : Int64} {O : Nat → Int64} {C : Cn} {nh : Nat} {Hs : Nat → Cn} (h : ModW A F C nh Hs) (ok : okS C nh Hs) {a : Int32} (ha : a < 0 ∨ oI (cN C) ≤ a) : f_X7_mate (MS S M A F H O) M a = some (0, MS S M A (upF F 5 1) H O) := by
  simp only [f_X7_mate, m_o, x7_isBlock_out h.1 ok.1.1 ha, m_p5, m_g5, upF_eq, show ¬ (1 : Int32) ≤ 0 by decide, show ¬ (2 : Int32) ≤ 0 by decide, show ¬ (3 : Int32) ≤ 0 by decide, show (0 : Int32) ≤ 0 by decide, show ¬ (1 : Int32) = 0 by decide, Option.bind_some, reduceIte, if_true, if_false]
theorem m_mate {S : St} {M : Nat} {A : Nat → Nat → Int32} {F : Nat → Int32} {H : Int64} {O : Nat → Int64} {C : Cn} {nh : Nat} {Hs : Nat → Cn} (h : ModW A F C nh Hs) (ok : okS C nh Hs) {j : Nat} (hj : j < cN C) :
    ∃ A' F', f_X7_mate (MS S M A F H O) M (oI j) = some ((mt C j (cN C)).1, MS S M A' F' H O) ∧ F' 5 = 0 ∧ ModW A' F' C nh Hs ∧ FrM A A' F F' := by
  have k0 := ModW_F h (show 5 ≠ 1 by decide) 0
  obtain ⟨A1, F1, p1, p2⟩ := x7_mate (S := S) (M := M) (F := upF F 5 0) (H := H) (O := O) k0.1 ok.1 hj
  refine ⟨A1, F1, ?_, by rw [p2.2 5 (by decide), upF_eq], FrL_W p2 k0, p2.1 2 (by decide), by rw [p2.2 3 (by decide), upF_ne _ _ (by decide)]⟩
  simp only [f_X7_mate, m_o, x7_isBlock_in h.1 ok.1.1 hj, m_p5, m_g5, upF_eq, p1, show ¬ (1 : Int32) ≤ 0 by decide, show ¬ (2 : Int32) ≤ 0 by decide, show ¬ (3 : Int32) ≤ 0 by decide, show (0 : Int32) ≤ 0 by decide, show ¬ (1 : Int32) = 0 by decide, Option.bind_some, reduceIte, if_true, if_false]
