/-! THE CLASS'S OPERATIONS -/
theorem in_rng (a : Int32) (lo hi : Nat) (hh : hi < 2147483647) (hl : lo ≤ hi + 1) : (∃ k, lo ≤ k ∧ k ≤ hi ∧ a = oI k) ∨ (a < oI lo ∨ oI hi < a) := by
  rcases in_out a (hi + 1) (by omega) with ⟨k, hk, rfl⟩ | h | h
  · by_cases c : lo ≤ k
    · exact .inl ⟨k, c, by omega, rfl⟩
    · refine .inr (.inl ?_)
      rw [oI_lt (by omega) (by omega)]; omega
  · refine .inr (.inl ?_)
    rw [Int32.lt_iff_toInt_lt] at h ⊢
    rw [oI_toInt (by omega)]
    have : (0 : Int32).toInt = 0 := rfl
    omega
  · refine .inr (.inr ?_)
    rw [Int32.le_iff_toInt_le, oI_toInt (by omega)] at h
    rw [Int32.lt_iff_toInt_lt, oI_toInt (by omega)]
    omega
theorem rq_in {k lo hi : Nat} (h1 : lo ≤ k) (h2 : k ≤ hi) (hh : hi < 2147483648) : f_X6_requireWithin (oI k) (oI lo) (oI hi) = some (.inr ()) := by
  rw [f_X6_requireWithin]
  simp (disch := omega) only [oI_lt, oI_le, show ¬ k < lo by omega, h2, Option.bind_some, reduceIte, if_true, if_false]
theorem rq_out {a : Int32} {lo hi : Nat} (h : a < oI lo ∨ oI hi < a) : f_X6_requireWithin a (oI lo) (oI hi) = some (.inl "java/lang/IllegalArgumentException") := by
  rw [f_X6_requireWithin]
  by_cases c : a < oI lo
  · simp only [c, Option.bind_some, reduceIte, if_true, if_false]
  · have h2 : oI hi < a := by rcases h with h | h; exact absurd h c; exact h
    have h3 : ¬ a ≤ oI hi := by
      rw [Int32.lt_iff_toInt_lt] at h2
      rw [Int32.le_iff_toInt_le]
      omega
    simp only [c, h3, Option.bind_some, reduceIte, if_true, if_false]
theorem rv_in {k : Nat} (h2 : k ≤ 255) : f_X6_requireValue (oI k) = some (.inr ()) := by
  have := rq_in (k := k) (lo := 0) (hi := 255) (by omega) h2 (by omega)
  simp only [f_X6_requireValue, l0, l255, this, Option.bind_some, reduceIte, if_true, if_false, Sum.elim_inr]
theorem rv_out {a : Int32} (h : a < oI 0 ∨ oI 255 < a) : f_X6_requireValue a = some (.inl "java/lang/IllegalArgumentException") := by
  have := rq_out h
  simp only [f_X6_requireValue, l0, l255, this, Option.bind_some, reduceIte, if_true, if_false, Sum.elim_inl]
def FrT (W W' : Nat → Nat → Int32) : Prop := W' 185 = W 185 ∧ W' 186 = W 186
theorem FrT_trans {W W1 W2 : Nat → Nat → Int32} (h : FrT W W1) (k : FrT W1 W2) : FrT W W2 := ⟨k.1.trans h.1, k.2.trans h.2⟩
theorem FrT_refl (W : Nat → Nat → Int32) : FrT W W := ⟨rfl, rfl⟩
theorem FrT_H {W W' : Nat → Nat → Int32} {R R' : Nat → Nat → Nat} (f : FrH W W' R R') : FrT W W' := ⟨(f 185 (by omega)).1, (f 186 (by omega)).1⟩
theorem FrT_C {W W' : Nat → Nat → Int32} {R R' : Nat → Nat → Nat} (f : FrC W W' R R' 1) : FrT W W' := ⟨(f 185 (by omega)).1, (f 186 (by omega)).1⟩
theorem FrT_r {W W' : Nat → Nat → Int32} (f : Fr2 W W' 187) : FrT W W' := ⟨f 185 (by omega) (by omega), f 186 (by omega) (by omega)⟩
theorem cls_fr {W W' : Nat → Nat → Int32} {R : Nat → Nat → Nat} {A : Cn} {nh : Nat} {Hs : Nat → Cn} (h : ClsW W R A nh Hs) (ok : okS A nh Hs) (f : ∀ o, o < 185 → W' o = W o) : ClsW W' R A nh Hs := by
  obtain ⟨h1, h2, h3, h4, h5⟩ := h
  have h6 := ok.2.1
  refine ⟨ColW_fr h1 ok.1.1 (fun o a b => f o (by omega)) rfl, h2, h3, by rw [f 27 (by omega)]; exact h4, fun i hi => ?_⟩
  have hin := his_in h3 (show i < 6 by omega)
  exact ColW_fr (h5 i hi) (ok.2.2 i hi).1 (fun o a b => f o (by omega)) rfl
theorem cls_col {W W' : Nat → Nat → Int32} {R R' : Nat → Nat → Nat} {A B : Cn} {nh : Nat} {Hs : Nat → Cn} (h : ClsW W R A nh Hs) (ok : okS A nh Hs) (f : FrC W W' R R' 1) (hb : ColW W' R' 1 B) : ClsW W' R' B nh Hs := by
  obtain ⟨h1, h2, h3, h4, h5⟩ := h
  have h6 := ok.2.1
  refine ⟨hb, fun p hp => ?_, ?_, by rw [(f 27 (by omega)).1]; exact h4, fun i hi => ?_⟩
  · by_cases c : p = 1
    · subst c; exact hb.1
    · have := col_in hp
      exact ColOk_fr (h2 p hp) (f (p + 1) (by have := col_ne hp kd_one c; omega)).2
  · unfold HisOk; rw [(f 28 (by omega)).2]; exact h3
  · have hin := his_in h3 (show i < 6 by omega)
    rw [(f 28 (by omega)).2]
    exact ColW_fr (h5 i hi) (ok.2.2 i hi).1 (fun o a b => (f o (by omega)).1) (f _ (by omega)).2
theorem cls_blk {W W' : Nat → Nat → Int32} {R : Nat → Nat → Nat} {A : Cn} {nh : Nat} {Hs : Nat → Cn} {j : Nat} {b : Bk} (h : ClsW W R A nh Hs) (ok : okS A nh Hs) (hj : j < 8) (f : Fr3 W W' (R 2 j)) (hb : BlW W' (R 2 j) b) : ClsW W' R (updB A j b) nh Hs ∧ FrT W W' := by
  have fc : FrC W W' R R 1 := FrC_blk (p := 1) h.1.1 hj f
  exact ⟨cls_col h ok fc (col_blk (p := 1) h.1 ok.1.1 hj f hb), FrT_C fc⟩
theorem okS_upd {A : Cn} {nh : Nat} {Hs : Nat → Cn} {j : Nat} {b : Bk} (ok : okS A nh Hs) (hb : okB b) : okS (updB A j b) nh Hs := ⟨okC_upd ok.1 hb, ok.2⟩
theorem kd_b {R : Nat → Nat → Nat} {W : Nat → Nat → Int32} {A : Cn} (h : ColW W R 1 A) {j : Nat} (hj : j < 8) : kd (R 2 j) = 0 := kd_slot (p := 1) kd_one h.1 hj
theorem kd_187 : kd 187 = 3 := by decide
theorem kd_185 : kd 185 = 4 := by decide
theorem kd_186 : kd 186 = 14 := by decide
theorem x6_room {S : St} {x : Nat} {W : Nat → Nat → Int32} {R : Nat → Nat → Nat} {A : Cn} {nh : Nat} {Hs : Nat → Cn} (h : ClsW W R A nh Hs) (ok : okS A nh Hs) : f_X6_requireRoomForBlock (WS S x W R) x = some (if cN A < 8 then .inr () else .inl "java/lang/IllegalStateException") := by
  simp only [f_X6_requireRoomForBlock, r_5_0, o_1 kd_one, x2_full kd_one h.1 ok.1.1, Option.bind_some, reduceIte, if_true, if_false]
  by_cases c : cN A < 8
  · simp only [c, Option.bind_some, reduceIte, if_true, if_false]
  · simp only [c, Option.bind_some, reduceIte, if_true, if_false, show ¬ (1 : Int32) = 0 by decide]
theorem x6_find_in {S : St} {x : Nat} {W : Nat → Nat → Int32} {R : Nat → Nat → Nat} {A : Cn} {nh : Nat} {Hs : Nat → Cn} (h : ClsW W R A nh Hs) (ok : okS A nh Hs) {j : Nat} (hj : j < cN A) : f_X6_find (WS S x W R) x (oI j) = some (.inr (x + R 2 j)) := by
  simp only [f_X6_find, r_5_0, o_1 kd_one, x2_has_in kd_one h.1 ok.1.1 hj, x2_at kd_one h.1 ok.1.1 hj, show ¬ (1 : Int32) = 0 by decide, Option.bind_some, reduceIte, if_true, if_false]
theorem x6_find_out {S : St} {x : Nat} {W : Nat → Nat → Int32} {R : Nat → Nat → Nat} {A : Cn} {nh : Nat} {Hs : Nat → Cn} (h : ClsW W R A nh Hs) (ok : okS A nh Hs) {a : Int32} (ha : a < 0 ∨ oI (cN A) ≤ a) : f_X6_find (WS S x W R) x a = some (.inl "java/lang/IndexOutOfBoundsException") := by
  simp only [f_X6_find, r_5_0, o_1 kd_one, x2_has_out kd_one h.1 ha, Option.bind_some, reduceIte, if_true, if_false]
theorem x6_place_in {S : St} {x : Nat} {W : Nat → Nat → Int32} {R : Nat → Nat → Nat} {A : Cn} {nh : Nat} {Hs : Nat → Cn} (h : ClsW W R A nh Hs) (ok : okS A nh Hs) {j p : Nat} (hj : j < cN A) (hp : p < bN (cB A j)) : f_X6_findWithPlace (WS S x W R) x (oI j) (oI p) = some (.inr (x + R 2 j)) := by
  have h8 := ok.1.1
  have hq := kd_b h.1 (show j < 8 by omega)
  have hA := BlW_A (S := S) (x := x) (R := R) hq (h.1.2.2.2.2.2 j hj)
  simp only [f_X6_findWithPlace, o_5, x6_find_in h ok hj, Sum.elim_inr, r_0 hq, hA.1, x4_has_in hA hp, show ¬ (1 : Int32) = 0 by decide, Option.bind_some, reduceIte, if_true, if_false]
theorem x6_place_out {S : St} {x : Nat} {W : Nat → Nat → Int32} {R : Nat → Nat → Nat} {A : Cn} {nh : Nat} {Hs : Nat → Cn} (h : ClsW W R A nh Hs) (ok : okS A nh Hs) {a p : Int32} (ha : (a < 0 ∨ oI (cN A) ≤ a) ∨ ∃ j, j < cN A ∧ a = oI j ∧ (p < 0 ∨ oI (bN (cB A j)) ≤ p)) : f_X6_findWithPlace (WS S x W R) x a p = some (.inl "java/lang/IndexOutOfBoundsException") := by
  rcases ha with ha | ⟨j, hj, rfl, hp⟩
  · simp only [f_X6_findWithPlace, o_5, x6_find_out h ok ha, Sum.elim_inl, Option.bind_some, reduceIte, if_true, if_false]
  · have h8 := ok.1.1
    have hq := kd_b h.1 (show j < 8 by omega)
    have hA := BlW_A (S := S) (x := x) (R := R) hq (h.1.2.2.2.2.2 j hj)
    simp only [f_X6_findWithPlace, o_5, x6_find_in h ok hj, Sum.elim_inr, r_0 hq, hA.1, x4_has_out hA hp, Option.bind_some, reduceIte, if_true, if_false]
/-- save, as the class does it before each change -/
theorem x6_save {S : St} {x : Nat} {W : Nat → Nat → Int32} {R : Nat → Nat → Nat} {A : Cn} {nh : Nat} {Hs : Nat → Cn} (h : ClsW W R A nh Hs) (ok : okS A nh Hs) : ∃ W' R', f_X3_save (WS S x W R) (x + 27) (x + 1) = some (WS S x W' R') ∧ ClsW W' R' A (svN nh) (svH A nh Hs) ∧ okS A (svN nh) (svH A nh Hs) ∧ FrH W W' R R' := by
  obtain ⟨W', R', e1, e2, e3⟩ := x3_save (S := S) (x := x) h ok
  exact ⟨W', R', e1, e2, okS_save ok, e3⟩
theorem FrH_2 {W W' : Nat → Nat → Int32} {R R' : Nat → Nat → Nat} (f : FrH W W' R R') : R' 2 = R 2 := (f 2 (by omega)).2
/-- open with the trial row -/
theorem x6_open {S : St} {x : Nat} {W : Nat → Nat → Int32} {R : Nat → Nat → Nat} {A : Cn} {nh : Nat} {Hs : Nat → Cn} (h : ClsW W R A nh Hs) (ok : okS A nh Hs) {n : Nat} {g : Nat → Nat} (hn : cN A < 8) (hw : RwW W 187 n g) (h1 : 1 ≤ n) :
    ∃ W', f_X2_open (WS S x W R) (x + 1) (x + 187) = some (oI (cN A), WS S x W' R) ∧ ClsW W' R (openC A n g) nh Hs ∧ okS (openC A n g) nh Hs ∧ FrT W W' := by
  obtain ⟨W', e1, e2, e3⟩ := x2_open (S := S) (x := x) (R := R) kd_one h.1 hn kd_187 (by omega) hw h1
  exact ⟨W', e1, cls_col h ok e3 e2, ⟨okC_open ok.1 hn h1 hw.2.2.1 hw.2.2.2, ok.2⟩, FrT_C e3⟩
theorem c_make_1 {S : St} {x : Nat} {W : Nat → Nat → Int32} {R : Nat → Nat → Nat} {a1 a2 : Int32} (hb : (a1 < oI 0 ∨ oI 255 < a1) ∨ (∃ w, w ≤ 255 ∧ a1 = oI w) ∧ (a2 < oI 1 ∨ oI 24 < a2)) : f_X6_make (WS S x W R) x a1 a2 = some (.inl "java/lang/IllegalArgumentException", WS S x W R) := by
  rcases hb with hb | ⟨⟨w, hw, rfl⟩, hb⟩
  · simp only [f_X6_make, rv_out hb, Option.bind_some, reduceIte, if_true, if_false, Sum.elim_inl]
  · simp only [f_X6_make, rv_in hw, l1, l24, rq_out hb, Option.bind_some, reduceIte, if_true, if_false, Sum.elim_inl, Sum.elim_inr]
theorem c_make_2 {S : St} {x : Nat} {W : Nat → Nat → Int32} {R : Nat → Nat → Nat} {A : Cn} {nh : Nat} {Hs : Nat → Cn} (h : ClsW W R A nh Hs) (ok : okS A nh Hs) {w k : Nat} (hw : w ≤ 255) (h1 : 1 ≤ k) (h2 : k ≤ 24) (hn : ¬ cN A < 8) : f_X6_make (WS S x W R) x (oI w) (oI k) = some (.inl "java/lang/IllegalStateException", WS S x W R) := by
  simp only [f_X6_make, rv_in hw, l1, l24, rq_in h1 h2 (show 24 < 2147483648 by omega), o_5, x6_room h ok, hn, Option.bind_some, reduceIte, if_true, if_false, Sum.elim_inl, Sum.elim_inr]
theorem c_make {S : St} {x : Nat} {W : Nat → Nat → Int32} {R : Nat → Nat → Nat} {A : Cn} {nh : Nat} {Hs : Nat → Cn} (h : ClsW W R A nh Hs) (ok : okS A nh Hs) {w k : Nat} (hw : w ≤ 255) (h1 : 1 ≤ k) (h2 : k ≤ 24) (hn : cN A < 8) :
    ∃ W' R', f_X6_make (WS S x W R) x (oI w) (oI k) = some (.inr (oI (cN A)), WS S x W' R') ∧ ClsW W' R' (openC A k (fun i => if i < 0 then 0 else w)) (svN nh) (svH A nh Hs) ∧ okS (openC A k (fun i => if i < 0 then 0 else w)) (svN nh) (svH A nh Hs) ∧ FrT W W' := by
  obtain ⟨W1, p1, p2, p3⟩ := x4_push (S := S) (x := x) (R := R) (k := k) kd_187 (RwW_zero W 187 (fun _ => 0) (fun _ => by omega)) hw (by omega)
  have f1 : Fr2 W W1 187 := Fr2_trans (Fr2_n W 187 1 _) p3
  have hc := cls_fr h ok (W' := W1) (fun o ho => f1 o (by omega) (by omega))
  obtain ⟨W2, R2, q1, q2, q3, q4⟩ := x6_save (S := S) (x := x) hc ok
  rw [Nat.zero_add] at p2
  have p2' := RwW_fr p2 (q4 187 (by omega)).1 (q4 188 (by omega)).1
  obtain ⟨W3, s1, s2, s3, s4⟩ := x6_open (S := S) (x := x) q2 q3 hn p2' h1
  refine ⟨W3, R2, ?_, s2, s3, FrT_trans (FrT_r f1) (FrT_trans (FrT_H q4) s4)⟩
  simp only [f_X6_make, rv_in hw, l1, l24, rq_in h1 h2 (show 24 < 2147483648 by omega), o_5, x6_room h ok, hn, r_5_3, o_3 kd_187, x4_clear kd_187, p1, r_5_1, r_5_0, o_2 kd_27, q1, o_1 kd_one, s1, Option.bind_some, reduceIte, if_true, if_false, Sum.elim_inl, Sum.elim_inr]
theorem c_add_1 {S : St} {x : Nat} {W : Nat → Nat → Int32} {R : Nat → Nat → Nat} {A : Cn} {nh : Nat} {Hs : Nat → Cn} (h : ClsW W R A nh Hs) (ok : okS A nh Hs) {a v : Int32} (ha : a < 0 ∨ oI (cN A) ≤ a) : f_X6_add (WS S x W R) x a v = some (.inl "java/lang/IndexOutOfBoundsException", WS S x W R) := by
  simp only [f_X6_add, o_5, x6_find_out h ok ha, Option.bind_some, reduceIte, if_true, if_false, Sum.elim_inl]
theorem c_add_2 {S : St} {x : Nat} {W : Nat → Nat → Int32} {R : Nat → Nat → Nat} {A : Cn} {nh : Nat} {Hs : Nat → Cn} (h : ClsW W R A nh Hs) (ok : okS A nh Hs) {j : Nat} {v : Int32} (hj : j < cN A) (hv : v < oI 0 ∨ oI 255 < v) : f_X6_add (WS S x W R) x (oI j) v = some (.inl "java/lang/IllegalArgumentException", WS S x W R) := by
  have h8 := ok.1.1
  simp only [f_X6_add, o_5, x6_find_in h ok hj, r_0 (kd_b h.1 (show j < 8 by omega)), rv_out hv, Option.bind_some, reduceIte, if_true, if_false, Sum.elim_inl, Sum.elim_inr]
theorem c_add_3 {S : St} {x : Nat} {W : Nat → Nat → Int32} {R : Nat → Nat → Nat} {A : Cn} {nh : Nat} {Hs : Nat → Cn} (h : ClsW W R A nh Hs) (ok : okS A nh Hs) {j w : Nat} (hj : j < cN A) (hw : w ≤ 255) (hn : bN (cB A j) = 24) : f_X6_add (WS S x W R) x (oI j) (oI w) = some (.inl "java/lang/IllegalStateException", WS S x W R) := by
  have h8 := ok.1.1
  have hq := kd_b h.1 (show j < 8 by omega)
  have hA := BlW_A (S := S) (x := x) (R := R) hq (h.1.2.2.2.2.2 j hj)
  have := x4_room hA (show 1 < 2147483648 by omega)
  rw [if_pos (by omega)] at this
  simp only [f_X6_add, o_5, x6_find_in h ok hj, r_0 hq, rv_in hw, hA.1, l1, this, Option.bind_some, reduceIte, if_true, if_false, Sum.elim_inl, Sum.elim_inr]
def addB (b : Bk) (w : Nat) : Bk := (bN b + 1, bC b, bV b, fun i => if i < bN b then bG b i else w, bK b)
theorem okB_add {b : Bk} {w : Nat} (ok : okB b) (hw : w ≤ 255) (hn : bN b < 24) : okB (addB b w) := by
  unfold addB
  refine okB_mk (by omega) (by omega) ok.2.2.1 ok.2.2.2.1 (fun i => ?_)
  split
  · exact ok.2.2.2.2 i
  · exact hw
theorem c_add {S : St} {x : Nat} {W : Nat → Nat → Int32} {R : Nat → Nat → Nat} {A : Cn} {nh : Nat} {Hs : Nat → Cn} (h : ClsW W R A nh Hs) (ok : okS A nh Hs) {j w : Nat} (hj : j < cN A) (hw : w ≤ 255) (hn : bN (cB A j) < 24) :
    ∃ W' R', f_X6_add (WS S x W R) x (oI j) (oI w) = some (.inr (oI (bN (cB A j) + 1)), WS S x W' R') ∧ ClsW W' R' (updB A j (addB (cB A j) w)) (svN nh) (svH A nh Hs) ∧ okS (updB A j (addB (cB A j) w)) (svN nh) (svH A nh Hs) ∧ FrT W W' := by
  have h8 := ok.1.1
  have hj8 : j < 8 := by omega
  have hq := kd_b h.1 hj8
  have hA := BlW_A (S := S) (x := x) (R := R) hq (h.1.2.2.2.2.2 j hj)
  have hr := x4_room hA (show 1 < 2147483648 by omega)
  rw [if_neg (by omega)] at hr
  obtain ⟨W1, R1, q1, q2, q3, q4⟩ := x6_save (S := S) (x := x) h ok
  have e2 := FrH_2 q4
  have hb := q2.1.2.2.2.2.2 j hj
  have hq' := kd_b q2.1 hj8
  rw [show (1 + 1 : Nat) = 2 from rfl, e2] at hb
  rw [e2] at hq'
  obtain ⟨W2, p1, p2, p3⟩ := x4_push (S := S) (x := x) (R := R1) (k := 1) (kd0 hq').1 hb.1 hw (by omega)
  have hb2 := BlW_rw hb _ _ p2 (p3 _ (by omega) (by omega))
  have f3 := Fr3_row p3
  rw [← e2] at hb2 f3
  obtain ⟨c1, c2⟩ := cls_blk q2 q3 hj8 f3 hb2
  refine ⟨W2, R1, ?_, c1, okS_upd q3 (okB_add (ok.1.2.2.2.2 j hj) hw hn), FrT_trans (FrT_H q4) c2⟩
  simp only [f_X6_add, o_5, x6_find_in h ok hj, r_0 hq, rv_in hw, hA.1, l1, hr, r_5_1, r_5_0, o_2 kd_27, q1, o_3 (kd0 hq').1, p1, x4_size (RwW_at (kd0 hq').1 p2), show ¬ (0 : Int32) = 1 by decide, show ¬ (1 : Int32) = 0 by decide, Option.bind_some, reduceIte, if_true, if_false, Sum.elim_inl, Sum.elim_inr]
  rw [if_neg (by decide)]
