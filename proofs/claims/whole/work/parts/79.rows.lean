/-! EACH CALL ON BOTH SIDES -/
def Iv (x M : Nat) (T : St) : Prop := ∃ (S : St) (W : Nat → Nat → Int32) (R : Nat → Nat → Nat) (A : Nat → Nat → Int32) (F : Nat → Int32) (H : Int64) (O : Nat → Int64) (C : Cn) (nh : Nat) (Hs : Nat → Cn) (len : Nat) (t : Nat → Nat), T = MS (WS S x W R) M A F H O ∧ x + 189 ≤ M ∧ ClsW W R C nh Hs ∧ okS C nh Hs ∧ TxW W len t ∧ ModW A F C nh Hs ∧ TxM A F len t
def Row (f g : St → Option (Int32 × St)) (x M : Nat) (T : St) : Prop := ∃ k T1 b T2, f T = some (k, T1) ∧ oO T1 M 6 = some () ∧ g T1 = some (b, T2) ∧ oO T2 M 6 = some () ∧ f_X7_thrown T2 M = some k ∧ (k = 0 → aJ T2 (M + 6) 0 = some (Int32.toInt64 b)) ∧ Iv x M T2
theorem sJ_WS {S : St} {x M : Nat} {W : Nat → Nat → Int32} {R : Nat → Nat → Nat} {A : Nat → Nat → Int32} {F : Nat → Int32} {H : Int64} {O : Nat → Int64} (h : x + 189 ≤ M) (v : Int64) : sJ (WS (MS S M A F H O) x W R) (M + 6) 0 v = some (WS (MS S M A F H (vp_updL O 0 v)) x W R) := by
  rw [← MS_WS h, m_sJ, MS_WS h]
theorem m_thr {S : St} {M : Nat} {A : Nat → Nat → Int32} {F : Nat → Int32} {H : Int64} {O : Nat → Int64} : f_X7_thrown (MS S M A F H O) M = some (F 5) := by
  simp only [f_X7_thrown, m_g5, Option.bind_some]
theorem row_no {x M : Nat} {S : St} {W W' : Nat → Nat → Int32} {R : Nat → Nat → Nat} {A A' : Nat → Nat → Int32} {F F' : Nat → Int32} {H : Int64} {O : Nat → Int64} {C : Cn} {nh : Nat} {Hs : Nat → Cn} {len : Nat} {t : Nat → Nat} {f g : St → Option (Int32 × St)} {k : Int32} (hM : x + 189 ≤ M) (h : ClsW W' R C nh Hs) (ok : okS C nh Hs) (hT : TxW W' len t) (hm : ModW A' F' C nh Hs) (hX : TxM A' F' len t) (hk : k ≠ 0) (h5 : F' 5 = k)
    (e1 : f (MS (WS S x W R) M A F H O) = some (k, MS (WS S x W' R) M A F H O)) (e2 : g (MS (WS S x W' R) M A F H O) = some (0, MS (WS S x W' R) M A' F' H O)) : Row f g x M (MS (WS S x W R) M A F H O) :=
  ⟨k, _, 0, _, e1, m_o, e2, m_o, by rw [m_thr, h5], fun e => absurd e hk, S, W', R, A', F', H, O, C, nh, Hs, len, t, rfl, hM, h, ok, hT, hm, hX⟩
theorem row_err {x M : Nat} {S : St} {W : Nat → Nat → Int32} {R : Nat → Nat → Nat} {A : Nat → Nat → Int32} {F : Nat → Int32} {H : Int64} {O : Nat → Int64} {C : Cn} {nh : Nat} {Hs : Nat → Cn} {len : Nat} {t : Nat → Nat} {f g : St → Option (Int32 × St)} {k : Int32} (hM : x + 189 ≤ M) (h : ClsW W R C nh Hs) (ok : okS C nh Hs) (hT : TxW W len t) (hm : ModW A F C nh Hs) (hX : TxM A F len t) (hk : k ≠ 0)
    (e1 : f (MS (WS S x W R) M A F H O) = some (k, MS (WS S x W R) M A F H O)) (e2 : g (MS (WS S x W R) M A F H O) = some (0, MS (WS S x W R) M A (upF F 5 k) H O)) : Row f g x M (MS (WS S x W R) M A F H O) :=
  row_no hM h ok hT (ModW_F hm (by decide) k) (TxM_F hX (by decide) k) hk (upF_eq _ _ _) e1 e2
theorem row_ok {x M : Nat} {S : St} {W W' : Nat → Nat → Int32} {R R' : Nat → Nat → Nat} {A A' : Nat → Nat → Int32} {F F' : Nat → Int32} {H H' : Int64} {O : Nat → Int64} {C' : Cn} {nh' : Nat} {Hs' : Nat → Cn} {len' : Nat} {t' : Nat → Nat} {f g : St → Option (Int32 × St)} {v : Int32} (hM : x + 189 ≤ M) (h : ClsW W' R' C' nh' Hs') (ok : okS C' nh' Hs') (hT : TxW W' len' t') (hm : ModW A' F' C' nh' Hs') (hX : TxM A' F' len' t') (h5 : F' 5 = 0)
    (e1 : f (MS (WS S x W R) M A F H O) = some (0, MS (WS S x W' R') M A F H (vp_updL O 0 (Int32.toInt64 v)))) (e2 : g (MS (WS S x W' R') M A F H (vp_updL O 0 (Int32.toInt64 v))) = some (v, MS (WS S x W' R') M A' F' H' (vp_updL O 0 (Int32.toInt64 v)))) : Row f g x M (MS (WS S x W R) M A F H O) :=
  ⟨0, _, v, _, e1, m_o, e2, m_o, by rw [m_thr, h5], fun _ => by rw [m_J]; exact congrArg some (if_pos rfl), S, W', R', A', F', H', _, C', nh', Hs', len', t', rfl, hM, h, ok, hT, hm, hX⟩
theorem sE1 : ("java/lang/IllegalStateException" = "java/lang/IllegalArgumentException") = False := eq_false (by decide)
theorem sE2 : ("java/lang/IllegalStateException" = "java/lang/IndexOutOfBoundsException") = False := eq_false (by decide)
theorem sE3 : ("java/lang/IllegalArgumentException" = "java/lang/IndexOutOfBoundsException") = False := eq_false (by decide)
theorem st_make {x M : Nat} {T : St} (hI : Iv x M T) (a1 a2 : Int32) : Row (fun T => f_L_make T x a1 a2 (M + 6)) (fun T => f_X7_make T M a1 a2) x M T := by
  obtain ⟨S, W, R, A, F, H, O, C, nh, Hs, len, t, rfl, hM, h, ok, hT, hm, hX⟩ := hI
  have h8 := ok.1.1
  rcases in_rng a1 0 255 (by omega) (by omega) with ⟨w, _, hw, rfl⟩ | hn
  · rcases in_rng a2 1 24 (by omega) (by omega) with ⟨k, h1, h2, rfl⟩ | hn
    · by_cases c : cN C < 8
      · skip
        obtain ⟨W', R', c1, c2, c3, c4⟩ := c_make (S := MS S M A F H O) (x := x) h ok hw h1 h2 c
        obtain ⟨A', F', m1, m2, m3, m4⟩ := m_make (S := WS S x W' R') (M := M) (H := H) (O := vp_updL O 0 (Int32.toInt64 (oI (cN C)))) hm ok hw h1 h2 c
        exact row_ok hM c2 c3 (TxW_T hT c4) m3 (TxM_M hX m4) m2 (by simp only [f_L_make, MS_WS hM, o_5, c1, Sum.elim_inl, Sum.elim_inr, sJ_WS hM, sE1, sE2, sE3, Option.bind_some, reduceIte, if_true, if_false]) m1
      · skip
        have c1 := c_make_2 (S := MS S M A F H O) (x := x) (W := W) (R := R) h ok hw h1 h2 c
        exact row_err hM h ok hT hm hX (k := 2) (by decide) (by simp only [f_L_make, MS_WS hM, o_5, c1, Sum.elim_inl, Sum.elim_inr, sJ_WS hM, sE1, sE2, sE3, Option.bind_some, reduceIte, if_true, if_false]) (m_make_2 (S := WS S x W R) (M := M) (A := A) (F := F) (H := H) (O := O) hm ok hw h1 h2 c)
    · skip
      have c1 := c_make_1 (S := MS S M A F H O) (x := x) (W := W) (R := R) (a1 := oI w) (a2 := a2) (.inr ⟨⟨w, hw, rfl⟩, hn⟩)
      exact row_err hM h ok hT hm hX (k := 1) (by decide) (by simp only [f_L_make, MS_WS hM, o_5, c1, Sum.elim_inl, Sum.elim_inr, sJ_WS hM, sE1, sE2, sE3, Option.bind_some, reduceIte, if_true, if_false]) (m_make_1 (S := WS S x W R) (M := M) (A := A) (F := F) (H := H) (O := O) (a1 := oI w) (a2 := a2) (.inr ⟨⟨w, hw, rfl⟩, hn⟩))
  · skip
    have c1 := c_make_1 (S := MS S M A F H O) (x := x) (W := W) (R := R) (a1 := a1) (a2 := a2) (.inl hn)
    exact row_err hM h ok hT hm hX (k := 1) (by decide) (by simp only [f_L_make, MS_WS hM, o_5, c1, Sum.elim_inl, Sum.elim_inr, sJ_WS hM, sE1, sE2, sE3, Option.bind_some, reduceIte, if_true, if_false]) (m_make_1 (S := WS S x W R) (M := M) (A := A) (F := F) (H := H) (O := O) (a1 := a1) (a2 := a2) (.inl hn))
theorem st_read {x M : Nat} {T : St} (hI : Iv x M T) : Row (fun T => f_L_read T x (M + 6)) (fun T => f_X7_read T M) x M T := by
  obtain ⟨S, W, R, A, F, H, O, C, nh, Hs, len, t, rfl, hM, h, ok, hT, hm, hX⟩ := hI
  have h8 := ok.1.1
  by_cases hs : okSp t len
  · by_cases c : cN C < 8
    · skip
      obtain ⟨W', R', c1, c2, c3, c4⟩ := c_read (S := MS S M A F H O) (x := x) h ok hT hs c
      obtain ⟨A', F', m1, m2, m3, m4⟩ := m_read (S := WS S x W' R') (M := M) (H := H) (O := vp_updL O 0 (Int32.toInt64 (oI (cN C)))) hm ok hX hs c
      exact row_ok hM c2 c3 c4 m3 m4 m2 (by simp only [f_L_read, MS_WS hM, o_5, c1, Sum.elim_inl, Sum.elim_inr, sJ_WS hM, sE1, sE2, sE3, Option.bind_some, reduceIte, if_true, if_false]) m1
    · skip
      obtain ⟨W', c1, c2, c4⟩ := c_read_2 (S := MS S M A F H O) (x := x) h ok hT hs c
      obtain ⟨A', F', m1, m2, m3, m4⟩ := m_read_no (S := WS S x W' R) (M := M) (H := H) (O := O) hm ok hX (k := 2) (.inl ⟨hs, c, rfl⟩)
      exact row_no hM c2 ok c4 m3 m4 (by decide) m2 (by simp only [f_L_read, MS_WS hM, o_5, c1, Sum.elim_inl, Sum.elim_inr, sJ_WS hM, sE1, sE2, sE3, Option.bind_some, reduceIte, if_true, if_false]) m1
  · skip
    obtain ⟨W', c1, c2, c4⟩ := c_read_1 (S := MS S M A F H O) (x := x) h ok hT hs
    obtain ⟨A', F', m1, m2, m3, m4⟩ := m_read_no (S := WS S x W' R) (M := M) (H := H) (O := O) hm ok hX (k := 1) (.inr ⟨hs, rfl⟩)
    exact row_no hM c2 ok c4 m3 m4 (by decide) m2 (by simp only [f_L_read, MS_WS hM, o_5, c1, Sum.elim_inl, Sum.elim_inr, sJ_WS hM, sE1, sE2, sE3, Option.bind_some, reduceIte, if_true, if_false]) m1
theorem st_add {x M : Nat} {T : St} (hI : Iv x M T) (a1 a2 : Int32) : Row (fun T => f_L_add T x a1 a2 (M + 6)) (fun T => f_X7_add T M a1 a2) x M T := by
  obtain ⟨S, W, R, A, F, H, O, C, nh, Hs, len, t, rfl, hM, h, ok, hT, hm, hX⟩ := hI
  have h8 := ok.1.1
  rcases in_out a1 (cN C) (by omega) with ⟨j, hj, rfl⟩ | ha
  · rcases in_rng a2 0 255 (by omega) (by omega) with ⟨w, _, hw, rfl⟩ | hn
    · have hb24 := (ok.1.2.2.2.2 j hj).2.1
      by_cases c : bN (cB C j) = 24
      · skip
        have c1 := c_add_3 (S := MS S M A F H O) (x := x) (W := W) (R := R) h ok hj hw c
        exact row_err hM h ok hT hm hX (k := 3) (by decide) (by simp only [f_L_add, MS_WS hM, o_5, c1, Sum.elim_inl, Sum.elim_inr, sJ_WS hM, sE1, sE2, sE3, Option.bind_some, reduceIte, if_true, if_false]) (m_add_3 (S := WS S x W R) (M := M) (A := A) (F := F) (H := H) (O := O) hm ok hj hw c)
      · skip
        obtain ⟨W', R', c1, c2, c3, c4⟩ := c_add (S := MS S M A F H O) (x := x) h ok hj hw (by omega)
        obtain ⟨A', F', m1, m2, m3, m4⟩ := m_add (S := WS S x W' R') (M := M) (H := H) (O := vp_updL O 0 (Int32.toInt64 (oI (bN (cB C j) + 1)))) hm ok hj hw (by omega)
        exact row_ok hM c2 c3 (TxW_T hT c4) m3 (TxM_M hX m4) m2 (by simp only [f_L_add, MS_WS hM, o_5, c1, Sum.elim_inl, Sum.elim_inr, sJ_WS hM, sE1, sE2, sE3, Option.bind_some, reduceIte, if_true, if_false]) m1
    · skip
      have c1 := c_add_2 (S := MS S M A F H O) (x := x) (W := W) (R := R) h ok hj hn
      exact row_err hM h ok hT hm hX (k := 2) (by decide) (by simp only [f_L_add, MS_WS hM, o_5, c1, Sum.elim_inl, Sum.elim_inr, sJ_WS hM, sE1, sE2, sE3, Option.bind_some, reduceIte, if_true, if_false]) (m_add_2 (S := WS S x W R) (M := M) (A := A) (F := F) (H := H) (O := O) hm ok hj hn)
  · skip
    have c1 := c_add_1 (S := MS S M A F H O) (x := x) (W := W) (R := R) h ok (v := a2) ha
    exact row_err hM h ok hT hm hX (k := 1) (by decide) (by simp only [f_L_add, MS_WS hM, o_5, c1, Sum.elim_inl, Sum.elim_inr, sJ_WS hM, sE1, sE2, sE3, Option.bind_some, reduceIte, if_true, if_false]) (m_add_1 (S := WS S x W R) (M := M) (A := A) (F := F) (H := H) (O := O) hm ok (v := a2) ha)
theorem st_put {x M : Nat} {T : St} (hI : Iv x M T) (a1 a2 a3 : Int32) : Row (fun T => f_L_put T x a1 a2 a3 (M + 6)) (fun T => f_X7_put T M a1 a2 a3) x M T := by
  obtain ⟨S, W, R, A, F, H, O, C, nh, Hs, len, t, rfl, hM, h, ok, hT, hm, hX⟩ := hI
  have h8 := ok.1.1
  rcases in_out a1 (cN C) (by omega) with ⟨j, hj, rfl⟩ | ha
  · skip
    have hb24 := (ok.1.2.2.2.2 j hj).2.1
    have hb1 := (ok.1.2.2.2.2 j hj).1
    rcases in_out a2 (bN (cB C j)) (by omega) with ⟨p, hp, rfl⟩ | hp
    · rcases in_rng a3 0 255 (by omega) (by omega) with ⟨w, _, hw, rfl⟩ | hn
      · skip
        obtain ⟨W', R', c1, c2, c3, c4⟩ := c_put (S := MS S M A F H O) (x := x) h ok hj hp hw
        obtain ⟨A', F', m1, m2, m3, m4⟩ := m_put (S := WS S x W' R') (M := M) (H := H) (O := vp_updL O 0 (Int32.toInt64 (oI (bG (cB C j) p)))) hm ok hj hp hw
        exact row_ok hM c2 c3 (TxW_T hT c4) m3 (TxM_M hX m4) m2 (by simp only [f_L_put, MS_WS hM, o_5, c1, Sum.elim_inl, Sum.elim_inr, sJ_WS hM, sE1, sE2, sE3, Option.bind_some, reduceIte, if_true, if_false]) m1
      · skip
        have c1 := c_put_2 (S := MS S M A F H O) (x := x) (W := W) (R := R) h ok hj hp hn
        exact row_err hM h ok hT hm hX (k := 2) (by decide) (by simp only [f_L_put, MS_WS hM, o_5, c1, Sum.elim_inl, Sum.elim_inr, sJ_WS hM, sE1, sE2, sE3, Option.bind_some, reduceIte, if_true, if_false]) (m_put_2 (S := WS S x W R) (M := M) (A := A) (F := F) (H := H) (O := O) hm ok hj hp hn)
    · skip
      have c1 := c_put_1 (S := MS S M A F H O) (x := x) (W := W) (R := R) h ok (v := a3) (.inr ⟨j, hj, rfl, hp⟩)
      exact row_err hM h ok hT hm hX (k := 1) (by decide) (by simp only [f_L_put, MS_WS hM, o_5, c1, Sum.elim_inl, Sum.elim_inr, sJ_WS hM, sE1, sE2, sE3, Option.bind_some, reduceIte, if_true, if_false]) (m_put_1 (S := WS S x W R) (M := M) (A := A) (F := F) (H := H) (O := O) hm ok (v := a3) (.inr ⟨j, hj, rfl, hp⟩))
  · skip
    have c1 := c_put_1 (S := MS S M A F H O) (x := x) (W := W) (R := R) h ok (p := a2) (v := a3) (.inl ha)
    exact row_err hM h ok hT hm hX (k := 1) (by decide) (by simp only [f_L_put, MS_WS hM, o_5, c1, Sum.elim_inl, Sum.elim_inr, sJ_WS hM, sE1, sE2, sE3, Option.bind_some, reduceIte, if_true, if_false]) (m_put_1 (S := WS S x W R) (M := M) (A := A) (F := F) (H := H) (O := O) hm ok (p := a2) (v := a3) (.inl ha))
theorem st_take {x M : Nat} {T : St} (hI : Iv x M T) (a1 a2 : Int32) : Row (fun T => f_L_take T x a1 a2 (M + 6)) (fun T => f_X7_take T M a1 a2) x M T := by
  obtain ⟨S, W, R, A, F, H, O, C, nh, Hs, len, t, rfl, hM, h, ok, hT, hm, hX⟩ := hI
  have h8 := ok.1.1
  rcases in_out a1 (cN C) (by omega) with ⟨j, hj, rfl⟩ | ha
  · skip
    have hb24 := (ok.1.2.2.2.2 j hj).2.1
    have hb1 := (ok.1.2.2.2.2 j hj).1
    rcases in_out a2 (bN (cB C j)) (by omega) with ⟨p, hp, rfl⟩ | hp
    · by_cases c : bN (cB C j) = 1
      · skip
        have c1 := c_take_2 (S := MS S M A F H O) (x := x) (W := W) (R := R) h ok hj hp c
        exact row_err hM h ok hT hm hX (k := 2) (by decide) (by simp only [f_L_take, MS_WS hM, o_5, c1, Sum.elim_inl, Sum.elim_inr, sJ_WS hM, sE1, sE2, sE3, Option.bind_some, reduceIte, if_true, if_false]) (m_take_2 (S := WS S x W R) (M := M) (A := A) (F := F) (H := H) (O := O) hm ok hj hp c)
      · skip
        obtain ⟨W', R', c1, c2, c3, c4⟩ := c_take (S := MS S M A F H O) (x := x) h ok hj hp (by omega)
        obtain ⟨A', F', m1, m2, m3, m4⟩ := m_take (S := WS S x W' R') (M := M) (H := H) (O := vp_updL O 0 (Int32.toInt64 (oI (bG (cB C j) p)))) hm ok hj hp (by omega)
        exact row_ok hM c2 c3 (TxW_T hT c4) m3 (TxM_M hX m4) m2 (by simp only [f_L_take, MS_WS hM, o_5, c1, Sum.elim_inl, Sum.elim_inr, sJ_WS hM, sE1, sE2, sE3, Option.bind_some, reduceIte, if_true, if_false]) m1
    · skip
      have c1 := c_take_1 (S := MS S M A F H O) (x := x) (W := W) (R := R) h ok (.inr ⟨j, hj, rfl, hp⟩)
      exact row_err hM h ok hT hm hX (k := 1) (by decide) (by simp only [f_L_take, MS_WS hM, o_5, c1, Sum.elim_inl, Sum.elim_inr, sJ_WS hM, sE1, sE2, sE3, Option.bind_some, reduceIte, if_true, if_false]) (m_take_1 (S := WS S x W R) (M := M) (A := A) (F := F) (H := H) (O := O) hm ok (.inr ⟨j, hj, rfl, hp⟩))
  · skip
    have c1 := c_take_1 (S := MS S M A F H O) (x := x) (W := W) (R := R) h ok (p := a2) (.inl ha)
    exact row_err hM h ok hT hm hX (k := 1) (by decide) (by simp only [f_L_take, MS_WS hM, o_5, c1, Sum.elim_inl, Sum.elim_inr, sJ_WS hM, sE1, sE2, sE3, Option.bind_some, reduceIte, if_true, if_false]) (m_take_1 (S := WS S x W R) (M := M) (A := A) (F := F) (H := H) (O := O) hm ok (p := a2) (.inl ha))
theorem st_turn {x M : Nat} {T : St} (hI : Iv x M T) (a1 : Int32) : Row (fun T => f_L_turn T x a1 (M + 6)) (fun T => f_X7_turn T M a1) x M T := by
  obtain ⟨S, W, R, A, F, H, O, C, nh, Hs, len, t, rfl, hM, h, ok, hT, hm, hX⟩ := hI
  have h8 := ok.1.1
  rcases in_out a1 (cN C) (by omega) with ⟨j, hj, rfl⟩ | ha
  · skip
    obtain ⟨W', R', c1, c2, c3, c4⟩ := c_turn (S := MS S M A F H O) (x := x) h ok hj
    obtain ⟨A', F', m1, m2, m3, m4⟩ := m_turn (S := WS S x W' R') (M := M) (H := H) (O := vp_updL O 0 (Int32.toInt64 (oI (bG (cB C j) (bN (cB C j) - 1))))) hm ok hj
    exact row_ok hM c2 c3 (TxW_T hT c4) m3 (TxM_M hX m4) m2 (by simp only [f_L_turn, MS_WS hM, o_5, c1, Sum.elim_inl, Sum.elim_inr, sJ_WS hM, sE1, sE2, sE3, Option.bind_some, reduceIte, if_true, if_false]) m1
  · skip
    have c1 := c_turn_1 (S := MS S M A F H O) (x := x) (W := W) (R := R) h ok ha
    exact row_err hM h ok hT hm hX (k := 1) (by decide) (by simp only [f_L_turn, MS_WS hM, o_5, c1, Sum.elim_inl, Sum.elim_inr, sJ_WS hM, sE1, sE2, sE3, Option.bind_some, reduceIte, if_true, if_false]) (m_turn_1 (S := WS S x W R) (M := M) (A := A) (F := F) (H := H) (O := O) hm ok ha)
theorem st_join {x M : Nat} {T : St} (hI : Iv x M T) (a1 a2 : Int32) : Row (fun T => f_L_join T x a1 a2 (M + 6)) (fun T => f_X7_join T M a1 a2) x M T := by
  obtain ⟨S, W, R, A, F, H, O, C, nh, Hs, len, t, rfl, hM, h, ok, hT, hm, hX⟩ := hI
  have h8 := ok.1.1
  rcases in_out a1 (cN C) (by omega) with ⟨j, hj, rfl⟩ | ha
  · rcases in_out a2 (cN C) (by omega) with ⟨k, hk, rfl⟩ | hb
    · by_cases e : j = k
      · subst e
        have c1 := c_join_2 (S := MS S M A F H O) (x := x) (W := W) (R := R) h ok hj
        exact row_err hM h ok hT hm hX (k := 2) (by decide) (by simp only [f_L_join, MS_WS hM, o_5, c1, Sum.elim_inl, Sum.elim_inr, sJ_WS hM, sE1, sE2, sE3, Option.bind_some, reduceIte, if_true, if_false]) (m_join_2 (S := WS S x W R) (M := M) (A := A) (F := F) (H := H) (O := O) hm ok hj)
      · by_cases c : 24 < bN (cB C j) + bN (cB C k)
        · skip
          have c1 := c_join_3 (S := MS S M A F H O) (x := x) (W := W) (R := R) h ok hj hk e c
          exact row_err hM h ok hT hm hX (k := 3) (by decide) (by simp only [f_L_join, MS_WS hM, o_5, c1, Sum.elim_inl, Sum.elim_inr, sJ_WS hM, sE1, sE2, sE3, Option.bind_some, reduceIte, if_true, if_false]) (m_join_3 (S := WS S x W R) (M := M) (A := A) (F := F) (H := H) (O := O) hm ok hj hk e c)
        · skip
          obtain ⟨W', R', c1, c2, c3, c4⟩ := c_join (S := MS S M A F H O) (x := x) h ok hj hk e (by omega)
          obtain ⟨A', F', m1, m2, m3, m4⟩ := m_join (S := WS S x W' R') (M := M) (H := H) (O := vp_updL O 0 (Int32.toInt64 (if j ≤ k then oI j else oI (j - 1)))) hm ok hj hk e (by omega)
          exact row_ok hM c2 c3 (TxW_T hT c4) m3 (TxM_M hX m4) m2 (by simp only [f_L_join, MS_WS hM, o_5, c1, Sum.elim_inl, Sum.elim_inr, sJ_WS hM, sE1, sE2, sE3, Option.bind_some, reduceIte, if_true, if_false]) m1
    · skip
      have c1 := c_join_1 (S := MS S M A F H O) (x := x) (W := W) (R := R) h ok (.inr ⟨⟨j, hj, rfl⟩, hb⟩)
      exact row_err hM h ok hT hm hX (k := 1) (by decide) (by simp only [f_L_join, MS_WS hM, o_5, c1, Sum.elim_inl, Sum.elim_inr, sJ_WS hM, sE1, sE2, sE3, Option.bind_some, reduceIte, if_true, if_false]) (m_join_1 (S := WS S x W R) (M := M) (A := A) (F := F) (H := H) (O := O) hm ok (.inr ⟨⟨j, hj, rfl⟩, hb⟩))
  · skip
    have c1 := c_join_1 (S := MS S M A F H O) (x := x) (W := W) (R := R) h ok (b := a2) (.inl ha)
    exact row_err hM h ok hT hm hX (k := 1) (by decide) (by simp only [f_L_join, MS_WS hM, o_5, c1, Sum.elim_inl, Sum.elim_inr, sJ_WS hM, sE1, sE2, sE3, Option.bind_some, reduceIte, if_true, if_false]) (m_join_1 (S := WS S x W R) (M := M) (A := A) (F := F) (H := H) (O := O) hm ok (b := a2) (.inl ha))
theorem st_cut {x M : Nat} {T : St} (hI : Iv x M T) (a1 a2 : Int32) : Row (fun T => f_L_cut T x a1 a2 (M + 6)) (fun T => f_X7_cut T M a1 a2) x M T := by
  obtain ⟨S, W, R, A, F, H, O, C, nh, Hs, len, t, rfl, hM, h, ok, hT, hm, hX⟩ := hI
  have h8 := ok.1.1
  rcases in_out a1 (cN C) (by omega) with ⟨j, hj, rfl⟩ | ha
  · skip
    have hb24 := (ok.1.2.2.2.2 j hj).2.1
    have hb1 := (ok.1.2.2.2.2 j hj).1
    rcases in_out a2 (bN (cB C j)) (by omega) with ⟨p, hp, rfl⟩ | hp
    · by_cases z : p = 0
      · subst z
        have c1 := c_cut_1z (S := MS S M A F H O) (x := x) (W := W) (R := R) h ok hj
        exact row_err hM h ok hT hm hX (k := 1) (by decide) (by simp only [f_L_cut, MS_WS hM, o_5, c1, Sum.elim_inl, Sum.elim_inr, sJ_WS hM, sE1, sE2, sE3, Option.bind_some, reduceIte, if_true, if_false]) (m_cut_1z (S := WS S x W R) (M := M) (A := A) (F := F) (H := H) (O := O) hm ok hj)
      · by_cases c : cN C < 8
        · skip
          obtain ⟨W', R', c1, c2, c3, c4⟩ := c_cut (S := MS S M A F H O) (x := x) h ok hj hp (by omega) c
          obtain ⟨A', F', m1, m2, m3, m4⟩ := m_cut (S := WS S x W' R') (M := M) (H := H) (O := vp_updL O 0 (Int32.toInt64 (oI (cN C)))) hm ok hj hp (by omega) c
          exact row_ok hM c2 c3 (TxW_T hT c4) m3 (TxM_M hX m4) m2 (by simp only [f_L_cut, MS_WS hM, o_5, c1, Sum.elim_inl, Sum.elim_inr, sJ_WS hM, sE1, sE2, sE3, Option.bind_some, reduceIte, if_true, if_false]) m1
        · skip
          have c1 := c_cut_2 (S := MS S M A F H O) (x := x) (W := W) (R := R) h ok hj hp (by omega) c
          exact row_err hM h ok hT hm hX (k := 2) (by decide) (by simp only [f_L_cut, MS_WS hM, o_5, c1, Sum.elim_inl, Sum.elim_inr, sJ_WS hM, sE1, sE2, sE3, Option.bind_some, reduceIte, if_true, if_false]) (m_cut_2 (S := WS S x W R) (M := M) (A := A) (F := F) (H := H) (O := O) hm ok hj hp (by omega) c)
    · skip
      have c1 := c_cut_1 (S := MS S M A F H O) (x := x) (W := W) (R := R) h ok (.inr ⟨j, hj, rfl, hp⟩)
      exact row_err hM h ok hT hm hX (k := 1) (by decide) (by simp only [f_L_cut, MS_WS hM, o_5, c1, Sum.elim_inl, Sum.elim_inr, sJ_WS hM, sE1, sE2, sE3, Option.bind_some, reduceIte, if_true, if_false]) (m_cut_1 (S := WS S x W R) (M := M) (A := A) (F := F) (H := H) (O := O) hm ok (.inr ⟨j, hj, rfl, hp⟩))
  · skip
    have c1 := c_cut_1 (S := MS S M A F H O) (x := x) (W := W) (R := R) h ok (p := a2) (.inl ha)
    exact row_err hM h ok hT hm hX (k := 1) (by decide) (by simp only [f_L_cut, MS_WS hM, o_5, c1, Sum.elim_inl, Sum.elim_inr, sJ_WS hM, sE1, sE2, sE3, Option.bind_some, reduceIte, if_true, if_false]) (m_cut_1 (S := WS S x W R) (M := M) (A := A) (F := F) (H := H) (O := O) hm ok (p := a2) (.inl ha))
theorem st_pass {x M : Nat} {T : St} (hI : Iv x M T) (a1 : Int32) : Row (fun T => f_L_pass T x a1 (M + 6)) (fun T => f_X7_pass T M a1) x M T := by
  obtain ⟨S, W, R, A, F, H, O, C, nh, Hs, len, t, rfl, hM, h, ok, hT, hm, hX⟩ := hI
  have h8 := ok.1.1
  rcases in_rng a1 1 100 (by omega) (by omega) with ⟨k, h1, h2, rfl⟩ | hn
  · by_cases c : cD C + k ≤ 5000
    · skip
      obtain ⟨W', R', c1, c2, c3, c4⟩ := c_pass (S := MS S M A F H O) (x := x) h ok h1 h2 c
      obtain ⟨A', F', m1, m2, m3, m4⟩ := m_pass (S := WS S x W' R') (M := M) (H := H) (O := vp_updL O 0 (Int32.toInt64 (paS C k))) hm ok h1 h2 c
      exact row_ok hM c2 c3 (TxW_T hT c4) m3 (TxM_M hX m4) m2 (by simp only [f_L_pass, MS_WS hM, o_5, c1, Sum.elim_inl, Sum.elim_inr, sJ_WS hM, sE1, sE2, sE3, Option.bind_some, reduceIte, if_true, if_false]) m1
    · skip
      have c1 := c_pass_2 (S := MS S M A F H O) (x := x) (W := W) (R := R) h ok h1 h2 (by omega)
      exact row_err hM h ok hT hm hX (k := 2) (by decide) (by simp only [f_L_pass, MS_WS hM, o_5, c1, Sum.elim_inl, Sum.elim_inr, sJ_WS hM, sE1, sE2, sE3, Option.bind_some, reduceIte, if_true, if_false]) (m_pass_2 (S := WS S x W R) (M := M) (A := A) (F := F) (H := H) (O := O) hm ok h1 h2 (by omega))
  · skip
    have c1 := c_pass_1 (S := MS S M A F H O) (x := x) (W := W) (R := R) hn
    exact row_err hM h ok hT hm hX (k := 1) (by decide) (by simp only [f_L_pass, MS_WS hM, o_5, c1, Sum.elim_inl, Sum.elim_inr, sJ_WS hM, sE1, sE2, sE3, Option.bind_some, reduceIte, if_true, if_false]) (m_pass_1 (S := WS S x W R) (M := M) (A := A) (F := F) (H := H) (O := O) hn)
theorem st_breakVow {x M : Nat} {T : St} (hI : Iv x M T) (a1 : Int32) : Row (fun T => f_L_breakVow T x a1 (M + 6)) (fun T => f_X7_breakVow T M a1) x M T := by
  obtain ⟨S, W, R, A, F, H, O, C, nh, Hs, len, t, rfl, hM, h, ok, hT, hm, hX⟩ := hI
  have h8 := ok.1.1
  rcases in_out a1 (cN C) (by omega) with ⟨j, hj, rfl⟩ | ha
  · skip
    obtain ⟨W', R', c1, c2, c3, c4⟩ := c_break (S := MS S M A F H O) (x := x) h ok hj
    obtain ⟨A', F', m1, m2, m3, m4⟩ := m_break (S := WS S x W' R') (M := M) (H := H) (O := vp_updL O 0 (Int32.toInt64 (fineB C (cB C j)))) hm ok hj
    exact row_ok hM c2 c3 (TxW_T hT c4) m3 (TxM_M hX m4) m2 (by simp only [f_L_breakVow, MS_WS hM, o_5, c1, Sum.elim_inl, Sum.elim_inr, sJ_WS hM, sE1, sE2, sE3, Option.bind_some, reduceIte, if_true, if_false]) m1
  · skip
    have c1 := c_break_1 (S := MS S M A F H O) (x := x) (W := W) (R := R) h ok ha
    exact row_err hM h ok hT hm hX (k := 1) (by decide) (by simp only [f_L_breakVow, MS_WS hM, o_5, c1, Sum.elim_inl, Sum.elim_inr, sJ_WS hM, sE1, sE2, sE3, Option.bind_some, reduceIte, if_true, if_false]) (m_break_1 (S := WS S x W R) (M := M) (A := A) (F := F) (H := H) (O := O) hm ok ha)
theorem st_ask {x M : Nat} {T : St} (hI : Iv x M T) (a1 a2 a3 : Int32) : Row (fun T => f_L_ask T x a1 a2 a3 (M + 6)) (fun T => f_X7_ask T M a1 a2 a3) x M T := by
  obtain ⟨S, W, R, A, F, H, O, C, nh, Hs, len, t, rfl, hM, h, ok, hT, hm, hX⟩ := hI
  have h8 := ok.1.1
  rcases in_out a1 (cN C) (by omega) with ⟨j, hj, rfl⟩ | ha
  · rcases in_rng a2 0 2 (by omega) (by omega) with ⟨q, _, hq, rfl⟩ | hn
    · rcases in_rng a3 0 255 (by omega) (by omega) with ⟨v, _, hv, rfl⟩ | hn
      · skip
        obtain ⟨W', R', c1, c2, c3, c4⟩ := c_ask (S := MS S M A F H O) (x := x) h ok hj hq hv
        obtain ⟨A', F', m1, m2, m3, m4⟩ := m_ask (S := WS S x W' R') (M := M) (H := H) (O := vp_updL O 0 (Int32.toInt64 (an (bG (cB C j)) (bN (cB C j)) q v))) hm ok hj hq hv
        exact row_ok hM c2 c3 (TxW_T hT c4) m3 (TxM_M hX m4) m2 (by simp only [f_L_ask, MS_WS hM, o_5, c1, Sum.elim_inl, Sum.elim_inr, sJ_WS hM, sE1, sE2, sE3, Option.bind_some, reduceIte, if_true, if_false]) m1
      · skip
        have c1 := c_ask_2 (S := MS S M A F H O) (x := x) (W := W) (R := R) h ok hj (.inr ⟨⟨q, hq, rfl⟩, hn⟩)
        exact row_err hM h ok hT hm hX (k := 2) (by decide) (by simp only [f_L_ask, MS_WS hM, o_5, c1, Sum.elim_inl, Sum.elim_inr, sJ_WS hM, sE1, sE2, sE3, Option.bind_some, reduceIte, if_true, if_false]) (m_ask_2 (S := WS S x W R) (M := M) (A := A) (F := F) (H := H) (O := O) hm ok hj (.inr ⟨⟨q, hq, rfl⟩, hn⟩))
    · skip
      have c1 := c_ask_2 (S := MS S M A F H O) (x := x) (W := W) (R := R) h ok hj (v := a3) (.inl hn)
      exact row_err hM h ok hT hm hX (k := 2) (by decide) (by simp only [f_L_ask, MS_WS hM, o_5, c1, Sum.elim_inl, Sum.elim_inr, sJ_WS hM, sE1, sE2, sE3, Option.bind_some, reduceIte, if_true, if_false]) (m_ask_2 (S := WS S x W R) (M := M) (A := A) (F := F) (H := H) (O := O) hm ok hj (v := a3) (.inl hn))
  · skip
    have c1 := c_ask_1 (S := MS S M A F H O) (x := x) (W := W) (R := R) h ok (q := a2) (v := a3) ha
    exact row_err hM h ok hT hm hX (k := 1) (by decide) (by simp only [f_L_ask, MS_WS hM, o_5, c1, Sum.elim_inl, Sum.elim_inr, sJ_WS hM, sE1, sE2, sE3, Option.bind_some, reduceIte, if_true, if_false]) (m_ask_1 (S := WS S x W R) (M := M) (A := A) (F := F) (H := H) (O := O) hm ok (q := a2) (v := a3) ha)
theorem st_set {x M : Nat} {T : St} (hI : Iv x M T) (a1 a2 : Int32) : Row (fun T => f_L_set T x a1 a2 (M + 6)) (fun T => f_X7_set T M a1 a2) x M T := by
  obtain ⟨S, W, R, A, F, H, O, C, nh, Hs, len, t, rfl, hM, h, ok, hT, hm, hX⟩ := hI
  have h8 := ok.1.1
  rcases in_rng a1 0 1 (by omega) (by omega) with ⟨i, _, hi, rfl⟩ | hn
  · have hc : i = 0 ∨ i = 1 := by omega
    rcases hc with rfl | rfl
    · rcases in_rng a2 1 400 (by omega) (by omega) with ⟨v, h1, h2, rfl⟩ | hn
      · skip
        obtain ⟨W', R', c1, c2, c3, c4⟩ := c_set (S := MS S M A F H O) (x := x) h ok (i := 0) (v := v) (.inl ⟨rfl, h1, h2⟩)
        obtain ⟨A', F', m1, m2, m3, m4⟩ := m_set (S := WS S x W' R') (M := M) (H := H) (O := vp_updL O 0 (Int32.toInt64 (oI (getC C 0)))) hm ok (i := 0) (v := v) (.inl ⟨rfl, h1, h2⟩)
        exact row_ok hM c2 c3 (TxW_T hT c4) m3 (TxM_M hX m4) m2 (by simp only [f_L_set, MS_WS hM, o_5, c1, Sum.elim_inl, Sum.elim_inr, sJ_WS hM, sE1, sE2, sE3, Option.bind_some, reduceIte, if_true, if_false]) m1
      · skip
        have c1 := c_set_2 (S := MS S M A F H O) (x := x) (W := W) (R := R) h ok (i := 0) (by omega) (.inl ⟨rfl, hn⟩)
        exact row_err hM h ok hT hm hX (k := 2) (by decide) (by simp only [f_L_set, MS_WS hM, o_5, c1, Sum.elim_inl, Sum.elim_inr, sJ_WS hM, sE1, sE2, sE3, Option.bind_some, reduceIte, if_true, if_false]) (m_set_2 (S := WS S x W R) (M := M) (A := A) (F := F) (H := H) (O := O) (i := 0) (by omega) (.inl ⟨rfl, hn⟩))
    · rcases in_rng a2 0 100 (by omega) (by omega) with ⟨v, h1, h2, rfl⟩ | hn
      · skip
        obtain ⟨W', R', c1, c2, c3, c4⟩ := c_set (S := MS S M A F H O) (x := x) h ok (i := 1) (v := v) (.inr ⟨rfl, h2⟩)
        obtain ⟨A', F', m1, m2, m3, m4⟩ := m_set (S := WS S x W' R') (M := M) (H := H) (O := vp_updL O 0 (Int32.toInt64 (oI (getC C 1)))) hm ok (i := 1) (v := v) (.inr ⟨rfl, h2⟩)
        exact row_ok hM c2 c3 (TxW_T hT c4) m3 (TxM_M hX m4) m2 (by simp only [f_L_set, MS_WS hM, o_5, c1, Sum.elim_inl, Sum.elim_inr, sJ_WS hM, sE1, sE2, sE3, Option.bind_some, reduceIte, if_true, if_false]) m1
      · skip
        have c1 := c_set_2 (S := MS S M A F H O) (x := x) (W := W) (R := R) h ok (i := 1) (by omega) (.inr ⟨rfl, hn⟩)
        exact row_err hM h ok hT hm hX (k := 2) (by decide) (by simp only [f_L_set, MS_WS hM, o_5, c1, Sum.elim_inl, Sum.elim_inr, sJ_WS hM, sE1, sE2, sE3, Option.bind_some, reduceIte, if_true, if_false]) (m_set_2 (S := WS S x W R) (M := M) (A := A) (F := F) (H := H) (O := O) (i := 1) (by omega) (.inr ⟨rfl, hn⟩))
  · skip
    have c1 := c_set_1 (S := MS S M A F H O) (x := x) (W := W) (R := R) (v := a2) hn
    exact row_err hM h ok hT hm hX (k := 1) (by decide) (by simp only [f_L_set, MS_WS hM, o_5, c1, Sum.elim_inl, Sum.elim_inr, sJ_WS hM, sE1, sE2, sE3, Option.bind_some, reduceIte, if_true, if_false]) (m_set_1 (S := WS S x W R) (M := M) (A := A) (F := F) (H := H) (O := O) (v := a2) hn)
theorem st_append {x M : Nat} {T : St} (hI : Iv x M T) (a1 : Int32) : Row (fun T => f_L_append T x a1 (M + 6)) (fun T => f_X7_append T M a1) x M T := by
  obtain ⟨S, W, R, A, F, H, O, C, nh, Hs, len, t, rfl, hM, h, ok, hT, hm, hX⟩ := hI
  have h8 := ok.1.1
  rcases in_rng a1 33 126 (by omega) (by omega) with ⟨v, h1, h2, rfl⟩ | hn
  · by_cases c : len < 60
    · skip
      obtain ⟨W', c1, c2, c4⟩ := c_app (S := MS S M A F H O) (x := x) h ok hT h1 h2 c
      obtain ⟨A', F', m1, m2, m3, m4⟩ := m_app (S := WS S x W' R) (M := M) (H := H) (O := vp_updL O 0 (Int32.toInt64 (oI (len + 1)))) hm hX h1 h2 c
      exact row_ok hM c2 ok c4 m3 m4 m2 (by simp only [f_L_append, MS_WS hM, o_5, c1, Sum.elim_inl, Sum.elim_inr, sJ_WS hM, sE1, sE2, sE3, Option.bind_some, reduceIte, if_true, if_false]) m1
    · skip
      have c1 := c_app_2 (S := MS S M A F H O) (x := x) (W := W) (R := R) hT h1 h2 c
      exact row_err hM h ok hT hm hX (k := 2) (by decide) (by simp only [f_L_append, MS_WS hM, o_5, c1, Sum.elim_inl, Sum.elim_inr, sJ_WS hM, sE1, sE2, sE3, Option.bind_some, reduceIte, if_true, if_false]) (m_app_2 (S := WS S x W R) (M := M) (A := A) (F := F) (H := H) (O := O) hX h1 h2 c)
  · skip
    have c1 := c_app_1 (S := MS S M A F H O) (x := x) (W := W) (R := R) hn
    exact row_err hM h ok hT hm hX (k := 1) (by decide) (by simp only [f_L_append, MS_WS hM, o_5, c1, Sum.elim_inl, Sum.elim_inr, sJ_WS hM, sE1, sE2, sE3, Option.bind_some, reduceIte, if_true, if_false]) (m_app_1 (S := WS S x W R) (M := M) (A := A) (F := F) (H := H) (O := O) hn)
theorem st_undo {x M : Nat} {T : St} (hI : Iv x M T) : Row (fun T => f_L_undo T x (M + 6)) (fun T => f_X7_undo T M) x M T := by
  obtain ⟨S, W, R, A, F, H, O, C, nh, Hs, len, t, rfl, hM, h, ok, hT, hm, hX⟩ := hI
  have h8 := ok.1.1
  cases nh with
  | zero =>
    have c1 := c_undo_1 (S := MS S M A F H O) (x := x) (W := W) (R := R) h
    exact row_err hM h ok hT hm hX (k := 1) (by decide) (by simp only [f_L_undo, MS_WS hM, o_5, c1, Sum.elim_inl, Sum.elim_inr, sJ_WS hM, sE1, sE2, sE3, Option.bind_some, reduceIte, if_true, if_false]) (m_undo_1 (S := WS S x W R) (M := M) (A := A) (F := F) (H := H) (O := O) hm)
  | succ nh =>
    obtain ⟨W', c1, c2, c3, c4⟩ := c_undo (S := MS S M A F H O) (x := x) h ok
    obtain ⟨A', F', m1, m2, m3, m4⟩ := m_undo (S := WS S x W' R) (M := M) (H := H) (O := vp_updL O 0 (Int32.toInt64 (oI nh))) hm ok
    exact row_ok hM c2 c3 (TxW_T hT c4) m3 (TxM_M hX m4) m2 (by simp only [f_L_undo, MS_WS hM, o_5, c1, Sum.elim_inl, Sum.elim_inr, sJ_WS hM, sE1, sE2, sE3, Option.bind_some, reduceIte, if_true, if_false]) m1
theorem st_block {x M : Nat} {T : St} (hI : Iv x M T) (a1 a2 : Int32) : Row (fun T => f_L_block T x a1 a2 (M + 6)) (fun T => f_X7_block T M a1 a2) x M T := by
  obtain ⟨S, W, R, A, F, H, O, C, nh, Hs, len, t, rfl, hM, h, ok, hT, hm, hX⟩ := hI
  have h8 := ok.1.1
  rcases in_out a1 (cN C) (by omega) with ⟨j, hj, rfl⟩ | ha
  · rcases in_rng a2 0 11 (by omega) (by omega) with ⟨i, _, hi, rfl⟩ | hn
    · skip
      have c1 := c_block (S := MS S M A F H O) (x := x) (W := W) (R := R) h ok hj hi
      obtain ⟨A', F', m1, m2, m3, m4⟩ := m_block (S := WS S x W R) (M := M) (H := H) (O := vp_updL O 0 (Int32.toInt64 (pr C j i))) hm ok hj hi
      exact row_ok hM h ok hT m3 (TxM_M hX m4) m2 (by simp only [f_L_block, MS_WS hM, o_5, c1, Sum.elim_inl, Sum.elim_inr, sJ_WS hM, sE1, sE2, sE3, Option.bind_some, reduceIte, if_true, if_false]) m1
    · skip
      have c1 := c_block_2 (S := MS S M A F H O) (x := x) (W := W) (R := R) h ok hj hn
      exact row_err hM h ok hT hm hX (k := 2) (by decide) (by simp only [f_L_block, MS_WS hM, o_5, c1, Sum.elim_inl, Sum.elim_inr, sJ_WS hM, sE1, sE2, sE3, Option.bind_some, reduceIte, if_true, if_false]) (m_block_2 (S := WS S x W R) (M := M) (A := A) (F := F) (H := H) (O := O) hm ok hj hn)
  · skip
    have c1 := c_block_1 (S := MS S M A F H O) (x := x) (W := W) (R := R) h ok ha a2
    exact row_err hM h ok hT hm hX (k := 1) (by decide) (by simp only [f_L_block, MS_WS hM, o_5, c1, Sum.elim_inl, Sum.elim_inr, sJ_WS hM, sE1, sE2, sE3, Option.bind_some, reduceIte, if_true, if_false]) (m_block_1 (S := WS S x W R) (M := M) (A := A) (F := F) (H := H) (O := O) hm ok ha a2)
theorem st_cost {x M : Nat} {T : St} (hI : Iv x M T) (a1 a2 : Int32) : Row (fun T => f_L_cost T x a1 a2 (M + 6)) (fun T => f_X7_cost T M a1 a2) x M T := by
  obtain ⟨S, W, R, A, F, H, O, C, nh, Hs, len, t, rfl, hM, h, ok, hT, hm, hX⟩ := hI
  have h8 := ok.1.1
  rcases in_out a1 (cN C) (by omega) with ⟨j, hj, rfl⟩ | ha
  · rcases in_rng a2 0 5 (by omega) (by omega) with ⟨i, _, hi, rfl⟩ | hn
    · skip
      have c1 := c_cost (S := MS S M A F H O) (x := x) (W := W) (R := R) h ok hj hi
      obtain ⟨A', F', m1, m2, m3, m4⟩ := m_cost (S := WS S x W R) (M := M) (H := H) (O := vp_updL O 0 (Int32.toInt64 (oI (bt (bG (cB C j)) (bN (cB C j)) i)))) hm ok hj hi
      exact row_ok hM h ok hT m3 (TxM_M hX m4) m2 (by simp only [f_L_cost, MS_WS hM, o_5, c1, Sum.elim_inl, Sum.elim_inr, sJ_WS hM, sE1, sE2, sE3, Option.bind_some, reduceIte, if_true, if_false]) m1
    · skip
      have c1 := c_cost_2 (S := MS S M A F H O) (x := x) (W := W) (R := R) h ok hj hn
      exact row_err hM h ok hT hm hX (k := 2) (by decide) (by simp only [f_L_cost, MS_WS hM, o_5, c1, Sum.elim_inl, Sum.elim_inr, sJ_WS hM, sE1, sE2, sE3, Option.bind_some, reduceIte, if_true, if_false]) (m_cost_2 (S := WS S x W R) (M := M) (A := A) (F := F) (H := H) (O := O) hm ok hj hn)
  · skip
    have c1 := c_cost_1 (S := MS S M A F H O) (x := x) (W := W) (R := R) h ok ha a2
    exact row_err hM h ok hT hm hX (k := 1) (by decide) (by simp only [f_L_cost, MS_WS hM, o_5, c1, Sum.elim_inl, Sum.elim_inr, sJ_WS hM, sE1, sE2, sE3, Option.bind_some, reduceIte, if_true, if_false]) (m_cost_1 (S := WS S x W R) (M := M) (A := A) (F := F) (H := H) (O := O) hm ok ha a2)
theorem st_regretIn {x M : Nat} {T : St} (hI : Iv x M T) (a1 a2 : Int32) : Row (fun T => f_L_regretIn T x a1 a2 (M + 6)) (fun T => f_X7_regretIn T M a1 a2) x M T := by
  obtain ⟨S, W, R, A, F, H, O, C, nh, Hs, len, t, rfl, hM, h, ok, hT, hm, hX⟩ := hI
  have h8 := ok.1.1
  rcases in_out a1 (cN C) (by omega) with ⟨j, hj, rfl⟩ | ha
  · rcases in_rng a2 0 200 (by omega) (by omega) with ⟨i, _, hi, rfl⟩ | hn
    · skip
      have c1 := c_regretIn (S := MS S M A F H O) (x := x) (W := W) (R := R) h ok hj hi
      obtain ⟨A', F', m1, m2, m3, m4⟩ := m_regretIn (S := WS S x W R) (M := M) (H := H) (O := vp_updL O 0 (Int32.toInt64 (regB C (cB C j) i))) hm ok hj hi
      exact row_ok hM h ok hT m3 (TxM_M hX m4) m2 (by simp only [f_L_regretIn, MS_WS hM, o_5, c1, Sum.elim_inl, Sum.elim_inr, sJ_WS hM, sE1, sE2, sE3, Option.bind_some, reduceIte, if_true, if_false]) m1
    · skip
      have c1 := c_regretIn_2 (S := MS S M A F H O) (x := x) (W := W) (R := R) h ok hj hn
      exact row_err hM h ok hT hm hX (k := 2) (by decide) (by simp only [f_L_regretIn, MS_WS hM, o_5, c1, Sum.elim_inl, Sum.elim_inr, sJ_WS hM, sE1, sE2, sE3, Option.bind_some, reduceIte, if_true, if_false]) (m_regretIn_2 (S := WS S x W R) (M := M) (A := A) (F := F) (H := H) (O := O) hm ok hj hn)
  · skip
    have c1 := c_regretIn_1 (S := MS S M A F H O) (x := x) (W := W) (R := R) h ok ha a2
    exact row_err hM h ok hT hm hX (k := 1) (by decide) (by simp only [f_L_regretIn, MS_WS hM, o_5, c1, Sum.elim_inl, Sum.elim_inr, sJ_WS hM, sE1, sE2, sE3, Option.bind_some, reduceIte, if_true, if_false]) (m_regretIn_1 (S := WS S x W R) (M := M) (A := A) (F := F) (H := H) (O := O) hm ok ha a2)
theorem st_value {x M : Nat} {T : St} (hI : Iv x M T) (a1 a2 : Int32) : Row (fun T => f_L_value T x a1 a2 (M + 6)) (fun T => f_X7_value T M a1 a2) x M T := by
  obtain ⟨S, W, R, A, F, H, O, C, nh, Hs, len, t, rfl, hM, h, ok, hT, hm, hX⟩ := hI
  have h8 := ok.1.1
  rcases in_out a1 (cN C) (by omega) with ⟨j, hj, rfl⟩ | ha
  · skip
    have hb24 := (ok.1.2.2.2.2 j hj).2.1
    have hb1 := (ok.1.2.2.2.2 j hj).1
    rcases in_out a2 (bN (cB C j)) (by omega) with ⟨p, hp, rfl⟩ | hp
    · skip
      have c1 := c_value (S := MS S M A F H O) (x := x) (W := W) (R := R) h ok hj hp
      obtain ⟨A', F', m1, m2, m3, m4⟩ := m_value (S := WS S x W R) (M := M) (H := H) (O := vp_updL O 0 (Int32.toInt64 (oI (bG (cB C j) p)))) hm ok hj hp
      exact row_ok hM h ok hT m3 (TxM_M hX m4) m2 (by simp only [f_L_value, MS_WS hM, o_5, c1, Sum.elim_inl, Sum.elim_inr, sJ_WS hM, sE1, sE2, sE3, Option.bind_some, reduceIte, if_true, if_false]) m1
    · skip
      have c1 := c_value_1 (S := MS S M A F H O) (x := x) (W := W) (R := R) h ok (.inr ⟨j, hj, rfl, hp⟩)
      exact row_err hM h ok hT hm hX (k := 1) (by decide) (by simp only [f_L_value, MS_WS hM, o_5, c1, Sum.elim_inl, Sum.elim_inr, sJ_WS hM, sE1, sE2, sE3, Option.bind_some, reduceIte, if_true, if_false]) (m_value_1 (S := WS S x W R) (M := M) (A := A) (F := F) (H := H) (O := O) hm ok (.inr ⟨j, hj, rfl, hp⟩))
  · skip
    have c1 := c_value_1 (S := MS S M A F H O) (x := x) (W := W) (R := R) h ok (p := a2) (.inl ha)
    exact row_err hM h ok hT hm hX (k := 1) (by decide) (by simp only [f_L_value, MS_WS hM, o_5, c1, Sum.elim_inl, Sum.elim_inr, sJ_WS hM, sE1, sE2, sE3, Option.bind_some, reduceIte, if_true, if_false]) (m_value_1 (S := WS S x W R) (M := M) (A := A) (F := F) (H := H) (O := O) hm ok (p := a2) (.inl ha))
theorem st_count {x M : Nat} {T : St} (hI : Iv x M T) (a1 : Int32) : Row (fun T => f_L_count T x a1 (M + 6)) (fun T => f_X7_count T M a1) x M T := by
  obtain ⟨S, W, R, A, F, H, O, C, nh, Hs, len, t, rfl, hM, h, ok, hT, hm, hX⟩ := hI
  have h8 := ok.1.1
  rcases in_rng a1 0 15 (by omega) (by omega) with ⟨i, _, hi, rfl⟩ | hn
  · skip
    have c1 := c_count (S := MS S M A F H O) (x := x) (W := W) (R := R) h ok hi
    obtain ⟨A', F', m1, m2, m3, m4⟩ := m_count (S := WS S x W R) (M := M) (H := H) (O := vp_updL O 0 (Int32.toInt64 (ct C nh i))) hm ok hi
    exact row_ok hM h ok hT m3 (TxM_M hX m4) m2 (by simp only [f_L_count, MS_WS hM, o_5, c1, Sum.elim_inl, Sum.elim_inr, sJ_WS hM, sE1, sE2, sE3, Option.bind_some, reduceIte, if_true, if_false]) m1
  · skip
    have c1 := c_count_1 (S := MS S M A F H O) (x := x) (W := W) (R := R) h ok hn
    exact row_err hM h ok hT hm hX (k := 1) (by decide) (by simp only [f_L_count, MS_WS hM, o_5, c1, Sum.elim_inl, Sum.elim_inr, sJ_WS hM, sE1, sE2, sE3, Option.bind_some, reduceIte, if_true, if_false]) (m_count_1 (S := WS S x W R) (M := M) (A := A) (F := F) (H := H) (O := O) hm ok hn)
theorem st_setting {x M : Nat} {T : St} (hI : Iv x M T) (a1 : Int32) : Row (fun T => f_L_setting T x a1 (M + 6)) (fun T => f_X7_setting T M a1) x M T := by
  obtain ⟨S, W, R, A, F, H, O, C, nh, Hs, len, t, rfl, hM, h, ok, hT, hm, hX⟩ := hI
  have h8 := ok.1.1
  rcases in_rng a1 0 1 (by omega) (by omega) with ⟨i, _, hi, rfl⟩ | hn
  · skip
    have c1 := c_setting (S := MS S M A F H O) (x := x) (W := W) (R := R) h ok hi
    obtain ⟨A', F', m1, m2, m3, m4⟩ := m_setting (S := WS S x W R) (M := M) (H := H) (O := vp_updL O 0 (Int32.toInt64 (oI (getC C i)))) hm ok hi
    exact row_ok hM h ok hT m3 (TxM_M hX m4) m2 (by simp only [f_L_setting, MS_WS hM, o_5, c1, Sum.elim_inl, Sum.elim_inr, sJ_WS hM, sE1, sE2, sE3, Option.bind_some, reduceIte, if_true, if_false]) m1
  · skip
    have c1 := c_setting_1 (S := MS S M A F H O) (x := x) (W := W) (R := R) h ok hn
    exact row_err hM h ok hT hm hX (k := 1) (by decide) (by simp only [f_L_setting, MS_WS hM, o_5, c1, Sum.elim_inl, Sum.elim_inr, sJ_WS hM, sE1, sE2, sE3, Option.bind_some, reduceIte, if_true, if_false]) (m_setting_1 (S := WS S x W R) (M := M) (A := A) (F := F) (H := H) (O := O) hm ok hn)
theorem st_work {x M : Nat} {T : St} (hI : Iv x M T) (a1 a2 a3 a4 : Int32) : Row (fun T => f_L_work T x a1 a2 a3 a4 (M + 6)) (fun T => f_X7_work T M a1 a2 a3 a4) x M T := by
  obtain ⟨S, W, R, A, F, H, O, C, nh, Hs, len, t, rfl, hM, h, ok, hT, hm, hX⟩ := hI
  have h8 := ok.1.1
  rcases in_out a1 (cN C) (by omega) with ⟨j, hj, rfl⟩ | ha
  · rcases in_rng a2 0 5 (by omega) (by omega) with ⟨c, _, hc, rfl⟩ | hn
    · rcases in_rng a3 0 2 (by omega) (by omega) with ⟨q, _, hq, rfl⟩ | hn
      · rcases in_rng a4 0 255 (by omega) (by omega) with ⟨v, _, hv, rfl⟩ | hn
        · skip
          have c1 := c_work (S := MS S M A F H O) (x := x) (W := W) (R := R) h ok hj hc hq hv
          obtain ⟨A', F', m1, m2, m3, m4⟩ := m_work (S := WS S x W R) (M := M) (H := H) (O := vp_updL O 0 (Int32.toInt64 (oI (ef (bG (cB C j)) (bN (cB C j)) c q v)))) hm ok hj hc hq hv
          exact row_ok hM h ok hT m3 (TxM_M hX m4) m2 (by simp only [f_L_work, MS_WS hM, o_5, c1, Sum.elim_inl, Sum.elim_inr, sJ_WS hM, sE1, sE2, sE3, Option.bind_some, reduceIte, if_true, if_false]) m1
        · skip
          have c1 := c_work_2 (S := MS S M A F H O) (x := x) (W := W) (R := R) h ok hj (.inr ⟨⟨c, hc, rfl⟩, .inr ⟨⟨q, hq, rfl⟩, hn⟩⟩)
          exact row_err hM h ok hT hm hX (k := 2) (by decide) (by simp only [f_L_work, MS_WS hM, o_5, c1, Sum.elim_inl, Sum.elim_inr, sJ_WS hM, sE1, sE2, sE3, Option.bind_some, reduceIte, if_true, if_false]) (m_work_2 (S := WS S x W R) (M := M) (A := A) (F := F) (H := H) (O := O) hm ok hj (.inr ⟨⟨c, hc, rfl⟩, .inr ⟨⟨q, hq, rfl⟩, hn⟩⟩))
      · skip
        have c1 := c_work_2 (S := MS S M A F H O) (x := x) (W := W) (R := R) h ok hj (v := a4) (.inr ⟨⟨c, hc, rfl⟩, .inl hn⟩)
        exact row_err hM h ok hT hm hX (k := 2) (by decide) (by simp only [f_L_work, MS_WS hM, o_5, c1, Sum.elim_inl, Sum.elim_inr, sJ_WS hM, sE1, sE2, sE3, Option.bind_some, reduceIte, if_true, if_false]) (m_work_2 (S := WS S x W R) (M := M) (A := A) (F := F) (H := H) (O := O) hm ok hj (v := a4) (.inr ⟨⟨c, hc, rfl⟩, .inl hn⟩))
    · skip
      have c1 := c_work_2 (S := MS S M A F H O) (x := x) (W := W) (R := R) h ok hj (q := a3) (v := a4) (.inl hn)
      exact row_err hM h ok hT hm hX (k := 2) (by decide) (by simp only [f_L_work, MS_WS hM, o_5, c1, Sum.elim_inl, Sum.elim_inr, sJ_WS hM, sE1, sE2, sE3, Option.bind_some, reduceIte, if_true, if_false]) (m_work_2 (S := WS S x W R) (M := M) (A := A) (F := F) (H := H) (O := O) hm ok hj (q := a3) (v := a4) (.inl hn))
  · skip
    have c1 := c_work_1 (S := MS S M A F H O) (x := x) (W := W) (R := R) h ok ha a2 a3 a4
    exact row_err hM h ok hT hm hX (k := 1) (by decide) (by simp only [f_L_work, MS_WS hM, o_5, c1, Sum.elim_inl, Sum.elim_inr, sJ_WS hM, sE1, sE2, sE3, Option.bind_some, reduceIte, if_true, if_false]) (m_work_1 (S := WS S x W R) (M := M) (A := A) (F := F) (H := H) (O := O) hm ok ha a2 a3 a4)
theorem st_gain {x M : Nat} {T : St} (hI : Iv x M T) (a1 : Int32) : Row (fun T => f_L_gain T x a1 (M + 6)) (fun T => f_X7_gain T M a1) x M T := by
  obtain ⟨S, W, R, A, F, H, O, C, nh, Hs, len, t, rfl, hM, h, ok, hT, hm, hX⟩ := hI
  have h8 := ok.1.1
  rcases in_out a1 (cN C) (by omega) with ⟨j, hj, rfl⟩ | ha
  · skip
    have c1 := c_gain (S := MS S M A F H O) (x := x) (W := W) (R := R) h ok hj
    obtain ⟨A', F', m1, m2, m3, m4⟩ := m_gain (S := WS S x W R) (M := M) (H := H) (O := vp_updL O 0 (Int32.toInt64 (gainB C (cB C j)))) hm ok hj
    exact row_ok hM h ok hT m3 (TxM_M hX m4) m2 (by simp only [f_L_gain, MS_WS hM, o_5, c1, Sum.elim_inl, Sum.elim_inr, sJ_WS hM, sE1, sE2, sE3, Option.bind_some, reduceIte, if_true, if_false]) m1
  · skip
    have c1 := c_gain_1 (S := MS S M A F H O) (x := x) (W := W) (R := R) h ok ha
    exact row_err hM h ok hT hm hX (k := 1) (by decide) (by simp only [f_L_gain, MS_WS hM, o_5, c1, Sum.elim_inl, Sum.elim_inr, sJ_WS hM, sE1, sE2, sE3, Option.bind_some, reduceIte, if_true, if_false]) (m_gain_1 (S := WS S x W R) (M := M) (A := A) (F := F) (H := H) (O := O) hm ok ha)
theorem st_mate {x M : Nat} {T : St} (hI : Iv x M T) (a1 : Int32) : Row (fun T => f_L_mate T x a1 (M + 6)) (fun T => f_X7_mate T M a1) x M T := by
  obtain ⟨S, W, R, A, F, H, O, C, nh, Hs, len, t, rfl, hM, h, ok, hT, hm, hX⟩ := hI
  have h8 := ok.1.1
  rcases in_out a1 (cN C) (by omega) with ⟨j, hj, rfl⟩ | ha
  · skip
    obtain ⟨W', c1, c2, c4⟩ := c_mate (S := MS S M A F H O) (x := x) h ok hj
    obtain ⟨A', F', m1, m2, m3, m4⟩ := m_mate (S := WS S x W' R) (M := M) (H := H) (O := vp_updL O 0 (Int32.toInt64 ((mt C j (cN C)).1))) hm ok hj
    exact row_ok hM c2 ok (TxW_T hT c4) m3 (TxM_M hX m4) m2 (by simp only [f_L_mate, MS_WS hM, o_5, c1, Sum.elim_inl, Sum.elim_inr, sJ_WS hM, sE1, sE2, sE3, Option.bind_some, reduceIte, if_true, if_false]) m1
  · skip
    have c1 := c_mate_1 (S := MS S M A F H O) (x := x) (W := W) (R := R) h ok ha
    exact row_err hM h ok hT hm hX (k := 1) (by decide) (by simp only [f_L_mate, MS_WS hM, o_5, c1, Sum.elim_inl, Sum.elim_inr, sJ_WS hM, sE1, sE2, sE3, Option.bind_some, reduceIte, if_true, if_false]) (m_mate_1 (S := WS S x W R) (M := M) (A := A) (F := F) (H := H) (O := O) hm ok ha)
theorem st_cheapest {x M : Nat} {T : St} (hI : Iv x M T) (a1 a2 : Int32) : Row (fun T => f_L_cheapest T x a1 a2 (M + 6)) (fun T => f_X7_cheapest T M a1 a2) x M T := by
  obtain ⟨S, W, R, A, F, H, O, C, nh, Hs, len, t, rfl, hM, h, ok, hT, hm, hX⟩ := hI
  have h8 := ok.1.1
  rcases in_out a1 (cN C) (by omega) with ⟨j, hj, rfl⟩ | ha
  · skip
    have hb24 := (ok.1.2.2.2.2 j hj).2.1
    have hb1 := (ok.1.2.2.2.2 j hj).1
    rcases in_out a2 (bN (cB C j)) (by omega) with ⟨p, hp, rfl⟩ | hp
    · skip
      obtain ⟨W', c1, c2, c4⟩ := c_cheapest (S := MS S M A F H O) (x := x) h ok hj hp
      obtain ⟨A', F', m1, m2, m3, m4⟩ := m_cheapest (S := WS S x W' R) (M := M) (H := H) (O := vp_updL O 0 (Int32.toInt64 (oI (chF (cB C j) p 255)))) hm ok hj hp
      exact row_ok hM c2 ok (TxW_T hT c4) m3 (TxM_M hX m4) m2 (by simp only [f_L_cheapest, MS_WS hM, o_5, c1, Sum.elim_inl, Sum.elim_inr, sJ_WS hM, sE1, sE2, sE3, Option.bind_some, reduceIte, if_true, if_false]) m1
    · skip
      have c1 := c_cheapest_1 (S := MS S M A F H O) (x := x) (W := W) (R := R) h ok (.inr ⟨j, hj, rfl, hp⟩)
      exact row_err hM h ok hT hm hX (k := 1) (by decide) (by simp only [f_L_cheapest, MS_WS hM, o_5, c1, Sum.elim_inl, Sum.elim_inr, sJ_WS hM, sE1, sE2, sE3, Option.bind_some, reduceIte, if_true, if_false]) (m_cheapest_1 (S := WS S x W R) (M := M) (A := A) (F := F) (H := H) (O := O) hm ok (.inr ⟨j, hj, rfl, hp⟩))
  · skip
    have c1 := c_cheapest_1 (S := MS S M A F H O) (x := x) (W := W) (R := R) h ok (p := a2) (.inl ha)
    exact row_err hM h ok hT hm hX (k := 1) (by decide) (by simp only [f_L_cheapest, MS_WS hM, o_5, c1, Sum.elim_inl, Sum.elim_inr, sJ_WS hM, sE1, sE2, sE3, Option.bind_some, reduceIte, if_true, if_false]) (m_cheapest_1 (S := WS S x W R) (M := M) (A := A) (F := F) (H := H) (O := O) hm ok (p := a2) (.inl ha))
