/-! THE TEXT: append, clear, first error, the class's side -/
theorem x5_full {S : St} {x : Nat} {W : Nat → Nat → Int32} {R : Nat → Nat → Nat} {len : Nat} {t : Nat → Nat} (hT : TxW W len t) : f_X5_isFull (WS S x W R) (x + 185) = some (if len < 60 then 0 else 1) := by
  have h60 := hT.2.1
  simp (disch := omega) only [f_X5_isFull, g_4_1 kd_185, hT.1, r_4 kd_185, n_14 kd_186, oI_lt, Option.bind_some, reduceIte, if_true, if_false]
  by_cases c : len < 60
  · simp only [c, zz0, Option.bind_some, reduceIte, if_true, if_false]
  · simp only [c, zz1, Option.bind_some, reduceIte, if_true, if_false]
theorem c_app_1 {S : St} {x : Nat} {W : Nat → Nat → Int32} {R : Nat → Nat → Nat} {v : Int32} (hv : v < oI 33 ∨ oI 126 < v) : f_X6_append (WS S x W R) x v = some (.inl "java/lang/IllegalArgumentException", WS S x W R) := by
  simp only [f_X6_append, show (33 : Int32) = oI 33 from rfl, show (126 : Int32) = oI 126 from rfl, rq_out hv, Sum.elim_inl, Option.bind_some, reduceIte, if_true, if_false]
theorem c_app_2 {S : St} {x : Nat} {W : Nat → Nat → Int32} {R : Nat → Nat → Nat} {len v : Nat} {t : Nat → Nat} (hT : TxW W len t) (h1 : 33 ≤ v) (h2 : v ≤ 126) (hn : ¬ len < 60) : f_X6_append (WS S x W R) x (oI v) = some (.inl "java/lang/IllegalStateException", WS S x W R) := by
  simp only [f_X6_append, show (33 : Int32) = oI 33 from rfl, show (126 : Int32) = oI 126 from rfl, rq_in h1 h2 (show 126 < 2147483648 by omega), Sum.elim_inr, r_5_2, o_4 kd_185, x5_full hT, hn, show ¬ (1 : Int32) = 0 by decide, Option.bind_some, reduceIte, if_true, if_false]
theorem c_app {S : St} {x : Nat} {W : Nat → Nat → Int32} {R : Nat → Nat → Nat} {A : Cn} {nh : Nat} {Hs : Nat → Cn} (h : ClsW W R A nh Hs) (ok : okS A nh Hs) {len v : Nat} {t : Nat → Nat} (hT : TxW W len t) (h1 : 33 ≤ v) (h2 : v ≤ 126) (hn : len < 60) :
    ∃ W', f_X6_append (WS S x W R) x (oI v) = some (.inr (oI (len + 1)), WS S x W' R) ∧ ClsW W' R A nh Hs ∧ TxW W' (len + 1) (fun i => if i = len then v else t i) := by
  have f : ∀ o, o < 185 → up2 (up2 W 186 len (oI v)) 185 1 (oI (len + 1)) o = W o := fun o ho => by rw [up2_row _ _ (by omega), up2_row _ _ (by omega)]
  refine ⟨up2 (up2 W 186 len (oI v)) 185 1 (oI (len + 1)), ?_, cls_fr h ok f, up2_eq _ _ _ _, by omega, fun i hi => ?_⟩
  · have e1 : up2 W 186 len (oI v) 185 1 = oI len := by rw [up2_row _ _ (by decide)]; exact hT.1
    simp only [f_X6_append, show (33 : Int32) = oI 33 from rfl, show (126 : Int32) = oI 126 from rfl, rq_in h1 h2 (show 126 < 2147483648 by omega), Sum.elim_inr, r_5_2, o_4 kd_185, x5_full hT, hn, f_X5_push, r_4 kd_185, g_4_1 kd_185, hT.1, s_14 kd_186 hn, e1, l1, oI_add, p_4_1 kd_185, f_X5_length, up2_eq, Option.bind_some, reduceIte, if_true, if_false]
  · rw [up2_row _ _ (by decide)]
    dsimp only
    by_cases c : i = len
    · subst c; rw [up2_eq, if_pos rfl]; exact ⟨rfl, h2⟩
    · rw [up2_ne _ _ (by omega), if_neg c]; exact hT.2.2 i (by omega)
theorem c_clear {S : St} {x : Nat} {W : Nat → Nat → Int32} {R : Nat → Nat → Nat} {A : Cn} {nh : Nat} {Hs : Nat → Cn} (h : ClsW W R A nh Hs) (ok : okS A nh Hs) {len : Nat} {t : Nat → Nat} (hT : TxW W len t) :
    ∃ W', f_X6_clearBuffer (WS S x W R) x = some (oI len, WS S x W' R) ∧ ClsW W' R A nh Hs ∧ TxW W' 0 t := by
  refine ⟨up2 W 185 1 (oI 0), ?_, cls_fr h ok (fun o ho => up2_row _ _ (by omega)), up2_eq _ _ _ _, by omega, fun i hi => by omega⟩
  simp only [f_X6_clearBuffer, r_5_2, o_4 kd_185, f_X5_length, g_4_1 kd_185, hT.1, f_X5_empty, p_4_1 kd_185, l0, Option.bind_some, reduceIte, if_true, if_false]
theorem c_ferr {S : St} {x : Nat} {W : Nat → Nat → Int32} {R : Nat → Nat → Nat} {A : Cn} {nh : Nat} {Hs : Nat → Cn} (h : ClsW W R A nh Hs) (ok : okS A nh Hs) {len : Nat} {t : Nat → Nat} (hT : TxW W len t) :
    ∃ W', f_X6_firstError (WS S x W R) x = some (oI (fE t len), WS S x W' R) ∧ ClsW W' R A nh Hs ∧ TxW W' len t := by
  obtain ⟨W', e1, e2⟩ := x5_err (S := S) (x := x) (R := R) hT
  refine ⟨W', ?_, cls_fr h ok (fun o ho => e2.1 o (by omega)), TxW_X hT e2⟩
  simp only [f_X6_firstError, r_5_2, o_4 kd_185, e1, Option.bind_some, reduceIte, if_true, if_false]
