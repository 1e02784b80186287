/-! THE TEXT: the class's operations -/
theorem TxW_T {W W' : Nat → Nat → Int32} {len : Nat} {t : Nat → Nat} (h : TxW W len t) (f : FrT W W') : TxW W' len t := by
  unfold TxW
  rw [f.1, f.2]
  exact h
theorem cls_Y {W W' : Nat → Nat → Int32} {R : Nat → Nat → Nat} {A : Cn} {nh : Nat} {Hs : Nat → Cn} (h : ClsW W R A nh Hs) (ok : okS A nh Hs) (f : FrY W W') : ClsW W' R A nh Hs := cls_fr h ok (fun o ho => f.1 o (by omega) (by omega) (by omega))
theorem c_read_1 {S : St} {x : Nat} {W : Nat → Nat → Int32} {R : Nat → Nat → Nat} {A : Cn} {nh : Nat} {Hs : Nat → Cn} (h : ClsW W R A nh Hs) (ok : okS A nh Hs) {len : Nat} {t : Nat → Nat} (hT : TxW W len t) (hs : ¬ okSp t len) :
    ∃ W', f_X6_read (WS S x W R) x = some (.inl "java/lang/IllegalArgumentException", WS S x W' R) ∧ ClsW W' R A nh Hs ∧ TxW W' len t := by
  obtain ⟨W', b, e1, e2, e3⟩ := x5_spell (S := S) (x := x) (R := R) hT
  have hb : b = 0 := by rcases e3 with e | e; exact absurd e.1 hs; exact e.2
  subst hb
  refine ⟨W', ?_, cls_Y h ok e2, TxW_Y hT e2⟩
  simp only [f_X6_read, r_5_2, r_5_3, o_4 kd_185, e1, Option.bind_some, reduceIte, if_true, if_false]
theorem c_read_2 {S : St} {x : Nat} {W : Nat → Nat → Int32} {R : Nat → Nat → Nat} {A : Cn} {nh : Nat} {Hs : Nat → Cn} (h : ClsW W R A nh Hs) (ok : okS A nh Hs) {len : Nat} {t : Nat → Nat} (hT : TxW W len t) (hs : okSp t len) (hn : ¬ cN A < 8) :
    ∃ W', f_X6_read (WS S x W R) x = some (.inl "java/lang/IllegalStateException", WS S x W' R) ∧ ClsW W' R A nh Hs ∧ TxW W' len t := by
  obtain ⟨W', b, e1, e2, e3⟩ := x5_spell (S := S) (x := x) (R := R) hT
  have hb : b = 1 := by rcases e3 with e | e; exact e.2.1; exact absurd hs e.1
  subst hb
  have hc := cls_Y h ok e2
  refine ⟨W', ?_, hc, TxW_Y hT e2⟩
  simp only [f_X6_read, r_5_2, r_5_3, o_4 kd_185, e1, show ¬ (1 : Int32) = 0 by decide, o_5, x6_room hc ok, hn, Sum.elim_inl, Option.bind_some, reduceIte, if_true, if_false]
theorem c_read {S : St} {x : Nat} {W : Nat → Nat → Int32} {R : Nat → Nat → Nat} {A : Cn} {nh : Nat} {Hs : Nat → Cn} (h : ClsW W R A nh Hs) (ok : okS A nh Hs) {len : Nat} {t : Nat → Nat} (hT : TxW W len t) (hs : okSp t len) (hn : cN A < 8) :
    ∃ W' R', f_X6_read (WS S x W R) x = some (.inr (oI (cN A)), WS S x W' R') ∧ ClsW W' R' (openC A (finN t len) (finG t len)) (svN nh) (svH A nh Hs) ∧ okS (openC A (finN t len) (finG t len)) (svN nh) (svH A nh Hs) ∧ TxW W' 0 t := by
  obtain ⟨W1, b, e1, e2, e3⟩ := x5_spell (S := S) (x := x) (R := R) hT
  have hb : b = 1 ∧ RwW W1 187 (finN t len) (finG t len) := by rcases e3 with e | e; exact e.2; exact absurd hs e.1
  obtain ⟨rfl, hw⟩ := hb
  have hc := cls_Y h ok e2
  obtain ⟨W2, R2, q1, q2, q3, q4⟩ := x6_save (S := S) (x := x) hc ok
  have fz : ∀ o, o ≠ 185 → up2 W2 185 1 (oI 0) o = W2 o := fun o ho => up2_row _ _ ho
  have hw2 : RwW (up2 W2 185 1 (oI 0)) 187 (finN t len) (finG t len) := RwW_fr hw (by rw [fz 187 (by decide)]; exact (q4 187 (by omega)).1) (by rw [fz 188 (by decide)]; exact (q4 188 (by omega)).1)
  have hc2 := cls_fr q2 q3 (W' := up2 W2 185 1 (oI 0)) (fun o ho => fz o (by omega))
  obtain ⟨W3, s1, s2, s3, s4⟩ := x6_open (S := S) (x := x) hc2 q3 hn hw2 (finN_1 hs.2.1)
  have hz : TxW (up2 W2 185 1 (oI 0)) 0 t := ⟨up2_eq _ _ _ _, by omega, fun i hi => by omega⟩
  refine ⟨W3, R2, ?_, s2, s3, TxW_T hz s4⟩
  simp only [f_X6_read, r_5_0, r_5_1, r_5_2, r_5_3, o_4 kd_185, e1, show ¬ (1 : Int32) = 0 by decide, o_5, x6_room hc ok, hn, Sum.elim_inr, o_2 kd_27, q1, f_X5_empty, p_4_1 kd_185, o_1 kd_one, l0, s1, Option.bind_some, reduceIte, if_true, if_false]
  rw [if_neg (by decide)]
