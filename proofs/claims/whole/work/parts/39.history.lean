/-! HISTORY -/
def HisOk (R : Nat → Nat → Nat) : Prop := (∀ j, j < 6 → ∃ t, t < 6 ∧ R 28 j = 29 + 26 * t) ∧ ∀ i j, i < 6 → j < 6 → R 28 i = R 28 j → i = j
def ClsW (W : Nat → Nat → Int32) (R : Nat → Nat → Nat) (A : Cn) (nh : Nat) (Hs : Nat → Cn) : Prop :=
  ColW W R 1 A ∧ (∀ p, kd p = 1 → ColOk R p) ∧ HisOk R ∧ W 27 1 = oI nh ∧ ∀ i, i < nh → ColW W R (R 28 i) (Hs i)
def okS (A : Cn) (nh : Nat) (Hs : Nat → Cn) : Prop := okC A ∧ nh ≤ 6 ∧ ∀ i, i < nh → okC (Hs i)
def FrH (W W' : Nat → Nat → Int32) (R R' : Nat → Nat → Nat) : Prop := ∀ o, (o < 27 ∨ 185 ≤ o) → W' o = W o ∧ R' o = R o
theorem kd_one : kd 1 = 1 := by decide
theorem kd_27 : kd 27 = 2 := by decide
theorem kd_28 : kd 28 = 12 := by decide
theorem kd_his {R : Nat → Nat → Nat} (h : HisOk R) {j : Nat} (hj : j < 6) : kd (R 28 j) = 1 := by
  obtain ⟨t, ht, e⟩ := h.1 j hj
  rw [e]
  exact (show ∀ t, t < 6 → kd (29 + 26 * t) = 1 by decide) t ht
theorem his_in {R : Nat → Nat → Nat} (h : HisOk R) {j : Nat} (hj : j < 6) : 29 ≤ R 28 j ∧ R 28 j + 26 ≤ 185 := by
  obtain ⟨t, ht, e⟩ := h.1 j hj
  rw [e]; omega
theorem FrH_col {W W' : Nat → Nat → Int32} {R R' : Nat → Nat → Nat} (h : HisOk R) {j : Nat} (hj : j < 6) (f : FrC W W' R R' (R 28 j)) : FrH W W' R R' := by
  have := his_in h hj
  exact fun o c => f o (by omega)
theorem FrH_trans {W W1 W2 : Nat → Nat → Int32} {R R1 R2 : Nat → Nat → Nat} (h : FrH W W1 R R1) (k : FrH W1 W2 R1 R2) : FrH W W2 R R2 := fun o c => ⟨(k o c).1.trans (h o c).1, (k o c).2.trans (h o c).2⟩
def svN (nh : Nat) : Nat := if nh < 6 then nh + 1 else 6
def svH (A : Cn) (nh : Nat) (Hs : Nat → Cn) : Nat → Cn := if nh < 6 then (fun i => if i = nh then A else Hs i) else fun i => if i = 5 then A else Hs (i + 1)
theorem okS_save {A : Cn} {nh : Nat} {Hs : Nat → Cn} (h : okS A nh Hs) : okS A (svN nh) (svH A nh Hs) := by
  obtain ⟨h1, h2, h3⟩ := h
  unfold svN svH
  by_cases c : nh < 6
  · rw [if_pos c, if_pos c]
    refine ⟨h1, by omega, fun i hi => ?_⟩
    dsimp only
    by_cases e : i = nh
    · rw [if_pos e]; exact h1
    · rw [if_neg e]; exact h3 i (by omega)
  · rw [if_neg c, if_neg c]
    refine ⟨h1, by omega, fun i hi => ?_⟩
    dsimp only
    by_cases e : i = 5
    · rw [if_pos e]; exact h1
    · rw [if_neg e]; exact h3 (i + 1) (by omega)
theorem x3_drop_L {S : St} {x : Nat} {W : Nat → Nat → Int32} {R0 : Nat → Nat → Nat} {y : Nat} (hk : ∀ k, k < 6 → kd (R0 28 k) = 1) : ∀ (d fu i : Nat) (R : Nat → Nat → Nat), i + d = 5 → d < fu → (∀ k, R 28 k = if k < i then R0 28 (k + 1) else R0 28 k) → (∀ o, o ≠ 28 → R o = R0 o) →
    ∃ R', f_X3_dropOldest_L9 (x + 27) y fu (WS S x W R) (oI i) = some (WS S x W R') ∧ (∀ k, R' 28 k = if k < 5 then R0 28 (k + 1) else R0 28 k) ∧ (∀ o, o ≠ 28 → R' o = R0 o)
  | d, 0, i, R, e, hf, h1, h2 => by omega
  | 0, fu + 1, i, R, e, hf, h1, h2 => by
    refine ⟨R, ?_, fun k => ?_, h2⟩
    · rw [f_X3_dropOldest_L9]
      simp (disch := omega) only [r_2 kd_27, n_12 kd_28, oI_le, l1, oI_add, show 6 ≤ i + 1 by omega, Option.bind_some, reduceIte, if_true, if_false]
    · rw [h1 k, show i = 5 by omega]
  | d + 1, fu + 1, i, R, e, hf, h1, h2 => by
    have e0 : R 28 (i + 1) = R0 28 (i + 1) := by rw [h1, if_neg (by omega)]
    obtain ⟨R', f1, f2, f3⟩ := x3_drop_L (S := S) (x := x) (W := W) (y := y) hk d fu (i + 1) (up2 R 28 i (R0 28 (i + 1))) (by omega) (by omega) (fun k => by
      by_cases c : k = i
      · subst c; rw [up2_eq, if_pos (by omega)]
      · rw [up2_ne _ _ (by omega), h1 k]
        by_cases c2 : k < i
        · rw [if_pos c2, if_pos (by omega)]
        · rw [if_neg c2, if_neg (by omega)]) (fun o ho => by rw [up2_row _ _ ho]; exact h2 o ho)
    refine ⟨R', ?_, f2, f3⟩
    rw [f_X3_dropOldest_L9]
    simp (disch := omega) only [r_2 kd_27, n_12 kd_28, oI_le, l1, oI_add, show ¬ 6 ≤ i + 1 by omega, a_12 kd_28 (show i + 1 < 6 by omega), e0, s_12 kd_28 (show i < 6 by omega) (hk (i + 1) (by omega)), Option.bind_some, reduceIte, if_true, if_false]
    exact f1
theorem x3_drop {S : St} {x : Nat} {W : Nat → Nat → Int32} {R : Nat → Nat → Nat} (h : HisOk R) :
    ∃ R', f_X3_dropOldest (WS S x W R) (x + 27) = some (WS S x (up2 W 27 1 (oI 5)) R') ∧ (∀ k, k < 6 → R' 28 k = R 28 (if k < 5 then k + 1 else 0)) ∧ (∀ o, o ≠ 28 → R' o = R o) := by
  obtain ⟨R1, e1, e2, e3⟩ := x3_drop_L (S := S) (x := x) (W := W) (R0 := R) (y := x + R 28 0) (fun k hk => kd_his h hk) 5 FU 0 R (by omega) (FU_lt (by omega)) (fun k => by rw [if_neg (by omega)]) (fun _ _ => rfl)
  refine ⟨up2 R1 28 5 (R 28 0), ?_, fun k hk => ?_, fun o ho => by rw [up2_row _ _ ho]; exact e3 o ho⟩
  · simp (disch := omega) only [f_X3_dropOldest, r_2 kd_27, a_12 kd_28 (show 0 < 6 by omega), l0, e1, n_12 kd_28, l1, oI_sub, p_2_1 kd_27, g_2_1 kd_27, up2_eq, show 6 - 1 = 5 by omega, s_12 kd_28 (show 5 < 6 by omega) (kd_his h (show 0 < 6 by omega)), Option.bind_some, reduceIte, if_true, if_false]
  · by_cases c : k = 5
    · subst c; rw [up2_eq, if_neg (by omega)]
    · rw [up2_ne _ _ (by omega), e2 k, if_pos (by omega), if_pos (by omega)]
theorem x3_put {S : St} {x : Nat} {W : Nat → Nat → Int32} {R : Nat → Nat → Nat} {A : Cn} {m : Nat} {Hs : Nat → Cn} (h : ClsW W R A m Hs) (ok : okS A m Hs) (hm : m < 6) :
    ∃ W', f_X2_copyFrom (WS S x W R) (x + R 28 m) (x + 1) = some (WS S x W' R) ∧ ClsW (up2 W' 27 1 (oI (m + 1))) R A (m + 1) (fun i => if i = m then A else Hs i) ∧ FrH W (up2 W' 27 1 (oI (m + 1))) R R ∧ W' 27 1 = oI m := by
  obtain ⟨h1, h2, h3, h4, h5⟩ := h
  have hk := kd_his h3 hm
  have hi := his_in h3 hm
  obtain ⟨W', e1, e2, e3⟩ := x2_copy (S := S) (x := x) (R := R) hk kd_one (by omega) ok.1.1 (h2 _ hk) h1
  have f27 : ∀ o, o ≠ 27 → up2 W' 27 1 (oI (m + 1)) o = W' o := fun o ho => up2_row _ _ ho
  have fH := FrH_col h3 hm e3
  refine ⟨W', e1, ⟨?_, h2, h3, up2_eq _ _ _ _, fun i hi' => ?_⟩, fun o c => ⟨by rw [f27 o (by omega)]; exact (fH o c).1, rfl⟩, by rw [(e3 27 (by omega)).1]; exact h4⟩
  · exact ColW_fr h1 ok.1.1 (fun o a b => by rw [f27 o (by omega)]; exact (fH o (by omega)).1) rfl
  · dsimp only
    by_cases c : i = m
    · rw [if_pos c, c]
      exact ColW_fr e2 ok.1.1 (fun o a b => f27 o (by omega)) rfl
    · rw [if_neg c]
      have hii : i < m := by omega
      have hki := kd_his h3 (show i < 6 by omega)
      have hin := his_in h3 (show i < 6 by omega)
      have hne : R 28 i ≠ R 28 m := fun e => c (h3.2 i m (by omega) hm e)
      have := ColW_frC (h5 i hii) (ok.2.2 i hii).1 hki hk hne e3
      exact ColW_fr this (ok.2.2 i hii).1 (fun o a b => f27 o (by omega)) rfl
theorem x3_save {S : St} {x : Nat} {W : Nat → Nat → Int32} {R : Nat → Nat → Nat} {A : Cn} {nh : Nat} {Hs : Nat → Cn} (h : ClsW W R A nh Hs) (ok : okS A nh Hs) :
    ∃ W' R', f_X3_save (WS S x W R) (x + 27) (x + 1) = some (WS S x W' R') ∧ ClsW W' R' A (svN nh) (svH A nh Hs) ∧ FrH W W' R R' := by
  have h6 := ok.2.1
  by_cases c : nh < 6
  · obtain ⟨W1, e1, e2, e3, e4⟩ := x3_put (S := S) (x := x) h ok c
    have hk := kd_his h.2.2.1 c
    unfold svN svH
    rw [if_pos c, if_pos c]
    refine ⟨_, R, ?_, e2, e3⟩
    simp (disch := omega) only [f_X3_save, g_2_1 kd_27, h.2.2.2.1, r_2 kd_27, n_12 kd_28, oI_lt, c, a_12 kd_28 c, o_1 hk, e1, e4, l1, oI_add, p_2_1 kd_27, Option.bind_some, reduceIte, if_true, if_false]
  · have e6 : nh = 6 := by omega
    subst e6
    obtain ⟨h1, h2, h3, h4, h5⟩ := h
    obtain ⟨R1, d1, d2, d3⟩ := x3_drop (S := S) (x := x) (W := W) h3
    have g3 : HisOk R1 := by
      refine ⟨fun k hk => ?_, fun i k hi hk e => ?_⟩
      · rw [d2 k hk]; exact h3.1 _ (by split <;> omega)
      · rw [d2 i hi, d2 k hk] at e
        have := h3.2 _ _ (by split <;> omega) (by split <;> omega) e
        revert this
        repeat' split
        all_goals omega
    have hc : ClsW (up2 W 27 1 (oI 5)) R1 A 5 (fun i => Hs (i + 1)) := by
      refine ⟨?_, fun p hp => ColOk_fr (h2 p hp) (d3 _ ?_), g3, up2_eq _ _ _ _, fun i hi => ?_⟩
      · exact ColW_fr h1 ok.1.1 (fun o a b => up2_row _ _ (by omega)) (d3 2 (by omega))
      · have := col_in hp; omega
      · have e7 : R1 28 i = R 28 (i + 1) := by rw [d2 i (by omega), if_pos hi]
        have hin := his_in h3 (show i + 1 < 6 by omega)
        rw [e7]
        exact ColW_fr (h5 (i + 1) (by omega)) (ok.2.2 (i + 1) (by omega)).1 (fun o a b => up2_row _ _ (by omega)) (d3 _ (by omega))
    obtain ⟨W1, e1, e2, e3, e4⟩ := x3_put (S := S) (x := x) hc ⟨ok.1, by omega, fun i hi => ok.2.2 (i + 1) (by omega)⟩ (show 5 < 6 by omega)
    have hk := kd_his g3 (show 5 < 6 by omega)
    unfold svN svH
    rw [if_neg c, if_neg c]
    refine ⟨_, R1, ?_, e2, fun o co => ⟨by rw [(e3 o co).1]; exact up2_row _ _ (by omega), d3 o (by omega)⟩⟩
    simp (disch := omega) only [f_X3_save, g_2_1 kd_27, h4, r_2 kd_27, n_12 kd_28, oI_lt, c, o_2 kd_27, d1, up2_eq, a_12 kd_28 (show 5 < 6 by omega), o_1 hk, e1, e4, l1, oI_add, p_2_1 kd_27, Option.bind_some, reduceIte, if_true, if_false]
theorem x3_restore {S : St} {x : Nat} {W : Nat → Nat → Int32} {R : Nat → Nat → Nat} {A : Cn} {nh : Nat} {Hs : Nat → Cn} (h : ClsW W R A (nh + 1) Hs) (ok : okS A (nh + 1) Hs) :
    ∃ W', f_X3_restore (WS S x W R) (x + 27) (x + 1) = some (WS S x W' R) ∧ ClsW W' R (Hs nh) nh Hs ∧ ∀ o, 185 ≤ o → W' o = W o := by
  obtain ⟨h1, h2, h3, h4, h5⟩ := h
  have h6 := ok.2.1
  have hn : nh < 6 := by omega
  have hk := kd_his h3 hn
  have hi := his_in h3 hn
  have hc : ColW (up2 W 27 1 (oI nh)) R (R 28 nh) (Hs nh) := ColW_fr (h5 nh (by omega)) (ok.2.2 nh (by omega)).1 (fun o a b => up2_row _ _ (by omega)) rfl
  obtain ⟨W', e1, e2, e3⟩ := x2_copy (S := S) (x := x) (R := R) kd_one hk (by omega) (ok.2.2 nh (by omega)).1 (h2 1 kd_one) hc
  refine ⟨W', ?_, ⟨e2, h2, h3, ?_, fun i hi' => ?_⟩, fun o c => ?_⟩
  · simp (disch := omega) only [f_X3_restore, g_2_1 kd_27, h4, l0, oI_le, show ¬ nh + 1 ≤ 0 by omega, l1, oI_sub, Nat.add_sub_cancel, p_2_1 kd_27, r_2 kd_27, up2_eq, a_12 kd_28 hn, o_1 kd_one, e1, Option.bind_some, reduceIte, if_true, if_false]
  · rw [(e3 27 (by omega)).1]; exact up2_eq _ _ _ _
  · have hin := his_in h3 (show i < 6 by omega)
    exact ColW_fr (h5 i (by omega)) (ok.2.2 i (by omega)).1 (fun o a b => by rw [(e3 o (by omega)).1]; exact up2_row _ _ (by omega)) rfl
  · rw [(e3 o (by omega)).1]; exact up2_row _ _ (by omega)
