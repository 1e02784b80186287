/-! THE TEXT: spell, the class's side -/
theorem stp44_y {s : Ts} (h : isW s) : stp 44 s = some (0, 0, 0) := by
  unfold stp
  rw [if_neg (by omega), if_pos ⟨rfl, h⟩]
theorem stp44_n {s : Ts} (h : ¬ isW s) : stp 44 s = none := by
  unfold stp
  rw [if_neg (by omega), if_neg (fun e => h e.2), if_neg (fun e => absurd e.1 (by decide))]
theorem fE_bad {t : Nat → Nat} {i len : Nat} (hi : i < len) (h : bad t i = 1) : fE t len < len := by
  have := fst_lt (g := bad t) (v := 1) hi h
  unfold fE; omega
theorem x5_spell_L {S : St} {x : Nat} {R : Nat → Nat → Nat} {len : Nat} {t : Nat → Nat} : ∀ (d fu i : Nat) (W : Nat → Nat → Int32) (s : Ts), i + d = len → d < fu → TxW W len t → rnT t i = some s → TmW W s → RwW W 187 (rowT t i).1 (rowT t i).2 → (∀ k, k < i → bad t k ≠ 1) →
    ∃ W', f_X5_spell_L11 (x + 185) (x + 187) fu (WS S x W R) (oI i) = some (if fE t len = len ∧ (rowT t len).1 ≤ 24 then .inr (WS S x W' R) else .inl (0, WS S x W' R)) ∧ FrY W W' ∧ (fE t len = len ∧ (rowT t len).1 ≤ 24 → (∃ s', rnT t len = some s' ∧ TmW W' s') ∧ RwW W' 187 (rowT t len).1 (rowT t len).2)
  | d, 0, i, W, s, e, hf, h, hr, hm, hw, hb => by omega
  | 0, fu + 1, i, W, s, e, hf, h, hr, hm, hw, hb => by
    have h60 := h.2.1
    have : i = len := by omega
    subst this
    have hfe : fE t i = i := fst_uni i (Nat.le_refl i) hb (.inl rfl)
    refine ⟨W, ?_, FrY_refl W, fun _ => ⟨⟨s, hr, hm⟩, hw⟩⟩
    rw [f_X5_spell_L11, if_pos ⟨hfe, hw.2.2.1⟩]
    simp (disch := omega) only [g_4_1 kd_185, h.1, oI_le, Nat.le_refl, Option.bind_some, reduceIte, if_true, if_false]
  | d + 1, fu + 1, i, W, s, e, hf, h, hr, hm, hw, hb => by
    have h60 := h.2.1
    obtain ⟨hv, hv2⟩ := h.2.2 i (by omega)
    have hn : rnT t (i + 1) = stp (t i) s := by rw [rnT, hr]; rfl
    have hget : (rnT t i).getD (0, 0, 0) = s := by rw [hr]; rfl
    have oks := okT_rn hr
    rw [f_X5_spell_L11]
    simp (disch := omega) only [g_4_1 kd_185, h.1, oI_le, show ¬ len ≤ i by omega, r_4 kd_185, a_14 kd_186 (show i < 60 by omega), hv, o_4 kd_185, show (44 : Int32) = oI 44 from rfl, oI_eq, Option.bind_some, reduceIte, if_true, if_false]
    by_cases c44 : t i = 44
    · by_cases cw : isW s ∧ (rowT t i).1 + s.2.2 ≤ 24
      · obtain ⟨W1, p1, p2, p3⟩ := x5_end (S := S) (x := x) (R := R) hm oks hw cw.1 cw.2
        have hm1 := TmW_r hm p3
        have hT1 := TxW_Y h (FrY_r p3)
        obtain ⟨hv', _⟩ := hT1.2.2 i (by omega)
        obtain ⟨W2, e1, e2, e3⟩ := x5_accept (S := S) (x := x) (R := R) (c := t i) hm1 oks hv2
        have hs' : stp (t i) s = some (0, 0, 0) := by rw [c44, stp44_y cw.1]
        have hb1 : bad t i ≠ 1 := by unfold bad; rw [hn, hs']; decide
        have hrow : rowT t (i + 1) = ((rowT t i).1 + s.2.2, fun y => if y < (rowT t i).1 then (rowT t i).2 y else s.2.1) := by rw [rowT, if_pos c44, hget]
        have hw2 : RwW W2 187 (rowT t (i + 1)).1 (rowT t (i + 1)).2 := by rw [hrow]; exact RwW_fr p2 (e2.1 187 (by decide)) (e2.1 188 (by decide))
        obtain ⟨W', f1, f2, f3⟩ := x5_spell_L (S := S) (x := x) (R := R) d fu (i + 1) W2 (0, 0, 0) (by omega) (by omega) (TxW_X hT1 e2) (by rw [hn, hs']) (e3 _ hs') hw2 (fun k hk => by
          by_cases e4 : k = i
          · rw [e4]; exact hb1
          · exact hb k (by omega))
        refine ⟨W', ?_, FrY_trans (FrY_r p3) (FrY_trans (FrY_X e2) f2), f3⟩
        rw [hs'] at e1
        simp only [c44, p1, show ¬ (1 : Int32) = 0 by decide, r_4 kd_185, a_14 kd_186 (show i < 60 by omega), hv', o_4 kd_185, Option.bind_some, reduceIte, if_true, if_false]
        rw [c44] at e1
        simp only [e1, Option.isSome, show ¬ (1 : Int32) = 0 by decide, l1, oI_add, Option.bind_some, reduceIte, if_true, if_false]
        exact f1
      · have p1 := x5_end_no (S := S) (x := x) (R := R) hm oks hw cw
        have hno : ¬ (fE t len = len ∧ (rowT t len).1 ≤ 24) := by
          intro hh
          by_cases cW : isW s
          · have hrow : (rowT t (i + 1)).1 = (rowT t i).1 + s.2.2 := by rw [rowT, if_pos c44, hget]
            have := rowT_mono t len (i + 1) (by omega)
            exact cw ⟨cW, by omega⟩
          · have hb1 : bad t i = 1 := by unfold bad; rw [hn, c44, stp44_n cW]; rfl
            have := fE_bad (len := len) (by omega) hb1
            omega
        refine ⟨W, ?_, FrY_refl W, fun hh => absurd hh hno⟩
        rw [if_neg hno]
        simp only [c44, p1, Option.bind_some, reduceIte, if_true, if_false]
    · obtain ⟨W1, e1, e2, e3⟩ := x5_accept (S := S) (x := x) (R := R) (c := t i) hm oks hv2
      by_cases c : (stp (t i) s).isSome = true
      · obtain ⟨s', hs'⟩ := Option.isSome_iff_exists.mp c
        have hb1 : bad t i ≠ 1 := by unfold bad; rw [hn, if_pos c]; decide
        have hrow : rowT t (i + 1) = rowT t i := by rw [rowT, if_neg c44]
        obtain ⟨W', f1, f2, f3⟩ := x5_spell_L (S := S) (x := x) (R := R) d fu (i + 1) W1 s' (by omega) (by omega) (TxW_X h e2) (by rw [hn, hs']) (e3 s' hs') (by rw [hrow]; exact RwW_fr hw (e2.1 187 (by decide)) (e2.1 188 (by decide))) (fun k hk => by
          by_cases e4 : k = i
          · rw [e4]; exact hb1
          · exact hb k (by omega))
        refine ⟨W', ?_, FrY_trans (FrY_X e2) f2, f3⟩
        rw [if_pos c] at e1
        simp only [c44, e1, show ¬ (1 : Int32) = 0 by decide, l1, oI_add, Option.bind_some, reduceIte, if_true, if_false]
        rw [if_neg (by decide)]
        exact f1
      · have hb1 : bad t i = 1 := by unfold bad; rw [hn, if_neg c]
        have hlt := fE_bad (len := len) (by omega) hb1
        have hno : ¬ (fE t len = len ∧ (rowT t len).1 ≤ 24) := fun hh => by omega
        refine ⟨W1, ?_, FrY_X e2, fun hh => absurd hh hno⟩
        rw [if_neg hno]
        rw [if_neg c] at e1
        simp only [c44, e1, Option.bind_some, reduceIte, if_true, if_false]
