/-! THE TEXT: how far it is right, the class's side -/
def rnT (t : Nat → Nat) : Nat → Option Ts
  | 0 => some (0, 0, 0)
  | i + 1 => (rnT t i).bind (stp (t i))
def bad (t : Nat → Nat) (i : Nat) : Nat := if (rnT t (i + 1)).isSome = true then 0 else 1
/-- the first wrong sign, len if none -/
def fE (t : Nat → Nat) (len : Nat) : Nat := fst (bad t) len 1
theorem okT_0 : okT (0, 0, 0) := ⟨by decide, by decide, by decide, fun e => absurd e (by decide), fun e => absurd e (by decide)⟩
theorem okT_rn {t : Nat → Nat} : ∀ {i : Nat} {s : Ts}, rnT t i = some s → okT s
  | 0, s, e => by injection e with e; subst e; exact okT_0
  | i + 1, s, e => by
    obtain ⟨s0, h0, h1⟩ := bd e
    exact okT_stp (okT_rn h0) h1
def TxW (W : Nat → Nat → Int32) (len : Nat) (t : Nat → Nat) : Prop := W 185 1 = oI len ∧ len ≤ 60 ∧ ∀ i, i < len → W 186 i = oI (t i) ∧ t i ≤ 126
theorem TxW_X {W W' : Nat → Nat → Int32} {len : Nat} {t : Nat → Nat} (h : TxW W len t) (f : FrX W W') : TxW W' len t := ⟨by rw [f.2]; exact h.1, h.2.1, fun i hi => by rw [f.1 186 (by decide)]; exact h.2.2 i hi⟩
theorem x5_err_L {S : St} {x : Nat} {R : Nat → Nat → Nat} {len : Nat} {t : Nat → Nat} : ∀ (d fu i : Nat) (W : Nat → Nat → Int32) (s : Ts), i + d = len → d < fu → TxW W len t → rnT t i = some s → TmW W s → (∀ k, k < i → bad t k ≠ 1) →
    ∃ W', f_X5_errorPlace_L7 (x + 185) fu (WS S x W R) (oI i) = some (if fE t len < len then .inl (oI (fE t len), WS S x W' R) else .inr (WS S x W' R)) ∧ FrX W W'
  | d, 0, i, W, s, e, hf, h, hr, hm, hb => by omega
  | 0, fu + 1, i, W, s, e, hf, h, hr, hm, hb => by
    have h60 := h.2.1
    have : i = len := by omega
    subst this
    refine ⟨W, ?_, FrX_refl W⟩
    unfold fE
    rw [f_X5_errorPlace_L7, fst_uni (j := i) i (Nat.le_refl i) hb (.inl rfl)]
    simp (disch := omega) only [g_4_1 kd_185, h.1, oI_le, Nat.le_refl, Nat.lt_irrefl, Option.bind_some, reduceIte, if_true, if_false]
  | d + 1, fu + 1, i, W, s, e, hf, h, hr, hm, hb => by
    have h60 := h.2.1
    obtain ⟨hv, hv2⟩ := h.2.2 i (by omega)
    obtain ⟨W1, e1, e2, e3⟩ := x5_accept (S := S) (x := x) (R := R) (c := t i) hm (okT_rn hr) hv2
    have hn : rnT t (i + 1) = stp (t i) s := by rw [rnT, hr]; rfl
    rw [f_X5_errorPlace_L7]
    simp (disch := omega) only [g_4_1 kd_185, h.1, oI_le, show ¬ len ≤ i by omega, r_4 kd_185, a_14 kd_186 (show i < 60 by omega), hv, o_4 kd_185, e1, Option.bind_some, reduceIte, if_true, if_false]
    by_cases c : (stp (t i) s).isSome = true
    · obtain ⟨s', hs'⟩ := Option.isSome_iff_exists.mp c
      have hb1 : bad t i ≠ 1 := by unfold bad; rw [hn, if_pos c]; decide
      obtain ⟨W', f1, f2⟩ := x5_err_L (S := S) (x := x) (R := R) d fu (i + 1) W1 s' (by omega) (by omega) (TxW_X h e2) (by rw [hn, hs']) (e3 s' hs') (fun k hk => by
        by_cases e4 : k = i
        · rw [e4]; exact hb1
        · exact hb k (by omega))
      refine ⟨W', ?_, FrX_trans e2 f2⟩
      simp only [c, show ¬ (1 : Int32) = 0 by decide, l1, oI_add, Option.bind_some, reduceIte, if_true, if_false]
      rw [if_neg (by decide)]
      exact f1
    · have hb1 : bad t i = 1 := by unfold bad; rw [hn, if_neg c]
      refine ⟨W1, ?_, e2⟩
      unfold fE
      rw [fst_uni (j := i) len (by omega) hb (.inr hb1)]
      simp only [if_neg c, show i < len by omega, Option.bind_some, reduceIte, if_true, if_false]
theorem x5_err {S : St} {x : Nat} {W : Nat → Nat → Int32} {R : Nat → Nat → Nat} {len : Nat} {t : Nat → Nat} (h : TxW W len t) :
    ∃ W', f_X5_errorPlace (WS S x W R) (x + 185) = some (oI (fE t len), WS S x W' R) ∧ FrX W W' := by
  have h60 := h.2.1
  have f0 := FrX_up W 2 0 (by decide)
  obtain ⟨W', e1, e2⟩ := x5_err_L (S := S) (x := x) (R := R) len FU 0 (up2 W 185 2 0) (0, 0, 0) (by omega) (FU_lt (by omega)) (TxW_X h f0) rfl ⟨up2_eq _ _ _ _, fun e => absurd rfl e⟩ (fun k hk => by omega)
  have f2 := FrX_trans f0 e2
  refine ⟨W', ?_, f2⟩
  have hl := fst_le (bad t) len 1
  have g1 : W' 185 1 = oI len := by rw [f2.2]; exact h.1
  rw [show (oI 0 : Int32) = 0 from rfl] at e1
  simp only [f_X5_errorPlace, p_4_2 kd_185, e1, Option.bind_some]
  by_cases c : fE t len < len
  · rw [if_pos c]; rfl
  · rw [if_neg c]
    have : fE t len = len := by unfold fE at c ⊢; omega
    simp only [Sum.elim_inr, g_4_1 kd_185, g1, this, Option.bind_some]
