/-! THE TEXT: one sign, the model's side -/
theorem sub48 {c : Nat} (hc : c ≤ 126) (hn : ¬ (48 ≤ c ∧ c ≤ 57)) : oI c - 48 < oI 0 ∨ oI 9 < oI c - 48 := by
  by_cases c1 : c < 48
  · left
    rw [show (48 : Int32) = oI 48 from rfl, oI_subneg (show c ≤ 48 by omega), Int32.lt_iff_toInt_lt, neg_toInt (by omega), oI_toInt (by omega)]
    omega
  · right
    rw [show (48 : Int32) = oI 48 from rfl, oI_sub (show 48 ≤ c by omega), oI_lt (by omega) (by omega)]
    omega
theorem x7_ended {S : St} {M : Nat} {A : Nat → Nat → Int32} {F : Nat → Int32} {H : Int64} {O : Nat → Int64} : f_X7_isEnded (MS S M A F H O) M = some (if F 11 = -1 then 0 else 1) := by
  simp only [f_X7_isEnded, m_g11, Option.bind_some]
  by_cases c : F 11 = -1
  · simp only [c, if_true, Option.bind_some, zz0]
  · simp only [c, if_false, Option.bind_some, zz1]
/-- what a sign that is taken leaves: the parts ahead stay, the state is the next one -/
def TkM (A A' : Nat → Nat → Int32) (F' : Nat → Int32) (c : Nat) (s : Ts) (r : Nat) : Prop :=
  ∀ s', stp c s = some s' → TmM A' F' s' (if c = 44 then r + 1 else r) ∧ (∀ k, k < 2 * r → A' 4 k = A 4 k) ∧ (c = 44 → ∀ k, k < 2 * r + 2 → A' 4 k = A 4 k)
theorem TkM_none {A A' : Nat → Nat → Int32} {F' : Nat → Int32} {c : Nat} {s : Ts} {r : Nat} (h : stp c s = none) : TkM A A' F' c s r :=
  fun s' e => by rw [h] at e; exact absurd e (by simp)
theorem TkM_some {A A' : Nat → Nat → Int32} {F' : Nat → Int32} {c : Nat} {s s1 : Ts} {r : Nat} (h : stp c s = some s1) (hc : c ≠ 44) (k : TmM A' F' s1 r) (f : ∀ k, k < 2 * r → A' 4 k = A 4 k) : TkM A A' F' c s r :=
  fun s' e => by
    rw [h] at e
    injection e with e
    subst e
    rw [if_neg hc]
    exact ⟨k, f, fun e => absurd e hc⟩
theorem m_take_d {S : St} {M : Nat} {A : Nat → Nat → Int32} {F : Nat → Int32} {H : Int64} {O : Nat → Int64} {d r : Nat} {s : Ts} (h : TmM A F s r) (ok : okT s) (hr : r ≤ 30) (hd : d ≤ 9) :
    ∃ A' F', f_X7_takesDigit (MS S M A F H O) M (oI d) = some (if (stp (48 + d) s).isSome = true then 1 else 0, MS S M A' F' H O) ∧ FrP A A' F F' ∧ TkM A A' F' (48 + d) s r := by
  obtain ⟨m, v, k⟩ := s
  obtain ⟨h9, h10, h11, h12, h13, h14⟩ := h
  obtain ⟨o1, o2, o3, o4, o5⟩ := ok
  dsimp only at h10 h11 h12 h13 h14 o1 o2 o3 o4 o5
  have hin : 48 ≤ 48 + d ∧ 48 + d ≤ 57 := by omega
  have hsub : 48 + d - 48 = d := by omega
  have h44 : ¬ 48 + d = 44 := by omega
  have hm : m = 0 ∨ m = 1 ∨ m = 2 ∨ m = 3 := by omega
  rcases hm with rfl | rfl | rfl | rfl
  · have es : stp (48 + d) (0, v, k) = some (1, d, 1) := by
      unfold stp; rw [if_pos hin, hsub, if_pos rfl]
    have n11 : F 11 = -1 := h11
    have n10 : F 10 = 0 := h10
    refine ⟨_, _, ?_, FrP_1 (2 * r) (oI d) (oI d), TkM_some es h44 ⟨by rw [upF_ne _ _ (by decide)]; exact h9, by rw [upF_ne _ _ (by decide)]; exact n10, upF_eq _ _ _, fun _ => up2_eq _ _ _ _, fun _ => by rw [up2_ne _ _ (by omega)]; exact h13 (.inl rfl), fun e => absurd e (by dsimp only; omega)⟩ (fun k hk => up2_ne _ _ (by omega))⟩
    rw [es, m_dig_0 h9 hr n10 n11 hd]; rfl
  · have es : stp (48 + d) (1, v, k) = if 10 ≤ 10 * v + d ∧ 10 * v + d ≤ 255 then some (1, 10 * v + d, 1) else none := by
      unfold stp; rw [if_pos hin, hsub, if_neg (by dsimp only; omega), if_pos rfl]
    have n11 : F 11 = oI v := h11
    have n10 : F 10 = 0 := h10
    by_cases c : 10 ≤ 10 * v + d ∧ 10 * v + d ≤ 255
    · rw [if_pos c] at es
      refine ⟨_, _, ?_, FrP_1 (2 * r) (oI (10 * v + d)) (oI (10 * v + d)), TkM_some es h44 ⟨by rw [upF_ne _ _ (by decide)]; exact h9, by rw [upF_ne _ _ (by decide)]; exact n10, upF_eq _ _ _, fun _ => up2_eq _ _ _ _, fun _ => by rw [up2_ne _ _ (by omega)]; exact h13 (.inr rfl), fun e => absurd e (by dsimp only; omega)⟩ (fun k hk => up2_ne _ _ (by omega))⟩
      rw [es, m_dig_1 h9 hr n10 n11 o2 hd c]; rfl
    · rw [if_neg c] at es
      refine ⟨up2 A 4 (2 * r + 0) (F 11), upF F 11 (F 11), ?_, FrP_1 _ _ _, TkM_none es⟩
      rw [es]
      by_cases c2 : 10 * v + d < 10
      · have v0 : v = 0 := by omega
        subst v0
        rw [m_no_0 (b := 0) h9 hr (by omega) n10 n11]; rfl
      · refine (m_no_t (t3 := oI (10 * v + d)) (b := 0) h9 hr (by omega) n10 ?_ ?_)
        · rw [n11, if_neg (by rw [ne_m1 (by omega)]; exact not_false), l10, oI_mul, oI_add]
        · rw [if_pos rfl, if_pos rfl, wi (k := 10 * v + d) (lo := 0) (hi := 255) (c1 := 0) (c2 := 255) rfl rfl (by omega) (by omega) (by omega), if_neg (by omega)]
  · have es : stp (48 + d) (2, v, k) = if 1 ≤ d then some (3, v, d) else none := by
      unfold stp; rw [if_pos hin, hsub, if_neg (by dsimp only; omega), if_neg (by dsimp only; omega), if_pos rfl]
    have n11 : F 11 = -1 := h11
    have n10 : F 10 = 1 := h10
    by_cases c : 1 ≤ d
    · rw [if_pos c] at es
      refine ⟨_, _, ?_, FrP_1 (2 * r + 1) (oI d) (oI d), TkM_some es h44 ⟨by rw [upF_ne _ _ (by decide)]; exact h9, by rw [upF_ne _ _ (by decide)]; exact n10, upF_eq _ _ _, fun _ => by rw [up2_ne _ _ (by omega)]; exact h12 (by decide), fun e => absurd e (by dsimp only; omega), fun _ => up2_eq _ _ _ _⟩ (fun k hk => up2_ne _ _ (by omega))⟩
      rw [es, m_dig_2 h9 hr n10 n11 hd c]; rfl
    · rw [if_neg c] at es
      have d0 : d = 0 := by omega
      subst d0
      refine ⟨up2 A 4 (2 * r + 1) (F 11), upF F 11 (F 11), ?_, FrP_1 _ _ _, TkM_none es⟩
      rw [es]
      refine (m_no_t (t3 := oI 0) (b := 1) h9 hr (by omega) n10 ?_ ?_)
      · rw [n11, if_pos rfl]
      · rw [if_neg (by decide), if_neg (by decide), wi (k := 0) (lo := 1) (hi := 24) (c1 := 1) (c2 := 24) rfl rfl (by omega) (by omega) (by omega), if_neg (by omega)]
  · have es : stp (48 + d) (3, v, k) = if 10 * k + d ≤ 24 then some (3, v, 10 * k + d) else none := by
      unfold stp; rw [if_pos hin, hsub, if_neg (by dsimp only; omega), if_neg (by dsimp only; omega), if_neg (by dsimp only; omega)]
    have n11 : F 11 = oI k := h11
    have n10 : F 10 = 1 := h10
    have k1 : 1 ≤ k := o4 rfl
    by_cases c : 10 * k + d ≤ 24
    · rw [if_pos c] at es
      refine ⟨_, _, ?_, FrP_1 (2 * r + 1) (oI (10 * k + d)) (oI (10 * k + d)), TkM_some es h44 ⟨by rw [upF_ne _ _ (by decide)]; exact h9, by rw [upF_ne _ _ (by decide)]; exact n10, upF_eq _ _ _, fun _ => by rw [up2_ne _ _ (by omega)]; exact h12 (by decide), fun e => absurd e (by dsimp only; omega), fun _ => up2_eq _ _ _ _⟩ (fun k hk => up2_ne _ _ (by omega))⟩
      rw [es, m_dig_3 h9 hr n10 n11 k1 hd c]; rfl
    · rw [if_neg c] at es
      refine ⟨up2 A 4 (2 * r + 1) (F 11), upF F 11 (F 11), ?_, FrP_1 _ _ _, TkM_none es⟩
      rw [es]
      refine (m_no_t (t3 := oI (10 * k + d)) (b := 1) h9 hr (by omega) n10 ?_ ?_)
      · rw [n11, if_neg (by rw [ne_m1 (by omega)]; exact not_false), l10, oI_mul, oI_add]
      · rw [if_neg (by decide), if_neg (by decide), wi (k := 10 * k + d) (lo := 1) (hi := 24) (c1 := 1) (c2 := 24) rfl rfl (by omega) (by omega) (by omega), if_neg (by omega)]
theorem m_takes {S : St} {M : Nat} {A : Nat → Nat → Int32} {F : Nat → Int32} {H : Int64} {O : Nat → Int64} {c r : Nat} {s : Ts} (h : TmM A F s r) (ok : okT s) (hr : r ≤ 30) (hc : c ≤ 126) :
    ∃ A' F', f_X7_takes (MS S M A F H O) M (oI c) = some (if (stp c s).isSome = true then 1 else 0, MS S M A' F' H O) ∧ FrP A A' F F' ∧ TkM A A' F' c s r := by
  by_cases hd : 48 ≤ c ∧ c ≤ 57
  · obtain ⟨A', F', e1, e2, e3⟩ := m_take_d (S := S) (M := M) (H := H) (O := O) (d := c - 48) h ok hr (by omega)
    rw [show 48 + (c - 48) = c by omega] at e1 e3
    refine ⟨A', F', ?_, e2, e3⟩
    have hz : zz (if (stp c s).isSome = true then 1 else 0) = some () := by
      split
      · exact zz1
      · exact zz0
    have n44 : (oI c = 44) = False := by rw [show (44 : Int32) = oI 44 from rfl, oI_eq (by omega) (by omega)]; exact eq_false (by omega)
    have n42 : (oI c = 42) = False := by rw [show (42 : Int32) = oI 42 from rfl, oI_eq (by omega) (by omega)]; exact eq_false (by omega)
    have e48 : oI c - 48 = oI (c - 48) := oI_sub (b := 48) (by omega)
    simp only [f_X7_takes, n44, n42, m_o, e48, e1, hz, Option.bind_some, reduceIte, if_true, if_false]
  · obtain ⟨m, v, k⟩ := s
    obtain ⟨h9, h10, h11, h12, h13, h14⟩ := h
    obtain ⟨o1, o2, o3, o4, o5⟩ := ok
    dsimp only at h10 h11 h12 h13 h14 o1 o2 o3 o4 o5
    have es : stp c (m, v, k) = if c = 44 ∧ (m = 1 ∨ m = 3) then some (0, 0, 0) else if c = 42 ∧ m = 1 then some (2, v, 1) else none := by
      unfold stp; rw [if_neg hd]
    have hmm : m = 0 ∨ m = 1 ∨ m = 2 ∨ m = 3 := by omega
    have e10 : F 10 = oI (if 2 ≤ m then 1 else 0) := by rw [h10]; split <;> rfl
    have eE : (F 11 = -1) = ¬ (m = 1 ∨ m = 3) := by
      rw [h11]
      unfold numT
      dsimp only
      rcases hmm with rfl | rfl | rfl | rfl
      · simp
      · rw [if_pos rfl, ne_m1 (by omega)]; simp
      · simp
      · rw [if_neg (by decide), if_pos rfl, ne_m1 (by omega)]; simp
    have hE : f_X7_isEnded (MS S M A F H O) M = some (if m = 1 ∨ m = 3 then 1 else 0) := by
      rw [x7_ended]
      by_cases hm : m = 1 ∨ m = 3
      · rw [if_pos hm, if_neg (by rw [eE]; exact not_not_intro hm)]
      · rw [if_neg hm, if_pos (by rw [eE]; exact hm)]
    have no := m_no_x (S := S) (M := M) (A := A) (H := H) (O := O) h9 hr (show (if 2 ≤ m then 1 else 0) ≤ 1 by split <;> omega) e10 (sub48 hc hd)
    by_cases c44 : c = 44
    · subst c44
      by_cases hm : m = 1 ∨ m = 3
      · have e' : stp 44 (m, v, k) = some (0, 0, 0) := by rw [es, if_pos ⟨rfl, hm⟩]
        refine ⟨up2 A 4 (2 * (r + 1) + 1) 1, upF (upF (upF F 9 (oI (r + 1))) 10 0) 11 (-1), ?_, ⟨fun a ha => up2_row _ _ ha, fun k a b c => by rw [upF_ne _ _ c, upF_ne _ _ b, upF_ne _ _ a]⟩, fun s' e => ?_⟩
        · have g9 : upF F 9 (oI (r + 1)) 9 = oI (r + 1) := upF_eq _ _ _
          have e1 : (oI r + 1 : Int32) = oI (r + 1) := by rw [l1, oI_add]
          have e2 : (2 * oI (r + 1) + 1 : Int32) = oI (2 * (r + 1) + 1) := by rw [l2, l1, oI_mul, oI_add]
          simp only [f_X7_takes, e', show ((oI 44 : Int32) = 44) = True from eq_true rfl, m_o, hE, hm, show ¬ (1 : Int32) = 0 by decide, m_g9, h9, e1, m_p9, m_r8, g9, e2, m_s4 (show 2 * (r + 1) + 1 < 64 by omega), Option.bind_some, reduceIte, if_true, if_false]
          rw [m_z10 (.inl rfl)]
          simp only [m_p11, Option.isSome, Option.bind_some, reduceIte, if_true, if_false]
        · rw [e'] at e
          injection e with e
          subst e
          rw [if_pos rfl]
          exact ⟨⟨by rw [upF_ne _ _ (by decide), upF_ne _ _ (by decide), upF_eq], by rw [upF_ne _ _ (by decide), upF_eq]; rfl, upF_eq _ _ _, fun e => absurd rfl e, fun _ => up2_eq _ _ _ _, fun e => absurd e (by dsimp only; omega)⟩, fun k hk => up2_ne _ _ (by omega), fun _ k hk => up2_ne _ _ (by omega)⟩
      · have e' : stp 44 (m, v, k) = none := by rw [es, if_neg (fun e => hm e.2), if_neg (fun e => absurd e.1 (by decide))]
        refine ⟨_, _, ?_, FrP_1 (2 * r + if 2 ≤ m then 1 else 0) (F 11) (F 11), TkM_none e'⟩
        simp only [f_X7_takes, e', show ((oI 44 : Int32) = 44) = True from eq_true rfl, show ((oI 44 : Int32) = 42) = False by decide, m_o, hE, hm, no, zz0, Option.isSome, Bool.false_eq_true, Option.bind_some, reduceIte, if_true, if_false]
    · have n44 : (oI c = 44) = False := by rw [show (44 : Int32) = oI 44 from rfl, oI_eq (by omega) (by omega)]; exact eq_false c44
      by_cases c42 : c = 42 ∧ m = 1
      · obtain ⟨rfl, rfl⟩ := c42
        have e' : stp 42 (1, v, k) = some (2, v, 1) := by rw [es, if_neg (fun e => c44 e.1), if_pos ⟨rfl, rfl⟩]
        have n10 : F 10 = 0 := h10
        refine ⟨A, upF (upF F 10 1) 11 (-1), ?_, ⟨fun a ha => rfl, fun k a b c => by rw [upF_ne _ _ c, upF_ne _ _ b]⟩, TkM_some e' (by decide) ⟨by rw [upF_ne _ _ (by decide), upF_ne _ _ (by decide)]; exact h9, by rw [upF_ne _ _ (by decide), upF_eq]; rfl, upF_eq _ _ _, fun _ => h12 (by decide), fun e => absurd e (by dsimp only; omega), fun e => absurd e (by dsimp only; omega)⟩ (fun k hk => rfl)⟩
        simp only [f_X7_takes, e', n44, show ((oI 42 : Int32) = 42) = True from eq_true rfl, m_o, hE, true_or, show ¬ (1 : Int32) = 0 by decide, m_g10, n10, Option.bind_some, reduceIte, if_true, if_false]
        rw [m_z10 (.inr rfl)]
        simp only [m_p11, Option.isSome, Option.bind_some, reduceIte, if_true, if_false]
      · have e' : stp c (m, v, k) = none := by rw [es, if_neg (fun e => c44 e.1), if_neg c42]
        refine ⟨_, _, ?_, FrP_1 (2 * r + if 2 ≤ m then 1 else 0) (F 11) (F 11), TkM_none e'⟩
        by_cases d42 : c = 42
        · subst d42
          have hm1 : ¬ m = 1 := fun e => c42 ⟨rfl, e⟩
          by_cases hm3 : m = 3
          · have n10 : (F 10 = 0) = False := by rw [h10, if_pos (by omega)]; decide
            simp only [f_X7_takes, e', n44, show ((oI 42 : Int32) = 42) = True from eq_true rfl, m_o, hE, hm3, or_true, show ¬ (1 : Int32) = 0 by decide, m_g10, n10, no, zz0, Option.isSome, Bool.false_eq_true, Option.bind_some, reduceIte, if_true, if_false]
            try rfl
          · simp only [f_X7_takes, e', n44, show ((oI 42 : Int32) = 42) = True from eq_true rfl, m_o, hE, hm1, hm3, or_self, no, zz0, Option.isSome, Bool.false_eq_true, Option.bind_some, reduceIte, if_true, if_false]
            try rfl
        · have n42 : (oI c = 42) = False := by rw [show (42 : Int32) = oI 42 from rfl, oI_eq (by omega) (by omega)]; exact eq_false d42
          simp only [f_X7_takes, e', n44, n42, m_o, no, zz0, Option.isSome, Bool.false_eq_true, Option.bind_some, reduceIte, if_true, if_false]
