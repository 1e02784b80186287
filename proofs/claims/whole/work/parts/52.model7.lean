/-! THE MODEL: join, cut -/
theorem x7_both_L {S : St} {M : Nat} {A0 : Nat → Nat → Int32} {F : Nat → Int32} {H : Int64} {O : Nat → Int64} {k m n : Nat} (hk : k < 8) (hn : m + n ≤ 24) (hF : F 7 = oI m) (hz : A0 0 (4 + 32 * k + 0) = oI n) : ∀ (d fu i : Nat) (A : Nat → Nat → Int32), i + d = n → d < fu → (∀ a, a ≠ 3 → A a = A0 a) → (∀ t, A 3 t = if m ≤ t ∧ t < m + i then A0 0 (4 + 32 * k + (8 + (t - m))) else A0 3 t) →
    ∃ A', f_X7_layBoth_L7 M (oI k) fu (MS S M A F H O) (oI i) = some (MS S M A' F H O) ∧ (∀ a, a ≠ 3 → A' a = A0 a) ∧ (∀ t, A' 3 t = if m ≤ t ∧ t < m + n then A0 0 (4 + 32 * k + (8 + (t - m))) else A0 3 t)
  | d, 0, i, A, e, hf, h1, h2 => by omega
  | 0, fu + 1, i, A, e, hf, h1, h2 => by
    have : i = n := by omega
    subst this
    have hz' : f_X7_of (MS S M A F H O) M (oI k) 0 = some (oI i) := by rw [l0, x7_of (show 4 + 32 * k + 0 < 260 by omega), h1 0 (by decide), hz]
    refine ⟨A, ?_, h1, h2⟩
    rw [f_X7_layBoth_L7]
    simp (disch := omega) only [m_o, hz', oI_le, Nat.le_refl, Option.bind_some, reduceIte, if_true, if_false]
  | d + 1, fu + 1, i, A, e, hf, h1, h2 => by
    have hz' : f_X7_of (MS S M A F H O) M (oI k) 0 = some (oI n) := by rw [l0, x7_of (show 4 + 32 * k + 0 < 260 by omega), h1 0 (by decide), hz]
    have hv : f_X7_of (MS S M A F H O) M (oI k) (oI (8 + i)) = some (A0 0 (4 + 32 * k + (8 + i))) := by rw [x7_of (show 4 + 32 * k + (8 + i) < 260 by omega), h1 0 (by decide)]
    obtain ⟨A', f1, f2, f3⟩ := x7_both_L (S := S) (M := M) (H := H) (O := O) (A0 := A0) hk hn hF hz d fu (i + 1) (up2 A 3 (m + i) (A0 0 (4 + 32 * k + (8 + i)))) (by omega) (by omega) (fun a ha => by rw [up2_row _ _ ha]; exact h1 a ha) (fun t => by
      by_cases c : t = m + i
      · subst c; rw [up2_eq, if_pos (by omega), Nat.add_sub_cancel_left]
      · rw [up2_ne _ _ (by omega), h2 t]
        by_cases c2 : m ≤ t ∧ t < m + i
        · rw [if_pos c2, if_pos (by omega)]
        · rw [if_neg c2, if_neg (by omega)])
    refine ⟨A', ?_, f2, f3⟩
    rw [f_X7_layBoth_L7]
    simp (disch := omega) only [m_o, hz', oI_le, show ¬ n ≤ i by omega, m_r6, m_g7, hF, l8, oI_add, hv, m_s3 (show m + i < 48 by omega), l1, Option.bind_some, reduceIte, if_true, if_false]
    exact f1
theorem x7_both {S : St} {M : Nat} {A : Nat → Nat → Int32} {F : Nat → Int32} {H : Int64} {O : Nat → Int64} {j k : Nat} {a b : Bk} (hj : j < 8) (hk : k < 8) (ha : ShB (A 0) j a) (hb : ShB (A 0) k b) (oka : okB a) (okb : okB b) (h24 : bN a + bN b ≤ 24) :
    ∃ A', f_X7_layBoth (MS S M A F H O) M (oI j) (oI k) = some (MS S M A' (upF F 7 (oI (bN a + bN b))) H O) ∧ (∀ a, a ≠ 3 → A' a = A a) ∧ (∀ t, t < bN a + bN b → A' 3 t = oI (jg a b t)) := by
  obtain ⟨A1, e1, e2, e3⟩ := x7_lay (S := S) (M := M) (F := F) (H := H) (O := O) hj ha oka
  have eZ : A1 0 = A 0 := e2 0 (by decide)
  have hb1 := hb
  rw [← eZ] at hb1
  obtain ⟨A2, f1, f2, f3⟩ := x7_both_L (S := S) (M := M) (F := upF F 7 (oI (bN a))) (H := H) (O := O) (A0 := A1) hk h24 (upF_eq F 7 _) hb1.1 (bN b) FU 0 A1 (by omega) (FU_lt (by omega)) (fun _ _ => rfl) (fun t => by rw [if_neg (by omega)])
  have hz : f_X7_of (MS S M A2 (upF F 7 (oI (bN a))) H O) M (oI k) 0 = some (oI (bN b)) := by rw [l0, x7_of (show 4 + 32 * k + 0 < 260 by omega), f2 0 (by decide), hb1.1]
  rw [show (oI 0 : Int32) = 0 from rfl] at f1
  refine ⟨A2, ?_, fun a ha => by rw [f2 a ha, e2 a ha], fun t ht => ?_⟩
  · simp only [f_X7_layBoth, m_o, e1, f1, m_g7, upF_eq, hz, oI_add, m_p7, upF_up, Option.bind_some, reduceIte, if_true, if_false]
  · rw [f3]
    unfold jg
    by_cases c : t < bN a
    · rw [if_neg (by omega), if_pos c]; exact e3 t c
    · rw [if_pos (by omega), if_neg c, Nat.zero_add]; exact hb1.2.2.2.2 _ (by omega)
theorem x7_can {S : St} {M : Nat} {A : Nat → Nat → Int32} {F : Nat → Int32} {H : Int64} {O : Nat → Int64} {C : Cn} (h : ShZ (A 0) C) (ok : okC C) {j k : Nat} (hj : j < cN C) (hk : k < cN C) : f_X7_canJoin (MS S M A F H O) M (oI j) (oI k) = some (if j = k ∨ 24 < bN (cB C j) + bN (cB C k) then 0 else 1) := by
  have h8 := ok.1
  have n1 := (ok.2.2.2.2 j hj).2.1
  have n2 := (ok.2.2.2.2 k hk).2.1
  simp (disch := omega) only [f_X7_canJoin, m_o, z_n h h8 hj, z_n h h8 hk, l24, oI_add, oI_lt, oI_eq, Option.bind_some, reduceIte, if_true, if_false]
  by_cases c : j = k
  · simp only [c, true_or, Option.bind_some, reduceIte, if_true, if_false, zz0]
  · by_cases c2 : 24 < bN (cB C j) + bN (cB C k)
    · simp only [c, c2, or_true, Option.bind_some, reduceIte, if_true, if_false, zz0]
    · simp only [c, c2, or_self, Option.bind_some, reduceIte, if_true, if_false, zz1]
theorem m_join_1 {S : St} {M : Nat} {A : Nat → Nat → Int32} {F : Nat → Int32} {H : Int64} {O : Nat → Int64} {C : Cn} {nh : Nat} {Hs : Nat → Cn} (h : ModW A F C nh Hs) (ok : okS C nh Hs) {a b : Int32} (ha : (a < 0 ∨ oI (cN C) ≤ a) ∨ (∃ j, j < cN C ∧ a = oI j) ∧ (b < 0 ∨ oI (cN C) ≤ b)) : f_X7_join (MS S M A F H O) M a b = some (0, MS S M A (upF F 5 1) H O) := by
  rcases ha with ha | ⟨⟨j, hj, rfl⟩, hb⟩
  · simp only [f_X7_join, m_o, x7_isBlock_out h.1 ok.1.1 ha, m_p5, m_g5, upF_eq, show ¬ (1 : Int32) ≤ 0 by decide, show ¬ (2 : Int32) ≤ 0 by decide, show ¬ (3 : Int32) ≤ 0 by decide, show (0 : Int32) ≤ 0 by decide, show ¬ (1 : Int32) = 0 by decide, Option.bind_some, reduceIte, if_true, if_false]
  · simp only [f_X7_join, m_o, x7_isBlock_in h.1 ok.1.1 hj, x7_isBlock_out h.1 ok.1.1 hb, m_p5, m_g5, upF_eq, show ¬ (1 : Int32) ≤ 0 by decide, show ¬ (2 : Int32) ≤ 0 by decide, show ¬ (3 : Int32) ≤ 0 by decide, show (0 : Int32) ≤ 0 by decide, show ¬ (1 : Int32) = 0 by decide, Option.bind_some, reduceIte, if_true, if_false]
theorem m_join_2 {S : St} {M : Nat} {A : Nat → Nat → Int32} {F : Nat → Int32} {H : Int64} {O : Nat → Int64} {C : Cn} {nh : Nat} {Hs : Nat → Cn} (h : ModW A F C nh Hs) (ok : okS C nh Hs) {j : Nat} (hj : j < cN C) : f_X7_join (MS S M A F H O) M (oI j) (oI j) = some (0, MS S M A (upF F 5 2) H O) := by
  simp only [f_X7_join, m_o, x7_isBlock_in h.1 ok.1.1 hj, m_p5, m_g5, upF_eq, show ¬ (1 : Int32) ≤ 0 by decide, show ¬ (2 : Int32) ≤ 0 by decide, show ¬ (3 : Int32) ≤ 0 by decide, show (0 : Int32) ≤ 0 by decide, show ¬ (1 : Int32) = 0 by decide, Option.bind_some, reduceIte, if_true, if_false]
theorem m_join_3 {S : St} {M : Nat} {A : Nat → Nat → Int32} {F : Nat → Int32} {H : Int64} {O : Nat → Int64} {C : Cn} {nh : Nat} {Hs : Nat → Cn} (h : ModW A F C nh Hs) (ok : okS C nh Hs) {j k : Nat} (hj : j < cN C) (hk : k < cN C) (hn : j ≠ k) (h24 : 24 < bN (cB C j) + bN (cB C k)) : f_X7_join (MS S M A F H O) M (oI j) (oI k) = some (0, MS S M A (upF F 5 3) H O) := by
  have h8 := ok.1.1
  have hc := x7_can (S := S) (M := M) (F := F) (H := H) (O := O) h.1 ok.1 hj hk
  rw [if_pos (.inr h24)] at hc
  have hne : (oI j = oI k) = False := by rw [oI_eq (by omega) (by omega)]; exact eq_false hn
  simp only [f_X7_join, m_o, x7_isBlock_in h.1 h8 hj, x7_isBlock_in h.1 h8 hk, hne, hc, m_p5, m_g5, upF_eq, show ¬ (1 : Int32) ≤ 0 by decide, show ¬ (2 : Int32) ≤ 0 by decide, show ¬ (3 : Int32) ≤ 0 by decide, show (0 : Int32) ≤ 0 by decide, show ¬ (1 : Int32) = 0 by decide, Option.bind_some, reduceIte, if_true, if_false]
theorem x7_join_L {S : St} {M : Nat} {A0 : Nat → Nat → Int32} {F : Nat → Int32} {H : Int64} {O : Nat → Int64} {j n : Nat} {y : Int32} (hj : j < 8) (hn : n ≤ 24) (hF : F 7 = oI n) : ∀ (d fu i : Nat) (A : Nat → Nat → Int32), i + d = n → d < fu → (∀ a, a ≠ 0 → A a = A0 a) → (∀ k, A 0 k = if 4 + 32 * j + 8 ≤ k ∧ k < 4 + 32 * j + (8 + i) then A0 3 (k - (4 + 32 * j + 8)) else A0 0 k) →
    ∃ A', f_X7_join_L68 M (oI j) y fu (MS S M A F H O) (oI i) = some (MS S M A' F H O) ∧ (∀ a, a ≠ 0 → A' a = A0 a) ∧ (∀ k, A' 0 k = if 4 + 32 * j + 8 ≤ k ∧ k < 4 + 32 * j + (8 + n) then A0 3 (k - (4 + 32 * j + 8)) else A0 0 k)
  | d, 0, i, A, e, hf, h1, h2 => by omega
  | 0, fu + 1, i, A, e, hf, h1, h2 => by
    have : i = n := by omega
    subst this
    refine ⟨A, ?_, h1, h2⟩
    rw [f_X7_join_L68]
    simp (disch := omega) only [m_g7, hF, oI_le, Nat.le_refl, Option.bind_some, reduceIte, if_true, if_false]
  | d + 1, fu + 1, i, A, e, hf, h1, h2 => by
    have e0 : A 3 i = A0 3 i := by rw [h1 3 (by decide)]
    obtain ⟨A', f1, f2, f3⟩ := x7_join_L (S := S) (M := M) (H := H) (O := O) (A0 := A0) (y := y) hj hn hF d fu (i + 1) (up2 A 0 (4 + 32 * j + (8 + i)) (A0 3 i)) (by omega) (by omega) (fun a ha => by rw [up2_row _ _ ha]; exact h1 a ha) (fun k => by
      by_cases c : k = 4 + 32 * j + (8 + i)
      · subst c; rw [up2_eq, if_pos (by omega), show 4 + 32 * j + (8 + i) - (4 + 32 * j + 8) = i by omega]
      · rw [up2_ne _ _ (by omega), h2 k]
        by_cases c2 : 4 + 32 * j + 8 ≤ k ∧ k < 4 + 32 * j + (8 + i)
        · rw [if_pos c2, if_pos (by omega)]
        · rw [if_neg c2, if_neg (by omega)])
    refine ⟨A', ?_, f2, f3⟩
    rw [f_X7_join_L68]
    simp (disch := omega) only [m_g7, hF, oI_le, show ¬ n ≤ i by omega, m_r6, m_a3 (show i < 48 by omega), e0, m_o, l8, l1, oI_add, x7_setOf (show 4 + 32 * j + (8 + i) < 260 by omega), Option.bind_some, reduceIte, if_true, if_false]
    exact f1
theorem x7_rem_L {S : St} {M : Nat} {A0 : Nat → Nat → Int32} {F : Nat → Int32} {H : Int64} {O : Nat → Int64} {k m : Nat} (hm : m < 8) (hk : k ≤ m) (hz : A0 0 2 = oI m) : ∀ (d fu i : Nat) (A : Nat → Nat → Int32), 4 + 32 * k + i + d = 4 + 32 * m → d < fu → (∀ a, a ≠ 0 → A a = A0 a) → (∀ t, A 0 t = if 4 + 32 * k ≤ t ∧ t < 4 + 32 * k + i then A0 0 (t + 32) else A0 0 t) →
    ∃ A', f_X7_remove_L17 M fu (MS S M A F H O) (oI (4 + 32 * k + i)) = some (MS S M A' F H O) ∧ (∀ a, a ≠ 0 → A' a = A0 a) ∧ (∀ t, A' 0 t = if 4 + 32 * k ≤ t ∧ t < 4 + 32 * m then A0 0 (t + 32) else A0 0 t)
  | d, 0, i, A, e, hf, h1, h2 => by omega
  | 0, fu + 1, i, A, e, hf, h1, h2 => by
    have e2 : A 0 2 = oI m := by rw [h2, if_neg (by omega)]; exact hz
    refine ⟨A, ?_, h1, fun t => by rw [h2 t, show 4 + 32 * k + i = 4 + 32 * m by omega]⟩
    rw [f_X7_remove_L17]
    simp (disch := omega) only [m_r0, l2, m_a0 (show 2 < 260 by omega), e2, l4, l32, oI_mul, oI_add, oI_le, show 4 + 32 * m ≤ 4 + 32 * k + i by omega, Option.bind_some, reduceIte, if_true, if_false]
  | d + 1, fu + 1, i, A, e, hf, h1, h2 => by
    have e2 : A 0 2 = oI m := by rw [h2, if_neg (by omega)]; exact hz
    have e3 : A 0 (4 + 32 * k + i + 32) = A0 0 (4 + 32 * k + i + 32) := by rw [h2, if_neg (by omega)]
    obtain ⟨A', f1, f2, f3⟩ := x7_rem_L (S := S) (M := M) (F := F) (H := H) (O := O) (A0 := A0) hm hk hz d fu (i + 1) (up2 A 0 (4 + 32 * k + i) (A0 0 (4 + 32 * k + i + 32))) (by omega) (by omega) (fun a ha => by rw [up2_row _ _ ha]; exact h1 a ha) (fun t => by
      by_cases c : t = 4 + 32 * k + i
      · subst c; rw [up2_eq, if_pos (by omega)]
      · rw [up2_ne _ _ (by omega), h2 t]
        by_cases c2 : 4 + 32 * k ≤ t ∧ t < 4 + 32 * k + i
        · rw [if_pos c2, if_pos (by omega)]
        · rw [if_neg c2, if_neg (by omega)])
    refine ⟨A', ?_, f2, f3⟩
    rw [f_X7_remove_L17]
    simp (disch := omega) only [m_r0, l2, m_a0 (show 2 < 260 by omega), e2, l4, l32, oI_mul, oI_add, oI_le, show ¬ 4 + 32 * m ≤ 4 + 32 * k + i by omega, m_a0 (show 4 + 32 * k + i + 32 < 260 by omega), e3, m_s0 (show 4 + 32 * k + i < 260 by omega), l1, Option.bind_some, reduceIte, if_true, if_false]
    exact f1
theorem x7_rem {S : St} {M : Nat} {A : Nat → Nat → Int32} {F : Nat → Int32} {H : Int64} {O : Nat → Int64} {C : Cn} {k : Nat} (h : ShZ (A 0) C) (ok : okC C) (hk : k < cN C) :
    ∃ A', f_X7_remove (MS S M A F H O) M (oI k) = some (MS S M A' F H O) ∧ ShZ (A' 0) (dropC C k) ∧ ∀ a, a ≠ 0 → A' a = A a := by
  have h8 := ok.1
  obtain ⟨A1, e1, e2, e3⟩ := x7_rem_L (S := S) (M := M) (F := F) (H := H) (O := O) (A0 := up2 A 0 2 (oI (cN C - 1))) (k := k) (m := cN C - 1) (by omega) (by omega) (up2_eq _ _ _ _) (32 * (cN C - 1) - 32 * k) FU 0 _ (by omega) (FU_lt (by omega)) (fun _ _ => rfl) (fun t => by rw [if_neg (by omega)])
  have f : ∀ t, t ≠ 2 → A1 0 t = if 4 + 32 * k ≤ t ∧ t < 4 + 32 * (cN C - 1) then A 0 (t + 32) else A 0 t := fun t ht => by
    rw [e3, up2_ne _ _ (by omega), up2_ne _ _ (by omega)]
  refine ⟨A1, ?_, ⟨by rw [f 0 (by omega), if_neg (by omega)]; exact h.1, by rw [f 1 (by omega), if_neg (by omega)]; exact h.2.1, by rw [e3, if_neg (by omega), up2_eq]; rfl, by rw [f 3 (by omega), if_neg (by omega)]; exact h.2.2.2.1, fun i hi => ?_⟩, fun a ha => by rw [e2 a ha, up2_row _ _ ha]⟩
  · rw [Nat.add_zero] at e1
    have zm := z_many (S := S) (M := M) (F := F) (H := H) (O := O) h
    have zs := m_s0 (S := S) (M := M) (A := A) (F := F) (H := H) (O := O) (show 2 < 260 by omega) (oI (cN C - 1))
    rw [show (oI 2 : Int32) = 2 from rfl] at zs
    simp (disch := omega) only [f_X7_remove, m_r0, zm, l1, oI_sub, zs, l4, l32, oI_mul, oI_add, e1, Option.bind_some, reduceIte, if_true, if_false]
  · show ShB (A1 0) i (if i < k then cB C i else cB C (i + 1))
    have hi' : i < cN C - 1 := hi
    by_cases c : i < k
    · rw [if_pos c]
      exact ShB_congr (h.2.2.2.2 i (by omega)) (ok.2.2.2.2 i (by omega)).2.1 (fun t ht => by rw [f _ (by omega), if_neg (by omega)])
    · rw [if_neg c]
      have hb := h.2.2.2.2 (i + 1) (by omega)
      have n24 := (ok.2.2.2.2 (i + 1) (by omega)).2.1
      have g : ∀ t, t < 32 → A1 0 (4 + 32 * i + t) = A 0 (4 + 32 * (i + 1) + t) := fun t ht => by
        rw [f _ (by omega), if_pos (by omega), show 4 + 32 * i + t + 32 = 4 + 32 * (i + 1) + t by omega]
      exact ⟨by rw [g 0 (by omega)]; exact hb.1, by rw [g 1 (by omega)]; exact hb.2.1, by rw [g 2 (by omega)]; exact hb.2.2.1, fun t a b => by rw [g t (by omega)]; exact hb.2.2.2.1 t a b, fun t ht => by rw [g (8 + t) (by omega)]; exact hb.2.2.2.2 t ht⟩
