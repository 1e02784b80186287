/-! THE MODEL'S COLUMN -/
def ShB (Z : Nat → Int32) (j : Nat) (b : Bk) : Prop := Z (4 + 32 * j + 0) = oI (bN b) ∧ Z (4 + 32 * j + 1) = oI (bC b) ∧ Z (4 + 32 * j + 2) = oI (bV b) ∧ (∀ k, 3 ≤ k → k < 8 → Z (4 + 32 * j + k) = bK b k) ∧ ∀ i, i < bN b → Z (4 + 32 * j + (8 + i)) = oI (bG b i)
def ShZ (Z : Nat → Int32) (C : Cn) : Prop := Z 0 = oI (cY C) ∧ Z 1 = oI (cF C) ∧ Z 2 = oI (cN C) ∧ Z 3 = oI (cD C) ∧ ∀ j, j < cN C → ShB Z j (cB C j)
theorem ShB_congr {Z Z' : Nat → Int32} {j : Nat} {b : Bk} (h : ShB Z j b) (hn : bN b ≤ 24) (e : ∀ k, k < 32 → Z' (4 + 32 * j + k) = Z (4 + 32 * j + k)) : ShB Z' j b :=
  ⟨by rw [e 0 (by omega)]; exact h.1, by rw [e 1 (by omega)]; exact h.2.1, by rw [e 2 (by omega)]; exact h.2.2.1, fun k a c => by rw [e k (by omega)]; exact h.2.2.2.1 k a c, fun i hi => by rw [e (8 + i) (by omega)]; exact h.2.2.2.2 i hi⟩
theorem ShZ_congr {Z Z' : Nat → Int32} {C : Cn} (h : ShZ Z C) (ok : okC C) (e : ∀ k, k < 260 → Z' k = Z k) : ShZ Z' C :=
  ⟨by rw [e 0 (by omega)]; exact h.1, by rw [e 1 (by omega)]; exact h.2.1, by rw [e 2 (by omega)]; exact h.2.2.1, by rw [e 3 (by omega)]; exact h.2.2.2.1, fun j hj => by
    have := ok.1
    exact ShB_congr (h.2.2.2.2 j hj) (ok.2.2.2.2 j hj).2.1 (fun k hk => e _ (by omega))⟩
def ModW (A : Nat → Nat → Int32) (F : Nat → Int32) (C : Cn) (nh : Nat) (Hs : Nat → Cn) : Prop := ShZ (A 0) C ∧ F 1 = oI nh ∧ ∀ i, i < nh → ShZ (fun k => A 1 (260 * i + k)) (Hs i)
theorem l32 : (32 : Int32) = oI 32 := rfl
theorem l6' : (6 : Int32) = oI 6 := rfl
theorem l260 : (260 : Int32) = oI 260 := rfl
theorem l1560 : (1560 : Int32) = oI 1560 := rfl
theorem x7_of {S : St} {M : Nat} {A : Nat → Nat → Int32} {F : Nat → Int32} {H : Int64} {O : Nat → Int64} {j k : Nat} (hk : 4 + 32 * j + k < 260) : f_X7_of (MS S M A F H O) M (oI j) (oI k) = some (A 0 (4 + 32 * j + k)) := by
  simp only [f_X7_of, m_r0, l4, l32, oI_mul, oI_add, m_a0 hk, Option.bind_some, reduceIte, if_true, if_false]
theorem x7_setOf {S : St} {M : Nat} {A : Nat → Nat → Int32} {F : Nat → Int32} {H : Int64} {O : Nat → Int64} {j k : Nat} (hk : 4 + 32 * j + k < 260) (v : Int32) : f_X7_setOf (MS S M A F H O) M (oI j) (oI k) v = some (MS S M (up2 A 0 (4 + 32 * j + k) v) F H O) := by
  simp only [f_X7_setOf, m_r0, l4, l32, oI_mul, oI_add, m_s0 hk, Option.bind_some, reduceIte, if_true, if_false]
theorem x7_save_L1 {S : St} {M : Nat} {A0 : Nat → Nat → Int32} {F : Nat → Int32} {H : Int64} {O : Nat → Int64} : ∀ (d fu i : Nat) (A : Nat → Nat → Int32), i + d = 1300 → d < fu → (∀ a, a ≠ 1 → A a = A0 a) → (∀ k, A 1 k = if k < i then A0 1 (k + 260) else A0 1 k) →
    ∃ A', f_X7_save_L13 M fu (MS S M A F H O) (oI (260 + i)) = some (MS S M A' F H O) ∧ (∀ a, a ≠ 1 → A' a = A0 a) ∧ (∀ k, A' 1 k = if k < 1300 then A0 1 (k + 260) else A0 1 k)
  | d, 0, i, A, e, hf, h1, h2 => by omega
  | 0, fu + 1, i, A, e, hf, h1, h2 => by
    have : i = 1300 := by omega
    subst this
    refine ⟨A, ?_, h1, h2⟩
    rw [f_X7_save_L13]
    simp (disch := omega) only [l1560, oI_le, show 1560 ≤ 260 + 1300 by omega, Option.bind_some, reduceIte, if_true, if_false]
  | d + 1, fu + 1, i, A, e, hf, h1, h2 => by
    have e0 : A 1 (260 + i) = A0 1 (260 + i) := by rw [h2, if_neg (by omega)]
    obtain ⟨A', f1, f2, f3⟩ := x7_save_L1 (S := S) (M := M) (F := F) (H := H) (O := O) (A0 := A0) d fu (i + 1) (up2 A 1 i (A0 1 (260 + i))) (by omega) (by omega) (fun a ha => by rw [up2_row _ _ ha]; exact h1 a ha) (fun k => by
      by_cases c : k = i
      · subst c; rw [up2_eq, if_pos (by omega), Nat.add_comm]
      · rw [up2_ne _ _ (by omega), h2 k]
        by_cases c2 : k < i
        · rw [if_pos c2, if_pos (by omega)]
        · rw [if_neg c2, if_neg (by omega)])
    refine ⟨A', ?_, f2, f3⟩
    rw [f_X7_save_L13]
    simp (disch := omega) only [l1560, l260, oI_le, show ¬ 1560 ≤ 260 + i by omega, m_r2, m_a1 (show 260 + i < 1560 by omega), oI_sub, show 260 + i - 260 = i by omega, m_s1 (show i < 1560 by omega), e0, l1, oI_add, Option.bind_some, reduceIte, if_true, if_false]
    exact f1
theorem x7_save_L2 {S : St} {M : Nat} {A0 : Nat → Nat → Int32} {F : Nat → Int32} {H : Int64} {O : Nat → Int64} {m : Nat} (hm : m < 6) (hF : F 1 = oI m) : ∀ (d fu i : Nat) (A : Nat → Nat → Int32), i + d = 260 → d < fu → (∀ a, a ≠ 1 → A a = A0 a) → (∀ k, A 1 k = if 260 * m ≤ k ∧ k < 260 * m + i then A0 0 (k - 260 * m) else A0 1 k) →
    ∃ A', f_X7_save_L54 M fu (MS S M A F H O) (oI i) = some (MS S M A' F H O) ∧ (∀ a, a ≠ 1 → A' a = A0 a) ∧ (∀ k, A' 1 k = if 260 * m ≤ k ∧ k < 260 * m + 260 then A0 0 (k - 260 * m) else A0 1 k)
  | d, 0, i, A, e, hf, h1, h2 => by omega
  | 0, fu + 1, i, A, e, hf, h1, h2 => by
    have : i = 260 := by omega
    subst this
    refine ⟨A, ?_, h1, h2⟩
    rw [f_X7_save_L54]
    simp (disch := omega) only [l260, oI_le, Nat.le_refl, Option.bind_some, reduceIte, if_true, if_false]
  | d + 1, fu + 1, i, A, e, hf, h1, h2 => by
    have e0 : A 0 i = A0 0 i := by rw [h1 0 (by decide)]
    obtain ⟨A', f1, f2, f3⟩ := x7_save_L2 (S := S) (M := M) (H := H) (O := O) (A0 := A0) hm hF d fu (i + 1) (up2 A 1 (260 * m + i) (A0 0 i)) (by omega) (by omega) (fun a ha => by rw [up2_row _ _ ha]; exact h1 a ha) (fun k => by
      by_cases c : k = 260 * m + i
      · subst c; rw [up2_eq, if_pos (by omega), Nat.add_sub_cancel_left]
      · rw [up2_ne _ _ (by omega), h2 k]
        by_cases c2 : 260 * m ≤ k ∧ k < 260 * m + i
        · rw [if_pos c2, if_pos (by omega)]
        · rw [if_neg c2, if_neg (by omega)])
    refine ⟨A', ?_, f2, f3⟩
    rw [f_X7_save_L54]
    simp (disch := omega) only [l260, oI_le, show ¬ 260 ≤ i by omega, m_r2, m_g1, hF, m_r0, m_a0 (show i < 260 by omega), oI_mul, oI_add, m_s1 (show 260 * m + i < 1560 by omega), e0, l1, Option.bind_some, reduceIte, if_true, if_false]
    exact f1
theorem x7_save {S : St} {M : Nat} {A : Nat → Nat → Int32} {F : Nat → Int32} {H : Int64} {O : Nat → Int64} {C : Cn} {nh : Nat} {Hs : Nat → Cn} (h : ModW A F C nh Hs) (ok : okS C nh Hs) :
    ∃ A', f_X7_save (MS S M A F H O) M = some (MS S M A' (upF F 1 (oI (svN nh))) H O) ∧ ModW A' (upF F 1 (oI (svN nh))) C (svN nh) (svH C nh Hs) ∧ (∀ a, a ≠ 1 → A' a = A a) := by
  obtain ⟨h1, h2, h3⟩ := h
  have h6 := ok.2.1
  by_cases c : nh < 6
  · obtain ⟨A', e1, e2, e3⟩ := x7_save_L2 (S := S) (M := M) (H := H) (O := O) c h2 260 FU 0 A (by omega) (FU_lt (by omega)) (fun _ _ => rfl) (fun k => by rw [if_neg (by omega)])
    have en : svN nh = nh + 1 := if_pos c
    rw [en]
    refine ⟨A', ?_, ⟨ShZ_congr h1 ok.1 (fun k _ => by rw [e2 0 (by decide)]), upF_eq F 1 _, fun i hi => ?_⟩, e2⟩
    · simp (disch := omega) only [f_X7_save, m_g1, h2, l6', oI_eq, show ¬ nh = 6 by omega, l0, e1, l1, oI_add, m_p1, Option.bind_some, reduceIte, if_true, if_false]
    · unfold svH
      rw [if_pos c]
      by_cases c2 : i = nh
      · subst c2
        rw [if_pos rfl]
        exact ShZ_congr h1 ok.1 (fun k hk => by rw [e3, if_pos (by omega), Nat.add_sub_cancel_left])
      · rw [if_neg c2]
        exact ShZ_congr (h3 i (by omega)) (ok.2.2 i (by omega)) (fun k hk => by rw [e3, if_neg (by omega)])
  · have e6 : nh = 6 := by omega
    subst e6
    obtain ⟨A1, d1, d2, d3⟩ := x7_save_L1 (S := S) (M := M) (F := F) (H := H) (O := O) (A0 := A) 1300 FU 0 A (by omega) (FU_lt (by omega)) (fun _ _ => rfl) (fun k => by rw [if_neg (by omega)])
    obtain ⟨A', e1, e2, e3⟩ := x7_save_L2 (S := S) (M := M) (H := H) (O := O) (A0 := A1) (F := upF F 1 (oI 5)) (m := 5) (by omega) (upF_eq F 1 _) 260 FU 0 A1 (by omega) (FU_lt (by omega)) (fun _ _ => rfl) (fun k => by rw [if_neg (by omega)])
    have en : svN 6 = 6 := rfl
    rw [en]
    refine ⟨A', ?_, ⟨ShZ_congr h1 ok.1 (fun k _ => by rw [e2 0 (by decide), d2 0 (by decide)]), upF_eq F 1 _, fun i hi => ?_⟩, fun a ha => by rw [e2 a ha, d2 a ha]⟩
    · rw [Nat.add_zero] at d1
      simp (disch := omega) only [f_X7_save, m_g1, h2, l6', l260, l0, d1, e1, l1, oI_add, oI_sub, show 6 - 1 = 5 by omega, show 5 + 1 = 6 by omega, m_p1, upF_eq, upF_up, Option.bind_some, reduceIte, if_true, if_false]
    · unfold svH
      rw [if_neg (by omega)]
      by_cases c2 : i = 5
      · subst c2
        rw [if_pos rfl]
        exact ShZ_congr h1 ok.1 (fun k hk => by rw [e3, if_pos (by omega), d2 0 (by decide), Nat.add_sub_cancel_left])
      · rw [if_neg c2]
        exact ShZ_congr (h3 (i + 1) (by omega)) (ok.2.2 (i + 1) (by omega)) (fun k hk => by rw [e3, if_neg (by omega), d3, if_pos (by omega), show 260 * i + k + 260 = 260 * (i + 1) + k by omega])
theorem x7_lay_L {S : St} {M : Nat} {A0 : Nat → Nat → Int32} {F : Nat → Int32} {H : Int64} {O : Nat → Int64} {j n : Nat} (hj : j < 8) (hn : n ≤ 24) (hF : F 7 = oI n) : ∀ (d fu i : Nat) (A : Nat → Nat → Int32), i + d = n → d < fu → (∀ a, a ≠ 3 → A a = A0 a) → (∀ k, k < i → A 3 k = A0 0 (4 + 32 * j + (8 + k))) →
    ∃ A', f_X7_lay_L12 M (oI j) fu (MS S M A F H O) (oI i) = some (MS S M A' F H O) ∧ (∀ a, a ≠ 3 → A' a = A0 a) ∧ (∀ k, k < n → A' 3 k = A0 0 (4 + 32 * j + (8 + k)))
  | d, 0, i, A, e, hf, h1, h2 => by omega
  | 0, fu + 1, i, A, e, hf, h1, h2 => by
    have : i = n := by omega
    subst this
    refine ⟨A, ?_, h1, h2⟩
    rw [f_X7_lay_L12]
    simp (disch := omega) only [m_g7, hF, oI_le, Nat.le_refl, Option.bind_some, reduceIte, if_true, if_false]
  | d + 1, fu + 1, i, A, e, hf, h1, h2 => by
    have e0 : A 0 (4 + 32 * j + (8 + i)) = A0 0 (4 + 32 * j + (8 + i)) := by rw [h1 0 (by decide)]
    obtain ⟨A', f1, f2, f3⟩ := x7_lay_L (S := S) (M := M) (H := H) (O := O) (A0 := A0) hj hn hF d fu (i + 1) (up2 A 3 i (A0 0 (4 + 32 * j + (8 + i)))) (by omega) (by omega) (fun a ha => by rw [up2_row _ _ ha]; exact h1 a ha) (fun k hk => by
      by_cases c : k = i
      · subst c; rw [up2_eq]
      · rw [up2_ne _ _ (by omega)]; exact h2 k (by omega))
    refine ⟨A', ?_, f2, f3⟩
    rw [f_X7_lay_L12]
    simp (disch := omega) only [m_g7, hF, oI_le, show ¬ n ≤ i by omega, m_r6, m_o, l8, oI_add, x7_of (show 4 + 32 * j + (8 + i) < 260 by omega), m_s3 (show i < 48 by omega), e0, l1, Option.bind_some, reduceIte, if_true, if_false]
    exact f1
theorem LdA_of {S : St} {M n : Nat} {A : Nat → Nat → Int32} {F : Nat → Int32} {H : Int64} {O : Nat → Int64} {g : Nat → Nat} (hF : F 7 = oI n) (h : ∀ k, k < n → A 3 k = oI (g k)) (hn : n ≤ 24) (hg : ∀ i, g i ≤ 255) : LdA (MS S M A F H O) M n g :=
  ⟨m_o, by rw [m_g7, hF], m_r6, fun i hi => by rw [m_a3 (show i < 48 by omega), h i hi], hn, hg⟩
/-- block j laid out in the row -/
theorem x7_lay {S : St} {M : Nat} {A : Nat → Nat → Int32} {F : Nat → Int32} {H : Int64} {O : Nat → Int64} {j : Nat} {b : Bk} (hj : j < 8) (h : ShB (A 0) j b) (ok : okB b) :
    ∃ A', f_X7_lay (MS S M A F H O) M (oI j) = some (MS S M A' (upF F 7 (oI (bN b))) H O) ∧ (∀ a, a ≠ 3 → A' a = A a) ∧ (∀ k, k < bN b → A' 3 k = oI (bG b k)) := by
  have h24 := ok.2.1
  obtain ⟨A', e1, e2, e3⟩ := x7_lay_L (S := S) (M := M) (H := H) (O := O) (A0 := A) (F := upF F 7 (oI (bN b))) hj h24 (upF_eq F 7 _) (bN b) FU 0 A (by omega) (FU_lt (by omega)) (fun _ _ => rfl) (fun k hk => by omega)
  refine ⟨A', ?_, e2, fun k hk => by rw [e3 k hk]; exact h.2.2.2.2 k hk⟩
  have e0 := x7_of (S := S) (M := M) (A := A) (F := F) (H := H) (O := O) (show 4 + 32 * j + 0 < 260 by omega)
  rw [h.1] at e0
  simp only [f_X7_lay, m_o, l0, e0, m_p7, e1, Option.bind_some, reduceIte, if_true, if_false]
