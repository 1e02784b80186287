/-! THE MODEL: take, turn, break, ask, set, undo -/
theorem m_take_1 {S : St} {M : Nat} {A : Nat → Nat → Int32} {F : Nat → Int32} {H : Int64} {O : Nat → Int64} {C : Cn} {nh : Nat} {Hs : Nat → Cn} (h : ModW A F C nh Hs) (ok : okS C nh Hs) {a p : Int32} (ha : (a < 0 ∨ oI (cN C) ≤ a) ∨ ∃ j, j < cN C ∧ a = oI j ∧ (p < 0 ∨ oI (bN (cB C j)) ≤ p)) : f_X7_take (MS S M A F H O) M a p = some (0, MS S M A (upF F 5 1) H O) := by
  simp only [f_X7_take, m_o, x7_isPlace_out h.1 ok.1 ha, m_p5, m_g5, upF_eq, show ¬ (1 : Int32) ≤ 0 by decide, show ¬ (2 : Int32) ≤ 0 by decide, show ¬ (3 : Int32) ≤ 0 by decide, show (0 : Int32) ≤ 0 by decide, show ¬ (1 : Int32) = 0 by decide, Option.bind_some, reduceIte, if_true, if_false]
theorem m_take_2 {S : St} {M : Nat} {A : Nat → Nat → Int32} {F : Nat → Int32} {H : Int64} {O : Nat → Int64} {C : Cn} {nh : Nat} {Hs : Nat → Cn} (h : ModW A F C nh Hs) (ok : okS C nh Hs) {j p : Nat} (hj : j < cN C) (hp : p < bN (cB C j)) (hn : bN (cB C j) = 1) : f_X7_take (MS S M A F H O) M (oI j) (oI p) = some (0, MS S M A (upF F 5 2) H O) := by
  simp only [f_X7_take, m_o, x7_isPlace_in h.1 ok.1 hj hp, z_n h.1 ok.1.1 hj, hn, show ((oI 1 : Int32) = 1) = True from eq_true rfl, m_p5, m_g5, upF_eq, show ¬ (1 : Int32) ≤ 0 by decide, show ¬ (2 : Int32) ≤ 0 by decide, show ¬ (3 : Int32) ≤ 0 by decide, show (0 : Int32) ≤ 0 by decide, show ¬ (1 : Int32) = 0 by decide, Option.bind_some, reduceIte, if_true, if_false]
theorem x7_take_L {S : St} {M : Nat} {A0 : Nat → Nat → Int32} {F : Nat → Int32} {H : Int64} {O : Nat → Int64} {j p : Nat} {y : Int32} (hj : j < 8) : ∀ (d fu i : Nat) (A : Nat → Nat → Int32), i + d = 23 → d < fu → p ≤ i → (∀ a, a ≠ 0 → A a = A0 a) → (∀ k, A 0 k = if 4 + 32 * j + (8 + p) ≤ k ∧ k < 4 + 32 * j + (8 + i) then A0 0 (k + 1) else A0 0 k) →
    ∃ A', f_X7_take_L58 M (oI j) y fu (MS S M A F H O) (oI i) = some (MS S M A' F H O) ∧ (∀ a, a ≠ 0 → A' a = A0 a) ∧ (∀ k, A' 0 k = if 4 + 32 * j + (8 + p) ≤ k ∧ k < 4 + 32 * j + (8 + 23) then A0 0 (k + 1) else A0 0 k)
  | d, 0, i, A, e, hf, hp, h1, h2 => by omega
  | 0, fu + 1, i, A, e, hf, hp, h1, h2 => by
    have : i = 23 := by omega
    subst this
    refine ⟨A, ?_, h1, h2⟩
    rw [f_X7_take_L58]
    simp (disch := omega) only [show (23 : Int32) = oI 23 from rfl, oI_le, Nat.le_refl, Option.bind_some, reduceIte, if_true, if_false]
  | d + 1, fu + 1, i, A, e, hf, hp, h1, h2 => by
    have e0 : A 0 (4 + 32 * j + (8 + i + 1)) = A0 0 (4 + 32 * j + (8 + i + 1)) := by rw [h2, if_neg (by omega)]
    obtain ⟨A', f1, f2, f3⟩ := x7_take_L (S := S) (M := M) (F := F) (H := H) (O := O) (A0 := A0) (p := p) (y := y) hj d fu (i + 1) (up2 A 0 (4 + 32 * j + (8 + i)) (A0 0 (4 + 32 * j + (8 + i + 1)))) (by omega) (by omega) (by omega) (fun a ha => by rw [up2_row _ _ ha]; exact h1 a ha) (fun k => by
      by_cases c : k = 4 + 32 * j + (8 + i)
      · subst c; rw [up2_eq, if_pos (by omega), Nat.add_assoc (4 + 32 * j) (8 + i) 1]
      · rw [up2_ne _ _ (by omega), h2 k]
        by_cases c2 : 4 + 32 * j + (8 + p) ≤ k ∧ k < 4 + 32 * j + (8 + i)
        · rw [if_pos c2, if_pos (by omega)]
        · rw [if_neg c2, if_neg (by omega)])
    refine ⟨A', ?_, f2, f3⟩
    rw [f_X7_take_L58]
    simp (disch := omega) only [show (23 : Int32) = oI 23 from rfl, oI_le, show ¬ 23 ≤ i by omega, m_o, l8, l1, oI_add, x7_of (show 4 + 32 * j + (8 + i + 1) < 260 by omega), e0, x7_setOf (show 4 + 32 * j + (8 + i) < 260 by omega), Option.bind_some, reduceIte, if_true, if_false]
    exact f1
theorem m_take {S : St} {M : Nat} {A : Nat → Nat → Int32} {F : Nat → Int32} {H : Int64} {O : Nat → Int64} {C : Cn} {nh : Nat} {Hs : Nat → Cn} (h : ModW A F C nh Hs) (ok : okS C nh Hs) {j p : Nat} (hj : j < cN C) (hp : p < bN (cB C j)) (hn : 1 < bN (cB C j)) :
    ∃ A' F', f_X7_take (MS S M A F H O) M (oI j) (oI p) = some (oI (bG (cB C j) p), MS S M A' F' H O) ∧ F' 5 = 0 ∧ ModW A' F' (updB C j (takeB (cB C j) p)) (svN nh) (svH C nh Hs) ∧ FrM A A' F F' := by
  have h8 := ok.1.1
  have h24 := (ok.1.2.2.2.2 j hj).2.1
  obtain ⟨A1, q1, q2, q3⟩ := x7_save (S := S) (M := M) (H := H) (O := O) (ModW_F h (show 5 ≠ 1 by decide) 0) ok
  have hb := q2.1.2.2.2.2 j hj
  obtain ⟨A2, t1, t2, t3⟩ := x7_take_L (S := S) (M := M) (F := upF (upF F 5 0) 1 (oI (svN nh))) (H := H) (O := O) (A0 := A1) (j := j) (y := oI (bG (cB C j) p)) (by omega) (23 - p) FU p A1 (by omega) (FU_lt (by omega)) (Nat.le_refl p) (fun _ _ => rfl) (fun k => by rw [if_neg (by omega)])
  have hb0 : A2 0 (4 + 32 * j + 0) = oI (bN (cB C j)) := by rw [t3, if_neg (by omega)]; exact hb.1
  refine ⟨up2 A2 0 (4 + 32 * j + 0) (oI (bN (cB C j) - 1)), upF (upF F 5 0) 1 (oI (svN nh)), ?_, by simp [upF], ?_, by rw [up2_row _ _ (by decide), t2 2 (by decide), q3 2 (by decide)], by simp [upF]⟩
  · have r1 := x7_of (S := S) (M := M) (A := A1) (F := upF (upF F 5 0) 1 (oI (svN nh))) (H := H) (O := O) (show 4 + 32 * j + (8 + p) < 260 by omega)
    have r2 := x7_of (S := S) (M := M) (A := A2) (F := upF (upF F 5 0) 1 (oI (svN nh))) (H := H) (O := O) (show 4 + 32 * j + 0 < 260 by omega)
    have s2 := x7_setOf (S := S) (M := M) (A := A2) (F := upF (upF F 5 0) 1 (oI (svN nh))) (H := H) (O := O) (show 4 + 32 * j + 0 < 260 by omega) (oI (bN (cB C j) - 1))
    rw [hb.2.2.2.2 p hp, ← oI_add 8, show (oI 8 : Int32) = 8 from rfl] at r1
    rw [hb0, show (oI 0 : Int32) = 0 from rfl] at r2
    rw [show (oI 0 : Int32) = 0 from rfl, ← oI_sub (show 1 ≤ bN (cB C j) by omega), show (oI 1 : Int32) = 1 from rfl] at s2
    rw [← oI_sub (show 1 ≤ bN (cB C j) by omega), show (oI 1 : Int32) = 1 from rfl]
    have hne : (oI (bN (cB C j)) = 1) = False := by rw [l1, oI_eq (by omega) (by omega)]; exact eq_false (by omega)
    simp only [f_X7_take, m_o, x7_isPlace_in h.1 ok.1 hj hp, z_n h.1 h8 hj, hne, m_p5, m_g5, upF_eq, q1, r1, t1, r2, s2, show ¬ (1 : Int32) ≤ 0 by decide, show ¬ (2 : Int32) ≤ 0 by decide, show ¬ (3 : Int32) ≤ 0 by decide, show (0 : Int32) ≤ 0 by decide, show ¬ (1 : Int32) = 0 by decide, Option.bind_some, reduceIte, if_true, if_false]
  · refine ModW_z q2 (ShZ_blk q2.1 ok.1 (fun i hi => by rw [up2_ne _ _ (by omega), t3, if_neg (by omega)]) ?_) (by rw [up2_row _ _ (by decide)]; exact t2 1 (by decide)) rfl
    unfold takeB
    refine ShB_mk (up2_eq _ _ _ _) (by rw [up2_ne _ _ (by omega), t3, if_neg (by omega)]; exact hb.2.1) (by rw [up2_ne _ _ (by omega), t3, if_neg (by omega)]; exact hb.2.2.1) (fun k a c => by rw [up2_ne _ _ (by omega), t3, if_neg (by omega)]; exact hb.2.2.2.1 k a c) (fun i hi => ?_)
    rw [up2_ne _ _ (by omega), t3]
    by_cases c : p ≤ i
    · rw [if_pos (by omega), if_pos c, Nat.add_assoc (4 + 32 * j) (8 + i) 1, Nat.add_assoc 8 i 1]
      exact hb.2.2.2.2 (i + 1) (by omega)
    · rw [if_neg (by omega), if_neg c]; exact hb.2.2.2.2 i (by omega)
theorem m_turn_1 {S : St} {M : Nat} {A : Nat → Nat → Int32} {F : Nat → Int32} {H : Int64} {O : Nat → Int64} {C : Cn} {nh : Nat} {Hs : Nat → Cn} (h : ModW A F C nh Hs) (ok : okS C nh Hs) {a : Int32} (ha : a < 0 ∨ oI (cN C) ≤ a) : f_X7_turn (MS S M A F H O) M a = some (0, MS S M A (upF F 5 1) H O) := by
  simp only [f_X7_turn, m_o, x7_isBlock_out h.1 ok.1.1 ha, m_p5, m_g5, upF_eq, show ¬ (1 : Int32) ≤ 0 by decide, show ¬ (2 : Int32) ≤ 0 by decide, show ¬ (3 : Int32) ≤ 0 by decide, show (0 : Int32) ≤ 0 by decide, show ¬ (1 : Int32) = 0 by decide, Option.bind_some, reduceIte, if_true, if_false]
theorem x7_turn_L {S : St} {M : Nat} {A0 : Nat → Nat → Int32} {F : Nat → Int32} {H : Int64} {O : Nat → Int64} {j n : Nat} (hj : j < 8) (hn : n ≤ 24) (hF : F 7 = oI n) : ∀ (d fu i : Nat) (A : Nat → Nat → Int32), i + d = n → d < fu → (∀ a, a ≠ 0 → A a = A0 a) → (∀ k, A 0 k = if 4 + 32 * j + 8 ≤ k ∧ k < 4 + 32 * j + (8 + i) then A0 3 (n - 1 - (k - (4 + 32 * j + 8))) else A0 0 k) →
    ∃ A', f_X7_turn_L37 M (oI j) fu (MS S M A F H O) (oI i) = some (MS S M A' F H O) ∧ (∀ a, a ≠ 0 → A' a = A0 a) ∧ (∀ k, A' 0 k = if 4 + 32 * j + 8 ≤ k ∧ k < 4 + 32 * j + (8 + n) then A0 3 (n - 1 - (k - (4 + 32 * j + 8))) else A0 0 k)
  | d, 0, i, A, e, hf, h1, h2 => by omega
  | 0, fu + 1, i, A, e, hf, h1, h2 => by
    have : i = n := by omega
    subst this
    refine ⟨A, ?_, h1, h2⟩
    rw [f_X7_turn_L37]
    simp (disch := omega) only [m_g7, hF, oI_le, Nat.le_refl, Option.bind_some, reduceIte, if_true, if_false]
  | d + 1, fu + 1, i, A, e, hf, h1, h2 => by
    have e0 : A 3 (n - 1 - i) = A0 3 (n - 1 - i) := by rw [h1 3 (by decide)]
    obtain ⟨A', f1, f2, f3⟩ := x7_turn_L (S := S) (M := M) (H := H) (O := O) (A0 := A0) hj hn hF d fu (i + 1) (up2 A 0 (4 + 32 * j + (8 + i)) (A0 3 (n - 1 - i))) (by omega) (by omega) (fun a ha => by rw [up2_row _ _ ha]; exact h1 a ha) (fun k => by
      by_cases c : k = 4 + 32 * j + (8 + i)
      · subst c; rw [up2_eq, if_pos (by omega), show 4 + 32 * j + (8 + i) - (4 + 32 * j + 8) = i by omega]
      · rw [up2_ne _ _ (by omega), h2 k]
        by_cases c2 : 4 + 32 * j + 8 ≤ k ∧ k < 4 + 32 * j + (8 + i)
        · rw [if_pos c2, if_pos (by omega)]
        · rw [if_neg c2, if_neg (by omega)])
    refine ⟨A', ?_, f2, f3⟩
    rw [f_X7_turn_L37]
    simp (disch := omega) only [m_g7, hF, oI_le, show ¬ n ≤ i by omega, m_r6, l8, l1, oI_sub, m_a3 (show n - 1 - i < 48 by omega), e0, m_o, oI_add, x7_setOf (show 4 + 32 * j + (8 + i) < 260 by omega), Option.bind_some, reduceIte, if_true, if_false]
    exact f1
theorem m_turn {S : St} {M : Nat} {A : Nat → Nat → Int32} {F : Nat → Int32} {H : Int64} {O : Nat → Int64} {C : Cn} {nh : Nat} {Hs : Nat → Cn} (h : ModW A F C nh Hs) (ok : okS C nh Hs) {j : Nat} (hj : j < cN C) :
    ∃ A' F', f_X7_turn (MS S M A F H O) M (oI j) = some (oI (bG (cB C j) (bN (cB C j) - 1)), MS S M A' F' H O) ∧ F' 5 = 0 ∧ ModW A' F' (updB C j (turnB (cB C j))) (svN nh) (svH C nh Hs) ∧ FrM A A' F F' := by
  have h8 := ok.1.1
  have hok := ok.1.2.2.2.2 j hj
  have h1 := hok.1
  have h24 := hok.2.1
  obtain ⟨A1, q1, q2, q3⟩ := x7_save (S := S) (M := M) (H := H) (O := O) (ModW_F h (show 5 ≠ 1 by decide) 0) ok
  have hb := q2.1.2.2.2.2 j hj
  obtain ⟨A2, e1, e2, e3⟩ := x7_lay (S := S) (M := M) (F := upF (upF F 5 0) 1 (oI (svN nh))) (H := H) (O := O) (j := j) (by omega) hb hok
  obtain ⟨A3, t1, t2, t3⟩ := x7_turn_L (S := S) (M := M) (F := upF (upF (upF F 5 0) 1 (oI (svN nh))) 7 (oI (bN (cB C j)))) (H := H) (O := O) (A0 := A2) (j := j) (by omega) h24 (upF_eq _ 7 _) (bN (cB C j)) FU 0 A2 (by omega) (FU_lt (by omega)) (fun _ _ => rfl) (fun k => by rw [if_neg (by omega)])
  have eZ : A2 0 = A1 0 := e2 0 (by decide)
  refine ⟨A3, upF (upF (upF F 5 0) 1 (oI (svN nh))) 7 (oI (bN (cB C j))), ?_, by simp [upF], ?_, by rw [t2 2 (by decide), e2 2 (by decide), q3 2 (by decide)], by simp [upF]⟩
  · have r1 : aI (MS S M A3 (upF (upF (upF F 5 0) 1 (oI (svN nh))) 7 (oI (bN (cB C j)))) H O) (M + 4) (oI (bN (cB C j)) - 1) = some (oI (bG (cB C j) (bN (cB C j) - 1))) := by
      rw [l1, oI_sub h1, m_a3 (show bN (cB C j) - 1 < 48 by omega), t2 3 (by decide), e3 _ (by omega)]
    rw [show (oI 0 : Int32) = 0 from rfl] at t1
    simp only [f_X7_turn, m_o, x7_isBlock_in h.1 h8 hj, m_p5, m_g5, upF_eq, q1, e1, t1, m_r6, m_g7, r1, show ¬ (1 : Int32) ≤ 0 by decide, show ¬ (2 : Int32) ≤ 0 by decide, show ¬ (3 : Int32) ≤ 0 by decide, show (0 : Int32) ≤ 0 by decide, show ¬ (1 : Int32) = 0 by decide, Option.bind_some, reduceIte, if_true, if_false]
  · refine ModW_z q2 (ShZ_blk q2.1 ok.1 (fun i hi => by rw [t3, if_neg (by omega), eZ]) ?_) (by rw [t2 1 (by decide), e2 1 (by decide)]) (upF_ne _ _ (by decide))
    unfold turnB
    refine ShB_mk (by rw [t3, if_neg (by omega), eZ]; exact hb.1) (by rw [t3, if_neg (by omega), eZ]; exact hb.2.1) (by rw [t3, if_neg (by omega), eZ]; exact hb.2.2.1) (fun k a c => by rw [t3, if_neg (by omega), eZ]; exact hb.2.2.2.1 k a c) (fun i hi => ?_)
    rw [t3, if_pos (by omega), show 4 + 32 * j + (8 + i) - (4 + 32 * j + 8) = i by omega, e3 _ (by omega)]
theorem x7_left {S : St} {M : Nat} {A : Nat → Nat → Int32} {F : Nat → Int32} {H : Int64} {O : Nat → Int64} {C : Cn} (h : ShZ (A 0) C) (ok : okC C) {j : Nat} (hj : j < cN C) : f_X7_daysLeft (MS S M A F H O) M (oI j) = some (oI (dl (bV (cB C j)) (cD C) (cY C))) := by
  have h8 := ok.1
  have hok := ok.2.2.2.2 j hj
  have hb := h.2.2.2.2 j hj
  have r2 := x7_of (S := S) (M := M) (A := A) (F := F) (H := H) (O := O) (show 4 + 32 * j + 2 < 260 by omega)
  rw [hb.2.2.1, show (oI 2 : Int32) = 2 from rfl] at r2
  have a0 := m_a0 (S := S) (M := M) (A := A) (F := F) (H := H) (O := O) (show 0 < 260 by omega)
  have a3 := m_a0 (S := S) (M := M) (A := A) (F := F) (H := H) (O := O) (show 3 < 260 by omega)
  rw [h.1, show (oI 0 : Int32) = 0 from rfl] at a0
  rw [h.2.2.2.1, show (oI 3 : Int32) = 3 from rfl] at a3
  have hd := dl_int hok.2.2.2.1 ok.2.1 ok.2.2.1
  simp only [f_X7_daysLeft, m_o, m_r0, a0, a3, r2, Option.bind_some, reduceIte, if_true, if_false]
  unfold dl
  have hv := hok.2.2.2.1
  have hy := ok.2.2.1
  by_cases c : cD C ≤ cY C + bV (cB C j)
  · rw [if_pos (by rw [Int32.le_iff_toInt_le, hd, show (0 : Int32).toInt = 0 from rfl]; omega)]
    simp only [Option.bind_some, reduceIte, if_true, if_false]
    congr 1
    rw [← Int32.toInt_inj, hd, oI_toInt (by omega)]; omega
  · rw [if_neg (by rw [Int32.le_iff_toInt_le, hd, show (0 : Int32).toInt = 0 from rfl]; omega)]
    simp only [Option.bind_some, reduceIte, if_true, if_false]
    rw [show cY C + bV (cB C j) - cD C = 0 by omega, l0]
theorem x7_fine {S : St} {M : Nat} {A : Nat → Nat → Int32} {F : Nat → Int32} {H : Int64} {O : Nat → Int64} {C : Cn} (h : ShZ (A 0) C) (ok : okC C) {j : Nat} (hj : j < cN C) : f_X7_fineOf (MS S M A F H O) M (oI j) = some (fineB C (cB C j)) := by
  have a1 := m_a0 (S := S) (M := M) (A := A) (F := F) (H := H) (O := O) (show 1 < 260 by omega)
  rw [h.2.1, show (oI 1 : Int32) = 1 from rfl] at a1
  simp only [f_X7_fineOf, m_r0, a1, m_o, x7_left h ok hj, fineB, Option.bind_some, reduceIte, if_true, if_false]
theorem m_break_1 {S : St} {M : Nat} {A : Nat → Nat → Int32} {F : Nat → Int32} {H : Int64} {O : Nat → Int64} {C : Cn} {nh : Nat} {Hs : Nat → Cn} (h : ModW A F C nh Hs) (ok : okS C nh Hs) {a : Int32} (ha : a < 0 ∨ oI (cN C) ≤ a) : f_X7_breakVow (MS S M A F H O) M a = some (0, MS S M A (upF F 5 1) H O) := by
  simp only [f_X7_breakVow, m_o, x7_isBlock_out h.1 ok.1.1 ha, m_p5, m_g5, upF_eq, show ¬ (1 : Int32) ≤ 0 by decide, show ¬ (2 : Int32) ≤ 0 by decide, show ¬ (3 : Int32) ≤ 0 by decide, show (0 : Int32) ≤ 0 by decide, show ¬ (1 : Int32) = 0 by decide, Option.bind_some, reduceIte, if_true, if_false]
theorem m_break {S : St} {M : Nat} {A : Nat → Nat → Int32} {F : Nat → Int32} {H : Int64} {O : Nat → Int64} {C : Cn} {nh : Nat} {Hs : Nat → Cn} (h : ModW A F C nh Hs) (ok : okS C nh Hs) {j : Nat} (hj : j < cN C) :
    ∃ A' F', f_X7_breakVow (MS S M A F H O) M (oI j) = some (fineB C (cB C j), MS S M A' F' H O) ∧ F' 5 = 0 ∧ ModW A' F' (updB C j (breakB C (cB C j))) (svN nh) (svH C nh Hs) ∧ FrM A A' F F' := by
  have h8 := ok.1.1
  have hok := ok.1.2.2.2.2 j hj
  obtain ⟨A1, q1, q2, q3⟩ := x7_save (S := S) (M := M) (H := H) (O := O) (ModW_F h (show 5 ≠ 1 by decide) 0) ok
  have hb := q2.1.2.2.2.2 j hj
  have hb1 := ShB_k hb (show 3 ≤ 6 by decide) (show 6 < 8 by decide) (bK (cB C j) 6 + fineB C (cB C j))
  obtain ⟨A2, c1, c2, c3, c4⟩ := x7_choose (S := S) (M := M) (F := upF (upF F 5 0) 1 (oI (svN nh))) (H := H) (O := O) (day := cD C) (j := j) (by omega) hb1 (okB_k hok 6 _) (by rw [up2_ne _ _ (by omega)]; exact q2.1.2.2.2.1)
  have e6 := hb.2.2.2.1 6 (by omega) (by omega)
  have r6 := x7_of (S := S) (M := M) (A := A1) (F := upF (upF F 5 0) 1 (oI (svN nh))) (H := H) (O := O) (show 4 + 32 * j + 6 < 260 by omega)
  have s6 := x7_setOf (S := S) (M := M) (A := A1) (F := upF (upF F 5 0) 1 (oI (svN nh))) (H := H) (O := O) (show 4 + 32 * j + 6 < 260 by omega) (bK (cB C j) 6 + fineB C (cB C j))
  rw [e6, show (oI 6 : Int32) = 6 from rfl] at r6
  rw [show (oI 6 : Int32) = 6 from rfl] at s6
  change _ = some (MS S M A2 (upF (upF (upF F 5 0) 1 (oI (svN nh))) 7 (oI (bN (cB C j)))) H O) at c1
  refine ⟨A2, upF (upF (upF F 5 0) 1 (oI (svN nh))) 7 (oI (bN (cB C j))), ?_, ?_, ModW_z q2 (ShZ_blk q2.1 ok.1 (fun i hi => by rw [c4 i hi, up2_ne _ _ (by omega)]) c3) (by rw [c2 1 (by decide) (by decide), up2_row _ _ (by decide)]) (upF_ne _ _ (by decide)), by rw [c2 2 (by decide) (by decide), up2_row _ _ (by decide), q3 2 (by decide)], ?_⟩
  · simp only [f_X7_breakVow, m_o, x7_isBlock_in h.1 h8 hj, m_p5, m_g5, upF_eq, q1, x7_fine q2.1 ok.1 hj, r6, s6, c1, show ¬ (1 : Int32) ≤ 0 by decide, show ¬ (2 : Int32) ≤ 0 by decide, show ¬ (3 : Int32) ≤ 0 by decide, show (0 : Int32) ≤ 0 by decide, show ¬ (1 : Int32) = 0 by decide, Option.bind_some, reduceIte, if_true, if_false]
  · simp [upF]
  · simp [upF]
