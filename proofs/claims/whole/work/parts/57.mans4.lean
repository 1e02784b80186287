/-! THE MODEL'S ANSWERS: cheapest whole, mate -/
theorem x7_cheap {S : St} {M : Nat} {A : Nat → Nat → Int32} {F : Nat → Int32} {H : Int64} {O : Nat → Int64} {C : Cn} (h : ShZ (A 0) C) (ok : okC C) {j p : Nat} (hj : j < cN C) (hp : p < bN (cB C j)) :
    ∃ A' F', f_X7_cheapestNow (MS S M A F H O) M (oI j) (oI p) = some (oI (chF (cB C j) p 255), MS S M A' F' H O) ∧ FrL A A' F F' := by
  have hok := ok.2.2.2.2 j hj
  have h24 := hok.2.1
  obtain ⟨A1, F1, e1, e2, e3, e4, e5, e6⟩ := x7_laid (S := S) (M := M) (F := F) (H := H) (O := O) h ok hj
  have hz1 : ShZ (up2 A1 3 p (oI 0) 0) C := by rw [up2_row _ _ (by decide)]; exact e3
  obtain ⟨A2, c1, c2⟩ := x7_cheap_L (S := S) (M := M) (H := H) (O := O) ok hj hp e5 255 (FU - 1) 0 (up2 A1 3 p (oI 0)) (by omega) (by show 255 + 1 < FU - 1; simp [FU]) hz1 (fun k a b => by rw [up2_ne _ _ (fun c => b c.2)]; exact e6 k a)
  refine ⟨A2, F1, ?_, FrL_trans e2 ⟨fun a ha => by rw [c2 a ha, up2_row _ _ ha], fun _ _ => rfl⟩⟩
  have hL : LdA (MS S M (up2 A1 3 p (oI 0)) F1 H O) M (bN (cB C j)) (fun k => if k = p then 0 else bG (cB C j) k) := LdA_of e5 (fun k hk => by
    by_cases c : k = p
    · subst c; rw [up2_eq, if_pos rfl]
    · rw [up2_ne _ _ (fun e => c e.2), if_neg c]; exact e6 k hk) h24 (fun k => by
    split
    · omega
    · exact hok.2.2.2.2 k)
  have eb : f_X7_costBy (MS S M (up2 A1 3 p (oI 0)) F1 H O) M (oI (bC (cB C j))) = some (oI (chC (cB C j) p 0)) := x7_cost hL hok.1 hok.2.2.1
  have ec := x7_code (S := S) (M := M) (A := up2 A1 3 p (oI 0)) (F := F1) (H := H) (O := O) hz1 ok hj
  have s0 := m_s3 (S := S) (M := M) (A := A1) (F := F1) (H := H) (O := O) (show p < 48 by omega) (oI 0)
  have hU : FU = (FU - 1) + 1 := rfl
  rw [show (oI 0 : Int32) = 0 from rfl] at s0 eb ec
  rw [show chF (cB C j) p 0 = 0 from rfl, Nat.zero_add, show (oI 0 : Int32) = 0 from rfl, show (oI 1 : Int32) = 1 from rfl] at c1
  simp only [f_X7_cheapestNow, m_o, e1, Option.bind_some]
  rw [hU, f_X7_cheapestNow_L13]
  simp only [show ¬ ((256 : Int32) ≤ 0) by decide, m_r6, s0, m_o, ec, eb, show ¬ (1 : Int32) = 0 by decide, show (0 + 1 : Int32) = 1 by decide, c1, Option.bind_some, reduceIte, if_true, if_false]
theorem x7_mate_L {S : St} {M : Nat} {H : Int64} {O : Nat → Int64} {C : Cn} (ok : okC C) {j : Nat} (hj : j < cN C) : ∀ (d fu i : Nat) (A : Nat → Nat → Int32) (F : Nat → Int32), i + d = cN C → d < fu → ShZ (A 0) C →
    ∃ A' F', f_X7_mateFor_L7 M (oI j) fu (MS S M A F H O) (mt C j i).1 (mt C j i).2 (oI i) = some ((mt C j (cN C)).1, MS S M A' F' H O) ∧ FrL A A' F F'
  | d, 0, i, A, F, e, hf, h => by omega
  | 0, fu + 1, i, A, F, e, hf, h => by
    have h8 := ok.1
    have : i = cN C := by omega
    subst this
    refine ⟨A, F, ?_, FrL_refl A F⟩
    rw [f_X7_mateFor_L7]
    simp (disch := omega) only [m_r0, z_many h, oI_le, Nat.le_refl, Option.bind_some, reduceIte, if_true, if_false]
  | d + 1, fu + 1, i, A, F, e, hf, h => by
    have h8 := ok.1
    have hi : i < cN C := by omega
    have hok := ok.2.2.2.2 j hj
    have kok := ok.2.2.2.2 i hi
    have hc := x7_can (S := S) (M := M) (F := F) (H := H) (O := O) h ok hj hi
    rw [f_X7_mateFor_L7]
    simp (disch := omega) only [m_r0, z_many h, oI_le, show ¬ cN C ≤ i by omega, m_o, l1, oI_add, Option.bind_some, reduceIte, if_true, if_false]
    rw [hc]
    by_cases c : j = i ∨ 24 < bN (cB C j) + bN (cB C i)
    · have em : mt C j (i + 1) = mt C j i := by rw [mt, if_pos (by omega)]
      obtain ⟨A', F', e1, e2⟩ := x7_mate_L (S := S) (M := M) (H := H) (O := O) ok hj d fu (i + 1) A F (by omega) (by omega) h
      rw [em] at e1
      refine ⟨A', F', ?_, e2⟩
      simp only [if_pos c, Option.bind_some, reduceIte, if_true, if_false]
      exact e1
    · obtain ⟨A1, b1, b2, b3⟩ := x7_both (S := S) (M := M) (F := F) (H := H) (O := O) (j := j) (k := i) (by omega) (by omega) (h.2.2.2.2 j hj) (h.2.2.2.2 i hi) hok kok (by omega)
      have f1 := FrL_lay (F := F) b2 (oI (bN (cB C j) + bN (cB C i)))
      have hz := FrL_Z f1 h
      have hL : LdA (MS S M A1 (upF F 7 (oI (bN (cB C j) + bN (cB C i)))) H O) M (bN (cB C j) + bN (cB C i)) (jg (cB C j) (cB C i)) := LdA_of (upF_eq _ 7 _) b3 (by omega) (fun k => by
        unfold jg
        split
        · exact hok.2.2.2.2 k
        · exact kok.2.2.2.2 _)
      have eb := x7_cost hL (by have := hok.1; omega) hok.2.2.1
      have ec := x7_code (S := S) (M := M) (A := A1) (F := upF F 7 (oI (bN (cB C j) + bN (cB C i)))) (H := H) (O := O) hz ok hj
      have em : mt C j (i + 1) = if (mt C j i).1 = -1 then (oI i, oI (bt (jg (cB C j) (cB C i)) (bN (cB C j) + bN (cB C i)) (bC (cB C j)))) else if (mt C j i).2 ≤ oI (bt (jg (cB C j) (cB C i)) (bN (cB C j) + bN (cB C i)) (bC (cB C j))) then mt C j i else (oI i, oI (bt (jg (cB C j) (cB C i)) (bN (cB C j) + bN (cB C i)) (bC (cB C j)))) := by
        rw [mt, if_neg (by omega)]
      obtain ⟨A', F', e1, e2⟩ := x7_mate_L (S := S) (M := M) (H := H) (O := O) ok hj d fu (i + 1) A1 (upF F 7 (oI (bN (cB C j) + bN (cB C i)))) (by omega) (by omega) hz
      rw [em] at e1
      refine ⟨A', F', ?_, FrL_trans f1 e2⟩
      rw [show (1 : Int32) = oI 1 from rfl] at ec
      simp only [if_neg c, show ¬ (1 : Int32) = 0 by decide, show ¬ (oI 1 = 0) by decide, b1, m_o, ec, eb, Option.bind_some, reduceIte, if_true, if_false]
      by_cases d1 : (mt C j i).1 = -1
      · have d1' : (mt C j i).1 = -oI 1 := d1
        rw [if_pos d1] at e1
        simp only [d1', show ¬ (oI 1 = 0) by decide, Option.bind_some, reduceIte, if_true, if_false]
        exact e1
      · have d1' : ¬ (mt C j i).1 = -oI 1 := d1
        rw [if_neg d1] at e1
        by_cases d2 : (mt C j i).2 ≤ oI (bt (jg (cB C j) (cB C i)) (bN (cB C j) + bN (cB C i)) (bC (cB C j)))
        · rw [if_pos d2] at e1
          simp only [d1', d2, Option.bind_some, reduceIte, if_true, if_false]
          exact e1
        · rw [if_neg d2] at e1
          simp only [d1', d2, show ¬ (oI 1 = 0) by decide, Option.bind_some, reduceIte, if_true, if_false]
          exact e1
theorem x7_mate {S : St} {M : Nat} {A : Nat → Nat → Int32} {F : Nat → Int32} {H : Int64} {O : Nat → Int64} {C : Cn} (h : ShZ (A 0) C) (ok : okC C) {j : Nat} (hj : j < cN C) :
    ∃ A' F', f_X7_mateFor (MS S M A F H O) M (oI j) = some ((mt C j (cN C)).1, MS S M A' F' H O) ∧ FrL A A' F F' := by
  have h8 := ok.1
  obtain ⟨A', F', e1, e2⟩ := x7_mate_L (S := S) (M := M) (H := H) (O := O) ok hj (cN C) FU 0 A F (by omega) (FU_lt (by omega)) h
  refine ⟨A', F', ?_, e2⟩
  rw [show mt C j 0 = (-1, 0) from rfl, show (oI 0 : Int32) = 0 from rfl] at e1
  simp only [f_X7_mateFor, e1, Option.bind_some, reduceIte, if_true, if_false]
