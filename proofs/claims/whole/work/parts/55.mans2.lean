/-! THE MODEL'S ANSWERS, continued -/
theorem x7_now {S : St} {M : Nat} {A : Nat → Nat → Int32} {F : Nat → Int32} {H : Int64} {O : Nat → Int64} {C : Cn} (h : ShZ (A 0) C) (ok : okC C) {j i : Nat} (hj : j < cN C) (hi : i ≤ 11) :
    ∃ A' F', f_X7_blockNow (MS S M A F H O) M (oI j) (oI i) = some (pr C j i, MS S M A' F' H O) ∧ FrL A A' F F' := by
  have h8 := ok.1
  have hok := ok.2.2.2.2 j hj
  obtain ⟨A1, e1, e2, e3⟩ := x7_lay (S := S) (M := M) (F := F) (H := H) (O := O) (j := j) (by omega) (h.2.2.2.2 j hj) hok
  have f1 := FrL_lay (F := F) e2 (oI (bN (cB C j)))
  have hz := FrL_Z f1 h
  have hb := hz.2.2.2.2 j hj
  have hL : LdA (MS S M A1 (upF F 7 (oI (bN (cB C j)))) H O) M (bN (cB C j)) (bG (cB C j)) := LdA_of (upF_eq _ 7 _) e3 hok.2.1 hok.2.2.2.2
  have b1 := x7_cost hL hok.1 hok.2.2.1
  have b2 := x7_best hL hok.1
  have b3 := x7_cost hL hok.1 (bs_le (bG (cB C j)) (bN (cB C j)))
  have b4 := x7_fal (S := S) (M := M) (F := upF F 7 (oI (bN (cB C j)))) (H := H) (O := O) hz ok hj
  refine ⟨A1, upF F 7 (oI (bN (cB C j))), ?_, f1⟩
  have o0 := of_ne (S := S) (M := M) (A := A1) (A' := A1) (F := upF F 7 (oI (bN (cB C j)))) (H := H) (O := O) (j := j) (c := oI 0) (show 4 + 32 * j + 0 < 260 by omega) hb.1 rfl
  have o1 := of_ne (S := S) (M := M) (A := A1) (A' := A1) (F := upF F 7 (oI (bN (cB C j)))) (H := H) (O := O) (j := j) (c := 1) (show 4 + 32 * j + 1 < 260 by omega) hb.2.1 rfl
  have o2 := of_ne (S := S) (M := M) (A := A1) (A' := A1) (F := upF F 7 (oI (bN (cB C j)))) (H := H) (O := O) (j := j) (c := 2) (show 4 + 32 * j + 2 < 260 by omega) hb.2.2.1 rfl
  have o3 := of_ne (S := S) (M := M) (A := A1) (A' := A1) (F := upF F 7 (oI (bN (cB C j)))) (H := H) (O := O) (j := j) (c := 3) (show 4 + 32 * j + 3 < 260 by omega) (hb.2.2.2.1 3 (by decide) (by decide)) rfl
  have o4 := of_ne (S := S) (M := M) (A := A1) (A' := A1) (F := upF F 7 (oI (bN (cB C j)))) (H := H) (O := O) (j := j) (c := 4) (show 4 + 32 * j + 4 < 260 by omega) (hb.2.2.2.1 4 (by decide) (by decide)) rfl
  have o5 := of_ne (S := S) (M := M) (A := A1) (A' := A1) (F := upF F 7 (oI (bN (cB C j)))) (H := H) (O := O) (j := j) (c := 5) (show 4 + 32 * j + 5 < 260 by omega) (hb.2.2.2.1 5 (by decide) (by decide)) rfl
  have o6 := of_ne (S := S) (M := M) (A := A1) (A' := A1) (F := upF F 7 (oI (bN (cB C j)))) (H := H) (O := O) (j := j) (c := 6) (show 4 + 32 * j + 6 < 260 by omega) (hb.2.2.2.1 6 (by decide) (by decide)) rfl
  have o7 := of_ne (S := S) (M := M) (A := A1) (A' := A1) (F := upF F 7 (oI (bN (cB C j)))) (H := H) (O := O) (j := j) (c := 7) (show 4 + 32 * j + 7 < 260 by omega) (hb.2.2.2.1 7 (by decide) (by decide)) rfl
  have o1' := of_ne (S := S) (M := M) (A := A1) (A' := A1) (F := upF F 7 (oI (bN (cB C j)))) (H := H) (O := O) (j := j) (c := oI 1) (show 4 + 32 * j + 1 < 260 by omega) hb.2.1 rfl
  have hc : i = 0 ∨ i = 1 ∨ i = 2 ∨ i = 3 ∨ i = 4 ∨ i = 5 ∨ i = 6 ∨ i = 7 ∨ i = 8 ∨ i = 9 ∨ i = 10 ∨ i = 11 := by omega
  rcases hc with rfl | rfl | rfl | rfl | rfl | rfl | rfl | rfl | rfl | rfl | rfl | rfl
  · simp only [f_X7_blockNow, m_o, e1, Option.bind_some]
    rw [if_pos (show oI 0 = 0 from rfl)]
    simp only [o0, Option.bind_some, reduceIte, if_true, if_false]
    rfl
  · simp only [f_X7_blockNow, m_o, e1, Option.bind_some]
    rw [if_neg (show ¬ oI 1 = 0 by decide), if_pos (show oI 1 = 1 from rfl)]
    simp only [o1', Option.bind_some, reduceIte, if_true, if_false]
    rfl
  · simp only [f_X7_blockNow, m_o, e1, Option.bind_some]
    rw [if_neg (show ¬ oI 2 = 0 by decide), if_neg (show ¬ oI 2 = 1 by decide), if_pos (show oI 2 = 2 from rfl)]
    simp only [o1, b1, Option.bind_some, reduceIte, if_true, if_false]
    rfl
  · simp only [f_X7_blockNow, m_o, e1, Option.bind_some]
    rw [if_neg (show ¬ oI 3 = 0 by decide), if_neg (show ¬ oI 3 = 1 by decide), if_neg (show ¬ oI 3 = 2 by decide), if_pos (show oI 3 = 3 from rfl)]
    simp only [o2, Option.bind_some, reduceIte, if_true, if_false]
    rfl
  · simp only [f_X7_blockNow, m_o, e1, Option.bind_some]
    rw [if_neg (show ¬ oI 4 = 0 by decide), if_neg (show ¬ oI 4 = 1 by decide), if_neg (show ¬ oI 4 = 2 by decide), if_neg (show ¬ oI 4 = 3 by decide), if_pos (show oI 4 = 4 from rfl)]
    simp only [o3, Option.bind_some, reduceIte, if_true, if_false]
    rfl
  · simp only [f_X7_blockNow, m_o, e1, Option.bind_some]
    rw [if_neg (show ¬ oI 5 = 0 by decide), if_neg (show ¬ oI 5 = 1 by decide), if_neg (show ¬ oI 5 = 2 by decide), if_neg (show ¬ oI 5 = 3 by decide), if_neg (show ¬ oI 5 = 4 by decide), if_pos (show oI 5 = 5 from rfl)]
    simp only [o4, Option.bind_some, reduceIte, if_true, if_false]
    rfl
  · simp only [f_X7_blockNow, m_o, e1, Option.bind_some]
    rw [if_neg (show ¬ oI 6 = 0 by decide), if_neg (show ¬ oI 6 = 1 by decide), if_neg (show ¬ oI 6 = 2 by decide), if_neg (show ¬ oI 6 = 3 by decide), if_neg (show ¬ oI 6 = 4 by decide), if_neg (show ¬ oI 6 = 5 by decide), if_pos (show oI 6 = 6 from rfl)]
    simp only [o5, Option.bind_some, reduceIte, if_true, if_false]
    rfl
  · simp only [f_X7_blockNow, m_o, e1, Option.bind_some]
    rw [if_neg (show ¬ oI 7 = 0 by decide), if_neg (show ¬ oI 7 = 1 by decide), if_neg (show ¬ oI 7 = 2 by decide), if_neg (show ¬ oI 7 = 3 by decide), if_neg (show ¬ oI 7 = 4 by decide), if_neg (show ¬ oI 7 = 5 by decide), if_neg (show ¬ oI 7 = 6 by decide), if_pos (show oI 7 = 7 from rfl)]
    simp only [o6, Option.bind_some, reduceIte, if_true, if_false]
    rfl
  · simp only [f_X7_blockNow, m_o, e1, Option.bind_some]
    rw [if_neg (show ¬ oI 8 = 0 by decide), if_neg (show ¬ oI 8 = 1 by decide), if_neg (show ¬ oI 8 = 2 by decide), if_neg (show ¬ oI 8 = 3 by decide), if_neg (show ¬ oI 8 = 4 by decide), if_neg (show ¬ oI 8 = 5 by decide), if_neg (show ¬ oI 8 = 6 by decide), if_neg (show ¬ oI 8 = 7 by decide), if_pos (show oI 8 = 8 from rfl)]
    simp only [b2, Option.bind_some, reduceIte, if_true, if_false]
    rfl
  · simp only [f_X7_blockNow, m_o, e1, Option.bind_some]
    rw [if_neg (show ¬ oI 9 = 0 by decide), if_neg (show ¬ oI 9 = 1 by decide), if_neg (show ¬ oI 9 = 2 by decide), if_neg (show ¬ oI 9 = 3 by decide), if_neg (show ¬ oI 9 = 4 by decide), if_neg (show ¬ oI 9 = 5 by decide), if_neg (show ¬ oI 9 = 6 by decide), if_neg (show ¬ oI 9 = 7 by decide), if_neg (show ¬ oI 9 = 8 by decide), if_pos (show oI 9 = 9 from rfl)]
    simp only [b2, b3, Option.bind_some, reduceIte, if_true, if_false]
    rfl
  · simp only [f_X7_blockNow, m_o, e1, Option.bind_some]
    rw [if_neg (show ¬ oI 10 = 0 by decide), if_neg (show ¬ oI 10 = 1 by decide), if_neg (show ¬ oI 10 = 2 by decide), if_neg (show ¬ oI 10 = 3 by decide), if_neg (show ¬ oI 10 = 4 by decide), if_neg (show ¬ oI 10 = 5 by decide), if_neg (show ¬ oI 10 = 6 by decide), if_neg (show ¬ oI 10 = 7 by decide), if_neg (show ¬ oI 10 = 8 by decide), if_neg (show ¬ oI 10 = 9 by decide), if_pos (show oI 10 = 10 from rfl)]
    simp only [b4, Option.bind_some, reduceIte, if_true, if_false]
    rfl
  · simp only [f_X7_blockNow, m_o, e1, Option.bind_some]
    rw [if_neg (show ¬ oI 11 = 0 by decide), if_neg (show ¬ oI 11 = 1 by decide), if_neg (show ¬ oI 11 = 2 by decide), if_neg (show ¬ oI 11 = 3 by decide), if_neg (show ¬ oI 11 = 4 by decide), if_neg (show ¬ oI 11 = 5 by decide), if_neg (show ¬ oI 11 = 6 by decide), if_neg (show ¬ oI 11 = 7 by decide), if_neg (show ¬ oI 11 = 8 by decide), if_neg (show ¬ oI 11 = 9 by decide), if_neg (show ¬ oI 11 = 10 by decide)]
    simp only [o7, Option.bind_some, reduceIte, if_true, if_false]
    rfl
theorem x7_sum_L {S : St} {M : Nat} {H : Int64} {O : Nat → Int64} {C : Cn} (ok : okC C) {k : Nat} (hk : k ≤ 11) : ∀ (d fu i : Nat) (A : Nat → Nat → Int32) (F : Nat → Int32), i + d = cN C → d < fu → ShZ (A 0) C →
    ∃ A' F', f_X7_sumOf_L4 M (oI k) fu (MS S M A F H O) (sumP C k i) (oI i) = some (sumP C k (cN C), MS S M A' F' H O) ∧ FrL A A' F F'
  | d, 0, i, A, F, e, hf, h => by omega
  | 0, fu + 1, i, A, F, e, hf, h => by
    have h8 := ok.1
    have : i = cN C := by omega
    subst this
    refine ⟨A, F, ?_, FrL_refl A F⟩
    rw [f_X7_sumOf_L4]
    simp (disch := omega) only [m_r0, z_many h, oI_le, Nat.le_refl, Option.bind_some, reduceIte, if_true, if_false]
  | d + 1, fu + 1, i, A, F, e, hf, h => by
    have h8 := ok.1
    obtain ⟨A1, F1, e1, e2⟩ := x7_now (S := S) (M := M) (A := A) (F := F) (H := H) (O := O) h ok (show i < cN C by omega) hk
    obtain ⟨A', F', f1, f2⟩ := x7_sum_L (S := S) (M := M) (H := H) (O := O) ok hk d fu (i + 1) A1 F1 (by omega) (by omega) (FrL_Z e2 h)
    refine ⟨A', F', ?_, FrL_trans e2 f2⟩
    rw [f_X7_sumOf_L4]
    simp (disch := omega) only [m_r0, z_many h, oI_le, show ¬ cN C ≤ i by omega, m_o, l1, oI_add, Option.bind_some, reduceIte, if_true, if_false]
    rw [e1]
    exact f1
theorem x7_sum {S : St} {M : Nat} {A : Nat → Nat → Int32} {F : Nat → Int32} {H : Int64} {O : Nat → Int64} {C : Cn} (h : ShZ (A 0) C) (ok : okC C) {k : Nat} (hk : k ≤ 11) :
    ∃ A' F', f_X7_sumOf (MS S M A F H O) M (oI k) = some (sumP C k (cN C), MS S M A' F' H O) ∧ FrL A A' F F' := by
  have h8 := ok.1
  obtain ⟨A', F', e1, e2⟩ := x7_sum_L (S := S) (M := M) (H := H) (O := O) ok hk (cN C) FU 0 A F (by omega) (FU_lt (by omega)) h
  refine ⟨A', F', ?_, e2⟩
  rw [show sumP C k 0 = 0 from rfl, show (oI 0 : Int32) = 0 from rfl] at e1
  simp only [f_X7_sumOf, e1, Option.bind_some, reduceIte, if_true, if_false]
theorem x7_with_L {S : St} {M : Nat} {A : Nat → Nat → Int32} {F : Nat → Int32} {H : Int64} {O : Nat → Int64} {C : Cn} (h : ShZ (A 0) C) (ok : okC C) {c : Nat} (hc : c ≤ 5) : ∀ (d fu i : Nat), i + d = cN C → d < fu →
    f_X7_blocksWith_L4 (MS S M A F H O) M (oI c) fu (oI (cwc C c i)) (oI i) = some (oI (cwc C c (cN C)))
  | d, 0, i, e, hf => by omega
  | 0, fu + 1, i, e, hf => by
    have h8 := ok.1
    have : i = cN C := by omega
    subst this
    rw [f_X7_blocksWith_L4]
    simp (disch := omega) only [m_r0, z_many h, oI_le, Nat.le_refl, Option.bind_some, reduceIte, if_true, if_false]
  | d + 1, fu + 1, i, e, hf => by
    have h8 := ok.1
    have ih := x7_with_L (S := S) (M := M) (F := F) (H := H) (O := O) h ok hc d fu (i + 1) (by omega) (by omega)
    have h5 := (ok.2.2.2.2 i (by omega)).2.2.1
    have o1 := of_ne (S := S) (M := M) (A := A) (A' := A) (F := F) (H := H) (O := O) (j := i) (c := 1) (show 4 + 32 * i + 1 < 260 by omega) (h.2.2.2.2 i (by omega)).2.1 rfl
    rw [f_X7_blocksWith_L4]
    simp (disch := omega) only [m_r0, z_many h, oI_le, show ¬ cN C ≤ i by omega, ne_m1 (show c < 2147483648 by omega), m_o, o1, oI_eq, Option.bind_some, reduceIte, if_true, if_false]
    rw [cwc] at ih
    by_cases c' : bC (cB C i) = c
    · simp only [c', l1, oI_add, Option.bind_some, reduceIte, if_true, if_false] at ih ⊢
      exact ih
    · simp only [c', l1, l0, oI_add, Nat.add_zero, Option.bind_some, reduceIte, if_true, if_false] at ih ⊢
      exact ih
theorem x7_rows_L {S : St} {M : Nat} {A : Nat → Nat → Int32} {F : Nat → Int32} {H : Int64} {O : Nat → Int64} {C : Cn} (h : ShZ (A 0) C) (ok : okC C) : ∀ (d fu i : Nat), i + d = cN C → d < fu →
    f_X7_blocksWith_L4 (MS S M A F H O) M (-1) fu (oI (cdr C i)) (oI i) = some (oI (cdr C (cN C)))
  | d, 0, i, e, hf => by omega
  | 0, fu + 1, i, e, hf => by
    have h8 := ok.1
    have : i = cN C := by omega
    subst this
    rw [f_X7_blocksWith_L4]
    simp (disch := omega) only [m_r0, z_many h, oI_le, Nat.le_refl, Option.bind_some, reduceIte, if_true, if_false]
  | d + 1, fu + 1, i, e, hf => by
    have h8 := ok.1
    have ih := x7_rows_L (S := S) (M := M) (F := F) (H := H) (O := O) h ok d fu (i + 1) (by omega) (by omega)
    have hl := fal_le (cB C) (show i < cN C by omega)
    have b4 := x7_fal (S := S) (M := M) (F := F) (H := H) (O := O) h ok (show i < cN C by omega)
    rw [f_X7_blocksWith_L4]
    simp (disch := omega) only [m_r0, z_many h, oI_le, show ¬ cN C ≤ i by omega, m_o, b4, oI_eq, Option.bind_some, reduceIte, if_true, if_false]
    rw [cdr] at ih
    by_cases c' : fal (cB C) (cN C) (bN (cB C i)) (bG (cB C i)) = i
    · rw [if_pos c'] at ih ⊢
      simp only [l1, oI_add, Option.bind_some, reduceIte, if_true, if_false]
      exact ih
    · rw [if_neg c'] at ih ⊢
      simp only [l1, l0, oI_add, Nat.add_zero, Option.bind_some, reduceIte, if_true, if_false] at ih ⊢
      exact ih
theorem x7_with {S : St} {M : Nat} {A : Nat → Nat → Int32} {F : Nat → Int32} {H : Int64} {O : Nat → Int64} {C : Cn} (h : ShZ (A 0) C) (ok : okC C) {c : Nat} (hc : c ≤ 5) : f_X7_blocksWith (MS S M A F H O) M (oI c) = some (oI (cwc C c (cN C))) := by
  have h8 := ok.1
  have := x7_with_L (S := S) (M := M) (F := F) (H := H) (O := O) h ok hc (cN C) FU 0 (by omega) (FU_lt (by omega))
  rw [show cwc C c 0 = 0 from rfl, show (oI 0 : Int32) = 0 from rfl] at this
  simp only [f_X7_blocksWith, this, Option.bind_some, reduceIte, if_true, if_false]
theorem x7_rows {S : St} {M : Nat} {A : Nat → Nat → Int32} {F : Nat → Int32} {H : Int64} {O : Nat → Int64} {C : Cn} (h : ShZ (A 0) C) (ok : okC C) : f_X7_blocksWith (MS S M A F H O) M (-1) = some (oI (cdr C (cN C))) := by
  have h8 := ok.1
  have := x7_rows_L (S := S) (M := M) (F := F) (H := H) (O := O) h ok (cN C) FU 0 (by omega) (FU_lt (by omega))
  rw [show cdr C 0 = 0 from rfl, show (oI 0 : Int32) = 0 from rfl] at this
  simp only [f_X7_blocksWith, this, Option.bind_some, reduceIte, if_true, if_false]
theorem x7_counted {S : St} {M : Nat} {A : Nat → Nat → Int32} {F : Nat → Int32} {H : Int64} {O : Nat → Int64} {C : Cn} {nh : Nat} {Hs : Nat → Cn} (h : ModW A F C nh Hs) (ok : okS C nh Hs) {i : Nat} (hi : i ≤ 15) :
    ∃ A' F', f_X7_counted (MS S M A F H O) M (oI i) = some (ct C nh i, MS S M A' F' H O) ∧ FrL A A' F F' := by
  have h8 := ok.1.1
  have hc : i = 0 ∨ i = 1 ∨ i = 2 ∨ i = 3 ∨ i = 4 ∨ i = 5 ∨ i = 6 ∨ i = 7 ∨ i = 8 ∨ i = 9 ∨ i = 10 ∨ i = 11 ∨ i = 12 ∨ i = 13 ∨ i = 14 ∨ i = 15 := by omega
  rcases hc with rfl | rfl | rfl | rfl | rfl | rfl | rfl | rfl | rfl | rfl | rfl | rfl | rfl | rfl | rfl | rfl
  · refine ⟨A, F, ?_, FrL_refl A F⟩
    rw [f_X7_counted, if_pos (show oI 0 = 0 from rfl)]
    simp only [m_r0, z_many h.1, Option.bind_some, reduceIte, if_true, if_false]
    rfl
  · refine ⟨A, F, ?_, FrL_refl A F⟩
    rw [f_X7_counted, if_neg (show ¬ oI 1 = 0 by decide), if_pos (show oI 1 = 1 from rfl)]
    simp only [m_r0, z_day h.1, Option.bind_some, reduceIte, if_true, if_false]
    rfl
  · obtain ⟨A1, F1, e1, e2⟩ := x7_sum (S := S) (M := M) (A := A) (F := F) (H := H) (O := O) h.1 ok.1 (show 0 ≤ 11 by decide)
    rw [show (oI 0 : Int32) = 0 from rfl] at e1
    refine ⟨A1, F1, ?_, e2⟩
    rw [f_X7_counted, if_neg (show ¬ oI 2 = 0 by decide), if_neg (show ¬ oI 2 = 1 by decide), if_pos (show oI 2 = 2 from rfl)]
    simp only [m_o, e1, Option.bind_some, reduceIte, if_true, if_false]
    rfl
  · obtain ⟨A1, F1, e1, e2⟩ := x7_sum (S := S) (M := M) (A := A) (F := F) (H := H) (O := O) h.1 ok.1 (show 2 ≤ 11 by decide)
    rw [show (oI 2 : Int32) = 2 from rfl] at e1
    refine ⟨A1, F1, ?_, e2⟩
    rw [f_X7_counted, if_neg (show ¬ oI 3 = 0 by decide), if_neg (show ¬ oI 3 = 1 by decide), if_neg (show ¬ oI 3 = 2 by decide), if_pos (show oI 3 = 3 from rfl)]
    simp only [m_o, e1, Option.bind_some, reduceIte, if_true, if_false]
    rfl
  · obtain ⟨A1, F1, e1, e2⟩ := x7_sum (S := S) (M := M) (A := A) (F := F) (H := H) (O := O) h.1 ok.1 (show 9 ≤ 11 by decide)
    rw [show (oI 9 : Int32) = 9 from rfl] at e1
    refine ⟨A1, F1, ?_, e2⟩
    rw [f_X7_counted, if_neg (show ¬ oI 4 = 0 by decide), if_neg (show ¬ oI 4 = 1 by decide), if_neg (show ¬ oI 4 = 2 by decide), if_neg (show ¬ oI 4 = 3 by decide), if_pos (show oI 4 = 4 from rfl)]
    simp only [m_o, e1, Option.bind_some, reduceIte, if_true, if_false]
    rfl
  · obtain ⟨A1, F1, e1, e2⟩ := x7_sum (S := S) (M := M) (A := A) (F := F) (H := H) (O := O) h.1 ok.1 (show 4 ≤ 11 by decide)
    rw [show (oI 4 : Int32) = 4 from rfl] at e1
    refine ⟨A1, F1, ?_, e2⟩
    rw [f_X7_counted, if_neg (show ¬ oI 5 = 0 by decide), if_neg (show ¬ oI 5 = 1 by decide), if_neg (show ¬ oI 5 = 2 by decide), if_neg (show ¬ oI 5 = 3 by decide), if_neg (show ¬ oI 5 = 4 by decide), if_pos (show oI 5 = 5 from rfl)]
    simp only [m_o, e1, Option.bind_some, reduceIte, if_true, if_false]
    rfl
  · obtain ⟨A1, F1, e1, e2⟩ := x7_sum (S := S) (M := M) (A := A) (F := F) (H := H) (O := O) h.1 ok.1 (show 5 ≤ 11 by decide)
    rw [show (oI 5 : Int32) = 5 from rfl] at e1
    refine ⟨A1, F1, ?_, e2⟩
    rw [f_X7_counted, if_neg (show ¬ oI 6 = 0 by decide), if_neg (show ¬ oI 6 = 1 by decide), if_neg (show ¬ oI 6 = 2 by decide), if_neg (show ¬ oI 6 = 3 by decide), if_neg (show ¬ oI 6 = 4 by decide), if_neg (show ¬ oI 6 = 5 by decide), if_pos (show oI 6 = 6 from rfl)]
    simp only [m_o, e1, Option.bind_some, reduceIte, if_true, if_false]
    rfl
  · obtain ⟨A1, F1, e1, e2⟩ := x7_sum (S := S) (M := M) (A := A) (F := F) (H := H) (O := O) h.1 ok.1 (show 7 ≤ 11 by decide)
    rw [show (oI 7 : Int32) = 7 from rfl] at e1
    refine ⟨A1, F1, ?_, e2⟩
    rw [f_X7_counted, if_neg (show ¬ oI 7 = 0 by decide), if_neg (show ¬ oI 7 = 1 by decide), if_neg (show ¬ oI 7 = 2 by decide), if_neg (show ¬ oI 7 = 3 by decide), if_neg (show ¬ oI 7 = 4 by decide), if_neg (show ¬ oI 7 = 5 by decide), if_neg (show ¬ oI 7 = 6 by decide), if_pos (show oI 7 = 7 from rfl)]
    simp only [m_o, e1, Option.bind_some, reduceIte, if_true, if_false]
    rfl
  · refine ⟨A, F, ?_, FrL_refl A F⟩
    rw [f_X7_counted, if_neg (show ¬ oI 8 = 0 by decide), if_neg (show ¬ oI 8 = 1 by decide), if_neg (show ¬ oI 8 = 2 by decide), if_neg (show ¬ oI 8 = 3 by decide), if_neg (show ¬ oI 8 = 4 by decide), if_neg (show ¬ oI 8 = 5 by decide), if_neg (show ¬ oI 8 = 6 by decide), if_neg (show ¬ oI 8 = 7 by decide), if_pos (show oI 8 = 8 from rfl)]
    simp only [m_o, x7_rows h.1 ok.1, Option.bind_some, reduceIte, if_true, if_false]
    rfl
  · refine ⟨A, F, ?_, FrL_refl A F⟩
    rw [f_X7_counted, if_neg (show ¬ oI 9 = 0 by decide), if_neg (show ¬ oI 9 = 1 by decide), if_neg (show ¬ oI 9 = 2 by decide), if_neg (show ¬ oI 9 = 3 by decide), if_neg (show ¬ oI 9 = 4 by decide), if_neg (show ¬ oI 9 = 5 by decide), if_neg (show ¬ oI 9 = 6 by decide), if_neg (show ¬ oI 9 = 7 by decide), if_neg (show ¬ oI 9 = 8 by decide), if_pos (show oI 9 = 9 from rfl)]
    simp only [m_g1, h.2.1, Option.bind_some, reduceIte, if_true, if_false]
    rfl
  · refine ⟨A, F, ?_, FrL_refl A F⟩
    rw [f_X7_counted, if_neg (show ¬ oI 10 = 0 by decide), if_neg (show ¬ oI 10 = 1 by decide), if_neg (show ¬ oI 10 = 2 by decide), if_neg (show ¬ oI 10 = 3 by decide), if_neg (show ¬ oI 10 = 4 by decide), if_neg (show ¬ oI 10 = 5 by decide), if_neg (show ¬ oI 10 = 6 by decide), if_neg (show ¬ oI 10 = 7 by decide), if_neg (show ¬ oI 10 = 8 by decide), if_neg (show ¬ oI 10 = 9 by decide)]
    rw [show (oI 10 - 10 : Int32) = oI 0 by decide]
    simp only [m_o, x7_with h.1 ok.1 (show 0 ≤ 5 by decide), Option.bind_some, reduceIte, if_true, if_false]
    rfl
  · refine ⟨A, F, ?_, FrL_refl A F⟩
    rw [f_X7_counted, if_neg (show ¬ oI 11 = 0 by decide), if_neg (show ¬ oI 11 = 1 by decide), if_neg (show ¬ oI 11 = 2 by decide), if_neg (show ¬ oI 11 = 3 by decide), if_neg (show ¬ oI 11 = 4 by decide), if_neg (show ¬ oI 11 = 5 by decide), if_neg (show ¬ oI 11 = 6 by decide), if_neg (show ¬ oI 11 = 7 by decide), if_neg (show ¬ oI 11 = 8 by decide), if_neg (show ¬ oI 11 = 9 by decide)]
    rw [show (oI 11 - 10 : Int32) = oI 1 by decide]
    simp only [m_o, x7_with h.1 ok.1 (show 1 ≤ 5 by decide), Option.bind_some, reduceIte, if_true, if_false]
    rfl
  · refine ⟨A, F, ?_, FrL_refl A F⟩
    rw [f_X7_counted, if_neg (show ¬ oI 12 = 0 by decide), if_neg (show ¬ oI 12 = 1 by decide), if_neg (show ¬ oI 12 = 2 by decide), if_neg (show ¬ oI 12 = 3 by decide), if_neg (show ¬ oI 12 = 4 by decide), if_neg (show ¬ oI 12 = 5 by decide), if_neg (show ¬ oI 12 = 6 by decide), if_neg (show ¬ oI 12 = 7 by decide), if_neg (show ¬ oI 12 = 8 by decide), if_neg (show ¬ oI 12 = 9 by decide)]
    rw [show (oI 12 - 10 : Int32) = oI 2 by decide]
    simp only [m_o, x7_with h.1 ok.1 (show 2 ≤ 5 by decide), Option.bind_some, reduceIte, if_true, if_false]
    rfl
  · refine ⟨A, F, ?_, FrL_refl A F⟩
    rw [f_X7_counted, if_neg (show ¬ oI 13 = 0 by decide), if_neg (show ¬ oI 13 = 1 by decide), if_neg (show ¬ oI 13 = 2 by decide), if_neg (show ¬ oI 13 = 3 by decide), if_neg (show ¬ oI 13 = 4 by decide), if_neg (show ¬ oI 13 = 5 by decide), if_neg (show ¬ oI 13 = 6 by decide), if_neg (show ¬ oI 13 = 7 by decide), if_neg (show ¬ oI 13 = 8 by decide), if_neg (show ¬ oI 13 = 9 by decide)]
    rw [show (oI 13 - 10 : Int32) = oI 3 by decide]
    simp only [m_o, x7_with h.1 ok.1 (show 3 ≤ 5 by decide), Option.bind_some, reduceIte, if_true, if_false]
    rfl
  · refine ⟨A, F, ?_, FrL_refl A F⟩
    rw [f_X7_counted, if_neg (show ¬ oI 14 = 0 by decide), if_neg (show ¬ oI 14 = 1 by decide), if_neg (show ¬ oI 14 = 2 by decide), if_neg (show ¬ oI 14 = 3 by decide), if_neg (show ¬ oI 14 = 4 by decide), if_neg (show ¬ oI 14 = 5 by decide), if_neg (show ¬ oI 14 = 6 by decide), if_neg (show ¬ oI 14 = 7 by decide), if_neg (show ¬ oI 14 = 8 by decide), if_neg (show ¬ oI 14 = 9 by decide)]
    rw [show (oI 14 - 10 : Int32) = oI 4 by decide]
    simp only [m_o, x7_with h.1 ok.1 (show 4 ≤ 5 by decide), Option.bind_some, reduceIte, if_true, if_false]
    rfl
  · refine ⟨A, F, ?_, FrL_refl A F⟩
    rw [f_X7_counted, if_neg (show ¬ oI 15 = 0 by decide), if_neg (show ¬ oI 15 = 1 by decide), if_neg (show ¬ oI 15 = 2 by decide), if_neg (show ¬ oI 15 = 3 by decide), if_neg (show ¬ oI 15 = 4 by decide), if_neg (show ¬ oI 15 = 5 by decide), if_neg (show ¬ oI 15 = 6 by decide), if_neg (show ¬ oI 15 = 7 by decide), if_neg (show ¬ oI 15 = 8 by decide), if_neg (show ¬ oI 15 = 9 by decide)]
    rw [show (oI 15 - 10 : Int32) = oI 5 by decide]
    simp only [m_o, x7_with h.1 ok.1 (show 5 ≤ 5 by decide), Option.bind_some, reduceIte, if_true, if_false]
    rfl
