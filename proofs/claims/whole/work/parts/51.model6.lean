/-! THE MODEL: pass, join, cut -/
theorem sub_int {a b : Nat} (ha : a < 1000000) (hb : b < 1000000) : (oI a - oI b).toInt = (a : Int) - (b : Int) := by
  by_cases c : b ≤ a
  · rw [oI_sub c, oI_toInt (by omega)]; omega
  · rw [oI_subneg (by omega), neg_toInt (by omega)]; omega
theorem x7_day {S : St} {M : Nat} {A : Nat → Nat → Int32} {F : Nat → Int32} {H : Int64} {O : Nat → Int64} {C : Cn} {j : Nat} (hj : j < cN C) (h8 : cN C ≤ 8) (hb : ShB (A 0) j (cB C j)) (hok : okB (cB C j)) (hd : A 0 3 = oI (cD C)) (hd5 : cD C ≤ 5000) (hy : A 0 0 = oI (cY C)) (hy4 : cY C ≤ 400) :
    ∃ A' F', f_X7_dayOf (MS S M A F H O) M (oI j) = some (exB (cB C j), MS S M A' F' H O) ∧ ShB (A' 0) j (liveB (cB C j) (cD C) (cY C)) ∧ (∀ i, ¬ (4 + 32 * j ≤ i ∧ i < 4 + 32 * j + 32) → A' 0 i = A 0 i) ∧ (∀ a, a ≠ 0 → a ≠ 3 → A' a = A a) ∧ (∀ k, k ≠ 7 → F' k = F k) := by
  obtain ⟨A2, e1, e2, e3⟩ := x7_lay (S := S) (M := M) (F := F) (H := H) (O := O) (j := j) (by omega) hb hok
  have eZ : A2 0 = A 0 := e2 0 (by decide)
  have hb2 := hb
  rw [← eZ] at hb2
  have hL : LdA (MS S M A2 (upF F 7 (oI (bN (cB C j)))) H O) M (bN (cB C j)) (bG (cB C j)) := LdA_of (upF_eq _ 7 _) e3 hok.2.1 hok.2.2.2.2
  have hr : f_X7_regretBy (MS S M A2 (upF F 7 (oI (bN (cB C j)))) H O) M (oI (bC (cB C j))) = some (exB (cB C j)) := x7_regret hL hok.1 hok.2.2.1
  have r1 := x7_of (S := S) (M := M) (A := A2) (F := upF F 7 (oI (bN (cB C j)))) (H := H) (O := O) (show 4 + 32 * j + 1 < 260 by omega)
  have r3 := x7_of (S := S) (M := M) (A := A2) (F := upF F 7 (oI (bN (cB C j)))) (H := H) (O := O) (show 4 + 32 * j + 3 < 260 by omega)
  have s3 := x7_setOf (S := S) (M := M) (A := A2) (F := upF F 7 (oI (bN (cB C j)))) (H := H) (O := O) (show 4 + 32 * j + 3 < 260 by omega) (bK (cB C j) 3 + exB (cB C j))
  rw [hb2.2.1, show (oI 1 : Int32) = 1 from rfl] at r1
  rw [hb2.2.2.2.1 3 (by omega) (by omega), show (oI 3 : Int32) = 3 from rfl] at r3
  rw [show (oI 3 : Int32) = 3 from rfl] at s3
  have k3 := ShB_k hb2 (show 3 ≤ 3 by decide) (show 3 < 8 by decide) (bK (cB C j) 3 + exB (cB C j))
  have a3 : aI (MS S M (up2 A2 0 (4 + 32 * j + 3) (bK (cB C j) 3 + exB (cB C j))) (upF F 7 (oI (bN (cB C j)))) H O) (M + 1) 3 = some (oI (cD C)) := by
    rw [l3, m_a0 (show 3 < 260 by omega), up2_ne _ _ (by omega), eZ, hd]
  have a0 : aI (MS S M (up2 A2 0 (4 + 32 * j + 3) (bK (cB C j) 3 + exB (cB C j))) (upF F 7 (oI (bN (cB C j)))) H O) (M + 1) 0 = some (oI (cY C)) := by
    rw [l0, m_a0 (show 0 < 260 by omega), up2_ne _ _ (by omega), eZ, hy]
  have r2 : f_X7_of (MS S M (up2 A2 0 (4 + 32 * j + 3) (bK (cB C j) 3 + exB (cB C j))) (upF F 7 (oI (bN (cB C j)))) H O) M (oI j) 2 = some (oI (bV (cB C j))) := by
    rw [l2, x7_of (show 4 + 32 * j + 2 < 260 by omega), up2_ne _ _ (by omega), hb2.2.2.1]
  have hv := hok.2.2.2.1
  unfold liveB
  by_cases c : dl (bV (cB C j)) (cD C) (cY C) = 0
  · obtain ⟨A3, c1, c2, c3, c4⟩ := x7_choose (S := S) (M := M) (F := upF F 7 (oI (bN (cB C j)))) (H := H) (O := O) (day := cD C) (j := j) (by omega) k3 (okB_k hok 3 _) (by rw [up2_ne _ _ (by omega), eZ]; exact hd)
    change _ = some (MS S M A3 (upF (upF F 7 (oI (bN (cB C j)))) 7 (oI (bN (cB C j)))) H O) at c1
    refine ⟨A3, upF (upF F 7 (oI (bN (cB C j)))) 7 (oI (bN (cB C j))), ?_, by rw [if_pos c]; exact c3, fun i hi => by rw [c4 i hi, up2_ne _ _ (by omega), eZ], fun a x y => by rw [c2 a x y, up2_row _ _ x]; exact e2 a y, ?_⟩
    · have hlt : (oI (cD C) - oI (bV (cB C j)) < oI (cY C)) = False := by
        rw [Int32.lt_iff_toInt_lt, sub_int (by omega) (by omega), oI_toInt (by omega)]
        unfold dl at c
        apply eq_false
        omega
      simp only [f_X7_dayOf, m_o, e1, r1, hr, r3, s3, m_r0, a3, r2, a0, hlt, c1, Option.bind_some, reduceIte, if_true, if_false]
    · intro k hk
      rw [upF_ne _ _ hk, upF_ne _ _ hk]
  · refine ⟨up2 A2 0 (4 + 32 * j + 3) (bK (cB C j) 3 + exB (cB C j)), upF F 7 (oI (bN (cB C j))), ?_, by rw [if_neg c]; exact k3, fun i hi => by rw [up2_ne _ _ (by omega), eZ], fun a x y => by rw [up2_row _ _ x]; exact e2 a y, ?_⟩
    · have hlt : (oI (cD C) - oI (bV (cB C j)) < oI (cY C)) = True := by
        rw [Int32.lt_iff_toInt_lt, sub_int (by omega) (by omega), oI_toInt (by omega)]
        unfold dl at c
        apply eq_true
        omega
      simp only [f_X7_dayOf, m_o, e1, r1, hr, r3, s3, m_r0, a3, r2, a0, hlt, Option.bind_some, reduceIte, if_true, if_false]
    · intro k hk
      rw [upF_ne _ _ hk]
theorem ShZ_live {Z Z' : Nat → Int32} {C : Cn} {j : Nat} (h : ShZ Z (liveUp C j)) (ok : okC C) (hj : j < cN C) (f : ∀ i, ¬ (4 + 32 * j ≤ i ∧ i < 4 + 32 * j + 32) → Z' i = Z i) (hb : ShB Z' j (liveB (cB C j) (cD C) (cY C))) : ShZ Z' (liveUp C (j + 1)) := by
  have := ShZ_blk h (okC_live ok) f hb
  have ec : updB (liveUp C j) j (liveB (cB C j) (cD C) (cY C)) = liveUp C (j + 1) := by
    unfold updB liveUp
    dsimp only [cN, cD, cY, cF, cB]
    congr 5
    funext k
    by_cases c : k = j
    · rw [if_pos c, if_pos (by omega), c]
    · rw [if_neg c]
      by_cases c2 : k < j
      · rw [if_pos c2, if_pos (by omega)]
      · rw [if_neg c2, if_neg (by omega)]
  rw [ec] at this
  exact this
theorem x7_pass_L1 {S : St} {M : Nat} {H : Int64} {O : Nat → Int64} {C : Cn} {y z s0 : Int32} (ok : okC C) : ∀ (d fu i : Nat) (A : Nat → Nat → Int32) (F : Nat → Int32), i + d = cN C → d < fu → ShZ (A 0) (liveUp C i) →
    ∃ A' F', f_X7_pass_L72 M y z fu (MS S M A F H O) (s0 + sumX C i) (oI i) = some (s0 + sumX C (cN C), MS S M A' F' H O) ∧ ShZ (A' 0) (liveUp C (cN C)) ∧ (∀ a, a ≠ 0 → a ≠ 3 → A' a = A a) ∧ (∀ k, k ≠ 7 → F' k = F k)
  | d, 0, i, A, F, e, hf, h => by omega
  | 0, fu + 1, i, A, F, e, hf, h => by
    have h8 := ok.1
    have zm : aI (MS S M A F H O) (M + 1) 2 = some (oI (cN C)) := z_many (C := liveUp C i) h
    have : i = cN C := by omega
    subst this
    refine ⟨A, F, ?_, h, fun _ _ _ => rfl, fun _ _ => rfl⟩
    rw [f_X7_pass_L72]
    simp (disch := omega) only [m_r0, zm, oI_le, Nat.le_refl, Option.bind_some, reduceIte, if_true, if_false]
  | d + 1, fu + 1, i, A, F, e, hf, h => by
    have h8 := ok.1
    have hi : i < cN C := by omega
    have zm : aI (MS S M A F H O) (M + 1) 2 = some (oI (cN C)) := z_many (C := liveUp C i) h
    have eb : cB (liveUp C i) i = cB C i := if_neg (Nat.lt_irrefl i)
    have hb := h.2.2.2.2 i hi
    rw [eb] at hb
    obtain ⟨A1, F1, e1, e2, e3, e4, e5⟩ := x7_day (S := S) (M := M) (A := A) (F := F) (H := H) (O := O) (C := C) hi h8 hb (ok.2.2.2.2 i hi) h.2.2.2.1 ok.2.1 h.1 ok.2.2.1
    obtain ⟨A', F', f1, f2, f3, f4⟩ := x7_pass_L1 (S := S) (M := M) (H := H) (O := O) (y := y) (z := z) (s0 := s0) ok d fu (i + 1) A1 F1 (by omega) (by omega) (ShZ_live h ok hi e3 e2)
    refine ⟨A', F', ?_, f2, fun a x y => by rw [f3 a x y, e4 a x y], fun k hk => by rw [f4 k hk, e5 k hk]⟩
    rw [sumX, ← Int32.add_assoc] at f1
    rw [f_X7_pass_L72]
    simp (disch := omega) only [m_r0, zm, oI_le, show ¬ cN C ≤ i by omega, m_o, e1, l1, oI_add, Option.bind_some, reduceIte, if_true, if_false]
    exact f1
theorem m_pass_1 {S : St} {M : Nat} {A : Nat → Nat → Int32} {F : Nat → Int32} {H : Int64} {O : Nat → Int64} {a : Int32} (ha : a < oI 1 ∨ oI 100 < a) : f_X7_pass (MS S M A F H O) M a = some (0, MS S M A (upF F 5 1) H O) := by
  have := wi_out ha
  rw [show (oI 1 : Int32) = 1 from rfl, show (oI 100 : Int32) = 100 from rfl] at this
  simp only [f_X7_pass, this, m_p5, m_g5, upF_eq, show ¬ (1 : Int32) ≤ 0 by decide, show ¬ (2 : Int32) ≤ 0 by decide, show ¬ (3 : Int32) ≤ 0 by decide, show (0 : Int32) ≤ 0 by decide, show ¬ (1 : Int32) = 0 by decide, Option.bind_some, reduceIte, if_true, if_false]
theorem z_day {S : St} {M : Nat} {A : Nat → Nat → Int32} {F : Nat → Int32} {H : Int64} {O : Nat → Int64} {C : Cn} (h : ShZ (A 0) C) : aI (MS S M A F H O) (M + 1) 3 = some (oI (cD C)) := by
  rw [l3, m_a0 (show 3 < 260 by omega), h.2.2.2.1]
theorem m_pass_2 {S : St} {M : Nat} {A : Nat → Nat → Int32} {F : Nat → Int32} {H : Int64} {O : Nat → Int64} {C : Cn} {nh : Nat} {Hs : Nat → Cn} (h : ModW A F C nh Hs) (ok : okS C nh Hs) {k : Nat} (h1 : 1 ≤ k) (h2 : k ≤ 100) (hd : 5000 < cD C + k) : f_X7_pass (MS S M A F H O) M (oI k) = some (0, MS S M A (upF F 5 2) H O) := by
  have := wi_in h1 h2 (show 100 < 2147483648 by omega)
  rw [show (oI 1 : Int32) = 1 from rfl, show (oI 100 : Int32) = 100 from rfl] at this
  have hc := ok.1.2.1
  have e0 : (oI (cD C + k) ≤ 5000) = False := by rw [show (5000 : Int32) = oI 5000 from rfl, oI_le (by omega) (by omega)]; exact eq_false (by omega)
  simp only [f_X7_pass, this, m_r0, z_day h.1, oI_add, e0, m_p5, m_g5, upF_eq, show ¬ (1 : Int32) ≤ 0 by decide, show ¬ (2 : Int32) ≤ 0 by decide, show ¬ (3 : Int32) ≤ 0 by decide, show (0 : Int32) ≤ 0 by decide, show ¬ (1 : Int32) = 0 by decide, Option.bind_some, reduceIte, if_true, if_false]
theorem x7_pass_L2 {S : St} {M : Nat} {H : Int64} {O : Nat → Int64} {C : Cn} {k : Nat} (ok : okC C) (hk : k ≤ 100) (hd : cD C + k ≤ 5000) : ∀ (d fu i : Nat) (A : Nat → Nat → Int32) (F : Nat → Int32), i + d = k → d < fu → ShZ (A 0) (dayN C i) →
    ∃ A' F', f_X7_pass_L54 M (oI k) fu (MS S M A F H O) (paS C i) (oI i) = some (paS C k, MS S M A' F' H O) ∧ ShZ (A' 0) (dayN C k) ∧ (∀ a, a ≠ 0 → a ≠ 3 → A' a = A a) ∧ (∀ k, k ≠ 7 → F' k = F k)
  | d, 0, i, A, F, e, hf, h => by omega
  | 0, fu + 1, i, A, F, e, hf, h => by
    have : i = k := by omega
    subst this
    refine ⟨A, F, ?_, h, fun _ _ _ => rfl, fun _ _ => rfl⟩
    rw [f_X7_pass_L54]
    simp (disch := omega) only [oI_le, Nat.le_refl, Option.bind_some, reduceIte, if_true, if_false]
  | d + 1, fu + 1, i, A, F, e, hf, h => by
    have oki := okC_dayN ok i (by omega)
    have hdi := (dayN_n C i).2
    have h8 := oki.1
    have okn : okC (nextD (dayN C i)) := ⟨oki.1, by show cD (dayN C i) + 1 ≤ 5000; omega, oki.2.2.1, oki.2.2.2.1, oki.2.2.2.2⟩
    have hz : ShZ (up2 A 0 3 (oI (cD (dayN C i) + 1)) 0) (liveUp (nextD (dayN C i)) 0) := by
      refine ⟨by rw [up2_ne _ _ (by omega)]; exact h.1, by rw [up2_ne _ _ (by omega)]; exact h.2.1, by rw [up2_ne _ _ (by omega)]; exact h.2.2.1, up2_eq _ _ _ _, fun j hj => ?_⟩
      have hj' : j < cN (dayN C i) := hj
      show ShB _ j (if j < 0 then liveB (cB (dayN C i) j) (cD (dayN C i) + 1) (cY (dayN C i)) else cB (dayN C i) j)
      rw [if_neg (by omega)]
      exact ShB_congr (h.2.2.2.2 j hj') (oki.2.2.2.2 j hj').2.1 (fun t ht => up2_ne _ _ (by omega))
    obtain ⟨A1, F1, e1, e2, e3, e4⟩ := x7_pass_L1 (S := S) (M := M) (H := H) (O := O) (y := oI k) (z := oI i) (s0 := paS C i) (C := nextD (dayN C i)) okn (cN (dayN C i)) FU 0 _ F (by show 0 + cN (dayN C i) = cN (dayN C i); omega) (FU_lt (by omega)) hz
    obtain ⟨A', F', f1, f2, f3, f4⟩ := x7_pass_L2 (S := S) (M := M) (H := H) (O := O) ok hk hd d fu (i + 1) A1 F1 (by omega) (by omega) e2
    refine ⟨A', F', ?_, f2, fun a x y => by rw [f3 a x y, e3 a x y, up2_row _ _ x], fun k hk => by rw [f4 k hk, e4 k hk]⟩
    have e1' : f_X7_pass_L72 M (oI k) (oI i) FU (MS S M (up2 A 0 3 (oI (cD (dayN C i) + 1))) F H O) (paS C i) 0 = some (paS C (i + 1), MS S M A1 F1 H O) := by
      rw [show sumX (nextD (dayN C i)) 0 = 0 from rfl, Int32.add_zero] at e1
      exact e1
    have s3 := m_s0 (S := S) (M := M) (A := A) (F := F) (H := H) (O := O) (show 3 < 260 by omega) (oI (cD (dayN C i) + 1))
    rw [show (oI 3 : Int32) = 3 from rfl] at s3
    rw [f_X7_pass_L54]
    simp (disch := omega) only [oI_le, show ¬ k ≤ i by omega, m_r0, z_day h, l1, oI_add, s3, e1', Option.bind_some, reduceIte, if_true, if_false]
    exact f1
theorem m_pass {S : St} {M : Nat} {A : Nat → Nat → Int32} {F : Nat → Int32} {H : Int64} {O : Nat → Int64} {C : Cn} {nh : Nat} {Hs : Nat → Cn} (h : ModW A F C nh Hs) (ok : okS C nh Hs) {k : Nat} (h1 : 1 ≤ k) (h2 : k ≤ 100) (hd : cD C + k ≤ 5000) :
    ∃ A' F', f_X7_pass (MS S M A F H O) M (oI k) = some (paS C k, MS S M A' F' H O) ∧ F' 5 = 0 ∧ ModW A' F' (dayN C k) (svN nh) (svH C nh Hs) ∧ FrM A A' F F' := by
  obtain ⟨A1, q1, q2, q3⟩ := x7_save (S := S) (M := M) (H := H) (O := O) (ModW_F h (show 5 ≠ 1 by decide) 0) ok
  obtain ⟨A2, F2, e1, e2, e3, e4⟩ := x7_pass_L2 (S := S) (M := M) (H := H) (O := O) ok.1 h2 hd k FU 0 A1 (upF (upF F 5 0) 1 (oI (svN nh))) (by omega) (FU_lt (by omega)) q2.1
  have := wi_in h1 h2 (show 100 < 2147483648 by omega)
  rw [show (oI 1 : Int32) = 1 from rfl, show (oI 100 : Int32) = 100 from rfl] at this
  have e0 : (oI (cD C + k) ≤ 5000) = True := by rw [show (5000 : Int32) = oI 5000 from rfl, oI_le (by omega) (by omega)]; exact eq_true hd
  rw [show paS C 0 = 0 from rfl, show (oI 0 : Int32) = 0 from rfl] at e1
  refine ⟨A2, F2, ?_, by rw [e4 5 (by decide)]; simp [upF], ModW_z q2 e2 (e3 1 (by decide) (by decide)) (e4 1 (by decide)), by rw [e3 2 (by decide) (by decide), q3 2 (by decide)], by rw [e4 3 (by decide)]; simp [upF]⟩
  simp only [f_X7_pass, this, m_r0, z_day h.1, oI_add, e0, m_p5, m_g5, upF_eq, m_o, q1, e1, show ¬ (1 : Int32) ≤ 0 by decide, show ¬ (2 : Int32) ≤ 0 by decide, show ¬ (3 : Int32) ≤ 0 by decide, show (0 : Int32) ≤ 0 by decide, show ¬ (1 : Int32) = 0 by decide, Option.bind_some, reduceIte, if_true, if_false]
