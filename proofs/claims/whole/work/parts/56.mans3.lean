/-! THE MODEL'S ANSWERS: cost, work, regret, gain, cheapest, mate -/
theorem x7_laid {S : St} {M : Nat} {A : Nat → Nat → Int32} {F : Nat → Int32} {H : Int64} {O : Nat → Int64} {C : Cn} (h : ShZ (A 0) C) (ok : okC C) {j : Nat} (hj : j < cN C) :
    ∃ A' F', f_X7_lay (MS S M A F H O) M (oI j) = some (MS S M A' F' H O) ∧ FrL A A' F F' ∧ ShZ (A' 0) C ∧ LdA (MS S M A' F' H O) M (bN (cB C j)) (bG (cB C j)) ∧ F' 7 = oI (bN (cB C j)) ∧ ∀ k, k < bN (cB C j) → A' 3 k = oI (bG (cB C j) k) := by
  have h8 := ok.1
  have hok := ok.2.2.2.2 j hj
  obtain ⟨A1, e1, e2, e3⟩ := x7_lay (S := S) (M := M) (F := F) (H := H) (O := O) (j := j) (by omega) (h.2.2.2.2 j hj) hok
  have f1 := FrL_lay (F := F) e2 (oI (bN (cB C j)))
  exact ⟨A1, _, e1, f1, FrL_Z f1 h, LdA_of (upF_eq _ 7 _) e3 hok.2.1 hok.2.2.2.2, upF_eq _ 7 _, e3⟩
theorem x7_code {S : St} {M : Nat} {A : Nat → Nat → Int32} {F : Nat → Int32} {H : Int64} {O : Nat → Int64} {C : Cn} (h : ShZ (A 0) C) (ok : okC C) {j : Nat} (hj : j < cN C) : f_X7_of (MS S M A F H O) M (oI j) 1 = some (oI (bC (cB C j))) := by
  have h8 := ok.1
  exact of_ne (A := A) (show 4 + 32 * j + 1 < 260 by omega) (h.2.2.2.2 j hj).2.1 rfl
theorem x7_costNow {S : St} {M : Nat} {A : Nat → Nat → Int32} {F : Nat → Int32} {H : Int64} {O : Nat → Int64} {C : Cn} (h : ShZ (A 0) C) (ok : okC C) {j c : Nat} (hj : j < cN C) (hc : c ≤ 5) :
    ∃ A' F', f_X7_costNow (MS S M A F H O) M (oI j) (oI c) = some (oI (bt (bG (cB C j)) (bN (cB C j)) c), MS S M A' F' H O) ∧ FrL A A' F F' := by
  obtain ⟨A1, F1, e1, e2, e3, e4, e5, e6⟩ := x7_laid (S := S) (M := M) (F := F) (H := H) (O := O) h ok hj
  refine ⟨A1, F1, ?_, e2⟩
  simp only [f_X7_costNow, m_o, e1, x7_cost e4 (ok.2.2.2.2 j hj).1 hc, Option.bind_some, reduceIte, if_true, if_false]
theorem x7_workNow {S : St} {M : Nat} {A : Nat → Nat → Int32} {F : Nat → Int32} {H : Int64} {O : Nat → Int64} {C : Cn} (h : ShZ (A 0) C) (ok : okC C) {j c q w : Nat} (hj : j < cN C) (hc : c ≤ 5) (hq : q ≤ 2) (hw : w ≤ 255) :
    ∃ A' F', f_X7_workNow (MS S M A F H O) M (oI j) (oI c) (oI q) (oI w) = some (oI (ef (bG (cB C j)) (bN (cB C j)) c q w), MS S M A' F' H O) ∧ FrL A A' F F' := by
  obtain ⟨A1, F1, e1, e2, e3, e4, e5, e6⟩ := x7_laid (S := S) (M := M) (F := F) (H := H) (O := O) h ok hj
  refine ⟨A1, F1, ?_, e2⟩
  simp only [f_X7_workNow, m_o, e1, x7_work e4 (ok.2.2.2.2 j hj).1 hc hq hw, Option.bind_some, reduceIte, if_true, if_false]
theorem x7_regretThen {S : St} {M : Nat} {A : Nat → Nat → Int32} {F : Nat → Int32} {H : Int64} {O : Nat → Int64} {C : Cn} (h : ShZ (A 0) C) (ok : okC C) {j k : Nat} (hj : j < cN C) (hk : k ≤ 200) :
    ∃ A' F', f_X7_regretThen (MS S M A F H O) M (oI j) (oI k) = some (regB C (cB C j) k, MS S M A' F' H O) ∧ FrL A A' F F' := by
  have hok := ok.2.2.2.2 j hj
  have hdl := dl_le (day := cD C) hok.2.2.2.1 ok.2.2.1
  obtain ⟨A1, F1, e1, e2, e3, e4, e5, e6⟩ := x7_laid (S := S) (M := M) (F := F) (H := H) (O := O) h ok hj
  have hr : f_X7_regretBy (MS S M A1 F1 H O) M (oI (bC (cB C j))) = some (exB (cB C j)) := x7_regret e4 hok.1 hok.2.2.1
  refine ⟨A1, F1, ?_, e2⟩
  simp only [f_X7_regretThen, m_o, e1, x7_left e3 ok hj, x7_code e3 ok hj, hr, Option.bind_some, regB]
  by_cases c1 : 1 ≤ dl (bV (cB C j)) (cD C) (cY C)
  · have c1' : ((1 : Int32) ≤ oI (dl (bV (cB C j)) (cD C) (cY C))) = True := by rw [l1, oI_le (by omega) (by omega)]; exact eq_true c1
    rw [Nat.max_eq_right c1]
    by_cases c2 : dl (bV (cB C j)) (cD C) (cY C) ≤ k
    · have c2' : (oI (dl (bV (cB C j)) (cD C) (cY C)) ≤ oI k) = True := by rw [oI_le (by omega) (by omega)]; exact eq_true c2
      simp only [c1', c2', Nat.min_eq_left c2, Option.bind_some, reduceIte, if_true, if_false]
    · have c2' : (oI (dl (bV (cB C j)) (cD C) (cY C)) ≤ oI k) = False := by rw [oI_le (by omega) (by omega)]; exact eq_false c2
      simp only [c1', c2', Nat.min_eq_right (show k ≤ dl (bV (cB C j)) (cD C) (cY C) by omega), Option.bind_some, reduceIte, if_true, if_false]
  · have c1' : ((1 : Int32) ≤ oI (dl (bV (cB C j)) (cD C) (cY C))) = False := by rw [l1, oI_le (by omega) (by omega)]; exact eq_false c1
    rw [Nat.max_eq_left (by omega)]
    by_cases c2 : 1 ≤ k
    · have c2' : ((1 : Int32) ≤ oI k) = True := by rw [l1, oI_le (by omega) (by omega)]; exact eq_true c2
      simp only [c1', c2', Nat.min_eq_left c2, Option.bind_some, reduceIte, if_true, if_false]
      rfl
    · have c2' : ((1 : Int32) ≤ oI k) = False := by rw [l1, oI_le (by omega) (by omega)]; exact eq_false c2
      simp only [c1', c2', Nat.min_eq_right (show k ≤ 1 by omega), Option.bind_some, reduceIte, if_true, if_false]
theorem x7_gainNow {S : St} {M : Nat} {A : Nat → Nat → Int32} {F : Nat → Int32} {H : Int64} {O : Nat → Int64} {C : Cn} (h : ShZ (A 0) C) (ok : okC C) {j : Nat} (hj : j < cN C) :
    ∃ A' F', f_X7_gainNow (MS S M A F H O) M (oI j) = some (gainB C (cB C j), MS S M A' F' H O) ∧ FrL A A' F F' := by
  have hok := ok.2.2.2.2 j hj
  have hdl := dl_le (day := cD C) hok.2.2.2.1 ok.2.2.1
  have e0 : (if oI (dl (bV (cB C j)) (cD C) (cY C)) ≤ 200 then some (oI (dl (bV (cB C j)) (cD C) (cY C))) else some 200 : Option Int32) = some (oI (min (dl (bV (cB C j)) (cD C) (cY C)) 200)) := by
    rw [show (200 : Int32) = oI 200 from rfl]
    simp (disch := omega) only [oI_le]
    by_cases c : dl (bV (cB C j)) (cD C) (cY C) ≤ 200
    · rw [if_pos c, Nat.min_eq_left c]
    · rw [if_neg c, Nat.min_eq_right (by omega)]
  obtain ⟨A1, F1, e1, e2⟩ := x7_regretThen (S := S) (M := M) (F := F) (H := H) (O := O) (k := min (dl (bV (cB C j)) (cD C) (cY C)) 200) h ok hj (by omega)
  refine ⟨A1, F1, ?_, e2⟩
  simp only [f_X7_gainNow, m_o, x7_left h ok hj, e0, e1, x7_fine (FrL_Z e2 h) ok hj, Option.bind_some, reduceIte, if_true, if_false, gainB, regB]
  rw [show min (max 1 (dl (bV (cB C j)) (cD C) (cY C))) (min (dl (bV (cB C j)) (cD C) (cY C)) 200) = min (dl (bV (cB C j)) (cD C) (cY C)) 200 by omega]
theorem x7_cheap_L {S : St} {M : Nat} {H : Int64} {O : Nat → Int64} {C : Cn} (ok : okC C) {j p : Nat} (hj : j < cN C) (hp : p < bN (cB C j)) {F : Nat → Int32} (hF : F 7 = oI (bN (cB C j))) : ∀ (d fu i : Nat) (A : Nat → Nat → Int32), i + d = 255 → d + 1 < fu → ShZ (A 0) C → (∀ k, k < bN (cB C j) → k ≠ p → A 3 k = oI (bG (cB C j) k)) →
    ∃ A', f_X7_cheapestNow_L13 M (oI j) (oI p) fu (MS S M A F H O) (oI (chF (cB C j) p i)) (oI (chC (cB C j) p (chF (cB C j) p i))) (oI (i + 1)) = some (oI (chF (cB C j) p 255), MS S M A' F H O) ∧ (∀ a, a ≠ 3 → A' a = A a)
  | d, 0, i, A, e, hf, h, hg => by omega
  | 0, fu + 1, i, A, e, hf, h, hg => by
    have : i = 255 := by omega
    subst this
    refine ⟨A, ?_, fun _ _ => rfl⟩
    rw [f_X7_cheapestNow_L13]
    simp (disch := omega) only [show (256 : Int32) = oI 256 from rfl, oI_le, show 256 ≤ 255 + 1 by omega, Option.bind_some, reduceIte, if_true, if_false]
  | d + 1, fu + 1, i, A, e, hf, h, hg => by
    have h8 := ok.1
    have hok := ok.2.2.2.2 j hj
    have h24 := hok.2.1
    obtain ⟨A', e1, e2⟩ := x7_cheap_L (S := S) (M := M) (H := H) (O := O) ok hj hp hF d fu (i + 1) (up2 A 3 p (oI (i + 1))) (by omega) (by omega) (by rw [up2_row _ _ (by decide)]; exact h) (fun k a b => by rw [up2_ne _ _ (fun c => b c.2)]; exact hg k a b)
    refine ⟨A', ?_, fun a ha => by rw [e2 a ha, up2_row _ _ ha]⟩
    have hL : LdA (MS S M (up2 A 3 p (oI (i + 1))) F H O) M (bN (cB C j)) (fun k => if k = p then i + 1 else bG (cB C j) k) := LdA_of hF (fun k hk => by
      by_cases c : k = p
      · subst c; rw [up2_eq, if_pos rfl]
      · rw [up2_ne _ _ (fun e => c e.2), if_neg c]; exact hg k hk c) h24 (fun k => by
      split
      · omega
      · exact hok.2.2.2.2 k)
    have eb : f_X7_costBy (MS S M (up2 A 3 p (oI (i + 1))) F H O) M (oI (bC (cB C j))) = some (oI (chC (cB C j) p (i + 1))) := x7_cost hL hok.1 hok.2.2.1
    have ec := x7_code (S := S) (M := M) (A := up2 A 3 p (oI (i + 1))) (F := F) (H := H) (O := O) (C := C) (by rw [up2_row _ _ (by decide)]; exact h) ok hj
    have c1 : chC (cB C j) p (i + 1) ≤ 20 * bN (cB C j) + 20 := bt_le _ _ _
    have c2 : chC (cB C j) p (chF (cB C j) p i) ≤ 20 * bN (cB C j) + 20 := bt_le _ _ _
    have c3 := chF_le (cB C j) p i
    have hne : (oI (chF (cB C j) p i) = (-1 : Int32)) = False := ne_m1 (by omega)
    have hle : (oI (chC (cB C j) p (chF (cB C j) p i)) ≤ oI (chC (cB C j) p (i + 1))) = (chC (cB C j) p (chF (cB C j) p i) ≤ chC (cB C j) p (i + 1)) := oI_le (by omega) (by omega)
    have h256 : ((256 : Int32) ≤ oI (i + 1)) = False := by rw [show (256 : Int32) = oI 256 from rfl, oI_le (by omega) (by omega)]; exact eq_false (by omega)
    rw [f_X7_cheapestNow_L13]
    simp only [h256, m_r6, m_s3 (show p < 48 by omega), m_o, ec, eb, hne, hle, Option.bind_some, reduceIte, if_true, if_false]
    rw [chF] at e1
    by_cases c : chC (cB C j) p (i + 1) < chC (cB C j) p (chF (cB C j) p i)
    · simp only [c, show ¬ chC (cB C j) p (chF (cB C j) p i) ≤ chC (cB C j) p (i + 1) by omega, show ¬ (1 : Int32) = 0 by decide, l1, oI_add, Option.bind_some, reduceIte, if_true, if_false] at e1 ⊢
      exact e1
    · simp only [c, show chC (cB C j) p (chF (cB C j) p i) ≤ chC (cB C j) p (i + 1) by omega, Option.bind_some, reduceIte, if_true, if_false] at e1 ⊢
      rw [l1, oI_add]
      exact e1
