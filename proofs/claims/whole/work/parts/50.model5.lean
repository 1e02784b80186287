/-! THE MODEL: ask, set, undo, pass -/
theorem qu_in {k : Nat} (h : k ≤ 2) : f_X7_isQuestion (oI k) = some 1 := by
  have := wi_in (k := k) (lo := 0) (hi := 2) (by omega) h (by omega)
  rw [show (oI 0 : Int32) = 0 from rfl, show (oI 2 : Int32) = 2 from rfl] at this
  simp only [f_X7_isQuestion, this, zz1, Option.bind_some, reduceIte, if_true, if_false]
theorem qu_out {a : Int32} (h : a < oI 0 ∨ oI 2 < a) : f_X7_isQuestion a = some 0 := by
  have := wi_out h
  rw [show (oI 0 : Int32) = 0 from rfl, show (oI 2 : Int32) = 2 from rfl] at this
  simp only [f_X7_isQuestion, this, zz0, Option.bind_some, reduceIte, if_true, if_false]
theorem m_ask_1 {S : St} {M : Nat} {A : Nat → Nat → Int32} {F : Nat → Int32} {H : Int64} {O : Nat → Int64} {C : Cn} {nh : Nat} {Hs : Nat → Cn} (h : ModW A F C nh Hs) (ok : okS C nh Hs) {a q v : Int32} (ha : a < 0 ∨ oI (cN C) ≤ a) : f_X7_ask (MS S M A F H O) M a q v = some (0, MS S M A (upF F 5 1) H O) := by
  simp only [f_X7_ask, m_o, x7_isBlock_out h.1 ok.1.1 ha, m_p5, m_g5, upF_eq, show ¬ (1 : Int32) ≤ 0 by decide, show ¬ (2 : Int32) ≤ 0 by decide, show ¬ (3 : Int32) ≤ 0 by decide, show (0 : Int32) ≤ 0 by decide, show ¬ (1 : Int32) = 0 by decide, Option.bind_some, reduceIte, if_true, if_false]
theorem m_ask_2 {S : St} {M : Nat} {A : Nat → Nat → Int32} {F : Nat → Int32} {H : Int64} {O : Nat → Int64} {C : Cn} {nh : Nat} {Hs : Nat → Cn} (h : ModW A F C nh Hs) (ok : okS C nh Hs) {j : Nat} {q v : Int32} (hj : j < cN C) (hv : (q < oI 0 ∨ oI 2 < q) ∨ (∃ k, k ≤ 2 ∧ q = oI k) ∧ (v < oI 0 ∨ oI 255 < v)) : f_X7_ask (MS S M A F H O) M (oI j) q v = some (0, MS S M A (upF F 5 2) H O) := by
  rcases hv with hv | ⟨⟨k, hk, rfl⟩, hv⟩
  · simp only [f_X7_ask, m_o, x7_isBlock_in h.1 ok.1.1 hj, qu_out hv, m_p5, m_g5, upF_eq, show ¬ (1 : Int32) ≤ 0 by decide, show ¬ (2 : Int32) ≤ 0 by decide, show ¬ (3 : Int32) ≤ 0 by decide, show (0 : Int32) ≤ 0 by decide, show ¬ (1 : Int32) = 0 by decide, Option.bind_some, reduceIte, if_true, if_false]
  · simp only [f_X7_ask, m_o, x7_isBlock_in h.1 ok.1.1 hj, qu_in hk, va_out hv, m_p5, m_g5, upF_eq, show ¬ (1 : Int32) ≤ 0 by decide, show ¬ (2 : Int32) ≤ 0 by decide, show ¬ (3 : Int32) ≤ 0 by decide, show (0 : Int32) ≤ 0 by decide, show ¬ (1 : Int32) = 0 by decide, Option.bind_some, reduceIte, if_true, if_false]
theorem setK_comm (b : Bk) {k l : Nat} (hne : k ≠ l) (v w : Int32) : setK (setK b k v) l w = setK (setK b l w) k v := by
  unfold setK
  dsimp only [bN, bC, bV, bG, bK]
  congr 4
  funext j
  by_cases c : j = k
  · have : ¬ j = l := fun e => hne (c.symm.trans e)
    rw [if_neg this, if_pos c, if_pos c]
  · by_cases c2 : j = l
    · rw [if_pos c2, if_neg c, if_pos c2]
    · rw [if_neg c2, if_neg c, if_neg c, if_neg c2]
theorem m_ask {S : St} {M : Nat} {A : Nat → Nat → Int32} {F : Nat → Int32} {H : Int64} {O : Nat → Int64} {C : Cn} {nh : Nat} {Hs : Nat → Cn} (h : ModW A F C nh Hs) (ok : okS C nh Hs) {j q v : Nat} (hj : j < cN C) (hq : q ≤ 2) (hv : v ≤ 255) :
    ∃ A' F', f_X7_ask (MS S M A F H O) M (oI j) (oI q) (oI v) = some (an (bG (cB C j)) (bN (cB C j)) q v, MS S M A' F' H O) ∧ F' 5 = 0 ∧ ModW A' F' (updB C j (askB (cB C j) q v)) (svN nh) (svH C nh Hs) ∧ FrM A A' F F' := by
  have h8 := ok.1.1
  have hok := ok.1.2.2.2.2 j hj
  obtain ⟨A1, q1, q2, q3⟩ := x7_save (S := S) (M := M) (H := H) (O := O) (ModW_F h (show 5 ≠ 1 by decide) 0) ok
  have hb := q2.1.2.2.2.2 j hj
  obtain ⟨A2, e1, e2, e3⟩ := x7_lay (S := S) (M := M) (F := upF (upF F 5 0) 1 (oI (svN nh))) (H := H) (O := O) (j := j) (by omega) hb hok
  have eZ : A2 0 = A1 0 := e2 0 (by decide)
  rw [← eZ] at hb
  have hL : LdA (MS S M A2 (upF (upF (upF F 5 0) 1 (oI (svN nh))) 7 (oI (bN (cB C j)))) H O) M (bN (cB C j)) (bG (cB C j)) := LdA_of (upF_eq _ 7 _) e3 hok.2.1 hok.2.2.2.2
  have hw := x7_work hL hok.1 hok.2.2.1 hq hv
  have k4 := ShB_k hb (show 3 ≤ 4 by decide) (show 4 < 8 by decide) (bK (cB C j) 4 + oI (ef (bG (cB C j)) (bN (cB C j)) (bC (cB C j)) q v))
  have k5 := ShB_k k4 (show 3 ≤ 5 by decide) (show 5 < 8 by decide) (bK (cB C j) 5 + 1)
  rw [setK_comm _ (by decide)] at k5
  have hL2 : LdA (MS S M (up2 (up2 A2 0 (4 + 32 * j + 4) (bK (cB C j) 4 + oI (ef (bG (cB C j)) (bN (cB C j)) (bC (cB C j)) q v))) 0 (4 + 32 * j + 5) (bK (cB C j) 5 + 1)) (upF (upF (upF F 5 0) 1 (oI (svN nh))) 7 (oI (bN (cB C j)))) H O) M (bN (cB C j)) (bG (cB C j)) :=
    LdA_of (upF_eq _ 7 _) (fun k hk => by rw [up2_row _ _ (by decide), up2_row _ _ (by decide)]; exact e3 k hk) hok.2.1 hok.2.2.2.2
  have ha := x7_answer hL2 hq hv
  have r4 := x7_of (S := S) (M := M) (A := A2) (F := upF (upF (upF F 5 0) 1 (oI (svN nh))) 7 (oI (bN (cB C j)))) (H := H) (O := O) (show 4 + 32 * j + 4 < 260 by omega)
  have r1 := x7_of (S := S) (M := M) (A := A2) (F := upF (upF (upF F 5 0) 1 (oI (svN nh))) 7 (oI (bN (cB C j)))) (H := H) (O := O) (show 4 + 32 * j + 1 < 260 by omega)
  have s4 := x7_setOf (S := S) (M := M) (A := A2) (F := upF (upF (upF F 5 0) 1 (oI (svN nh))) 7 (oI (bN (cB C j)))) (H := H) (O := O) (show 4 + 32 * j + 4 < 260 by omega) (bK (cB C j) 4 + oI (ef (bG (cB C j)) (bN (cB C j)) (bC (cB C j)) q v))
  have r5 := x7_of (S := S) (M := M) (A := up2 A2 0 (4 + 32 * j + 4) (bK (cB C j) 4 + oI (ef (bG (cB C j)) (bN (cB C j)) (bC (cB C j)) q v))) (F := upF (upF (upF F 5 0) 1 (oI (svN nh))) 7 (oI (bN (cB C j)))) (H := H) (O := O) (show 4 + 32 * j + 5 < 260 by omega)
  have s5 := x7_setOf (S := S) (M := M) (A := up2 A2 0 (4 + 32 * j + 4) (bK (cB C j) 4 + oI (ef (bG (cB C j)) (bN (cB C j)) (bC (cB C j)) q v))) (F := upF (upF (upF F 5 0) 1 (oI (svN nh))) 7 (oI (bN (cB C j)))) (H := H) (O := O) (show 4 + 32 * j + 5 < 260 by omega) (bK (cB C j) 5 + 1)
  rw [hb.2.2.2.1 4 (by omega) (by omega), show (oI 4 : Int32) = 4 from rfl] at r4
  rw [hb.2.1, show (oI 1 : Int32) = 1 from rfl] at r1
  rw [show (oI 4 : Int32) = 4 from rfl] at s4
  rw [up2_ne _ _ (by omega), hb.2.2.2.1 5 (by omega) (by omega), show (oI 5 : Int32) = 5 from rfl] at r5
  rw [show (oI 5 : Int32) = 5 from rfl] at s5
  refine ⟨up2 (up2 A2 0 (4 + 32 * j + 4) (bK (cB C j) 4 + oI (ef (bG (cB C j)) (bN (cB C j)) (bC (cB C j)) q v))) 0 (4 + 32 * j + 5) (bK (cB C j) 5 + 1), upF (upF (upF F 5 0) 1 (oI (svN nh))) 7 (oI (bN (cB C j))), ?_, by simp [upF], ModW_z q2 (ShZ_blk q2.1 ok.1 (fun i hi => by rw [up2_ne _ _ (by omega), up2_ne _ _ (by omega), eZ]) k5) (by rw [up2_row _ _ (by decide), up2_row _ _ (by decide)]; exact e2 1 (by decide)) (upF_ne _ _ (by decide)), by rw [up2_row _ _ (by decide), up2_row _ _ (by decide), e2 2 (by decide), q3 2 (by decide)], by simp [upF]⟩
  simp only [f_X7_ask, m_o, x7_isBlock_in h.1 h8 hj, qu_in hq, va_in hv, m_p5, m_g5, upF_eq, q1, e1, r4, r1, hw, s4, r5, s5, ha, show ¬ (1 : Int32) ≤ 0 by decide, show ¬ (2 : Int32) ≤ 0 by decide, show ¬ (3 : Int32) ≤ 0 by decide, show (0 : Int32) ≤ 0 by decide, show ¬ (1 : Int32) = 0 by decide, Option.bind_some, reduceIte, if_true, if_false]
theorem se_in {k : Nat} (h : k ≤ 1) : f_X7_isSetting (oI k) = some 1 := by
  have := wi_in (k := k) (lo := 0) (hi := 1) (by omega) h (by omega)
  rw [show (oI 0 : Int32) = 0 from rfl, show (oI 1 : Int32) = 1 from rfl] at this
  simp only [f_X7_isSetting, this, zz1, Option.bind_some, reduceIte, if_true, if_false]
theorem se_out {a : Int32} (h : a < oI 0 ∨ oI 1 < a) : f_X7_isSetting a = some 0 := by
  have := wi_out h
  rw [show (oI 0 : Int32) = 0 from rfl, show (oI 1 : Int32) = 1 from rfl] at this
  simp only [f_X7_isSetting, this, zz0, Option.bind_some, reduceIte, if_true, if_false]
theorem m_set_1 {S : St} {M : Nat} {A : Nat → Nat → Int32} {F : Nat → Int32} {H : Int64} {O : Nat → Int64} {a v : Int32} (ha : a < oI 0 ∨ oI 1 < a) : f_X7_set (MS S M A F H O) M a v = some (0, MS S M A (upF F 5 1) H O) := by
  simp only [f_X7_set, se_out ha, m_p5, m_g5, upF_eq, show ¬ (1 : Int32) ≤ 0 by decide, show ¬ (2 : Int32) ≤ 0 by decide, show ¬ (3 : Int32) ≤ 0 by decide, show (0 : Int32) ≤ 0 by decide, show ¬ (1 : Int32) = 0 by decide, Option.bind_some, reduceIte, if_true, if_false]
theorem m_set_2 {S : St} {M : Nat} {A : Nat → Nat → Int32} {F : Nat → Int32} {H : Int64} {O : Nat → Int64} {i : Nat} {v : Int32} (hi : i ≤ 1) (hv : (i = 0 ∧ (v < oI 1 ∨ oI 400 < v)) ∨ (i = 1 ∧ (v < oI 0 ∨ oI 100 < v))) : f_X7_set (MS S M A F H O) M (oI i) v = some (0, MS S M A (upF F 5 2) H O) := by
  rcases hv with ⟨rfl, hv⟩ | ⟨rfl, hv⟩
  · have := wi_out hv
    rw [show (oI 1 : Int32) = 1 from rfl, show (oI 400 : Int32) = 400 from rfl] at this
    simp only [f_X7_set, se_in hi, show ((oI 0 : Int32) = 0) = True from eq_true rfl, show ((oI 0 : Int32) = 1) = False by decide, this, m_p5, m_g5, upF_eq, show ¬ (1 : Int32) ≤ 0 by decide, show ¬ (2 : Int32) ≤ 0 by decide, show ¬ (3 : Int32) ≤ 0 by decide, show (0 : Int32) ≤ 0 by decide, show ¬ (1 : Int32) = 0 by decide, Option.bind_some, reduceIte, if_true, if_false]
  · have := wi_out hv
    rw [show (oI 0 : Int32) = 0 from rfl, show (oI 100 : Int32) = 100 from rfl] at this
    simp only [f_X7_set, se_in hi, show ((oI 1 : Int32) = 0) = False by decide, show ((oI 1 : Int32) = 1) = True from eq_true rfl, this, m_p5, m_g5, upF_eq, show ¬ (1 : Int32) ≤ 0 by decide, show ¬ (2 : Int32) ≤ 0 by decide, show ¬ (3 : Int32) ≤ 0 by decide, show (0 : Int32) ≤ 0 by decide, show ¬ (1 : Int32) = 0 by decide, Option.bind_some, reduceIte, if_true, if_false]
theorem ShZ_set {A : Nat → Nat → Int32} {C : Cn} {i v : Nat} (h : ShZ (A 0) C) (ok : okC C) (hi : i ≤ 1) : ShZ (up2 A 0 i (oI v) 0) (setC C i v) := by
  have hb : ∀ j, j < cN C → ShB (up2 A 0 i (oI v) 0) j (cB C j) := fun j hj => ShB_congr (h.2.2.2.2 j hj) (ok.2.2.2.2 j hj).2.1 (fun k hk => up2_ne _ _ (by omega))
  have e2 : up2 A 0 i (oI v) 0 2 = oI (cN C) := by rw [up2_ne _ _ (by omega)]; exact h.2.2.1
  have e3 : up2 A 0 i (oI v) 0 3 = oI (cD C) := by rw [up2_ne _ _ (by omega)]; exact h.2.2.2.1
  unfold setC
  by_cases c : i = 0
  · subst c
    rw [if_pos rfl]
    exact ⟨up2_eq _ _ _ _, by rw [up2_ne _ _ (by omega)]; exact h.2.1, e2, e3, hb⟩
  · have : i = 1 := by omega
    subst this
    rw [if_neg c]
    exact ⟨by rw [up2_ne _ _ (by omega)]; exact h.1, up2_eq _ _ _ _, e2, e3, hb⟩
theorem z_get {S : St} {M : Nat} {A : Nat → Nat → Int32} {F : Nat → Int32} {H : Int64} {O : Nat → Int64} {C : Cn} (h : ShZ (A 0) C) {i : Nat} (hi : i ≤ 1) : aI (MS S M A F H O) (M + 1) (oI i) = some (oI (getC C i)) := by
  rw [m_a0 (show i < 260 by omega)]
  have : i = 0 ∨ i = 1 := by omega
  rcases this with rfl | rfl
  · rw [h.1]; rfl
  · rw [h.2.1]; rfl
theorem m_set {S : St} {M : Nat} {A : Nat → Nat → Int32} {F : Nat → Int32} {H : Int64} {O : Nat → Int64} {C : Cn} {nh : Nat} {Hs : Nat → Cn} (h : ModW A F C nh Hs) (ok : okS C nh Hs) {i v : Nat} (hv : (i = 0 ∧ 1 ≤ v ∧ v ≤ 400) ∨ (i = 1 ∧ v ≤ 100)) :
    ∃ A' F', f_X7_set (MS S M A F H O) M (oI i) (oI v) = some (oI (getC C i), MS S M A' F' H O) ∧ F' 5 = 0 ∧ ModW A' F' (setC C i v) (svN nh) (svH C nh Hs) ∧ FrM A A' F F' := by
  have hi : i ≤ 1 := by omega
  obtain ⟨A1, q1, q2, q3⟩ := x7_save (S := S) (M := M) (H := H) (O := O) (ModW_F h (show 5 ≠ 1 by decide) 0) ok
  refine ⟨up2 A1 0 i (oI v), upF (upF F 5 0) 1 (oI (svN nh)), ?_, by simp [upF], ModW_z q2 (ShZ_set q2.1 ok.1 hi) (by rw [up2_row _ _ (by decide)]) rfl, by rw [up2_row _ _ (by decide), q3 2 (by decide)], by simp [upF]⟩
  have zg := z_get (S := S) (M := M) (F := upF (upF F 5 0) 1 (oI (svN nh))) (H := H) (O := O) q2.1 hi
  have zs := m_s0 (S := S) (M := M) (A := A1) (F := upF (upF F 5 0) 1 (oI (svN nh))) (H := H) (O := O) (show i < 260 by omega) (oI v)
  rcases hv with ⟨rfl, h1, h2⟩ | ⟨rfl, h2⟩
  · have := wi_in h1 h2 (show 400 < 2147483648 by omega)
    rw [show (oI 1 : Int32) = 1 from rfl, show (oI 400 : Int32) = 400 from rfl] at this
    simp only [f_X7_set, se_in hi, show ((oI 0 : Int32) = 0) = True from eq_true rfl, this, m_p5, m_g5, upF_eq, m_o, q1, m_r0, zg, zs, show ¬ (1 : Int32) ≤ 0 by decide, show ¬ (2 : Int32) ≤ 0 by decide, show ¬ (3 : Int32) ≤ 0 by decide, show (0 : Int32) ≤ 0 by decide, show ¬ (1 : Int32) = 0 by decide, Option.bind_some, reduceIte, if_true, if_false]
  · have := wi_in (Nat.zero_le v) h2 (show 100 < 2147483648 by omega)
    rw [show (oI 0 : Int32) = 0 from rfl, show (oI 100 : Int32) = 100 from rfl] at this
    simp only [f_X7_set, se_in hi, show ((oI 1 : Int32) = 0) = False by decide, show ((oI 1 : Int32) = 1) = True from eq_true rfl, this, m_p5, m_g5, upF_eq, m_o, q1, m_r0, zg, zs, show ¬ (1 : Int32) ≤ 0 by decide, show ¬ (2 : Int32) ≤ 0 by decide, show ¬ (3 : Int32) ≤ 0 by decide, show (0 : Int32) ≤ 0 by decide, show ¬ (1 : Int32) = 0 by decide, Option.bind_some, reduceIte, if_true, if_false]
theorem m_undo_1 {S : St} {M : Nat} {A : Nat → Nat → Int32} {F : Nat → Int32} {H : Int64} {O : Nat → Int64} {C : Cn} {Hs : Nat → Cn} (h : ModW A F C 0 Hs) : f_X7_undo (MS S M A F H O) M = some (0, MS S M A (upF F 5 1) H O) := by
  simp only [f_X7_undo, m_g1, h.2.1, show ((oI 0 : Int32) ≤ 0) = True by decide, m_p5, m_g5, upF_eq, show ¬ (1 : Int32) ≤ 0 by decide, show ¬ (2 : Int32) ≤ 0 by decide, show ¬ (3 : Int32) ≤ 0 by decide, show (0 : Int32) ≤ 0 by decide, show ¬ (1 : Int32) = 0 by decide, Option.bind_some, reduceIte, if_true, if_false]
theorem x7_undo_L {S : St} {M : Nat} {A0 : Nat → Nat → Int32} {F : Nat → Int32} {H : Int64} {O : Nat → Int64} {m : Nat} (hm : m < 6) (hF : F 1 = oI m) : ∀ (d fu i : Nat) (A : Nat → Nat → Int32), i + d = 260 → d < fu → (∀ a, a ≠ 0 → A a = A0 a) → (∀ k, k < i → A 0 k = A0 1 (260 * m + k)) →
    ∃ A', f_X7_undo_L37 M fu (MS S M A F H O) (oI i) = some (MS S M A' F H O) ∧ (∀ a, a ≠ 0 → A' a = A0 a) ∧ (∀ k, k < 260 → A' 0 k = A0 1 (260 * m + k))
  | d, 0, i, A, e, hf, h1, h2 => by omega
  | 0, fu + 1, i, A, e, hf, h1, h2 => by
    have : i = 260 := by omega
    subst this
    refine ⟨A, ?_, h1, h2⟩
    rw [f_X7_undo_L37]
    simp (disch := omega) only [l260, oI_le, Nat.le_refl, Option.bind_some, reduceIte, if_true, if_false]
  | d + 1, fu + 1, i, A, e, hf, h1, h2 => by
    have e0 : A 1 (260 * m + i) = A0 1 (260 * m + i) := by rw [h1 1 (by decide)]
    obtain ⟨A', f1, f2, f3⟩ := x7_undo_L (S := S) (M := M) (H := H) (O := O) (A0 := A0) hm hF d fu (i + 1) (up2 A 0 i (A0 1 (260 * m + i))) (by omega) (by omega) (fun a ha => by rw [up2_row _ _ ha]; exact h1 a ha) (fun k hk => by
      by_cases c : k = i
      · subst c; rw [up2_eq]
      · rw [up2_ne _ _ (by omega)]; exact h2 k (by omega))
    refine ⟨A', ?_, f2, f3⟩
    rw [f_X7_undo_L37]
    simp (disch := omega) only [l260, oI_le, show ¬ 260 ≤ i by omega, m_r0, m_r2, m_g1, hF, oI_mul, oI_add, m_a1 (show 260 * m + i < 1560 by omega), e0, m_s0 (show i < 260 by omega), l1, Option.bind_some, reduceIte, if_true, if_false]
    exact f1
theorem m_undo {S : St} {M : Nat} {A : Nat → Nat → Int32} {F : Nat → Int32} {H : Int64} {O : Nat → Int64} {C : Cn} {nh : Nat} {Hs : Nat → Cn} (h : ModW A F C (nh + 1) Hs) (ok : okS C (nh + 1) Hs) :
    ∃ A' F', f_X7_undo (MS S M A F H O) M = some (oI nh, MS S M A' F' H O) ∧ F' 5 = 0 ∧ ModW A' F' (Hs nh) nh Hs ∧ FrM A A' F F' := by
  have h6 := ok.2.1
  obtain ⟨A1, e1, e2, e3⟩ := x7_undo_L (S := S) (M := M) (H := H) (O := O) (A0 := A) (F := upF (upF F 5 0) 1 (oI nh)) (m := nh) (by omega) (upF_eq _ 1 _) 260 FU 0 A (by omega) (FU_lt (by omega)) (fun _ _ => rfl) (fun k hk => by omega)
  refine ⟨A1, upF (upF F 5 0) 1 (oI nh), ?_, by simp [upF], ⟨ShZ_congr (h.2.2 nh (by omega)) (ok.2.2 nh (by omega)) (fun k hk => e3 k hk), upF_eq _ 1 _, fun i hi => by rw [e2 1 (by decide)]; exact h.2.2 i (by omega)⟩, e2 2 (by decide), by simp [upF]⟩
  have hp : (oI (nh + 1) ≤ 0) = False := by rw [l0, oI_le (by omega) (by omega)]; exact eq_false (by omega)
  have hs : oI (nh + 1) - 1 = oI nh := by rw [l1, oI_sub (by omega), Nat.add_sub_cancel]
  have g1 : upF F 5 0 1 = oI (nh + 1) := by rw [upF_ne _ _ (by decide)]; exact h.2.1
  rw [show (oI 0 : Int32) = 0 from rfl] at e1
  simp only [f_X7_undo, m_g1, h.2.1, hp, m_p5, m_g5, g1, hs, m_p1, upF_eq, e1, show ¬ (1 : Int32) ≤ 0 by decide, show ¬ (2 : Int32) ≤ 0 by decide, show ¬ (3 : Int32) ≤ 0 by decide, show (0 : Int32) ≤ 0 by decide, show ¬ (1 : Int32) = 0 by decide, Option.bind_some, reduceIte, if_true, if_false]
