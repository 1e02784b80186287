/-! THE MODEL'S OPERATIONS, one by one -/
theorem va_in {k : Nat} (h : k ≤ 255) : f_X7_isValue (oI k) = some 1 := by
  have := wi_in (k := k) (lo := 0) (hi := 255) (by omega) h (by omega)
  rw [show (oI 0 : Int32) = 0 from rfl, show (oI 255 : Int32) = 255 from rfl] at this
  simp only [f_X7_isValue, this, zz1, Option.bind_some, reduceIte, if_true, if_false]
theorem va_out {a : Int32} (h : a < oI 0 ∨ oI 255 < a) : f_X7_isValue a = some 0 := by
  have := wi_out h
  rw [show (oI 0 : Int32) = 0 from rfl, show (oI 255 : Int32) = 255 from rfl] at this
  simp only [f_X7_isValue, this, zz0, Option.bind_some, reduceIte, if_true, if_false]
theorem z_many {S : St} {M : Nat} {A : Nat → Nat → Int32} {F : Nat → Int32} {H : Int64} {O : Nat → Int64} {C : Cn} (h : ShZ (A 0) C) : aI (MS S M A F H O) (M + 1) 2 = some (oI (cN C)) := by
  rw [l2, m_a0 (show 2 < 260 by omega), h.2.2.1]
theorem eq8 {n : Nat} (h : n ≤ 8) : (oI n = 8) = (n = 8) := by rw [l8, oI_eq (by omega) (by omega)]
theorem m_make_1 {S : St} {M : Nat} {A : Nat → Nat → Int32} {F : Nat → Int32} {H : Int64} {O : Nat → Int64} {a1 a2 : Int32} (hb : (a1 < oI 0 ∨ oI 255 < a1) ∨ (∃ w, w ≤ 255 ∧ a1 = oI w) ∧ (a2 < oI 1 ∨ oI 24 < a2)) : f_X7_make (MS S M A F H O) M a1 a2 = some (0, MS S M A (upF F 5 1) H O) := by
  rcases hb with hb | ⟨⟨w, hw, rfl⟩, hb⟩
  · simp only [f_X7_make, va_out hb, m_p5, m_g5, upF_eq, show ¬ (1 : Int32) ≤ 0 by decide, show ¬ (2 : Int32) ≤ 0 by decide, show ¬ (3 : Int32) ≤ 0 by decide, show (0 : Int32) ≤ 0 by decide, show ¬ (1 : Int32) = 0 by decide, Option.bind_some, reduceIte, if_true, if_false]
  · have := wi_out hb
    rw [show (oI 1 : Int32) = 1 from rfl, show (oI 24 : Int32) = 24 from rfl] at this
    simp only [f_X7_make, va_in hw, this, m_p5, m_g5, upF_eq, show ¬ (1 : Int32) ≤ 0 by decide, show ¬ (2 : Int32) ≤ 0 by decide, show ¬ (3 : Int32) ≤ 0 by decide, show (0 : Int32) ≤ 0 by decide, show ¬ (1 : Int32) = 0 by decide, Option.bind_some, reduceIte, if_true, if_false]
theorem m_make_2 {S : St} {M : Nat} {A : Nat → Nat → Int32} {F : Nat → Int32} {H : Int64} {O : Nat → Int64} {C : Cn} {nh : Nat} {Hs : Nat → Cn} (h : ModW A F C nh Hs) (ok : okS C nh Hs) {w k : Nat} (hw : w ≤ 255) (h1 : 1 ≤ k) (h2 : k ≤ 24) (hn : ¬ cN C < 8) : f_X7_make (MS S M A F H O) M (oI w) (oI k) = some (0, MS S M A (upF F 5 2) H O) := by
  have h8 := ok.1.1
  have e8 : cN C = 8 := by omega
  have := wi_in h1 h2 (by omega)
  rw [show (oI 1 : Int32) = 1 from rfl, show (oI 24 : Int32) = 24 from rfl] at this
  simp only [f_X7_make, va_in hw, this, m_r0, z_many h.1, e8, show ((oI 8 : Int32) = 8) = True from eq_true rfl, m_p5, m_g5, upF_eq, show ¬ (1 : Int32) ≤ 0 by decide, show ¬ (2 : Int32) ≤ 0 by decide, show ¬ (3 : Int32) ≤ 0 by decide, show (0 : Int32) ≤ 0 by decide, show ¬ (1 : Int32) = 0 by decide, Option.bind_some, reduceIte, if_true, if_false]
theorem x7_make_L {S : St} {M : Nat} {A0 : Nat → Nat → Int32} {F : Nat → Int32} {H : Int64} {O : Nat → Int64} {j n : Nat} {w : Int32} (hj : j < 8) (hn : n ≤ 24) : ∀ (d fu i : Nat) (A : Nat → Nat → Int32), i + d = n → d < fu → (∀ a, a ≠ 0 → A a = A0 a) → (∀ k, A 0 k = if 4 + 32 * j + 8 ≤ k ∧ k < 4 + 32 * j + 8 + i then w else A0 0 k) →
    ∃ A', f_X7_make_L63 M w (oI n) (oI j) fu (MS S M A F H O) (oI i) = some (MS S M A' F H O) ∧ (∀ a, a ≠ 0 → A' a = A0 a) ∧ (∀ k, A' 0 k = if 4 + 32 * j + 8 ≤ k ∧ k < 4 + 32 * j + 8 + n then w else A0 0 k)
  | d, 0, i, A, e, hf, h1, h2 => by omega
  | 0, fu + 1, i, A, e, hf, h1, h2 => by
    have : i = n := by omega
    subst this
    refine ⟨A, ?_, h1, h2⟩
    rw [f_X7_make_L63]
    simp (disch := omega) only [oI_le, Nat.le_refl, Option.bind_some, reduceIte, if_true, if_false]
  | d + 1, fu + 1, i, A, e, hf, h1, h2 => by
    obtain ⟨A', f1, f2, f3⟩ := x7_make_L (S := S) (M := M) (F := F) (H := H) (O := O) (A0 := A0) (w := w) hj hn d fu (i + 1) (up2 A 0 (4 + 32 * j + (8 + i)) w) (by omega) (by omega) (fun a ha => by rw [up2_row _ _ ha]; exact h1 a ha) (fun k => by
      by_cases c : k = 4 + 32 * j + (8 + i)
      · subst c; rw [up2_eq, if_pos (by omega)]
      · rw [up2_ne _ _ (by omega), h2 k]
        by_cases c2 : 4 + 32 * j + 8 ≤ k ∧ k < 4 + 32 * j + 8 + i
        · rw [if_pos c2, if_pos (by omega)]
        · rw [if_neg c2, if_neg (by omega)])
    refine ⟨A', ?_, f2, f3⟩
    rw [f_X7_make_L63]
    simp (disch := omega) only [oI_le, show ¬ n ≤ i by omega, m_o, l8, l1, oI_add, x7_setOf (show 4 + 32 * j + (8 + i) < 260 by omega), Option.bind_some, reduceIte, if_true, if_false]
    exact f1
theorem ModW_F {A : Nat → Nat → Int32} {F : Nat → Int32} {C : Cn} {nh : Nat} {Hs : Nat → Cn} (h : ModW A F C nh Hs) {k : Nat} (hk : k ≠ 1) (v : Int32) : ModW A (upF F k v) C nh Hs := ModW_fr h rfl rfl (upF_ne F v (fun e => hk e.symm))
theorem m_make {S : St} {M : Nat} {A : Nat → Nat → Int32} {F : Nat → Int32} {H : Int64} {O : Nat → Int64} {C : Cn} {nh : Nat} {Hs : Nat → Cn} (h : ModW A F C nh Hs) (ok : okS C nh Hs) {w k : Nat} (hw : w ≤ 255) (h1 : 1 ≤ k) (h2 : k ≤ 24) (hn : cN C < 8) :
    ∃ A' F', f_X7_make (MS S M A F H O) M (oI w) (oI k) = some (oI (cN C), MS S M A' F' H O) ∧ F' 5 = 0 ∧ ModW A' F' (openC C k (fun i => if i < 0 then 0 else w)) (svN nh) (svH C nh Hs) ∧ FrM A A' F F' := by
  have h8 := ok.1.1
  obtain ⟨A1, q1, q2, q3⟩ := x7_save (S := S) (M := M) (H := H) (O := O) (ModW_F h (show 5 ≠ 1 by decide) 0) ok
  have ok1 := okS_save ok
  obtain ⟨A2, b1, b2, b3, b4, b5, b6⟩ := x7_begin (S := S) (M := M) (F := upF (upF F 5 0) 1 (oI (svN nh))) (H := H) (O := O) hn q2.1.2.2.1 (oI k)
  obtain ⟨A3, c1, c2, c3⟩ := x7_make_L (S := S) (M := M) (F := upF (upF F 5 0) 1 (oI (svN nh))) (H := H) (O := O) (A0 := A2) (w := oI w) hn h2 k FU 0 A2 (by omega) (FU_lt (by omega)) (fun _ _ => rfl) (fun k => by rw [if_neg (by omega)])
  obtain ⟨A4, d1, d2, d3, d4⟩ := x7_close (S := S) (M := M) (H := H) (O := O) (A' := A3) (g := fun i => if i < 0 then 0 else w) q2 ok1 hn h1 h2 (fun i => by split <;> omega) (by rw [c2 1 (by decide), b2 1 (by decide)]) (by rw [c2 2 (by decide), b2 2 (by decide)]) (by rw [c3, if_neg (by omega)]; exact b3) (by rw [c3, if_neg (by omega)]; exact b4) (fun t a b => by rw [c3, if_neg (by omega)]; exact b5 t a (by omega)) (fun i hi => by rw [c3, if_pos (by omega)]; rfl) (fun i a b => by rw [c3, if_neg (by omega)]; exact b6 i a b)
  refine ⟨A4, _, ?_, by simp [upF], d2, by rw [d4, q3 2 (by decide)], by simp [upF]⟩
  have hwi := wi_in h1 h2 (by omega)
  rw [show (oI 1 : Int32) = 1 from rfl, show (oI 24 : Int32) = 24 from rfl] at hwi
  rw [show (oI 0 : Int32) = 0 from rfl] at c1
  simp only [f_X7_make, va_in hw, hwi, m_r0, z_many h.1, eq8 h8, show ¬ cN C = 8 by omega, m_p5, m_g5, upF_eq, m_o, q1, b1, c1, d1, show ¬ (1 : Int32) ≤ 0 by decide, show ¬ (2 : Int32) ≤ 0 by decide, show ¬ (3 : Int32) ≤ 0 by decide, show (0 : Int32) ≤ 0 by decide, show ¬ (1 : Int32) = 0 by decide, Option.bind_some, reduceIte, if_true, if_false]
theorem m_add_1 {S : St} {M : Nat} {A : Nat → Nat → Int32} {F : Nat → Int32} {H : Int64} {O : Nat → Int64} {C : Cn} {nh : Nat} {Hs : Nat → Cn} (h : ModW A F C nh Hs) (ok : okS C nh Hs) {a v : Int32} (ha : a < 0 ∨ oI (cN C) ≤ a) : f_X7_add (MS S M A F H O) M a v = some (0, MS S M A (upF F 5 1) H O) := by
  simp only [f_X7_add, m_o, x7_isBlock_out h.1 ok.1.1 ha, m_p5, m_g5, upF_eq, show ¬ (1 : Int32) ≤ 0 by decide, show ¬ (2 : Int32) ≤ 0 by decide, show ¬ (3 : Int32) ≤ 0 by decide, show (0 : Int32) ≤ 0 by decide, show ¬ (1 : Int32) = 0 by decide, Option.bind_some, reduceIte, if_true, if_false]
theorem m_add_2 {S : St} {M : Nat} {A : Nat → Nat → Int32} {F : Nat → Int32} {H : Int64} {O : Nat → Int64} {C : Cn} {nh : Nat} {Hs : Nat → Cn} (h : ModW A F C nh Hs) (ok : okS C nh Hs) {j : Nat} {v : Int32} (hj : j < cN C) (hv : v < oI 0 ∨ oI 255 < v) : f_X7_add (MS S M A F H O) M (oI j) v = some (0, MS S M A (upF F 5 2) H O) := by
  simp only [f_X7_add, m_o, x7_isBlock_in h.1 ok.1.1 hj, va_out hv, m_p5, m_g5, upF_eq, show ¬ (1 : Int32) ≤ 0 by decide, show ¬ (2 : Int32) ≤ 0 by decide, show ¬ (3 : Int32) ≤ 0 by decide, show (0 : Int32) ≤ 0 by decide, show ¬ (1 : Int32) = 0 by decide, Option.bind_some, reduceIte, if_true, if_false]
theorem z_n {S : St} {M : Nat} {A : Nat → Nat → Int32} {F : Nat → Int32} {H : Int64} {O : Nat → Int64} {C : Cn} (h : ShZ (A 0) C) (h8 : cN C ≤ 8) {j : Nat} (hj : j < cN C) : f_X7_of (MS S M A F H O) M (oI j) 0 = some (oI (bN (cB C j))) := by
  rw [l0, x7_of (show 4 + 32 * j + 0 < 260 by omega), (h.2.2.2.2 j hj).1]
theorem m_add_3 {S : St} {M : Nat} {A : Nat → Nat → Int32} {F : Nat → Int32} {H : Int64} {O : Nat → Int64} {C : Cn} {nh : Nat} {Hs : Nat → Cn} (h : ModW A F C nh Hs) (ok : okS C nh Hs) {j w : Nat} (hj : j < cN C) (hw : w ≤ 255) (hn : bN (cB C j) = 24) : f_X7_add (MS S M A F H O) M (oI j) (oI w) = some (0, MS S M A (upF F 5 3) H O) := by
  simp only [f_X7_add, m_o, x7_isBlock_in h.1 ok.1.1 hj, va_in hw, z_n h.1 ok.1.1 hj, hn, show ((oI 24 : Int32) = 24) = True from eq_true rfl, m_p5, m_g5, upF_eq, show ¬ (1 : Int32) ≤ 0 by decide, show ¬ (2 : Int32) ≤ 0 by decide, show ¬ (3 : Int32) ≤ 0 by decide, show (0 : Int32) ≤ 0 by decide, show ¬ (1 : Int32) = 0 by decide, Option.bind_some, reduceIte, if_true, if_false]
theorem ShB_v {A : Nat → Nat → Int32} {j p w : Nat} {b : Bk} (h : ShB (A 0) j b) : ShB (up2 A 0 (4 + 32 * j + (8 + p)) (oI w) 0) j (bN b, bC b, bV b, (fun i => if i = p then w else bG b i), bK b) := by
  refine ShB_mk (by rw [up2_ne _ _ (by omega)]; exact h.1) (by rw [up2_ne _ _ (by omega)]; exact h.2.1) (by rw [up2_ne _ _ (by omega)]; exact h.2.2.1) (fun k a c => by rw [up2_ne _ _ (by omega)]; exact h.2.2.2.1 k a c) (fun i hi => ?_)
  by_cases c : i = p
  · subst c; rw [up2_eq, if_pos rfl]
  · rw [up2_ne _ _ (by omega), if_neg c]; exact h.2.2.2.2 i hi
theorem m_add {S : St} {M : Nat} {A : Nat → Nat → Int32} {F : Nat → Int32} {H : Int64} {O : Nat → Int64} {C : Cn} {nh : Nat} {Hs : Nat → Cn} (h : ModW A F C nh Hs) (ok : okS C nh Hs) {j w : Nat} (hj : j < cN C) (hw : w ≤ 255) (hn : bN (cB C j) < 24) :
    ∃ A' F', f_X7_add (MS S M A F H O) M (oI j) (oI w) = some (oI (bN (cB C j) + 1), MS S M A' F' H O) ∧ F' 5 = 0 ∧ ModW A' F' (updB C j (addB (cB C j) w)) (svN nh) (svH C nh Hs) ∧ FrM A A' F F' := by
  have h8 := ok.1.1
  obtain ⟨A1, q1, q2, q3⟩ := x7_save (S := S) (M := M) (H := H) (O := O) (ModW_F h (show 5 ≠ 1 by decide) 0) ok
  have hb := q2.1.2.2.2.2 j hj
  refine ⟨up2 (up2 A1 0 (4 + 32 * j + (8 + bN (cB C j))) (oI w)) 0 (4 + 32 * j + 0) (oI (bN (cB C j) + 1)), upF (upF F 5 0) 1 (oI (svN nh)), ?_, by simp [upF], ?_, by rw [up2_row _ _ (by decide), up2_row _ _ (by decide), q3 2 (by decide)], by simp [upF]⟩
  · have hne : (oI (bN (cB C j)) = 24) = False := by rw [l24, oI_eq (by omega) (by omega)]; exact eq_false (by omega)
    have r1 : f_X7_of (MS S M (up2 A1 0 (4 + 32 * j + (8 + bN (cB C j))) (oI w)) (upF (upF F 5 0) 1 (oI (svN nh))) H O) M (oI j) (oI 0) = some (oI (bN (cB C j))) := by
      rw [x7_of (show 4 + 32 * j + 0 < 260 by omega), up2_ne _ _ (by omega), hb.1]
    have r2 : f_X7_of (MS S M (up2 (up2 A1 0 (4 + 32 * j + (8 + bN (cB C j))) (oI w)) 0 (4 + 32 * j + 0) (oI (bN (cB C j) + 1))) (upF (upF F 5 0) 1 (oI (svN nh))) H O) M (oI j) (oI 0) = some (oI (bN (cB C j) + 1)) := by
      rw [x7_of (show 4 + 32 * j + 0 < 260 by omega), up2_eq]
    have s1 := x7_setOf (S := S) (M := M) (A := A1) (F := upF (upF F 5 0) 1 (oI (svN nh))) (H := H) (O := O) (show 4 + 32 * j + (8 + bN (cB C j)) < 260 by omega) (oI w)
    have s2 := x7_setOf (S := S) (M := M) (A := up2 A1 0 (4 + 32 * j + (8 + bN (cB C j))) (oI w)) (F := upF (upF F 5 0) 1 (oI (svN nh))) (H := H) (O := O) (show 4 + 32 * j + 0 < 260 by omega) (oI (bN (cB C j) + 1))
    rw [show (oI 0 : Int32) = 0 from rfl] at r1 r2 s2
    rw [← oI_add, show (oI 1 : Int32) = 1 from rfl] at s2 r2
    rw [← oI_add 8, show (oI 8 : Int32) = 8 from rfl] at s1
    rw [← oI_add, show (oI 1 : Int32) = 1 from rfl]
    simp only [f_X7_add, m_o, x7_isBlock_in h.1 h8 hj, va_in hw, z_n h.1 h8 hj, hne, m_p5, m_g5, upF_eq, q1, z_n q2.1 h8 hj, s1, r1, s2, r2, show ¬ (1 : Int32) ≤ 0 by decide, show ¬ (2 : Int32) ≤ 0 by decide, show ¬ (3 : Int32) ≤ 0 by decide, show (0 : Int32) ≤ 0 by decide, show ¬ (1 : Int32) = 0 by decide, Option.bind_some, reduceIte, if_true, if_false]
  · refine ModW_z q2 (ShZ_blk q2.1 ok.1 (fun i hi => by rw [up2_ne _ _ (by omega), up2_ne _ _ (by omega)]) ?_) (by rw [up2_row _ _ (by decide), up2_row _ _ (by decide)]) rfl
    unfold addB
    refine ShB_mk (up2_eq _ _ _ _) (by rw [up2_ne _ _ (by omega), up2_ne _ _ (by omega)]; exact hb.2.1) (by rw [up2_ne _ _ (by omega), up2_ne _ _ (by omega)]; exact hb.2.2.1) (fun k a c => by rw [up2_ne _ _ (by omega), up2_ne _ _ (by omega)]; exact hb.2.2.2.1 k a c) (fun i hi => ?_)
    rw [up2_ne _ _ (by omega)]
    by_cases c : i < bN (cB C j)
    · rw [up2_ne _ _ (by omega), if_pos c]; exact hb.2.2.2.2 i c
    · have : i = bN (cB C j) := by omega
      rw [if_neg c, this, up2_eq]
theorem m_put_1 {S : St} {M : Nat} {A : Nat → Nat → Int32} {F : Nat → Int32} {H : Int64} {O : Nat → Int64} {C : Cn} {nh : Nat} {Hs : Nat → Cn} (h : ModW A F C nh Hs) (ok : okS C nh Hs) {a p v : Int32} (ha : (a < 0 ∨ oI (cN C) ≤ a) ∨ ∃ j, j < cN C ∧ a = oI j ∧ (p < 0 ∨ oI (bN (cB C j)) ≤ p)) : f_X7_put (MS S M A F H O) M a p v = some (0, MS S M A (upF F 5 1) H O) := by
  simp only [f_X7_put, m_o, x7_isPlace_out h.1 ok.1 ha, m_p5, m_g5, upF_eq, show ¬ (1 : Int32) ≤ 0 by decide, show ¬ (2 : Int32) ≤ 0 by decide, show ¬ (3 : Int32) ≤ 0 by decide, show (0 : Int32) ≤ 0 by decide, show ¬ (1 : Int32) = 0 by decide, Option.bind_some, reduceIte, if_true, if_false]
theorem m_put_2 {S : St} {M : Nat} {A : Nat → Nat → Int32} {F : Nat → Int32} {H : Int64} {O : Nat → Int64} {C : Cn} {nh : Nat} {Hs : Nat → Cn} (h : ModW A F C nh Hs) (ok : okS C nh Hs) {j p : Nat} {v : Int32} (hj : j < cN C) (hp : p < bN (cB C j)) (hv : v < oI 0 ∨ oI 255 < v) : f_X7_put (MS S M A F H O) M (oI j) (oI p) v = some (0, MS S M A (upF F 5 2) H O) := by
  simp only [f_X7_put, m_o, x7_isPlace_in h.1 ok.1 hj hp, va_out hv, m_p5, m_g5, upF_eq, show ¬ (1 : Int32) ≤ 0 by decide, show ¬ (2 : Int32) ≤ 0 by decide, show ¬ (3 : Int32) ≤ 0 by decide, show (0 : Int32) ≤ 0 by decide, show ¬ (1 : Int32) = 0 by decide, Option.bind_some, reduceIte, if_true, if_false]
theorem m_put {S : St} {M : Nat} {A : Nat → Nat → Int32} {F : Nat → Int32} {H : Int64} {O : Nat → Int64} {C : Cn} {nh : Nat} {Hs : Nat → Cn} (h : ModW A F C nh Hs) (ok : okS C nh Hs) {j p w : Nat} (hj : j < cN C) (hp : p < bN (cB C j)) (hw : w ≤ 255) :
    ∃ A' F', f_X7_put (MS S M A F H O) M (oI j) (oI p) (oI w) = some (oI (bG (cB C j) p), MS S M A' F' H O) ∧ F' 5 = 0 ∧ ModW A' F' (updB C j (putB (cB C j) p w)) (svN nh) (svH C nh Hs) ∧ FrM A A' F F' := by
  have h8 := ok.1.1
  have h24 := (ok.1.2.2.2.2 j hj).2.1
  obtain ⟨A1, q1, q2, q3⟩ := x7_save (S := S) (M := M) (H := H) (O := O) (ModW_F h (show 5 ≠ 1 by decide) 0) ok
  have hb := q2.1.2.2.2.2 j hj
  refine ⟨up2 A1 0 (4 + 32 * j + (8 + p)) (oI w), upF (upF F 5 0) 1 (oI (svN nh)), ?_, by simp [upF], ?_, by rw [up2_row _ _ (by decide), q3 2 (by decide)], by simp [upF]⟩
  · have r1 := x7_of (S := S) (M := M) (A := A1) (F := upF (upF F 5 0) 1 (oI (svN nh))) (H := H) (O := O) (show 4 + 32 * j + (8 + p) < 260 by omega)
    have s1 := x7_setOf (S := S) (M := M) (A := A1) (F := upF (upF F 5 0) 1 (oI (svN nh))) (H := H) (O := O) (show 4 + 32 * j + (8 + p) < 260 by omega) (oI w)
    rw [hb.2.2.2.2 p hp] at r1
    rw [← oI_add 8, show (oI 8 : Int32) = 8 from rfl] at s1 r1
    simp only [f_X7_put, m_o, x7_isPlace_in h.1 ok.1 hj hp, va_in hw, m_p5, m_g5, upF_eq, q1, r1, s1, show ¬ (1 : Int32) ≤ 0 by decide, show ¬ (2 : Int32) ≤ 0 by decide, show ¬ (3 : Int32) ≤ 0 by decide, show (0 : Int32) ≤ 0 by decide, show ¬ (1 : Int32) = 0 by decide, Option.bind_some, reduceIte, if_true, if_false]
  · exact ModW_z q2 (ShZ_blk q2.1 ok.1 (fun i hi => by rw [up2_ne _ _ (by omega)]) (ShB_v hb)) (by rw [up2_row _ _ (by decide)]) rfl
