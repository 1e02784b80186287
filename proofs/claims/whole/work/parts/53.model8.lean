/-! THE MODEL: join and cut, whole -/
theorem of_ne {S : St} {M : Nat} {A A' : Nat → Nat → Int32} {F : Nat → Int32} {H : Int64} {O : Nat → Int64} {j k : Nat} {c : Int32} {v : Int32} (hk : 4 + 32 * j + k < 260) (e : A' 0 (4 + 32 * j + k) = v) (hc : c = oI k) : f_X7_of (MS S M A' F H O) M (oI j) c = some v := by
  rw [hc, x7_of hk, e]
theorem set_at {S : St} {M : Nat} {A : Nat → Nat → Int32} {F : Nat → Int32} {H : Int64} {O : Nat → Int64} {j k : Nat} {c : Int32} (hk : 4 + 32 * j + k < 260) (v : Int32) (hc : c = oI k) : f_X7_setOf (MS S M A F H O) M (oI j) c v = some (MS S M (up2 A 0 (4 + 32 * j + k) v) F H O) := by
  rw [hc, x7_setOf hk]
theorem m_join {S : St} {M : Nat} {A : Nat → Nat → Int32} {F : Nat → Int32} {H : Int64} {O : Nat → Int64} {C : Cn} {nh : Nat} {Hs : Nat → Cn} (h : ModW A F C nh Hs) (ok : okS C nh Hs) {j k : Nat} (hj : j < cN C) (hk : k < cN C) (hn : j ≠ k) (h24 : bN (cB C j) + bN (cB C k) ≤ 24) :
    ∃ A' F', f_X7_join (MS S M A F H O) M (oI j) (oI k) = some (if j ≤ k then oI j else oI (j - 1), MS S M A' F' H O) ∧ F' 5 = 0 ∧ ModW A' F' (joinC C j k) (svN nh) (svH C nh Hs) ∧ FrM A A' F F' := by
  have h8 := ok.1.1
  have oka := ok.1.2.2.2.2 j hj
  have okb := ok.1.2.2.2.2 k hk
  obtain ⟨A1, q1, q2, q3⟩ := x7_save (S := S) (M := M) (H := H) (O := O) (ModW_F h (show 5 ≠ 1 by decide) 0) ok
  have ha := q2.1.2.2.2.2 j hj
  have hb := q2.1.2.2.2.2 k hk
  obtain ⟨A2, e1, e2, e3⟩ := x7_both (S := S) (M := M) (F := upF (upF F 5 0) 1 (oI (svN nh))) (H := H) (O := O) (j := j) (k := k) (by omega) (by omega) ha hb oka okb h24
  obtain ⟨A3, t1, t2, t3⟩ := x7_join_L (S := S) (M := M) (F := upF (upF (upF F 5 0) 1 (oI (svN nh))) 7 (oI (bN (cB C j) + bN (cB C k)))) (H := H) (O := O) (A0 := A2) (j := j) (y := oI k) (by omega) h24 (upF_eq _ 7 _) (bN (cB C j) + bN (cB C k)) FU 0 A2 (by omega) (FU_lt (by omega)) (fun _ _ => rfl) (fun t => by rw [if_neg (by omega)])
  have eZ : A2 0 = A1 0 := e2 0 (by decide)
  have g : ∀ t, ¬ (4 + 32 * j + 8 ≤ t ∧ t < 4 + 32 * j + (8 + (bN (cB C j) + bN (cB C k)))) → A3 0 t = A1 0 t := fun t ht => by rw [t3, if_neg ht, eZ]
  have hs0 : ShB (up2 A3 0 (4 + 32 * j + 0) (oI (bN (cB C j) + bN (cB C k))) 0) j (bN (cB C j) + bN (cB C k), bC (cB C j), bV (cB C j), jg (cB C j) (cB C k), bK (cB C j)) := by
    refine ShB_mk (up2_eq _ _ _ _) (by rw [up2_ne _ _ (by omega), g _ (by omega)]; exact ha.2.1) (by rw [up2_ne _ _ (by omega), g _ (by omega)]; exact ha.2.2.1) (fun t a b => by rw [up2_ne _ _ (by omega), g _ (by omega)]; exact ha.2.2.2.1 t a b) (fun i hi => ?_)
    rw [up2_ne _ _ (by omega), t3, if_pos (by omega), show 4 + 32 * j + (8 + i) - (4 + 32 * j + 8) = i by omega]
    exact e3 i hi
  have hs3 := ShB_k hs0 (show 3 ≤ 3 by decide) (show 3 < 8 by decide) (bK (cB C j) 3 + bK (cB C k) 3)
  have hs4 := ShB_k hs3 (show 3 ≤ 4 by decide) (show 4 < 8 by decide) (bK (cB C j) 4 + bK (cB C k) 4)
  have hs6 : ShB _ j (absB (cB C j) (cB C k)) := ShB_k hs4 (show 3 ≤ 6 by decide) (show 6 < 8 by decide) (bK (cB C j) 6 + bK (cB C k) 6)
  have okab : okB (absB (cB C j) (cB C k)) := okB_abs oka okb h24
  have hz := ShZ_blk q2.1 ok.1 (fun i hi => by rw [up2_ne _ _ (by omega), up2_ne _ _ (by omega), up2_ne _ _ (by omega), up2_ne _ _ (by omega), g _ (by omega)]) hs6
  obtain ⟨A5, r1, r2, r3⟩ := x7_rem (S := S) (M := M) (F := upF (upF (upF F 5 0) 1 (oI (svN nh))) 7 (oI (bN (cB C j) + bN (cB C k)))) (H := H) (O := O) hz (okC_upd ok.1 okab) hk
  have a3 := ha.2.2.2.1 3 (by omega) (by omega)
  have a4 := ha.2.2.2.1 4 (by omega) (by omega)
  have a6 := ha.2.2.2.1 6 (by omega) (by omega)
  have b3 := hb.2.2.2.1 3 (by omega) (by omega)
  have b4 := hb.2.2.2.1 4 (by omega) (by omega)
  have b6 := hb.2.2.2.1 6 (by omega) (by omega)
  refine ⟨A5, upF (upF (upF F 5 0) 1 (oI (svN nh))) 7 (oI (bN (cB C j) + bN (cB C k))), ?_, by simp [upF], ModW_z q2 r2 (by rw [r3 1 (by decide), up2_row _ _ (by decide), up2_row _ _ (by decide), up2_row _ _ (by decide), up2_row _ _ (by decide), t2 1 (by decide), e2 1 (by decide)]) (upF_ne _ _ (by decide)), by rw [r3 2 (by decide), up2_row _ _ (by decide), up2_row _ _ (by decide), up2_row _ _ (by decide), up2_row _ _ (by decide), t2 2 (by decide), e2 2 (by decide), q3 2 (by decide)], by simp [upF]⟩
  have hc := x7_can (S := S) (M := M) (F := F) (H := H) (O := O) h.1 ok.1 hj hk
  rw [if_neg (by omega)] at hc
  have hne : (oI j = oI k) = False := by rw [oI_eq (by omega) (by omega)]; exact eq_false hn
  rw [show (oI 0 : Int32) = 0 from rfl] at t1
  have z0 := set_at (S := S) (M := M) (A := A3) (F := upF (upF (upF F 5 0) 1 (oI (svN nh))) 7 (oI (bN (cB C j) + bN (cB C k)))) (H := H) (O := O) (c := 0) (show 4 + 32 * j + 0 < 260 by omega) (oI (bN (cB C j) + bN (cB C k))) rfl
  have o3j := of_ne (S := S) (M := M) (A' := up2 A3 0 (4 + 32 * j + 0) (oI (bN (cB C j) + bN (cB C k)))) (F := upF (upF (upF F 5 0) 1 (oI (svN nh))) 7 (oI (bN (cB C j) + bN (cB C k)))) (H := H) (O := O) (A := A) (c := 3) (show 4 + 32 * j + 3 < 260 by omega) (by rw [up2_ne _ _ (by omega), g _ (by omega), a3]) rfl
  have o3k := of_ne (S := S) (M := M) (A' := up2 A3 0 (4 + 32 * j + 0) (oI (bN (cB C j) + bN (cB C k)))) (F := upF (upF (upF F 5 0) 1 (oI (svN nh))) 7 (oI (bN (cB C j) + bN (cB C k)))) (H := H) (O := O) (A := A) (c := 3) (show 4 + 32 * k + 3 < 260 by omega) (by rw [up2_ne _ _ (by omega), g _ (by omega), b3]) rfl
  have z3 := set_at (S := S) (M := M) (A := up2 A3 0 (4 + 32 * j + 0) (oI (bN (cB C j) + bN (cB C k)))) (F := upF (upF (upF F 5 0) 1 (oI (svN nh))) 7 (oI (bN (cB C j) + bN (cB C k)))) (H := H) (O := O) (c := 3) (show 4 + 32 * j + 3 < 260 by omega) (bK (cB C j) 3 + bK (cB C k) 3) rfl
  have o4j := of_ne (S := S) (M := M) (A' := up2 (up2 A3 0 (4 + 32 * j + 0) (oI (bN (cB C j) + bN (cB C k)))) 0 (4 + 32 * j + 3) (bK (cB C j) 3 + bK (cB C k) 3)) (F := upF (upF (upF F 5 0) 1 (oI (svN nh))) 7 (oI (bN (cB C j) + bN (cB C k)))) (H := H) (O := O) (A := A) (c := 4) (show 4 + 32 * j + 4 < 260 by omega) (by rw [up2_ne _ _ (by omega), up2_ne _ _ (by omega), g _ (by omega), a4]) rfl
  have o4k := of_ne (S := S) (M := M) (A' := up2 (up2 A3 0 (4 + 32 * j + 0) (oI (bN (cB C j) + bN (cB C k)))) 0 (4 + 32 * j + 3) (bK (cB C j) 3 + bK (cB C k) 3)) (F := upF (upF (upF F 5 0) 1 (oI (svN nh))) 7 (oI (bN (cB C j) + bN (cB C k)))) (H := H) (O := O) (A := A) (c := 4) (show 4 + 32 * k + 4 < 260 by omega) (by rw [up2_ne _ _ (by omega), up2_ne _ _ (by omega), g _ (by omega), b4]) rfl
  have z4 := set_at (S := S) (M := M) (A := up2 (up2 A3 0 (4 + 32 * j + 0) (oI (bN (cB C j) + bN (cB C k)))) 0 (4 + 32 * j + 3) (bK (cB C j) 3 + bK (cB C k) 3)) (F := upF (upF (upF F 5 0) 1 (oI (svN nh))) 7 (oI (bN (cB C j) + bN (cB C k)))) (H := H) (O := O) (c := 4) (show 4 + 32 * j + 4 < 260 by omega) (bK (cB C j) 4 + bK (cB C k) 4) rfl
  have o6j := of_ne (S := S) (M := M) (A' := up2 (up2 (up2 A3 0 (4 + 32 * j + 0) (oI (bN (cB C j) + bN (cB C k)))) 0 (4 + 32 * j + 3) (bK (cB C j) 3 + bK (cB C k) 3)) 0 (4 + 32 * j + 4) (bK (cB C j) 4 + bK (cB C k) 4)) (F := upF (upF (upF F 5 0) 1 (oI (svN nh))) 7 (oI (bN (cB C j) + bN (cB C k)))) (H := H) (O := O) (A := A) (c := 6) (show 4 + 32 * j + 6 < 260 by omega) (by rw [up2_ne _ _ (by omega), up2_ne _ _ (by omega), up2_ne _ _ (by omega), g _ (by omega), a6]) rfl
  have o6k := of_ne (S := S) (M := M) (A' := up2 (up2 (up2 A3 0 (4 + 32 * j + 0) (oI (bN (cB C j) + bN (cB C k)))) 0 (4 + 32 * j + 3) (bK (cB C j) 3 + bK (cB C k) 3)) 0 (4 + 32 * j + 4) (bK (cB C j) 4 + bK (cB C k) 4)) (F := upF (upF (upF F 5 0) 1 (oI (svN nh))) 7 (oI (bN (cB C j) + bN (cB C k)))) (H := H) (O := O) (A := A) (c := 6) (show 4 + 32 * k + 6 < 260 by omega) (by rw [up2_ne _ _ (by omega), up2_ne _ _ (by omega), up2_ne _ _ (by omega), g _ (by omega), b6]) rfl
  have z6 := set_at (S := S) (M := M) (A := up2 (up2 (up2 A3 0 (4 + 32 * j + 0) (oI (bN (cB C j) + bN (cB C k)))) 0 (4 + 32 * j + 3) (bK (cB C j) 3 + bK (cB C k) 3)) 0 (4 + 32 * j + 4) (bK (cB C j) 4 + bK (cB C k) 4)) (F := upF (upF (upF F 5 0) 1 (oI (svN nh))) 7 (oI (bN (cB C j) + bN (cB C k)))) (H := H) (O := O) (c := 6) (show 4 + 32 * j + 6 < 260 by omega) (bK (cB C j) 6 + bK (cB C k) 6) rfl
  simp only [f_X7_join, m_o, x7_isBlock_in h.1 h8 hj, x7_isBlock_in h.1 h8 hk, hne, hc, m_p5, m_g5, upF_eq, q1, e1, t1, m_g7, z0, o3j, o3k, z3, o4j, o4k, z4, o6j, o6k, z6, r1, show ¬ (1 : Int32) ≤ 0 by decide, show ¬ (2 : Int32) ≤ 0 by decide, show ¬ (3 : Int32) ≤ 0 by decide, show (0 : Int32) ≤ 0 by decide, show ¬ (1 : Int32) = 0 by decide, Option.bind_some, reduceIte, if_true, if_false]
  by_cases c : j ≤ k
  · have : (oI j ≤ oI k) = True := by rw [oI_le (by omega) (by omega)]; exact eq_true c
    simp only [c, this, Option.bind_some, reduceIte, if_true, if_false]
  · have : (oI j ≤ oI k) = False := by rw [oI_le (by omega) (by omega)]; exact eq_false c
    simp only [c, this, l1, oI_sub (show 1 ≤ j by omega), Option.bind_some, reduceIte, if_true, if_false]
theorem m_cut_1 {S : St} {M : Nat} {A : Nat → Nat → Int32} {F : Nat → Int32} {H : Int64} {O : Nat → Int64} {C : Cn} {nh : Nat} {Hs : Nat → Cn} (h : ModW A F C nh Hs) (ok : okS C nh Hs) {a p : Int32} (ha : (a < 0 ∨ oI (cN C) ≤ a) ∨ ∃ j, j < cN C ∧ a = oI j ∧ (p < 0 ∨ oI (bN (cB C j)) ≤ p)) : f_X7_cut (MS S M A F H O) M a p = some (0, MS S M A (upF F 5 1) H O) := by
  simp only [f_X7_cut, m_o, x7_isPlace_out h.1 ok.1 ha, m_p5, m_g5, upF_eq, show ¬ (1 : Int32) ≤ 0 by decide, show ¬ (2 : Int32) ≤ 0 by decide, show ¬ (3 : Int32) ≤ 0 by decide, show (0 : Int32) ≤ 0 by decide, show ¬ (1 : Int32) = 0 by decide, Option.bind_some, reduceIte, if_true, if_false]
theorem m_cut_1z {S : St} {M : Nat} {A : Nat → Nat → Int32} {F : Nat → Int32} {H : Int64} {O : Nat → Int64} {C : Cn} {nh : Nat} {Hs : Nat → Cn} (h : ModW A F C nh Hs) (ok : okS C nh Hs) {j : Nat} (hj : j < cN C) : f_X7_cut (MS S M A F H O) M (oI j) (oI 0) = some (0, MS S M A (upF F 5 1) H O) := by
  have hok := ok.1.2.2.2.2 j hj
  simp only [f_X7_cut, m_o, x7_isPlace_in h.1 ok.1 hj (show 0 < bN (cB C j) from hok.1), show ((1 : Int32) ≤ oI 0) = False by decide, m_p5, m_g5, upF_eq, show ¬ (1 : Int32) ≤ 0 by decide, show ¬ (2 : Int32) ≤ 0 by decide, show ¬ (3 : Int32) ≤ 0 by decide, show (0 : Int32) ≤ 0 by decide, show ¬ (1 : Int32) = 0 by decide, Option.bind_some, reduceIte, if_true, if_false]
theorem m_cut_2 {S : St} {M : Nat} {A : Nat → Nat → Int32} {F : Nat → Int32} {H : Int64} {O : Nat → Int64} {C : Cn} {nh : Nat} {Hs : Nat → Cn} (h : ModW A F C nh Hs) (ok : okS C nh Hs) {j p : Nat} (hj : j < cN C) (hp : p < bN (cB C j)) (h1 : 1 ≤ p) (hn : ¬ cN C < 8) : f_X7_cut (MS S M A F H O) M (oI j) (oI p) = some (0, MS S M A (upF F 5 2) H O) := by
  have h8 := ok.1.1
  have h24 := (ok.1.2.2.2.2 j hj).2.1
  have e8 : cN C = 8 := by omega
  have hp1 : ((1 : Int32) ≤ oI p) = True := by rw [l1, oI_le (by omega) (by omega)]; exact eq_true h1
  simp only [f_X7_cut, m_o, x7_isPlace_in h.1 ok.1 hj hp, hp1, m_r0, z_many h.1, e8, show ((oI 8 : Int32) = 8) = True from eq_true rfl, m_p5, m_g5, upF_eq, show ¬ (1 : Int32) ≤ 0 by decide, show ¬ (2 : Int32) ≤ 0 by decide, show ¬ (3 : Int32) ≤ 0 by decide, show (0 : Int32) ≤ 0 by decide, show ¬ (1 : Int32) = 0 by decide, Option.bind_some, reduceIte, if_true, if_false]
theorem x7_cut_L {S : St} {M : Nat} {A0 : Nat → Nat → Int32} {F : Nat → Int32} {H : Int64} {O : Nat → Int64} {b n p : Nat} {y : Int32} (hb : b < 8) (hn : n ≤ 24) : ∀ (d fu i : Nat) (A : Nat → Nat → Int32), p + i + d = n → d < fu → (∀ a, a ≠ 0 → A a = A0 a) → (∀ k, A 0 k = if 4 + 32 * b + 8 ≤ k ∧ k < 4 + 32 * b + (8 + i) then A0 3 (p + (k - (4 + 32 * b + 8))) else A0 0 k) →
    ∃ A', f_X7_cut_L73 M y (oI p) (oI n) (oI b) fu (MS S M A F H O) (oI (p + i)) = some (MS S M A' F H O) ∧ (∀ a, a ≠ 0 → A' a = A0 a) ∧ (∀ k, A' 0 k = if 4 + 32 * b + 8 ≤ k ∧ k < 4 + 32 * b + (8 + (n - p)) then A0 3 (p + (k - (4 + 32 * b + 8))) else A0 0 k)
  | d, 0, i, A, e, hf, h1, h2 => by omega
  | 0, fu + 1, i, A, e, hf, h1, h2 => by
    refine ⟨A, ?_, h1, fun k => by rw [h2 k, show n - p = i by omega]⟩
    rw [f_X7_cut_L73]
    simp (disch := omega) only [oI_le, show n ≤ p + i by omega, Option.bind_some, reduceIte, if_true, if_false]
  | d + 1, fu + 1, i, A, e, hf, h1, h2 => by
    have e0 : A 3 (p + i) = A0 3 (p + i) := by rw [h1 3 (by decide)]
    obtain ⟨A', f1, f2, f3⟩ := x7_cut_L (S := S) (M := M) (F := F) (H := H) (O := O) (A0 := A0) (p := p) (y := y) hb hn d fu (i + 1) (up2 A 0 (4 + 32 * b + (8 + i)) (A0 3 (p + i))) (by omega) (by omega) (fun a ha => by rw [up2_row _ _ ha]; exact h1 a ha) (fun k => by
      by_cases c : k = 4 + 32 * b + (8 + i)
      · subst c; rw [up2_eq, if_pos (by omega), show 4 + 32 * b + (8 + i) - (4 + 32 * b + 8) = i by omega]
      · rw [up2_ne _ _ (by omega), h2 k]
        by_cases c2 : 4 + 32 * b + 8 ≤ k ∧ k < 4 + 32 * b + (8 + i)
        · rw [if_pos c2, if_pos (by omega)]
        · rw [if_neg c2, if_neg (by omega)])
    refine ⟨A', ?_, f2, f3⟩
    rw [f_X7_cut_L73]
    simp (disch := omega) only [oI_le, show ¬ n ≤ p + i by omega, m_r6, m_a3 (show p + i < 48 by omega), e0, m_o, l8, l1, oI_add, oI_sub, show 8 + (p + i) - p = 8 + i by omega, x7_setOf (show 4 + 32 * b + (8 + i) < 260 by omega), Option.bind_some, reduceIte, if_true, if_false]
    exact f1
theorem m_cut {S : St} {M : Nat} {A : Nat → Nat → Int32} {F : Nat → Int32} {H : Int64} {O : Nat → Int64} {C : Cn} {nh : Nat} {Hs : Nat → Cn} (h : ModW A F C nh Hs) (ok : okS C nh Hs) {j p : Nat} (hj : j < cN C) (hp : p < bN (cB C j)) (h1 : 1 ≤ p) (hn : cN C < 8) :
    ∃ A' F', f_X7_cut (MS S M A F H O) M (oI j) (oI p) = some (oI (cN C), MS S M A' F' H O) ∧ F' 5 = 0 ∧ ModW A' F' (cutC C j p) (svN nh) (svH C nh Hs) ∧ FrM A A' F F' := by
  have h8 := ok.1.1
  have hok := ok.1.2.2.2.2 j hj
  have h24 := hok.2.1
  obtain ⟨A1, q1, q2, q3⟩ := x7_save (S := S) (M := M) (H := H) (O := O) (ModW_F h (show 5 ≠ 1 by decide) 0) ok
  have hb := q2.1.2.2.2.2 j hj
  obtain ⟨A2, e1, e2, e3⟩ := x7_lay (S := S) (M := M) (F := upF (upF F 5 0) 1 (oI (svN nh))) (H := H) (O := O) (j := j) (by omega) hb hok
  have eZ : A2 0 = A1 0 := e2 0 (by decide)
  obtain ⟨A3, b1, b2, b3, b4, b5, b6⟩ := x7_begin (S := S) (M := M) (A := A2) (F := upF (upF (upF F 5 0) 1 (oI (svN nh))) 7 (oI (bN (cB C j)))) (H := H) (O := O) hn (by rw [eZ]; exact q2.1.2.2.1) (oI (bN (cB C j) - p))
  obtain ⟨A4, t1, t2, t3⟩ := x7_cut_L (S := S) (M := M) (F := upF (upF (upF F 5 0) 1 (oI (svN nh))) 7 (oI (bN (cB C j)))) (H := H) (O := O) (A0 := A3) (b := cN C) (p := p) (y := oI j) hn h24 (bN (cB C j) - p) FU 0 A3 (by omega) (FU_lt (by omega)) (fun _ _ => rfl) (fun k => by rw [if_neg (by omega)])
  have hz0 : ShB (up2 A1 0 (4 + 32 * j + 0) (oI p) 0) j (shB (cB C j) p) := by
    unfold shB
    exact ShB_mk (up2_eq _ _ _ _) (by rw [up2_ne _ _ (by omega)]; exact hb.2.1) (by rw [up2_ne _ _ (by omega)]; exact hb.2.2.1) (fun t a b => by rw [up2_ne _ _ (by omega)]; exact hb.2.2.2.1 t a b) (fun i hi => by rw [up2_ne _ _ (by omega)]; exact hb.2.2.2.2 i (by omega))
  have okS1 : okS (updB C j (shB (cB C j) p)) (svN nh) (svH C nh Hs) := okS_upd (okS_save ok) (okB_mk h1 (by omega) hok.2.2.1 hok.2.2.2.1 hok.2.2.2.2)
  have hm : ModW (up2 A1 0 (4 + 32 * j + 0) (oI p)) (upF (upF (upF F 5 0) 1 (oI (svN nh))) 7 (oI (bN (cB C j)))) (updB C j (shB (cB C j) p)) (svN nh) (svH C nh Hs) := ModW_z q2 (ShZ_blk q2.1 ok.1 (fun i hi => by rw [up2_ne _ _ (by omega)]) hz0) (by rw [up2_row _ _ (by decide)]) (upF_ne _ _ (by decide))
  obtain ⟨A5, d1, d2, d3, d4⟩ := x7_close (S := S) (M := M) (H := H) (O := O) (A' := up2 A4 0 (4 + 32 * j + 0) (oI p)) (n := 0 + (bN (cB C j) - p)) (g := fun t => if t < 0 then 0 else bG (cB C j) (p + (t - 0))) hm okS1 hn (by omega) (by omega) (fun i => by split; omega; exact hok.2.2.2.2 _)
    (by rw [up2_row _ _ (by decide), up2_row _ _ (by decide), t2 1 (by decide), b2 1 (by decide), e2 1 (by decide)])
    (by rw [up2_row _ _ (by decide), up2_row _ _ (by decide), t2 2 (by decide), b2 2 (by decide), e2 2 (by decide)])
    (by rw [up2_ne _ _ (by omega), t3, if_neg (by omega)]; exact b3)
    (by show up2 A4 0 (4 + 32 * j + 0) (oI p) 0 (4 + 32 * cN C + 0) = _; rw [up2_ne _ _ (by omega), t3, if_neg (by omega), Nat.zero_add]; exact b4)
    (fun t a b => by show up2 A4 0 (4 + 32 * j + 0) (oI p) 0 (4 + 32 * cN C + t) = _; rw [up2_ne _ _ (by omega), t3, if_neg (by omega)]; exact b5 t a (by omega))
    (fun i hi => by
      show up2 A4 0 (4 + 32 * j + 0) (oI p) 0 (4 + 32 * cN C + (8 + i)) = _
      rw [up2_ne _ _ (by omega), t3, if_pos (by omega), show 4 + 32 * cN C + (8 + i) - (4 + 32 * cN C + 8) = i by omega, b2 3 (by decide), e3 _ (by omega)]
      rfl)
    (fun i a b => by
      have b' : ¬ (4 + 32 * cN C ≤ i ∧ i < 4 + 32 * cN C + 32) := b
      by_cases c : i = 4 + 32 * j + 0
      · rw [c, up2_eq, up2_eq]
      · rw [up2_ne _ _ (by omega), up2_ne _ _ (by omega), t3, if_neg (by omega), b6 i a b', eZ])
  refine ⟨A5, upF (upF (upF (upF F 5 0) 1 (oI (svN nh))) 7 (oI (bN (cB C j)))) 7 (oI (0 + (bN (cB C j) - p))), ?_, by simp [upF], d2, by rw [d4, up2_row _ _ (by decide), q3 2 (by decide)], by simp [upF]⟩
  have hp1 : ((1 : Int32) ≤ oI p) = True := by rw [l1, oI_le (by omega) (by omega)]; exact eq_true h1
  have z0 := set_at (S := S) (M := M) (A := A4) (F := upF (upF (upF F 5 0) 1 (oI (svN nh))) 7 (oI (bN (cB C j)))) (H := H) (O := O) (c := 0) (show 4 + 32 * j + 0 < 260 by omega) (oI p) rfl
  rw [Nat.add_zero] at t1
  rw [← oI_sub (show p ≤ bN (cB C j) by omega)] at b1
  change f_X7_choose _ M (oI (cN C)) = _ at d1
  simp only [f_X7_cut, m_o, x7_isPlace_in h.1 ok.1 hj hp, hp1, m_r0, z_many h.1, eq8 h8, show ¬ cN C = 8 by omega, m_p5, m_g5, upF_eq, q1, e1, m_g7, b1, t1, z0, d1, show ¬ (1 : Int32) ≤ 0 by decide, show ¬ (2 : Int32) ≤ 0 by decide, show ¬ (3 : Int32) ≤ 0 by decide, show (0 : Int32) ≤ 0 by decide, show ¬ (1 : Int32) = 0 by decide, Option.bind_some, reduceIte, if_true, if_false]
