/-! THE DIGEST, the model's side -/
theorem x7_mix {S : St} {M : Nat} {A : Nat → Nat → Int32} {F : Nat → Int32} {H : Int64} {O : Nat → Int64} (v : Int64) : f_X7_mix (MS S M A F H O) M v = some (MS S M A F (31 * H + v) O) := by
  simp only [f_X7_mix, m_L, m_pL, Option.bind_some, reduceIte, if_true, if_false]
theorem md_L2 {S : St} {M : Nat} {O : Nat → Int64} {C : Cn} (ok : okC C) {j : Nat} (hj : j < cN C) (h0 : Int64) : ∀ (d fu i : Nat) (A : Nat → Nat → Int32) (F : Nat → Int32), i + d = 12 → d < fu → ShZ (A 0) C →
    ∃ A' F', f_X7_mixBlock_L2 M (oI j) fu (MS S M A F (mxF (pr C j) i h0) O) (oI i) = some (MS S M A' F' (mxF (pr C j) 12 h0) O) ∧ FrL A A' F F'
  | d, 0, i, A, F, e, hf, h => by omega
  | 0, fu + 1, i, A, F, e, hf, h => by
    have : i = 12 := by omega
    subst this
    refine ⟨A, F, ?_, FrL_refl A F⟩
    rw [f_X7_mixBlock_L2, if_pos (by decide)]
  | d + 1, fu + 1, i, A, F, e, hf, h => by
    obtain ⟨A1, F1, p1, p2⟩ := x7_now (S := S) (M := M) (F := F) (H := mxF (pr C j) i h0) (O := O) h ok hj (i := i) (by omega)
    obtain ⟨A2, F2, q1, q2⟩ := md_L2 (S := S) (M := M) (O := O) ok hj h0 d fu (i + 1) A1 F1 (by omega) (by omega) (FrL_Z p2 h)
    refine ⟨A2, F2, ?_, FrL_trans p2 q2⟩
    rw [f_X7_mixBlock_L2]
    simp (disch := omega) only [l12, oI_le, show ¬ 12 ≤ i by omega, m_o, p1, x7_mix, l1, oI_add, Option.bind_some, reduceIte, if_true, if_false]
    exact q1
theorem md_L27 {S : St} {M : Nat} {A : Nat → Nat → Int32} {F : Nat → Int32} {O : Nat → Int64} {C : Cn} (h : ShZ (A 0) C) (ok : okC C) {j : Nat} (hj : j < cN C) (h0 : Int64) : ∀ (d fu i : Nat), i + d = bN (cB C j) → d < fu →
    f_X7_mixBlock_L27 M (oI j) fu (MS S M A F (mxF (fun i => oI (bG (cB C j) i)) i h0) O) (oI i) = some (MS S M A F (mxF (fun i => oI (bG (cB C j) i)) (bN (cB C j)) h0) O)
  | d, 0, i, e, hf => by omega
  | 0, fu + 1, i, e, hf => by
    have h8 := ok.1
    have h24 := (ok.2.2.2.2 j hj).2.1
    have : i = bN (cB C j) := by omega
    subst this
    have e0 := x7_of (S := S) (M := M) (A := A) (F := F) (H := mxF (fun i => oI (bG (cB C j) i)) (bN (cB C j)) h0) (O := O) (show 4 + 32 * j + 0 < 260 by omega)
    rw [(h.2.2.2.2 j hj).1, show (oI 0 : Int32) = 0 from rfl] at e0
    rw [f_X7_mixBlock_L27]
    simp (disch := omega) only [m_o, e0, oI_le, Nat.le_refl, Option.bind_some, reduceIte, if_true, if_false]
  | d + 1, fu + 1, i, e, hf => by
    have h8 := ok.1
    have h24 := (ok.2.2.2.2 j hj).2.1
    have ih := md_L27 (S := S) (M := M) (F := F) (O := O) h ok hj h0 d fu (i + 1) (by omega) (by omega)
    have e0 := x7_of (S := S) (M := M) (A := A) (F := F) (H := mxF (fun i => oI (bG (cB C j) i)) i h0) (O := O) (show 4 + 32 * j + 0 < 260 by omega)
    rw [(h.2.2.2.2 j hj).1, show (oI 0 : Int32) = 0 from rfl] at e0
    have e1 := x7_of (S := S) (M := M) (A := A) (F := F) (H := mxF (fun i => oI (bG (cB C j) i)) i h0) (O := O) (show 4 + 32 * j + (8 + i) < 260 by omega)
    rw [(h.2.2.2.2 j hj).2.2.2.2 i (by omega)] at e1
    rw [f_X7_mixBlock_L27]
    simp (disch := omega) only [m_o, e0, oI_le, show ¬ bN (cB C j) ≤ i by omega, l8, oI_add, e1, x7_mix, l1, Option.bind_some, reduceIte, if_true, if_false]
    exact ih
theorem md_L59 {S : St} {M : Nat} {O : Nat → Int64} {C : Cn} (ok : okC C) {j : Nat} (hj : j < cN C) (h0 : Int64) : ∀ (d fu i : Nat) (A : Nat → Nat → Int32) (F : Nat → Int32), i + d = 6 → d < fu → ShZ (A 0) C →
    ∃ A' F', f_X7_mixBlock_L59 M (oI j) fu (MS S M A F (mxF (fun c => oI (bt (bG (cB C j)) (bN (cB C j)) c)) i h0) O) (oI i) = some (MS S M A' F' (mxF (fun c => oI (bt (bG (cB C j)) (bN (cB C j)) c)) 6 h0) O) ∧ FrL A A' F F'
  | d, 0, i, A, F, e, hf, h => by omega
  | 0, fu + 1, i, A, F, e, hf, h => by
    have : i = 6 := by omega
    subst this
    refine ⟨A, F, ?_, FrL_refl A F⟩
    rw [f_X7_mixBlock_L59, if_pos (by decide)]
  | d + 1, fu + 1, i, A, F, e, hf, h => by
    obtain ⟨A1, F1, p1, p2⟩ := x7_costNow (S := S) (M := M) (F := F) (H := mxF (fun c => oI (bt (bG (cB C j)) (bN (cB C j)) c)) i h0) (O := O) h ok hj (c := i) (by omega)
    obtain ⟨A2, F2, q1, q2⟩ := md_L59 (S := S) (M := M) (O := O) ok hj h0 d fu (i + 1) A1 F1 (by omega) (by omega) (FrL_Z p2 h)
    refine ⟨A2, F2, ?_, FrL_trans p2 q2⟩
    rw [f_X7_mixBlock_L59]
    simp (disch := omega) only [l6, oI_le, show ¬ 6 ≤ i by omega, m_o, p1, x7_mix, l1, oI_add, Option.bind_some, reduceIte, if_true, if_false]
    exact q1
theorem md_q : ∀ i, i < 12 → oI i - oI i / 6 * 6 = oI (if i < 6 then i else i - 6) ∧ oI i / 6 * 2 = oI (if i < 6 then 0 else 2) := by decide
theorem md_L84 {S : St} {M : Nat} {O : Nat → Int64} {C : Cn} (ok : okC C) {j : Nat} (hj : j < cN C) (h0 : Int64) : ∀ (d fu i : Nat) (A : Nat → Nat → Int32) (F : Nat → Int32), i + d = 12 → d < fu → ShZ (A 0) C →
    ∃ A' F', f_X7_mixBlock_L84 M (oI j) fu (MS S M A F (mxF (efW (cB C j)) i h0) O) (oI i) = some (MS S M A' F' (mxF (efW (cB C j)) 12 h0) O) ∧ FrL A A' F F'
  | d, 0, i, A, F, e, hf, h => by omega
  | 0, fu + 1, i, A, F, e, hf, h => by
    have : i = 12 := by omega
    subst this
    refine ⟨A, F, ?_, FrL_refl A F⟩
    rw [f_X7_mixBlock_L84, if_pos (by decide)]
  | d + 1, fu + 1, i, A, F, e, hf, h => by
    obtain ⟨m1, m2⟩ := md_q i (by omega)
    obtain ⟨A1, F1, p1, p2⟩ := x7_workNow (S := S) (M := M) (F := F) (H := mxF (efW (cB C j)) i h0) (O := O) h ok hj (c := if i < 6 then i else i - 6) (q := if i < 6 then 0 else 2) (w := 3) (by split <;> omega) (by split <;> omega) (by omega)
    obtain ⟨A2, F2, q1, q2⟩ := md_L84 (S := S) (M := M) (O := O) ok hj h0 d fu (i + 1) A1 F1 (by omega) (by omega) (FrL_Z p2 h)
    refine ⟨A2, F2, ?_, FrL_trans p2 q2⟩
    have he : (oI (ef (bG (cB C j)) (bN (cB C j)) (if i < 6 then i else i - 6) (if i < 6 then 0 else 2) 3) : Int32) = efW (cB C j) i := by
      unfold efW
      split <;> rfl
    rw [he, show (oI 3 : Int32) = 3 from rfl] at p1
    rw [f_X7_mixBlock_L84, if_neg (by rw [l12, oI_le (by omega) (by omega)]; omega), m1, m2]
    simp only [m_o, p1, x7_mix, Option.bind_some]
    rw [l1, oI_add]
    exact q1
theorem m_mixB {S : St} {M : Nat} {A : Nat → Nat → Int32} {F : Nat → Int32} {O : Nat → Int64} {C : Cn} (h : ShZ (A 0) C) (ok : okC C) {j : Nat} (hj : j < cN C) (h0 : Int64) :
    ∃ A' F', f_X7_mixBlock (MS S M A F h0 O) M (oI j) = some (MS S M A' F' (hB8 C j h0) O) ∧ FrL A A' F F' := by
  have hok := ok.2.2.2.2 j hj
  have h24 := hok.2.1
  have h1' := hok.1
  obtain ⟨A1, F1, a1, f1⟩ := md_L2 (S := S) (M := M) (O := O) ok hj h0 12 FU 0 A F (by omega) (FU_lt (by omega)) h
  have h1 := FrL_Z f1 h
  have a2 := md_L27 (S := S) (M := M) (F := F1) (O := O) h1 ok hj (hB1 C j h0) (bN (cB C j)) FU 0 (by omega) (FU_lt (by omega))
  obtain ⟨A3, F3, a3, f3⟩ := md_L59 (S := S) (M := M) (O := O) ok hj (hB2 C j h0) 6 FU 0 A1 F1 (by omega) (FU_lt (by omega)) h1
  have h3 := FrL_Z f3 h1
  obtain ⟨A4, F4, a4, f4⟩ := md_L84 (S := S) (M := M) (O := O) ok hj (hB3 C j h0) 12 FU 0 A3 F3 (by omega) (FU_lt (by omega)) h3
  have h4 := FrL_Z f4 h3
  obtain ⟨A5, F5, a5, f5⟩ := x7_regretThen (S := S) (M := M) (F := F4) (H := hB4 C j h0) (O := O) h4 ok hj (k := 20) (by omega)
  have h5 := FrL_Z f5 h4
  obtain ⟨A6, F6, a6, f6⟩ := x7_gainNow (S := S) (M := M) (F := F5) (H := hB5 C j h0) (O := O) h5 ok hj
  have h6 := FrL_Z f6 h5
  obtain ⟨A7, F7, a7, f7⟩ := x7_cheap (S := S) (M := M) (F := F6) (H := hB6 C j h0) (O := O) h6 ok hj (p := 0) (by omega)
  have h7 := FrL_Z f7 h6
  obtain ⟨A8, F8, a8, f8⟩ := x7_mate (S := S) (M := M) (F := F7) (H := hB7 C j h0) (O := O) h7 ok hj
  refine ⟨A8, F8, ?_, FrL_trans f1 (FrL_trans f3 (FrL_trans f4 (FrL_trans f5 (FrL_trans f6 (FrL_trans f7 f8)))))⟩
  rw [show (oI 0 : Int32) = 0 from rfl] at a1 a2 a3 a4 a7
  rw [mxF_0] at a1 a2 a3 a4
  rw [show (oI 20 : Int32) = 20 from rfl] at a5
  have a1' : f_X7_mixBlock_L2 M (oI j) FU (MS S M A F h0 O) 0 = some (MS S M A1 F1 (hB1 C j h0) O) := a1
  have a2' : f_X7_mixBlock_L27 M (oI j) FU (MS S M A1 F1 (hB1 C j h0) O) 0 = some (MS S M A1 F1 (hB2 C j h0) O) := a2
  have a3' : f_X7_mixBlock_L59 M (oI j) FU (MS S M A1 F1 (hB2 C j h0) O) 0 = some (MS S M A3 F3 (hB3 C j h0) O) := a3
  have a4' : f_X7_mixBlock_L84 M (oI j) FU (MS S M A3 F3 (hB3 C j h0) O) 0 = some (MS S M A4 F4 (hB4 C j h0) O) := a4
  have a6' : f_X7_gainNow (MS S M A5 F5 (31 * hB4 C j h0 + (regB C (cB C j) 20).toInt64) O) M (oI j) = some (gainB C (cB C j), MS S M A6 F6 (hB5 C j h0) O) := a6
  have a7' : f_X7_cheapestNow (MS S M A6 F6 (31 * hB5 C j h0 + (gainB C (cB C j)).toInt64) O) M (oI j) 0 = some (oI (chF (cB C j) 0 255), MS S M A7 F7 (hB6 C j h0) O) := a7
  have a8' : f_X7_mateFor (MS S M A7 F7 (31 * hB6 C j h0 + (oI (chF (cB C j) 0 255)).toInt64) O) M (oI j) = some ((mt C j (cN C)).1, MS S M A8 F8 (hB7 C j h0) O) := a8
  simp only [f_X7_mixBlock, a1', a2', a3', a4', m_o, a5, x7_mix, a6', a7', a8', Option.bind_some]
  unfold hB8
  exact Eq.refl _
theorem md_count {S : St} {M : Nat} {O : Nat → Int64} {C : Cn} {nh : Nat} {Hs : Nat → Cn} (ok : okS C nh Hs) (h0 : Int64) : ∀ (d fu i : Nat) (A : Nat → Nat → Int32) (F : Nat → Int32), i + d = 16 → d < fu → ModW A F C nh Hs →
    ∃ A' F', f_X7_digest_L14 M fu (MS S M A F (mxF (ct C nh) i h0) O) (oI i) = some (MS S M A' F' (mxF (ct C nh) 16 h0) O) ∧ FrL A A' F F'
  | d, 0, i, A, F, e, hf, h => by omega
  | 0, fu + 1, i, A, F, e, hf, h => by
    have : i = 16 := by omega
    subst this
    refine ⟨A, F, ?_, FrL_refl A F⟩
    rw [f_X7_digest_L14, if_pos (by decide)]
  | d + 1, fu + 1, i, A, F, e, hf, h => by
    obtain ⟨A1, F1, p1, p2⟩ := x7_counted (S := S) (M := M) (F := F) (H := mxF (ct C nh) i h0) (O := O) h ok (i := i) (by omega)
    obtain ⟨A2, F2, q1, q2⟩ := md_count (S := S) (M := M) (O := O) ok h0 d fu (i + 1) A1 F1 (by omega) (by omega) (FrL_W p2 h)
    refine ⟨A2, F2, ?_, FrL_trans p2 q2⟩
    rw [f_X7_digest_L14]
    simp (disch := omega) only [show (16 : Int32) = oI 16 from rfl, oI_le, show ¬ 16 ≤ i by omega, m_o, p1, x7_mix, l1, oI_add, Option.bind_some, reduceIte, if_true, if_false]
    exact q1
theorem md_L60 {S : St} {M : Nat} {O : Nat → Int64} {C : Cn} (ok : okC C) (h0 : Int64) : ∀ (d fu i : Nat) (A : Nat → Nat → Int32) (F : Nat → Int32), i + d = cN C → d < fu → ShZ (A 0) C →
    ∃ A' F', f_X7_digest_L60 M fu (MS S M A F (hBs C h0 i) O) (oI i) = some (MS S M A' F' (hBs C h0 (cN C)) O) ∧ FrL A A' F F'
  | d, 0, i, A, F, e, hf, h => by omega
  | 0, fu + 1, i, A, F, e, hf, h => by
    have h8 := ok.1
    have : i = cN C := by omega
    subst this
    refine ⟨A, F, ?_, FrL_refl A F⟩
    rw [f_X7_digest_L60]
    simp (disch := omega) only [m_r0, z_many h, oI_le, Nat.le_refl, Option.bind_some, reduceIte, if_true, if_false]
  | d + 1, fu + 1, i, A, F, e, hf, h => by
    have h8 := ok.1
    obtain ⟨A1, F1, p1, p2⟩ := m_mixB (S := S) (M := M) (F := F) (O := O) h ok (j := i) (by omega) (hBs C h0 i)
    obtain ⟨A2, F2, q1, q2⟩ := md_L60 (S := S) (M := M) (O := O) ok h0 d fu (i + 1) A1 F1 (by omega) (by omega) (FrL_Z p2 h)
    refine ⟨A2, F2, ?_, FrL_trans p2 q2⟩
    rw [f_X7_digest_L60]
    simp (disch := omega) only [m_r0, z_many h, oI_le, show ¬ cN C ≤ i by omega, m_o, p1, l1, oI_add, Option.bind_some, reduceIte, if_true, if_false]
    exact q1
theorem md_text {S : St} {M : Nat} {A : Nat → Nat → Int32} {F : Nat → Int32} {O : Nat → Int64} {len : Nat} {t : Nat → Nat} (h : TxM A F len t) (h0 : Int64) : ∀ (d fu i : Nat), i + d = len → d < fu →
    f_X7_digest_L103 M fu (MS S M A F (mxF (fun i => oI (t i)) i h0) O) (oI i) = some (MS S M A F (mxF (fun i => oI (t i)) len h0) O)
  | d, 0, i, e, hf => by omega
  | 0, fu + 1, i, e, hf => by
    have h60 := h.2.1
    have : i = len := by omega
    subst this
    rw [f_X7_digest_L103]
    simp (disch := omega) only [m_g3, h.1, oI_le, Nat.le_refl, Option.bind_some, reduceIte, if_true, if_false]
  | d + 1, fu + 1, i, e, hf => by
    have h60 := h.2.1
    have ih := md_text (S := S) (M := M) (O := O) h h0 d fu (i + 1) (by omega) (by omega)
    rw [f_X7_digest_L103]
    simp (disch := omega) only [m_g3, h.1, oI_le, show ¬ len ≤ i by omega, m_r4, m_a2 (show i < 60 by omega), (h.2.2 i (show i < len by omega)).1, m_o, x7_mix, l1, oI_add, Option.bind_some, reduceIte, if_true, if_false]
    exact ih
theorem TxM_M {A A' : Nat → Nat → Int32} {F F' : Nat → Int32} {len : Nat} {t : Nat → Nat} (h : TxM A F len t) (f : FrM A A' F F') : TxM A' F' len t := by
  unfold TxM
  rw [f.1, f.2]
  exact h
theorem m_digest {S : St} {M : Nat} {A : Nat → Nat → Int32} {F : Nat → Int32} {H : Int64} {O : Nat → Int64} {C : Cn} {nh : Nat} {Hs : Nat → Cn} (h : ModW A F C nh Hs) (ok : okS C nh Hs) {len : Nat} {t : Nat → Nat} (hT : TxM A F len t) {v : Int64} (hv : f_Jxe99ae_doubleToLongBits_ccdee (mnB C) = some v) :
    ∃ A' F' H', f_X7_digest (MS S M A F H O) M = some (dg5 C nh len v t, MS S M A' F' H' O) ∧ ModW A' F' C nh Hs ∧ TxM A' F' len t := by
  have h60 := hT.2.1
  have k0 := ModW_F h (show 5 ≠ 1 by decide) 0
  have t0 := TxM_F hT (show 5 ≠ 3 by decide) 0
  obtain ⟨A1, F1, a1, f1⟩ := md_count (S := S) (M := M) (O := O) ok 2441 16 FU 0 A (upF F 5 0) (by omega) (FU_lt (by omega)) k0
  have k1 := FrL_W f1 k0
  obtain ⟨A2, F2, a2, f2⟩ := md_L60 (S := S) (M := M) (O := O) ok.1 (dg2 C nh) (cN C) FU 0 A1 F1 (by omega) (FU_lt (by have := ok.1.1; omega)) k1.1
  have k2 := FrL_W f2 k1
  obtain ⟨A3, F3, a3, f3⟩ := x7_mean (S := S) (M := M) (F := F2) (H := dg3 C nh) (O := O) k2.1 ok.1
  have k3 := FrL_W f3 k2
  have t3 : TxM A3 F3 len t := TxM_M t0 (FrL_M (FrL_trans f1 (FrL_trans f2 f3)))
  have a4 := md_text (S := S) (M := M) (O := O) t3 (dg4 C nh len v) len FU 0 (by omega) (FU_lt (by omega))
  refine ⟨A3, F3, dg5 C nh len v t, ?_, k3, t3⟩
  rw [show (oI 0 : Int32) = 0 from rfl] at a1 a2 a4
  rw [mxF_0] at a1 a4
  rw [hBs_0] at a2
  have a1' : f_X7_digest_L14 M FU (MS S M A (upF F 5 0) 2441 O) 0 = some (MS S M A1 F1 (dg1 C nh) O) := a1
  have y0 : ∀ HH, aI (MS S M A1 F1 HH O) (M + 1) 0 = some (oI (cY C)) := fun HH => by
    have := m_a0 (S := S) (M := M) (A := A1) (F := F1) (H := HH) (O := O) (show 0 < 260 by omega)
    rw [k1.1.1] at this
    exact this
  have y1 : ∀ HH, aI (MS S M A1 F1 HH O) (M + 1) 1 = some (oI (cF C)) := fun HH => by
    have := m_a0 (S := S) (M := M) (A := A1) (F := F1) (H := HH) (O := O) (show 1 < 260 by omega)
    rw [k1.1.2.1] at this
    exact this
  have a2' : f_X7_digest_L60 M FU (MS S M A1 F1 (31 * (31 * dg1 C nh + (oI (cY C)).toInt64) + (oI (cF C)).toInt64) O) 0 = some (MS S M A2 F2 (dg3 C nh) O) := a2
  have a4' : f_X7_digest_L103 M FU (MS S M A3 F3 (31 * (31 * dg3 C nh + v) + (oI len).toInt64) O) 0 = some (MS S M A3 F3 (dg5 C nh len v t) O) := a4
  simp only [f_X7_digest, m_p5, m_pL, a1', m_r0, y0, m_o, x7_mix, y1, a2', a3, hv, m_g3, t3.1, a4', m_L, Option.bind_some]
