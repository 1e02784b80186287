/-! THE DIGEST, the class's side -/
theorem cd_L6 {S : St} {x : Nat} {W : Nat → Nat → Int32} {R : Nat → Nat → Nat} {A : Cn} {nh : Nat} {Hs : Nat → Cn} (h : ClsW W R A nh Hs) (ok : okS A nh Hs) {j : Nat} (hj : j < cN A) (h0 : Int64) : ∀ (d fu i : Nat), i + d = 12 → d < fu → f_X6_mixBlock_L6 (WS S x W R) x (x + R 2 j) fu (mxF (pr A j) i h0) (oI i) = some (mxF (pr A j) 12 h0)
  | d, 0, i, e, hf => by omega
  | 0, fu + 1, i, e, hf => by
    have : i = 12 := by omega
    subst this
    rw [f_X6_mixBlock_L6, if_pos (by decide)]
  | d + 1, fu + 1, i, e, hf => by
    have ih := cd_L6 (S := S) (x := x) h ok hj h0 d fu (i + 1) (by omega) (by omega)
    rw [f_X6_mixBlock_L6]
    simp (disch := omega) only [l12, oI_le, show ¬ 12 ≤ i by omega, o_5, x6_prop h ok hj (show i ≤ 11 by omega), f_X6_mix, l1, oI_add, Option.bind_some, reduceIte, if_true, if_false]
    exact ih
theorem cd_L37 {S : St} {x : Nat} {W : Nat → Nat → Int32} {R : Nat → Nat → Nat} {A : Cn} {nh : Nat} {Hs : Nat → Cn} (h : ClsW W R A nh Hs) (ok : okS A nh Hs) {j : Nat} (hj : j < cN A) (h0 : Int64) : ∀ (d fu i : Nat), i + d = bN (cB A j) → d < fu → f_X6_mixBlock_L37 (WS S x W R) x (x + R 2 j) fu (mxF (fun i => oI (bG (cB A j) i)) i h0) (oI i) = some (mxF (fun i => oI (bG (cB A j) i)) (bN (cB A j)) h0)
  | d, 0, i, e, hf => by omega
  | 0, fu + 1, i, e, hf => by
    have h8 := ok.1.1
    have hj8 : j < 8 := by omega
    have hq := kd_b h.1 hj8
    have hA := BlW_A (S := S) (x := x) (R := R) hq (h.1.2.2.2.2.2 j hj)
    have h24 := (ok.1.2.2.2.2 j hj).2.1
    have : i = bN (cB A j) := by omega
    subst this
    rw [f_X6_mixBlock_L37]
    simp (disch := omega) only [r_0 hq, hA.1, x4_size hA, oI_le, Nat.le_refl, Option.bind_some, reduceIte, if_true, if_false]
  | d + 1, fu + 1, i, e, hf => by
    have h8 := ok.1.1
    have hj8 : j < 8 := by omega
    have hq := kd_b h.1 hj8
    have hA := BlW_A (S := S) (x := x) (R := R) hq (h.1.2.2.2.2.2 j hj)
    have h24 := (ok.1.2.2.2.2 j hj).2.1
    have ih := cd_L37 (S := S) (x := x) h ok hj h0 d fu (i + 1) (by omega) (by omega)
    rw [f_X6_mixBlock_L37]
    simp (disch := omega) only [r_0 hq, hA.1, x4_size hA, oI_le, show ¬ bN (cB A j) ≤ i by omega, x4_at hA (show i < bN (cB A j) by omega), f_X6_mix, l1, oI_add, Option.bind_some, reduceIte, if_true, if_false]
    exact ih
theorem cd_L75 {S : St} {x : Nat} {W : Nat → Nat → Int32} {R : Nat → Nat → Nat} {A : Cn} {nh : Nat} {Hs : Nat → Cn} (h : ClsW W R A nh Hs) (ok : okS A nh Hs) {j : Nat} (hj : j < cN A) (h0 : Int64) : ∀ (d fu i : Nat), i + d = 6 → d < fu → f_X6_mixBlock_L75 (WS S x W R) x (x + R 2 j) fu (mxF (fun c => oI (bt (bG (cB A j)) (bN (cB A j)) c)) i h0) (oI i) = some (mxF (fun c => oI (bt (bG (cB A j)) (bN (cB A j)) c)) 6 h0)
  | d, 0, i, e, hf => by omega
  | 0, fu + 1, i, e, hf => by
    have : i = 6 := by omega
    subst this
    rw [f_X6_mixBlock_L75, if_pos (by decide)]
  | d + 1, fu + 1, i, e, hf => by
    have h8 := ok.1.1
    have hj8 : j < 8 := by omega
    have hq := kd_b h.1 hj8
    have hA := BlW_A (S := S) (x := x) (R := R) hq (h.1.2.2.2.2.2 j hj)
    have hok := ok.1.2.2.2.2 j hj
    have ih := cd_L75 (S := S) (x := x) h ok hj h0 d fu (i + 1) (by omega) (by omega)
    rw [f_X6_mixBlock_L75]
    simp (disch := omega) only [l6, oI_le, show ¬ 6 ≤ i by omega, r_0 hq, x1_bits hA hok.1 (show i ≤ 5 by omega), f_X6_mix, l1, oI_add, Option.bind_some, reduceIte, if_true, if_false]
    exact ih
theorem cd_L108 {S : St} {x : Nat} {W : Nat → Nat → Int32} {R : Nat → Nat → Nat} {A : Cn} {nh : Nat} {Hs : Nat → Cn} (h : ClsW W R A nh Hs) (ok : okS A nh Hs) {j : Nat} (hj : j < cN A) (h0 : Int64) : ∀ (d fu i : Nat), i + d = 6 → d < fu → f_X6_mixBlock_L108 (WS S x W R) x (x + R 2 j) fu (mxF (fun c => oI (ef (bG (cB A j)) (bN (cB A j)) c 0 3)) i h0) (oI i) = some (mxF (fun c => oI (ef (bG (cB A j)) (bN (cB A j)) c 0 3)) 6 h0)
  | d, 0, i, e, hf => by omega
  | 0, fu + 1, i, e, hf => by
    have : i = 6 := by omega
    subst this
    rw [f_X6_mixBlock_L108, if_pos (by decide)]
  | d + 1, fu + 1, i, e, hf => by
    have h8 := ok.1.1
    have hj8 : j < 8 := by omega
    have hq := kd_b h.1 hj8
    have hA := BlW_A (S := S) (x := x) (R := R) hq (h.1.2.2.2.2.2 j hj)
    have hok := ok.1.2.2.2.2 j hj
    have ih := cd_L108 (S := S) (x := x) h ok hj h0 d fu (i + 1) (by omega) (by omega)
    have he := x1_effort hA hok.1 (c := i) (q := 0) (w := 3) (by omega) (by omega) (by omega)
    rw [show (oI 0 : Int32) = 0 from rfl, show (oI 3 : Int32) = 3 from rfl] at he
    rw [f_X6_mixBlock_L108, if_neg (by rw [l6, oI_le (by omega) (by omega)]; omega)]
    simp only [r_0 hq, he, f_X6_mix, Option.bind_some]
    rw [l1, oI_add]
    exact ih
theorem cd_L143 {S : St} {x : Nat} {W : Nat → Nat → Int32} {R : Nat → Nat → Nat} {A : Cn} {nh : Nat} {Hs : Nat → Cn} (h : ClsW W R A nh Hs) (ok : okS A nh Hs) {j : Nat} (hj : j < cN A) (h0 : Int64) : ∀ (d fu i : Nat), i + d = 6 → d < fu → f_X6_mixBlock_L143 (WS S x W R) x (x + R 2 j) fu (mxF (fun c => oI (ef (bG (cB A j)) (bN (cB A j)) c 2 3)) i h0) (oI i) = some (mxF (fun c => oI (ef (bG (cB A j)) (bN (cB A j)) c 2 3)) 6 h0)
  | d, 0, i, e, hf => by omega
  | 0, fu + 1, i, e, hf => by
    have : i = 6 := by omega
    subst this
    rw [f_X6_mixBlock_L143, if_pos (by decide)]
  | d + 1, fu + 1, i, e, hf => by
    have h8 := ok.1.1
    have hj8 : j < 8 := by omega
    have hq := kd_b h.1 hj8
    have hA := BlW_A (S := S) (x := x) (R := R) hq (h.1.2.2.2.2.2 j hj)
    have hok := ok.1.2.2.2.2 j hj
    have ih := cd_L143 (S := S) (x := x) h ok hj h0 d fu (i + 1) (by omega) (by omega)
    have he := x1_effort hA hok.1 (c := i) (q := 2) (w := 3) (by omega) (by omega) (by omega)
    rw [show (oI 2 : Int32) = 2 from rfl, show (oI 3 : Int32) = 3 from rfl] at he
    rw [f_X6_mixBlock_L143, if_neg (by rw [l6, oI_le (by omega) (by omega)]; omega)]
    simp only [r_0 hq, he, f_X6_mix, Option.bind_some]
    rw [l1, oI_add]
    exact ih
theorem efW_split (b : Bk) (h0 : Int64) : mxF (efW b) 12 h0 = mxF (fun c => oI (ef (bG b) (bN b) c 2 3)) 6 (mxF (fun c => oI (ef (bG b) (bN b) c 0 3)) 6 h0) := by
  rw [show (12 : Nat) = 6 + 6 from rfl, mxF_add]
  rw [mxF_congr (f := efW b) (k := fun c => oI (ef (bG b) (bN b) c 0 3)) h0 6 (fun i hi => if_pos hi)]
  refine mxF_congr _ 6 (fun i hi => ?_)
  unfold efW
  rw [if_neg (by omega), show 6 + i - 6 = i by omega]
theorem c_mixB {S : St} {x : Nat} {W : Nat → Nat → Int32} {R : Nat → Nat → Nat} {A : Cn} {nh : Nat} {Hs : Nat → Cn} (h : ClsW W R A nh Hs) (ok : okS A nh Hs) {j : Nat} (hj : j < cN A) (h0 : Int64) :
    ∃ W', f_X6_mixBlock (WS S x W R) x h0 (x + R 2 j) = some (hB8 A j h0, WS S x W' R) ∧ ClsW W' R A nh Hs ∧ FrT W W' := by
  have hok := ok.1.2.2.2.2 j hj
  have h24 := hok.2.1
  have h1 := hok.1
  have a1 := cd_L6 (S := S) (x := x) h ok hj h0 12 FU 0 (by omega) (FU_lt (by omega))
  have a2 := cd_L37 (S := S) (x := x) h ok hj (hB1 A j h0) (bN (cB A j)) FU 0 (by omega) (FU_lt (by omega))
  have a3 := cd_L75 (S := S) (x := x) h ok hj (hB2 A j h0) 6 FU 0 (by omega) (FU_lt (by omega))
  have a4 := cd_L108 (S := S) (x := x) h ok hj (hB3 A j h0) 6 FU 0 (by omega) (FU_lt (by omega))
  have a5 := cd_L143 (S := S) (x := x) h ok hj (mxF (fun c => oI (ef (bG (cB A j)) (bN (cB A j)) c 0 3)) 6 (hB3 A j h0)) 6 FU 0 (by omega) (FU_lt (by omega))
  have a6 := x6_regret (S := S) (x := x) h ok hj (k := 20) (by omega)
  have a7 := x6_gain (S := S) (x := x) h ok hj
  obtain ⟨W1, b1, b2, b3⟩ := x6_cheap (S := S) (x := x) h ok hj (p := 0) (by omega)
  obtain ⟨W2, d1, d2, d3⟩ := x6_mate (S := S) (x := x) b2 ok hj
  refine ⟨W2, ?_, d2, FrT_trans b3 d3⟩
  rw [show (oI 0 : Int32) = 0 from rfl] at a1 a2 a3 a4 a5 b1
  rw [mxF_0] at a1 a2 a3 a4 a5
  rw [show (oI 20 : Int32) = 20 from rfl] at a6
  rw [← efW_split] at a5
  have a1' : f_X6_mixBlock_L6 (WS S x W R) x (x + R 2 j) FU h0 0 = some (hB1 A j h0) := a1
  have a2' : f_X6_mixBlock_L37 (WS S x W R) x (x + R 2 j) FU (hB1 A j h0) 0 = some (hB2 A j h0) := a2
  have a3' : f_X6_mixBlock_L75 (WS S x W R) x (x + R 2 j) FU (hB2 A j h0) 0 = some (hB3 A j h0) := a3
  have a4' : f_X6_mixBlock_L108 (WS S x W R) x (x + R 2 j) FU (hB3 A j h0) 0 = some (mxF (fun c => oI (ef (bG (cB A j)) (bN (cB A j)) c 0 3)) 6 (hB3 A j h0)) := a4
  have a5' : f_X6_mixBlock_L143 (WS S x W R) x (x + R 2 j) FU (mxF (fun c => oI (ef (bG (cB A j)) (bN (cB A j)) c 0 3)) 6 (hB3 A j h0)) 0 = some (hB4 A j h0) := a5
  simp only [f_X6_mixBlock, a1', a2', a3', a4', a5', o_5, a6, f_X6_mix, a7, b1, d1, Option.bind_some]
  unfold hB8 hB7 hB6 hB5
  exact Eq.refl _
theorem cd_L57 {S : St} {x : Nat} {R : Nat → Nat → Nat} {A : Cn} {nh : Nat} {Hs : Nat → Cn} (ok : okS A nh Hs) (h0 : Int64) : ∀ (d fu i : Nat) (W : Nat → Nat → Int32), i + d = cN A → d < fu → ClsW W R A nh Hs →
    ∃ W', f_X6_digest_L57 x fu (WS S x W R) (hBs A h0 i) (oI i) = some (hBs A h0 (cN A), WS S x W' R) ∧ ClsW W' R A nh Hs ∧ FrT W W'
  | d, 0, i, W, e, hf, h => by omega
  | 0, fu + 1, i, W, e, hf, h => by
    have h8 := ok.1.1
    have : i = cN A := by omega
    subst this
    refine ⟨W, ?_, h, FrT_refl W⟩
    rw [f_X6_digest_L57]
    simp (disch := omega) only [r_5_0, o_1 kd_one, x2_size kd_one h.1, oI_le, Nat.le_refl, Option.bind_some, reduceIte, if_true, if_false]
  | d + 1, fu + 1, i, W, e, hf, h => by
    have h8 := ok.1.1
    obtain ⟨W1, p1, p2, p3⟩ := c_mixB (S := S) (x := x) h ok (j := i) (by omega) (hBs A h0 i)
    obtain ⟨W2, q1, q2, q3⟩ := cd_L57 (S := S) (x := x) ok h0 d fu (i + 1) W1 (by omega) (by omega) p2
    refine ⟨W2, ?_, q2, FrT_trans p3 q3⟩
    have ha := x2_at (S := S) (x := x) kd_one h.1 h8 (j := i) (by omega)
    rw [show (1 + 1 : Nat) = 2 from rfl] at ha
    rw [f_X6_digest_L57]
    simp (disch := omega) only [r_5_0, o_1 kd_one, x2_size kd_one h.1, oI_le, show ¬ cN A ≤ i by omega, ha, o_5, p1, l1, oI_add, Option.bind_some, reduceIte, if_true, if_false]
    exact q1
theorem cd_count {S : St} {x : Nat} {W : Nat → Nat → Int32} {R : Nat → Nat → Nat} {A : Cn} {nh : Nat} {Hs : Nat → Cn} (h : ClsW W R A nh Hs) (ok : okS A nh Hs) (h0 : Int64) : ∀ (d fu i : Nat), i + d = 16 → d < fu → f_X6_digest_L6 (WS S x W R) x fu (mxF (ct A nh) i h0) (oI i) = some (mxF (ct A nh) 16 h0)
  | d, 0, i, e, hf => by omega
  | 0, fu + 1, i, e, hf => by
    have : i = 16 := by omega
    subst this
    rw [f_X6_digest_L6, if_pos (by decide)]
  | d + 1, fu + 1, i, e, hf => by
    have ih := cd_count (S := S) (x := x) h ok h0 d fu (i + 1) (by omega) (by omega)
    rw [f_X6_digest_L6]
    simp (disch := omega) only [show (16 : Int32) = oI 16 from rfl, oI_le, show ¬ 16 ≤ i by omega, o_5, x6_count h ok (show i ≤ 15 by omega), f_X6_mix, l1, oI_add, Option.bind_some, reduceIte, if_true, if_false]
    exact ih
theorem x5_code {S : St} {x : Nat} {W : Nat → Nat → Int32} {R : Nat → Nat → Nat} {len i : Nat} {t : Nat → Nat} (h : TxW W len t) (hi : i < len) : f_X5_codeAt (WS S x W R) (x + 185) (oI i) = some (oI (t i)) := by
  have h60 := h.2.1
  obtain ⟨hv, hv2⟩ := h.2.2 i hi
  simp (disch := omega) only [f_X5_codeAt, oI_n0, g_4_1 kd_185, h.1, oI_le, show ¬ len ≤ i by omega, r_4 kd_185, a_14 kd_186 (show i < 60 by omega), hv, Option.bind_some, reduceIte, if_true, if_false]
theorem cd_text {S : St} {x : Nat} {W : Nat → Nat → Int32} {R : Nat → Nat → Nat} {len : Nat} {t : Nat → Nat} (h : TxW W len t) (h0 : Int64) : ∀ (d fu i : Nat), i + d = len → d < fu → f_X6_digest_L115 (WS S x W R) x fu (mxF (fun i => oI (t i)) i h0) (oI i) = some (mxF (fun i => oI (t i)) len h0)
  | d, 0, i, e, hf => by omega
  | 0, fu + 1, i, e, hf => by
    have h60 := h.2.1
    have : i = len := by omega
    subst this
    rw [f_X6_digest_L115]
    simp (disch := omega) only [r_5_2, o_4 kd_185, f_X5_length, g_4_1 kd_185, h.1, oI_le, Nat.le_refl, Option.bind_some, reduceIte, if_true, if_false]
  | d + 1, fu + 1, i, e, hf => by
    have h60 := h.2.1
    have ih := cd_text (S := S) (x := x) (R := R) h h0 d fu (i + 1) (by omega) (by omega)
    rw [f_X6_digest_L115]
    simp (disch := omega) only [r_5_2, o_4 kd_185, f_X5_length, g_4_1 kd_185, h.1, oI_le, show ¬ len ≤ i by omega, x5_code h (show i < len by omega), f_X6_mix, l1, oI_add, Option.bind_some, reduceIte, if_true, if_false]
    exact ih
def dg1 (C : Cn) (nh : Nat) : Int64 := mxF (ct C nh) 16 2441
def dg2 (C : Cn) (nh : Nat) : Int64 := 31 * (31 * dg1 C nh + (oI (cY C)).toInt64) + (oI (cF C)).toInt64
def dg3 (C : Cn) (nh : Nat) : Int64 := hBs C (dg2 C nh) (cN C)
def dg4 (C : Cn) (nh len : Nat) (v : Int64) : Int64 := 31 * (31 * dg3 C nh + v) + (oI len).toInt64
def dg5 (C : Cn) (nh len : Nat) (v : Int64) (t : Nat → Nat) : Int64 := mxF (fun i => oI (t i)) len (dg4 C nh len v)
theorem c_digest {S : St} {x : Nat} {W : Nat → Nat → Int32} {R : Nat → Nat → Nat} {A : Cn} {nh : Nat} {Hs : Nat → Cn} (h : ClsW W R A nh Hs) (ok : okS A nh Hs) {len : Nat} {t : Nat → Nat} (hT : TxW W len t) {v : Int64} (hv : f_X6_doubleBits (mnB A) = some v) :
    ∃ W', f_X6_digest (WS S x W R) x = some (dg5 A nh len v t, WS S x W' R) ∧ ClsW W' R A nh Hs ∧ TxW W' len t := by
  have h8 := ok.1.1
  have h60 := hT.2.1
  have a1 := cd_count (S := S) (x := x) h ok 2441 16 FU 0 (by omega) (FU_lt (by omega))
  obtain ⟨W1, b1, b2, b3⟩ := cd_L57 (S := S) (x := x) ok (dg2 A nh) (cN A) FU 0 W (by omega) (FU_lt (by omega)) h
  have hT1 := TxW_T hT b3
  have a3 := c_mean (S := S) (x := x) b2 ok
  have a4 := cd_text (S := S) (x := x) (R := R) hT1 (dg4 A nh len v) len FU 0 (by omega) (FU_lt (by omega))
  refine ⟨W1, ?_, b2, hT1⟩
  rw [show (oI 0 : Int32) = 0 from rfl] at a1 b1 a4
  rw [mxF_0] at a1 a4
  rw [hBs_0] at b1
  have a1' : f_X6_digest_L6 (WS S x W R) x FU 2441 0 = some (dg1 A nh) := a1
  have b1' : f_X6_digest_L57 x FU (WS S x W R) (31 * (31 * dg1 A nh + (oI (cY A)).toInt64) + (oI (cF A)).toInt64) 0 = some (dg3 A nh, WS S x W1 R) := b1
  have a4' : f_X6_digest_L115 (WS S x W1 R) x FU (31 * (31 * dg3 A nh + v) + (oI len).toInt64) 0 = some (dg5 A nh len v t) := a4
  simp only [f_X6_digest, a1', r_5_0, g_1_3 kd_one, h.1.2.2.2.1, f_X6_mix, g_1_4 kd_one, h.1.2.2.2.2.1, b1', o_5, a3, hv, r_5_2, o_4 kd_185, f_X5_length, g_4_1 kd_185, hT1.1, a4', Option.bind_some]
