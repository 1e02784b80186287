/-! THE MEAN, both sides -/
def sN (C : Cn) : Nat → Nat
  | 0 => 0
  | m + 1 => sN C m + bN (cB C m)
def sB (C : Cn) : Nat → Nat
  | 0 => 0
  | m + 1 => sB C m + bt (bG (cB C m)) (bN (cB C m)) (bC (cB C m))
theorem sumP_0 (C : Cn) : ∀ m, sumP C 0 m = oI (sN C m)
  | 0 => rfl
  | m + 1 => by
    rw [sumP, sumP_0 C m, sN, ← oI_add]
    rfl
theorem sumP_2 (C : Cn) : ∀ m, sumP C 2 m = oI (sB C m)
  | 0 => rfl
  | m + 1 => by
    rw [sumP, sumP_2 C m, sB, ← oI_add]
    rfl
theorem rn_1 (g : Nat → Nat) : ∀ n, 1 ≤ n → 1 ≤ rn g n
  | 1, _ => by rw [rn, if_pos (.inl rfl)]; omega
  | n + 2, _ => by
    have := rn_1 g (n + 1) (by omega)
    rw [rn]; omega
theorem bt_1 (g : Nat → Nat) {n : Nat} (h : 1 ≤ n) (c : Nat) : 1 ≤ bt g n c := by
  have := rn_1 g n h
  unfold bt
  repeat' split
  all_goals omega
theorem s_bd {C : Cn} (ok : okC C) : ∀ m, m ≤ cN C → m ≤ sN C m ∧ sN C m ≤ 24 * m ∧ m ≤ sB C m ∧ sB C m ≤ 500 * m
  | 0, _ => by simp [sN, sB]
  | m + 1, h => by
    obtain ⟨h1, h2, h3, h4⟩ := s_bd ok m (by omega)
    have hok := ok.2.2.2.2 m (by omega)
    have b1 := hok.1
    have b2 := hok.2.1
    have b3 := bt_1 (bG (cB C m)) hok.1 (bC (cB C m))
    have b4 := bt_le (bG (cB C m)) (bN (cB C m)) (bC (cB C m))
    rw [sN, sB]
    omega
def mnB (C : Cn) : UInt64 := if cN C = 0 then FP.dconst0 else FP.ddiv (FP.i2d (oI (sB C (cN C)))) (FP.i2d (oI (sN C (cN C))))
theorem mn_cases {C : Cn} (ok : okC C) : (cN C = 0 ∧ mnB C = FP.dconst0) ∨ (cN C ≠ 0 ∧ ∃ E k, 1000 ≤ E ∧ E ≤ 1090 ∧ k < 4503599627370496 ∧ mnB C = dB E k ∧ FP.ddiv (FP.i2d (oI (sB C (cN C)))) (FP.i2d (oI (sN C (cN C)))) = dB E k) := by
  by_cases c : cN C = 0
  · exact .inl ⟨c, if_pos c⟩
  · obtain ⟨h1, h2, h3, h4⟩ := s_bd ok (cN C) (Nat.le_refl _)
    have h8 := ok.1
    obtain ⟨E, k, e1, e2, e3, e4⟩ := mean_dB (m := sB C (cN C)) (n := sN C (cN C)) (by omega) (by omega) (by omega) (by omega)
    exact .inr ⟨c, E, k, e1, e2, e3, by unfold mnB; rw [if_neg c]; exact e4, e4⟩
theorem mn_bits {C : Cn} (ok : okC C) : ∃ v, f_X6_doubleBits (mnB C) = some v ∧ f_Jxe99ae_doubleToLongBits_ccdee (mnB C) = some v := by
  rcases mn_cases ok with ⟨_, h⟩ | ⟨_, E, k, e1, e2, e3, h, _⟩
  · rw [h]; exact ⟨0, db_zero, jd_zero⟩
  · rw [h]; exact ⟨_, db_all e1 e2 e3, jd_all (by omega) (by omega) e3⟩
theorem mn_self {C : Cn} (ok : okC C) : FP.dcmp (mnB C) (mnB C) = some .eq := by
  rcases mn_cases ok with ⟨_, h⟩ | ⟨_, E, k, e1, e2, e3, h, _⟩
  · rw [h]; decide +kernel
  · rw [h]; exact dB_self _ ⟨_, _, dB_val (by omega) (by omega) e3⟩
theorem c_mean {S : St} {x : Nat} {W : Nat → Nat → Int32} {R : Nat → Nat → Nat} {A : Cn} {nh : Nat} {Hs : Nat → Cn} (h : ClsW W R A nh Hs) (ok : okS A nh Hs) : f_X6_meanBits (WS S x W R) x = some (mnB A) := by
  have h0 := x6_sum (S := S) (x := x) h ok (k := 0) (by omega)
  have h2 := x6_sum (S := S) (x := x) h ok (k := 2) (by omega)
  rw [sumP_0, show (oI 0 : Int32) = 0 from rfl] at h0
  rw [sumP_2, show (oI 2 : Int32) = 2 from rfl] at h2
  have h8 := ok.1.1
  obtain ⟨b1, b2, b3, b4⟩ := s_bd ok.1 (cN A) (Nat.le_refl _)
  rcases mn_cases ok.1 with ⟨c, hm⟩ | ⟨c, E, k, e1, e2, e3, hm, hd⟩
  · rw [c] at h0
    rw [hm]
    simp only [f_X6_meanBits, o_5, h0, show (oI (sN A 0) : Int32) = 0 from rfl, Option.bind_some, reduceIte, if_true, if_false]
  · have n0 : (oI (sN A (cN A)) = 0) = False := by rw [l0, oI_eq (by omega) (by omega)]; exact eq_false (by omega)
    rw [hm]
    simp only [f_X6_meanBits, o_5, h0, n0, h2, hd, nn_dB (show E ≤ 2046 by omega) e3, Option.bind_some, reduceIte, if_true, if_false]
theorem x7_mean {S : St} {M : Nat} {A : Nat → Nat → Int32} {F : Nat → Int32} {H : Int64} {O : Nat → Int64} {C : Cn} (h : ShZ (A 0) C) (ok : okC C) : ∃ A' F', f_X7_mean (MS S M A F H O) M = some (mnB C, MS S M A' F' H O) ∧ FrL A A' F F' := by
  obtain ⟨A1, F1, p1, p2⟩ := x7_sum (S := S) (M := M) (H := H) (O := O) (F := F) h ok (k := 0) (by omega)
  rw [sumP_0, show (oI 0 : Int32) = 0 from rfl] at p1
  have h8 := ok.1
  obtain ⟨b1, b2, b3, b4⟩ := s_bd ok (cN C) (Nat.le_refl _)
  rcases mn_cases ok with ⟨c, hm⟩ | ⟨c, E, k, e1, e2, e3, hm, hd⟩
  · rw [c] at p1
    rw [hm]
    refine ⟨A1, F1, ?_, p2⟩
    simp only [f_X7_mean, m_o, p1, show (oI (sN C 0) : Int32) = 0 from rfl, Option.bind_some, reduceIte, if_true, if_false]
  · have n0 : (oI (sN C (cN C)) = 0) = False := by rw [l0, oI_eq (by omega) (by omega)]; exact eq_false (by omega)
    obtain ⟨A2, F2, q1, q2⟩ := x7_sum (S := S) (M := M) (H := H) (O := O) (F := F1) (FrL_Z p2 h) ok (k := 2) (by omega)
    rw [sumP_2, show (oI 2 : Int32) = 2 from rfl] at q1
    rw [hm]
    refine ⟨A2, F2, ?_, FrL_trans p2 q2⟩
    simp only [f_X7_mean, m_o, p1, n0, q1, hd, nn_dB (show E ≤ 2046 by omega) e3, Option.bind_some, reduceIte, if_true, if_false]
theorem m_mean {S : St} {M : Nat} {A : Nat → Nat → Int32} {F : Nat → Int32} {H : Int64} {O : Nat → Int64} {C : Cn} {nh : Nat} {Hs : Nat → Cn} (h : ModW A F C nh Hs) (ok : okS C nh Hs) : ∃ A' F', f_X7_meanBits (MS S M A F H O) M = some (mnB C, MS S M A' F' H O) ∧ ModW A' F' C nh Hs ∧ FrM A A' F F' := by
  obtain ⟨A1, F1, p1, p2⟩ := x7_mean (S := S) (M := M) (H := H) (O := O) (F := upF F 5 0) h.1 ok.1
  refine ⟨A1, F1, ?_, FrL_W p2 (ModW_F h (by decide) 0), ?_⟩
  · simp only [f_X7_meanBits, m_p5, m_o, p1, Option.bind_some, reduceIte, if_true, if_false]
  · have := FrL_M p2
    exact ⟨this.1, by rw [this.2, upF_ne _ _ (by decide)]⟩
/-! THE DIGEST: what is mixed -/
def mxF (f : Nat → Int32) : Nat → Int64 → Int64
  | 0, h => h
  | m + 1, h => 31 * mxF f m h + (f m).toInt64
theorem mxF_0 (f : Nat → Int32) (h : Int64) : mxF f 0 h = h := rfl
theorem mxF_congr {f k : Nat → Int32} (h : Int64) : ∀ m, (∀ i, i < m → f i = k i) → mxF f m h = mxF k m h
  | 0, _ => rfl
  | m + 1, e => by rw [mxF, mxF, mxF_congr h m (fun i hi => e i (by omega)), e m (by omega)]
theorem mxF_add (f : Nat → Int32) (n : Nat) (h : Int64) : ∀ m, mxF f (n + m) h = mxF (fun i => f (n + i)) m (mxF f n h)
  | 0 => rfl
  | m + 1 => by
    show 31 * mxF f (n + m) h + (f (n + m)).toInt64 = _
    rw [mxF_add f n h m]
    rfl
def efW (b : Bk) (i : Nat) : Int32 := if i < 6 then oI (ef (bG b) (bN b) i 0 3) else oI (ef (bG b) (bN b) (i - 6) 2 3)
def hB1 (C : Cn) (j : Nat) (h : Int64) : Int64 := mxF (pr C j) 12 h
def hB2 (C : Cn) (j : Nat) (h : Int64) : Int64 := mxF (fun i => oI (bG (cB C j) i)) (bN (cB C j)) (hB1 C j h)
def hB3 (C : Cn) (j : Nat) (h : Int64) : Int64 := mxF (fun c => oI (bt (bG (cB C j)) (bN (cB C j)) c)) 6 (hB2 C j h)
def hB4 (C : Cn) (j : Nat) (h : Int64) : Int64 := mxF (efW (cB C j)) 12 (hB3 C j h)
def hB5 (C : Cn) (j : Nat) (h : Int64) : Int64 := 31 * hB4 C j h + (regB C (cB C j) 20).toInt64
def hB6 (C : Cn) (j : Nat) (h : Int64) : Int64 := 31 * hB5 C j h + (gainB C (cB C j)).toInt64
def hB7 (C : Cn) (j : Nat) (h : Int64) : Int64 := 31 * hB6 C j h + (oI (chF (cB C j) 0 255)).toInt64
def hB8 (C : Cn) (j : Nat) (h : Int64) : Int64 := 31 * hB7 C j h + ((mt C j (cN C)).1).toInt64
def hBs (C : Cn) (h : Int64) : Nat → Int64
  | 0 => h
  | m + 1 => hB8 C m (hBs C h m)
theorem hBs_0 (C : Cn) (h : Int64) : hBs C h 0 = h := rfl
