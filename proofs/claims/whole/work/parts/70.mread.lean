/-! THE TEXT: read, the model's side -/
def FrV (A A' : Nat → Nat → Int32) (j : Nat) : Prop := (∀ a, a ≠ 0 → A' a = A a) ∧ ∀ i, i ≠ 4 + 32 * j + 0 → ¬ (4 + 32 * j + 8 ≤ i ∧ i < 4 + 32 * j + 32) → A' 0 i = A 0 i
theorem FrV_trans {A A1 A2 : Nat → Nat → Int32} {j : Nat} (h : FrV A A1 j) (k : FrV A1 A2 j) : FrV A A2 j := ⟨fun a c => (k.1 a c).trans (h.1 a c), fun i a c => (k.2 i a c).trans (h.2 i a c)⟩
def VaM (A : Nat → Nat → Int32) (j n : Nat) (g : Nat → Nat) : Prop := A 0 (4 + 32 * j + 0) = oI n ∧ ∀ y, y < n → A 0 (4 + 32 * j + (8 + y)) = oI (g y)
theorem m_fill_L {S : St} {M : Nat} {F : Nat → Int32} {H : Int64} {O : Nat → Int64} {j p v m : Nat} (hj : j < 8) (hp : p ≤ 30) (hm : m ≤ 24) : ∀ (d fu i n : Nat) (A : Nat → Nat → Int32) (g : Nat → Nat), i + d = m → d < fu → n + d ≤ 24 → A 4 (2 * p) = oI v → A 4 (2 * p + 1) = oI m → VaM A j n g →
    ∃ A', f_X7_read_L98 M (oI j) (oI p) fu (MS S M A F H O) (oI i) = some (MS S M A' F H O) ∧ FrV A A' j ∧ VaM A' j (n + d) (fun y => if y < n then g y else v)
  | d, 0, i, n, A, g, e, hf, hn, hv, ht, h => by omega
  | 0, fu + 1, i, n, A, g, e, hf, hn, hv, ht, h => by
    have : i = m := by omega
    subst this
    refine ⟨A, ?_, ⟨fun _ _ => rfl, fun _ _ _ => rfl⟩, h.1, fun y hy => by dsimp only; rw [if_pos (by omega)]; exact h.2 y hy⟩
    have ht' : f_X7_times (MS S M A F H O) M (oI p) = some (oI i) := by
      simp only [f_X7_times, m_r8, l2, l1, oI_mul, oI_add, m_a4 (show 2 * p + 1 < 64 by omega), ht, Option.bind_some, reduceIte, if_true, if_false]
    rw [f_X7_read_L98]
    simp (disch := omega) only [m_o, ht', oI_le, Nat.le_refl, Option.bind_some, reduceIte, if_true, if_false]
  | d + 1, fu + 1, i, n, A, g, e, hf, hn, hv, ht, h => by
    have ht' : f_X7_times (MS S M A F H O) M (oI p) = some (oI m) := by
      simp only [f_X7_times, m_r8, l2, l1, oI_mul, oI_add, m_a4 (show 2 * p + 1 < 64 by omega), ht, Option.bind_some, reduceIte, if_true, if_false]
    have f1 : FrV A (up2 (up2 A 0 (4 + 32 * j + (8 + n)) (oI v)) 0 (4 + 32 * j + 0) (oI (n + 1))) j := ⟨fun a ha => by rw [up2_row _ _ ha, up2_row _ _ ha], fun i a b => by rw [up2_ne _ _ (by omega), up2_ne _ _ (by omega)]⟩
    have v1 : VaM (up2 (up2 A 0 (4 + 32 * j + (8 + n)) (oI v)) 0 (4 + 32 * j + 0) (oI (n + 1))) j (n + 1) (fun y => if y < n then g y else v) := ⟨up2_eq _ _ _ _, fun y hy => by
      rw [up2_ne _ _ (by omega)]
      dsimp only
      by_cases c : y = n
      · subst c; rw [up2_eq, if_neg (by omega)]
      · rw [up2_ne _ _ (by omega), if_pos (by omega)]; exact h.2 y (by omega)⟩
    obtain ⟨A', e1, e2, e3⟩ := m_fill_L (S := S) (M := M) (F := F) (H := H) (O := O) (p := p) (v := v) hj hp hm d fu (i + 1) (n + 1) _ _ (by omega) (by omega) (by omega) (by rw [f1.1 4 (by decide)]; exact hv) (by rw [f1.1 4 (by decide)]; exact ht) v1
    refine ⟨A', ?_, FrV_trans f1 e2, by rw [e3.1, show n + 1 + d = n + (d + 1) by omega], fun y hy => ?_⟩
    · have o0 := x7_of (S := S) (M := M) (A := A) (F := F) (H := H) (O := O) (show 4 + 32 * j + 0 < 260 by omega)
      have s1 := x7_setOf (S := S) (M := M) (A := A) (F := F) (H := H) (O := O) (show 4 + 32 * j + (8 + n) < 260 by omega) (oI v)
      have o1 := x7_of (S := S) (M := M) (A := up2 A 0 (4 + 32 * j + (8 + n)) (oI v)) (F := F) (H := H) (O := O) (show 4 + 32 * j + 0 < 260 by omega)
      have s2 := x7_setOf (S := S) (M := M) (A := up2 A 0 (4 + 32 * j + (8 + n)) (oI v)) (F := F) (H := H) (O := O) (show 4 + 32 * j + 0 < 260 by omega) (oI (n + 1))
      rw [h.1, show (oI 0 : Int32) = 0 from rfl] at o0
      rw [up2_ne _ _ (by omega), h.1, show (oI 0 : Int32) = 0 from rfl] at o1
      rw [show (oI 0 : Int32) = 0 from rfl] at s2
      rw [f_X7_read_L98]
      simp (disch := omega) only [m_o, ht', oI_le, show ¬ m ≤ i by omega, o0, m_r8, l2, oI_mul, m_a4 (show 2 * p < 64 by omega), hv, l8, oI_add, s1, o1, l1, s2, Option.bind_some, reduceIte, if_true, if_false]
      exact e1
    · rw [e3.2 y (by omega)]
      dsimp only
      by_cases c : y < n
      · rw [if_pos (show y < n + 1 by omega)]
      · rw [if_neg c]
        split <;> rfl
theorem m_fill {S : St} {M : Nat} {F : Nat → Int32} {H : Int64} {O : Nat → Int64} {j r : Nat} {P T : Nat → Nat} (hj : j < 8) (hr : r ≤ 30) (h9 : F 9 = oI r) (hx : (ex P T (r + 1)).1 ≤ 24) : ∀ (d fu i : Nat) (A : Nat → Nat → Int32), i + d = r + 1 → d < fu → PtM A P T (r + 1) → VaM A j (ex P T i).1 (ex P T i).2 →
    ∃ A', f_X7_read_L87 M (oI j) fu (MS S M A F H O) (oI i) = some (MS S M A' F H O) ∧ FrV A A' j ∧ VaM A' j (ex P T (r + 1)).1 (ex P T (r + 1)).2
  | d, 0, i, A, e, hf, h, hv => by omega
  | 0, fu + 1, i, A, e, hf, h, hv => by
    have : i = r + 1 := by omega
    subst this
    refine ⟨A, ?_, ⟨fun _ _ => rfl, fun _ _ _ => rfl⟩, hv⟩
    rw [f_X7_read_L87]
    simp (disch := omega) only [m_g9, h9, oI_lt, show r < r + 1 by omega, Option.bind_some, reduceIte, if_true, if_false]
  | d + 1, fu + 1, i, A, e, hf, h, hv => by
    obtain ⟨k1, k2, k3, k4⟩ := h i (by omega)
    have hmo := ex_mono P T (r + 1) (i + 1) (by omega)
    have e1 : (ex P T (i + 1)).1 = (ex P T i).1 + T i := rfl
    obtain ⟨A1, q1, q2, q3⟩ := m_fill_L (S := S) (M := M) (F := F) (H := H) (O := O) (p := i) (v := P i) hj (by omega) k4 (T i) FU 0 _ A _ (by omega) (FU_lt (by omega)) (by omega) k1 k2 hv
    obtain ⟨A', p1, p2, p3⟩ := m_fill (S := S) (M := M) (H := H) (O := O) hj hr h9 hx d fu (i + 1) A1 (by omega) (by omega) (fun p hp => by rw [q2.1 4 (by decide)]; exact h p hp) q3
    refine ⟨A', ?_, FrV_trans q2 p2, p3⟩
    rw [f_X7_read_L87]
    rw [show (oI 0 : Int32) = 0 from rfl] at q1
    simp (disch := omega) only [m_g9, h9, oI_lt, show ¬ r < i by omega, q1, l1, oI_add, Option.bind_some, reduceIte, if_true, if_false]
    exact p1
theorem TxM_F {A : Nat → Nat → Int32} {F : Nat → Int32} {len k : Nat} {t : Nat → Nat} (h : TxM A F len t) (hk : k ≠ 3) (v : Int32) : TxM A (upF F k v) len t := ⟨by rw [upF_ne _ _ (fun e => hk e.symm)]; exact h.1, h.2⟩
theorem m_read_no {S : St} {M : Nat} {A : Nat → Nat → Int32} {F : Nat → Int32} {H : Int64} {O : Nat → Int64} {C : Cn} {nh : Nat} {Hs : Nat → Cn} (h : ModW A F C nh Hs) (ok : okS C nh Hs) {len : Nat} {t : Nat → Nat} (hT : TxM A F len t) {k : Int32} (hs : (okSp t len ∧ ¬ cN C < 8 ∧ k = 2) ∨ (¬ okSp t len ∧ k = 1)) :
    ∃ A' F', f_X7_read (MS S M A F H O) M = some (0, MS S M A' F' H O) ∧ F' 5 = k ∧ ModW A' F' C nh Hs ∧ TxM A' F' len t := by
  have h8 := ok.1.1
  have h60 := hT.2.1
  have hle : fE t len ≤ len := fst_le _ _ _
  obtain ⟨A1, F1, e1, e2, e3⟩ := x7_right (S := S) (M := M) (H := H) (O := O) hT
  have hT1 := TxM_P hT e2
  have hM1 : ModW A1 F1 C nh Hs := ModW_fr h (e2.1 0 (by decide)) (e2.1 1 (by decide)) (e2.2 1 (by decide) (by decide) (by decide))
  refine ⟨A1, upF F1 5 k, ?_, upF_eq _ _ _, ModW_F hM1 (by decide) _, TxM_F hT1 (by decide) _⟩
  by_cases c1 : fE t len = len
  · obtain ⟨k1, k2⟩ := e3 c1
    by_cases c2 : isW (lastT t len)
    · obtain ⟨r, P, T, r1, r2, r3, r4⟩ := k2 c2
      have hv := x7_vals (S := S) (M := M) (H := H) (O := O) r3 r2 r1
      rw [r4] at hv
      dsimp only at hv
      have n1 : (F1 11 = -1) = False := by rw [k1]; simp [c2]
      by_cases c3 : finN t len ≤ 24
      · have hok : okSp t len := ⟨c1, c2, c3⟩
        obtain ⟨hk8, rfl⟩ : ¬ cN C < 8 ∧ k = 2 := by
          rcases hs with hs | hs
          · exact hs.2
          · exact absurd hok hs.1
        have hn8 : cN C = 8 := by omega
        have hz := z_many (S := S) (M := M) (F := F1) (H := H) (O := O) hM1.1
        rw [hn8] at hz
        have l24' : (oI (finN t len) ≤ 24) = True := by rw [l24, oI_le (by omega) (by omega)]; exact eq_true c3
        simp only [f_X7_read, m_o, e1, m_g3, hT1.1, c1, x7_ended, n1, show ¬ (1 : Int32) = 0 by decide, hv, l24', m_r0, hz, show ((oI 8 : Int32) = 8) = True from eq_true rfl, m_p5, m_g5, upF_eq, show ¬ (2 : Int32) ≤ 0 by decide, Option.bind_some, reduceIte, if_true, if_false]
      · have hok : ¬ okSp t len := fun x => c3 x.2.2
        have hle24 : finN t len < 2147483648 := by
          rw [← show (ex P T (r + 1)).1 = finN t len from by rw [r4]]
          have : ∀ i, i ≤ r + 1 → (ex P T i).1 ≤ 24 * i := by
            intro i
            induction i with
            | zero => intro _; exact Nat.le_refl _
            | succ i ih =>
              intro hi
              have := ih (by omega)
              have := (r3 i (by omega)).2.2.2
              rw [ex]; dsimp only; omega
          have := this (r + 1) (Nat.le_refl _)
          omega
        have l24' : (oI (finN t len) ≤ 24) = False := by rw [l24, oI_le hle24 (by omega)]; exact eq_false c3
        obtain rfl : k = 1 := by
          rcases hs with hs | hs
          · exact absurd hs.1 hok
          · exact hs.2
        simp only [f_X7_read, m_o, e1, m_g3, hT1.1, c1, x7_ended, n1, show ¬ (1 : Int32) = 0 by decide, hv, l24', m_p5, m_g5, upF_eq, show ¬ (1 : Int32) ≤ 0 by decide, Option.bind_some, reduceIte, if_true, if_false]
    · have hok : ¬ okSp t len := fun x => c2 x.2.1
      have n1 : (F1 11 = -1) = True := by rw [k1]; simp [c2]
      obtain rfl : k = 1 := by
        rcases hs with hs | hs
        · exact absurd hs.1 hok
        · exact hs.2
      simp only [f_X7_read, m_o, e1, m_g3, hT1.1, c1, x7_ended, n1, m_p5, m_g5, upF_eq, show ¬ (1 : Int32) ≤ 0 by decide, Option.bind_some, reduceIte, if_true, if_false]
  · have hok : ¬ okSp t len := fun x => c1 x.1
    have n1 : (oI (fE t len) = oI len) = False := by rw [oI_eq (by omega) (by omega)]; exact eq_false c1
    obtain rfl : k = 1 := by
      rcases hs with hs | hs
      · exact absurd hs.1 hok
      · exact hs.2
    simp only [f_X7_read, m_o, e1, m_g3, hT1.1, n1, m_p5, m_g5, upF_eq, show ¬ (1 : Int32) ≤ 0 by decide, Option.bind_some, reduceIte, if_true, if_false]
theorem m_read {S : St} {M : Nat} {A : Nat → Nat → Int32} {F : Nat → Int32} {H : Int64} {O : Nat → Int64} {C : Cn} {nh : Nat} {Hs : Nat → Cn} (h : ModW A F C nh Hs) (ok : okS C nh Hs) {len : Nat} {t : Nat → Nat} (hT : TxM A F len t) (hs : okSp t len) (hn : cN C < 8) :
    ∃ A' F', f_X7_read (MS S M A F H O) M = some (oI (cN C), MS S M A' F' H O) ∧ F' 5 = 0 ∧ ModW A' F' (openC C (finN t len) (finG t len)) (svN nh) (svH C nh Hs) ∧ TxM A' F' 0 t := by
  have h60 := hT.2.1
  obtain ⟨A1, F1, e1, e2, e3⟩ := x7_right (S := S) (M := M) (H := H) (O := O) hT
  have hT1 := TxM_P hT e2
  have hM1 : ModW A1 F1 C nh Hs := ModW_fr h (e2.1 0 (by decide)) (e2.1 1 (by decide)) (e2.2 1 (by decide) (by decide) (by decide))
  obtain ⟨k1, k2⟩ := e3 hs.1
  obtain ⟨r, P, T, r1, r2, r3, r4⟩ := k2 hs.2.1
  have hv := x7_vals (S := S) (M := M) (H := H) (O := O) r3 r2 r1
  rw [r4] at hv
  dsimp only at hv
  have n1 : (F1 11 = -1) = False := by rw [k1]; simp [hs.2.1]
  have l24' : (oI (finN t len) ≤ 24) = True := by
    have := hs.2.2
    rw [l24, oI_le (by omega) (by omega)]; exact eq_true this
  have hz := z_many (S := S) (M := M) (F := F1) (H := H) (O := O) hM1.1
  have n8 : (oI (cN C) = 8) = False := by rw [eq8 (by omega)]; exact eq_false (by omega)
  obtain ⟨A2, q1, q2, q3⟩ := x7_save (S := S) (M := M) (H := H) (O := O) (ModW_F hM1 (show 5 ≠ 1 by decide) 0) ok
  have ok1 := okS_save ok
  have q2' : ModW A2 (upF (upF (upF F1 5 0) 1 (oI (svN nh))) 3 (oI 0)) C (svN nh) (svH C nh Hs) := ModW_F q2 (by decide) _
  obtain ⟨A3, b1, b2, b3, b4, b5, b6⟩ := x7_begin (S := S) (M := M) (F := upF (upF (upF F1 5 0) 1 (oI (svN nh))) 3 (oI 0)) (H := H) (O := O) hn q2.1.2.2.1 (oI 0)
  have p3 : PtM A3 P T (r + 1) := fun p hp => by rw [b2 4 (by decide), q3 4 (by decide)]; exact r3 p hp
  have g9 : upF (upF (upF F1 5 0) 1 (oI (svN nh))) 3 (oI 0) 9 = oI r := by rw [upF_ne _ _ (by decide), upF_ne _ _ (by decide), upF_ne _ _ (by decide)]; exact r1
  have hx : (ex P T (r + 1)).1 ≤ 24 := by rw [r4]; exact hs.2.2
  obtain ⟨A4, c1, c2, c3⟩ := m_fill (S := S) (M := M) (F := upF (upF (upF F1 5 0) 1 (oI (svN nh))) 3 (oI 0)) (H := H) (O := O) hn r2 g9 hx (r + 1) FU 0 A3 (by omega) (FU_lt (by omega)) p3 ⟨b4, fun y hy => absurd hy (Nat.not_lt_zero y)⟩
  rw [r4] at c3
  obtain ⟨A5, d1, d2, d3, d4⟩ := x7_close (S := S) (M := M) (H := H) (O := O) (A' := A4) (n := finN t len) (g := finG t len) q2' ok1 hn (finN_1 hs.2.1) hs.2.2 (finG_255 t len) (by rw [c2.1 1 (by decide), b2 1 (by decide)]) (by rw [c2.1 2 (by decide), b2 2 (by decide)]) (by rw [c2.2 2 (by omega) (by omega)]; exact b3) c3.1 (fun k a b => by rw [c2.2 _ (by omega) (by omega)]; exact b5 k a (by omega)) c3.2 (fun i a b => by rw [c2.2 i (by omega) (by omega)]; exact b6 i a b)
  refine ⟨A5, _, ?_, by simp [upF], d2, by simp [upF], by omega, fun i hi => by omega⟩
  rw [show (oI 0 : Int32) = 0 from rfl] at b1 c1 d1
  simp only [f_X7_read, m_o, e1, m_g3, hT1.1, hs.1, x7_ended, n1, show ¬ (1 : Int32) = 0 by decide, hv, l24', m_r0, hz, n8, m_p5, m_g5, upF_eq, show (0 : Int32) ≤ 0 by decide, q1, m_p3, show (oI 0 : Int32) = 0 from rfl, b1, c1, d1, Option.bind_some, reduceIte, if_true, if_false]
