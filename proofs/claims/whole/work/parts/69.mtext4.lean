/-! THE TEXT: how far it is right, the model's side -/
/-- the row that the first r parts spell -/
def ex (P T : Nat → Nat) : Nat → Nat × (Nat → Nat)
  | 0 => (0, fun _ => 0)
  | r + 1 => ((ex P T r).1 + T r, fun y => if y < (ex P T r).1 then (ex P T r).2 y else P r)
theorem ex_congr {P T P' T' : Nat → Nat} : ∀ r, (∀ p, p < r → P' p = P p ∧ T' p = T p) → ex P' T' r = ex P T r
  | 0, _ => rfl
  | r + 1, h => by
    have e := ex_congr r (fun p hp => h p (by omega))
    obtain ⟨e1, e2⟩ := h r (by omega)
    rw [ex, ex, e, e1, e2]
theorem ex_mono (P T : Nat → Nat) : ∀ m i, i ≤ m → (ex P T i).1 ≤ (ex P T m).1
  | 0, i, h => by have : i = 0 := by omega
                  rw [this]; exact Nat.le_refl _
  | m + 1, i, h => by
    by_cases e : i = m + 1
    · rw [e]; exact Nat.le_refl _
    · have := ex_mono P T m i (by omega)
      rw [ex]; dsimp only; omega
def PtM (A : Nat → Nat → Int32) (P T : Nat → Nat) (r : Nat) : Prop := ∀ p, p < r → A 4 (2 * p) = oI (P p) ∧ A 4 (2 * p + 1) = oI (T p) ∧ P p ≤ 255 ∧ T p ≤ 24
def TxM (A : Nat → Nat → Int32) (F : Nat → Int32) (len : Nat) (t : Nat → Nat) : Prop := F 3 = oI len ∧ len ≤ 60 ∧ ∀ i, i < len → A 2 i = oI (t i) ∧ t i ≤ 126
theorem TxM_P {A A' : Nat → Nat → Int32} {F F' : Nat → Int32} {len : Nat} {t : Nat → Nat} (h : TxM A F len t) (f : FrP A A' F F') : TxM A' F' len t :=
  ⟨by rw [f.2 3 (by decide) (by decide) (by decide)]; exact h.1, h.2.1, fun i hi => by rw [f.1 2 (by decide)]; exact h.2.2 i hi⟩
/-- a part that is whole joins those ahead -/
theorem PtM_end {A A' : Nat → Nat → Int32} {F : Nat → Int32} {P T : Nat → Nat} {r : Nat} {s : Ts} (h : TmM A F s r) (ok : okT s) (hw : isW s) (k : PtM A P T r) (f : ∀ i, i < 2 * r + 2 → A' 4 i = A 4 i) :
    PtM A' (fun p => if p = r then s.2.1 else P p) (fun p => if p = r then s.2.2 else T p) (r + 1) := by
  intro p hp
  dsimp only
  rw [f _ (show 2 * p < 2 * r + 2 by omega), f _ (show 2 * p + 1 < 2 * r + 2 by omega)]
  by_cases c : p = r
  · subst c
    rw [if_pos rfl, if_pos rfl]
    have hne : s.1 ≠ 0 := by rcases hw with h | h <;> omega
    refine ⟨h.2.2.2.1 hne, ?_, ok.2.1, ok.2.2.1⟩
    rcases hw with h1 | h3
    · rw [h.2.2.2.2.1 (.inr h1), ok.2.2.2.2 h1]; rfl
    · exact h.2.2.2.2.2 h3
  · rw [if_neg c, if_neg c]
    exact k p (by omega)
theorem ex_end (P T : Nat → Nat) (r v m : Nat) : ex (fun p => if p = r then v else P p) (fun p => if p = r then m else T p) (r + 1) = ((ex P T r).1 + m, fun y => if y < (ex P T r).1 then (ex P T r).2 y else v) := by
  have e := ex_congr (P := P) (T := T) (P' := fun p => if p = r then v else P p) (T' := fun p => if p = r then m else T p) r (fun p hp => ⟨if_neg (by omega), if_neg (by omega)⟩)
  rw [ex, e]
  simp only [if_true]
theorem stp_44 {s s' : Ts} (h : stp 44 s = some s') : isW s ∧ s' = (0, 0, 0) := by
  by_cases c : isW s
  · rw [stp44_y c] at h
    injection h with h
    exact ⟨c, h.symm⟩
  · rw [stp44_n c] at h
    exact absurd h (by simp)
theorem m_right_L {S : St} {M : Nat} {H : Int64} {O : Nat → Int64} {len : Nat} {t : Nat → Nat} : ∀ (d fu i : Nat) (A : Nat → Nat → Int32) (F : Nat → Int32) (s : Ts) (r : Nat) (P T : Nat → Nat), i + d = len → d < fu → TxM A F len t → rnT t i = some s → TmM A F s r → 2 * r + (if s.1 = 0 then 0 else 1) ≤ i → PtM A P T r → ex P T r = rowT t i → (∀ k, k < i → bad t k ≠ 1) →
    ∃ A' F', f_X7_rightUpTo_L24 M fu (MS S M A F H O) (oI i) = some (oI (fE t len), MS S M A' F' H O) ∧ FrP A A' F F' ∧ (fE t len = len → ∃ s' r' P' T', rnT t len = some s' ∧ TmM A' F' s' r' ∧ r' ≤ 30 ∧ PtM A' P' T' r' ∧ ex P' T' r' = rowT t len)
  | d, 0, i, A, F, s, r, P, T, e, hf, h, hr, hm, hi, hp, hx, hb => by omega
  | 0, fu + 1, i, A, F, s, r, P, T, e, hf, h, hr, hm, hi, hp, hx, hb => by
    have h60 := h.2.1
    have : i = len := by omega
    subst this
    have hfe : fE t i = i := fst_uni i (Nat.le_refl i) hb (.inl rfl)
    refine ⟨A, F, ?_, FrP_refl A F, fun _ => ⟨s, r, P, T, hr, hm, by omega, hp, hx⟩⟩
    rw [f_X7_rightUpTo_L24, hfe]
    simp (disch := omega) only [m_g3, h.1, oI_le, Nat.le_refl, Option.bind_some, reduceIte, if_true, if_false]
  | d + 1, fu + 1, i, A, F, s, r, P, T, e, hf, h, hr, hm, hi, hp, hx, hb => by
    have h60 := h.2.1
    obtain ⟨hv, hv2⟩ := h.2.2 i (by omega)
    have hn : rnT t (i + 1) = stp (t i) s := by rw [rnT, hr]; rfl
    have hget : (rnT t i).getD (0, 0, 0) = s := by rw [hr]; rfl
    have oks := okT_rn hr
    obtain ⟨A1, F1, e1, e2, e3⟩ := m_takes (S := S) (M := M) (H := H) (O := O) (c := t i) hm oks (show r ≤ 30 by omega) hv2
    rw [f_X7_rightUpTo_L24]
    simp (disch := omega) only [m_g3, h.1, oI_le, show ¬ len ≤ i by omega, m_r4, m_a2 (show i < 60 by omega), hv, m_o, e1, Option.bind_some, reduceIte, if_true, if_false]
    by_cases c : (stp (t i) s).isSome = true
    · obtain ⟨s', hs'⟩ := Option.isSome_iff_exists.mp c
      have hb1 : bad t i ≠ 1 := by unfold bad; rw [hn, if_pos c]; decide
      obtain ⟨k1, k2, k3⟩ := e3 s' hs'
      have main : ∃ P1 T1, PtM A1 P1 T1 (if t i = 44 then r + 1 else r) ∧ ex P1 T1 (if t i = 44 then r + 1 else r) = rowT t (i + 1) ∧ 2 * (if t i = 44 then r + 1 else r) + (if s'.1 = 0 then 0 else 1) ≤ i + 1 := by
        by_cases c44 : t i = 44
        · rw [c44] at hs'
          obtain ⟨w1, w2⟩ := stp_44 hs'
          have hne : s.1 ≠ 0 := by rcases w1 with h | h <;> omega
          rw [if_neg hne] at hi
          subst w2
          refine ⟨_, _, by rw [if_pos c44]; exact PtM_end hm oks w1 hp (k3 c44), ?_, by rw [if_pos c44, if_pos rfl]; omega⟩
          rw [if_pos c44, ex_end, hx, rowT, if_pos c44, hget]
        · refine ⟨P, T, ?_, ?_, ?_⟩
          · rw [if_neg c44]
            exact fun p hp' => by rw [k2 _ (by omega), k2 _ (by omega)]; exact hp p hp'
          · rw [if_neg c44, hx, rowT, if_neg c44]
          · rw [if_neg c44]
            split
            · split at hi <;> omega
            · split at hi <;> omega
      obtain ⟨P1, T1, p1, p2, p3⟩ := main
      obtain ⟨A', F', f1, f2, f3⟩ := m_right_L (S := S) (M := M) (H := H) (O := O) d fu (i + 1) A1 F1 s' _ P1 T1 (by omega) (by omega) (TxM_P h e2) (by rw [hn, hs']) k1 p3 p1 p2 (fun k hk => by
        by_cases e4 : k = i
        · rw [e4]; exact hb1
        · exact hb k (by omega))
      refine ⟨A', F', ?_, FrP_trans e2 f2, f3⟩
      rw [if_pos c, if_neg (by decide), l1, oI_add]
      exact f1
    · have hb1 : bad t i = 1 := by unfold bad; rw [hn, if_neg c]
      have hfe : fE t len = i := fst_uni (j := i) len (by omega) hb (.inr hb1)
      refine ⟨A1, F1, ?_, e2, fun hh => by omega⟩
      rw [if_neg c, if_pos rfl, hfe]
theorem x7_right {S : St} {M : Nat} {A : Nat → Nat → Int32} {F : Nat → Int32} {H : Int64} {O : Nat → Int64} {len : Nat} {t : Nat → Nat} (h : TxM A F len t) :
    ∃ A' F', f_X7_rightUpTo (MS S M A F H O) M = some (oI (fE t len), MS S M A' F' H O) ∧ FrP A A' F F' ∧ (fE t len = len → (F' 11 = -1) = ¬ isW (lastT t len) ∧ (isW (lastT t len) → ∃ r P T, F' 9 = oI r ∧ r ≤ 30 ∧ PtM A' P T (r + 1) ∧ ex P T (r + 1) = (finN t len, finG t len))) := by
  have h60 := h.2.1
  have f0 : FrP A (up2 A 4 1 1) F (upF (upF (upF F 9 0) 10 0) 11 (-1)) := ⟨fun a ha => up2_row _ _ ha, fun k a b c => by rw [upF_ne _ _ c, upF_ne _ _ b, upF_ne _ _ a]⟩
  have t0 : TmM (up2 A 4 1 1) (upF (upF (upF F 9 0) 10 0) 11 (-1)) (0, 0, 0) 0 :=
    ⟨by rw [upF_ne _ _ (by decide), upF_ne _ _ (by decide), upF_eq]; rfl, by rw [upF_ne _ _ (by decide), upF_eq]; rfl, upF_eq _ _ _, fun e => absurd rfl e, fun _ => up2_eq _ _ _ _, fun e => absurd e (by decide)⟩
  obtain ⟨A', F', e1, e2, e3⟩ := m_right_L (S := S) (M := M) (H := H) (O := O) len FU 0 _ _ (0, 0, 0) 0 (fun _ => 0) (fun _ => 0) (by omega) (FU_lt (by omega)) (TxM_P h f0) rfl t0 (by rw [if_pos rfl]; omega) (fun p hp => by omega) rfl (fun k hk => by omega)
  refine ⟨A', F', ?_, FrP_trans f0 e2, fun hh => ?_⟩
  · have s4 := m_s4 (S := S) (M := M) (A := A) (F := upF (upF (upF F 9 0) 10 0) 11 (-1)) (H := H) (O := O) (k := 1) (by omega) 1
    rw [show (oI 1 : Int32) = 1 from rfl] at s4
    rw [show (oI 0 : Int32) = 0 from rfl] at e1
    simp only [f_X7_rightUpTo, m_p9, Option.bind_some]
    rw [m_z10 (.inl rfl)]
    simp only [m_p11, m_r8, s4, e1, Option.bind_some]
  · obtain ⟨s, r, P, T, k1, k2, k3, k4, k5⟩ := e3 hh
    have hl : lastT t len = s := by unfold lastT; rw [k1]; rfl
    have oks := okT_rn k1
    rw [hl]
    refine ⟨?_, fun hw => ⟨r, _, _, k2.1, k3, PtM_end k2 oks hw k4 (fun _ _ => rfl), ?_⟩⟩
    · rw [k2.2.2.1]
      unfold numT isW
      obtain ⟨m, v, k⟩ := s
      obtain ⟨o1, o2, o3, o4, o5⟩ := oks
      dsimp only at o1 o2 o3 ⊢
      have hmm : m = 0 ∨ m = 1 ∨ m = 2 ∨ m = 3 := by omega
      rcases hmm with rfl | rfl | rfl | rfl
      · simp
      · rw [if_pos rfl, ne_m1 (by omega)]; simp
      · simp
      · rw [if_neg (by decide), if_pos rfl, ne_m1 (by omega)]; simp
    · rw [ex_end, k5]
      unfold finN finG
      rw [hl]
theorem x7_time {S : St} {M : Nat} {A : Nat → Nat → Int32} {F : Nat → Int32} {H : Int64} {O : Nat → Int64} {P T : Nat → Nat} {r p : Nat} (h : PtM A P T r) (hr : r ≤ 31) (hp : p < r) : f_X7_times (MS S M A F H O) M (oI p) = some (oI (T p)) := by
  simp only [f_X7_times, m_r8, l2, l1, oI_mul, oI_add, m_a4 (show 2 * p + 1 < 64 by omega), (h p hp).2.1, Option.bind_some, reduceIte, if_true, if_false]
theorem x7_vals_L {S : St} {M : Nat} {A : Nat → Nat → Int32} {F : Nat → Int32} {H : Int64} {O : Nat → Int64} {P T : Nat → Nat} {r : Nat} (h : PtM A P T (r + 1)) (hr : r ≤ 30) (h9 : F 9 = oI r) : ∀ (d fu i : Nat), i + d = r + 1 → d < fu →
    f_X7_valuesRead_L4 (MS S M A F H O) M fu (oI (ex P T i).1) (oI i) = some (oI (ex P T (r + 1)).1)
  | d, 0, i, e, hf => by omega
  | 0, fu + 1, i, e, hf => by
    have : i = r + 1 := by omega
    subst this
    rw [f_X7_valuesRead_L4]
    simp (disch := omega) only [m_g9, h9, oI_lt, show r < r + 1 by omega, Option.bind_some, reduceIte, if_true, if_false]
  | d + 1, fu + 1, i, e, hf => by
    have ih := x7_vals_L (S := S) (M := M) (H := H) (O := O) h hr h9 d fu (i + 1) (by omega) (by omega)
    rw [f_X7_valuesRead_L4]
    simp (disch := omega) only [m_g9, h9, oI_lt, show ¬ r < i by omega, m_o, x7_time h (show r + 1 ≤ 31 by omega) (show i < r + 1 by omega), l1, oI_add, Option.bind_some, reduceIte, if_true, if_false]
    exact ih
theorem x7_vals {S : St} {M : Nat} {A : Nat → Nat → Int32} {F : Nat → Int32} {H : Int64} {O : Nat → Int64} {P T : Nat → Nat} {r : Nat} (h : PtM A P T (r + 1)) (hr : r ≤ 30) (h9 : F 9 = oI r) : f_X7_valuesRead (MS S M A F H O) M = some (oI (ex P T (r + 1)).1) := by
  have := x7_vals_L (S := S) (M := M) (H := H) (O := O) h hr h9 (r + 1) FU 0 (by omega) (FU_lt (by omega))
  rw [show (oI 0 : Int32) = 0 from rfl, show (oI (ex P T 0).1 : Int32) = 0 from rfl] at this
  simp only [f_X7_valuesRead, this, Option.bind_some, reduceIte, if_true, if_false]
theorem m_ferr {S : St} {M : Nat} {A : Nat → Nat → Int32} {F : Nat → Int32} {H : Int64} {O : Nat → Int64} {C : Cn} {nh : Nat} {Hs : Nat → Cn} (h : ModW A F C nh Hs) {len : Nat} {t : Nat → Nat} (hT : TxM A F len t) :
    ∃ A' F', f_X7_firstError (MS S M A F H O) M = some (oI (fE t len), MS S M A' F' H O) ∧ ModW A' F' C nh Hs ∧ TxM A' F' len t := by
  have hT0 : TxM A (upF F 5 0) len t := ⟨by rw [upF_ne _ _ (by decide)]; exact hT.1, hT.2⟩
  obtain ⟨A', F', e1, e2, e3⟩ := x7_right (S := S) (M := M) (H := H) (O := O) hT0
  refine ⟨A', F', ?_, ModW_fr (ModW_F h (show 5 ≠ 1 by decide) 0) (e2.1 0 (by decide)) (e2.1 1 (by decide)) (e2.2 1 (by decide) (by decide) (by decide)), TxM_P hT0 e2⟩
  simp only [f_X7_firstError, m_p5, m_o, e1, Option.bind_some, reduceIte, if_true, if_false]
theorem m_clear {S : St} {M : Nat} {A : Nat → Nat → Int32} {F : Nat → Int32} {H : Int64} {O : Nat → Int64} {C : Cn} {nh : Nat} {Hs : Nat → Cn} (h : ModW A F C nh Hs) {len : Nat} {t : Nat → Nat} (hT : TxM A F len t) :
    ∃ F', f_X7_clearBuffer (MS S M A F H O) M = some (oI len, MS S M A F' H O) ∧ ModW A F' C nh Hs ∧ TxM A F' 0 t := by
  refine ⟨upF (upF F 5 0) 3 (oI 0), ?_, ModW_F (ModW_F h (by decide) 0) (by decide) _, upF_eq _ _ _, by omega, fun i hi => by omega⟩
  have g3 : upF F 5 0 3 = oI len := by rw [upF_ne _ _ (by decide)]; exact hT.1
  simp only [f_X7_clearBuffer, m_p5, m_g3, g3, m_p3, Option.bind_some, reduceIte, if_true, if_false]
  rfl
theorem wi_33 {v : Nat} (h1 : 33 ≤ v) (h2 : v ≤ 126) : f_X7_within (oI v) 33 126 = some 1 := by
  have := wi_in h1 h2 (by omega)
  rw [show (oI 33 : Int32) = 33 from rfl, show (oI 126 : Int32) = 126 from rfl] at this
  exact this
theorem m_app_1 {S : St} {M : Nat} {A : Nat → Nat → Int32} {F : Nat → Int32} {H : Int64} {O : Nat → Int64} {v : Int32} (hv : v < oI 33 ∨ oI 126 < v) : f_X7_append (MS S M A F H O) M v = some (0, MS S M A (upF F 5 1) H O) := by
  have := wi_out hv
  rw [show (oI 33 : Int32) = 33 from rfl, show (oI 126 : Int32) = 126 from rfl] at this
  simp only [f_X7_append, this, m_p5, m_g5, upF_eq, show ¬ (1 : Int32) ≤ 0 by decide, Option.bind_some, reduceIte, if_true, if_false]
theorem m_app_2 {S : St} {M : Nat} {A : Nat → Nat → Int32} {F : Nat → Int32} {H : Int64} {O : Nat → Int64} {len v : Nat} {t : Nat → Nat} (hT : TxM A F len t) (h1 : 33 ≤ v) (h2 : v ≤ 126) (hn : ¬ len < 60) : f_X7_append (MS S M A F H O) M (oI v) = some (0, MS S M A (upF F 5 2) H O) := by
  have h60 := hT.2.1
  have e60 : len = 60 := by omega
  have g3 : F 3 = oI 60 := by rw [hT.1, e60]
  simp only [f_X7_append, wi_33 h1 h2, show ¬ (1 : Int32) = 0 by decide, m_g3, g3, show ((oI 60 : Int32) = 60) = True from eq_true rfl, m_p5, m_g5, upF_eq, show ¬ (2 : Int32) ≤ 0 by decide, Option.bind_some, reduceIte, if_true, if_false]
theorem m_app {S : St} {M : Nat} {A : Nat → Nat → Int32} {F : Nat → Int32} {H : Int64} {O : Nat → Int64} {C : Cn} {nh : Nat} {Hs : Nat → Cn} (h : ModW A F C nh Hs) {len v : Nat} {t : Nat → Nat} (hT : TxM A F len t) (h1 : 33 ≤ v) (h2 : v ≤ 126) (hn : len < 60) :
    ∃ A' F', f_X7_append (MS S M A F H O) M (oI v) = some (oI (len + 1), MS S M A' F' H O) ∧ F' 5 = 0 ∧ ModW A' F' C nh Hs ∧ TxM A' F' (len + 1) (fun i => if i = len then v else t i) := by
  refine ⟨up2 A 2 len (oI v), upF (upF F 5 0) 3 (oI (len + 1)), ?_, by simp [upF], ModW_fr (ModW_F h (show 5 ≠ 1 by decide) 0) (up2_row _ _ (by decide)) (up2_row _ _ (by decide)) (upF_ne _ _ (by decide)), upF_eq _ _ _, by omega, fun i hi => ?_⟩
  · have g3 : upF F 5 0 3 = oI len := by rw [upF_ne _ _ (by decide)]; exact hT.1
    have n60 : (oI len = 60) = False := by rw [show (60 : Int32) = oI 60 from rfl, oI_eq (by omega) (by omega)]; exact eq_false (by omega)
    have e1 : (oI len + 1 : Int32) = oI (len + 1) := by rw [l1, oI_add]
    simp only [f_X7_append, wi_33 h1 h2, show ¬ (1 : Int32) = 0 by decide, m_g3, hT.1, n60, m_p5, m_g5, upF_eq, show (0 : Int32) ≤ 0 by decide, m_r4, g3, m_s2 hn, e1, m_p3, Option.bind_some, reduceIte, if_true, if_false]
  · dsimp only
    by_cases c : i = len
    · subst c; rw [up2_eq, if_pos rfl]; exact ⟨rfl, h2⟩
    · rw [up2_ne _ _ (by omega), if_neg c]; exact hT.2.2 i (by omega)
