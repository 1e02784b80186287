/-! THE START, both sides whole -/
theorem i6_init {S : St} {x : Nat} :
    ∃ T, f_X6_init (va_up S x (some (.inl (5, [.null, .null, .null, .null])))) (x + 1) x = some (T, x + 189) ∧ T x = some (.inl (5, [.ref (x + 1), .ref (x + 27), .ref (x + 185), .ref (x + 187)])) ∧ ColS T (x + 1) ∧ T (x + 27) = some (hisC (x + 27)) ∧ T (x + 28) = some (arR 2 6 (refC (x + 28) 26 6)) ∧ (∀ t, t < 6 → ColS T (x + 29 + 26 * t)) ∧ T (x + 185) = some (txtC (x + 185)) ∧ T (x + 186) = some (arI 60 (fun _ => 0)) ∧ T (x + 187) = some (rowC (x + 187)) ∧ T (x + 188) = some arrC ∧ ∀ c, c < x ∨ x + 189 ≤ c → T c = S c := by
  obtain ⟨U0, hU0⟩ : ∃ U0, U0 = va_up S x (some (.inl (5, [.null, .null, .null, .null]))) := ⟨_, rfl⟩
  obtain ⟨T1, a1, a2, a3⟩ := i2_init (S := va_up U0 (x + 1) (some (.inl (1, [.null, .int 0, .int 0, .int 0, .int 0])))) (b := x + 1) (up_at _ _ _)
  have x1 : T1 x = some (.inl (5, [.null, .null, .null, .null])) := by rw [a3 x (by omega), up_ne _ _ (by omega), hU0, up_at]
  obtain ⟨Z4, hZ4⟩ : ∃ Z, Z = va_up T1 x (some (.inl (5, [.ref (x + 1), .null, .null, .null]))) := ⟨_, rfl⟩
  have p4 : pR T1 x 5 0 (x + 1) = some Z4 := by
    show pV T1 x 5 0 (.ref (x + 1)) = _
    rw [pV_at x1 (by simp), hZ4]; rfl
  obtain ⟨T2, b1, b2, b3, b4, b5⟩ := i3_init (S := va_up Z4 (x + 27) (some (.inl (2, [.null, .int 0])))) (b := x + 27) (up_at _ _ _)
  have x2 : T2 x = some (.inl (5, [.ref (x + 1), .null, .null, .null])) := by rw [b5 x (by omega), up_ne _ _ (by omega), hZ4, up_at]
  obtain ⟨Z9, hZ9⟩ : ∃ Z, Z = va_up T2 x (some (.inl (5, [.ref (x + 1), .ref (x + 27), .null, .null]))) := ⟨_, rfl⟩
  have p9 : pR T2 x 5 1 (x + 27) = some Z9 := by
    show pV T2 x 5 1 (.ref (x + 27)) = _
    rw [pV_at x2 (by simp), hZ9]; rfl
  obtain ⟨T3, d1, d2, d3, d4⟩ := i5_init (S := va_up Z9 (x + 185) (some (.inl (4, [.null, .int 0, .int 0, .int 0, .int 0])))) (b := x + 185) (up_at _ _ _)
  have x3 : T3 x = some (.inl (5, [.ref (x + 1), .ref (x + 27), .null, .null])) := by rw [d4 x (by omega) (by omega), up_ne _ _ (by omega), hZ9, up_at]
  obtain ⟨Z14, hZ14⟩ : ∃ Z, Z = va_up T3 x (some (.inl (5, [.ref (x + 1), .ref (x + 27), .ref (x + 185), .null]))) := ⟨_, rfl⟩
  have p14 : pR T3 x 5 2 (x + 185) = some Z14 := by
    show pV T3 x 5 2 (.ref (x + 185)) = _
    rw [pV_at x3 (by simp), hZ14]; rfl
  obtain ⟨T4, e1, e2, e3, e4⟩ := i4_init (S := va_up Z14 (x + 187) (some (.inl (3, [.null, .int 0])))) (a := x + 187) (up_at _ _ _)
  have x4 : T4 x = some (.inl (5, [.ref (x + 1), .ref (x + 27), .ref (x + 185), .null])) := by rw [e4 x (by omega) (by omega), up_ne _ _ (by omega), hZ14, up_at]
  obtain ⟨Z, hZ⟩ : ∃ Z, Z = va_up T4 x (some (.inl (5, [.ref (x + 1), .ref (x + 27), .ref (x + 185), .ref (x + 187)]))) := ⟨_, rfl⟩
  have p19 : pR T4 x 5 3 (x + 187) = some Z := by
    show pV T4 x 5 3 (.ref (x + 187)) = _
    rw [pV_at x4 (by simp), hZ]; rfl
  -- what lies ahead of an allocation stays
  have k4 : ∀ c, c ≠ x → c < x + 187 ∨ x + 189 ≤ c → Z c = T3 c := fun c c1 c2 => by rw [hZ, up_ne _ _ c1, e4 c (by omega) (by omega), up_ne _ _ (by omega), hZ14, up_ne _ _ c1]
  have k3 : ∀ c, c ≠ x → c < x + 185 ∨ x + 187 ≤ c → T3 c = T2 c := fun c c1 c2 => by rw [d4 c (by omega) (by omega), up_ne _ _ (by omega), hZ9, up_ne _ _ c1]
  have k2 : ∀ c, c ≠ x → c < x + 27 ∨ x + 185 ≤ c → T2 c = T1 c := fun c c1 c2 => by rw [b5 c (by omega), up_ne _ _ (by omega), hZ4, up_ne _ _ c1]
  refine ⟨Z, ?_, by rw [hZ, up_at], ?_, ?_, ?_, ?_, ?_, ?_, ?_, ?_, ?_⟩
  · rw [f_X6_init, ← hU0]
    simp only [a1, p4, b1, p9, d1, p14, e1, p19, Option.bind_some]
  · exact ColS_fr a2 (fun c c1 c2 => by rw [k4 c (by omega) (by omega), k3 c (by omega) (by omega), k2 c (by omega) (by omega)])
  · rw [k4 _ (by omega) (by omega), k3 _ (by omega) (by omega)]; exact b2
  · rw [k4 _ (by omega) (by omega), k3 _ (by omega) (by omega)]; exact b3
  · exact fun t ht => ColS_fr (b4 t ht) (fun c c1 c2 => by rw [k4 c (by omega) (by omega), k3 c (by omega) (by omega)])
  · rw [k4 _ (by omega) (by omega)]; exact d2
  · rw [k4 _ (by omega) (by omega)]; exact d3
  · rw [hZ, up_ne _ _ (by omega)]; exact e2
  · rw [hZ, up_ne _ _ (by omega)]; exact e3
  · intro c hc
    rw [k4 c (by omega) (by omega), k3 c (by omega) (by omega), k2 c (by omega) (by omega), a3 c (by omega), up_ne _ _ (by omega), hU0, up_ne _ _ (by omega)]
def W0 (o k : Nat) : Int32 := if kd o = 1 then (if k = 3 then 30 else if k = 4 then 4 else 0) else if kd o = 4 then (if k = 4 then 1 else 0) else 0
def R0 (o i : Nat) : Nat := if kd o = 12 then 29 + 26 * i else o + 1 + 3 * i
theorem W0_1 {o : Nat} (h : kd o = 1) (k : Nat) : W0 o k = if k = 3 then 30 else if k = 4 then 4 else 0 := if_pos h
theorem W0_4 {o : Nat} (h : kd o = 4) (k : Nat) : W0 o k = if k = 4 then 1 else 0 := by unfold W0; rw [if_neg (by omega), if_pos h]
theorem W0_n {o : Nat} (h : kd o ≠ 1) (h4 : kd o ≠ 4) (k : Nat) : W0 o k = 0 := by unfold W0; rw [if_neg h, if_neg h4]
theorem R0_n {o : Nat} (h : kd o ≠ 12) (i : Nat) : R0 o i = o + 1 + 3 * i := if_neg h
theorem R0_h (i : Nat) : R0 28 i = 29 + 26 * i := if_pos (by decide)
theorem col_W {T : St} {x p : Nat} (h : ColS T (x + p)) (hp : kd p = 1) : ∀ e, e < 26 → T (x + (p + e)) = some (cellW x W0 R0 (p + e)) := by
  intro e he
  by_cases c0 : e = 0
  · subst c0
    rw [Nat.add_zero, h.1, cw_1 hp, W0_1 hp, W0_1 hp, W0_1 hp, W0_1 hp]
    rfl
  by_cases c1 : e = 1
  · subst c1
    have h11 := kd1 hp
    rw [show x + (p + 1) = x + p + 1 by omega, h.2.1, cw_11 h11]
    refine congrArg (fun f => some (arR 1 8 f : Cl)) (funext fun k => ?_)
    unfold refC
    rw [R0_n (by omega), show x + p + 1 + 1 + 3 * k = x + (p + 1 + 1 + 3 * k) by omega]
  · obtain ⟨t, r, ht, hr, rfl⟩ : ∃ t r, t < 8 ∧ r < 3 ∧ e = 2 + 3 * t + r := ⟨(e - 2) / 3, (e - 2) % 3, by omega, by omega, by omega⟩
    obtain ⟨h0, h1, h2⟩ := h.2.2 t ht
    have k0 := kd_blk hp ht
    obtain ⟨k1, k2⟩ := kd0 k0
    have hc : r = 0 ∨ r = 1 ∨ r = 2 := by omega
    rcases hc with rfl | rfl | rfl
    · rw [show x + (p + (2 + 3 * t + 0)) = x + p + 2 + 3 * t by omega, show p + (2 + 3 * t + 0) = p + 2 + 3 * t by omega, h0, cw_0 k0]
      simp only [W0_n (o := p + 2 + 3 * t) (by omega) (by omega)]
      unfold blkC
      rw [show x + p + 2 + 3 * t + 1 = x + (p + 2 + 3 * t + 1) by omega]
    · rw [show x + (p + (2 + 3 * t + 1)) = x + p + 2 + 3 * t + 1 by omega, show p + (2 + 3 * t + 1) = p + 2 + 3 * t + 1 by omega, h1, cw_3 k1]
      simp only [W0_n (o := p + 2 + 3 * t + 1) (by omega) (by omega)]
      unfold rowC
      rw [show x + p + 2 + 3 * t + 1 + 1 = x + (p + 2 + 3 * t + 1 + 1) by omega]
    · rw [show x + (p + (2 + 3 * t + 2)) = x + p + 2 + 3 * t + 2 by omega, show p + (2 + 3 * t + 2) = p + 2 + 3 * t + 2 by omega, h2, cw_10 k2]
      refine congrArg (fun f => some (arI 24 f : Cl)) (funext fun k => ?_)
      rw [W0_n (by omega) (by omega)]
theorem c_init {S : St} {x : Nat} : f_X6_init (va_up S x (some (.inl (5, [.null, .null, .null, .null])))) (x + 1) x = some (WS S x W0 R0, x + 189) := by
  obtain ⟨T, h0, h1, h2, h3, h4, h5, h6, h7, h8, h9, h10⟩ := i6_init (S := S) (x := x)
  rw [h0]
  refine congrArg (fun T => some (T, x + 189)) (funext fun a => ?_)
  by_cases ha : a < x ∨ x + 189 ≤ a
  · rw [h10 a ha]
    unfold WS
    rw [if_neg (by omega)]
  · obtain ⟨o, ho, rfl⟩ : ∃ o, o < 189 ∧ a = x + o := ⟨a - x, by omega, by omega⟩
    rw [WS_at ho]
    by_cases c0 : o = 0
    · subst c0; exact h1
    by_cases c1 : o < 27
    · have := col_W (x := x) (p := 1) h2 kd_one (o - 1) (by omega)
      rw [show 1 + (o - 1) = o by omega] at this
      exact this
    by_cases c2 : o = 27
    · subst c2
      rw [h3, cw_2 kd_27, W0_n (by rw [kd_27]; omega) (by rw [kd_27]; omega)]
      rfl
    by_cases c3 : o = 28
    · subst c3
      rw [h4, cw_12 kd_28]
      refine congrArg (fun f => some (arR 2 6 f : Cl)) (funext fun k => ?_)
      unfold refC
      rw [R0_h, show x + 28 + 1 + 26 * k = x + (29 + 26 * k) by omega]
    by_cases c4 : o < 185
    · obtain ⟨t, e, ht, he, rfl⟩ : ∃ t e, t < 6 ∧ e < 26 ∧ o = 29 + 26 * t + e := ⟨(o - 29) / 26, (o - 29) % 26, by omega, by omega, by omega⟩
      have hk : kd (29 + 26 * t) = 1 := (show ∀ t, t < 6 → kd (29 + 26 * t) = 1 by decide) t ht
      have := col_W (x := x) (p := 29 + 26 * t) (by rw [← Nat.add_assoc]; exact h5 t ht) hk e he
      exact this
    by_cases c5 : o = 185
    · subst c5
      rw [h6, cw_4 kd_185, W0_4 kd_185, W0_4 kd_185, W0_4 kd_185, W0_4 kd_185]
      rfl
    by_cases c6 : o = 186
    · subst c6
      rw [h7, cw_14 kd_186]
      refine congrArg (fun f => some (arI 60 f : Cl)) (funext fun k => ?_)
      rw [W0_n (by rw [kd_186]; omega) (by rw [kd_186]; omega)]
    by_cases c7 : o = 187
    · subst c7
      rw [h8, cw_3 kd_187, W0_n (by rw [kd_187]; omega) (by rw [kd_187]; omega)]
      rfl
    · have : o = 188 := by omega
      subst this
      have k188 : kd 188 = 10 := kd3 kd_187
      rw [h9, cw_10 k188]
      refine congrArg (fun f => some (arI 24 f : Cl)) (funext fun k => ?_)
      rw [W0_n (by rw [k188]; omega) (by rw [k188]; omega)]
def Bk0 : Bk := (0, 0, 0, fun _ => 0, fun _ => 0)
def Cn0 : Cn := (0, 0, 30, 4, fun _ => Bk0)
theorem ColOk_0 {p : Nat} (h : kd p = 1) : ColOk R0 p := by
  have h11 := kd1 h
  refine ⟨fun j hj => ⟨j, hj, by rw [R0_n (by omega)]⟩, fun i j hi hj e => ?_⟩
  rw [R0_n (by omega), R0_n (by omega)] at e
  omega
theorem Cls_0 : ClsW W0 R0 Cn0 0 (fun _ => Cn0) := by
  refine ⟨⟨ColOk_0 kd_one, ?_, ?_, ?_, ?_, fun j hj => absurd hj (Nat.not_lt_zero j)⟩, fun p hp => ColOk_0 hp, ⟨fun j hj => ⟨j, hj, R0_h j⟩, fun i j hi hj e => ?_⟩, ?_, fun i hi => absurd hi (Nat.not_lt_zero i)⟩
  · rw [W0_1 kd_one]; rfl
  · rw [W0_1 kd_one]; rfl
  · rw [W0_1 kd_one]; rfl
  · rw [W0_1 kd_one]; rfl
  · rw [R0_h, R0_h] at e; omega
  · rw [W0_n (by rw [kd_27]; omega) (by rw [kd_27]; omega)]; rfl
theorem okS_0 : okS Cn0 0 (fun _ => Cn0) :=
  ⟨⟨Nat.zero_le _, Nat.zero_le _, show 30 ≤ 400 by omega, show 4 ≤ 100 by omega, fun j hj => absurd hj (Nat.not_lt_zero j)⟩, by omega, fun i hi => absurd hi (Nat.not_lt_zero i)⟩
theorem TxW_0 (t : Nat → Nat) : TxW W0 0 t := ⟨by rw [W0_4 kd_185]; rfl, by omega, fun i hi => absurd hi (Nat.not_lt_zero i)⟩
def A0 (a k : Nat) : Int32 := if a = 0 ∧ k = 0 then 30 else if a = 0 ∧ k = 1 then 4 else 0
theorem m_init {S : St} {M : Nat} : ∃ T, f_X7_init (va_up S M (some (.inl (6, [.null, .int 0, .null, .int 0, .null, .int 0, .null, .int 0, .null, .int 0, .int 0, .int 0, .long 0])))) (M + 1) M = some (T, M + 6) ∧ va_up T (M + 6) (some (arJ 1 (fun _ => 0))) = MS S M A0 (fun _ => 0) 0 (fun _ => 0) := by
  obtain ⟨U0, hU0⟩ : ∃ U, U = va_up S M (some (.inl (6, [.null, .int 0, .null, .int 0, .null, .int 0, .null, .int 0, .null, .int 0, .int 0, .int 0, .long 0]))) := ⟨_, rfl⟩
  obtain ⟨Z1, hZ1⟩ : ∃ Z, Z = va_up (va_up U0 (M + 1) (some (arI 260 (fun _ => 0)))) M (some (.inl (6, [.ref (M + 1), .int 0, .null, .int 0, .null, .int 0, .null, .int 0, .null, .int 0, .int 0, .int 0, .long 0]))) := ⟨_, rfl⟩
  have p1 : pR (va_up U0 (M + 1) (some (arI 260 (fun _ => 0)))) M 6 0 (M + 1) = some Z1 := by
    show pV _ M 6 0 (.ref (M + 1)) = _
    rw [pV_at (fs := [.null, .int 0, .null, .int 0, .null, .int 0, .null, .int 0, .null, .int 0, .int 0, .int 0, .long 0]) (by rw [up_ne _ _ (by omega), hU0, up_at]) (by simp), hZ1]; rfl
  obtain ⟨Z3, hZ3⟩ : ∃ Z, Z = va_up (va_up Z1 (M + 1 + 1) (some (arI 1560 (fun _ => 0)))) M (some (.inl (6, [.ref (M + 1), .int 0, .ref (M + 1 + 1), .int 0, .null, .int 0, .null, .int 0, .null, .int 0, .int 0, .int 0, .long 0]))) := ⟨_, rfl⟩
  have p3 : pR (va_up Z1 (M + 1 + 1) (some (arI 1560 (fun _ => 0)))) M 6 2 (M + 1 + 1) = some Z3 := by
    show pV _ M 6 2 (.ref (M + 1 + 1)) = _
    rw [pV_at (fs := [.ref (M + 1), .int 0, .null, .int 0, .null, .int 0, .null, .int 0, .null, .int 0, .int 0, .int 0, .long 0]) (by rw [up_ne _ _ (by omega), hZ1, up_at]) (by simp), hZ3]; rfl
  obtain ⟨Z5, hZ5⟩ : ∃ Z, Z = va_up (va_up Z3 (M + 1 + 1 + 1) (some (arI 60 (fun _ => 0)))) M (some (.inl (6, [.ref (M + 1), .int 0, .ref (M + 1 + 1), .int 0, .ref (M + 1 + 1 + 1), .int 0, .null, .int 0, .null, .int 0, .int 0, .int 0, .long 0]))) := ⟨_, rfl⟩
  have p5 : pR (va_up Z3 (M + 1 + 1 + 1) (some (arI 60 (fun _ => 0)))) M 6 4 (M + 1 + 1 + 1) = some Z5 := by
    show pV _ M 6 4 (.ref (M + 1 + 1 + 1)) = _
    rw [pV_at (fs := [.ref (M + 1), .int 0, .ref (M + 1 + 1), .int 0, .null, .int 0, .null, .int 0, .null, .int 0, .int 0, .int 0, .long 0]) (by rw [up_ne _ _ (by omega), hZ3, up_at]) (by simp), hZ5]; rfl
  obtain ⟨Z7, hZ7⟩ : ∃ Z, Z = va_up (va_up Z5 (M + 1 + 1 + 1 + 1) (some (arI 48 (fun _ => 0)))) M (some (.inl (6, [.ref (M + 1), .int 0, .ref (M + 1 + 1), .int 0, .ref (M + 1 + 1 + 1), .int 0, .ref (M + 1 + 1 + 1 + 1), .int 0, .null, .int 0, .int 0, .int 0, .long 0]))) := ⟨_, rfl⟩
  have p7 : pR (va_up Z5 (M + 1 + 1 + 1 + 1) (some (arI 48 (fun _ => 0)))) M 6 6 (M + 1 + 1 + 1 + 1) = some Z7 := by
    show pV _ M 6 6 (.ref (M + 1 + 1 + 1 + 1)) = _
    rw [pV_at (fs := [.ref (M + 1), .int 0, .ref (M + 1 + 1), .int 0, .ref (M + 1 + 1 + 1), .int 0, .null, .int 0, .null, .int 0, .int 0, .int 0, .long 0]) (by rw [up_ne _ _ (by omega), hZ5, up_at]) (by simp), hZ7]; rfl
  obtain ⟨Z9, hZ9⟩ : ∃ Z, Z = va_up (va_up Z7 (M + 1 + 1 + 1 + 1 + 1) (some (arI 64 (fun _ => 0)))) M (some (.inl (6, [.ref (M + 1), .int 0, .ref (M + 1 + 1), .int 0, .ref (M + 1 + 1 + 1), .int 0, .ref (M + 1 + 1 + 1 + 1), .int 0, .ref (M + 1 + 1 + 1 + 1 + 1), .int 0, .int 0, .int 0, .long 0]))) := ⟨_, rfl⟩
  have p9 : pR (va_up Z7 (M + 1 + 1 + 1 + 1 + 1) (some (arI 64 (fun _ => 0)))) M 6 8 (M + 1 + 1 + 1 + 1 + 1) = some Z9 := by
    show pV _ M 6 8 (.ref (M + 1 + 1 + 1 + 1 + 1)) = _
    rw [pV_at (fs := [.ref (M + 1), .int 0, .ref (M + 1 + 1), .int 0, .ref (M + 1 + 1 + 1), .int 0, .ref (M + 1 + 1 + 1 + 1), .int 0, .null, .int 0, .int 0, .int 0, .long 0]) (by rw [up_ne _ _ (by omega), hZ7, up_at]) (by simp), hZ9]; rfl
  have hM9 : Z9 M = some (.inl (6, [.ref (M + 1), .int 0, .ref (M + 1 + 1), .int 0, .ref (M + 1 + 1 + 1), .int 0, .ref (M + 1 + 1 + 1 + 1), .int 0, .ref (M + 1 + 1 + 1 + 1 + 1), .int 0, .int 0, .int 0, .long 0])) := by rw [hZ9, up_at]
  have h1 : Z9 (M + 1) = some (arI 260 (fun _ => 0)) := by
    rw [hZ9, up_ne _ _ (by omega), up_ne _ _ (by omega), hZ7, up_ne _ _ (by omega), up_ne _ _ (by omega), hZ5, up_ne _ _ (by omega), up_ne _ _ (by omega), hZ3, up_ne _ _ (by omega), up_ne _ _ (by omega), hZ1, up_ne _ _ (by omega), up_at]
  have s0 := sI_of (k := 0) h1 30 (by omega) (by omega)
  rw [show (oI 0 : Int32) = 0 from rfl] at s0
  have s1 := sI_of (k := 1) (up_at Z9 (M + 1) (some (arI 260 (upd (fun _ => 0) 0 30)))) 4 (by omega) (by omega)
  rw [show (oI 1 : Int32) = 1 from rfl] at s1
  have g9 : gR Z9 M 6 0 = some (M + 1) := gR_at hM9 rfl
  have g13 : gR (va_up Z9 (M + 1) (some (arI 260 (upd (fun _ => 0) 0 30)))) M 6 0 = some (M + 1) := gR_at (by rw [up_ne _ _ (by omega)]; exact hM9) rfl
  refine ⟨va_up (va_up Z9 (M + 1) (some (arI 260 (upd (fun _ => 0) 0 30)))) (M + 1) (some (arI 260 (upd (upd (fun _ => 0) 0 30) 1 4))), ?_, ?_⟩
  · rw [f_X7_init, ← hU0]
    simp only [p1, p3, p5, p7, p9, g9, s0, g13, s1, Option.bind_some]
  · funext a
    by_cases c6 : a = M + 6
    · subst c6; rw [up_at]; unfold MS; rw [if_neg (by omega), if_neg (by omega), if_neg (by omega), if_neg (by omega), if_neg (by omega), if_neg (by omega), if_pos rfl]
    by_cases c1 : a = M + 1
    · subst c1
      rw [up_ne _ _ (by omega), up_at, MS_1]
      refine congrArg (fun f => some (arI 260 f : Cl)) (funext fun k => ?_)
      unfold upd A0
      by_cases k1 : k = 1
      · subst k1; rw [if_pos rfl, if_neg (by omega), if_pos ⟨rfl, rfl⟩]
      · rw [if_neg k1]
        by_cases k0 : k = 0
        · subst k0; rw [if_pos rfl, if_pos ⟨rfl, rfl⟩]
        · rw [if_neg k0, if_neg (by omega), if_neg (by omega)]
    have az : ∀ b, b ≠ 0 → (fun _ => 0 : Nat → Int32) = A0 b := fun b hb => funext fun k => by unfold A0; rw [if_neg (by omega), if_neg (by omega)]
    rw [up_ne _ _ c6, up_ne _ _ c1, up_ne _ _ c1]
    by_cases c0 : a = M
    · subst c0; rw [hM9, MS_0]
    rw [hZ9, up_ne _ _ c0]
    by_cases c5 : a = M + 5
    · subst c5; rw [up_at, MS_5, az 4 (by omega)]
    rw [up_ne _ _ (by omega), hZ7, up_ne _ _ c0]
    by_cases c4 : a = M + 4
    · subst c4; rw [up_at, MS_4, az 3 (by omega)]
    rw [up_ne _ _ (by omega), hZ5, up_ne _ _ c0]
    by_cases c3 : a = M + 3
    · subst c3; rw [up_at, MS_3, az 2 (by omega)]
    rw [up_ne _ _ (by omega), hZ3, up_ne _ _ c0]
    by_cases c2 : a = M + 2
    · subst c2; rw [up_at, MS_2, az 1 (by omega)]
    rw [up_ne _ _ (by omega), hZ1, up_ne _ _ c0, up_ne _ _ c1, hU0, up_ne _ _ c0]
    unfold MS
    rw [if_neg c0, if_neg c1, if_neg c2, if_neg c3, if_neg c4, if_neg c5, if_neg c6]
theorem Mod_0 : ModW A0 (fun _ => 0) Cn0 0 (fun _ => Cn0) :=
  ⟨⟨rfl, rfl, rfl, rfl, fun j hj => absurd hj (Nat.not_lt_zero j)⟩, rfl, fun i hi => absurd hi (Nat.not_lt_zero i)⟩
theorem TxM_0 (t : Nat → Nat) : TxM A0 (fun _ => 0) 0 t := ⟨rfl, by omega, fun i hi => absurd hi (Nat.not_lt_zero i)⟩
