/-! THE START, the class's side -/
theorem pV_at {S : St} {a ci k : Nat} {fs : List Value} {v : Value} (h : S a = some (.inl (ci, fs))) (hk : k < fs.length) : pV S a ci k v = some (va_up S a (some (.inl (ci, fs.set k v)))) := by
  simp only [pV, h]
  rw [if_pos ⟨trivial, hk⟩]
theorem up_at (S : St) (a : Nat) (c : Option Cl) : va_up S a c a = c := by unfold va_up; rw [if_pos rfl]
theorem up_ne (S : St) {a b : Nat} (c : Option Cl) (h : b ≠ a) : va_up S a c b = S b := by unfold va_up; rw [if_neg h]
theorem oO_at {S : St} {a ci : Nat} {fs : List Value} (h : S a = some (.inl (ci, fs))) : oO S a ci = some () := by
  simp only [oO, h, if_true]
theorem gR_at {S : St} {a ci k r : Nat} {fs : List Value} (h : S a = some (.inl (ci, fs))) (hk : fs[k]? = some (.ref r)) : gR S a ci k = some r := by
  simp only [gR, h, hk, if_true]
def rowC (a : Nat) : Cl := .inl (3, [.ref (a + 1), .int 0])
def blkC (a : Nat) : Cl := .inl (0, [.ref (a + 1), .int 0, .int 0, .int 0, .int 0, .int 0, .int 0, .int 0])
def arrC : Cl := arI 24 (fun _ => 0)
theorem i4_init {S : St} {a : Nat} (h : S a = some (.inl (3, [.null, .int 0]))) :
    ∃ T, f_X4_init S (a + 1) a = some (T, a + 2) ∧ T a = some (rowC a) ∧ T (a + 1) = some arrC ∧ ∀ b, b ≠ a → b ≠ a + 1 → T b = S b := by
  obtain ⟨U, hU⟩ : ∃ U, U = va_up S (a + 1) (some (arI 24 (fun _ => 0))) := ⟨_, rfl⟩
  have u1 : U a = some (.inl (3, [.null, .int 0])) := by rw [hU, up_ne _ _ (by omega)]; exact h
  have w : ∀ c c' : Option Cl, va_up (va_up U a c) a c' = va_up U a c' := fun c c' => by
    funext b
    by_cases e : b = a
    · subst e; rw [up_at, up_at]
    · rw [up_ne _ _ e, up_ne _ _ e, up_ne _ _ e]
  have p0 : pR U a 3 0 (a + 1) = some (va_up U a (some (rowC a))) := by
    show pV _ a 3 0 (.ref (a + 1)) = _
    rw [pV_at u1 (by simp)]; rfl
  have p1 : pI (va_up U a (some (rowC a))) a 3 1 0 = some (va_up U a (some (rowC a))) := by
    show pV (va_up U a (some (.inl (3, [.ref (a + 1), .int 0])))) a 3 1 (.int 0) = _
    rw [pV_at (up_at _ _ _) (by simp), w]; rfl
  refine ⟨va_up U a (some (rowC a)), ?_, up_at _ _ _, by rw [up_ne _ _ (by omega), hU, up_at]; rfl, fun b h1 h2 => by rw [up_ne _ _ h1, hU, up_ne _ _ h2]⟩
  rw [f_X4_init, ← hU]
  simp only [p0, p1, Option.bind_some]
theorem i0_init {S : St} {a : Nat} (h : S a = some (.inl (0, [.null, .int 0, .int 0, .int 0, .int 0, .int 0, .int 0, .int 0]))) :
    ∃ T, f_X0_init S (a + 1) a = some (T, a + 3) ∧ T a = some (blkC a) ∧ T (a + 1) = some (rowC (a + 1)) ∧ T (a + 2) = some arrC ∧ ∀ b, b ≠ a → b ≠ a + 1 → b ≠ a + 2 → T b = S b := by
  obtain ⟨T1, t1, t2, t3, t4⟩ := i4_init (S := va_up S (a + 1) (some (.inl (3, [.null, .int 0])))) (a := a + 1) (up_at _ _ _)
  have h0 : T1 a = some (.inl (0, [.null, .int 0, .int 0, .int 0, .int 0, .int 0, .int 0, .int 0])) := by rw [t4 a (by omega) (by omega), up_ne _ _ (by omega)]; exact h
  have e0 := pV_at (v := .ref (a + 1)) (k := 0) h0 (by simp)
  have step : ∀ (T : St) (k : Nat), 1 ≤ k → k < 8 → T a = some (blkC a) → pV T a 0 k (.int 0) = some (va_up T a (some (blkC a))) := by
    intro T k k1 k8 hT
    rw [pV_at (k := k) (v := .int 0) hT (by exact k8)]
    have : [Value.ref (a + 1), .int 0, .int 0, .int 0, .int 0, .int 0, .int 0, .int 0].set k (.int 0) = [.ref (a + 1), .int 0, .int 0, .int 0, .int 0, .int 0, .int 0, .int 0] := by
      have hc : k = 1 ∨ k = 2 ∨ k = 3 ∨ k = 4 ∨ k = 5 ∨ k = 6 ∨ k = 7 := by omega
      rcases hc with rfl | rfl | rfl | rfl | rfl | rfl | rfl <;> rfl
    rw [this]
    rfl
  have hself : ∀ (T : St), T a = some (blkC a) → va_up T a (some (blkC a)) = T := by
    intro T hT
    funext b
    by_cases c : b = a
    · subst c; rw [up_at, hT]
    · rw [up_ne _ _ c]
  have hT2 : va_up T1 a (some (blkC a)) a = some (blkC a) := up_at _ _ _
  refine ⟨va_up T1 a (some (blkC a)), ?_, hT2, by rw [up_ne _ _ (by omega)]; exact t2, by rw [up_ne _ _ (by omega)]; exact t3, fun b h1 h2 h3 => by rw [up_ne _ _ h1, t4 b h2 (by omega), up_ne _ _ h2]⟩
  have e0' : pR T1 a 0 0 (a + 1) = some (va_up T1 a (some (blkC a))) := e0
  have st : ∀ k, 1 ≤ k → k < 8 → pI (va_up T1 a (some (blkC a))) a 0 k 0 = some (va_up T1 a (some (blkC a))) := fun k k1 k8 => by
    show pV _ a 0 k (.int 0) = _
    rw [step _ k k1 k8 hT2, hself _ hT2]
  simp only [f_X0_init, t1, e0', st 1 (by omega) (by omega), st 2 (by omega) (by omega), st 3 (by omega) (by omega), st 4 (by omega) (by omega), st 5 (by omega) (by omega), st 6 (by omega) (by omega), st 7 (by omega) (by omega), Option.bind_some]
def colC (a : Nat) : Cl := .inl (1, [.ref (a + 1), .int 0, .int 0, .int 30, .int 4])
def refC (q m i : Nat) : Nat → Option Nat := fun k => if k < i then some (q + 1 + m * k) else none
theorem refC_up (q m i : Nat) : va_up (refC q m i) i (some (q + 1 + m * i)) = refC q m (i + 1) := by
  funext k
  unfold va_up refC
  by_cases c : k = i
  · subst c; rw [if_pos rfl, if_pos (by omega)]
  · rw [if_neg c]
    by_cases c2 : k < i
    · rw [if_pos c2, if_pos (by omega)]
    · rw [if_neg c2, if_neg (by omega)]
theorem i2_loop {y q : Nat} (hy : y < q) : ∀ (d fu i : Nat) (S : St), i + d = 8 → d < fu → S y = some (colC (q - 1)) → S q = some (arR 1 8 (refC q 3 i)) → q = y + 1 →
    (∀ t, t < i → S (q + 1 + 3 * t) = some (blkC (q + 1 + 3 * t)) ∧ S (q + 1 + 3 * t + 1) = some (rowC (q + 1 + 3 * t + 1)) ∧ S (q + 1 + 3 * t + 2) = some arrC) →
    ∃ T, f_X2_init_L36 y fu S (q + 1 + 3 * i) (oI i) = some (T, q + 1 + 24) ∧ T q = some (arR 1 8 (refC q 3 8)) ∧ (∀ t, t < 8 → T (q + 1 + 3 * t) = some (blkC (q + 1 + 3 * t)) ∧ T (q + 1 + 3 * t + 1) = some (rowC (q + 1 + 3 * t + 1)) ∧ T (q + 1 + 3 * t + 2) = some arrC) ∧ ∀ b, b < q ∨ q + 1 + 24 ≤ b → T b = S b
  | d, 0, i, S, e, hf, h1, h2, h3, h4 => by omega
  | 0, fu + 1, i, S, e, hf, h1, h2, h3, h4 => by
    have : i = 8 := by omega
    subst this
    refine ⟨S, ?_, h2, h4, fun _ _ => rfl⟩
    have g0 : gR S y 1 0 = some q := by rw [gR_at h1 rfl]; congr 1; omega
    have n0 : aN S q 1 = some (oI 8) := aN_of h2
    rw [f_X2_init_L36]
    simp (disch := omega) only [g0, n0, oI_le, Nat.le_refl, Option.bind_some, reduceIte, if_true, if_false]
  | d + 1, fu + 1, i, S, e, hf, h1, h2, h3, h4 => by
    have g0 : gR S y 1 0 = some q := by rw [gR_at h1 rfl]; congr 1; omega
    have n0 : aN S q 1 = some (oI 8) := aN_of h2
    obtain ⟨T1, t1, t2, t3, t4, t5⟩ := i0_init (S := va_up S (q + 1 + 3 * i) (some (.inl (0, [.null, .int 0, .int 0, .int 0, .int 0, .int 0, .int 0, .int 0])))) (a := q + 1 + 3 * i) (up_at _ _ _)
    have hq1 : T1 q = some (arR 1 8 (refC q 3 i)) := by rw [t5 q (by omega) (by omega) (by omega), up_ne _ _ (by omega)]; exact h2
    have hs := sR_of (y := q + 1 + 3 * i) hq1 (oO_at t2) (show i < 8 by omega) (by omega)
    rw [refC_up] at hs
    have hT : ∀ b, b ≠ q → b ≠ q + 1 + 3 * i → b ≠ q + 1 + 3 * i + 1 → b ≠ q + 1 + 3 * i + 2 → va_up T1 q (some (arR 1 8 (refC q 3 (i + 1)))) b = S b := fun b a1 a2 a3 a4 => by rw [up_ne _ _ a1, t5 b a2 a3 a4, up_ne _ _ a2]
    obtain ⟨T, r1, r2, r3, r4⟩ := i2_loop hy d fu (i + 1) (va_up T1 q (some (arR 1 8 (refC q 3 (i + 1))))) (by omega) (by omega) (by rw [hT y (by omega) (by omega) (by omega) (by omega)]; exact h1) (up_at _ _ _) h3 (fun t ht => by
      by_cases c : t = i
      · subst c
        rw [up_ne _ _ (by omega), up_ne _ _ (by omega), up_ne _ _ (by omega)]
        exact ⟨t2, t3, t4⟩
      · rw [hT _ (by omega) (by omega) (by omega) (by omega), hT _ (by omega) (by omega) (by omega) (by omega), hT _ (by omega) (by omega) (by omega) (by omega)]
        exact h4 t (by omega))
    refine ⟨T, ?_, r2, r3, fun b hb => by rw [r4 b hb, hT b (by omega) (by omega) (by omega) (by omega)]⟩
    rw [f_X2_init_L36]
    simp (disch := omega) only [g0, n0, oI_le, show ¬ 8 ≤ i by omega, t1, hs, l1, oI_add, Option.bind_some, reduceIte, if_true, if_false]
    exact r1
/-- a column whole at b -/
def ColS (T : St) (b : Nat) : Prop := T b = some (colC b) ∧ T (b + 1) = some (arR 1 8 (refC (b + 1) 3 8)) ∧ ∀ t, t < 8 → T (b + 2 + 3 * t) = some (blkC (b + 2 + 3 * t)) ∧ T (b + 2 + 3 * t + 1) = some (rowC (b + 2 + 3 * t + 1)) ∧ T (b + 2 + 3 * t + 2) = some arrC
theorem ColS_fr {T T' : St} {b : Nat} (h : ColS T b) (f : ∀ c, b ≤ c → c < b + 26 → T' c = T c) : ColS T' b :=
  ⟨by rw [f b (by omega) (by omega)]; exact h.1, by rw [f (b + 1) (by omega) (by omega)]; exact h.2.1, fun t ht => by
    rw [f _ (by omega) (by omega), f _ (by omega) (by omega), f _ (by omega) (by omega)]; exact h.2.2 t ht⟩
theorem i2_init {S : St} {b : Nat} (h : S b = some (.inl (1, [.null, .int 0, .int 0, .int 0, .int 0]))) :
    ∃ T, f_X2_init S (b + 1) b = some (T, b + 26) ∧ ColS T b ∧ ∀ c, c < b ∨ b + 26 ≤ c → T c = S c := by
  have u1 : va_up S (b + 1) (some (arR 1 8 (fun _ => none))) b = some (.inl (1, [.null, .int 0, .int 0, .int 0, .int 0])) := by rw [up_ne _ _ (by omega)]; exact h
  have e0 := pV_at (v := .ref (b + 1)) (k := 0) u1 (by simp)
  obtain ⟨U, hU⟩ : ∃ U, U = va_up S (b + 1) (some (arR 1 8 (fun _ => none))) := ⟨_, rfl⟩
  have w : ∀ c c' : Option Cl, va_up (va_up U b c) b c' = va_up U b c' := fun c c' => by
    funext a
    by_cases e : a = b
    · subst e; rw [up_at, up_at]
    · rw [up_ne _ _ e, up_ne _ _ e, up_ne _ _ e]
  have hr0 : (arR 1 8 (fun _ => none) : Cl) = arR 1 8 (refC (b + 1) 3 0) := congrArg (fun f => (arR 1 8 f : Cl)) (funext fun k => by unfold refC; rw [if_neg (by omega)])
  obtain ⟨T, r1, r2, r3, r4⟩ := i2_loop (y := b) (q := b + 1) (by omega) 8 9 0 (va_up U b (some (colC b))) (by omega) (by omega) (up_at _ _ _) (by rw [up_ne _ _ (by omega), hU, up_at, hr0]) rfl (fun t ht => by omega)
  refine ⟨T, ?_, ⟨by rw [r4 b (by omega), up_at], r2, fun t ht => r3 t ht⟩, fun c hc => by rw [r4 c (by omega), up_ne _ _ (by omega), hU, up_ne _ _ (by omega)]⟩
  have p0 : pR U b 1 0 (b + 1) = some (va_up U b (some (.inl (1, [.ref (b + 1), .int 0, .int 0, .int 0, .int 0])))) := by rw [hU]; exact e0
  have p1 : pI (va_up U b (some (.inl (1, [.ref (b + 1), .int 0, .int 0, .int 0, .int 0])))) b 1 1 0 = some (va_up U b (some (.inl (1, [.ref (b + 1), .int 0, .int 0, .int 0, .int 0])))) := by
    show pV _ b 1 1 (.int 0) = _
    rw [pV_at (up_at _ _ _) (by simp), w]; rfl
  have p2 : pI (va_up U b (some (.inl (1, [.ref (b + 1), .int 0, .int 0, .int 0, .int 0])))) b 1 2 0 = some (va_up U b (some (.inl (1, [.ref (b + 1), .int 0, .int 0, .int 0, .int 0])))) := by
    show pV _ b 1 2 (.int 0) = _
    rw [pV_at (up_at _ _ _) (by simp), w]; rfl
  have p3 : pI (va_up U b (some (.inl (1, [.ref (b + 1), .int 0, .int 0, .int 0, .int 0])))) b 1 3 30 = some (va_up U b (some (.inl (1, [.ref (b + 1), .int 0, .int 0, .int 30, .int 0])))) := by
    show pV _ b 1 3 (.int 30) = _
    rw [pV_at (up_at _ _ _) (by simp), w]; rfl
  have p4 : pI (va_up U b (some (.inl (1, [.ref (b + 1), .int 0, .int 0, .int 30, .int 0])))) b 1 4 4 = some (va_up U b (some (colC b))) := by
    show pV _ b 1 4 (.int 4) = _
    rw [pV_at (up_at _ _ _) (by simp), w]; rfl
  rw [Nat.mul_zero, Nat.add_zero, show (oI 0 : Int32) = 0 from rfl] at r1
  rw [f_X2_init, ← hU]
  simp only [p0, p1, p2, p3, p4, r1, Option.bind_some]
def hisC (a : Nat) : Cl := .inl (2, [.ref (a + 1), .int 0])
theorem i3_loop {y q : Nat} (hy : y < q) : ∀ (d fu i : Nat) (S : St), i + d = 6 → d < fu → S y = some (hisC (q - 1)) → S q = some (arR 2 6 (refC q 26 i)) → q = y + 1 →
    (∀ t, t < i → ColS S (q + 1 + 26 * t)) →
    ∃ T, f_X3_init_L20 y fu S (q + 1 + 26 * i) (oI i) = some (T, q + 1 + 156) ∧ T q = some (arR 2 6 (refC q 26 6)) ∧ (∀ t, t < 6 → ColS T (q + 1 + 26 * t)) ∧ ∀ b, b < q ∨ q + 1 + 156 ≤ b → T b = S b
  | d, 0, i, S, e, hf, h1, h2, h3, h4 => by omega
  | 0, fu + 1, i, S, e, hf, h1, h2, h3, h4 => by
    have : i = 6 := by omega
    subst this
    refine ⟨S, ?_, h2, h4, fun _ _ => rfl⟩
    have g0 : gR S y 2 0 = some q := by rw [gR_at h1 rfl]; congr 1; omega
    have n0 : aN S q 2 = some (oI 6) := aN_of h2
    rw [f_X3_init_L20]
    simp (disch := omega) only [g0, n0, oI_le, Nat.le_refl, Option.bind_some, reduceIte, if_true, if_false]
  | d + 1, fu + 1, i, S, e, hf, h1, h2, h3, h4 => by
    have g0 : gR S y 2 0 = some q := by rw [gR_at h1 rfl]; congr 1; omega
    have n0 : aN S q 2 = some (oI 6) := aN_of h2
    obtain ⟨T1, t1, t2, t3⟩ := i2_init (S := va_up S (q + 1 + 26 * i) (some (.inl (1, [.null, .int 0, .int 0, .int 0, .int 0])))) (b := q + 1 + 26 * i) (up_at _ _ _)
    have hq1 : T1 q = some (arR 2 6 (refC q 26 i)) := by rw [t3 q (by omega), up_ne _ _ (by omega)]; exact h2
    have hs := sR_of (y := q + 1 + 26 * i) hq1 (oO_at t2.1) (show i < 6 by omega) (by omega)
    rw [refC_up] at hs
    have hT : ∀ b, b ≠ q → (b < q + 1 + 26 * i ∨ q + 1 + 26 * i + 26 ≤ b) → va_up T1 q (some (arR 2 6 (refC q 26 (i + 1)))) b = S b := fun b a1 a2 => by rw [up_ne _ _ a1, t3 b a2, up_ne _ _ (by omega)]
    obtain ⟨T, r1, r2, r3, r4⟩ := i3_loop hy d fu (i + 1) (va_up T1 q (some (arR 2 6 (refC q 26 (i + 1))))) (by omega) (by omega) (by rw [hT y (by omega) (by omega)]; exact h1) (up_at _ _ _) h3 (fun t ht => by
      by_cases c : t = i
      · subst c
        exact ColS_fr t2 (fun c c1 c2 => up_ne _ _ (by omega))
      · exact ColS_fr (h4 t (by omega)) (fun c c1 c2 => hT c (by omega) (by omega)))
    refine ⟨T, ?_, r2, r3, fun b hb => by rw [r4 b hb, hT b (by omega) (by omega)]⟩
    rw [f_X3_init_L20]
    simp (disch := omega) only [g0, n0, oI_le, show ¬ 6 ≤ i by omega, t1, hs, l1, oI_add, Option.bind_some, reduceIte, if_true, if_false]
    exact r1
theorem i3_init {S : St} {b : Nat} (h : S b = some (.inl (2, [.null, .int 0]))) :
    ∃ T, f_X3_init S (b + 1) b = some (T, b + 158) ∧ T b = some (hisC b) ∧ T (b + 1) = some (arR 2 6 (refC (b + 1) 26 6)) ∧ (∀ t, t < 6 → ColS T (b + 2 + 26 * t)) ∧ ∀ c, c < b ∨ b + 158 ≤ c → T c = S c := by
  obtain ⟨U, hU⟩ : ∃ U, U = va_up S (b + 1) (some (arR 2 6 (fun _ => none))) := ⟨_, rfl⟩
  have u1 : U b = some (.inl (2, [.null, .int 0])) := by rw [hU, up_ne _ _ (by omega)]; exact h
  have w : ∀ c c' : Option Cl, va_up (va_up U b c) b c' = va_up U b c' := fun c c' => by
    funext a
    by_cases e : a = b
    · subst e; rw [up_at, up_at]
    · rw [up_ne _ _ e, up_ne _ _ e, up_ne _ _ e]
  have hr0 : (arR 2 6 (fun _ => none) : Cl) = arR 2 6 (refC (b + 1) 26 0) := congrArg (fun f => (arR 2 6 f : Cl)) (funext fun k => by unfold refC; rw [if_neg (by omega)])
  obtain ⟨T, r1, r2, r3, r4⟩ := i3_loop (y := b) (q := b + 1) (by omega) 6 7 0 (va_up U b (some (hisC b))) (by omega) (by omega) (up_at _ _ _) (by rw [up_ne _ _ (by omega), hU, up_at, hr0]) rfl (fun t ht => by omega)
  refine ⟨T, ?_, by rw [r4 b (by omega), up_at], r2, r3, fun c hc => by rw [r4 c (by omega), up_ne _ _ (by omega), hU, up_ne _ _ (by omega)]⟩
  have p0 : pR U b 2 0 (b + 1) = some (va_up U b (some (hisC b))) := by
    show pV _ b 2 0 (.ref (b + 1)) = _
    rw [pV_at u1 (by simp)]; rfl
  have p1 : pI (va_up U b (some (hisC b))) b 2 1 0 = some (va_up U b (some (hisC b))) := by
    show pV (va_up U b (some (.inl (2, [.ref (b + 1), .int 0])))) b 2 1 (.int 0) = _
    rw [pV_at (up_at _ _ _) (by simp), w]; rfl
  rw [Nat.mul_zero, Nat.add_zero, show (oI 0 : Int32) = 0 from rfl] at r1
  rw [f_X3_init, ← hU]
  simp only [p0, p1, r1, Option.bind_some]
def txtC (a : Nat) : Cl := .inl (4, [.ref (a + 1), .int 0, .int 0, .int 0, .int 1])
theorem i5_init {S : St} {b : Nat} (h : S b = some (.inl (4, [.null, .int 0, .int 0, .int 0, .int 0]))) :
    ∃ T, f_X5_init S (b + 1) b = some (T, b + 2) ∧ T b = some (txtC b) ∧ T (b + 1) = some (arI 60 (fun _ => 0)) ∧ ∀ c, c ≠ b → c ≠ b + 1 → T c = S c := by
  obtain ⟨U, hU⟩ : ∃ U, U = va_up S (b + 1) (some (arI 60 (fun _ => 0))) := ⟨_, rfl⟩
  have u1 : U b = some (.inl (4, [.null, .int 0, .int 0, .int 0, .int 0])) := by rw [hU, up_ne _ _ (by omega)]; exact h
  have w : ∀ c c' : Option Cl, va_up (va_up U b c) b c' = va_up U b c' := fun c c' => by
    funext a
    by_cases e : a = b
    · subst e; rw [up_at, up_at]
    · rw [up_ne _ _ e, up_ne _ _ e, up_ne _ _ e]
  have p0 : pR U b 4 0 (b + 1) = some (va_up U b (some (.inl (4, [.ref (b + 1), .int 0, .int 0, .int 0, .int 0])))) := by
    show pV _ b 4 0 (.ref (b + 1)) = _
    rw [pV_at u1 (by simp)]; rfl
  have pk : ∀ k, 1 ≤ k → k < 4 → pI (va_up U b (some (.inl (4, [.ref (b + 1), .int 0, .int 0, .int 0, .int 0])))) b 4 k 0 = some (va_up U b (some (.inl (4, [.ref (b + 1), .int 0, .int 0, .int 0, .int 0])))) := fun k k1 k4 => by
    show pV _ b 4 k (.int 0) = _
    have hc : k = 1 ∨ k = 2 ∨ k = 3 := by omega
    rcases hc with rfl | rfl | rfl
    · rw [pV_at (up_at _ _ _) (by simp), w]; rfl
    · rw [pV_at (up_at _ _ _) (by simp), w]; rfl
    · rw [pV_at (up_at _ _ _) (by simp), w]; rfl
  have p4 : pI (va_up U b (some (.inl (4, [.ref (b + 1), .int 0, .int 0, .int 0, .int 0])))) b 4 4 1 = some (va_up U b (some (txtC b))) := by
    show pV _ b 4 4 (.int 1) = _
    rw [pV_at (up_at _ _ _) (by simp), w]; rfl
  refine ⟨va_up U b (some (txtC b)), ?_, up_at _ _ _, by rw [up_ne _ _ (by omega), hU, up_at], fun c c1 c2 => by rw [up_ne _ _ c1, hU, up_ne _ _ c2]⟩
  rw [f_X5_init, ← hU]
  simp only [p0, pk 1 (by omega) (by omega), pk 2 (by omega) (by omega), pk 3 (by omega) (by omega), p4, Option.bind_some]
