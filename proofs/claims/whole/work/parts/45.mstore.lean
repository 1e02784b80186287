/-! THE MODEL'S STORE -/
def MS (S : St) (M : Nat) (A : Nat → Nat → Int32) (F : Nat → Int32) (H : Int64) (O : Nat → Int64) : St := fun a =>
  if a = M then some (.inl (6, [.ref (M + 1), .int (F 1), .ref (M + 2), .int (F 3), .ref (M + 3), .int (F 5), .ref (M + 4), .int (F 7), .ref (M + 5), .int (F 9), .int (F 10), .int (F 11), .long H]))
  else if a = M + 1 then some (arI 260 (A 0)) else if a = M + 2 then some (arI 1560 (A 1)) else if a = M + 3 then some (arI 60 (A 2)) else if a = M + 4 then some (arI 48 (A 3)) else if a = M + 5 then some (arI 64 (A 4))
  else if a = M + 6 then some (arJ 1 O) else S a
def upF (F : Nat → Int32) (k : Nat) (v : Int32) : Nat → Int32 := fun j => if j = k then v else F j
theorem upF_eq (F : Nat → Int32) (k : Nat) (v : Int32) : upF F k v k = v := if_pos rfl
theorem upF_ne (F : Nat → Int32) {k j : Nat} (v : Int32) (h : j ≠ k) : upF F k v j = F j := if_neg h
theorem upF_up (F : Nat → Int32) (k : Nat) (v w : Int32) : upF (upF F k v) k w = upF F k w := by
  funext j; unfold upF; by_cases c : j = k
  · rw [if_pos c, if_pos c]
  · rw [if_neg c, if_neg c, if_neg c]
theorem MS_0 {S : St} {M : Nat} {A : Nat → Nat → Int32} {F : Nat → Int32} {H : Int64} {O : Nat → Int64} : MS S M A F H O M = some (.inl (6, [.ref (M + 1), .int (F 1), .ref (M + 2), .int (F 3), .ref (M + 3), .int (F 5), .ref (M + 4), .int (F 7), .ref (M + 5), .int (F 9), .int (F 10), .int (F 11), .long H])) := if_pos rfl
theorem m_o {S : St} {M : Nat} {A : Nat → Nat → Int32} {F : Nat → Int32} {H : Int64} {O : Nat → Int64} : oO (MS S M A F H O) M 6 = some () := by
  simp only [oO, MS_0, reduceIte]
theorem m_L {S : St} {M : Nat} {A : Nat → Nat → Int32} {F : Nat → Int32} {H : Int64} {O : Nat → Int64} : gL (MS S M A F H O) M 6 12 = some H := by
  simp only [gL, MS_0, reduceIte]
  rfl
theorem m_pL {S : St} {M : Nat} {A : Nat → Nat → Int32} {F : Nat → Int32} {H : Int64} {O : Nat → Int64} (v : Int64) : pL (MS S M A F H O) M 6 12 v = some (MS S M A F v O) := by
  simp only [pL, pV, MS_0, List.length, true_and]
  rw [if_pos (by decide)]
  refine congrArg some ?_
  funext a
  unfold va_up MS
  by_cases e : a = M
  · subst e; simp
  · rw [if_neg e, if_neg e, if_neg e]
theorem m_r0 {S : St} {M : Nat} {A : Nat → Nat → Int32} {F : Nat → Int32} {H : Int64} {O : Nat → Int64} : gR (MS S M A F H O) M 6 0 = some (M + 1) := by
  simp only [gR, MS_0, reduceIte]
  rfl
theorem m_r2 {S : St} {M : Nat} {A : Nat → Nat → Int32} {F : Nat → Int32} {H : Int64} {O : Nat → Int64} : gR (MS S M A F H O) M 6 2 = some (M + 2) := by
  simp only [gR, MS_0, reduceIte]
  rfl
theorem m_r4 {S : St} {M : Nat} {A : Nat → Nat → Int32} {F : Nat → Int32} {H : Int64} {O : Nat → Int64} : gR (MS S M A F H O) M 6 4 = some (M + 3) := by
  simp only [gR, MS_0, reduceIte]
  rfl
theorem m_r6 {S : St} {M : Nat} {A : Nat → Nat → Int32} {F : Nat → Int32} {H : Int64} {O : Nat → Int64} : gR (MS S M A F H O) M 6 6 = some (M + 4) := by
  simp only [gR, MS_0, reduceIte]
  rfl
theorem m_r8 {S : St} {M : Nat} {A : Nat → Nat → Int32} {F : Nat → Int32} {H : Int64} {O : Nat → Int64} : gR (MS S M A F H O) M 6 8 = some (M + 5) := by
  simp only [gR, MS_0, reduceIte]
  rfl
theorem m_g1 {S : St} {M : Nat} {A : Nat → Nat → Int32} {F : Nat → Int32} {H : Int64} {O : Nat → Int64} : gI (MS S M A F H O) M 6 1 = some (F 1) := by
  simp only [gI, MS_0, reduceIte]
  rfl
theorem m_p1 {S : St} {M : Nat} {A : Nat → Nat → Int32} {F : Nat → Int32} {H : Int64} {O : Nat → Int64} (v : Int32) : pI (MS S M A F H O) M 6 1 v = some (MS S M A (upF F 1 v) H O) := by
  simp only [pI, pV, MS_0, List.length, true_and]
  rw [if_pos (by decide)]
  refine congrArg some ?_
  funext a
  unfold va_up MS
  by_cases e : a = M
  · subst e; simp [upF]
  · rw [if_neg e, if_neg e, if_neg e]
theorem m_g3 {S : St} {M : Nat} {A : Nat → Nat → Int32} {F : Nat → Int32} {H : Int64} {O : Nat → Int64} : gI (MS S M A F H O) M 6 3 = some (F 3) := by
  simp only [gI, MS_0, reduceIte]
  rfl
theorem m_p3 {S : St} {M : Nat} {A : Nat → Nat → Int32} {F : Nat → Int32} {H : Int64} {O : Nat → Int64} (v : Int32) : pI (MS S M A F H O) M 6 3 v = some (MS S M A (upF F 3 v) H O) := by
  simp only [pI, pV, MS_0, List.length, true_and]
  rw [if_pos (by decide)]
  refine congrArg some ?_
  funext a
  unfold va_up MS
  by_cases e : a = M
  · subst e; simp [upF]
  · rw [if_neg e, if_neg e, if_neg e]
theorem m_g5 {S : St} {M : Nat} {A : Nat → Nat → Int32} {F : Nat → Int32} {H : Int64} {O : Nat → Int64} : gI (MS S M A F H O) M 6 5 = some (F 5) := by
  simp only [gI, MS_0, reduceIte]
  rfl
theorem m_p5 {S : St} {M : Nat} {A : Nat → Nat → Int32} {F : Nat → Int32} {H : Int64} {O : Nat → Int64} (v : Int32) : pI (MS S M A F H O) M 6 5 v = some (MS S M A (upF F 5 v) H O) := by
  simp only [pI, pV, MS_0, List.length, true_and]
  rw [if_pos (by decide)]
  refine congrArg some ?_
  funext a
  unfold va_up MS
  by_cases e : a = M
  · subst e; simp [upF]
  · rw [if_neg e, if_neg e, if_neg e]
theorem m_g7 {S : St} {M : Nat} {A : Nat → Nat → Int32} {F : Nat → Int32} {H : Int64} {O : Nat → Int64} : gI (MS S M A F H O) M 6 7 = some (F 7) := by
  simp only [gI, MS_0, reduceIte]
  rfl
theorem m_p7 {S : St} {M : Nat} {A : Nat → Nat → Int32} {F : Nat → Int32} {H : Int64} {O : Nat → Int64} (v : Int32) : pI (MS S M A F H O) M 6 7 v = some (MS S M A (upF F 7 v) H O) := by
  simp only [pI, pV, MS_0, List.length, true_and]
  rw [if_pos (by decide)]
  refine congrArg some ?_
  funext a
  unfold va_up MS
  by_cases e : a = M
  · subst e; simp [upF]
  · rw [if_neg e, if_neg e, if_neg e]
theorem m_g9 {S : St} {M : Nat} {A : Nat → Nat → Int32} {F : Nat → Int32} {H : Int64} {O : Nat → Int64} : gI (MS S M A F H O) M 6 9 = some (F 9) := by
  simp only [gI, MS_0, reduceIte]
  rfl
theorem m_p9 {S : St} {M : Nat} {A : Nat → Nat → Int32} {F : Nat → Int32} {H : Int64} {O : Nat → Int64} (v : Int32) : pI (MS S M A F H O) M 6 9 v = some (MS S M A (upF F 9 v) H O) := by
  simp only [pI, pV, MS_0, List.length, true_and]
  rw [if_pos (by decide)]
  refine congrArg some ?_
  funext a
  unfold va_up MS
  by_cases e : a = M
  · subst e; simp [upF]
  · rw [if_neg e, if_neg e, if_neg e]
theorem m_g10 {S : St} {M : Nat} {A : Nat → Nat → Int32} {F : Nat → Int32} {H : Int64} {O : Nat → Int64} : gI (MS S M A F H O) M 6 10 = some (F 10) := by
  simp only [gI, MS_0, reduceIte]
  rfl
theorem m_p10 {S : St} {M : Nat} {A : Nat → Nat → Int32} {F : Nat → Int32} {H : Int64} {O : Nat → Int64} (v : Int32) : pI (MS S M A F H O) M 6 10 v = some (MS S M A (upF F 10 v) H O) := by
  simp only [pI, pV, MS_0, List.length, true_and]
  rw [if_pos (by decide)]
  refine congrArg some ?_
  funext a
  unfold va_up MS
  by_cases e : a = M
  · subst e; simp [upF]
  · rw [if_neg e, if_neg e, if_neg e]
theorem m_g11 {S : St} {M : Nat} {A : Nat → Nat → Int32} {F : Nat → Int32} {H : Int64} {O : Nat → Int64} : gI (MS S M A F H O) M 6 11 = some (F 11) := by
  simp only [gI, MS_0, reduceIte]
  rfl
theorem m_p11 {S : St} {M : Nat} {A : Nat → Nat → Int32} {F : Nat → Int32} {H : Int64} {O : Nat → Int64} (v : Int32) : pI (MS S M A F H O) M 6 11 v = some (MS S M A (upF F 11 v) H O) := by
  simp only [pI, pV, MS_0, List.length, true_and]
  rw [if_pos (by decide)]
  refine congrArg some ?_
  funext a
  unfold va_up MS
  by_cases e : a = M
  · subst e; simp [upF]
  · rw [if_neg e, if_neg e, if_neg e]
theorem m_z10 {S : St} {M : Nat} {A : Nat → Nat → Int32} {F : Nat → Int32} {H : Int64} {O : Nat → Int64} {v : Int32} (hv : v = 0 ∨ v = 1) : pZ (MS S M A F H O) M 6 10 v = some (MS S M A (upF F 10 v) H O) := by
  unfold pZ
  rw [if_pos hv]
  exact m_p10 v
theorem MS_1 {S : St} {M : Nat} {A : Nat → Nat → Int32} {F : Nat → Int32} {H : Int64} {O : Nat → Int64} : MS S M A F H O (M + 1) = some (arI 260 (A 0)) := by
  unfold MS
  rw [if_neg (show ¬ M + 1 = M by omega), if_pos rfl]
theorem m_a0 {S : St} {M : Nat} {A : Nat → Nat → Int32} {F : Nat → Int32} {H : Int64} {O : Nat → Int64} {k : Nat} (hk : k < 260) : aI (MS S M A F H O) (M + 1) (oI k) = some (A 0 k) := aI_of MS_1 hk (by decide)
theorem m_s0 {S : St} {M : Nat} {A : Nat → Nat → Int32} {F : Nat → Int32} {H : Int64} {O : Nat → Int64} {k : Nat} (hk : k < 260) (v : Int32) : sI (MS S M A F H O) (M + 1) (oI k) v = some (MS S M (up2 A 0 k v) F H O) := by
  rw [sI_of MS_1 v hk (by decide)]
  refine congrArg some ?_
  funext a
  have e1 : up2 A 0 k v 0 = upd (A 0) k v := by funext i; simp [up2, upd]
  have e21 : up2 A 0 k v 1 = A 1 := up2_row A v (by decide)
  have e22 : up2 A 0 k v 2 = A 2 := up2_row A v (by decide)
  have e23 : up2 A 0 k v 3 = A 3 := up2_row A v (by decide)
  have e24 : up2 A 0 k v 4 = A 4 := up2_row A v (by decide)
  unfold va_up MS
  rw [e1, e21, e22, e23, e24]
  by_cases e : a = M + 1
  · subst e; simp
  · simp only [e, if_false]
theorem MS_2 {S : St} {M : Nat} {A : Nat → Nat → Int32} {F : Nat → Int32} {H : Int64} {O : Nat → Int64} : MS S M A F H O (M + 2) = some (arI 1560 (A 1)) := by
  unfold MS
  rw [if_neg (show ¬ M + 2 = M by omega), if_neg (show ¬ M + 2 = M + 1 by omega), if_pos rfl]
theorem m_a1 {S : St} {M : Nat} {A : Nat → Nat → Int32} {F : Nat → Int32} {H : Int64} {O : Nat → Int64} {k : Nat} (hk : k < 1560) : aI (MS S M A F H O) (M + 2) (oI k) = some (A 1 k) := aI_of MS_2 hk (by decide)
theorem m_s1 {S : St} {M : Nat} {A : Nat → Nat → Int32} {F : Nat → Int32} {H : Int64} {O : Nat → Int64} {k : Nat} (hk : k < 1560) (v : Int32) : sI (MS S M A F H O) (M + 2) (oI k) v = some (MS S M (up2 A 1 k v) F H O) := by
  rw [sI_of MS_2 v hk (by decide)]
  refine congrArg some ?_
  funext a
  have e1 : up2 A 1 k v 1 = upd (A 1) k v := by funext i; simp [up2, upd]
  have e20 : up2 A 1 k v 0 = A 0 := up2_row A v (by decide)
  have e22 : up2 A 1 k v 2 = A 2 := up2_row A v (by decide)
  have e23 : up2 A 1 k v 3 = A 3 := up2_row A v (by decide)
  have e24 : up2 A 1 k v 4 = A 4 := up2_row A v (by decide)
  unfold va_up MS
  rw [e1, e20, e22, e23, e24]
  by_cases e : a = M + 2
  · subst e; simp
  · simp only [e, if_false]
theorem MS_3 {S : St} {M : Nat} {A : Nat → Nat → Int32} {F : Nat → Int32} {H : Int64} {O : Nat → Int64} : MS S M A F H O (M + 3) = some (arI 60 (A 2)) := by
  unfold MS
  rw [if_neg (show ¬ M + 3 = M by omega), if_neg (show ¬ M + 3 = M + 1 by omega), if_neg (show ¬ M + 3 = M + 2 by omega), if_pos rfl]
theorem m_a2 {S : St} {M : Nat} {A : Nat → Nat → Int32} {F : Nat → Int32} {H : Int64} {O : Nat → Int64} {k : Nat} (hk : k < 60) : aI (MS S M A F H O) (M + 3) (oI k) = some (A 2 k) := aI_of MS_3 hk (by decide)
theorem m_s2 {S : St} {M : Nat} {A : Nat → Nat → Int32} {F : Nat → Int32} {H : Int64} {O : Nat → Int64} {k : Nat} (hk : k < 60) (v : Int32) : sI (MS S M A F H O) (M + 3) (oI k) v = some (MS S M (up2 A 2 k v) F H O) := by
  rw [sI_of MS_3 v hk (by decide)]
  refine congrArg some ?_
  funext a
  have e1 : up2 A 2 k v 2 = upd (A 2) k v := by funext i; simp [up2, upd]
  have e20 : up2 A 2 k v 0 = A 0 := up2_row A v (by decide)
  have e21 : up2 A 2 k v 1 = A 1 := up2_row A v (by decide)
  have e23 : up2 A 2 k v 3 = A 3 := up2_row A v (by decide)
  have e24 : up2 A 2 k v 4 = A 4 := up2_row A v (by decide)
  unfold va_up MS
  rw [e1, e20, e21, e23, e24]
  by_cases e : a = M + 3
  · subst e; simp
  · simp only [e, if_false]
theorem MS_4 {S : St} {M : Nat} {A : Nat → Nat → Int32} {F : Nat → Int32} {H : Int64} {O : Nat → Int64} : MS S M A F H O (M + 4) = some (arI 48 (A 3)) := by
  unfold MS
  rw [if_neg (show ¬ M + 4 = M by omega), if_neg (show ¬ M + 4 = M + 1 by omega), if_neg (show ¬ M + 4 = M + 2 by omega), if_neg (show ¬ M + 4 = M + 3 by omega), if_pos rfl]
theorem m_a3 {S : St} {M : Nat} {A : Nat → Nat → Int32} {F : Nat → Int32} {H : Int64} {O : Nat → Int64} {k : Nat} (hk : k < 48) : aI (MS S M A F H O) (M + 4) (oI k) = some (A 3 k) := aI_of MS_4 hk (by decide)
theorem m_s3 {S : St} {M : Nat} {A : Nat → Nat → Int32} {F : Nat → Int32} {H : Int64} {O : Nat → Int64} {k : Nat} (hk : k < 48) (v : Int32) : sI (MS S M A F H O) (M + 4) (oI k) v = some (MS S M (up2 A 3 k v) F H O) := by
  rw [sI_of MS_4 v hk (by decide)]
  refine congrArg some ?_
  funext a
  have e1 : up2 A 3 k v 3 = upd (A 3) k v := by funext i; simp [up2, upd]
  have e20 : up2 A 3 k v 0 = A 0 := up2_row A v (by decide)
  have e21 : up2 A 3 k v 1 = A 1 := up2_row A v (by decide)
  have e22 : up2 A 3 k v 2 = A 2 := up2_row A v (by decide)
  have e24 : up2 A 3 k v 4 = A 4 := up2_row A v (by decide)
  unfold va_up MS
  rw [e1, e20, e21, e22, e24]
  by_cases e : a = M + 4
  · subst e; simp
  · simp only [e, if_false]
theorem MS_5 {S : St} {M : Nat} {A : Nat → Nat → Int32} {F : Nat → Int32} {H : Int64} {O : Nat → Int64} : MS S M A F H O (M + 5) = some (arI 64 (A 4)) := by
  unfold MS
  rw [if_neg (show ¬ M + 5 = M by omega), if_neg (show ¬ M + 5 = M + 1 by omega), if_neg (show ¬ M + 5 = M + 2 by omega), if_neg (show ¬ M + 5 = M + 3 by omega), if_neg (show ¬ M + 5 = M + 4 by omega), if_pos rfl]
theorem m_a4 {S : St} {M : Nat} {A : Nat → Nat → Int32} {F : Nat → Int32} {H : Int64} {O : Nat → Int64} {k : Nat} (hk : k < 64) : aI (MS S M A F H O) (M + 5) (oI k) = some (A 4 k) := aI_of MS_5 hk (by decide)
theorem m_s4 {S : St} {M : Nat} {A : Nat → Nat → Int32} {F : Nat → Int32} {H : Int64} {O : Nat → Int64} {k : Nat} (hk : k < 64) (v : Int32) : sI (MS S M A F H O) (M + 5) (oI k) v = some (MS S M (up2 A 4 k v) F H O) := by
  rw [sI_of MS_5 v hk (by decide)]
  refine congrArg some ?_
  funext a
  have e1 : up2 A 4 k v 4 = upd (A 4) k v := by funext i; simp [up2, upd]
  have e20 : up2 A 4 k v 0 = A 0 := up2_row A v (by decide)
  have e21 : up2 A 4 k v 1 = A 1 := up2_row A v (by decide)
  have e22 : up2 A 4 k v 2 = A 2 := up2_row A v (by decide)
  have e23 : up2 A 4 k v 3 = A 3 := up2_row A v (by decide)
  unfold va_up MS
  rw [e1, e20, e21, e22, e23]
  by_cases e : a = M + 5
  · subst e; simp
  · simp only [e, if_false]
theorem m_J {S : St} {M : Nat} {A : Nat → Nat → Int32} {F : Nat → Int32} {H : Int64} {O : Nat → Int64} : aJ (MS S M A F H O) (M + 6) 0 = some (O 0) := by
  have e : MS S M A F H O (M + 6) = some (arJ 1 O) := by
    unfold MS
    rw [if_neg (show ¬ M + 6 = M by omega), if_neg (show ¬ M + 6 = M + 1 by omega), if_neg (show ¬ M + 6 = M + 2 by omega), if_neg (show ¬ M + 6 = M + 3 by omega), if_neg (show ¬ M + 6 = M + 4 by omega), if_neg (show ¬ M + 6 = M + 5 by omega), if_pos rfl]
  simp only [aJ, e]
  rw [if_pos ⟨trivial, by decide⟩]
  rfl
theorem m_sJ {S : St} {M : Nat} {A : Nat → Nat → Int32} {F : Nat → Int32} {H : Int64} {O : Nat → Int64} (v : Int64) : sJ (MS S M A F H O) (M + 6) 0 v = some (MS S M A F H (vp_updL O 0 v)) := by
  have e : MS S M A F H O (M + 6) = some (arJ 1 O) := by
    unfold MS
    rw [if_neg (show ¬ M + 6 = M by omega), if_neg (show ¬ M + 6 = M + 1 by omega), if_neg (show ¬ M + 6 = M + 2 by omega), if_neg (show ¬ M + 6 = M + 3 by omega), if_neg (show ¬ M + 6 = M + 4 by omega), if_neg (show ¬ M + 6 = M + 5 by omega), if_pos rfl]
  simp only [sJ, e]
  rw [if_pos ⟨trivial, by decide⟩]
  refine congrArg some ?_
  funext a
  unfold va_up MS
  by_cases e : a = M + 6
  · subst e; simp
  · simp only [e, if_false]
theorem MS_WS {S : St} {M x : Nat} {A : Nat → Nat → Int32} {F : Nat → Int32} {H : Int64} {O : Nat → Int64} {W : Nat → Nat → Int32} {R : Nat → Nat → Nat} (h : x + 189 ≤ M) : MS (WS S x W R) M A F H O = WS (MS S M A F H O) x W R := by
  funext a
  unfold MS WS
  by_cases c : x ≤ a ∧ a < x + 189
  · rw [if_pos c, if_neg (by omega), if_neg (by omega), if_neg (by omega), if_neg (by omega), if_neg (by omega), if_neg (by omega), if_neg (by omega), if_pos c]
  · rw [if_neg c, if_neg c]
