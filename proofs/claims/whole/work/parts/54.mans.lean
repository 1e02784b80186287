/-! THE MODEL'S ANSWERS -/
/-- only the row and its length differ -/
def FrL (A A' : Nat → Nat → Int32) (F F' : Nat → Int32) : Prop := (∀ a, a ≠ 3 → A' a = A a) ∧ ∀ k, k ≠ 7 → F' k = F k
theorem FrL_refl (A : Nat → Nat → Int32) (F : Nat → Int32) : FrL A A F F := ⟨fun _ _ => rfl, fun _ _ => rfl⟩
theorem FrL_trans {A A1 A2 : Nat → Nat → Int32} {F F1 F2 : Nat → Int32} (h : FrL A A1 F F1) (k : FrL A1 A2 F1 F2) : FrL A A2 F F2 := ⟨fun a c => (k.1 a c).trans (h.1 a c), fun a c => (k.2 a c).trans (h.2 a c)⟩
theorem FrL_Z {A A' : Nat → Nat → Int32} {F F' : Nat → Int32} {C : Cn} (f : FrL A A' F F') (h : ShZ (A 0) C) : ShZ (A' 0) C := by rw [f.1 0 (by decide)]; exact h
theorem FrL_W {A A' : Nat → Nat → Int32} {F F' : Nat → Int32} {C : Cn} {nh : Nat} {Hs : Nat → Cn} (f : FrL A A' F F') (h : ModW A F C nh Hs) : ModW A' F' C nh Hs := ModW_fr h (f.1 0 (by decide)) (f.1 1 (by decide)) (f.2 1 (by decide))
theorem FrL_M {A A' : Nat → Nat → Int32} {F F' : Nat → Int32} (f : FrL A A' F F') : FrM A A' F F' := ⟨f.1 2 (by decide), f.2 3 (by decide)⟩
theorem FrL_lay {A A' : Nat → Nat → Int32} {F : Nat → Int32} (h : ∀ a, a ≠ 3 → A' a = A a) (v : Int32) : FrL A A' F (upF F 7 v) := ⟨h, fun k hk => upF_ne F v hk⟩
theorem x7_alike_L {S : St} {M : Nat} {A : Nat → Nat → Int32} {F : Nat → Int32} {H : Int64} {O : Nat → Int64} {C : Cn} (h : ShZ (A 0) C) (ok : okC C) {j k : Nat} (hj : j < cN C) (hk : k < cN C) : ∀ (d fu i : Nat), i + d = bN (cB C j) → d < fu →
    f_X7_areAlike_L24 (MS S M A F H O) M (oI j) (oI k) fu (if bN (cB C j) = bN (cB C k) ∧ eqn (bG (cB C j)) (bG (cB C k)) i = true then 1 else 0) (oI i) = some (if bN (cB C j) = bN (cB C k) ∧ eqn (bG (cB C j)) (bG (cB C k)) (bN (cB C j)) = true then 1 else 0)
  | d, 0, i, e, hf => by omega
  | 0, fu + 1, i, e, hf => by
    have h24 := (ok.2.2.2.2 j hj).2.1
    have h8 := ok.1
    have : i = bN (cB C j) := by omega
    subst this
    rw [f_X7_areAlike_L24]
    simp (disch := omega) only [m_o, z_n h h8 hj, oI_le, Nat.le_refl, Option.bind_some, reduceIte, if_true, if_false]
  | d + 1, fu + 1, i, e, hf => by
    have h24 := (ok.2.2.2.2 j hj).2.1
    have k24 := (ok.2.2.2.2 k hk).2.1
    have h8 := ok.1
    have ih := x7_alike_L (S := S) (M := M) (F := F) (H := H) (O := O) h ok hj hk d fu (i + 1) (by omega) (by omega)
    have g1 := (ok.2.2.2.2 j hj).2.2.2.2 i
    have g2 := (ok.2.2.2.2 k hk).2.2.2.2 i
    rw [f_X7_areAlike_L24]
    simp (disch := omega) only [m_o, z_n h h8 hj, oI_le, show ¬ bN (cB C j) ≤ i by omega, l8, oI_add, x7_of (show 4 + 32 * j + (8 + i) < 260 by omega), x7_of (show 4 + 32 * k + (8 + i) < 260 by omega), Option.bind_some, reduceIte, if_true, if_false]
    by_cases c : bN (cB C j) = bN (cB C k) ∧ eqn (bG (cB C j)) (bG (cB C k)) i = true
    · have v1 := (h.2.2.2.2 j hj).2.2.2.2 i (by omega)
      have v2 := (h.2.2.2.2 k hk).2.2.2.2 i (by omega)
      have hev : (oI (bG (cB C j) i) = oI (bG (cB C k) i)) = (bG (cB C j) i = bG (cB C k) i) := oI_eq (by omega) (by omega)
      simp only [if_pos c, show ¬ (1 : Int32) = 0 by decide, v1, v2, hev, l1, oI_add, Option.bind_some, reduceIte, if_true, if_false] at ih ⊢
      by_cases c2 : bG (cB C j) i = bG (cB C k) i
      · rw [if_pos c2]
        rw [if_pos (show bN (cB C j) = bN (cB C k) ∧ eqn (bG (cB C j)) (bG (cB C k)) (i + 1) = true from ⟨c.1, by rw [eqn, c.2, decide_eq_true c2]; rfl⟩)] at ih
        exact ih
      · rw [if_neg c2]
        rw [if_neg (show ¬ (bN (cB C j) = bN (cB C k) ∧ eqn (bG (cB C j)) (bG (cB C k)) (i + 1) = true) from fun e => c2 (eqn_at e.2 i (by omega)))] at ih
        exact ih
    · rw [if_neg (show ¬ (bN (cB C j) = bN (cB C k) ∧ eqn (bG (cB C j)) (bG (cB C k)) (i + 1) = true) from fun e => c ⟨e.1, eqn_up (i + 1) i (by omega) e.2⟩)] at ih
      simp only [if_neg c, l1, oI_add, Option.bind_some, reduceIte, if_true, if_false] at ih ⊢
      exact ih
theorem x7_alike {S : St} {M : Nat} {A : Nat → Nat → Int32} {F : Nat → Int32} {H : Int64} {O : Nat → Int64} {C : Cn} (h : ShZ (A 0) C) (ok : okC C) {j k : Nat} (hj : j < cN C) (hk : k < cN C) : f_X7_areAlike (MS S M A F H O) M (oI j) (oI k) = some (if lk (cB C j) (bN (cB C k)) (bG (cB C k)) = true then 1 else 0) := by
  have h24 := (ok.2.2.2.2 j hj).2.1
  have k24 := (ok.2.2.2.2 k hk).2.1
  have h8 := ok.1
  have hl := x7_alike_L (S := S) (M := M) (F := F) (H := H) (O := O) h ok hj hk (bN (cB C j)) FU 0 (by omega) (FU_lt (by omega))
  have hev : (oI (bN (cB C j)) = oI (bN (cB C k))) = (bN (cB C j) = bN (cB C k)) := oI_eq (by omega) (by omega)
  have e0 : (if bN (cB C j) = bN (cB C k) then some 1 else some 0 : Option Int32) = some (if bN (cB C j) = bN (cB C k) ∧ eqn (bG (cB C j)) (bG (cB C k)) 0 = true then 1 else 0) := by
    by_cases c : bN (cB C j) = bN (cB C k)
    · rw [if_pos c, if_pos ⟨c, rfl⟩]
    · rw [if_neg c, if_neg (fun e => c e.1)]
  have e1 : (bN (cB C j) = bN (cB C k) ∧ eqn (bG (cB C j)) (bG (cB C k)) (bN (cB C j)) = true) = (lk (cB C j) (bN (cB C k)) (bG (cB C k)) = true) := by
    unfold lk
    rw [Bool.and_eq_true, decide_eq_true_eq]
    apply propext
    constructor
    · intro e; exact ⟨e.1, by rw [← e.1]; exact e.2⟩
    · intro e; exact ⟨e.1, by rw [e.1]; exact e.2⟩
  rw [show (oI 0 : Int32) = 0 from rfl] at hl
  simp only [e1] at hl
  simp only [f_X7_areAlike, m_o, z_n h h8 hj, z_n h h8 hk, hev, e0, Option.bind_some, hl]
  by_cases c : lk (cB C j) (bN (cB C k)) (bG (cB C k)) = true
  · simp only [if_pos c, zz1, Option.bind_some, reduceIte, if_true, if_false]
  · simp only [if_neg c, zz0, Option.bind_some, reduceIte, if_true, if_false]
theorem x7_fal_L {S : St} {M : Nat} {A : Nat → Nat → Int32} {F : Nat → Int32} {H : Int64} {O : Nat → Int64} {C : Cn} (h : ShZ (A 0) C) (ok : okC C) {j : Nat} (hj : j < cN C) : ∀ (d fu i : Nat), i + d = fal (cB C) (cN C) (bN (cB C j)) (bG (cB C j)) → d < fu →
    f_X7_firstAlike_L2 (MS S M A F H O) M (oI j) fu (oI i) = some (oI (fal (cB C) (cN C) (bN (cB C j)) (bG (cB C j))))
  | d, 0, i, e, hf => by omega
  | d, fu + 1, i, e, hf => by
    have h8 := ok.1
    have hle := fal_le (cB C) hj
    have hi : i < cN C := by omega
    rw [f_X7_firstAlike_L2]
    simp only [m_o, x7_alike h ok hi hj, Option.bind_some]
    by_cases c : lk (cB C i) (bN (cB C j)) (bG (cB C j)) = true
    · have : fal (cB C) (cN C) (bN (cB C j)) (bG (cB C j)) ≤ i := fst_lt hi (if_pos c)
      rw [if_pos c, show i = fal (cB C) (cN C) (bN (cB C j)) (bG (cB C j)) by omega]
      simp only [show ¬ (1 : Int32) = 0 by decide, Option.bind_some, reduceIte, if_true, if_false]
    · rw [if_neg c]
      have hne : i ≠ fal (cB C) (cN C) (bN (cB C j)) (bG (cB C j)) := by
        intro e2
        have hy : lkN (cB C) (bN (cB C j)) (bG (cB C j)) (fal (cB C) (cN C) (bN (cB C j)) (bG (cB C j))) = 1 := fst_yes (cN C) (by show fal (cB C) (cN C) (bN (cB C j)) (bG (cB C j)) < cN C; omega)
        rw [← e2] at hy
        unfold lkN at hy
        rw [if_neg c] at hy
        omega
      obtain ⟨d', rfl⟩ : ∃ d', d = d' + 1 := ⟨d - 1, by omega⟩
      have ih := x7_fal_L (S := S) (M := M) (F := F) (H := H) (O := O) h ok hj d' fu (i + 1) (by omega) (by omega)
      simp only [Option.bind_some, reduceIte, if_true, if_false, l1, oI_add]
      exact ih
theorem x7_fal {S : St} {M : Nat} {A : Nat → Nat → Int32} {F : Nat → Int32} {H : Int64} {O : Nat → Int64} {C : Cn} (h : ShZ (A 0) C) (ok : okC C) {j : Nat} (hj : j < cN C) : f_X7_firstAlike (MS S M A F H O) M (oI j) = some (oI (fal (cB C) (cN C) (bN (cB C j)) (bG (cB C j)))) := by
  have h8 := ok.1
  have hle := fal_le (cB C) hj
  have := x7_fal_L (S := S) (M := M) (F := F) (H := H) (O := O) h ok hj _ FU 0 (Nat.zero_add _) (FU_lt (by omega))
  rw [show (oI 0 : Int32) = 0 from rfl] at this
  simp only [f_X7_firstAlike, this, Option.bind_some, reduceIte, if_true, if_false]
