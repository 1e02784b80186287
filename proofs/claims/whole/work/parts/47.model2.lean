/-! THE MODEL'S OPERATIONS -/
def FrM (A A' : Nat → Nat → Int32) (F F' : Nat → Int32) : Prop := A' 2 = A 2 ∧ F' 3 = F 3
theorem FrM_refl (A : Nat → Nat → Int32) (F : Nat → Int32) : FrM A A F F := ⟨rfl, rfl⟩
theorem FrM_trans {A A1 A2 : Nat → Nat → Int32} {F F1 F2 : Nat → Int32} (h : FrM A A1 F F1) (k : FrM A1 A2 F1 F2) : FrM A A2 F F2 := ⟨k.1.trans h.1, k.2.trans h.2⟩
theorem ModW_fr {A A' : Nat → Nat → Int32} {F F' : Nat → Int32} {C : Cn} {nh : Nat} {Hs : Nat → Cn} (h : ModW A F C nh Hs) (e0 : A' 0 = A 0) (e1 : A' 1 = A 1) (e2 : F' 1 = F 1) : ModW A' F' C nh Hs := by
  unfold ModW
  rw [e0, e1, e2]
  exact h
theorem ModW_z {A A' : Nat → Nat → Int32} {F F' : Nat → Int32} {C C' : Cn} {nh : Nat} {Hs : Nat → Cn} (h : ModW A F C nh Hs) (e0 : ShZ (A' 0) C') (e1 : A' 1 = A 1) (e2 : F' 1 = F 1) : ModW A' F' C' nh Hs := by
  refine ⟨e0, by rw [e2]; exact h.2.1, ?_⟩
  rw [e1]
  exact h.2.2
theorem ShZ_blk {Z Z' : Nat → Int32} {C : Cn} {j : Nat} {b : Bk} (h : ShZ Z C) (ok : okC C) (f : ∀ i, ¬ (4 + 32 * j ≤ i ∧ i < 4 + 32 * j + 32) → Z' i = Z i) (hb : ShB Z' j b) : ShZ Z' (updB C j b) := by
  refine ⟨by rw [f 0 (by omega)]; exact h.1, by rw [f 1 (by omega)]; exact h.2.1, by rw [f 2 (by omega)]; exact h.2.2.1, by rw [f 3 (by omega)]; exact h.2.2.2.1, fun i hi => ?_⟩
  show ShB Z' i (if i = j then b else cB C i)
  by_cases c : i = j
  · rw [if_pos c, c]; exact hb
  · rw [if_neg c]
    exact ShB_congr (h.2.2.2.2 i hi) (ok.2.2.2.2 i hi).2.1 (fun k hk => f _ (by omega))
theorem ShZ_open {Z Z' : Nat → Int32} {C : Cn} {n : Nat} {g : Nat → Nat} (h : ShZ Z C) (ok : okC C) (f : ∀ i, i ≠ 2 → ¬ (4 + 32 * cN C ≤ i ∧ i < 4 + 32 * cN C + 32) → Z' i = Z i) (e2 : Z' 2 = oI (cN C + 1)) (hb : ShB Z' (cN C) (zB n g (cD C))) : ShZ Z' (openC C n g) := by
  refine ⟨by rw [f 0 (by omega) (by omega)]; exact h.1, by rw [f 1 (by omega) (by omega)]; exact h.2.1, e2, by rw [f 3 (by omega) (by omega)]; exact h.2.2.2.1, fun i hi => ?_⟩
  show ShB Z' i (if i = cN C then zB n g (cD C) else cB C i)
  have hi' : i < cN C + 1 := hi
  by_cases c : i = cN C
  · rw [if_pos c, c]; exact hb
  · rw [if_neg c]
    exact ShB_congr (h.2.2.2.2 i (by omega)) (ok.2.2.2.2 i (by omega)).2.1 (fun k hk => f _ (by omega) (by omega))
theorem ShB_k {A : Nat → Nat → Int32} {j k : Nat} {b : Bk} (h : ShB (A 0) j b) (hk : 3 ≤ k) (hk8 : k < 8) (v : Int32) : ShB (up2 A 0 (4 + 32 * j + k) v 0) j (setK b k v) := by
  refine ⟨by rw [up2_ne _ _ (by omega)]; exact h.1, by rw [up2_ne _ _ (by omega)]; exact h.2.1, by rw [up2_ne _ _ (by omega)]; exact h.2.2.1, fun i a c => ?_, fun i hi => by rw [up2_ne _ _ (by omega)]; exact h.2.2.2.2 i hi⟩
  show _ = if i = k then v else bK b i
  by_cases e : i = k
  · subst e; rw [up2_eq, if_pos rfl]
  · rw [up2_ne _ _ (by omega), if_neg e]; exact h.2.2.2.1 i a c
theorem int_pred {n : Nat} (h : n < 2147483647) : (oI n - 1).toInt = (n : Int) - 1 := by
  by_cases c : 1 ≤ n
  · rw [l1, oI_sub c, oI_toInt (by omega)]; omega
  · have : n = 0 := by omega
    subst this
    decide
theorem wi_in {k lo hi : Nat} (h1 : lo ≤ k) (h2 : k ≤ hi) (hh : hi < 2147483648) : f_X7_within (oI k) (oI lo) (oI hi) = some 1 := by
  rw [x7_within, if_neg]
  rw [oI_lt (by omega) (by omega), oI_lt (by omega) (by omega)]
  omega
theorem wi_out {a : Int32} {lo hi : Nat} (h : a < oI lo ∨ oI hi < a) : f_X7_within a (oI lo) (oI hi) = some 0 := by
  rw [x7_within, if_pos h]
theorem x7_isBlock_in {S : St} {M : Nat} {A : Nat → Nat → Int32} {F : Nat → Int32} {H : Int64} {O : Nat → Int64} {C : Cn} (h : ShZ (A 0) C) (h8 : cN C ≤ 8) {j : Nat} (hj : j < cN C) : f_X7_isBlock (MS S M A F H O) M (oI j) = some 1 := by
  have e : oI (cN C) - 1 = oI (cN C - 1) := by rw [l1]; exact oI_sub (by omega)
  have := wi_in (k := j) (lo := 0) (hi := cN C - 1) (by omega) (by omega) (by omega)
  rw [show (oI 0 : Int32) = 0 from rfl] at this
  simp only [f_X7_isBlock, m_r0, l2, m_a0 (show 2 < 260 by omega), h.2.2.1, e, this, zz1, Option.bind_some, reduceIte, if_true, if_false]
theorem x7_isBlock_out {S : St} {M : Nat} {A : Nat → Nat → Int32} {F : Nat → Int32} {H : Int64} {O : Nat → Int64} {C : Cn} (h : ShZ (A 0) C) (h8 : cN C ≤ 8) {a : Int32} (ha : a < 0 ∨ oI (cN C) ≤ a) : f_X7_isBlock (MS S M A F H O) M a = some 0 := by
  have e : f_X7_within a 0 (oI (cN C) - 1) = some 0 := by
    rw [x7_within, if_pos]
    rcases ha with ha | ha
    · exact .inl ha
    · right
      rw [Int32.lt_iff_toInt_lt, int_pred (by omega)]
      rw [Int32.le_iff_toInt_le, oI_toInt (by omega)] at ha
      omega
  simp only [f_X7_isBlock, m_r0, l2, m_a0 (show 2 < 260 by omega), h.2.2.1, e, zz0, Option.bind_some, reduceIte, if_true, if_false]
theorem x7_isPlace_in {S : St} {M : Nat} {A : Nat → Nat → Int32} {F : Nat → Int32} {H : Int64} {O : Nat → Int64} {C : Cn} (h : ShZ (A 0) C) (ok : okC C) {j p : Nat} (hj : j < cN C) (hp : p < bN (cB C j)) : f_X7_isPlace (MS S M A F H O) M (oI j) (oI p) = some 1 := by
  have h8 := ok.1
  have hok := ok.2.2.2.2 j hj
  have h24 := hok.2.1
  have hn := (h.2.2.2.2 j hj).1
  have e : oI (bN (cB C j)) - 1 = oI (bN (cB C j) - 1) := by rw [l1]; exact oI_sub (by omega)
  have := wi_in (k := p) (lo := 0) (hi := bN (cB C j) - 1) (by omega) (by omega) (by omega)
  have e0 := x7_of (S := S) (M := M) (A := A) (F := F) (H := H) (O := O) (show 4 + 32 * j + 0 < 260 by omega)
  rw [hn] at e0
  rw [show (oI 0 : Int32) = 0 from rfl] at this e0
  simp only [f_X7_isPlace, m_o, x7_isBlock_in h h8 hj, show ¬ (1 : Int32) = 0 by decide, e0, e, this, zz1, Option.bind_some, reduceIte, if_true, if_false]
theorem x7_isPlace_out {S : St} {M : Nat} {A : Nat → Nat → Int32} {F : Nat → Int32} {H : Int64} {O : Nat → Int64} {C : Cn} (h : ShZ (A 0) C) (ok : okC C) {a p : Int32} (ha : (a < 0 ∨ oI (cN C) ≤ a) ∨ ∃ j, j < cN C ∧ a = oI j ∧ (p < 0 ∨ oI (bN (cB C j)) ≤ p)) : f_X7_isPlace (MS S M A F H O) M a p = some 0 := by
  have h8 := ok.1
  rcases ha with ha | ⟨j, hj, rfl, hp⟩
  · simp only [f_X7_isPlace, m_o, x7_isBlock_out h h8 ha, zz0, Option.bind_some, reduceIte, if_true, if_false]
  · have hok := ok.2.2.2.2 j hj
    have h24 := hok.2.1
    have hn := (h.2.2.2.2 j hj).1
    have e0 := x7_of (S := S) (M := M) (A := A) (F := F) (H := H) (O := O) (show 4 + 32 * j + 0 < 260 by omega)
    rw [hn] at e0
    rw [show (oI 0 : Int32) = 0 from rfl] at e0
    have e : f_X7_within p 0 (oI (bN (cB C j)) - 1) = some 0 := by
      rw [x7_within, if_pos]
      rcases hp with hp | hp
      · exact .inl hp
      · right
        rw [Int32.lt_iff_toInt_lt, int_pred (by omega)]
        rw [Int32.le_iff_toInt_le, oI_toInt (by omega)] at hp
        omega
    simp only [f_X7_isPlace, m_o, x7_isBlock_in h h8 hj, show ¬ (1 : Int32) = 0 by decide, e0, e, zz0, Option.bind_some, reduceIte, if_true, if_false]
theorem ShB_mk {Z : Nat → Int32} {j n c v : Nat} {g : Nat → Nat} {K : Nat → Int32} (h0 : Z (4 + 32 * j + 0) = oI n) (h1 : Z (4 + 32 * j + 1) = oI c) (h2 : Z (4 + 32 * j + 2) = oI v) (h3 : ∀ k, 3 ≤ k → k < 8 → Z (4 + 32 * j + k) = K k) (h4 : ∀ i, i < n → Z (4 + 32 * j + (8 + i)) = oI (g i)) : ShB Z j (n, c, v, g, K) := And.intro h0 (And.intro h1 (And.intro h2 (And.intro h3 h4)))
theorem vowB_eq (b : Bk) (day : Nat) : vowB b day = (bN b, bs (bG b) (bN b), day, bG b, fun k => if k = 7 then bK b 7 + 1 else bK b k) := by
  unfold vowB setK
  dsimp only [bN, bC, bV, bG, bK]
theorem x7_choose {S : St} {M : Nat} {A : Nat → Nat → Int32} {F : Nat → Int32} {H : Int64} {O : Nat → Int64} {j day : Nat} {b : Bk} (hj : j < 8) (h : ShB (A 0) j b) (ok : okB b) (hd : A 0 3 = oI day) :
    ∃ A', f_X7_choose (MS S M A F H O) M (oI j) = some (MS S M A' (upF F 7 (oI (bN b))) H O) ∧ (∀ a, a ≠ 0 → a ≠ 3 → A' a = A a) ∧ ShB (A' 0) j (vowB b day) ∧ (∀ i, ¬ (4 + 32 * j ≤ i ∧ i < 4 + 32 * j + 32) → A' 0 i = A 0 i) := by
  obtain ⟨A1, e1, e2, e3⟩ := x7_lay (S := S) (M := M) (F := F) (H := H) (O := O) hj h ok
  have eZ : A1 0 = A 0 := e2 0 (by decide)
  have hL : LdA (MS S M A1 (upF F 7 (oI (bN b))) H O) M (bN b) (bG b) := LdA_of (upF_eq F 7 _) e3 ok.2.1 ok.2.2.2.2
  have hbest := x7_best hL ok.1
  have h7 : A1 0 (4 + 32 * j + 7) = bK b 7 := by rw [eZ]; exact h.2.2.2.1 7 (by omega) (by omega)
  have h3 : A1 0 3 = oI day := by rw [eZ]; exact hd
  refine ⟨up2 (up2 (up2 A1 0 (4 + 32 * j + 1) (oI (bs (bG b) (bN b)))) 0 (4 + 32 * j + 2) (oI day)) 0 (4 + 32 * j + 7) (bK b 7 + 1), ?_, fun a ha hb => ?_, ?_, fun i hi => ?_⟩
  · have g3 : up2 A1 0 (4 + 32 * j + 1) (oI (bs (bG b) (bN b))) 0 3 = oI day := by rw [up2_ne _ _ (by omega)]; exact h3
    have g7 : up2 (up2 A1 0 (4 + 32 * j + 1) (oI (bs (bG b) (bN b)))) 0 (4 + 32 * j + 2) (oI day) 0 (4 + 32 * j + 7) = bK b 7 := by rw [up2_ne _ _ (by omega), up2_ne _ _ (by omega)]; exact h7
    have s1 := fun v => x7_setOf (S := S) (M := M) (A := A1) (F := upF F 7 (oI (bN b))) (H := H) (O := O) (show 4 + 32 * j + 1 < 260 by omega) v
    have s2 := fun v => x7_setOf (S := S) (M := M) (A := up2 A1 0 (4 + 32 * j + 1) (oI (bs (bG b) (bN b)))) (F := upF F 7 (oI (bN b))) (H := H) (O := O) (show 4 + 32 * j + 2 < 260 by omega) v
    have s7 := fun v => x7_setOf (S := S) (M := M) (A := up2 (up2 A1 0 (4 + 32 * j + 1) (oI (bs (bG b) (bN b)))) 0 (4 + 32 * j + 2) (oI day)) (F := upF F 7 (oI (bN b))) (H := H) (O := O) (show 4 + 32 * j + 7 < 260 by omega) v
    have r7 := x7_of (S := S) (M := M) (A := up2 (up2 A1 0 (4 + 32 * j + 1) (oI (bs (bG b) (bN b)))) 0 (4 + 32 * j + 2) (oI day)) (F := upF F 7 (oI (bN b))) (H := H) (O := O) (show 4 + 32 * j + 7 < 260 by omega)
    rw [g7] at r7
    rw [show (oI 1 : Int32) = 1 from rfl] at s1
    rw [show (oI 2 : Int32) = 2 from rfl] at s2
    rw [show (oI 7 : Int32) = 7 from rfl] at s7 r7
    have a3 := m_a0 (S := S) (M := M) (A := up2 A1 0 (4 + 32 * j + 1) (oI (bs (bG b) (bN b)))) (F := upF F 7 (oI (bN b))) (H := H) (O := O) (show 3 < 260 by omega)
    rw [g3, show (oI 3 : Int32) = 3 from rfl] at a3
    simp only [f_X7_choose, m_o, e1, hbest, s1, m_r0, a3, s2, r7, s7, Option.bind_some, reduceIte, if_true, if_false]
  · rw [up2_row _ _ ha, up2_row _ _ ha, up2_row _ _ ha]; exact e2 a hb
  · rw [vowB_eq]
    refine ShB_mk ?_ ?_ ?_ (fun k a c => ?_) (fun i hi => ?_)
    · rw [up2_ne _ _ (by omega), up2_ne _ _ (by omega), up2_ne _ _ (by omega), eZ]; exact h.1
    · rw [up2_ne _ _ (by omega), up2_ne _ _ (by omega), up2_eq]
    · rw [up2_ne _ _ (by omega), up2_eq]
    · by_cases c7 : k = 7
      · subst c7; rw [up2_eq, if_pos rfl]
      · rw [up2_ne _ _ (by omega), up2_ne _ _ (by omega), up2_ne _ _ (by omega), if_neg c7, eZ]; exact h.2.2.2.1 k a c
    · rw [up2_ne _ _ (by omega), up2_ne _ _ (by omega), up2_ne _ _ (by omega), eZ]; exact h.2.2.2.2 i hi
  · rw [up2_ne _ _ (by omega), up2_ne _ _ (by omega), up2_ne _ _ (by omega), eZ]
theorem x7_begin_L {S : St} {M : Nat} {A0 : Nat → Nat → Int32} {F : Nat → Int32} {H : Int64} {O : Nat → Int64} {j : Nat} {y : Int32} (hj : j < 8) : ∀ (d fu i : Nat) (A : Nat → Nat → Int32), i + d = 32 → d < fu → (∀ a, a ≠ 0 → A a = A0 a) → (∀ k, A 0 k = if 4 + 32 * j ≤ k ∧ k < 4 + 32 * j + i then 0 else A0 0 k) →
    ∃ A', f_X7_begin_L19 M y (oI j) fu (MS S M A F H O) (oI i) = some (MS S M A' F H O) ∧ (∀ a, a ≠ 0 → A' a = A0 a) ∧ (∀ k, A' 0 k = if 4 + 32 * j ≤ k ∧ k < 4 + 32 * j + 32 then 0 else A0 0 k)
  | d, 0, i, A, e, hf, h1, h2 => by omega
  | 0, fu + 1, i, A, e, hf, h1, h2 => by
    have : i = 32 := by omega
    subst this
    refine ⟨A, ?_, h1, h2⟩
    rw [f_X7_begin_L19]
    simp (disch := omega) only [l32, oI_le, Nat.le_refl, Option.bind_some, reduceIte, if_true, if_false]
  | d + 1, fu + 1, i, A, e, hf, h1, h2 => by
    obtain ⟨A', f1, f2, f3⟩ := x7_begin_L (S := S) (M := M) (F := F) (H := H) (O := O) (A0 := A0) (y := y) hj d fu (i + 1) (up2 A 0 (4 + 32 * j + i) 0) (by omega) (by omega) (fun a ha => by rw [up2_row _ _ ha]; exact h1 a ha) (fun k => by
      by_cases c : k = 4 + 32 * j + i
      · subst c; rw [up2_eq, if_pos (by omega)]
      · rw [up2_ne _ _ (by omega), h2 k]
        by_cases c2 : 4 + 32 * j ≤ k ∧ k < 4 + 32 * j + i
        · rw [if_pos c2, if_pos (by omega)]
        · rw [if_neg c2, if_neg (by omega)])
    refine ⟨A', ?_, f2, f3⟩
    rw [f_X7_begin_L19]
    simp (disch := omega) only [l32, oI_le, show ¬ 32 ≤ i by omega, m_o, x7_setOf (show 4 + 32 * j + i < 260 by omega), l1, oI_add, Option.bind_some, reduceIte, if_true, if_false]
    exact f1
theorem x7_begin {S : St} {M : Nat} {A : Nat → Nat → Int32} {F : Nat → Int32} {H : Int64} {O : Nat → Int64} {nb : Nat} (hn : nb < 8) (h2 : A 0 2 = oI nb) (v : Int32) :
    ∃ A', f_X7_begin (MS S M A F H O) M v = some (oI nb, MS S M A' F H O) ∧ (∀ a, a ≠ 0 → A' a = A a) ∧ A' 0 2 = oI (nb + 1) ∧ A' 0 (4 + 32 * nb + 0) = v ∧ (∀ k, 0 < k → k < 32 → A' 0 (4 + 32 * nb + k) = 0) ∧ (∀ i, i ≠ 2 → ¬ (4 + 32 * nb ≤ i ∧ i < 4 + 32 * nb + 32) → A' 0 i = A 0 i) := by
  obtain ⟨A1, e1, e2, e3⟩ := x7_begin_L (S := S) (M := M) (F := F) (H := H) (O := O) (A0 := up2 A 0 2 (oI (nb + 1))) (y := v) hn 32 FU 0 _ (by omega) (FU_lt (by omega)) (fun _ _ => rfl) (fun k => by rw [if_neg (by omega)])
  refine ⟨up2 A1 0 (4 + 32 * nb + 0) v, ?_, fun a ha => by rw [up2_row _ _ ha, e2 a ha, up2_row _ _ ha], ?_, up2_eq _ _ _ _, fun k a c => ?_, fun i a c => ?_⟩
  · have s0 := x7_setOf (S := S) (M := M) (A := A1) (F := F) (H := H) (O := O) (show 4 + 32 * nb + 0 < 260 by omega) v
    simp only [f_X7_begin, m_r0, l2, m_a0 (show 2 < 260 by omega), h2, l1, oI_add, m_s0 (show 2 < 260 by omega), l0, e1, m_o, s0, Option.bind_some, reduceIte, if_true, if_false]
  · rw [up2_ne _ _ (by omega), e3, if_neg (by omega), up2_eq]
  · rw [up2_ne _ _ (by omega), e3, if_pos (by omega)]
  · rw [up2_ne _ _ (by omega), e3, if_neg c, up2_ne _ _ (by omega)]
/-- after the values are laid: choose, and the new block stands -/
theorem x7_close {S : St} {M : Nat} {A A' : Nat → Nat → Int32} {F : Nat → Int32} {H : Int64} {O : Nat → Int64} {C : Cn} {nh n : Nat} {g : Nat → Nat} {Hs : Nat → Cn} (h : ModW A F C nh Hs) (ok : okS C nh Hs) (hn : cN C < 8) (h1 : 1 ≤ n) (h24 : n ≤ 24) (hg : ∀ i, g i ≤ 255)
    (k1 : A' 1 = A 1) (k2 : A' 2 = A 2) (e2 : A' 0 2 = oI (cN C + 1)) (e0 : A' 0 (4 + 32 * cN C + 0) = oI n) (ez : ∀ k, 0 < k → k < 8 → A' 0 (4 + 32 * cN C + k) = 0) (ev : ∀ i, i < n → A' 0 (4 + 32 * cN C + (8 + i)) = oI (g i)) (f : ∀ i, i ≠ 2 → ¬ (4 + 32 * cN C ≤ i ∧ i < 4 + 32 * cN C + 32) → A' 0 i = A 0 i) :
    ∃ B, f_X7_choose (MS S M A' F H O) M (oI (cN C)) = some (MS S M B (upF F 7 (oI n)) H O) ∧ ModW B (upF F 7 (oI n)) (openC C n g) nh Hs ∧ okS (openC C n g) nh Hs ∧ B 2 = A 2 := by
  have hb : ShB (A' 0) (cN C) (n, 0, 0, g, fun _ => 0) := ⟨e0, by rw [ez 1 (by omega) (by omega)]; rfl, by rw [ez 2 (by omega) (by omega)]; rfl, fun k a c => ez k (by omega) c, ev⟩
  have okb : okB (n, 0, 0, g, fun _ => 0) := okB_mk h1 h24 (by omega) (by omega) hg
  obtain ⟨B, c1, c2, c3, c4⟩ := x7_choose (S := S) (M := M) (F := F) (H := H) (O := O) (day := cD C) hn hb okb (by rw [f 3 (by omega) (by omega)]; exact h.1.2.2.2.1)
  refine ⟨B, c1, ModW_z h (ShZ_open h.1 ok.1 (fun i a c => by rw [c4 i c]; exact f i a c) (by rw [c4 2 (by omega)]; exact e2) c3) (by rw [c2 1 (by decide) (by decide)]; exact k1) (upF_ne F _ (by decide)), ⟨okC_open ok.1 hn h1 h24 hg, ok.2⟩, by rw [c2 2 (by decide) (by decide)]; exact k2⟩
