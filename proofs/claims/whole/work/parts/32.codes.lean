/-! CODES: bits, best code, effort and answer over a row -/
theorem sh_pow : ∀ k, k < 10 → (1 : Int32) <<< (oI k &&& 31) = oI (2 ^ k) := by decide
theorem sh_pow' (k : Nat) (h : k < 10) : oI 1 <<< (oI k &&& 31) = oI (2 ^ k) := sh_pow k h
theorem ne_n1 {a : Nat} (h : a < 2147483648) : (oI a = -oI 1) = False := ne_m1 h
theorem pow_le : ∀ k, k < 10 → 2 ^ k ≤ 512 := by decide
theorem wid_of_le {m k : Nat} (hk : k < 10) (h : m ≤ 2 ^ k) : wid m ≤ k := by
  match k, hk, h with
  | 0, _, h => have h' : m ≤ 1 := h
               unfold wid; rw [if_pos h']; omega
  | 1, _, h => have h' : m ≤ 2 := h
               unfold wid; repeat' split
               all_goals omega
  | 2, _, h => have h' : m ≤ 4 := h
               unfold wid; repeat' split
               all_goals omega
  | 3, _, h => have h' : m ≤ 8 := h
               unfold wid; repeat' split
               all_goals omega
  | 4, _, h => have h' : m ≤ 16 := h
               unfold wid; repeat' split
               all_goals omega
  | 5, _, h => have h' : m ≤ 32 := h
               unfold wid; repeat' split
               all_goals omega
  | 6, _, h => have h' : m ≤ 64 := h
               unfold wid; repeat' split
               all_goals omega
  | 7, _, h => have h' : m ≤ 128 := h
               unfold wid; repeat' split
               all_goals omega
  | 8, _, h => have h' : m ≤ 256 := h
               unfold wid; repeat' split
               all_goals omega
  | 9, _, h => exact wid_le m
  | n + 10, hk, _ => omega
theorem lt_wid {m k : Nat} (hk : k < 9) (h : 2 ^ k < m) : k < wid m := by
  match k, hk, h with
  | 0, _, h => have h' : 1 < m := h
               unfold wid; repeat' split
               all_goals omega
  | 1, _, h => have h' : 2 < m := h
               unfold wid; repeat' split
               all_goals omega
  | 2, _, h => have h' : 4 < m := h
               unfold wid; repeat' split
               all_goals omega
  | 3, _, h => have h' : 8 < m := h
               unfold wid; repeat' split
               all_goals omega
  | 4, _, h => have h' : 16 < m := h
               unfold wid; repeat' split
               all_goals omega
  | 5, _, h => have h' : 32 < m := h
               unfold wid; repeat' split
               all_goals omega
  | 6, _, h => have h' : 64 < m := h
               unfold wid; repeat' split
               all_goals omega
  | 7, _, h => have h' : 128 < m := h
               unfold wid; repeat' split
               all_goals omega
  | 8, _, h => have h' : 256 < m := h
               unfold wid; repeat' split
               all_goals omega
  | n + 9, hk, _ => omega
theorem x1_width_L {m : Nat} (hm : m ≤ 512) : ∀ (d fu k : Nat), k + d = 9 → d < fu → k ≤ wid m → f_X1_widthFor_L2 (oI m) fu (oI k) = some (oI (wid m))
  | d, 0, k, e, hf, _ => by omega
  | 0, fu + 1, k, e, hf, hk => by
    have : k = 9 := by omega
    subst this
    have h9 : wid m = 9 := by have := wid_le m; omega
    rw [f_X1_widthFor_L2, h9]
    simp (disch := omega) only [oI_le, oI_lt, oI_eq, oI_add, oI_mul, oI_sub, l0, l1, l2, l3, l4, l5, l6, l7, l8, l9, l10, l11, l12, l13, l15, l24, l255, Nat.le_refl, Option.bind_some, reduceIte, if_true, if_false]
  | d + 1, fu + 1, k, e, hf, hk => by
    have hp := pow_le k (by omega)
    rw [f_X1_widthFor_L2, sh_pow k (by omega)]
    simp (disch := omega) only [oI_le, oI_lt, oI_eq, oI_add, oI_mul, oI_sub, l0, l1, l2, l3, l4, l5, l6, l7, l8, l9, l10, l11, l12, l13, l15, l24, l255, show ¬ 9 ≤ k by omega, Option.bind_some, reduceIte, if_true, if_false]
    by_cases c : m ≤ 2 ^ k
    · have := wid_of_le (by omega) c
      have e2 : k = wid m := by omega
      subst e2
      simp only [c, Option.bind_some, reduceIte, if_true, if_false]
    · simp only [c, Option.bind_some, reduceIte, if_true, if_false]
      exact x1_width_L hm d fu (k + 1) (by omega) (by omega) (lt_wid (by omega) (by omega))
theorem x1_width {m : Nat} (hm : m ≤ 512) : f_X1_widthFor (oI m) = some (oI (wid m)) := by
  have := x1_width_L hm 9 FU 0 (by omega) (FU_lt (by omega)) (by omega)
  simp only [f_X1_widthFor, l0, this, Option.bind_some, reduceIte, if_true, if_false]
theorem mx_255 {g : Nat → Nat} (hg : ∀ i, g i ≤ 255) (n : Nat) : mx g n ≤ 255 := mx_le n (fun i _ => hg i)
theorem x1_bits {S : St} {r n : Nat} {g : Nat → Nat} (h : RwA S r n g) (h1 : 1 ≤ n) {c : Nat} (hc : c ≤ 5) : f_X1_bits S r (oI c) = some (oI (bt g n c)) := by
  have hn := h.2.2.2.2.1
  have hx := mx_255 h.2.2.2.2.2.1 n
  have hh := hf_le h.2.2.2.2.2.1 n
  have hd := df_le g n
  have hm := mst_le g n
  have w1 := wid_le (df g n)
  have w2 : (if hf g n = 0 then 1 else 2 * hf g n) ≤ 512 := by split <;> omega
  have e3 : wid (if hf g n = 0 then 1 else 2 * hf g n) = wh (hf g n) := by unfold wh; split <;> rfl
  rw [f_X1_bits]
  simp (disch := omega) only [h.1, h.2.1, h.2.2.1, x4_size h, x4_runs h (Nat.le_refl n), x4_diff h, x4_steps h h1, x4_most h, x4_span h h1, x1_width, oI_le, oI_lt, oI_eq, oI_add, oI_mul, oI_sub, l0, l1, l2, l3, l4, l5, l6, l7, l8, l9, l10, l11, l12, l13, l15, l24, l255, Option.bind_some, reduceIte, if_true, if_false, e3]
  unfold bt
  by_cases c0 : c = 0
  · simp only [c0, Option.bind_some, reduceIte, if_true, if_false]
  by_cases c1 : c = 1
  · simp only [c1, show ¬ (1 : Nat) = 0 by decide, Option.bind_some, reduceIte, if_true, if_false]
  by_cases c2 : c = 2
  · simp only [c2, show ¬ (2 : Nat) = 0 by decide, show ¬ (2 : Nat) = 1 by decide, Option.bind_some, reduceIte, if_true, if_false]
  by_cases c3 : c = 3
  · simp only [c3, show ¬ (3 : Nat) = 0 by decide, show ¬ (3 : Nat) = 1 by decide, show ¬ (3 : Nat) = 2 by decide, Option.bind_some, reduceIte, if_true, if_false]
  by_cases c4 : c = 4
  · simp only [c4, show ¬ (4 : Nat) = 0 by decide, show ¬ (4 : Nat) = 1 by decide, show ¬ (4 : Nat) = 2 by decide, show ¬ (4 : Nat) = 3 by decide, Option.bind_some, reduceIte, if_true, if_false]
  simp only [c0, c1, c2, c3, c4, Option.bind_some, reduceIte, if_true, if_false]
theorem x1_best_L {S : St} {r n : Nat} {g : Nat → Nat} (h : RwA S r n g) (h1 : 1 ≤ n) : ∀ (d fu k : Nat), k + d = 5 → d + 1 < fu → f_X1_best_L10 S r fu (oI (bsF g n k)) (oI (bt g n (bsF g n k))) (oI (k + 1)) = some (oI (bs g n))
  | d, 0, k, e, hf => by omega
  | 0, fu + 1, k, e, hf => by
    have : k = 5 := by omega
    subst this
    rw [f_X1_best_L10]
    simp (disch := omega) only [oI_le, oI_lt, oI_eq, oI_add, oI_mul, oI_sub, l0, l1, l2, l3, l4, l5, l6, l7, l8, l9, l10, l11, l12, l13, l15, l24, l255, Nat.le_refl, bs, Option.bind_some, reduceIte, if_true, if_false, show 6 ≤ 5 + 1 by omega]
  | d + 1, fu + 1, k, e, hf => by
    have hn := h.2.2.2.2.1
    have b1 := bt_le g n (k + 1)
    have b2 := bt_le g n (bsF g n k)
    have ih := x1_best_L h h1 d fu (k + 1) (by omega) (by omega)
    rw [f_X1_best_L10]
    simp (disch := omega) only [oI_le, oI_lt, oI_eq, oI_add, oI_mul, oI_sub, l0, l1, l2, l3, l4, l5, l6, l7, l8, l9, l10, l11, l12, l13, l15, l24, l255, show ¬ 6 ≤ k + 1 by omega, x1_bits h h1 (show k + 1 ≤ 5 by omega), Option.bind_some, reduceIte, if_true, if_false]
    rw [bsF] at ih
    by_cases c : bt g n (k + 1) < bt g n (bsF g n k)
    · simp only [c, show ¬ bt g n (bsF g n k) ≤ bt g n (k + 1) by omega, Option.bind_some, reduceIte, if_true, if_false] at ih ⊢
      exact ih
    · simp only [c, show bt g n (bsF g n k) ≤ bt g n (k + 1) by omega, Option.bind_some, reduceIte, if_true, if_false] at ih ⊢
      exact ih
theorem x1_best {S : St} {r n : Nat} {g : Nat → Nat} (h : RwA S r n g) (h1 : 1 ≤ n) : f_X1_best S r = some (oI (bs g n)) := by
  have := x1_best_L h h1 5 FU 0 (by omega) (FU_lt (by omega))
  rw [f_X1_best, l0, x1_bits h h1 (by omega)]
  simp only [bsF] at this
  simp only [l1, Option.bind_some, reduceIte, if_true, if_false, Nat.zero_add] at this ⊢
  simp only [this, Option.bind_some, reduceIte, if_true, if_false]
/-- how far a search goes -/
def rc (g : Nat → Nat) (n w : Nat) : Nat := if fst g n w < n then fst g n w + 1 else n
theorem rc_le (g : Nat → Nat) (n w : Nat) : rc g n w ≤ n := by unfold rc; split <;> omega
def re (g : Nat → Nat) (n q w : Nat) : Nat := if q = 2 then rc g n w else n
theorem re_le (g : Nat → Nat) (n q w : Nat) : re g n q w ≤ n := by unfold re; split; exact rc_le g n w; exact Nat.le_refl n
def ef (g : Nat → Nat) (n c q w : Nat) : Nat :=
  if c = 0 then re g n q w else if c = 1 then rn g (re g n q w) else if c = 2 then df g n + (if q = 1 then n else if fst g n w < n then re g n q w else 0) else if c = 3 then re g n q w
  else if c = 4 then (if q = 2 then n else if q = 0 ∧ w = cmn g n n then 1 else 1 + (n - mst g n))
  else if q = 1 then n else if w < lst g n then 1 else if w < lst g n + 2 ^ wid (mx g n - lst g n + 1) then re g n q w else 1
def an (g : Nat → Nat) (n q w : Nat) : Int32 := if q = 0 then oI (cnt g n w) else if q = 1 then oI (sm g n) else if fst g n w < n then oI (fst g n w) else -1
theorem x1_reach {S : St} {r n : Nat} {g : Nat → Nat} (h : RwA S r n g) {w : Nat} (hw : w ≤ 255) : f_X1_reach S r (oI w) = some (oI (rc g n w)) := by
  have hn := h.2.2.2.2.1
  have hl := fst_le g n w
  rw [f_X1_reach]
  simp only [h.1, h.2.1, h.2.2.1, x4_first h hw, x4_size h, Option.bind_some, reduceIte, if_true, if_false]
  unfold rc
  by_cases c : fst g n w < n
  · simp only [c, Option.bind_some, reduceIte, if_true, if_false, ne_n1 (show fst g n w < 2147483648 by omega), l1, oI_add]
  · simp only [c, Option.bind_some, reduceIte, if_true, if_false]
theorem x1_row {S : St} {r n : Nat} {g : Nat → Nat} (h : RwA S r n g) {q w : Nat} (hq : q ≤ 2) (hw : w ≤ 255) : f_X1_rowEffort S r (oI q) (oI w) = some (oI (re g n q w)) := by
  rw [f_X1_rowEffort]
  simp (disch := omega) only [h.1, h.2.1, h.2.2.1, x1_reach h hw, x4_size h, oI_le, oI_lt, oI_eq, oI_add, oI_mul, oI_sub, l0, l1, l2, l3, l4, l5, l6, l7, l8, l9, l10, l11, l12, l13, l15, l24, l255, Option.bind_some, reduceIte, if_true, if_false]
  unfold re
  by_cases c : q = 2
  · simp only [c, Option.bind_some, reduceIte, if_true, if_false]
  · simp only [c, Option.bind_some, reduceIte, if_true, if_false]
theorem x1_table {S : St} {r n : Nat} {g : Nat → Nat} (h : RwA S r n g) {q w : Nat} (hq : q ≤ 2) (hw : w ≤ 255) : f_X1_tableEffort S r (oI q) (oI w) = some (oI (df g n + (if q = 1 then n else if fst g n w < n then re g n q w else 0))) := by
  have hn := h.2.2.2.2.1
  rw [f_X1_tableEffort]
  simp (disch := omega) only [h.1, h.2.1, h.2.2.1, x4_diff h, x4_first h hw, x1_row h hq hw, oI_eq, oI_add, l1, Option.bind_some, reduceIte, if_true, if_false]
  by_cases c1 : q = 1
  · subst c1
    by_cases c : fst g n w < n
    · simp only [c, Option.bind_some, reduceIte, if_true, if_false, ne_n1 (show fst g n w < 2147483648 by omega)]
      simp only [re, show ¬ (1 : Nat) = 2 by decide, Option.bind_some, reduceIte, if_true, if_false]
    · simp only [c, Option.bind_some, reduceIte, if_true, if_false]
      simp only [re, show ¬ (1 : Nat) = 2 by decide, Option.bind_some, reduceIte, if_true, if_false]
  · by_cases c : fst g n w < n
    · simp only [c, c1, Option.bind_some, reduceIte, if_true, if_false, ne_n1 (show fst g n w < 2147483648 by omega), show (oI 1 = 0) = False by decide]
    · simp only [c, c1, Option.bind_some, reduceIte, if_true, if_false, Nat.add_zero]
theorem x1_comE {S : St} {r n : Nat} {g : Nat → Nat} (h : RwA S r n g) {q w : Nat} (hq : q ≤ 2) (hw : w ≤ 255) : f_X1_commonEffort S r (oI q) (oI w) = some (oI (if q = 2 then n else if q = 0 ∧ w = cmn g n n then 1 else 1 + (n - mst g n))) := by
  have hn := h.2.2.2.2.1
  have hm := mst_le g n
  have hc := cmn_le g n n
  rw [f_X1_commonEffort]
  simp (disch := omega) only [h.1, h.2.1, h.2.2.1, x4_size h, x4_common h, x4_most h, oI_le, oI_lt, oI_eq, oI_add, oI_mul, oI_sub, l0, l1, l2, l3, l4, l5, l6, l7, l8, l9, l10, l11, l12, l13, l15, l24, l255, Option.bind_some, reduceIte, if_true, if_false]
  by_cases c2 : q = 2
  · simp only [c2, Option.bind_some, reduceIte, if_true, if_false]
  by_cases c0 : q = 0
  · by_cases c : w = cmn g n n
    · simp only [c0, c, Option.bind_some, reduceIte, if_true, if_false, true_and, show ¬ (0 : Nat) = 2 by decide, show (oI 1 = oI 0) = False by decide]
    · simp only [c0, c, Option.bind_some, reduceIte, if_true, if_false, and_false, show ¬ (0 : Nat) = 2 by decide]
      rw [show 1 + n - mst g n = 1 + (n - mst g n) by omega]
  · simp only [c0, c2, Option.bind_some, reduceIte, if_true, if_false, false_and]
    rw [show 1 + n - mst g n = 1 + (n - mst g n) by omega]
theorem x1_frame {S : St} {r n : Nat} {g : Nat → Nat} (h : RwA S r n g) (h1 : 1 ≤ n) {q w : Nat} (hq : q ≤ 2) (hw : w ≤ 255) : f_X1_frameEffort S r (oI q) (oI w) = some (oI (if q = 1 then n else if w < lst g n then 1 else if w < lst g n + 2 ^ wid (mx g n - lst g n + 1) then re g n q w else 1)) := by
  have hn := h.2.2.2.2.1
  have hx := mx_255 h.2.2.2.2.2.1 n
  have hl := lst_le g n
  have hw9 := wid_le (mx g n - lst g n + 1)
  have hp := pow_le (wid (mx g n - lst g n + 1)) (by omega)
  rw [f_X1_frameEffort]
  simp (disch := omega) only [h.1, h.2.1, h.2.2.1, x4_least h, x4_span h h1, x1_width, sh_pow', x1_row h hq hw, oI_eq, oI_lt, oI_add, l1, l0, Option.bind_some, reduceIte, if_true, if_false]
  by_cases c1 : q = 1
  · subst c1
    simp only [re, show ¬ (1 : Nat) = 2 by decide, Option.bind_some, reduceIte, if_true, if_false]
    by_cases c : w < lst g n
    · simp only [c, Option.bind_some, reduceIte, if_true, if_false]
    · by_cases c' : w < lst g n + 2 ^ wid (mx g n - lst g n + 1)
      · simp only [c, c', Option.bind_some, reduceIte, if_true, if_false]
      · simp only [c, c', Option.bind_some, reduceIte, if_true, if_false]
  · by_cases c : w < lst g n
    · simp only [c, c1, Option.bind_some, reduceIte, if_true, if_false, show (oI 1 = oI 0) = False by decide]
    · by_cases c' : w < lst g n + 2 ^ wid (mx g n - lst g n + 1)
      · simp only [c, c1, c', Option.bind_some, reduceIte, if_true, if_false]
      · simp only [c, c1, c', Option.bind_some, reduceIte, if_true, if_false, show (oI 1 = oI 0) = False by decide]
theorem x1_effort {S : St} {r n : Nat} {g : Nat → Nat} (h : RwA S r n g) (h1 : 1 ≤ n) {c q w : Nat} (hc : c ≤ 5) (hq : q ≤ 2) (hw : w ≤ 255) : f_X1_effort S r (oI c) (oI q) (oI w) = some (oI (ef g n c q w)) := by
  rw [f_X1_effort]
  have e1 := x1_reach h hw
  have e2 := x1_row h hq hw
  have e3 : (if oI q = 2 then (f_X1_reach S r (oI w)).bind fun x17 => some x17 else (oO S r 3).bind fun _ => (f_X4_size S r).bind fun x15 => some x15 : Option Int32) = some (oI (re g n q w)) := by
    simp (disch := omega) only [h.1, h.2.1, h.2.2.1, e1, x4_size h, oI_le, oI_lt, oI_eq, oI_add, oI_mul, oI_sub, l0, l1, l2, l3, l4, l5, l6, l7, l8, l9, l10, l11, l12, l13, l15, l24, l255, Option.bind_some, reduceIte, if_true, if_false]
    unfold re
    by_cases c : q = 2
    · simp only [c, Option.bind_some, reduceIte, if_true, if_false]
    · simp only [c, Option.bind_some, reduceIte, if_true, if_false]
  simp only [e3]
  simp (disch := omega) only [h.1, h.2.1, h.2.2.1, e2, x4_runs h (re_le g n q w), x1_table h hq hw, x1_comE h hq hw, x1_frame h h1 hq hw, oI_le, oI_lt, oI_eq, oI_add, oI_mul, oI_sub, l0, l1, l2, l3, l4, l5, l6, l7, l8, l9, l10, l11, l12, l13, l15, l24, l255, Option.bind_some, reduceIte, if_true, if_false]
  unfold ef
  by_cases c0 : c = 0
  · simp only [c0, Option.bind_some, reduceIte, if_true, if_false]
  by_cases c1 : c = 1
  · simp only [c1, show ¬ (1 : Nat) = 0 by decide, Option.bind_some, reduceIte, if_true, if_false]
  by_cases c2 : c = 2
  · simp only [c2, show ¬ (2 : Nat) = 0 by decide, show ¬ (2 : Nat) = 1 by decide, Option.bind_some, reduceIte, if_true, if_false]
  by_cases c3 : c = 3
  · simp only [c3, show ¬ (3 : Nat) = 0 by decide, show ¬ (3 : Nat) = 1 by decide, show ¬ (3 : Nat) = 2 by decide, Option.bind_some, reduceIte, if_true, if_false]
  by_cases c4 : c = 4
  · simp only [c4, show ¬ (4 : Nat) = 0 by decide, show ¬ (4 : Nat) = 1 by decide, show ¬ (4 : Nat) = 2 by decide, show ¬ (4 : Nat) = 3 by decide, Option.bind_some, reduceIte, if_true, if_false]
  simp only [c0, c1, c2, c3, c4, Option.bind_some, reduceIte, if_true, if_false]
theorem x1_answer {S : St} {r n : Nat} {g : Nat → Nat} (h : RwA S r n g) {q w : Nat} (hq : q ≤ 2) (hw : w ≤ 255) : f_X1_answer S r (oI q) (oI w) = some (an g n q w) := by
  rw [f_X1_answer]
  simp (disch := omega) only [h.1, h.2.1, h.2.2.1, x4_times h hw, x4_sum h, x4_first h hw, oI_le, oI_lt, oI_eq, oI_add, oI_mul, oI_sub, l0, l1, l2, l3, l4, l5, l6, l7, l8, l9, l10, l11, l12, l13, l15, l24, l255, Option.bind_some, reduceIte, if_true, if_false]
  unfold an
  by_cases c0 : q = 0
  · simp only [c0, Option.bind_some, reduceIte, if_true, if_false]
  by_cases c1 : q = 1
  · simp only [c1, show ¬ (1 : Nat) = 0 by decide, Option.bind_some, reduceIte, if_true, if_false]
  simp only [c0, c1, Option.bind_some, reduceIte, if_true, if_false]
  rfl
