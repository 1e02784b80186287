/-! NUMBERS: ints that are small naturals -/
abbrev oI (n : Nat) : Int32 := Int32.ofNat n
theorem oI_toInt {a : Nat} (h : a < 2147483648) : (oI a).toInt = (a : Int) := Int32.toInt_ofNat_of_lt h
theorem oI_le {a b : Nat} (ha : a < 2147483648) (hb : b < 2147483648) : (oI a ≤ oI b) = (a ≤ b) := by
  rw [Int32.le_iff_toInt_le, oI_toInt ha, oI_toInt hb]
  simp
theorem oI_lt {a b : Nat} (ha : a < 2147483648) (hb : b < 2147483648) : (oI a < oI b) = (a < b) := by
  rw [Int32.lt_iff_toInt_lt, oI_toInt ha, oI_toInt hb]
  simp
theorem oI_eq {a b : Nat} (ha : a < 2147483648) (hb : b < 2147483648) : (oI a = oI b) = (a = b) := by
  rw [← Int32.toInt_inj, oI_toInt ha, oI_toInt hb]
  exact propext Int.ofNat_inj
theorem oI_add (a b : Nat) : oI a + oI b = oI (a + b) := (Int32.ofNat_add a b).symm
theorem oI_mul (a b : Nat) : oI a * oI b = oI (a * b) := (Int32.ofNat_mul a b).symm
theorem oI_sub {a b : Nat} (h : b ≤ a) : oI a - oI b = oI (a - b) := by
  have h1 : oI (a - b) + oI b = oI a := by rw [oI_add, Nat.sub_add_cancel h]
  rw [← h1, Int32.add_sub_cancel]
theorem oI_nat {a : Nat} (h : a < 2147483648) : (oI a).toNatClampNeg = a := by
  show ((oI a).toInt).toNat = a
  rw [oI_toInt h]
  simp
theorem oI_n0 {a : Nat} (h : a < 2147483648) : (oI a < 0) = False := by
  have := oI_lt (a := a) (b := 0) h (by omega)
  rw [show (0 : Int32) = oI 0 from rfl, this]
  simp
theorem l0 : (0 : Int32) = oI 0 := rfl
theorem l1 : (1 : Int32) = oI 1 := rfl
theorem l2 : (2 : Int32) = oI 2 := rfl
theorem l3 : (3 : Int32) = oI 3 := rfl
theorem l4 : (4 : Int32) = oI 4 := rfl
theorem l5 : (5 : Int32) = oI 5 := rfl
theorem l6 : (6 : Int32) = oI 6 := rfl
theorem l7 : (7 : Int32) = oI 7 := rfl
theorem l8 : (8 : Int32) = oI 8 := rfl
theorem l9 : (9 : Int32) = oI 9 := rfl
theorem l10 : (10 : Int32) = oI 10 := rfl
theorem l11 : (11 : Int32) = oI 11 := rfl
theorem l12 : (12 : Int32) = oI 12 := rfl
theorem l13 : (13 : Int32) = oI 13 := rfl
theorem l15 : (15 : Int32) = oI 15 := rfl
theorem l24 : (24 : Int32) = oI 24 := rfl
theorem l255 : (255 : Int32) = oI 255 := rfl
theorem ne_m1 {a : Nat} (h : a < 2147483648) : (oI a = (-1 : Int32)) = False := by
  rw [← Int32.toInt_inj, oI_toInt h, show ((-1 : Int32)).toInt = -1 from by decide]
  simp
theorem zz0 : zz 0 = some () := by simp [zz]
theorem zz1 : zz 1 = some () := by simp [zz]
theorem aI_of {S : St} {a n : Nat} {f : Nat → Int32} (h : S a = some (arI n f)) {k : Nat} (hk : k < n) (hn : n < 2147483648) : aI S a (oI k) = some (f k) := by
  simp only [aI, h, oI_nat (show k < 2147483648 by omega), oI_n0 (show k < 2147483648 by omega)]
  rw [if_pos ⟨trivial, by simp; omega⟩]
theorem sI_of {S : St} {a n : Nat} {f : Nat → Int32} (h : S a = some (arI n f)) {k : Nat} (x : Int32) (hk : k < n) (hn : n < 2147483648) : sI S a (oI k) x = some (va_up S a (some (arI n (upd f k x)))) := by
  simp only [sI, h, oI_nat (show k < 2147483648 by omega), oI_n0 (show k < 2147483648 by omega)]
  rw [if_pos ⟨trivial, by simp; omega⟩]
theorem aN_of {S : St} {a t n : Nat} {f} (h : S a = some (.inr (t, (n, f)))) : aN S a t = some (oI n) := by simp [aN, h]
theorem FU_ge : FU = 2000 := rfl
-- ===== what is counted of a row: n values, g their numbers =====
def cnt (g : Nat → Nat) : Nat → Nat → Nat
  | 0, _ => 0
  | n + 1, v => cnt g n v + (if g n = v then 1 else 0)
def fst (g : Nat → Nat) : Nat → Nat → Nat
  | 0, _ => 0
  | n + 1, v => if fst g n v < n then fst g n v else if g n = v then n else n + 1
def rn (g : Nat → Nat) : Nat → Nat
  | 0 => 0
  | m + 1 => rn g m + (if m = 0 ∨ g m ≠ g (m - 1) then 1 else 0)
def df (g : Nat → Nat) : Nat → Nat
  | 0 => 0
  | n + 1 => df g n + (if fst g n (g n) = n then 1 else 0)
def mx (h : Nat → Nat) : Nat → Nat
  | 0 => 0
  | n + 1 => max (mx h n) (h n)
def lst (g : Nat → Nat) : Nat → Nat
  | 0 => 255
  | n + 1 => min (lst g n) (g n)
def sm (g : Nat → Nat) : Nat → Nat
  | 0 => 0
  | n + 1 => sm g n + g n
/-- what a step needs -/
def nd (g : Nat → Nat) (i : Nat) : Nat := if g (i - 1) < g i then g i - g (i - 1) + 1 else g (i - 1) - g i
def hf (g : Nat → Nat) : Nat → Nat
  | 0 => 0
  | 1 => 0
  | n + 2 => max (hf g (n + 1)) (nd g (n + 1))
def mst (g : Nat → Nat) (n : Nat) : Nat := mx (fun i => cnt g n (g i)) n
def cmn (g : Nat → Nat) (n : Nat) : Nat → Nat
  | 0 => 255
  | i + 1 => if cnt g n (g i) = mst g n then min (cmn g n i) (g i) else cmn g n i
def wid (m : Nat) : Nat := if m ≤ 1 then 0 else if m ≤ 2 then 1 else if m ≤ 4 then 2 else if m ≤ 8 then 3 else if m ≤ 16 then 4 else if m ≤ 32 then 5 else if m ≤ 64 then 6 else if m ≤ 128 then 7 else if m ≤ 256 then 8 else 9
def wh (h : Nat) : Nat := if h = 0 then 0 else wid (2 * h)
theorem cnt_le (g : Nat → Nat) (n v : Nat) : cnt g n v ≤ n := by
  induction n with
  | zero => simp [cnt]
  | succ n ih => simp only [cnt]; split <;> omega
theorem fst_le (g : Nat → Nat) (n v : Nat) : fst g n v ≤ n := by
  induction n with
  | zero => simp [fst]
  | succ n ih => simp only [fst]; split <;> (try split) <;> omega
theorem rn_le (g : Nat → Nat) (n : Nat) : rn g n ≤ n := by
  induction n with
  | zero => simp [rn]
  | succ n ih => simp only [rn]; split <;> omega
theorem df_le (g : Nat → Nat) (n : Nat) : df g n ≤ n := by
  induction n with
  | zero => simp [df]
  | succ n ih => simp only [df]; split <;> omega
theorem mx_le {h : Nat → Nat} {b : Nat} : ∀ (n : Nat), (∀ i, i < n → h i ≤ b) → mx h n ≤ b
  | 0, _ => by simp [mx]
  | n + 1, hb => by
    have h1 := mx_le n (fun i hi => hb i (by omega))
    have h2 := hb n (by omega)
    simp only [mx]; omega
theorem le_mx (h : Nat → Nat) : ∀ (n i : Nat), i < n → h i ≤ mx h n
  | 0, i, hi => by omega
  | n + 1, i, hi => by
    by_cases e : i = n
    · subst e; simp only [mx]; omega
    · have := le_mx h n i (by omega)
      simp only [mx]; omega
theorem mx_at (h : Nat → Nat) : ∀ (n : Nat), 0 < n → ∃ i, i < n ∧ h i = mx h n
  | 0, h0 => by omega
  | 1, _ => ⟨0, by omega, by simp [mx]⟩
  | n + 2, _ => by
    obtain ⟨i, h1, h2⟩ := mx_at h (n + 1) (by omega)
    by_cases e : h (n + 1) ≤ mx h (n + 1)
    · exact ⟨i, by omega, by rw [mx, h2]; omega⟩
    · exact ⟨n + 1, by omega, by rw [mx]; omega⟩
theorem mx_congr {h k : Nat → Nat} : ∀ (n : Nat), (∀ i, i < n → h i = k i) → mx h n = mx k n
  | 0, _ => rfl
  | n + 1, hb => by rw [mx, mx, mx_congr n (fun i hi => hb i (by omega)), hb n (by omega)]
theorem mst_le (g : Nat → Nat) (n : Nat) : mst g n ≤ n := mx_le n (fun i _ => cnt_le g n (g i))
theorem lst_le (g : Nat → Nat) : ∀ n, lst g n ≤ 255
  | 0 => by simp [lst]
  | n + 1 => by have := lst_le g n; simp only [lst]; omega
theorem lst_at (g : Nat → Nat) : ∀ (n i : Nat), i < n → lst g n ≤ g i
  | 0, i, h => by omega
  | n + 1, i, h => by
    by_cases e : i = n
    · subst e; simp only [lst]; omega
    · have := lst_at g n i (by omega); simp only [lst]; omega
theorem cmn_le (g : Nat → Nat) (n : Nat) : ∀ i, cmn g n i ≤ 255
  | 0 => by simp [cmn]
  | i + 1 => by have := cmn_le g n i; simp only [cmn]; split <;> omega
theorem nd_le {g : Nat → Nat} {i : Nat} (h : g i ≤ 255) (h' : g (i - 1) ≤ 255) : nd g i ≤ 256 := by unfold nd; split <;> omega
theorem hf_le {g : Nat → Nat} (hg : ∀ i, g i ≤ 255) : ∀ n, hf g n ≤ 256
  | 0 => by simp [hf]
  | 1 => by simp [hf]
  | n + 2 => by
    have h1 := hf_le hg (n + 1)
    have h2 := nd_le (hg (n + 1)) (hg (n + 1 - 1))
    simp only [hf]; omega
theorem wid_le (m : Nat) : wid m ≤ 9 := by unfold wid; repeat' split
                                           all_goals omega
theorem wh_le (h : Nat) : wh h ≤ 9 := by unfold wh; split
                                         · omega
                                         · exact wid_le _
theorem sm_le {g : Nat → Nat} (hg : ∀ i, g i ≤ 255) : ∀ n, sm g n ≤ 255 * n
  | 0 => by simp [sm]
  | n + 1 => by have := sm_le hg n; have := hg n; simp only [sm]; omega
-- only the first n count
theorem cnt_congr {g k : Nat → Nat} : ∀ (n v : Nat), (∀ i, i < n → g i = k i) → cnt g n v = cnt k n v
  | 0, _, _ => rfl
  | n + 1, v, h => by rw [cnt, cnt, cnt_congr n v (fun i hi => h i (by omega)), h n (by omega)]
theorem fst_congr {g k : Nat → Nat} : ∀ (n v : Nat), (∀ i, i < n → g i = k i) → fst g n v = fst k n v
  | 0, _, _ => rfl
  | n + 1, v, h => by rw [fst, fst, fst_congr n v (fun i hi => h i (by omega)), h n (by omega)]
theorem rn_congr {g k : Nat → Nat} : ∀ (n : Nat), (∀ i, i < n → g i = k i) → rn g n = rn k n
  | 0, _ => rfl
  | n + 1, h => by rw [rn, rn, rn_congr n (fun i hi => h i (by omega)), h n (by omega), h (n - 1) (by omega)]
theorem df_congr {g k : Nat → Nat} : ∀ (n : Nat), (∀ i, i < n → g i = k i) → df g n = df k n
  | 0, _ => rfl
  | n + 1, h => by rw [df, df, df_congr n (fun i hi => h i (by omega)), h n (by omega), fst_congr n _ (fun i hi => h i (by omega))]
theorem lst_congr {g k : Nat → Nat} : ∀ (n : Nat), (∀ i, i < n → g i = k i) → lst g n = lst k n
  | 0, _ => rfl
  | n + 1, h => by rw [lst, lst, lst_congr n (fun i hi => h i (by omega)), h n (by omega)]
theorem sm_congr {g k : Nat → Nat} : ∀ (n : Nat), (∀ i, i < n → g i = k i) → sm g n = sm k n
  | 0, _ => rfl
  | n + 1, h => by rw [sm, sm, sm_congr n (fun i hi => h i (by omega)), h n (by omega)]
theorem hf_congr {g k : Nat → Nat} : ∀ (n : Nat), (∀ i, i < n → g i = k i) → hf g n = hf k n
  | 0, _ => rfl
  | 1, _ => rfl
  | n + 2, h => by rw [hf, hf, hf_congr (n + 1) (fun i hi => h i (by omega)), nd, nd, h (n + 1) (by omega), h (n + 1 - 1) (by omega)]
theorem mst_congr {g k : Nat → Nat} (n : Nat) (h : ∀ i, i < n → g i = k i) : mst g n = mst k n := by
  unfold mst
  exact mx_congr n (fun i hi => by rw [cnt_congr n _ h, h i hi])
theorem cmn_congr {g k : Nat → Nat} (n : Nat) (h : ∀ i, i < n → g i = k i) : ∀ (m : Nat), m ≤ n → cmn g n m = cmn k n m
  | 0, _ => rfl
  | m + 1, hm => by rw [cmn, cmn, cmn_congr n h m (by omega), mst_congr n h, cnt_congr n _ h, h m (by omega)]
-- ===== the bits by a code, the best code =====
def bt (g : Nat → Nat) (n : Nat) (c : Nat) : Nat :=
  if c = 0 then 8 * n else if c = 1 then 13 * rn g n else if c = 2 then 5 + 8 * df g n + n * wid (df g n) else if c = 3 then 12 + (n - 1) * wh (hf g n) else if c = 4 then 8 + n + 8 * (n - mst g n) else 12 + n * wid (mx g n - lst g n + 1)
def bsF (g : Nat → Nat) (n : Nat) : Nat → Nat
  | 0 => 0
  | k + 1 => if bt g n (k + 1) < bt g n (bsF g n k) then k + 1 else bsF g n k
def bs (g : Nat → Nat) (n : Nat) : Nat := bsF g n 5
theorem bt_congr {g k : Nat → Nat} (n c : Nat) (h : ∀ i, i < n → g i = k i) : bt g n c = bt k n c := by
  unfold bt
  rw [rn_congr n h, df_congr n h, hf_congr n h, mst_congr n h, mx_congr n h, lst_congr n h]
theorem bsF_congr {g k : Nat → Nat} (n : Nat) (h : ∀ i, i < n → g i = k i) : ∀ m, bsF g n m = bsF k n m
  | 0 => rfl
  | m + 1 => by rw [bsF, bsF, bsF_congr n h m, bt_congr n _ h, bt_congr n _ h]
theorem bs_congr {g k : Nat → Nat} (n : Nat) (h : ∀ i, i < n → g i = k i) : bs g n = bs k n := bsF_congr n h 5
theorem bsF_le (g : Nat → Nat) (n : Nat) : ∀ k, bsF g n k ≤ k
  | 0 => by simp [bsF]
  | k + 1 => by have := bsF_le g n k; simp only [bsF]; split <;> omega
theorem bs_le (g : Nat → Nat) (n : Nat) : bs g n ≤ 5 := bsF_le g n 5
theorem mul_wid (n m : Nat) : n * wid m ≤ n * 9 := Nat.mul_le_mul_left n (wid_le m)
theorem mul_wh (n m : Nat) : n * wh m ≤ n * 9 := Nat.mul_le_mul_left n (wh_le m)
theorem bt_le (g : Nat → Nat) (n c : Nat) : bt g n c ≤ 20 * n + 20 := by
  have h1 := rn_le g n
  have h2 := df_le g n
  have h3 := mul_wid n (df g n)
  have h4 := mul_wh (n - 1) (hf g n)
  have h5 := mul_wid n (mx g n - lst g n + 1)
  unfold bt
  repeat' split
  all_goals omega
