/-! THE STORE: one map from addresses to cells for all objects of the class and of the reference; rows over it -/
abbrev Cl : Type := (Nat × List Value) ⊕ (Nat × vp_A)
abbrev St : Type := Nat → Option Cl
def trC (cy : Nat → ClassId) (e : Cl) : va_E := match e with
  | .inl o => .inr o
  | .inr a => .inl (cy a.1, a.2)
abbrev tyL (cy : Nat → ClassId) : List (ClassId × FieldType) := [(cy 0, .int), (cy 1, .object RX0), (cy 2, .object RX2), (cy 3, .long)]
def SP (D : va_G) (cy : Nat → ClassId) (S : St) (H : Heap) : Prop := ∀ (a : Nat) (e : Cl), S a = some e → va_at D vwCl (a, trC cy e) H
abbrev arI (n : Nat) (f : Nat → Int32) : Cl := .inr (0, (n, .inl f))
abbrev arJ (n : Nat) (f : Nat → Int64) : Cl := .inr (3, (n, .inr (.inl f)))
abbrev arR (t n : Nat) (f : Nat → Option Nat) : Cl := .inr (t, (n, .inr (.inr (.inr (.inr f)))))
-- what an instruction reads or writes; none where it is not told
def oO (S : St) (a ci : Nat) : Option Unit := match S a with
  | some (.inl o) => if o.1 = ci then some () else none
  | _ => none
def gI (S : St) (a ci k : Nat) : Option Int32 := match S a with
  | some (.inl o) => if o.1 = ci then (match o.2[k]? with | some (.int x) => some x | _ => none) else none
  | _ => none
def gL (S : St) (a ci k : Nat) : Option Int64 := match S a with
  | some (.inl o) => if o.1 = ci then (match o.2[k]? with | some (.long x) => some x | _ => none) else none
  | _ => none
def gR (S : St) (a ci k : Nat) : Option Nat := match S a with
  | some (.inl o) => if o.1 = ci then (match o.2[k]? with | some (.ref x) => some x | _ => none) else none
  | _ => none
def pV (S : St) (a ci k : Nat) (v : Value) : Option St := match S a with
  | some (.inl o) => if o.1 = ci ∧ k < o.2.length then some (va_up S a (some (.inl (ci, o.2.set k v)))) else none
  | _ => none
def pI (S : St) (a ci k : Nat) (v : Int32) : Option St := pV S a ci k (.int v)
def pL (S : St) (a ci k : Nat) (v : Int64) : Option St := pV S a ci k (.long v)
def pR (S : St) (a ci k : Nat) (v : Nat) : Option St := pV S a ci k (.ref v)
def pZ (S : St) (a ci k : Nat) (v : Int32) : Option St := if v = 0 ∨ v = 1 then pV S a ci k (.int v) else none
def aI (S : St) (a : Nat) (i : Int32) : Option Int32 := match S a with
  | some (.inr (t, (n, .inl f))) => if t = 0 ∧ ¬ (i < 0 ∨ n ≤ i.toNatClampNeg) then some (f i.toNatClampNeg) else none
  | _ => none
def aJ (S : St) (a : Nat) (i : Int32) : Option Int64 := match S a with
  | some (.inr (t, (n, .inr (.inl f)))) => if t = 3 ∧ ¬ (i < 0 ∨ n ≤ i.toNatClampNeg) then some (f i.toNatClampNeg) else none
  | _ => none
def aR (S : St) (a t : Nat) (i : Int32) : Option Nat := match S a with
  | some (.inr (t', (n, .inr (.inr (.inr (.inr f)))))) => if t' = t ∧ ¬ (i < 0 ∨ n ≤ i.toNatClampNeg) then f i.toNatClampNeg else none
  | _ => none
def aN (S : St) (a t : Nat) : Option Int32 := match S a with
  | some (.inr (t', (n, _))) => if t' = t then some (Int32.ofNat n) else none
  | _ => none
def sI (S : St) (a : Nat) (i x : Int32) : Option St := match S a with
  | some (.inr (t, (n, .inl f))) => if t = 0 ∧ ¬ (i < 0 ∨ n ≤ i.toNatClampNeg) then some (va_up S a (some (arI n (upd f i.toNatClampNeg x)))) else none
  | _ => none
def sJ (S : St) (a : Nat) (i : Int32) (x : Int64) : Option St := match S a with
  | some (.inr (t, (n, .inr (.inl f)))) => if t = 3 ∧ ¬ (i < 0 ∨ n ≤ i.toNatClampNeg) then some (va_up S a (some (arJ n (vp_updL f i.toNatClampNeg x)))) else none
  | _ => none
def sR (S : St) (a t ci : Nat) (i : Int32) (x : Nat) : Option St := match S a with
  | some (.inr (t', (n, .inr (.inr (.inr (.inr f)))))) => if t' = t ∧ ¬ (i < 0 ∨ n ≤ i.toNatClampNeg) then (oO S x ci).bind fun _ => some (va_up S a (some (arR t n (va_up f i.toNatClampNeg (some x))))) else none
  | _ => none
theorem oO_spec {S : St} {a ci : Nat} {u : Unit} (h : oO S a ci = some u) : ∃ fs, S a = some (.inl (ci, fs)) := by
  unfold oO at h
  split at h
  · rename_i o ho
    split at h
    · rename_i hc; exact ⟨o.2, by rw [ho, ← hc]⟩
    · cases h
  · cases h
theorem gI_spec {S : St} {a ci k : Nat} {x : Int32} (h : gI S a ci k = some x) : ∃ fs, S a = some (.inl (ci, fs)) ∧ fs[k]? = some (.int x) := by
  unfold gI at h
  split at h
  · rename_i o ho
    split at h
    · rename_i hc
      split at h
      · rename_i y hy
        cases h
        exact ⟨o.2, by rw [ho, ← hc], hy⟩
      · cases h
    · cases h
  · cases h
theorem gL_spec {S : St} {a ci k : Nat} {x : Int64} (h : gL S a ci k = some x) : ∃ fs, S a = some (.inl (ci, fs)) ∧ fs[k]? = some (.long x) := by
  unfold gL at h
  split at h
  · rename_i o ho
    split at h
    · rename_i hc
      split at h
      · rename_i y hy
        cases h
        exact ⟨o.2, by rw [ho, ← hc], hy⟩
      · cases h
    · cases h
  · cases h
theorem gR_spec {S : St} {a ci k : Nat} {x : Nat} (h : gR S a ci k = some x) : ∃ fs, S a = some (.inl (ci, fs)) ∧ fs[k]? = some (.ref x) := by
  unfold gR at h
  split at h
  · rename_i o ho
    split at h
    · rename_i hc
      split at h
      · rename_i y hy
        cases h
        exact ⟨o.2, by rw [ho, ← hc], hy⟩
      · cases h
    · cases h
  · cases h
theorem pV_spec {S S1 : St} {a ci k : Nat} {v : Value} (h : pV S a ci k v = some S1) : ∃ fs, S a = some (.inl (ci, fs)) ∧ k < fs.length ∧ S1 = va_up S a (some (.inl (ci, fs.set k v))) := by
  unfold pV at h
  split at h
  · rename_i o ho
    split at h
    · rename_i hc
      cases h
      exact ⟨o.2, by rw [ho, ← hc.1], hc.2, rfl⟩
    · cases h
  · cases h
theorem aI_spec {S : St} {a : Nat} {i x : Int32} (h : aI S a i = some x) : ∃ n f, S a = some (arI n f) ∧ vp_in i n ∧ x = f i.toNatClampNeg := by
  unfold aI at h
  split at h
  · rename_i t n f ho
    split at h
    · rename_i hc
      cases h
      exact ⟨n, f, by rw [ho, hc.1], hc.2, rfl⟩
    · cases h
  · cases h
theorem aJ_spec {S : St} {a : Nat} {i : Int32} {x : Int64} (h : aJ S a i = some x) : ∃ n f, S a = some (arJ n f) ∧ vp_in i n ∧ x = f i.toNatClampNeg := by
  unfold aJ at h
  split at h
  · rename_i t n f ho
    split at h
    · rename_i hc
      cases h
      exact ⟨n, f, by rw [ho, hc.1], hc.2, rfl⟩
    · cases h
  · cases h
theorem aR_spec {S : St} {a t : Nat} {i : Int32} {x : Nat} (h : aR S a t i = some x) : ∃ n f, S a = some (arR t n f) ∧ vp_in i n ∧ f i.toNatClampNeg = some x := by
  unfold aR at h
  split at h
  · rename_i t' n f ho
    split at h
    · rename_i hc
      exact ⟨n, f, by rw [ho, hc.1], hc.2, h⟩
    · cases h
  · cases h
theorem aN_spec {S : St} {a t : Nat} {x : Int32} (h : aN S a t = some x) : ∃ v : vp_A, S a = some (.inr (t, v)) ∧ Int32.ofNat v.1 = x := by
  unfold aN at h
  split at h
  · rename_i t' n f ho
    split at h
    · rename_i hc
      cases h
      exact ⟨(n, f), by rw [ho, hc], rfl⟩
    · cases h
  · cases h
theorem sI_spec {S S1 : St} {a : Nat} {i x : Int32} (h : sI S a i x = some S1) : ∃ n f, S a = some (arI n f) ∧ vp_in i n ∧ S1 = va_up S a (some (arI n (upd f i.toNatClampNeg x))) := by
  unfold sI at h
  split at h
  · rename_i t n f ho
    split at h
    · rename_i hc
      cases h
      exact ⟨n, f, by rw [ho, hc.1], hc.2, rfl⟩
    · cases h
  · cases h
theorem sJ_spec {S S1 : St} {a : Nat} {i : Int32} {x : Int64} (h : sJ S a i x = some S1) : ∃ n f, S a = some (arJ n f) ∧ vp_in i n ∧ S1 = va_up S a (some (arJ n (vp_updL f i.toNatClampNeg x))) := by
  unfold sJ at h
  split at h
  · rename_i t n f ho
    split at h
    · rename_i hc
      cases h
      exact ⟨n, f, by rw [ho, hc.1], hc.2, rfl⟩
    · cases h
  · cases h
theorem sR_spec {S S1 : St} {a t ci : Nat} {i : Int32} {x : Nat} (h : sR S a t ci i x = some S1) : ∃ n f fs, S a = some (arR t n f) ∧ vp_in i n ∧ S x = some (.inl (ci, fs)) ∧ S1 = va_up S a (some (arR t n (va_up f i.toNatClampNeg (some x)))) := by
  unfold sR at h
  split at h
  · rename_i t' n f ho
    split at h
    · rename_i hc
      obtain ⟨u, h1, h2⟩ := Option.bind_eq_some_iff.mp h
      obtain ⟨fs, hfs⟩ := oO_spec h1
      cases h2
      exact ⟨n, f, fs, by rw [ho, hc.1], hc.2, hfs, rfl⟩
    · cases h
  · cases h
theorem SP.one {D : va_G} {cy : Nat → ClassId} {S : St} {H : Heap} (h : SP D cy S H) {a : Nat} {e : Cl} (he : S a = some e) : va_P D vwCl [(a, trC cy e)] H := by
  intro k q hk
  have hz : k < 1 := (List.getElem?_eq_some_iff.mp hk).1
  have : k = 0 := by omega
  subst this
  cases hk
  exact h a e he
theorem SP.upd {D : va_G} {cy : Nat → ClassId} {S : St} {H H1 : Heap} (h : SP D cy S H) {a : Nat} {e : Cl} (he : va_at D vwCl (a, trC cy e) H1) (oq : ∀ q : Nat, q ≠ a → H1[q]? = H[q]?) : SP D cy (va_up S a (some e)) H1 := by
  intro b e' hb
  by_cases hba : b = a
  · subst hba
    rw [va_up_self] at hb
    cases hb
    exact he
  · rw [va_up_ne _ _ hba] at hb
    exact (h b e' hb).kept (oq b hba)
theorem SP.kept {D : va_G} {cy : Nat → ClassId} {S : St} {H H1 : Heap} (h : SP D cy S H) (oq : ∀ q : Nat, q < H.size → H1[q]? = H[q]?) : SP D cy S H1 := fun a e he => (h a e he).kept (oq a (h a e he).lt)
theorem SP.lt {D : va_G} {cy : Nat → ClassId} {S : St} {H : Heap} (h : SP D cy S H) {a : Nat} {e : Cl} (he : S a = some e) : a < H.size := (h a e he).lt
theorem dom_up {S : St} {A : Nat → Prop} (hD : ∀ a, S a ≠ none → A a) {a : Nat} {e : Cl} (ha : A a) : ∀ b, va_up S a (some e) b ≠ none → A b := by
  intro b hb
  by_cases hba : b = a
  · rw [hba]; exact ha
  · rw [va_up_ne _ _ hba] at hb; exact hD b hb
section ROWS
variable {p : Program} {l : Launch} {e : Env} {R : Room} {s : State} {m : MethodId} {args : Array Value} {below : List Frame} {meth : Method} {c : Code} {H : Heap} {locs : List Loc} {cells slots : Nat} {Q : State → Prop}
variable {cc : ByteArray} {pc : Nat} {ls : Array Slot} {rest : List Value} {D : va_G} {cy : Nat → ClassId} {A : Nat → Prop} {a : Nat} {S S1 : St} {H0 : Heap}
theorem r_gV (hexec : p.tables.exec = Jvm.exec) (hb : c.code = cc) {own C : String} {T : u_T} {N ci index : Nat} {Ts : List Cond} (hts : ∀ w ∈ Ts, w.before args s = true) (hin : ∀ w ∈ u_ws C T N, w ∈ Ts) (hown : s.vm.findClass own = some m.cls) (hK : va_K D vwCl (tyL cy) s) (hP : SP D cy S H) (hc : vwCl[ci]? = some (C, T, N)) (k : Nat) (hk : k < N) (hTC : (T k).1 = C) (hlink : (Cond.fieldLink own index C (T k).2.1 (T k).2.2.1).before args s = true)
    {v : Value} {fs : List Value} (h1 : S a = some (.inl (ci, fs))) (h2 : fs[k]? = some v) (hdg : decode cc pc = .ok (.getfield index, 3))
    (kk : W p l e R s m args below meth c H locs cells slots Q (F0 m (pc + 3) ls (v :: rest))) : W p l e R s m args below meth c H locs cells slots Q (F0 m pc ls (.ref a :: rest)) :=
  va_get (D := D) (cl := vwCl) (ws := [(a, .inr (ci, fs))]) hexec hb hts hin hown hK (hP.one h1) 0 rfl hc k hk hlink (fun x hx => by rw [← hTC]; exact hx) h2 hdg kk
theorem r_pV (hexec : p.tables.exec = Jvm.exec) (hb : c.code = cc) {own C : String} {T : u_T} {N ci index : Nat} {Ts : List Cond} (hts : ∀ w ∈ Ts, w.before args s = true) (hin : ∀ w ∈ u_ws C T N, w ∈ Ts) (ty0 : Nat → FieldType) (hty : ∀ k, k < N → parseFieldDescriptor (T k).2.2.1 = some (ty0 k)) (hnm : ∀ a, a < N → ∀ b, b < N → a ≠ b → (T a).2.1 ≠ (T b).2.1) (hown : s.vm.findClass own = some m.cls) (hK : va_K D vwCl (tyL cy) s) (hP : SP D cy S H) (hD : ∀ a, S a ≠ none → A a) (hS0 : va_S A H0 H locs) (hc : vwCl[ci]? = some (C, T, N)) (k : Nat) (hk : k < N) (hTC : (T k).1 = C) (hlink : (Cond.fieldLink own index C (T k).2.1 (T k).2.2.1).before args s = true) (hfin : (T k).2.2.2 = false ∨ ((T k).2.2.2 = true ∧ meth.name = "<init>" ∧ C = own))
    {v : Value} (hn : narrow (ty0 k) v = v) (hfit : fits (ty0 k) v = true) (hg : pV S a ci k v = some S1) (hdg : decode cc pc = .ok (.putfield index, 3))
    (kk : ∀ (H1 : Heap) (locs1 : List Loc), H1.size = H.size → SP D cy S1 H1 → (∀ a, S1 a ≠ none → A a) → va_S A H0 H1 locs1 → W p l e R s m args below meth c H1 locs1 cells slots Q (F0 m (pc + 3) ls rest)) : W p l e R s m args below meth c H locs cells slots Q (F0 m pc ls (v :: .ref a :: rest)) := by
  obtain ⟨fs, h1, hl, rfl⟩ := pV_spec hg
  have hAa : A a := hD a (by rw [h1]; exact fun h => by cases h)
  have hap := va_apart (own := own) hts hin ty0 hty hnm hK hc
  have he : va_at D vwCl (a, .inr (ci, fs)) H := hP a _ h1
  obtain ⟨r, h1', cell, q1, q2, q3, q4⟩ := he
  have hr : r = (C, T, N) := Option.some.inj (h1'.symm.trans hc)
  subst hr
  obtain ⟨hS, hfc, kC, hkC, hkind⟩ := hK.1 ci _ hc
  obtain ⟨cf, kf, fi, f, hi, hsl⟩ := hS k hk
  have hsame : s.fieldFound? C (T k).2.1 (T k).2.2.1 = some (cf, kf, fi, f) := by rw [← hTC]; exact hi
  have hlay := hts _ (hin _ (u_in_lay hk))
  unfold u_lay at hlay
  have hst := (u_facts hfc hkC (u_lays hts hin hk) hi).1
  have fin : ∀ (H' : Heap), H'[a]? = some (cell.setSlot (D.2 ci k) v) → H'.size = H.size → (∀ q : Nat, q ≠ a → H'[q]? = H[q]?) → W p l e R s m args below meth c H' (locs ++ [⟨a, D.2 ci k⟩]) cells slots Q (F0 m (pc + 3) ls rest) := by
    intro H' e1 e2 e3
    refine kk H' _ e2 (hP.upd (e := .inl (ci, fs.set k v)) ?_ e3) (dom_up hD hAa) (hS0.put e2 e3 hAa)
    exact ⟨_, hc, t_OB.to (V := updV (vp_V fs) k v) ⟨_, e1, q2, q3, t_set q4 hap hk v⟩ (fun j _ => vp_updV_set hl v j)⟩
  rcases hfin with hfin | ⟨hfin, hin2, hCo⟩
  · rw [if_neg (by rw [hfin]; decide)] at hlay
    have h6 := u_store hfc hkC hkind hlay hi (hty k hk) hn hfit
    refine W.putK hexec hb (f := f) ⟨hown, hlink, ⟨_, _, _, hsame⟩, hst⟩ (by rw [q2]; exact h6) q1 q3 (by rw [hsl]; exact k2_hasslot (q4 k hk)) rfl rfl hdg fun H' e1 e2 e3 => ?_
    rw [hsl] at e1 ⊢
    exact fin H' e1 e2 e3
  · rw [if_pos hfin] at hlay
    have hcf : m.cls = cf := by
      obtain ⟨_, _, c', _, _, _, -, -, hf', -, -, -, hown2, -⟩ := Cond.laysFinal_spec hlay
      have e1 : c' = cf := by have := hi.symm.trans hf'; simp at this; exact this.1.symm
      rw [hTC, hCo] at hown2
      rw [← e1]; exact Option.some.inj (hown.symm.trans hown2)
    have h6 := u_fits hfc hkC hkind (Or.inr hlay) hi (hty k hk) hn hfit
    refine W.putFinK hexec hb hown hlink hsame hst hcf hin2 (by rw [q2]; exact h6) q1 q3 (by rw [hsl]; exact k2_hasslot (q4 k hk)) rfl rfl hdg fun H' e1 e2 e3 => ?_
    rw [hsl] at e1 ⊢
    exact fin H' e1 e2 e3
theorem r_aI (hexec : p.tables.exec = Jvm.exec) (hb : c.code = cc) (hK : va_K D vwCl (tyL cy) s) (hP : SP D cy S H) {i x : Int32} (hg : aI S a i = some x) (hdg : decode cc pc = .ok (.iaload, 1))
    (kk : W p l e R s m args below meth c H locs cells slots Q (F0 m (pc + 1) ls (.int x :: rest))) : W p l e R s m args below meth c H locs cells slots Q (F0 m pc ls (.int i :: .ref a :: rest)) := by
  obtain ⟨n, f, h1, h2, rfl⟩ := aI_spec hg
  exact va_iald (D := D) (cl := vwCl) (ws := [(a, .inl (cy 0, n, .inl f))]) hexec hb hK (hP.one h1) 0 0 rfl rfl h2 hdg kk
theorem r_aJ (hexec : p.tables.exec = Jvm.exec) (hb : c.code = cc) (hK : va_K D vwCl (tyL cy) s) (hP : SP D cy S H) {i : Int32} {x : Int64} (hg : aJ S a i = some x) (hdg : decode cc pc = .ok (.laload, 1))
    (kk : W p l e R s m args below meth c H locs cells slots Q (F0 m (pc + 1) ls (.long x :: rest))) : W p l e R s m args below meth c H locs cells slots Q (F0 m pc ls (.int i :: .ref a :: rest)) := by
  obtain ⟨n, f, h1, h2, rfl⟩ := aJ_spec hg
  exact va_lald (D := D) (cl := vwCl) (ws := [(a, .inl (cy 3, n, .inr (.inl f)))]) hexec hb hK (hP.one h1) 0 3 rfl rfl h2 hdg kk
theorem r_aR (hexec : p.tables.exec = Jvm.exec) (hb : c.code = cc) (hK : va_K D vwCl (tyL cy) s) (hP : SP D cy S H) {t : Nat} {C : String} (ht : (tyL cy)[t]? = some (cy t, .object C)) {i : Int32} {x : Nat} (hg : aR S a t i = some x) (hdg : decode cc pc = .ok (.aaload, 1))
    (kk : W p l e R s m args below meth c H locs cells slots Q (F0 m (pc + 1) ls (.ref x :: rest))) : W p l e R s m args below meth c H locs cells slots Q (F0 m pc ls (.int i :: .ref a :: rest)) := by
  obtain ⟨n, f, h1, h2, h3⟩ := aR_spec hg
  refine va_aldq (D := D) (cl := vwCl) (C := C) (ws := [(a, .inl (cy t, n, .inr (.inr (.inr (.inr f)))))]) hexec hb hK (hP.one h1) 0 t rfl ht h2 hdg ?_
  rw [h3]
  exact kk
theorem r_aN (hexec : p.tables.exec = Jvm.exec) (hb : c.code = cc) (hK : va_K D vwCl (tyL cy) s) (hP : SP D cy S H) {t : Nat} {ty : FieldType} (ht : (tyL cy)[t]? = some (cy t, ty)) {x : Int32} (hg : aN S a t = some x) (hdg : decode cc pc = .ok (.arraylength, 1))
    (kk : W p l e R s m args below meth c H locs cells slots Q (F0 m (pc + 1) ls (.int x :: rest))) : W p l e R s m args below meth c H locs cells slots Q (F0 m pc ls (.ref a :: rest)) := by
  obtain ⟨v, h1, h2⟩ := aN_spec hg
  exact va_alen (D := D) (cl := vwCl) (ws := [(a, .inl (cy t, v))]) hexec hb hK (hP.one h1) 0 t rfl ht h2 hdg kk
theorem r_sI (hexec : p.tables.exec = Jvm.exec) (hb : c.code = cc) (hK : va_K D vwCl (tyL cy) s) (hP : SP D cy S H) (hD : ∀ a, S a ≠ none → A a) (hS : va_S A H0 H locs) {i x : Int32} (hg : sI S a i x = some S1) (hdg : decode cc pc = .ok (.iastore, 1))
    (kk : ∀ (H1 : Heap) (locs1 : List Loc), H1.size = H.size → SP D cy S1 H1 → (∀ a, S1 a ≠ none → A a) → va_S A H0 H1 locs1 → W p l e R s m args below meth c H1 locs1 cells slots Q (F0 m (pc + 1) ls rest)) : W p l e R s m args below meth c H locs cells slots Q (F0 m pc ls (.int x :: .int i :: .ref a :: rest)) := by
  obtain ⟨n, f, h1, hin, rfl⟩ := sI_spec hg
  have hAa : A a := hD a (by rw [h1]; exact fun h => by cases h)
  refine W.iast hexec hb (hP a _ h1) ((hK.2 0 _ rfl).1 n (fun j => .int (f j))) (fun q => by cases q) (by show ¬ (i < 0 ∨ (arrV _ _ _).slots.size ≤ _); rw [arrV_size]; exact hin) rfl rfl hdg fun H1 e z oq => ?_
  refine kk H1 _ z (hP.upd ?_ oq) (dom_up hD hAa) (hS.put z oq hAa)
  show H1[a]? = some (vp_cell _ _)
  rw [e]
  rw [vp_cell_i, vp_cell_i, arrV_store]
  congr 2
  funext q
  by_cases hq : q = i.toNatClampNeg
  · subst hq
    simp [updV, upd]
  · simp [updV, upd, hq]
theorem r_sJ (hexec : p.tables.exec = Jvm.exec) (hb : c.code = cc) (hK : va_K D vwCl (tyL cy) s) (hP : SP D cy S H) (hD : ∀ a, S a ≠ none → A a) (hS : va_S A H0 H locs) {i : Int32} {x : Int64} (hg : sJ S a i x = some S1) (hdg : decode cc pc = .ok (.lastore, 1))
    (kk : ∀ (H1 : Heap) (locs1 : List Loc), H1.size = H.size → SP D cy S1 H1 → (∀ a, S1 a ≠ none → A a) → va_S A H0 H1 locs1 → W p l e R s m args below meth c H1 locs1 cells slots Q (F0 m (pc + 1) ls rest)) : W p l e R s m args below meth c H locs cells slots Q (F0 m pc ls (.long x :: .int i :: .ref a :: rest)) := by
  obtain ⟨n, f, h1, hin, rfl⟩ := sJ_spec hg
  have hAa : A a := hD a (by rw [h1]; exact fun h => by cases h)
  refine W.last hexec hb (hP a _ h1) ((hK.2 3 _ rfl).1 n (fun j => .long (f j))) (fun q => by cases q) (by show ¬ (i < 0 ∨ (arrV _ _ _).slots.size ≤ _); rw [arrV_size]; exact hin) rfl rfl hdg fun H1 e z oq => ?_
  refine kk H1 _ z (hP.upd ?_ oq) (dom_up hD hAa) (hS.put z oq hAa)
  show H1[a]? = some (vp_cell _ _)
  rw [e]
  rw [vp_cell_l, vp_cell_l, arrV_store]
  congr 2
  funext q
  by_cases hq : q = i.toNatClampNeg
  · subst hq
    simp [updV, vp_updL]
  · simp [updV, vp_updL, hq]
theorem r_sR (hexec : p.tables.exec = Jvm.exec) (hb : c.code = cc) (hK : va_K D vwCl (tyL cy) s) (hP : SP D cy S H) (hD : ∀ a, S a ≠ none → A a) (hS : va_S A H0 H locs) {t ci : Nat} {r : vw_C} (ht : (tyL cy)[t]? = some (cy t, .object r.1)) (hc : vwCl[ci]? = some r) {i : Int32} {x : Nat} (hg : sR S a t ci i x = some S1) (hdg : decode cc pc = .ok (.aastore, 1))
    (kk : ∀ (H1 : Heap) (locs1 : List Loc), H1.size = H.size → SP D cy S1 H1 → (∀ a, S1 a ≠ none → A a) → va_S A H0 H1 locs1 → W p l e R s m args below meth c H1 locs1 cells slots Q (F0 m (pc + 1) ls rest)) : W p l e R s m args below meth c H locs cells slots Q (F0 m pc ls (.ref x :: .int i :: .ref a :: rest)) := by
  obtain ⟨n, f, fs, h1, hin, h2, rfl⟩ := sR_spec hg
  have hAa : A a := hD a (by rw [h1]; exact fun h => by cases h)
  have hlt : i.toNatClampNeg < n := Nat.not_le.mp fun q => hin (Or.inr q)
  have h0 : ¬ i < 0 := fun q => hin (Or.inl q)
  obtain ⟨r', hr', cellV, g1, g2, g3, -⟩ := (show va_at D vwCl (x, .inr (ci, fs)) H from hP x _ h2)
  have hcls := (hK.1 ci r hc).2
  obtain ⟨kA, comp, k1, k2, k3, -⟩ := (hK.2 t _ ht).2
  have hcomp : comp = D.1 ci := Option.some.inj (k3.symm.trans hcls.1)
  subst hcomp
  obtain ⟨kC, hkC, -⟩ := hcls.2
  refine W.aast hexec hb (hP a _ h1) (fun q h => by cases h) (fun h => by cases h) k1 k2 rfl hkC ⟨h0, by show _ < (arrV _ _ _).slots.size; rw [arrV_size]; exact hlt⟩ g1 (fun q h => by rw [g3] at h; cases h) (by rw [g2]; exact hkC) (by rw [g2]; exact va_assign hcls) rfl rfl hdg fun H1 e z oq => ?_
  refine kk H1 _ z (hP.upd ?_ oq) (dom_up hD hAa) (hS.put z oq hAa)
  show H1[a]? = some (vp_cell _ _)
  rw [e]
  rw [vp_cell_q, vp_cell_q, arrV_store]
  congr 2
  funext q
  by_cases hq : q = i.toNatClampNeg
  · subst hq
    simp [updV, va_up, va_rf]
  · simp [updV, va_up, hq]
theorem va_S.grow {H1 : Heap} (hS : va_S A H0 H locs) (z : H1.size = H.size + 1) (o : ∀ q : Nat, q < H.size → H1[q]? = H[q]?) : va_S A H0 H1 locs := ⟨Nat.le_trans hS.1 (by omega), fun x h1 h2 => (o x (Nat.lt_of_lt_of_le h1 hS.1)).trans (hS.2.1 x h1 h2), hS.2.2⟩
theorem SP.push {H1 : Heap} (hP : SP D cy S H) (o : ∀ q : Nat, q < H.size → H1[q]? = H[q]?) {e : Cl} (he : va_at D vwCl (H.size, trC cy e) H1) : SP D cy (va_up S H.size (some e)) H1 := by
  intro b e' hb
  by_cases hba : b = H.size
  · subst hba
    rw [va_up_self] at hb
    cases hb
    exact he
  · rw [va_up_ne _ _ hba] at hb
    exact (hP b e' hb).kept (o b (hP.lt hb))
theorem r_new (hexec : p.tables.exec = Jvm.exec) (hb : c.code = cc) {own C : String} {T : u_T} {N ci index : Nat} {Ts : List Cond} (hts : ∀ w ∈ Ts, w.before args s = true) (hin : ∀ w ∈ u_ws C T N, w ∈ Ts) (ty : Nat → FieldType) (hty : ∀ k, k < N → parseFieldDescriptor (T k).2.2.1 = some (ty k)) (hown : s.vm.findClass own = some m.cls) (hcl : (Cond.classLink own index C).before args s = true) (hinst : (Cond.instantiable C N).before args s = true) (hini : (Cond.initialized C).before args s = true)
    (hK : va_K D vwCl (tyL cy) s) (hP : SP D cy S H) (hD : ∀ a, S a ≠ none → A a) (hS : va_S A H0 H locs) (hA : ∀ q, H0.size ≤ q → A q) (hc : vwCl[ci]? = some (C, T, N)) {fs : List Value} (hfs : ∀ j, j < N → defaultValue (ty j) = vp_V fs j) (hcells : cells + 1 ≤ R.cells) (hslots : slots + N ≤ R.slots) (hdg : decode cc pc = .ok (.new index, 3)) {h : Nat} (hh : H.size = h)
    (kk : ∀ (H1 : Heap), H1.size = h + 1 → SP D cy (va_up S h (some (.inl (ci, fs)))) H1 → (∀ a, va_up S h (some (.inl (ci, fs))) a ≠ none → A a) → va_S A H0 H1 locs →
      W p l e R s m args below meth c H1 locs (cells + 1) (slots + N) Q (F0 m (pc + 3) ls (.ref h :: rest))) : W p l e R s m args below meth c H locs cells slots Q (F0 m pc ls rest) := by
  subst hh
  have hKn := hK.1 ci _ hc
  refine W.newcK hexec hb hown hcl hinst hini rfl hdg hcells hslots hKn.2.1 rfl fun H1 kC hkC e1 z1 o1 => ?_
  exact kk H1 z1 (hP.push o1 ⟨_, hc, (u_born ty hts hin hKn hkC e1 hty).to hfs⟩) (dom_up hD (hA _ hS.1)) (va_S.grow hS z1 o1)
theorem r_newI (hexec : p.tables.exec = Jvm.exec) (hb : c.code = cc) (harr : (Cond.arrayClass .int).before args s = true) (hK : va_K D vwCl (tyL cy) s) (hP : SP D cy S H) (hD : ∀ a, S a ≠ none → A a) (hS : va_S A H0 H locs) (hA : ∀ q, H0.size ≤ q → A q)
    {n : Int32} {N : Nat} (hn : ¬ n < 0) (hN : n.toNatClampNeg = N) (hbytes : N * componentBytes .int ≤ 536870912) (hcells : cells + 1 ≤ R.cells) (hslots : slots + N ≤ R.slots) (hdg : decode cc pc = .ok (.newarray .int, 2)) {h : Nat} (hh : H.size = h)
    (kk : ∀ (H1 : Heap), H1.size = h + 1 → SP D cy (va_up S h (some (arI N (fun _ => 0)))) H1 → (∀ a, va_up S h (some (arI N (fun _ => 0))) a ≠ none → A a) → va_S A H0 H1 locs →
      W p l e R s m args below meth c H1 locs (cells + 1) (slots + N) Q (F0 m (pc + 2) ls (.ref h :: rest))) : W p l e R s m args below meth c H locs cells slots Q (F0 m pc ls (.int n :: rest)) := by
  refine va_newaK (atype := .int) hexec hb harr rfl hdg rfl hn hN hbytes hcells hslots hh fun H1 cA e1 z1 o1 hAr hNm => ?_
  subst hh
  have hcA : cA = cy 0 := Option.some.inj (hNm.symm.trans (hK.2 0 _ rfl).2)
  subst hcA
  refine kk H1 z1 (hP.push o1 ?_) (dom_up hD (hA _ hS.1)) (va_S.grow hS z1 o1)
  show H1[H.size]? = some (vp_cell _ _)
  rw [vp_cell_i]
  exact e1
theorem r_newJ (hexec : p.tables.exec = Jvm.exec) (hb : c.code = cc) (harr : (Cond.arrayClass .long).before args s = true) (hK : va_K D vwCl (tyL cy) s) (hP : SP D cy S H) (hD : ∀ a, S a ≠ none → A a) (hS : va_S A H0 H locs) (hA : ∀ q, H0.size ≤ q → A q)
    {n : Int32} {N : Nat} (hn : ¬ n < 0) (hN : n.toNatClampNeg = N) (hbytes : N * componentBytes .long ≤ 536870912) (hcells : cells + 1 ≤ R.cells) (hslots : slots + N ≤ R.slots) (hdg : decode cc pc = .ok (.newarray .long, 2)) {h : Nat} (hh : H.size = h)
    (kk : ∀ (H1 : Heap), H1.size = h + 1 → SP D cy (va_up S h (some (arJ N (fun _ => 0)))) H1 → (∀ a, va_up S h (some (arJ N (fun _ => 0))) a ≠ none → A a) → va_S A H0 H1 locs →
      W p l e R s m args below meth c H1 locs (cells + 1) (slots + N) Q (F0 m (pc + 2) ls (.ref h :: rest))) : W p l e R s m args below meth c H locs cells slots Q (F0 m pc ls (.int n :: rest)) := by
  refine va_newaK (atype := .long) hexec hb harr rfl hdg rfl hn hN hbytes hcells hslots hh fun H1 cA e1 z1 o1 hAr hNm => ?_
  subst hh
  have hcA : cA = cy 3 := Option.some.inj (hNm.symm.trans (hK.2 3 _ rfl).2)
  subst hcA
  refine kk H1 z1 (hP.push o1 ?_) (dom_up hD (hA _ hS.1)) (va_S.grow hS z1 o1)
  show H1[H.size]? = some (vp_cell _ _)
  rw [vp_cell_l]
  exact e1
theorem r_newq (hexec : p.tables.exec = Jvm.exec) (hb : c.code = cc) {own C : String} {index t : Nat} (hown : s.vm.findClass own = some m.cls) (hclink : (Cond.classLink own index C).before args s = true) (hover : (Cond.arrayOver (.object C)).before args s = true) (hK : va_K D vwCl (tyL cy) s) (ht : (tyL cy)[t]? = some (cy t, .object C)) (hP : SP D cy S H) (hD : ∀ a, S a ≠ none → A a) (hS : va_S A H0 H locs) (hA : ∀ q, H0.size ≤ q → A q)
    {n : Int32} {N : Nat} (hn : ¬ n < 0) (hN : n.toNatClampNeg = N) (hbytes : N * 4 ≤ 536870912) (hcells : cells + 1 ≤ R.cells) (hslots : slots + N ≤ R.slots) (hdg : decode cc pc = .ok (.anewarray index, 3)) {h : Nat} (hh : H.size = h)
    (kk : ∀ (H1 : Heap), H1.size = h + 1 → SP D cy (va_up S h (some (arR t N (fun _ => none)))) H1 → (∀ a, va_up S h (some (arR t N (fun _ => none))) a ≠ none → A a) → va_S A H0 H1 locs →
      W p l e R s m args below meth c H1 locs (cells + 1) (slots + N) Q (F0 m (pc + 3) ls (.ref h :: rest))) : W p l e R s m args below meth c H locs cells slots Q (F0 m pc ls (.int n :: rest)) := by
  subst hN
  subst hh
  refine W.anew hexec hb hown hclink hover rfl hdg rfl hn hbytes hcells hslots fun cA kA comp f1 f2 f3 f4 => ?_
  generalize hH1 : H.push ({ cls := cA, slots := Array.replicate n.toNatClampNeg .null, vm := .none } : Cell) = H1
  have z1 : H1.size = H.size + 1 := by rw [← hH1, Array.size_push]
  have e1 : H1[H.size]? = some (arrV cA n.toNatClampNeg (fun _ => .null)) := by rw [← hH1, Array.getElem?_push_size, ← arrV_new]
  have o1 : ∀ q : Nat, q < H.size → H1[q]? = H[q]? := fun q hq => by rw [← hH1, Array.getElem?_push, if_neg (Nat.ne_of_lt hq)]
  obtain ⟨kA', comp', g1, g2, g3, g4⟩ := (hK.2 t _ ht).2
  have hcA : cA = cy t := Option.some.inj (f1.symm.trans g4)
  subst hcA
  refine kk H1 z1 (hP.push o1 ?_) (dom_up hD (hA _ hS.1)) (va_S.grow hS z1 o1)
  show H1[H.size]? = some (vp_cell _ _)
  rw [vp_cell_q]
  exact e1
end ROWS
