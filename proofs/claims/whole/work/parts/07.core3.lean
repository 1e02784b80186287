/-! small rows that the walks use -/
def FU : Nat := 2000
theorem bd {α β : Type} {o : Option α} {f : α → Option β} {b : β} (h : o.bind f = some b) : ∃ a, o = some a ∧ f a = some b := Option.bind_eq_some_iff.mp h
theorem ifp {α : Type} {c : Prop} {i : Decidable c} {t e r : α} (hc : c) (h : @ite α c i t e = r) : t = r := (if_pos hc).symm.trans h
theorem ifn {α : Type} {c : Prop} {i : Decidable c} {t e r : α} (hc : ¬ c) (h : @ite α c i t e = r) : e = r := (if_neg hc).symm.trans h
theorem sel_l {α β γ : Type} {f : α → γ} {g : β → γ} {x : α ⊕ β} {y : α} {r : γ} (hx : x = .inl y) (h : Sum.elim f g x = r) : f y = r := by subst hx; exact h
theorem sel_r {α β γ : Type} {f : α → γ} {g : β → γ} {x : α ⊕ β} {y : β} {r : γ} (hx : x = .inr y) (h : Sum.elim f g x = r) : g y = r := by subst hx; exact h
def nn (x : UInt64) : Option Unit := if x &&& 0x7fffffffffffffff ≤ 0x7ff0000000000000 then some () else none
theorem nn_spec {x : UInt64} {u : Unit} (h : nn x = some u) : vf_n64 x := by
  unfold nn at h
  split at h
  · assumption
  · cases h
def zz (v : Int32) : Option Unit := if v = 0 ∨ v = 1 then some () else none
theorem zz_spec {v : Int32} {u : Unit} (h : zz v = some u) : v = 0 ∨ v = 1 := by
  unfold zz at h
  split at h
  · assumption
  · cases h
theorem pI_spec {S S1 : St} {a ci k : Nat} {v : Int32} (h : pI S a ci k v = some S1) : pV S a ci k (.int v) = some S1 := h
theorem pZ_spec {S S1 : St} {a ci k : Nat} {v : Int32} (h : pZ S a ci k v = some S1) : pV S a ci k (.int v) = some S1 ∧ (v = 0 ∨ v = 1) := by
  unfold pZ at h
  split at h
  · exact ⟨h, by assumption⟩
  · cases h
theorem tsw_out {x : Int32} (lo n : Nat) (h : ∀ k : Nat, k < n → ¬ x = Int32.ofNat (lo + k)) {hi : Int} (hb : lo + n ≤ 1000 ∧ hi = (lo : Int) + n - 1) : x.toInt < (lo : Int) ∨ hi < x.toInt := by
  obtain ⟨hb, rfl⟩ := hb
  by_cases h1 : x.toInt < lo
  · exact Or.inl h1
  · right
    rcases (show ((lo : Int) + n - 1 < x.toInt) ∨ (x.toInt ≤ (lo : Int) + n - 1) by omega) with h2 | h2
    · exact h2
    · exfalso
      refine h (x.toInt - lo).toNat (by omega) ?_
      apply Int32.toInt_inj.mp
      rw [Int32.toInt_ofNat_of_lt (by omega)]
      omega
section ENDS3
variable {p : Program} {l : Launch} {e : Env} {R : Room} {s : State} {m : MethodId} {args : Array Value} {below : List Frame} {meth : Method} {c : Code} {H : Heap} {locs : List Loc} {cells slots mc ms : Nat} {cc : ByteArray} {pc : Nat} {ls : Array Slot} {rest : List Value} {A : Nat → Prop} {D : va_G} {cy : Nat → ClassId} {S : St} {sz1 : Nat}
theorem e_vA (hx : p.tables.exec = Jvm.exec) (hb : c.code = cc) (hlocks : meth.locks = false) (hr : meth.sig.returnType = none) (hP : SP D cy S H) (hD : ∀ a, S a ≠ none → A a) (hz : H.size = sz1) (hS : va_S A s.heap H locs) (hc : cells ≤ mc) (hs : slots ≤ ms) (hdg : decode cc pc = .ok (.return_, 1)) : W p l e R s m args below meth c H locs cells slots (MQ below (va_Qv (fun _ : Unit => True) (fun _ t => t.heap.size = sz1 ∧ PoS D cy S A t) A) args s mc ms A) (F0 m pc ls []) := by
  refine W.widen hc hs ?_
  exact W.vret hx hb hr (fun t ht hW => ⟨⟨(), rfl, trivial, by rw [ht]; exact hz, by rw [ht]; exact hP, hD⟩, hS.F ht⟩) hS.2.2 hdg hlocks
theorem o_p {α : Type} {Qc : Array Value → State → Outcome → State → Prop} {E : String} {ce : Cell} {q9 : Addr} (hout : ∀ x ∈ c.exceptionTable.toList, covers x pc = false) (hlocks : meth.locks = false) (h1 : H[q9]? = some ce) (h2 : ce.vm = .none) (h3 : s.vm.findClass E = some ce.cls) (hS : va_S noA s.heap H locs) (hc : cells ≤ mc) (hs : slots ≤ ms) :
    vx_W p l e R s m args below meth c H locs cells slots (vx_MQ below Qc (vx_X (fun _ : Unit => True) (fun E' _ _ => (Sum.inl E : String ⊕ α) = .inl E') noA) args s mc ms noA) (F0 m pc ls rest) q9 :=
  vx_out hout hlocks h1 h2 h3 (fun t ht _ => ⟨(), trivial, rfl, hS.F ht⟩) hS.2.2 hc hs
theorem o_m {α : Type} {Qc : Array Value → State → Outcome → State → Prop} {E : String} {ce : Cell} {q9 : Addr} (hout : ∀ x ∈ c.exceptionTable.toList, covers x pc = false) (hlocks : meth.locks = false) (h1 : H[q9]? = some ce) (h2 : ce.vm = .none) (h3 : s.vm.findClass E = some ce.cls) (hP : SP D cy S H) (hD : ∀ a, S a ≠ none → A a) (hS : va_S A s.heap H locs) (hc : cells ≤ mc) (hs : slots ≤ ms) :
    vx_W p l e R s m args below meth c H locs cells slots (vx_MQ below Qc (vx_X (fun _ : Unit => True) (fun E' _ t => (Sum.inl E : String ⊕ α) = .inl E' ∧ PoS D cy S A t) A) args s mc ms A) (F0 m pc ls rest) q9 :=
  vx_out hout hlocks h1 h2 h3 (fun t ht _ => ⟨(), trivial, ⟨rfl, by rw [ht]; exact hP, hD⟩, hS.F ht⟩) hS.2.2 hc hs
theorem at_all {ws : List Cond} {ps : List Nat} (h : ws = ps.filterMap (fun i => lw_tbl[i]?) ∧ ws.all (fun w => goodWord w || nwW w) = true) {args : Array Value} {s : State} (hts : ∀ w ∈ ALLW, w.before args s = true) (hE : NW s) : ∀ w ∈ ws, w.before args s = true := by
  intro w hw
  have h2 := List.all_eq_true.mp h.2 w hw
  rw [h.1] at hw
  obtain ⟨i, -, hi⟩ := List.mem_filterMap.mp hw
  have h1 : w ∈ lw_tbl := List.mem_of_getElem? hi
  simp only [Bool.or_eq_true] at h2
  rcases h2 with h2 | h2
  · exact hts w (List.mem_filter.mpr ⟨h1, h2⟩)
  · have ht : w.onTables = true := by cases w <;> first | rfl | (simp [nwW] at h2; done)
    exact va_Nw.use ht (hE w (List.mem_filter.mpr ⟨h1, h2⟩))
theorem aw_idx {ws : List Cond} (ps : List Nat) (h : ws = ps.filterMap (fun i => lw_tbl[i]?)) (hg : ws.all goodWord = true) : ∀ w ∈ ws, w ∈ ALLW := by
  intro w hw
  have h2 := List.all_eq_true.mp hg w hw
  rw [h] at hw
  obtain ⟨i, -, hi⟩ := List.mem_filterMap.mp hw
  exact List.mem_filter.mpr ⟨List.mem_of_getElem? hi, h2⟩
theorem throwF {t : State} (hS : va_S A s.heap H locs) (hz : H.size ≤ t.heap.size) (hk : ∀ q : Nat, q < H.size → t.heap[q]? = H[q]?) : va_F A s t := ⟨Nat.le_trans hS.1 hz, fun q h1 h2 => (hk q (Nat.lt_of_lt_of_le h1 hS.1)).trans (hS.2.1 q h1 h2)⟩
end ENDS3
def scr (L : Nat) (xs : Nat → Int32) (i : Int32) : Option Int32 := if i < 0 ∨ L ≤ i.toNatClampNeg then none else some (xs i.toNatClampNeg)
theorem r_scr {p : Program} {l : Launch} {e : Env} {R : Room} {s : State} {m : MethodId} {args : Array Value} {below : List Frame} {meth : Method} {c : Code} {H : Heap} {locs : List Loc} {cells slots : Nat} {Q : State → Prop} {cc : ByteArray} {pc : Nat} {ls : Array Slot} {rest : List Value} {A : Nat → Prop} {H0 : Heap} (hexec : p.tables.exec = Jvm.exec) (hb : c.code = cc) {b L : Nat} {xs : Nat → Int32} (hX : va_X b L xs s H0) (hbl : b < H0.size) (hbA : ¬ A b) (hS : va_S A H0 H locs) {i x : Int32} (hg : scr L xs i = some x) (hdg : decode cc pc = .ok (.iaload, 1))
    (kk : W p l e R s m args below meth c H locs cells slots Q (F0 m (pc + 1) ls (.int x :: rest))) : W p l e R s m args below meth c H locs cells slots Q (F0 m pc ls (.int i :: .ref b :: rest)) := by
  unfold scr at hg
  split at hg
  · cases hg
  · cases hg
    exact va_sld hexec hb hX hbl hbA hS (by assumption) hdg kk
