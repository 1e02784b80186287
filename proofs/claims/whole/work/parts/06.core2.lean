def STRS : List (String × Nat × String) := [(RX6, 69, "the buffer is not a row of 1 to 24 values"), (RX6, 92, "the block has 24 values"), (RX6, 111, "the block has one value alone"), (RX6, 119, "a block is not joined with itself"), (RX6, 121, "there would be more than 24 values"), (RX6, 132, "the first value stays"), (RX6, 146, "the day would be above 5000"), (RX6, 196, "the buffer has 60 characters"), (RX6, 207, "no state is saved"), (RX6, 265, "no such block"), (RX6, 268, "no such place"), (RX6, 270, "no such setting"), (RX6, 273, "there are 8 blocks"), (RX6, 275, "an argument is out of range")]
/-! THE WORDS, the contracts, the calls -/
def nwW : Cond → Bool
  | .castable _ _ => true
  | .declares _ => true
  | .methodLinkNest _ _ _ _ => true
  | _ => false
def ALLW : List Cond := lw_tbl.filter goodWord
def NWS : List Cond := lw_tbl.filter nwW
theorem aw {w : Cond} (i : Nat) (h : lw_tbl[i]? = some w) (hg : goodWord w = true) : w ∈ ALLW := List.mem_filter.mpr ⟨List.mem_of_getElem? h, hg⟩
theorem nw {w : Cond} (i : Nat) (h : lw_tbl[i]? = some w) (hg : nwW w = true) : w ∈ NWS := List.mem_filter.mpr ⟨List.mem_of_getElem? h, hg⟩
theorem aw_all {ws : List Cond} (h : ws.all (fun w => decide (w ∈ lw_tbl) && goodWord w) = true) : ∀ w ∈ ws, w ∈ ALLW := fun w hw => by
  have h1 := List.all_eq_true.mp h w hw
  simp only [Bool.and_eq_true, decide_eq_true_eq] at h1
  exact List.mem_filter.mpr h1
theorem good_all {w : Cond} (h : w ∈ ALLW) : (w.onTables && w.keeps) = true ∨ ∃ ty, w = .arrayClass ty := good_of_word (List.mem_filter.mp h).2
abbrev wsA (y : MethodName) (b : ByteArray) (n : Nat) (r : Option FieldType) : List Cond := .code y b n r :: ALLW
abbrev wsW (y : MethodName) (b : ByteArray) (n : Nat) (r : Option FieldType) (hh : List (Nat × Nat × Nat × Nat)) : List Cond := .codeWith y b n r hh :: ALLW
theorem payA {args : Array Value} {s : State} (hts : ∀ w ∈ ALLW, w.before args s = true) {w0 : Cond} (hc : w0 ∈ ALLW) : ∀ w ∈ w0 :: ALLW, ∀ (a' : Array Value) (U : State), s.WarmedH U.vm → w.before a' U = true := by
  intro w hw
  have h : w ∈ ALLW := (List.mem_cons.mp hw).elim (fun e => by rw [e]; exact hc) id
  exact pay_in (big := ALLW) (ws := ALLW) hts (fun w h => ⟨h, good_all h⟩) w h
def NW (U : State) : Prop := ∀ w ∈ NWS, va_Nw w U
theorem NW.warm {s U : State} (hW : s.WarmedH U.vm) (h : NW s) : NW U := by
  intro w hw
  have h1 := h w hw
  have h2 := (List.mem_filter.mp hw).2
  cases w <;> first | exact va_Nw.warmC hW h1 | exact va_Nw.warmD hW h1 | exact va_Nw.warmM hW h1 | (simp [nwW] at h2; done)
theorem NW.blind {U : State} {g : JFrame} {mk : MethodId} {a : Array Value} (h : NW U) : NW (U.calling g mk a) := fun w hw => by
  have h2 := (List.mem_filter.mp hw).2
  have ht : w.onTables = true := by cases w <;> first | rfl | (simp [nwW] at h2; done)
  exact va_Nw.same ht (u := U) (U := U.calling g mk a) rfl (h w hw)
/-- what a constructor needs of the tables beside the words -/
def NWA (U : State) : Prop := NW U ∧ va_AO RX0 U ∧ va_AO RX2 U
theorem NWA.warm {s U : State} (hW : s.WarmedH U.vm) (h : NWA s) : NWA U := ⟨h.1.warm hW, va_AO.moved hW.alike h.2.1, va_AO.moved hW.alike h.2.2⟩
theorem NWA.blind {U : State} {g : JFrame} {mk : MethodId} {a : Array Value} (h : NWA U) : NWA (U.calling g mk a) := ⟨h.1.blind, va_AO.moved (u := U) (U := U.calling g mk a) (Vm.Alike.refl U.vm) h.2.1, va_AO.moved (u := U) (U := U.calling g mk a) (Vm.Alike.refl U.vm) h.2.2⟩
theorem cwV_of {R : Room} {s : State} {args : Array Value} {own C : String} {index maxL n : Nat} {y : MethodName} {bytes : ByteArray} {ret : Option FieldType} {rm : Room} {mc ms : Nat} (hts : ∀ w ∈ ALLW, w.before args s = true)
    (h1 : Cond.methodLink own index y ∈ ALLW) (h2 : Cond.instanceMethod y ∈ ALLW) (h3 : Cond.selects C y y ∈ ALLW) (h4 : Cond.initialized y.cls ∈ ALLW) (h5 : Cond.code y bytes maxL ret ∈ ALLW) (hrc : rm.cells = mc) (hrs : rm.slots = ms)
    (hd : y.cls ≠ "java/lang/invoke/MethodHandle" ∧ y.cls ≠ "java/lang/invoke/VarHandle" ∧ (parseMethodDescriptor y.desc).map (fun d => d.parameters.length) = some n) (hR : rm.frames + 1 ≤ R.frames ∧ 8 + (maxL + 11) + rm.locals ≤ R.locals) : CallW R s args own C index y bytes maxL ret (wsA y bytes maxL ret) rm mc ms n := by
  refine ⟨⟨hrc, hrs, hR.1, hR.2, payA hts h5, List.mem_cons_self, hts _ h5, hts _ h4, ⟨hd.1, hd.2.1⟩, fun sig h => ?_, hts _ h1⟩, hts _ h2, hts _ h3⟩
  have h := hd.2.2
  simp_all
theorem cwS_of {R : Room} {s : State} {args : Array Value} {own : String} {index maxL n : Nat} {y : MethodName} {bytes : ByteArray} {ret : Option FieldType} {rm : Room} {mc ms : Nat} (hts : ∀ w ∈ ALLW, w.before args s = true)
    (h1 : Cond.methodLink own index y ∈ ALLW) (h2 : Cond.static y ∈ ALLW) (h4 : Cond.initialized y.cls ∈ ALLW) (h5 : Cond.code y bytes maxL ret ∈ ALLW) (hrc : rm.cells = mc) (hrs : rm.slots = ms)
    (hd : y.cls ≠ "java/lang/invoke/MethodHandle" ∧ y.cls ≠ "java/lang/invoke/VarHandle" ∧ (parseMethodDescriptor y.desc).map (fun d => d.parameters.length) = some n) (hR : rm.frames + 1 ≤ R.frames ∧ 8 + (maxL + 11) + rm.locals ≤ R.locals) : CallB R s args own index y bytes maxL ret (wsA y bytes maxL ret) rm mc ms n ∧ (Cond.static y).before args s = true := by
  refine ⟨⟨hrc, hrs, hR.1, hR.2, payA hts h5, List.mem_cons_self, hts _ h5, hts _ h4, ⟨hd.1, hd.2.1⟩, fun sig h => ?_, hts _ h1⟩, hts _ h2⟩
  have h := hd.2.2
  simp_all
theorem cwI_of {R : Room} {s : State} {args : Array Value} {own : String} {index maxL n : Nat} {y : MethodName} {bytes : ByteArray} {rm : Room} {mc ms : Nat} (hts : ∀ w ∈ ALLW, w.before args s = true)
    (h1 : Cond.methodLink own index y ∈ ALLW) (h2 : Cond.instanceMethod y ∈ ALLW) (h4 : Cond.initialized y.cls ∈ ALLW) (h5 : Cond.code y bytes maxL none ∈ ALLW) (hrc : rm.cells = mc) (hrs : rm.slots = ms) (hn : y.name = "<init>")
    (hd : y.cls ≠ "java/lang/invoke/MethodHandle" ∧ y.cls ≠ "java/lang/invoke/VarHandle" ∧ (parseMethodDescriptor y.desc).map (fun d => d.parameters.length) = some n) (hR : rm.frames + 1 ≤ R.frames ∧ 8 + (maxL + 11) + rm.locals ≤ R.locals) : CallB R s args own index y bytes maxL none (wsA y bytes maxL none) rm mc ms n ∧ y.name = "<init>" ∧ (Cond.instanceMethod y).before args s = true := by
  refine ⟨⟨hrc, hrs, hR.1, hR.2, payA hts h5, List.mem_cons_self, hts _ h5, hts _ h4, ⟨hd.1, hd.2.1⟩, fun sig h => ?_, hts _ h1⟩, hn, hts _ h2⟩
  have h := hd.2.2
  simp_all
theorem cwN_of {R : Room} {s : State} {args : Array Value} {own host : String} {index maxL n : Nat} {y : MethodName} {bytes : ByteArray} {rm : Room} {mc ms : Nat} (hts : ∀ w ∈ ALLW, w.before args s = true)
    (h1 : va_Nw (.methodLinkNest own index y host) s) (h2 : Cond.instanceMethod y ∈ ALLW) (h4 : Cond.initialized y.cls ∈ ALLW) (h5 : Cond.code y bytes maxL none ∈ ALLW) (hrc : rm.cells = mc) (hrs : rm.slots = ms) (hn : y.name = "<init>")
    (hd : y.cls ≠ "java/lang/invoke/MethodHandle" ∧ y.cls ≠ "java/lang/invoke/VarHandle" ∧ (parseMethodDescriptor y.desc).map (fun d => d.parameters.length) = some n) (hR : rm.frames + 1 ≤ R.frames ∧ 8 + (maxL + 11) + rm.locals ≤ R.locals) : va_CN R s args own index y host bytes maxL none (wsA y bytes maxL none) rm mc ms n ∧ y.name = "<init>" ∧ (Cond.instanceMethod y).before args s = true := by
  refine ⟨⟨⟨hrc, hrs, hR.1, hR.2, payA hts h5, List.mem_cons_self⟩, hts _ h5, hts _ h4, ⟨hd.1, hd.2.1⟩, fun sig h => ?_, va_Nw.use rfl h1⟩, hn, hts _ h2⟩
  have h := hd.2.2
  simp_all
theorem cwW_of {R : Room} {s : State} {args : Array Value} {own : String} {index maxL n : Nat} {y : MethodName} {bytes : ByteArray} {ret : Option FieldType} {hh : List (Nat × Nat × Nat × Nat)} {rm : Room} {mc ms : Nat} (hts : ∀ w ∈ ALLW, w.before args s = true)
    (h1 : Cond.methodLink own index y ∈ ALLW) (h2 : Cond.static y ∈ ALLW) (h4 : Cond.initialized y.cls ∈ ALLW) (h5 : Cond.codeWith y bytes maxL ret hh ∈ ALLW) (hrc : rm.cells = mc) (hrs : rm.slots = ms)
    (hd : y.cls ≠ "java/lang/invoke/MethodHandle" ∧ y.cls ≠ "java/lang/invoke/VarHandle" ∧ (parseMethodDescriptor y.desc).map (fun d => d.parameters.length) = some n) (hR : rm.frames + 1 ≤ R.frames ∧ 8 + (maxL + 11) + rm.locals ≤ R.locals) : vx_CSW R s args own index y bytes maxL ret hh (wsW y bytes maxL ret hh) rm mc ms n := by
  exact vx_cwSW n hts (fun w h => by
    have h : w ∈ ALLW := by
      rcases List.mem_append.mp h with h | h
      · simp only [List.mem_cons, List.not_mem_nil, or_false] at h
        rcases h with rfl | rfl | rfl
        · exact h1
        · exact h2
        · exact h4
      · rcases List.mem_cons.mp h with h | h
        · rw [h]; exact h5
        · exact h
    exact ⟨h, good_all h⟩) rfl hrc hrs hd hR
-- which addresses a method may change
def dm (S : St) (sz : Nat) : Nat → Prop := fun a => S a ≠ none ∨ sz ≤ a
abbrev noA : Nat → Prop := fun _ => False
/-- what throwing needs of the world -/
def ENV (A : Nat → Prop) (U : State) : Prop := NW U ∧ vx_Zq Bundle.tN "UNASSIGNED_STACK" Bundle.steD A U U.heap ∧ vx_Zq Bundle.tN "SUPPRESSED_SENTINEL" Bundle.listD A U U.heap ∧ ∀ q ∈ STRS, ∃ sa, vk_R q.1 q.2.1 q.2.2 sa U
theorem ENV.blind {A : Nat → Prop} {U : State} {g : JFrame} {mk : MethodId} {a : Array Value} (h : ENV A U) : ENV A (U.calling g mk a) :=
  ⟨h.1.blind, vx_Zq.moved (u := U) (U := U.calling g mk a) (Vm.Alike.refl U.vm) h.2.1, vx_Zq.moved (u := U) (U := U.calling g mk a) (Vm.Alike.refl U.vm) h.2.2.1, fun q hq => by
    obtain ⟨sa, h9⟩ := h.2.2.2 q hq
    exact ⟨sa, vk_R.same (u := U) (U := U.calling g mk a) rfl h9⟩⟩
theorem ENV.at {A B : Nat → Prop} {s U : State} {H : Heap} {locs : List Loc} (h : ENV A s) (hS : va_S A s.heap H locs) (hU : U.heap = H) (hW : s.WarmedH U.vm) (hB : ∀ q, B q → A q) : ENV B U :=
  ⟨h.1.warm hW, by rw [hU]; exact (vx_Zq.moved hW.alike (h.2.1.kept hS.2.1)).narrow hB, by rw [hU]; exact (vx_Zq.moved hW.alike (h.2.2.1.kept hS.2.1)).narrow hB, fun q hq => by
    obtain ⟨sa, h9⟩ := h.2.2.2 q hq
    exact ⟨sa, h9.warm hW⟩⟩
-- the starts
abbrev PS (D : va_G) (cy : Nat → ClassId) (S : St) : State → Prop := fun U => SP D cy S U.heap ∧ va_K D vwCl (tyL cy) U
abbrev PN (D : va_G) (cy : Nat → ClassId) (S : St) (sz : Nat) : State → Prop := fun U => U.heap.size = sz ∧ SP D cy S U.heap ∧ va_K D vwCl (tyL cy) U
abbrev PSX (D : va_G) (cy : Nat → ClassId) (S : St) : State → Prop := fun U => SP D cy S U.heap ∧ va_K D vwCl (tyL cy) U ∧ ENV noA U
abbrev PNX (D : va_G) (cy : Nat → ClassId) (S : St) (sz : Nat) : State → Prop := fun U => U.heap.size = sz ∧ SP D cy S U.heap ∧ va_K D vwCl (tyL cy) U ∧ ENV (dm S sz) U
abbrev PNA (D : va_G) (cy : Nat → ClassId) (S : St) (sz : Nat) : State → Prop := fun U => U.heap.size = sz ∧ SP D cy S U.heap ∧ va_K D vwCl (tyL cy) U ∧ NWA U
/-- pairs of exceptions' classes that are not cast -/
def NCL : List (String × String) := [("java/lang/IllegalStateException", "java/lang/IllegalArgumentException"), ("java/lang/IndexOutOfBoundsException", "java/lang/IllegalArgumentException"), ("java/lang/IllegalArgumentException", "java/lang/IllegalStateException"), ("java/lang/IndexOutOfBoundsException", "java/lang/IllegalStateException"), ("java/lang/IllegalArgumentException", "java/lang/IndexOutOfBoundsException"), ("java/lang/IllegalStateException", "java/lang/IndexOutOfBoundsException")]
def NCS (U : State) : Prop := ∀ q ∈ NCL, va_Nc q.1 q.2 U
theorem NCS.moved {u U : State} (hvm : u.vm.Alike U.vm) (h : NCS u) : NCS U := fun q hq => va_Nc.moved hvm (h q hq)
abbrev PNL (D : va_G) (cy : Nat → ClassId) (S : St) (sz : Nat) : State → Prop := fun U => U.heap.size = sz ∧ SP D cy S U.heap ∧ va_K D vwCl (tyL cy) U ∧ ENV (dm S sz) U ∧ NCS U
theorem kM {D : va_G} {cy : Nat → ClassId} {U : State} {g : JFrame} {mk : MethodId} {a : Array Value} (h : va_K D vwCl (tyL cy) U) : va_K D vwCl (tyL cy) (U.calling g mk a) := va_K.moved (u := U) (U := U.calling g mk a) (Vm.Alike.refl U.vm) h
theorem fb_PS {D : va_G} {cy : Nat → ClassId} {S : St} {av : List Value} : FrameBlind (va_Pc av (PS D cy S)) := fun _ _ _ _ q => ⟨q.1, q.2.1, kM q.2.2⟩
theorem fb_PN {D : va_G} {cy : Nat → ClassId} {S : St} {sz : Nat} {av : List Value} : FrameBlind (va_Pc av (PN D cy S sz)) := fun _ _ _ _ q => ⟨q.1, q.2.1, q.2.2.1, kM q.2.2.2⟩
theorem fb_PSX {D : va_G} {cy : Nat → ClassId} {S : St} {av : List Value} : FrameBlind (va_Pc av (PSX D cy S)) := fun _ _ _ _ q => ⟨q.1, q.2.1, kM q.2.2.1, q.2.2.2.blind⟩
theorem fb_PNX {D : va_G} {cy : Nat → ClassId} {S : St} {sz : Nat} {av : List Value} : FrameBlind (va_Pc av (PNX D cy S sz)) := fun _ _ _ _ q => ⟨q.1, q.2.1, q.2.2.1, kM q.2.2.2.1, q.2.2.2.2.blind⟩
theorem fb_PNA {D : va_G} {cy : Nat → ClassId} {S : St} {sz : Nat} {av : List Value} : FrameBlind (va_Pc av (PNA D cy S sz)) := fun _ _ _ _ q => ⟨q.1, q.2.1, q.2.2.1, kM q.2.2.2.1, q.2.2.2.2.blind⟩
theorem fb_PNL {D : va_G} {cy : Nat → ClassId} {S : St} {sz : Nat} {av : List Value} : FrameBlind (va_Pc av (PNL D cy S sz)) := fun _ U g mk q => ⟨q.1, q.2.1, q.2.2.1, kM q.2.2.2.1, q.2.2.2.2.1.blind, NCS.moved (u := U) (Vm.Alike.refl U.vm) q.2.2.2.2.2⟩
abbrev PoS (D : va_G) (cy : Nat → ClassId) (S1 : St) (A : Nat → Prop) (t : State) : Prop := SP D cy S1 t.heap ∧ ∀ a, S1 a ≠ none → A a
theorem recv {D : va_G} {cy : Nat → ClassId} {s : State} {H : Heap} {S : St} {b ci : Nat} {u : Unit} {q : vw_C} (hK : va_K D vwCl (tyL cy) s) (hP : SP D cy S H) (hc : vwCl[ci]? = some q) (h : oO S b ci = some u) : ∃ cell : Cell, H[b]? = some cell ∧ cell.vm.isStatics = false ∧ s.vm.findClass q.1 = some cell.cls := by
  obtain ⟨fs, h1⟩ := oO_spec h
  exact va_recv (D := D) (cl := vwCl) (q0 := 0) hK (hP.one h1) hc rfl
theorem dm_sub {A0 : Nat → Prop} {S : St} {H0 H : Heap} {locs : List Loc} (hD : ∀ a, S a ≠ none → A0 a) (hA : ∀ q, H0.size ≤ q → A0 q) (hS : va_S A0 H0 H locs) : ∀ q, dm S H.size q → A0 q := fun q h => h.elim (hD q) (fun h => hA q (Nat.le_trans hS.1 h))
section CALLS
variable {p : Program} {l : Launch} {e : Env} {R : Room} {s : State} {m : MethodId} {args : Array Value} {below : List Frame} {meth : Method} {c : Code} {H : Heap} {locs : List Loc} {cells slots : Nat} {Q : State → Prop}
variable {cc : ByteArray} {pc index : Nat} {ls : Array Slot} {rest st0 As : List Value} {D : va_G} {cy : Nat → ClassId} {A0 : Nat → Prop} {b n nL ci mc ms : Nat} {S S1 : St} {H0 : Heap} {own : String} {y : MethodName} {bytes : ByteArray} {maxL : Nat} {ret : Option FieldType} {rm : Room} {q : vw_C} {u : Unit}
theorem k_iVp {r : Int32} (hF : CallFix p m c cc nL s args ALLW own) (hsz : ls.size = nL) (hM : Met l y (wsA y bytes maxL ret) rm (va_Pc (.ref b :: As) (PS D cy S)) (va_Qi (fun r' (_ : Unit) => r' = r) (fun _ _ => True) noA) mc ms noA)
    (cw : CallW R s args own q.1 index y bytes maxL ret (wsA y bytes maxL ret) rm mc ms n) (hn : As.length = n) (hK : va_K D vwCl (tyL cy) s) (hP : SP D cy S H) (hS : va_S A0 H0 H locs) (hc : oO S b ci = some u) (hcl : vwCl[ci]? = some q) (hW : (rest.map fun v => v.category).sum ≤ 8) (hst : st0 = As.reverse ++ .ref b :: rest) (hdg : decode cc pc = .ok (.invokevirtual index, 3)) (hf : cells + mc ≤ R.cells ∧ slots + ms ≤ R.slots)
    (kk : ∀ (H1 : Heap) (locs1 : List Loc), SP D cy S H1 → va_S A0 H0 H1 locs1 → W p l e R s m args below meth c H1 locs1 (cells + mc) (slots + ms) Q (F0 m (pc + 3) ls (.int r :: rest))) : W p l e R s m args below meth c H locs cells slots Q (F0 m pc ls st0) := by
  subst hst
  have hr := va_runV (As := As) (rest := rest) (H := H) (locs := locs) (cells := cells) (slots := slots) (meth := meth) (below := below) (e := e) (g := F0 m pc ls (As.reverse ++ .ref b :: rest)) hF hM cw ⟨fb_PS, recv hK hP hcl hc, fun U hU hW9 => ⟨rfl, by rw [hU]; exact hP, va_K.moved hW9.alike hK⟩⟩ rfl hn hsz rfl (lv_room hW) hdg hf
  exact va_calli hr hS (fun q _ h => False.elim h) (fun q h => False.elim h) (fun r _ t H1 locs1 ht _ hw hB _ hk1 hS1 => by
    subst hw
    exact kk H1 locs1 (hP.kept (fun q h => hk1 q h id)) hS1)
theorem k_iVpx {x : String ⊕ Int32} (hF : CallFix p m c cc nL s args ALLW own) (hsz : ls.size = nL) (hM : vx_Met l y (wsA y bytes maxL ret) rm (va_Pc (.ref b :: As) (PSX D cy S)) (va_Qi (fun r' (_ : Unit) => x = .inr r') (fun _ _ => True) noA) (vx_X (fun _ : Unit => True) (fun E _ _ => x = .inl E) noA) mc ms noA)
    (cw : CallW R s args own q.1 index y bytes maxL ret (wsA y bytes maxL ret) rm mc ms n) (hn : As.length = n) (hK : va_K D vwCl (tyL cy) s) (hP : SP D cy S H) (hS : va_S A0 s.heap H locs) (hE : ENV A0 s) (hc : oO S b ci = some u) (hcl : vwCl[ci]? = some q) (hW : (rest.map fun v => v.category).sum ≤ 8) (hst : st0 = As.reverse ++ .ref b :: rest) (hdg : decode cc pc = .ok (.invokevirtual index, 3)) (hf : cells + mc ≤ R.cells ∧ slots + ms ≤ R.slots)
    (kx : ∀ (E : String) (ce : Cell) (q9 : Addr) (H1 : Heap) (locs1 : List Loc), x = .inl E → SP D cy S H1 → va_S A0 s.heap H1 locs1 → H1[q9]? = some ce → ce.vm = .none → s.vm.findClass E = some ce.cls → vx_W p l e R s m args below meth c H1 locs1 (cells + mc) (slots + ms) Q (F0 m pc ls rest) q9)
    (kk : ∀ (r : Int32) (H1 : Heap) (locs1 : List Loc), x = .inr r → SP D cy S H1 → va_S A0 s.heap H1 locs1 → W p l e R s m args below meth c H1 locs1 (cells + mc) (slots + ms) Q (F0 m (pc + 3) ls (.int r :: rest))) : W p l e R s m args below meth c H locs cells slots Q (F0 m pc ls st0) := by
  subst hst
  have hr := vx_runV (As := As) (rest := rest) (H := H) (locs := locs) (cells := cells) (slots := slots) (meth := meth) (below := below) (e := e) (g := F0 m pc ls (As.reverse ++ .ref b :: rest)) hF hM cw ⟨fb_PSX, recv hK hP hcl hc, fun U hU hW9 => ⟨rfl, by rw [hU]; exact hP, va_K.moved hW9.alike hK, hE.at hS hU hW9 (fun q h => False.elim h)⟩⟩ rfl hn hsz rfl (lv_room hW) hdg hf
  exact vx_calli hr hS (fun q _ h => False.elim h) (fun q h => False.elim h) (fun q _ h => False.elim h) (fun E ce q9 _ t H1 locs1 ht _ _ hB _ hk1 hS1 h1 h2 h3 => kx E ce q9 H1 locs1 hB (hP.kept (fun q h => hk1 q h id)) hS1 h1 h2 h3)
    (fun r _ t H1 locs1 ht _ hw hB _ hk1 hS1 => kk r H1 locs1 hw (hP.kept (fun q h => hk1 q h id)) hS1)
theorem k_iVm {r : Int32} (hF : CallFix p m c cc nL s args ALLW own) (hsz : ls.size = nL) (hM : Met l y (wsA y bytes maxL ret) rm (va_Pc (.ref b :: As) (PN D cy S H.size)) (va_Qi (fun r' (_ : Unit) => r' = r) (fun _ t => PoS D cy S1 (dm S H.size) t) (dm S H.size)) mc ms (dm S H.size))
    (cw : CallW R s args own q.1 index y bytes maxL ret (wsA y bytes maxL ret) rm mc ms n) (hn : As.length = n) (hK : va_K D vwCl (tyL cy) s) (hP : SP D cy S H) (hD : ∀ a, S a ≠ none → A0 a) (hA : ∀ q, H0.size ≤ q → A0 q) (hS : va_S A0 H0 H locs) (hc : oO S b ci = some u) (hcl : vwCl[ci]? = some q) (hW : (rest.map fun v => v.category).sum ≤ 8) (hst : st0 = As.reverse ++ .ref b :: rest) (hdg : decode cc pc = .ok (.invokevirtual index, 3)) (hf : cells + mc ≤ R.cells ∧ slots + ms ≤ R.slots)
    (kk : ∀ (H1 : Heap) (locs1 : List Loc), SP D cy S1 H1 → (∀ a, S1 a ≠ none → A0 a) → va_S A0 H0 H1 locs1 → W p l e R s m args below meth c H1 locs1 (cells + mc) (slots + ms) Q (F0 m (pc + 3) ls (.int r :: rest))) : W p l e R s m args below meth c H locs cells slots Q (F0 m pc ls st0) := by
  subst hst
  have hr := va_runV (As := As) (rest := rest) (H := H) (locs := locs) (cells := cells) (slots := slots) (meth := meth) (below := below) (e := e) (g := F0 m pc ls (As.reverse ++ .ref b :: rest)) hF hM cw ⟨fb_PN, recv hK hP hcl hc, fun U hU hW9 => ⟨rfl, by rw [hU], by rw [hU]; exact hP, va_K.moved hW9.alike hK⟩⟩ rfl hn hsz rfl (lv_room hW) hdg hf
  exact va_calli hr hS (fun q _ h => dm_sub hD hA hS q h) (dm_sub hD hA hS) (fun r _ t H1 locs1 ht _ hw hB _ hk1 hS1 => by
    subst hw
    exact kk H1 locs1 (by rw [← ht]; exact hB.1) (fun a h => dm_sub hD hA hS a (hB.2 a h)) hS1)
theorem k_iVmx {x : String ⊕ Int32} (hF : CallFix p m c cc nL s args ALLW own) (hsz : ls.size = nL) (hM : vx_Met l y (wsA y bytes maxL ret) rm (va_Pc (.ref b :: As) (PNX D cy S H.size)) (va_Qi (fun r' (_ : Unit) => x = .inr r') (fun _ t => PoS D cy S1 (dm S H.size) t) (dm S H.size)) (vx_X (fun _ : Unit => True) (fun E _ t => x = .inl E ∧ PoS D cy S1 (dm S H.size) t) (dm S H.size)) mc ms (dm S H.size))
    (cw : CallW R s args own q.1 index y bytes maxL ret (wsA y bytes maxL ret) rm mc ms n) (hn : As.length = n) (hK : va_K D vwCl (tyL cy) s) (hP : SP D cy S H) (hD : ∀ a, S a ≠ none → A0 a) (hA : ∀ q, s.heap.size ≤ q → A0 q) (hS : va_S A0 s.heap H locs) (hE : ENV A0 s) (hc : oO S b ci = some u) (hcl : vwCl[ci]? = some q) (hW : (rest.map fun v => v.category).sum ≤ 8) (hst : st0 = As.reverse ++ .ref b :: rest) (hdg : decode cc pc = .ok (.invokevirtual index, 3)) (hf : cells + mc ≤ R.cells ∧ slots + ms ≤ R.slots)
    (kx : ∀ (E : String) (ce : Cell) (q9 : Addr) (H1 : Heap) (locs1 : List Loc), x = .inl E → SP D cy S1 H1 → (∀ a, S1 a ≠ none → A0 a) → va_S A0 s.heap H1 locs1 → H1[q9]? = some ce → ce.vm = .none → s.vm.findClass E = some ce.cls → vx_W p l e R s m args below meth c H1 locs1 (cells + mc) (slots + ms) Q (F0 m pc ls rest) q9)
    (kk : ∀ (r : Int32) (H1 : Heap) (locs1 : List Loc), x = .inr r → SP D cy S1 H1 → (∀ a, S1 a ≠ none → A0 a) → va_S A0 s.heap H1 locs1 → W p l e R s m args below meth c H1 locs1 (cells + mc) (slots + ms) Q (F0 m (pc + 3) ls (.int r :: rest))) : W p l e R s m args below meth c H locs cells slots Q (F0 m pc ls st0) := by
  subst hst
  have hr := vx_runV (As := As) (rest := rest) (H := H) (locs := locs) (cells := cells) (slots := slots) (meth := meth) (below := below) (e := e) (g := F0 m pc ls (As.reverse ++ .ref b :: rest)) hF hM cw ⟨fb_PNX, recv hK hP hcl hc, fun U hU hW9 => ⟨rfl, by rw [hU], by rw [hU]; exact hP, va_K.moved hW9.alike hK, hE.at hS hU hW9 (dm_sub hD hA hS)⟩⟩ rfl hn hsz rfl (lv_room hW) hdg hf
  exact vx_calli hr hS (fun q _ h => dm_sub hD hA hS q h) (dm_sub hD hA hS) (fun q _ h => dm_sub hD hA hS q h) (fun E ce q9 _ t H1 locs1 ht _ _ hB _ hk1 hS1 h1 h2 h3 => kx E ce q9 H1 locs1 hB.1 (by rw [← ht]; exact hB.2.1) (fun a h => dm_sub hD hA hS a (hB.2.2 a h)) hS1 h1 h2 h3)
    (fun r _ t H1 locs1 ht _ hw hB _ hk1 hS1 => kk r H1 locs1 hw (by rw [← ht]; exact hB.1) (fun a h => dm_sub hD hA hS a (hB.2 a h)) hS1)
theorem k_iSp {r : Int32} (hF : CallFix p m c cc nL s args ALLW own) (hsz : ls.size = nL) (hM : Met l y (wsA y bytes maxL ret) rm (va_Pc As (PS D cy S)) (va_Qi (fun r' (_ : Unit) => r' = r) (fun _ _ => True) noA) mc ms noA)
    (cw : CallB R s args own index y bytes maxL ret (wsA y bytes maxL ret) rm mc ms n ∧ (Cond.static y).before args s = true) (hn : As.length = n) (hK : va_K D vwCl (tyL cy) s) (hP : SP D cy S H) (hS : va_S A0 H0 H locs) (hW : (rest.map fun v => v.category).sum ≤ 8) (hst : st0 = As.reverse ++ rest) (hdg : decode cc pc = .ok (.invokestatic index, 3)) (hf : cells + mc ≤ R.cells ∧ slots + ms ≤ R.slots)
    (kk : ∀ (H1 : Heap) (locs1 : List Loc), SP D cy S H1 → va_S A0 H0 H1 locs1 → W p l e R s m args below meth c H1 locs1 (cells + mc) (slots + ms) Q (F0 m (pc + 3) ls (.int r :: rest))) : W p l e R s m args below meth c H locs cells slots Q (F0 m pc ls st0) := by
  subst hst
  have hr := va_runS (As := As) (rest := rest) (H := H) (locs := locs) (cells := cells) (slots := slots) (meth := meth) (below := below) (e := e) (g := F0 m pc ls (As.reverse ++ rest)) hF hM cw ⟨fb_PS, fun U hU hW9 => ⟨rfl, by rw [hU]; exact hP, va_K.moved hW9.alike hK⟩⟩ rfl hn hsz rfl (lv_room hW) hdg hf
  exact va_calli hr hS (fun q _ h => False.elim h) (fun q h => False.elim h) (fun r _ t H1 locs1 ht _ hw hB _ hk1 hS1 => by
    subst hw
    exact kk H1 locs1 (hP.kept (fun q h => hk1 q h id)) hS1)
theorem k_iSpx {x : String ⊕ Int32} (hF : CallFix p m c cc nL s args ALLW own) (hsz : ls.size = nL) (hM : vx_Met l y (wsA y bytes maxL ret) rm (va_Pc As (PSX D cy S)) (va_Qi (fun r' (_ : Unit) => x = .inr r') (fun _ _ => True) noA) (vx_X (fun _ : Unit => True) (fun E _ _ => x = .inl E) noA) mc ms noA)
    (cw : CallB R s args own index y bytes maxL ret (wsA y bytes maxL ret) rm mc ms n ∧ (Cond.static y).before args s = true) (hn : As.length = n) (hK : va_K D vwCl (tyL cy) s) (hP : SP D cy S H) (hS : va_S A0 s.heap H locs) (hE : ENV A0 s) (hW : (rest.map fun v => v.category).sum ≤ 8) (hst : st0 = As.reverse ++ rest) (hdg : decode cc pc = .ok (.invokestatic index, 3)) (hf : cells + mc ≤ R.cells ∧ slots + ms ≤ R.slots)
    (kx : ∀ (E : String) (ce : Cell) (q9 : Addr) (H1 : Heap) (locs1 : List Loc), x = .inl E → SP D cy S H1 → va_S A0 s.heap H1 locs1 → H1[q9]? = some ce → ce.vm = .none → s.vm.findClass E = some ce.cls → vx_W p l e R s m args below meth c H1 locs1 (cells + mc) (slots + ms) Q (F0 m pc ls rest) q9)
    (kk : ∀ (r : Int32) (H1 : Heap) (locs1 : List Loc), x = .inr r → SP D cy S H1 → va_S A0 s.heap H1 locs1 → W p l e R s m args below meth c H1 locs1 (cells + mc) (slots + ms) Q (F0 m (pc + 3) ls (.int r :: rest))) : W p l e R s m args below meth c H locs cells slots Q (F0 m pc ls st0) := by
  subst hst
  have hr := vx_runS (As := As) (rest := rest) (H := H) (locs := locs) (cells := cells) (slots := slots) (meth := meth) (below := below) (e := e) (g := F0 m pc ls (As.reverse ++ rest)) hF hM cw ⟨fb_PSX, fun U hU hW9 => ⟨rfl, by rw [hU]; exact hP, va_K.moved hW9.alike hK, hE.at hS hU hW9 (fun q h => False.elim h)⟩⟩ rfl hn hsz rfl (lv_room hW) hdg hf
  exact vx_calli hr hS (fun q _ h => False.elim h) (fun q h => False.elim h) (fun q _ h => False.elim h) (fun E ce q9 _ t H1 locs1 ht _ _ hB _ hk1 hS1 h1 h2 h3 => kx E ce q9 H1 locs1 hB (hP.kept (fun q h => hk1 q h id)) hS1 h1 h2 h3)
    (fun r _ t H1 locs1 ht _ hw hB _ hk1 hS1 => kk r H1 locs1 hw (hP.kept (fun q h => hk1 q h id)) hS1)
theorem k_iSm {r : Int32} (hF : CallFix p m c cc nL s args ALLW own) (hsz : ls.size = nL) (hM : Met l y (wsA y bytes maxL ret) rm (va_Pc As (PN D cy S H.size)) (va_Qi (fun r' (_ : Unit) => r' = r) (fun _ t => PoS D cy S1 (dm S H.size) t) (dm S H.size)) mc ms (dm S H.size))
    (cw : CallB R s args own index y bytes maxL ret (wsA y bytes maxL ret) rm mc ms n ∧ (Cond.static y).before args s = true) (hn : As.length = n) (hK : va_K D vwCl (tyL cy) s) (hP : SP D cy S H) (hD : ∀ a, S a ≠ none → A0 a) (hA : ∀ q, H0.size ≤ q → A0 q) (hS : va_S A0 H0 H locs) (hW : (rest.map fun v => v.category).sum ≤ 8) (hst : st0 = As.reverse ++ rest) (hdg : decode cc pc = .ok (.invokestatic index, 3)) (hf : cells + mc ≤ R.cells ∧ slots + ms ≤ R.slots)
    (kk : ∀ (H1 : Heap) (locs1 : List Loc), SP D cy S1 H1 → (∀ a, S1 a ≠ none → A0 a) → va_S A0 H0 H1 locs1 → W p l e R s m args below meth c H1 locs1 (cells + mc) (slots + ms) Q (F0 m (pc + 3) ls (.int r :: rest))) : W p l e R s m args below meth c H locs cells slots Q (F0 m pc ls st0) := by
  subst hst
  have hr := va_runS (As := As) (rest := rest) (H := H) (locs := locs) (cells := cells) (slots := slots) (meth := meth) (below := below) (e := e) (g := F0 m pc ls (As.reverse ++ rest)) hF hM cw ⟨fb_PN, fun U hU hW9 => ⟨rfl, by rw [hU], by rw [hU]; exact hP, va_K.moved hW9.alike hK⟩⟩ rfl hn hsz rfl (lv_room hW) hdg hf
  exact va_calli hr hS (fun q _ h => dm_sub hD hA hS q h) (dm_sub hD hA hS) (fun r _ t H1 locs1 ht _ hw hB _ hk1 hS1 => by
    subst hw
    exact kk H1 locs1 (by rw [← ht]; exact hB.1) (fun a h => dm_sub hD hA hS a (hB.2 a h)) hS1)
theorem k_iSmx {x : String ⊕ Int32} (hF : CallFix p m c cc nL s args ALLW own) (hsz : ls.size = nL) (hM : vx_Met l y (wsA y bytes maxL ret) rm (va_Pc As (PNX D cy S H.size)) (va_Qi (fun r' (_ : Unit) => x = .inr r') (fun _ t => PoS D cy S1 (dm S H.size) t) (dm S H.size)) (vx_X (fun _ : Unit => True) (fun E _ t => x = .inl E ∧ PoS D cy S1 (dm S H.size) t) (dm S H.size)) mc ms (dm S H.size))
    (cw : CallB R s args own index y bytes maxL ret (wsA y bytes maxL ret) rm mc ms n ∧ (Cond.static y).before args s = true) (hn : As.length = n) (hK : va_K D vwCl (tyL cy) s) (hP : SP D cy S H) (hD : ∀ a, S a ≠ none → A0 a) (hA : ∀ q, s.heap.size ≤ q → A0 q) (hS : va_S A0 s.heap H locs) (hE : ENV A0 s) (hW : (rest.map fun v => v.category).sum ≤ 8) (hst : st0 = As.reverse ++ rest) (hdg : decode cc pc = .ok (.invokestatic index, 3)) (hf : cells + mc ≤ R.cells ∧ slots + ms ≤ R.slots)
    (kx : ∀ (E : String) (ce : Cell) (q9 : Addr) (H1 : Heap) (locs1 : List Loc), x = .inl E → SP D cy S1 H1 → (∀ a, S1 a ≠ none → A0 a) → va_S A0 s.heap H1 locs1 → H1[q9]? = some ce → ce.vm = .none → s.vm.findClass E = some ce.cls → vx_W p l e R s m args below meth c H1 locs1 (cells + mc) (slots + ms) Q (F0 m pc ls rest) q9)
    (kk : ∀ (r : Int32) (H1 : Heap) (locs1 : List Loc), x = .inr r → SP D cy S1 H1 → (∀ a, S1 a ≠ none → A0 a) → va_S A0 s.heap H1 locs1 → W p l e R s m args below meth c H1 locs1 (cells + mc) (slots + ms) Q (F0 m (pc + 3) ls (.int r :: rest))) : W p l e R s m args below meth c H locs cells slots Q (F0 m pc ls st0) := by
  subst hst
  have hr := vx_runS (As := As) (rest := rest) (H := H) (locs := locs) (cells := cells) (slots := slots) (meth := meth) (below := below) (e := e) (g := F0 m pc ls (As.reverse ++ rest)) hF hM cw ⟨fb_PNX, fun U hU hW9 => ⟨rfl, by rw [hU], by rw [hU]; exact hP, va_K.moved hW9.alike hK, hE.at hS hU hW9 (dm_sub hD hA hS)⟩⟩ rfl hn hsz rfl (lv_room hW) hdg hf
  exact vx_calli hr hS (fun q _ h => dm_sub hD hA hS q h) (dm_sub hD hA hS) (fun q _ h => dm_sub hD hA hS q h) (fun E ce q9 _ t H1 locs1 ht _ _ hB _ hk1 hS1 h1 h2 h3 => kx E ce q9 H1 locs1 hB.1 (by rw [← ht]; exact hB.2.1) (fun a h => dm_sub hD hA hS a (hB.2.2 a h)) hS1 h1 h2 h3)
    (fun r _ t H1 locs1 ht _ hw hB _ hk1 hS1 => kk r H1 locs1 hw (by rw [← ht]; exact hB.1) (fun a h => dm_sub hD hA hS a (hB.2 a h)) hS1)
theorem k_lVp {r : Int64} (hF : CallFix p m c cc nL s args ALLW own) (hsz : ls.size = nL) (hM : Met l y (wsA y bytes maxL ret) rm (va_Pc (.ref b :: As) (PS D cy S)) (va_Ql (fun r' (_ : Unit) => r' = r) (fun _ _ => True) noA) mc ms noA)
    (cw : CallW R s args own q.1 index y bytes maxL ret (wsA y bytes maxL ret) rm mc ms n) (hn : As.length = n) (hK : va_K D vwCl (tyL cy) s) (hP : SP D cy S H) (hS : va_S A0 H0 H locs) (hc : oO S b ci = some u) (hcl : vwCl[ci]? = some q) (hW : (rest.map fun v => v.category).sum ≤ 8) (hst : st0 = As.reverse ++ .ref b :: rest) (hdg : decode cc pc = .ok (.invokevirtual index, 3)) (hf : cells + mc ≤ R.cells ∧ slots + ms ≤ R.slots)
    (kk : ∀ (H1 : Heap) (locs1 : List Loc), SP D cy S H1 → va_S A0 H0 H1 locs1 → W p l e R s m args below meth c H1 locs1 (cells + mc) (slots + ms) Q (F0 m (pc + 3) ls (.long r :: rest))) : W p l e R s m args below meth c H locs cells slots Q (F0 m pc ls st0) := by
  subst hst
  have hr := va_runV (As := As) (rest := rest) (H := H) (locs := locs) (cells := cells) (slots := slots) (meth := meth) (below := below) (e := e) (g := F0 m pc ls (As.reverse ++ .ref b :: rest)) hF hM cw ⟨fb_PS, recv hK hP hcl hc, fun U hU hW9 => ⟨rfl, by rw [hU]; exact hP, va_K.moved hW9.alike hK⟩⟩ rfl hn hsz rfl (lv_room hW) hdg hf
  exact va_calll hr hS (fun q _ h => False.elim h) (fun q h => False.elim h) (fun r _ t H1 locs1 ht _ hw hB _ hk1 hS1 => by
    subst hw
    exact kk H1 locs1 (hP.kept (fun q h => hk1 q h id)) hS1)
theorem k_lVm {r : Int64} (hF : CallFix p m c cc nL s args ALLW own) (hsz : ls.size = nL) (hM : Met l y (wsA y bytes maxL ret) rm (va_Pc (.ref b :: As) (PN D cy S H.size)) (va_Ql (fun r' (_ : Unit) => r' = r) (fun _ t => PoS D cy S1 (dm S H.size) t) (dm S H.size)) mc ms (dm S H.size))
    (cw : CallW R s args own q.1 index y bytes maxL ret (wsA y bytes maxL ret) rm mc ms n) (hn : As.length = n) (hK : va_K D vwCl (tyL cy) s) (hP : SP D cy S H) (hD : ∀ a, S a ≠ none → A0 a) (hA : ∀ q, H0.size ≤ q → A0 q) (hS : va_S A0 H0 H locs) (hc : oO S b ci = some u) (hcl : vwCl[ci]? = some q) (hW : (rest.map fun v => v.category).sum ≤ 8) (hst : st0 = As.reverse ++ .ref b :: rest) (hdg : decode cc pc = .ok (.invokevirtual index, 3)) (hf : cells + mc ≤ R.cells ∧ slots + ms ≤ R.slots)
    (kk : ∀ (H1 : Heap) (locs1 : List Loc), SP D cy S1 H1 → (∀ a, S1 a ≠ none → A0 a) → va_S A0 H0 H1 locs1 → W p l e R s m args below meth c H1 locs1 (cells + mc) (slots + ms) Q (F0 m (pc + 3) ls (.long r :: rest))) : W p l e R s m args below meth c H locs cells slots Q (F0 m pc ls st0) := by
  subst hst
  have hr := va_runV (As := As) (rest := rest) (H := H) (locs := locs) (cells := cells) (slots := slots) (meth := meth) (below := below) (e := e) (g := F0 m pc ls (As.reverse ++ .ref b :: rest)) hF hM cw ⟨fb_PN, recv hK hP hcl hc, fun U hU hW9 => ⟨rfl, by rw [hU], by rw [hU]; exact hP, va_K.moved hW9.alike hK⟩⟩ rfl hn hsz rfl (lv_room hW) hdg hf
  exact va_calll hr hS (fun q _ h => dm_sub hD hA hS q h) (dm_sub hD hA hS) (fun r _ t H1 locs1 ht _ hw hB _ hk1 hS1 => by
    subst hw
    exact kk H1 locs1 (by rw [← ht]; exact hB.1) (fun a h => dm_sub hD hA hS a (hB.2 a h)) hS1)
theorem k_lSp {r : Int64} (hF : CallFix p m c cc nL s args ALLW own) (hsz : ls.size = nL) (hM : Met l y (wsA y bytes maxL ret) rm (va_Pc As (PS D cy S)) (va_Ql (fun r' (_ : Unit) => r' = r) (fun _ _ => True) noA) mc ms noA)
    (cw : CallB R s args own index y bytes maxL ret (wsA y bytes maxL ret) rm mc ms n ∧ (Cond.static y).before args s = true) (hn : As.length = n) (hK : va_K D vwCl (tyL cy) s) (hP : SP D cy S H) (hS : va_S A0 H0 H locs) (hW : (rest.map fun v => v.category).sum ≤ 8) (hst : st0 = As.reverse ++ rest) (hdg : decode cc pc = .ok (.invokestatic index, 3)) (hf : cells + mc ≤ R.cells ∧ slots + ms ≤ R.slots)
    (kk : ∀ (H1 : Heap) (locs1 : List Loc), SP D cy S H1 → va_S A0 H0 H1 locs1 → W p l e R s m args below meth c H1 locs1 (cells + mc) (slots + ms) Q (F0 m (pc + 3) ls (.long r :: rest))) : W p l e R s m args below meth c H locs cells slots Q (F0 m pc ls st0) := by
  subst hst
  have hr := va_runS (As := As) (rest := rest) (H := H) (locs := locs) (cells := cells) (slots := slots) (meth := meth) (below := below) (e := e) (g := F0 m pc ls (As.reverse ++ rest)) hF hM cw ⟨fb_PS, fun U hU hW9 => ⟨rfl, by rw [hU]; exact hP, va_K.moved hW9.alike hK⟩⟩ rfl hn hsz rfl (lv_room hW) hdg hf
  exact va_calll hr hS (fun q _ h => False.elim h) (fun q h => False.elim h) (fun r _ t H1 locs1 ht _ hw hB _ hk1 hS1 => by
    subst hw
    exact kk H1 locs1 (hP.kept (fun q h => hk1 q h id)) hS1)
theorem k_lSm {r : Int64} (hF : CallFix p m c cc nL s args ALLW own) (hsz : ls.size = nL) (hM : Met l y (wsA y bytes maxL ret) rm (va_Pc As (PN D cy S H.size)) (va_Ql (fun r' (_ : Unit) => r' = r) (fun _ t => PoS D cy S1 (dm S H.size) t) (dm S H.size)) mc ms (dm S H.size))
    (cw : CallB R s args own index y bytes maxL ret (wsA y bytes maxL ret) rm mc ms n ∧ (Cond.static y).before args s = true) (hn : As.length = n) (hK : va_K D vwCl (tyL cy) s) (hP : SP D cy S H) (hD : ∀ a, S a ≠ none → A0 a) (hA : ∀ q, H0.size ≤ q → A0 q) (hS : va_S A0 H0 H locs) (hW : (rest.map fun v => v.category).sum ≤ 8) (hst : st0 = As.reverse ++ rest) (hdg : decode cc pc = .ok (.invokestatic index, 3)) (hf : cells + mc ≤ R.cells ∧ slots + ms ≤ R.slots)
    (kk : ∀ (H1 : Heap) (locs1 : List Loc), SP D cy S1 H1 → (∀ a, S1 a ≠ none → A0 a) → va_S A0 H0 H1 locs1 → W p l e R s m args below meth c H1 locs1 (cells + mc) (slots + ms) Q (F0 m (pc + 3) ls (.long r :: rest))) : W p l e R s m args below meth c H locs cells slots Q (F0 m pc ls st0) := by
  subst hst
  have hr := va_runS (As := As) (rest := rest) (H := H) (locs := locs) (cells := cells) (slots := slots) (meth := meth) (below := below) (e := e) (g := F0 m pc ls (As.reverse ++ rest)) hF hM cw ⟨fb_PN, fun U hU hW9 => ⟨rfl, by rw [hU], by rw [hU]; exact hP, va_K.moved hW9.alike hK⟩⟩ rfl hn hsz rfl (lv_room hW) hdg hf
  exact va_calll hr hS (fun q _ h => dm_sub hD hA hS q h) (dm_sub hD hA hS) (fun r _ t H1 locs1 ht _ hw hB _ hk1 hS1 => by
    subst hw
    exact kk H1 locs1 (by rw [← ht]; exact hB.1) (fun a h => dm_sub hD hA hS a (hB.2 a h)) hS1)
theorem k_dVp {r : UInt64} (hF : CallFix p m c cc nL s args ALLW own) (hsz : ls.size = nL) (hM : Met l y (wsA y bytes maxL ret) rm (va_Pc (.ref b :: As) (PS D cy S)) (va_Qd (fun r' (_ : Unit) => r' = r) (fun _ _ => True) noA) mc ms noA)
    (cw : CallW R s args own q.1 index y bytes maxL ret (wsA y bytes maxL ret) rm mc ms n) (hn : As.length = n) (hK : va_K D vwCl (tyL cy) s) (hP : SP D cy S H) (hS : va_S A0 H0 H locs) (hc : oO S b ci = some u) (hcl : vwCl[ci]? = some q) (hW : (rest.map fun v => v.category).sum ≤ 8) (hst : st0 = As.reverse ++ .ref b :: rest) (hdg : decode cc pc = .ok (.invokevirtual index, 3)) (hf : cells + mc ≤ R.cells ∧ slots + ms ≤ R.slots)
    (kk : ∀ (H1 : Heap) (locs1 : List Loc), SP D cy S H1 → va_S A0 H0 H1 locs1 → W p l e R s m args below meth c H1 locs1 (cells + mc) (slots + ms) Q (F0 m (pc + 3) ls (.double r :: rest))) : W p l e R s m args below meth c H locs cells slots Q (F0 m pc ls st0) := by
  subst hst
  have hr := va_runV (As := As) (rest := rest) (H := H) (locs := locs) (cells := cells) (slots := slots) (meth := meth) (below := below) (e := e) (g := F0 m pc ls (As.reverse ++ .ref b :: rest)) hF hM cw ⟨fb_PS, recv hK hP hcl hc, fun U hU hW9 => ⟨rfl, by rw [hU]; exact hP, va_K.moved hW9.alike hK⟩⟩ rfl hn hsz rfl (lv_room hW) hdg hf
  exact va_calld hr hS (fun q _ h => False.elim h) (fun q h => False.elim h) (fun r _ t H1 locs1 ht _ hw hB _ hk1 hS1 => by
    subst hw
    exact kk H1 locs1 (hP.kept (fun q h => hk1 q h id)) hS1)
theorem k_dVm {r : UInt64} (hF : CallFix p m c cc nL s args ALLW own) (hsz : ls.size = nL) (hM : Met l y (wsA y bytes maxL ret) rm (va_Pc (.ref b :: As) (PN D cy S H.size)) (va_Qd (fun r' (_ : Unit) => r' = r) (fun _ t => PoS D cy S1 (dm S H.size) t) (dm S H.size)) mc ms (dm S H.size))
    (cw : CallW R s args own q.1 index y bytes maxL ret (wsA y bytes maxL ret) rm mc ms n) (hn : As.length = n) (hK : va_K D vwCl (tyL cy) s) (hP : SP D cy S H) (hD : ∀ a, S a ≠ none → A0 a) (hA : ∀ q, H0.size ≤ q → A0 q) (hS : va_S A0 H0 H locs) (hc : oO S b ci = some u) (hcl : vwCl[ci]? = some q) (hW : (rest.map fun v => v.category).sum ≤ 8) (hst : st0 = As.reverse ++ .ref b :: rest) (hdg : decode cc pc = .ok (.invokevirtual index, 3)) (hf : cells + mc ≤ R.cells ∧ slots + ms ≤ R.slots)
    (kk : ∀ (H1 : Heap) (locs1 : List Loc), SP D cy S1 H1 → (∀ a, S1 a ≠ none → A0 a) → va_S A0 H0 H1 locs1 → W p l e R s m args below meth c H1 locs1 (cells + mc) (slots + ms) Q (F0 m (pc + 3) ls (.double r :: rest))) : W p l e R s m args below meth c H locs cells slots Q (F0 m pc ls st0) := by
  subst hst
  have hr := va_runV (As := As) (rest := rest) (H := H) (locs := locs) (cells := cells) (slots := slots) (meth := meth) (below := below) (e := e) (g := F0 m pc ls (As.reverse ++ .ref b :: rest)) hF hM cw ⟨fb_PN, recv hK hP hcl hc, fun U hU hW9 => ⟨rfl, by rw [hU], by rw [hU]; exact hP, va_K.moved hW9.alike hK⟩⟩ rfl hn hsz rfl (lv_room hW) hdg hf
  exact va_calld hr hS (fun q _ h => dm_sub hD hA hS q h) (dm_sub hD hA hS) (fun r _ t H1 locs1 ht _ hw hB _ hk1 hS1 => by
    subst hw
    exact kk H1 locs1 (by rw [← ht]; exact hB.1) (fun a h => dm_sub hD hA hS a (hB.2 a h)) hS1)
theorem k_dSp {r : UInt64} (hF : CallFix p m c cc nL s args ALLW own) (hsz : ls.size = nL) (hM : Met l y (wsA y bytes maxL ret) rm (va_Pc As (PS D cy S)) (va_Qd (fun r' (_ : Unit) => r' = r) (fun _ _ => True) noA) mc ms noA)
    (cw : CallB R s args own index y bytes maxL ret (wsA y bytes maxL ret) rm mc ms n ∧ (Cond.static y).before args s = true) (hn : As.length = n) (hK : va_K D vwCl (tyL cy) s) (hP : SP D cy S H) (hS : va_S A0 H0 H locs) (hW : (rest.map fun v => v.category).sum ≤ 8) (hst : st0 = As.reverse ++ rest) (hdg : decode cc pc = .ok (.invokestatic index, 3)) (hf : cells + mc ≤ R.cells ∧ slots + ms ≤ R.slots)
    (kk : ∀ (H1 : Heap) (locs1 : List Loc), SP D cy S H1 → va_S A0 H0 H1 locs1 → W p l e R s m args below meth c H1 locs1 (cells + mc) (slots + ms) Q (F0 m (pc + 3) ls (.double r :: rest))) : W p l e R s m args below meth c H locs cells slots Q (F0 m pc ls st0) := by
  subst hst
  have hr := va_runS (As := As) (rest := rest) (H := H) (locs := locs) (cells := cells) (slots := slots) (meth := meth) (below := below) (e := e) (g := F0 m pc ls (As.reverse ++ rest)) hF hM cw ⟨fb_PS, fun U hU hW9 => ⟨rfl, by rw [hU]; exact hP, va_K.moved hW9.alike hK⟩⟩ rfl hn hsz rfl (lv_room hW) hdg hf
  exact va_calld hr hS (fun q _ h => False.elim h) (fun q h => False.elim h) (fun r _ t H1 locs1 ht _ hw hB _ hk1 hS1 => by
    subst hw
    exact kk H1 locs1 (hP.kept (fun q h => hk1 q h id)) hS1)
theorem k_dSm {r : UInt64} (hF : CallFix p m c cc nL s args ALLW own) (hsz : ls.size = nL) (hM : Met l y (wsA y bytes maxL ret) rm (va_Pc As (PN D cy S H.size)) (va_Qd (fun r' (_ : Unit) => r' = r) (fun _ t => PoS D cy S1 (dm S H.size) t) (dm S H.size)) mc ms (dm S H.size))
    (cw : CallB R s args own index y bytes maxL ret (wsA y bytes maxL ret) rm mc ms n ∧ (Cond.static y).before args s = true) (hn : As.length = n) (hK : va_K D vwCl (tyL cy) s) (hP : SP D cy S H) (hD : ∀ a, S a ≠ none → A0 a) (hA : ∀ q, H0.size ≤ q → A0 q) (hS : va_S A0 H0 H locs) (hW : (rest.map fun v => v.category).sum ≤ 8) (hst : st0 = As.reverse ++ rest) (hdg : decode cc pc = .ok (.invokestatic index, 3)) (hf : cells + mc ≤ R.cells ∧ slots + ms ≤ R.slots)
    (kk : ∀ (H1 : Heap) (locs1 : List Loc), SP D cy S1 H1 → (∀ a, S1 a ≠ none → A0 a) → va_S A0 H0 H1 locs1 → W p l e R s m args below meth c H1 locs1 (cells + mc) (slots + ms) Q (F0 m (pc + 3) ls (.double r :: rest))) : W p l e R s m args below meth c H locs cells slots Q (F0 m pc ls st0) := by
  subst hst
  have hr := va_runS (As := As) (rest := rest) (H := H) (locs := locs) (cells := cells) (slots := slots) (meth := meth) (below := below) (e := e) (g := F0 m pc ls (As.reverse ++ rest)) hF hM cw ⟨fb_PN, fun U hU hW9 => ⟨rfl, by rw [hU], by rw [hU]; exact hP, va_K.moved hW9.alike hK⟩⟩ rfl hn hsz rfl (lv_room hW) hdg hf
  exact va_calld hr hS (fun q _ h => dm_sub hD hA hS q h) (dm_sub hD hA hS) (fun r _ t H1 locs1 ht _ hw hB _ hk1 hS1 => by
    subst hw
    exact kk H1 locs1 (by rw [← ht]; exact hB.1) (fun a h => dm_sub hD hA hS a (hB.2 a h)) hS1)
theorem k_vVp (hF : CallFix p m c cc nL s args ALLW own) (hsz : ls.size = nL) (hM : Met l y (wsA y bytes maxL ret) rm (va_Pc (.ref b :: As) (PS D cy S)) (va_Qv (fun _ : Unit => True) (fun _ _ => True) noA) mc ms noA)
    (cw : CallW R s args own q.1 index y bytes maxL ret (wsA y bytes maxL ret) rm mc ms n) (hn : As.length = n) (hK : va_K D vwCl (tyL cy) s) (hP : SP D cy S H) (hS : va_S A0 H0 H locs) (hc : oO S b ci = some u) (hcl : vwCl[ci]? = some q) (hW : (rest.map fun v => v.category).sum ≤ 8) (hst : st0 = As.reverse ++ .ref b :: rest) (hdg : decode cc pc = .ok (.invokevirtual index, 3)) (hf : cells + mc ≤ R.cells ∧ slots + ms ≤ R.slots)
    (kk : ∀ (H1 : Heap) (locs1 : List Loc), SP D cy S H1 → va_S A0 H0 H1 locs1 → W p l e R s m args below meth c H1 locs1 (cells + mc) (slots + ms) Q (F0 m (pc + 3) ls (rest))) : W p l e R s m args below meth c H locs cells slots Q (F0 m pc ls st0) := by
  subst hst
  have hr := va_runV (As := As) (rest := rest) (H := H) (locs := locs) (cells := cells) (slots := slots) (meth := meth) (below := below) (e := e) (g := F0 m pc ls (As.reverse ++ .ref b :: rest)) hF hM cw ⟨fb_PS, recv hK hP hcl hc, fun U hU hW9 => ⟨rfl, by rw [hU]; exact hP, va_K.moved hW9.alike hK⟩⟩ rfl hn hsz rfl (lv_room hW) hdg hf
  exact va_callv hr hS (fun q _ h => False.elim h) (fun q h => False.elim h) (fun _ t H1 locs1 ht _ _ hB _ hk1 hS1 => kk H1 locs1 (hP.kept (fun q h => hk1 q h id)) hS1)
theorem k_vVpx {x : String ⊕ Unit} (hF : CallFix p m c cc nL s args ALLW own) (hsz : ls.size = nL) (hM : vx_Met l y (wsA y bytes maxL ret) rm (va_Pc (.ref b :: As) (PSX D cy S)) (va_Qv (fun _ : Unit => x = .inr ()) (fun _ _ => True) noA) (vx_X (fun _ : Unit => True) (fun E _ _ => x = .inl E) noA) mc ms noA)
    (cw : CallW R s args own q.1 index y bytes maxL ret (wsA y bytes maxL ret) rm mc ms n) (hn : As.length = n) (hK : va_K D vwCl (tyL cy) s) (hP : SP D cy S H) (hS : va_S A0 s.heap H locs) (hE : ENV A0 s) (hc : oO S b ci = some u) (hcl : vwCl[ci]? = some q) (hW : (rest.map fun v => v.category).sum ≤ 8) (hst : st0 = As.reverse ++ .ref b :: rest) (hdg : decode cc pc = .ok (.invokevirtual index, 3)) (hf : cells + mc ≤ R.cells ∧ slots + ms ≤ R.slots)
    (kx : ∀ (E : String) (ce : Cell) (q9 : Addr) (H1 : Heap) (locs1 : List Loc), x = .inl E → SP D cy S H1 → va_S A0 s.heap H1 locs1 → H1[q9]? = some ce → ce.vm = .none → s.vm.findClass E = some ce.cls → vx_W p l e R s m args below meth c H1 locs1 (cells + mc) (slots + ms) Q (F0 m pc ls rest) q9)
    (kk : ∀ (H1 : Heap) (locs1 : List Loc), x = .inr () → SP D cy S H1 → va_S A0 s.heap H1 locs1 → W p l e R s m args below meth c H1 locs1 (cells + mc) (slots + ms) Q (F0 m (pc + 3) ls (rest))) : W p l e R s m args below meth c H locs cells slots Q (F0 m pc ls st0) := by
  subst hst
  have hr := vx_runV (As := As) (rest := rest) (H := H) (locs := locs) (cells := cells) (slots := slots) (meth := meth) (below := below) (e := e) (g := F0 m pc ls (As.reverse ++ .ref b :: rest)) hF hM cw ⟨fb_PSX, recv hK hP hcl hc, fun U hU hW9 => ⟨rfl, by rw [hU]; exact hP, va_K.moved hW9.alike hK, hE.at hS hU hW9 (fun q h => False.elim h)⟩⟩ rfl hn hsz rfl (lv_room hW) hdg hf
  exact vx_callv hr hS (fun q _ h => False.elim h) (fun q h => False.elim h) (fun q _ h => False.elim h) (fun E ce q9 _ t H1 locs1 ht _ _ hB _ hk1 hS1 h1 h2 h3 => kx E ce q9 H1 locs1 hB (hP.kept (fun q h => hk1 q h id)) hS1 h1 h2 h3)
    (fun _ t H1 locs1 ht _ hw hB _ hk1 hS1 => kk H1 locs1 hw (hP.kept (fun q h => hk1 q h id)) hS1)
theorem k_vVm (hF : CallFix p m c cc nL s args ALLW own) (hsz : ls.size = nL) (hM : Met l y (wsA y bytes maxL ret) rm (va_Pc (.ref b :: As) (PN D cy S H.size)) (va_Qv (fun _ : Unit => True) (fun _ t => PoS D cy S1 (dm S H.size) t) (dm S H.size)) mc ms (dm S H.size))
    (cw : CallW R s args own q.1 index y bytes maxL ret (wsA y bytes maxL ret) rm mc ms n) (hn : As.length = n) (hK : va_K D vwCl (tyL cy) s) (hP : SP D cy S H) (hD : ∀ a, S a ≠ none → A0 a) (hA : ∀ q, H0.size ≤ q → A0 q) (hS : va_S A0 H0 H locs) (hc : oO S b ci = some u) (hcl : vwCl[ci]? = some q) (hW : (rest.map fun v => v.category).sum ≤ 8) (hst : st0 = As.reverse ++ .ref b :: rest) (hdg : decode cc pc = .ok (.invokevirtual index, 3)) (hf : cells + mc ≤ R.cells ∧ slots + ms ≤ R.slots)
    (kk : ∀ (H1 : Heap) (locs1 : List Loc), SP D cy S1 H1 → (∀ a, S1 a ≠ none → A0 a) → va_S A0 H0 H1 locs1 → W p l e R s m args below meth c H1 locs1 (cells + mc) (slots + ms) Q (F0 m (pc + 3) ls (rest))) : W p l e R s m args below meth c H locs cells slots Q (F0 m pc ls st0) := by
  subst hst
  have hr := va_runV (As := As) (rest := rest) (H := H) (locs := locs) (cells := cells) (slots := slots) (meth := meth) (below := below) (e := e) (g := F0 m pc ls (As.reverse ++ .ref b :: rest)) hF hM cw ⟨fb_PN, recv hK hP hcl hc, fun U hU hW9 => ⟨rfl, by rw [hU], by rw [hU]; exact hP, va_K.moved hW9.alike hK⟩⟩ rfl hn hsz rfl (lv_room hW) hdg hf
  exact va_callv hr hS (fun q _ h => dm_sub hD hA hS q h) (dm_sub hD hA hS) (fun _ t H1 locs1 ht _ _ hB _ hk1 hS1 => kk H1 locs1 (by rw [← ht]; exact hB.1) (fun a h => dm_sub hD hA hS a (hB.2 a h)) hS1)
theorem k_vVmx {x : String ⊕ Unit} (hF : CallFix p m c cc nL s args ALLW own) (hsz : ls.size = nL) (hM : vx_Met l y (wsA y bytes maxL ret) rm (va_Pc (.ref b :: As) (PNX D cy S H.size)) (va_Qv (fun _ : Unit => x = .inr ()) (fun _ t => PoS D cy S1 (dm S H.size) t) (dm S H.size)) (vx_X (fun _ : Unit => True) (fun E _ t => x = .inl E ∧ PoS D cy S1 (dm S H.size) t) (dm S H.size)) mc ms (dm S H.size))
    (cw : CallW R s args own q.1 index y bytes maxL ret (wsA y bytes maxL ret) rm mc ms n) (hn : As.length = n) (hK : va_K D vwCl (tyL cy) s) (hP : SP D cy S H) (hD : ∀ a, S a ≠ none → A0 a) (hA : ∀ q, s.heap.size ≤ q → A0 q) (hS : va_S A0 s.heap H locs) (hE : ENV A0 s) (hc : oO S b ci = some u) (hcl : vwCl[ci]? = some q) (hW : (rest.map fun v => v.category).sum ≤ 8) (hst : st0 = As.reverse ++ .ref b :: rest) (hdg : decode cc pc = .ok (.invokevirtual index, 3)) (hf : cells + mc ≤ R.cells ∧ slots + ms ≤ R.slots)
    (kx : ∀ (E : String) (ce : Cell) (q9 : Addr) (H1 : Heap) (locs1 : List Loc), x = .inl E → SP D cy S1 H1 → (∀ a, S1 a ≠ none → A0 a) → va_S A0 s.heap H1 locs1 → H1[q9]? = some ce → ce.vm = .none → s.vm.findClass E = some ce.cls → vx_W p l e R s m args below meth c H1 locs1 (cells + mc) (slots + ms) Q (F0 m pc ls rest) q9)
    (kk : ∀ (H1 : Heap) (locs1 : List Loc), x = .inr () → SP D cy S1 H1 → (∀ a, S1 a ≠ none → A0 a) → va_S A0 s.heap H1 locs1 → W p l e R s m args below meth c H1 locs1 (cells + mc) (slots + ms) Q (F0 m (pc + 3) ls (rest))) : W p l e R s m args below meth c H locs cells slots Q (F0 m pc ls st0) := by
  subst hst
  have hr := vx_runV (As := As) (rest := rest) (H := H) (locs := locs) (cells := cells) (slots := slots) (meth := meth) (below := below) (e := e) (g := F0 m pc ls (As.reverse ++ .ref b :: rest)) hF hM cw ⟨fb_PNX, recv hK hP hcl hc, fun U hU hW9 => ⟨rfl, by rw [hU], by rw [hU]; exact hP, va_K.moved hW9.alike hK, hE.at hS hU hW9 (dm_sub hD hA hS)⟩⟩ rfl hn hsz rfl (lv_room hW) hdg hf
  exact vx_callv hr hS (fun q _ h => dm_sub hD hA hS q h) (dm_sub hD hA hS) (fun q _ h => dm_sub hD hA hS q h) (fun E ce q9 _ t H1 locs1 ht _ _ hB _ hk1 hS1 h1 h2 h3 => kx E ce q9 H1 locs1 hB.1 (by rw [← ht]; exact hB.2.1) (fun a h => dm_sub hD hA hS a (hB.2.2 a h)) hS1 h1 h2 h3)
    (fun _ t H1 locs1 ht _ hw hB _ hk1 hS1 => kk H1 locs1 hw (by rw [← ht]; exact hB.1) (fun a h => dm_sub hD hA hS a (hB.2 a h)) hS1)
theorem k_vSp (hF : CallFix p m c cc nL s args ALLW own) (hsz : ls.size = nL) (hM : Met l y (wsA y bytes maxL ret) rm (va_Pc As (PS D cy S)) (va_Qv (fun _ : Unit => True) (fun _ _ => True) noA) mc ms noA)
    (cw : CallB R s args own index y bytes maxL ret (wsA y bytes maxL ret) rm mc ms n ∧ (Cond.static y).before args s = true) (hn : As.length = n) (hK : va_K D vwCl (tyL cy) s) (hP : SP D cy S H) (hS : va_S A0 H0 H locs) (hW : (rest.map fun v => v.category).sum ≤ 8) (hst : st0 = As.reverse ++ rest) (hdg : decode cc pc = .ok (.invokestatic index, 3)) (hf : cells + mc ≤ R.cells ∧ slots + ms ≤ R.slots)
    (kk : ∀ (H1 : Heap) (locs1 : List Loc), SP D cy S H1 → va_S A0 H0 H1 locs1 → W p l e R s m args below meth c H1 locs1 (cells + mc) (slots + ms) Q (F0 m (pc + 3) ls (rest))) : W p l e R s m args below meth c H locs cells slots Q (F0 m pc ls st0) := by
  subst hst
  have hr := va_runS (As := As) (rest := rest) (H := H) (locs := locs) (cells := cells) (slots := slots) (meth := meth) (below := below) (e := e) (g := F0 m pc ls (As.reverse ++ rest)) hF hM cw ⟨fb_PS, fun U hU hW9 => ⟨rfl, by rw [hU]; exact hP, va_K.moved hW9.alike hK⟩⟩ rfl hn hsz rfl (lv_room hW) hdg hf
  exact va_callv hr hS (fun q _ h => False.elim h) (fun q h => False.elim h) (fun _ t H1 locs1 ht _ _ hB _ hk1 hS1 => kk H1 locs1 (hP.kept (fun q h => hk1 q h id)) hS1)
theorem k_vSpx {x : String ⊕ Unit} (hF : CallFix p m c cc nL s args ALLW own) (hsz : ls.size = nL) (hM : vx_Met l y (wsA y bytes maxL ret) rm (va_Pc As (PSX D cy S)) (va_Qv (fun _ : Unit => x = .inr ()) (fun _ _ => True) noA) (vx_X (fun _ : Unit => True) (fun E _ _ => x = .inl E) noA) mc ms noA)
    (cw : CallB R s args own index y bytes maxL ret (wsA y bytes maxL ret) rm mc ms n ∧ (Cond.static y).before args s = true) (hn : As.length = n) (hK : va_K D vwCl (tyL cy) s) (hP : SP D cy S H) (hS : va_S A0 s.heap H locs) (hE : ENV A0 s) (hW : (rest.map fun v => v.category).sum ≤ 8) (hst : st0 = As.reverse ++ rest) (hdg : decode cc pc = .ok (.invokestatic index, 3)) (hf : cells + mc ≤ R.cells ∧ slots + ms ≤ R.slots)
    (kx : ∀ (E : String) (ce : Cell) (q9 : Addr) (H1 : Heap) (locs1 : List Loc), x = .inl E → SP D cy S H1 → va_S A0 s.heap H1 locs1 → H1[q9]? = some ce → ce.vm = .none → s.vm.findClass E = some ce.cls → vx_W p l e R s m args below meth c H1 locs1 (cells + mc) (slots + ms) Q (F0 m pc ls rest) q9)
    (kk : ∀ (H1 : Heap) (locs1 : List Loc), x = .inr () → SP D cy S H1 → va_S A0 s.heap H1 locs1 → W p l e R s m args below meth c H1 locs1 (cells + mc) (slots + ms) Q (F0 m (pc + 3) ls (rest))) : W p l e R s m args below meth c H locs cells slots Q (F0 m pc ls st0) := by
  subst hst
  have hr := vx_runS (As := As) (rest := rest) (H := H) (locs := locs) (cells := cells) (slots := slots) (meth := meth) (below := below) (e := e) (g := F0 m pc ls (As.reverse ++ rest)) hF hM cw ⟨fb_PSX, fun U hU hW9 => ⟨rfl, by rw [hU]; exact hP, va_K.moved hW9.alike hK, hE.at hS hU hW9 (fun q h => False.elim h)⟩⟩ rfl hn hsz rfl (lv_room hW) hdg hf
  exact vx_callv hr hS (fun q _ h => False.elim h) (fun q h => False.elim h) (fun q _ h => False.elim h) (fun E ce q9 _ t H1 locs1 ht _ _ hB _ hk1 hS1 h1 h2 h3 => kx E ce q9 H1 locs1 hB (hP.kept (fun q h => hk1 q h id)) hS1 h1 h2 h3)
    (fun _ t H1 locs1 ht _ hw hB _ hk1 hS1 => kk H1 locs1 hw (hP.kept (fun q h => hk1 q h id)) hS1)
theorem k_vSm (hF : CallFix p m c cc nL s args ALLW own) (hsz : ls.size = nL) (hM : Met l y (wsA y bytes maxL ret) rm (va_Pc As (PN D cy S H.size)) (va_Qv (fun _ : Unit => True) (fun _ t => PoS D cy S1 (dm S H.size) t) (dm S H.size)) mc ms (dm S H.size))
    (cw : CallB R s args own index y bytes maxL ret (wsA y bytes maxL ret) rm mc ms n ∧ (Cond.static y).before args s = true) (hn : As.length = n) (hK : va_K D vwCl (tyL cy) s) (hP : SP D cy S H) (hD : ∀ a, S a ≠ none → A0 a) (hA : ∀ q, H0.size ≤ q → A0 q) (hS : va_S A0 H0 H locs) (hW : (rest.map fun v => v.category).sum ≤ 8) (hst : st0 = As.reverse ++ rest) (hdg : decode cc pc = .ok (.invokestatic index, 3)) (hf : cells + mc ≤ R.cells ∧ slots + ms ≤ R.slots)
    (kk : ∀ (H1 : Heap) (locs1 : List Loc), SP D cy S1 H1 → (∀ a, S1 a ≠ none → A0 a) → va_S A0 H0 H1 locs1 → W p l e R s m args below meth c H1 locs1 (cells + mc) (slots + ms) Q (F0 m (pc + 3) ls (rest))) : W p l e R s m args below meth c H locs cells slots Q (F0 m pc ls st0) := by
  subst hst
  have hr := va_runS (As := As) (rest := rest) (H := H) (locs := locs) (cells := cells) (slots := slots) (meth := meth) (below := below) (e := e) (g := F0 m pc ls (As.reverse ++ rest)) hF hM cw ⟨fb_PN, fun U hU hW9 => ⟨rfl, by rw [hU], by rw [hU]; exact hP, va_K.moved hW9.alike hK⟩⟩ rfl hn hsz rfl (lv_room hW) hdg hf
  exact va_callv hr hS (fun q _ h => dm_sub hD hA hS q h) (dm_sub hD hA hS) (fun _ t H1 locs1 ht _ _ hB _ hk1 hS1 => kk H1 locs1 (by rw [← ht]; exact hB.1) (fun a h => dm_sub hD hA hS a (hB.2 a h)) hS1)
theorem k_vSmx {x : String ⊕ Unit} (hF : CallFix p m c cc nL s args ALLW own) (hsz : ls.size = nL) (hM : vx_Met l y (wsA y bytes maxL ret) rm (va_Pc As (PNX D cy S H.size)) (va_Qv (fun _ : Unit => x = .inr ()) (fun _ t => PoS D cy S1 (dm S H.size) t) (dm S H.size)) (vx_X (fun _ : Unit => True) (fun E _ t => x = .inl E ∧ PoS D cy S1 (dm S H.size) t) (dm S H.size)) mc ms (dm S H.size))
    (cw : CallB R s args own index y bytes maxL ret (wsA y bytes maxL ret) rm mc ms n ∧ (Cond.static y).before args s = true) (hn : As.length = n) (hK : va_K D vwCl (tyL cy) s) (hP : SP D cy S H) (hD : ∀ a, S a ≠ none → A0 a) (hA : ∀ q, s.heap.size ≤ q → A0 q) (hS : va_S A0 s.heap H locs) (hE : ENV A0 s) (hW : (rest.map fun v => v.category).sum ≤ 8) (hst : st0 = As.reverse ++ rest) (hdg : decode cc pc = .ok (.invokestatic index, 3)) (hf : cells + mc ≤ R.cells ∧ slots + ms ≤ R.slots)
    (kx : ∀ (E : String) (ce : Cell) (q9 : Addr) (H1 : Heap) (locs1 : List Loc), x = .inl E → SP D cy S1 H1 → (∀ a, S1 a ≠ none → A0 a) → va_S A0 s.heap H1 locs1 → H1[q9]? = some ce → ce.vm = .none → s.vm.findClass E = some ce.cls → vx_W p l e R s m args below meth c H1 locs1 (cells + mc) (slots + ms) Q (F0 m pc ls rest) q9)
    (kk : ∀ (H1 : Heap) (locs1 : List Loc), x = .inr () → SP D cy S1 H1 → (∀ a, S1 a ≠ none → A0 a) → va_S A0 s.heap H1 locs1 → W p l e R s m args below meth c H1 locs1 (cells + mc) (slots + ms) Q (F0 m (pc + 3) ls (rest))) : W p l e R s m args below meth c H locs cells slots Q (F0 m pc ls st0) := by
  subst hst
  have hr := vx_runS (As := As) (rest := rest) (H := H) (locs := locs) (cells := cells) (slots := slots) (meth := meth) (below := below) (e := e) (g := F0 m pc ls (As.reverse ++ rest)) hF hM cw ⟨fb_PNX, fun U hU hW9 => ⟨rfl, by rw [hU], by rw [hU]; exact hP, va_K.moved hW9.alike hK, hE.at hS hU hW9 (dm_sub hD hA hS)⟩⟩ rfl hn hsz rfl (lv_room hW) hdg hf
  exact vx_callv hr hS (fun q _ h => dm_sub hD hA hS q h) (dm_sub hD hA hS) (fun q _ h => dm_sub hD hA hS q h) (fun E ce q9 _ t H1 locs1 ht _ _ hB _ hk1 hS1 h1 h2 h3 => kx E ce q9 H1 locs1 hB.1 (by rw [← ht]; exact hB.2.1) (fun a h => dm_sub hD hA hS a (hB.2.2 a h)) hS1 h1 h2 h3)
    (fun _ t H1 locs1 ht _ hw hB _ hk1 hS1 => kk H1 locs1 hw (by rw [← ht]; exact hB.1) (fun a h => dm_sub hD hA hS a (hB.2 a h)) hS1)
theorem k_rVp {r : Nat} (hF : CallFix p m c cc nL s args ALLW own) (hsz : ls.size = nL) (hM : Met l y (wsA y bytes maxL ret) rm (va_Pc (.ref b :: As) (PS D cy S)) (va_Qq (fun r' (_ : Unit) => r' = some r) (fun _ _ => True) noA) mc ms noA)
    (cw : CallW R s args own q.1 index y bytes maxL ret (wsA y bytes maxL ret) rm mc ms n) (hn : As.length = n) (hK : va_K D vwCl (tyL cy) s) (hP : SP D cy S H) (hS : va_S A0 H0 H locs) (hc : oO S b ci = some u) (hcl : vwCl[ci]? = some q) (hW : (rest.map fun v => v.category).sum ≤ 8) (hst : st0 = As.reverse ++ .ref b :: rest) (hdg : decode cc pc = .ok (.invokevirtual index, 3)) (hf : cells + mc ≤ R.cells ∧ slots + ms ≤ R.slots)
    (kk : ∀ (H1 : Heap) (locs1 : List Loc), SP D cy S H1 → va_S A0 H0 H1 locs1 → W p l e R s m args below meth c H1 locs1 (cells + mc) (slots + ms) Q (F0 m (pc + 3) ls (.ref r :: rest))) : W p l e R s m args below meth c H locs cells slots Q (F0 m pc ls st0) := by
  subst hst
  have hr := va_runV (As := As) (rest := rest) (H := H) (locs := locs) (cells := cells) (slots := slots) (meth := meth) (below := below) (e := e) (g := F0 m pc ls (As.reverse ++ .ref b :: rest)) hF hM cw ⟨fb_PS, recv hK hP hcl hc, fun U hU hW9 => ⟨rfl, by rw [hU]; exact hP, va_K.moved hW9.alike hK⟩⟩ rfl hn hsz rfl (lv_room hW) hdg hf
  exact va_callq hr hS (fun q _ h => False.elim h) (fun q h => False.elim h) (fun r' _ t H1 locs1 ht _ hw hB _ hk1 hS1 => by
    subst hw
    exact kk H1 locs1 (hP.kept (fun q h => hk1 q h id)) hS1)
theorem k_rVpx {x : String ⊕ Nat} (hF : CallFix p m c cc nL s args ALLW own) (hsz : ls.size = nL) (hM : vx_Met l y (wsA y bytes maxL ret) rm (va_Pc (.ref b :: As) (PSX D cy S)) (va_Qq (fun r' (_ : Unit) => ∃ r, r' = some r ∧ x = .inr r) (fun _ _ => True) noA) (vx_X (fun _ : Unit => True) (fun E _ _ => x = .inl E) noA) mc ms noA)
    (cw : CallW R s args own q.1 index y bytes maxL ret (wsA y bytes maxL ret) rm mc ms n) (hn : As.length = n) (hK : va_K D vwCl (tyL cy) s) (hP : SP D cy S H) (hS : va_S A0 s.heap H locs) (hE : ENV A0 s) (hc : oO S b ci = some u) (hcl : vwCl[ci]? = some q) (hW : (rest.map fun v => v.category).sum ≤ 8) (hst : st0 = As.reverse ++ .ref b :: rest) (hdg : decode cc pc = .ok (.invokevirtual index, 3)) (hf : cells + mc ≤ R.cells ∧ slots + ms ≤ R.slots)
    (kx : ∀ (E : String) (ce : Cell) (q9 : Addr) (H1 : Heap) (locs1 : List Loc), x = .inl E → SP D cy S H1 → va_S A0 s.heap H1 locs1 → H1[q9]? = some ce → ce.vm = .none → s.vm.findClass E = some ce.cls → vx_W p l e R s m args below meth c H1 locs1 (cells + mc) (slots + ms) Q (F0 m pc ls rest) q9)
    (kk : ∀ (r : Nat) (H1 : Heap) (locs1 : List Loc), x = .inr r → SP D cy S H1 → va_S A0 s.heap H1 locs1 → W p l e R s m args below meth c H1 locs1 (cells + mc) (slots + ms) Q (F0 m (pc + 3) ls (.ref r :: rest))) : W p l e R s m args below meth c H locs cells slots Q (F0 m pc ls st0) := by
  subst hst
  have hr := vx_runV (As := As) (rest := rest) (H := H) (locs := locs) (cells := cells) (slots := slots) (meth := meth) (below := below) (e := e) (g := F0 m pc ls (As.reverse ++ .ref b :: rest)) hF hM cw ⟨fb_PSX, recv hK hP hcl hc, fun U hU hW9 => ⟨rfl, by rw [hU]; exact hP, va_K.moved hW9.alike hK, hE.at hS hU hW9 (fun q h => False.elim h)⟩⟩ rfl hn hsz rfl (lv_room hW) hdg hf
  exact vx_callq hr hS (fun q _ h => False.elim h) (fun q h => False.elim h) (fun q _ h => False.elim h) (fun E ce q9 _ t H1 locs1 ht _ _ hB _ hk1 hS1 h1 h2 h3 => kx E ce q9 H1 locs1 hB (hP.kept (fun q h => hk1 q h id)) hS1 h1 h2 h3)
    (fun r' _ t H1 locs1 ht _ hw hB _ hk1 hS1 => by
    obtain ⟨r, rfl, hx⟩ := hw
    exact kk r H1 locs1 hx (hP.kept (fun q h => hk1 q h id)) hS1)
theorem k_rVm {r : Nat} (hF : CallFix p m c cc nL s args ALLW own) (hsz : ls.size = nL) (hM : Met l y (wsA y bytes maxL ret) rm (va_Pc (.ref b :: As) (PN D cy S H.size)) (va_Qq (fun r' (_ : Unit) => r' = some r) (fun _ t => PoS D cy S1 (dm S H.size) t) (dm S H.size)) mc ms (dm S H.size))
    (cw : CallW R s args own q.1 index y bytes maxL ret (wsA y bytes maxL ret) rm mc ms n) (hn : As.length = n) (hK : va_K D vwCl (tyL cy) s) (hP : SP D cy S H) (hD : ∀ a, S a ≠ none → A0 a) (hA : ∀ q, H0.size ≤ q → A0 q) (hS : va_S A0 H0 H locs) (hc : oO S b ci = some u) (hcl : vwCl[ci]? = some q) (hW : (rest.map fun v => v.category).sum ≤ 8) (hst : st0 = As.reverse ++ .ref b :: rest) (hdg : decode cc pc = .ok (.invokevirtual index, 3)) (hf : cells + mc ≤ R.cells ∧ slots + ms ≤ R.slots)
    (kk : ∀ (H1 : Heap) (locs1 : List Loc), SP D cy S1 H1 → (∀ a, S1 a ≠ none → A0 a) → va_S A0 H0 H1 locs1 → W p l e R s m args below meth c H1 locs1 (cells + mc) (slots + ms) Q (F0 m (pc + 3) ls (.ref r :: rest))) : W p l e R s m args below meth c H locs cells slots Q (F0 m pc ls st0) := by
  subst hst
  have hr := va_runV (As := As) (rest := rest) (H := H) (locs := locs) (cells := cells) (slots := slots) (meth := meth) (below := below) (e := e) (g := F0 m pc ls (As.reverse ++ .ref b :: rest)) hF hM cw ⟨fb_PN, recv hK hP hcl hc, fun U hU hW9 => ⟨rfl, by rw [hU], by rw [hU]; exact hP, va_K.moved hW9.alike hK⟩⟩ rfl hn hsz rfl (lv_room hW) hdg hf
  exact va_callq hr hS (fun q _ h => dm_sub hD hA hS q h) (dm_sub hD hA hS) (fun r' _ t H1 locs1 ht _ hw hB _ hk1 hS1 => by
    subst hw
    exact kk H1 locs1 (by rw [← ht]; exact hB.1) (fun a h => dm_sub hD hA hS a (hB.2 a h)) hS1)
theorem k_rVmx {x : String ⊕ Nat} (hF : CallFix p m c cc nL s args ALLW own) (hsz : ls.size = nL) (hM : vx_Met l y (wsA y bytes maxL ret) rm (va_Pc (.ref b :: As) (PNX D cy S H.size)) (va_Qq (fun r' (_ : Unit) => ∃ r, r' = some r ∧ x = .inr r) (fun _ t => PoS D cy S1 (dm S H.size) t) (dm S H.size)) (vx_X (fun _ : Unit => True) (fun E _ t => x = .inl E ∧ PoS D cy S1 (dm S H.size) t) (dm S H.size)) mc ms (dm S H.size))
    (cw : CallW R s args own q.1 index y bytes maxL ret (wsA y bytes maxL ret) rm mc ms n) (hn : As.length = n) (hK : va_K D vwCl (tyL cy) s) (hP : SP D cy S H) (hD : ∀ a, S a ≠ none → A0 a) (hA : ∀ q, s.heap.size ≤ q → A0 q) (hS : va_S A0 s.heap H locs) (hE : ENV A0 s) (hc : oO S b ci = some u) (hcl : vwCl[ci]? = some q) (hW : (rest.map fun v => v.category).sum ≤ 8) (hst : st0 = As.reverse ++ .ref b :: rest) (hdg : decode cc pc = .ok (.invokevirtual index, 3)) (hf : cells + mc ≤ R.cells ∧ slots + ms ≤ R.slots)
    (kx : ∀ (E : String) (ce : Cell) (q9 : Addr) (H1 : Heap) (locs1 : List Loc), x = .inl E → SP D cy S1 H1 → (∀ a, S1 a ≠ none → A0 a) → va_S A0 s.heap H1 locs1 → H1[q9]? = some ce → ce.vm = .none → s.vm.findClass E = some ce.cls → vx_W p l e R s m args below meth c H1 locs1 (cells + mc) (slots + ms) Q (F0 m pc ls rest) q9)
    (kk : ∀ (r : Nat) (H1 : Heap) (locs1 : List Loc), x = .inr r → SP D cy S1 H1 → (∀ a, S1 a ≠ none → A0 a) → va_S A0 s.heap H1 locs1 → W p l e R s m args below meth c H1 locs1 (cells + mc) (slots + ms) Q (F0 m (pc + 3) ls (.ref r :: rest))) : W p l e R s m args below meth c H locs cells slots Q (F0 m pc ls st0) := by
  subst hst
  have hr := vx_runV (As := As) (rest := rest) (H := H) (locs := locs) (cells := cells) (slots := slots) (meth := meth) (below := below) (e := e) (g := F0 m pc ls (As.reverse ++ .ref b :: rest)) hF hM cw ⟨fb_PNX, recv hK hP hcl hc, fun U hU hW9 => ⟨rfl, by rw [hU], by rw [hU]; exact hP, va_K.moved hW9.alike hK, hE.at hS hU hW9 (dm_sub hD hA hS)⟩⟩ rfl hn hsz rfl (lv_room hW) hdg hf
  exact vx_callq hr hS (fun q _ h => dm_sub hD hA hS q h) (dm_sub hD hA hS) (fun q _ h => dm_sub hD hA hS q h) (fun E ce q9 _ t H1 locs1 ht _ _ hB _ hk1 hS1 h1 h2 h3 => kx E ce q9 H1 locs1 hB.1 (by rw [← ht]; exact hB.2.1) (fun a h => dm_sub hD hA hS a (hB.2.2 a h)) hS1 h1 h2 h3)
    (fun r' _ t H1 locs1 ht _ hw hB _ hk1 hS1 => by
    obtain ⟨r, rfl, hx⟩ := hw
    exact kk r H1 locs1 hx (by rw [← ht]; exact hB.1) (fun a h => dm_sub hD hA hS a (hB.2 a h)) hS1)
theorem k_rSp {r : Nat} (hF : CallFix p m c cc nL s args ALLW own) (hsz : ls.size = nL) (hM : Met l y (wsA y bytes maxL ret) rm (va_Pc As (PS D cy S)) (va_Qq (fun r' (_ : Unit) => r' = some r) (fun _ _ => True) noA) mc ms noA)
    (cw : CallB R s args own index y bytes maxL ret (wsA y bytes maxL ret) rm mc ms n ∧ (Cond.static y).before args s = true) (hn : As.length = n) (hK : va_K D vwCl (tyL cy) s) (hP : SP D cy S H) (hS : va_S A0 H0 H locs) (hW : (rest.map fun v => v.category).sum ≤ 8) (hst : st0 = As.reverse ++ rest) (hdg : decode cc pc = .ok (.invokestatic index, 3)) (hf : cells + mc ≤ R.cells ∧ slots + ms ≤ R.slots)
    (kk : ∀ (H1 : Heap) (locs1 : List Loc), SP D cy S H1 → va_S A0 H0 H1 locs1 → W p l e R s m args below meth c H1 locs1 (cells + mc) (slots + ms) Q (F0 m (pc + 3) ls (.ref r :: rest))) : W p l e R s m args below meth c H locs cells slots Q (F0 m pc ls st0) := by
  subst hst
  have hr := va_runS (As := As) (rest := rest) (H := H) (locs := locs) (cells := cells) (slots := slots) (meth := meth) (below := below) (e := e) (g := F0 m pc ls (As.reverse ++ rest)) hF hM cw ⟨fb_PS, fun U hU hW9 => ⟨rfl, by rw [hU]; exact hP, va_K.moved hW9.alike hK⟩⟩ rfl hn hsz rfl (lv_room hW) hdg hf
  exact va_callq hr hS (fun q _ h => False.elim h) (fun q h => False.elim h) (fun r' _ t H1 locs1 ht _ hw hB _ hk1 hS1 => by
    subst hw
    exact kk H1 locs1 (hP.kept (fun q h => hk1 q h id)) hS1)
theorem k_rSpx {x : String ⊕ Nat} (hF : CallFix p m c cc nL s args ALLW own) (hsz : ls.size = nL) (hM : vx_Met l y (wsA y bytes maxL ret) rm (va_Pc As (PSX D cy S)) (va_Qq (fun r' (_ : Unit) => ∃ r, r' = some r ∧ x = .inr r) (fun _ _ => True) noA) (vx_X (fun _ : Unit => True) (fun E _ _ => x = .inl E) noA) mc ms noA)
    (cw : CallB R s args own index y bytes maxL ret (wsA y bytes maxL ret) rm mc ms n ∧ (Cond.static y).before args s = true) (hn : As.length = n) (hK : va_K D vwCl (tyL cy) s) (hP : SP D cy S H) (hS : va_S A0 s.heap H locs) (hE : ENV A0 s) (hW : (rest.map fun v => v.category).sum ≤ 8) (hst : st0 = As.reverse ++ rest) (hdg : decode cc pc = .ok (.invokestatic index, 3)) (hf : cells + mc ≤ R.cells ∧ slots + ms ≤ R.slots)
    (kx : ∀ (E : String) (ce : Cell) (q9 : Addr) (H1 : Heap) (locs1 : List Loc), x = .inl E → SP D cy S H1 → va_S A0 s.heap H1 locs1 → H1[q9]? = some ce → ce.vm = .none → s.vm.findClass E = some ce.cls → vx_W p l e R s m args below meth c H1 locs1 (cells + mc) (slots + ms) Q (F0 m pc ls rest) q9)
    (kk : ∀ (r : Nat) (H1 : Heap) (locs1 : List Loc), x = .inr r → SP D cy S H1 → va_S A0 s.heap H1 locs1 → W p l e R s m args below meth c H1 locs1 (cells + mc) (slots + ms) Q (F0 m (pc + 3) ls (.ref r :: rest))) : W p l e R s m args below meth c H locs cells slots Q (F0 m pc ls st0) := by
  subst hst
  have hr := vx_runS (As := As) (rest := rest) (H := H) (locs := locs) (cells := cells) (slots := slots) (meth := meth) (below := below) (e := e) (g := F0 m pc ls (As.reverse ++ rest)) hF hM cw ⟨fb_PSX, fun U hU hW9 => ⟨rfl, by rw [hU]; exact hP, va_K.moved hW9.alike hK, hE.at hS hU hW9 (fun q h => False.elim h)⟩⟩ rfl hn hsz rfl (lv_room hW) hdg hf
  exact vx_callq hr hS (fun q _ h => False.elim h) (fun q h => False.elim h) (fun q _ h => False.elim h) (fun E ce q9 _ t H1 locs1 ht _ _ hB _ hk1 hS1 h1 h2 h3 => kx E ce q9 H1 locs1 hB (hP.kept (fun q h => hk1 q h id)) hS1 h1 h2 h3)
    (fun r' _ t H1 locs1 ht _ hw hB _ hk1 hS1 => by
    obtain ⟨r, rfl, hx⟩ := hw
    exact kk r H1 locs1 hx (hP.kept (fun q h => hk1 q h id)) hS1)
theorem k_rSm {r : Nat} (hF : CallFix p m c cc nL s args ALLW own) (hsz : ls.size = nL) (hM : Met l y (wsA y bytes maxL ret) rm (va_Pc As (PN D cy S H.size)) (va_Qq (fun r' (_ : Unit) => r' = some r) (fun _ t => PoS D cy S1 (dm S H.size) t) (dm S H.size)) mc ms (dm S H.size))
    (cw : CallB R s args own index y bytes maxL ret (wsA y bytes maxL ret) rm mc ms n ∧ (Cond.static y).before args s = true) (hn : As.length = n) (hK : va_K D vwCl (tyL cy) s) (hP : SP D cy S H) (hD : ∀ a, S a ≠ none → A0 a) (hA : ∀ q, H0.size ≤ q → A0 q) (hS : va_S A0 H0 H locs) (hW : (rest.map fun v => v.category).sum ≤ 8) (hst : st0 = As.reverse ++ rest) (hdg : decode cc pc = .ok (.invokestatic index, 3)) (hf : cells + mc ≤ R.cells ∧ slots + ms ≤ R.slots)
    (kk : ∀ (H1 : Heap) (locs1 : List Loc), SP D cy S1 H1 → (∀ a, S1 a ≠ none → A0 a) → va_S A0 H0 H1 locs1 → W p l e R s m args below meth c H1 locs1 (cells + mc) (slots + ms) Q (F0 m (pc + 3) ls (.ref r :: rest))) : W p l e R s m args below meth c H locs cells slots Q (F0 m pc ls st0) := by
  subst hst
  have hr := va_runS (As := As) (rest := rest) (H := H) (locs := locs) (cells := cells) (slots := slots) (meth := meth) (below := below) (e := e) (g := F0 m pc ls (As.reverse ++ rest)) hF hM cw ⟨fb_PN, fun U hU hW9 => ⟨rfl, by rw [hU], by rw [hU]; exact hP, va_K.moved hW9.alike hK⟩⟩ rfl hn hsz rfl (lv_room hW) hdg hf
  exact va_callq hr hS (fun q _ h => dm_sub hD hA hS q h) (dm_sub hD hA hS) (fun r' _ t H1 locs1 ht _ hw hB _ hk1 hS1 => by
    subst hw
    exact kk H1 locs1 (by rw [← ht]; exact hB.1) (fun a h => dm_sub hD hA hS a (hB.2 a h)) hS1)
theorem k_rSmx {x : String ⊕ Nat} (hF : CallFix p m c cc nL s args ALLW own) (hsz : ls.size = nL) (hM : vx_Met l y (wsA y bytes maxL ret) rm (va_Pc As (PNX D cy S H.size)) (va_Qq (fun r' (_ : Unit) => ∃ r, r' = some r ∧ x = .inr r) (fun _ t => PoS D cy S1 (dm S H.size) t) (dm S H.size)) (vx_X (fun _ : Unit => True) (fun E _ t => x = .inl E ∧ PoS D cy S1 (dm S H.size) t) (dm S H.size)) mc ms (dm S H.size))
    (cw : CallB R s args own index y bytes maxL ret (wsA y bytes maxL ret) rm mc ms n ∧ (Cond.static y).before args s = true) (hn : As.length = n) (hK : va_K D vwCl (tyL cy) s) (hP : SP D cy S H) (hD : ∀ a, S a ≠ none → A0 a) (hA : ∀ q, s.heap.size ≤ q → A0 q) (hS : va_S A0 s.heap H locs) (hE : ENV A0 s) (hW : (rest.map fun v => v.category).sum ≤ 8) (hst : st0 = As.reverse ++ rest) (hdg : decode cc pc = .ok (.invokestatic index, 3)) (hf : cells + mc ≤ R.cells ∧ slots + ms ≤ R.slots)
    (kx : ∀ (E : String) (ce : Cell) (q9 : Addr) (H1 : Heap) (locs1 : List Loc), x = .inl E → SP D cy S1 H1 → (∀ a, S1 a ≠ none → A0 a) → va_S A0 s.heap H1 locs1 → H1[q9]? = some ce → ce.vm = .none → s.vm.findClass E = some ce.cls → vx_W p l e R s m args below meth c H1 locs1 (cells + mc) (slots + ms) Q (F0 m pc ls rest) q9)
    (kk : ∀ (r : Nat) (H1 : Heap) (locs1 : List Loc), x = .inr r → SP D cy S1 H1 → (∀ a, S1 a ≠ none → A0 a) → va_S A0 s.heap H1 locs1 → W p l e R s m args below meth c H1 locs1 (cells + mc) (slots + ms) Q (F0 m (pc + 3) ls (.ref r :: rest))) : W p l e R s m args below meth c H locs cells slots Q (F0 m pc ls st0) := by
  subst hst
  have hr := vx_runS (As := As) (rest := rest) (H := H) (locs := locs) (cells := cells) (slots := slots) (meth := meth) (below := below) (e := e) (g := F0 m pc ls (As.reverse ++ rest)) hF hM cw ⟨fb_PNX, fun U hU hW9 => ⟨rfl, by rw [hU], by rw [hU]; exact hP, va_K.moved hW9.alike hK, hE.at hS hU hW9 (dm_sub hD hA hS)⟩⟩ rfl hn hsz rfl (lv_room hW) hdg hf
  exact vx_callq hr hS (fun q _ h => dm_sub hD hA hS q h) (dm_sub hD hA hS) (fun q _ h => dm_sub hD hA hS q h) (fun E ce q9 _ t H1 locs1 ht _ _ hB _ hk1 hS1 h1 h2 h3 => kx E ce q9 H1 locs1 hB.1 (by rw [← ht]; exact hB.2.1) (fun a h => dm_sub hD hA hS a (hB.2.2 a h)) hS1 h1 h2 h3)
    (fun r' _ t H1 locs1 ht _ hw hB _ hk1 hS1 => by
    obtain ⟨r, rfl, hx⟩ := hw
    exact kk r H1 locs1 hx (by rw [← ht]; exact hB.1) (fun a h => dm_sub hD hA hS a (hB.2 a h)) hS1)
theorem k_I {host : String} {sz1 : Nat} (hF : CallFix p m c cc nL s args ALLW own) (hsz : ls.size = nL) (hM : Met l y (wsA y bytes maxL none) rm (va_Pc (.ref b :: As) (PNA D cy S H.size)) (va_Qv (fun _ : Unit => True) (fun _ t => t.heap.size = sz1 ∧ PoS D cy S1 (dm S H.size) t) (dm S H.size)) mc ms (dm S H.size))
    (cw : CallB R s args own index y bytes maxL none (wsA y bytes maxL none) rm mc ms n ∧ y.name = "<init>" ∧ (Cond.instanceMethod y).before args s = true) (hn : As.length = n) (hK : va_K D vwCl (tyL cy) s) (hP : SP D cy S H) (hD : ∀ a, S a ≠ none → A0 a) (hA : ∀ q, H0.size ≤ q → A0 q) (hS : va_S A0 H0 H locs) (hE : NWA s) (hW : (rest.map fun v => v.category).sum ≤ 8) (hst : st0 = As.reverse ++ .ref b :: rest) (hdg : decode cc pc = .ok (.invokespecial index, 3)) (hf : cells + mc ≤ R.cells ∧ slots + ms ≤ R.slots)
    (kk : ∀ (H1 : Heap) (locs1 : List Loc), H1.size = sz1 → SP D cy S1 H1 → (∀ a, S1 a ≠ none → A0 a) → va_S A0 H0 H1 locs1 → W p l e R s m args below meth c H1 locs1 (cells + mc) (slots + ms) Q (F0 m (pc + 3) ls rest)) : W p l e R s m args below meth c H locs cells slots Q (F0 m pc ls st0) := by
  subst hst
  have hr := va_runI (As := As) (rest := rest) (H := H) (locs := locs) (cells := cells) (slots := slots) (meth := meth) (below := below) (e := e) (g := F0 m pc ls (As.reverse ++ .ref b :: rest)) hF hM cw ⟨fb_PNA, fun U hU hW9 => ⟨rfl, by rw [hU], by rw [hU]; exact hP, va_K.moved hW9.alike hK, hE.warm hW9⟩⟩ rfl hn hsz rfl (lv_room hW) hdg hf
  exact va_callv hr hS (fun q _ h => dm_sub hD hA hS q h) (dm_sub hD hA hS) (fun _ t H1 locs1 ht _ _ hB _ hk1 hS1 => kk H1 locs1 (by rw [← ht]; exact hB.1) (by rw [← ht]; exact hB.2.1) (fun a h => dm_sub hD hA hS a (hB.2.2 a h)) hS1)
theorem k_N {host : String} {sz1 : Nat} (hF : CallFix p m c cc nL s args ALLW own) (hsz : ls.size = nL) (hM : Met l y (wsA y bytes maxL none) rm (va_Pc (.ref b :: As) (PNA D cy S H.size)) (va_Qv (fun _ : Unit => True) (fun _ t => t.heap.size = sz1 ∧ PoS D cy S1 (dm S H.size) t) (dm S H.size)) mc ms (dm S H.size))
    (cw : va_CN R s args own index y host bytes maxL none (wsA y bytes maxL none) rm mc ms n ∧ y.name = "<init>" ∧ (Cond.instanceMethod y).before args s = true) (hn : As.length = n) (hK : va_K D vwCl (tyL cy) s) (hP : SP D cy S H) (hD : ∀ a, S a ≠ none → A0 a) (hA : ∀ q, H0.size ≤ q → A0 q) (hS : va_S A0 H0 H locs) (hE : NWA s) (hW : (rest.map fun v => v.category).sum ≤ 8) (hst : st0 = As.reverse ++ .ref b :: rest) (hdg : decode cc pc = .ok (.invokespecial index, 3)) (hf : cells + mc ≤ R.cells ∧ slots + ms ≤ R.slots)
    (kk : ∀ (H1 : Heap) (locs1 : List Loc), H1.size = sz1 → SP D cy S1 H1 → (∀ a, S1 a ≠ none → A0 a) → va_S A0 H0 H1 locs1 → W p l e R s m args below meth c H1 locs1 (cells + mc) (slots + ms) Q (F0 m (pc + 3) ls rest)) : W p l e R s m args below meth c H locs cells slots Q (F0 m pc ls st0) := by
  subst hst
  have hr := va_runIN (As := As) (rest := rest) (H := H) (locs := locs) (cells := cells) (slots := slots) (meth := meth) (below := below) (e := e) (g := F0 m pc ls (As.reverse ++ .ref b :: rest)) hF hM cw ⟨fb_PNA, fun U hU hW9 => ⟨rfl, by rw [hU], by rw [hU]; exact hP, va_K.moved hW9.alike hK, hE.warm hW9⟩⟩ rfl hn hsz rfl (lv_room hW) hdg hf
  exact va_callv hr hS (fun q _ h => dm_sub hD hA hS q h) (dm_sub hD hA hS) (fun _ t H1 locs1 ht _ _ hB _ hk1 hS1 => kk H1 locs1 (by rw [← ht]; exact hB.1) (by rw [← ht]; exact hB.2.1) (fun a h => dm_sub hD hA hS a (hB.2.2 a h)) hS1)
theorem k_W {hh : List (Nat × Nat × Nat × Nat)} {r : Int32} (hF : CallFix p m c cc nL s args ALLW own) (hsz : ls.size = nL) (hM : Met l y (wsW y bytes maxL ret hh) rm (va_Pc As (PNL D cy S H.size)) (va_Qi (fun r' (_ : Unit) => r' = r) (fun _ t => PoS D cy S1 (dm S H.size) t) (dm S H.size)) mc ms (dm S H.size))
    (cw : vx_CSW R s args own index y bytes maxL ret hh (wsW y bytes maxL ret hh) rm mc ms n) (hn : As.length = n) (hK : va_K D vwCl (tyL cy) s) (hP : SP D cy S H) (hD : ∀ a, S a ≠ none → A0 a) (hA : ∀ q, s.heap.size ≤ q → A0 q) (hS : va_S A0 s.heap H locs) (hE : ENV A0 s) (hNC : NCS s) (hW : (rest.map fun v => v.category).sum ≤ 8) (hst : st0 = As.reverse ++ rest) (hdg : decode cc pc = .ok (.invokestatic index, 3)) (hf : cells + mc ≤ R.cells ∧ slots + ms ≤ R.slots)
    (kk : ∀ (H1 : Heap) (locs1 : List Loc), SP D cy S1 H1 → (∀ a, S1 a ≠ none → A0 a) → va_S A0 s.heap H1 locs1 → W p l e R s m args below meth c H1 locs1 (cells + mc) (slots + ms) Q (F0 m (pc + 3) ls (.int r :: rest))) : W p l e R s m args below meth c H locs cells slots Q (F0 m pc ls st0) := by
  subst hst
  have hr := vx_runSW (As := As) (rest := rest) (H := H) (locs := locs) (cells := cells) (slots := slots) (meth := meth) (below := below) (e := e) (g := F0 m pc ls (As.reverse ++ rest)) hF hM cw ⟨fb_PNL, fun U hU hW9 => ⟨rfl, by rw [hU], by rw [hU]; exact hP, va_K.moved hW9.alike hK, hE.at hS hU hW9 (dm_sub hD hA hS), hNC.moved hW9.alike⟩⟩ rfl hn hsz rfl (lv_room hW) hdg hf
  exact va_calli hr hS (fun q _ h => dm_sub hD hA hS q h) (dm_sub hD hA hS) (fun r _ t H1 locs1 ht _ hw hB _ hk1 hS1 => by
    subst hw
    exact kk H1 locs1 (by rw [← ht]; exact hB.1) (fun a h => dm_sub hD hA hS a (hB.2 a h)) hS1)
end CALLS
section ENDS
variable {p : Program} {l : Launch} {e : Env} {R : Room} {s : State} {m : MethodId} {args : Array Value} {below : List Frame} {meth : Method} {c : Code} {H : Heap} {locs : List Loc} {cells slots mc ms : Nat} {cc : ByteArray} {pc : Nat} {ls : Array Slot} {A : Nat → Prop} {D : va_G} {cy : Nat → ClassId} {S : St}
theorem e_ip {v : Int32} (hx : p.tables.exec = Jvm.exec) (hb : c.code = cc) (hlocks : meth.locks = false) (hr : meth.sig.returnType = some .int) (hS : va_S noA s.heap H locs) (hc : cells ≤ mc) (hs : slots ≤ ms) (hdg : decode cc pc = .ok (.ireturn, 1)) : W p l e R s m args below meth c H locs cells slots (MQ below (va_Qi (fun r' (_ : Unit) => r' = v) (fun _ _ => True) noA) args s mc ms noA) (F0 m pc ls [.int v]) := by
  refine W.widen hc hs ?_
  exact W.iret hx hb hr (fun t ht hW => ⟨⟨v, (), rfl, rfl, trivial⟩, hS.F ht⟩) hS.2.2 hdg hlocks
theorem e_ipx {v : Int32} {XC : String → State → State → Prop} (hx : p.tables.exec = Jvm.exec) (hb : c.code = cc) (hlocks : meth.locks = false) (hr : meth.sig.returnType = some .int) (hS : va_S noA s.heap H locs) (hc : cells ≤ mc) (hs : slots ≤ ms) (hdg : decode cc pc = .ok (.ireturn, 1)) : W p l e R s m args below meth c H locs cells slots (vx_MQ below (va_Qi (fun r' (_ : Unit) => (Sum.inr v : String ⊕ Int32) = .inr r') (fun _ _ => True) noA) XC args s mc ms noA) (F0 m pc ls [.int v]) := by
  refine vx_ret ?_
  refine W.widen hc hs ?_
  exact W.iret hx hb hr (fun t ht hW => ⟨⟨v, (), rfl, rfl, trivial⟩, hS.F ht⟩) hS.2.2 hdg hlocks
theorem e_im {v : Int32} (hx : p.tables.exec = Jvm.exec) (hb : c.code = cc) (hlocks : meth.locks = false) (hr : meth.sig.returnType = some .int) (hP : SP D cy S H) (hD : ∀ a, S a ≠ none → A a) (hS : va_S A s.heap H locs) (hc : cells ≤ mc) (hs : slots ≤ ms) (hdg : decode cc pc = .ok (.ireturn, 1)) : W p l e R s m args below meth c H locs cells slots (MQ below (va_Qi (fun r' (_ : Unit) => r' = v) (fun _ t => PoS D cy S A t) A) args s mc ms A) (F0 m pc ls [.int v]) := by
  refine W.widen hc hs ?_
  exact W.iret hx hb hr (fun t ht hW => ⟨⟨v, (), rfl, rfl, ⟨by rw [ht]; exact hP, hD⟩⟩, hS.F ht⟩) hS.2.2 hdg hlocks
theorem e_imx {v : Int32} {XC : String → State → State → Prop} (hx : p.tables.exec = Jvm.exec) (hb : c.code = cc) (hlocks : meth.locks = false) (hr : meth.sig.returnType = some .int) (hP : SP D cy S H) (hD : ∀ a, S a ≠ none → A a) (hS : va_S A s.heap H locs) (hc : cells ≤ mc) (hs : slots ≤ ms) (hdg : decode cc pc = .ok (.ireturn, 1)) : W p l e R s m args below meth c H locs cells slots (vx_MQ below (va_Qi (fun r' (_ : Unit) => (Sum.inr v : String ⊕ Int32) = .inr r') (fun _ t => PoS D cy S A t) A) XC args s mc ms A) (F0 m pc ls [.int v]) := by
  refine vx_ret ?_
  refine W.widen hc hs ?_
  exact W.iret hx hb hr (fun t ht hW => ⟨⟨v, (), rfl, rfl, ⟨by rw [ht]; exact hP, hD⟩⟩, hS.F ht⟩) hS.2.2 hdg hlocks
theorem e_zp {v : Int32} (hx : p.tables.exec = Jvm.exec) (hb : c.code = cc) (hlocks : meth.locks = false) (hv : v = 0 ∨ v = 1) (hr : meth.sig.returnType = some .boolean) (hS : va_S noA s.heap H locs) (hc : cells ≤ mc) (hs : slots ≤ ms) (hdg : decode cc pc = .ok (.ireturn, 1)) : W p l e R s m args below meth c H locs cells slots (MQ below (va_Qi (fun r' (_ : Unit) => r' = v) (fun _ _ => True) noA) args s mc ms noA) (F0 m pc ls [.int v]) := by
  refine W.widen hc hs ?_
  exact W.zret hx hb hr (by rcases hv with h | h <;> rw [h] <;> rfl) (fun t ht hW => ⟨⟨v, (), rfl, rfl, trivial⟩, hS.F ht⟩) hS.2.2 hdg hlocks
theorem e_zpx {v : Int32} {XC : String → State → State → Prop} (hx : p.tables.exec = Jvm.exec) (hb : c.code = cc) (hlocks : meth.locks = false) (hv : v = 0 ∨ v = 1) (hr : meth.sig.returnType = some .boolean) (hS : va_S noA s.heap H locs) (hc : cells ≤ mc) (hs : slots ≤ ms) (hdg : decode cc pc = .ok (.ireturn, 1)) : W p l e R s m args below meth c H locs cells slots (vx_MQ below (va_Qi (fun r' (_ : Unit) => (Sum.inr v : String ⊕ Int32) = .inr r') (fun _ _ => True) noA) XC args s mc ms noA) (F0 m pc ls [.int v]) := by
  refine vx_ret ?_
  refine W.widen hc hs ?_
  exact W.zret hx hb hr (by rcases hv with h | h <;> rw [h] <;> rfl) (fun t ht hW => ⟨⟨v, (), rfl, rfl, trivial⟩, hS.F ht⟩) hS.2.2 hdg hlocks
theorem e_zm {v : Int32} (hx : p.tables.exec = Jvm.exec) (hb : c.code = cc) (hlocks : meth.locks = false) (hv : v = 0 ∨ v = 1) (hr : meth.sig.returnType = some .boolean) (hP : SP D cy S H) (hD : ∀ a, S a ≠ none → A a) (hS : va_S A s.heap H locs) (hc : cells ≤ mc) (hs : slots ≤ ms) (hdg : decode cc pc = .ok (.ireturn, 1)) : W p l e R s m args below meth c H locs cells slots (MQ below (va_Qi (fun r' (_ : Unit) => r' = v) (fun _ t => PoS D cy S A t) A) args s mc ms A) (F0 m pc ls [.int v]) := by
  refine W.widen hc hs ?_
  exact W.zret hx hb hr (by rcases hv with h | h <;> rw [h] <;> rfl) (fun t ht hW => ⟨⟨v, (), rfl, rfl, ⟨by rw [ht]; exact hP, hD⟩⟩, hS.F ht⟩) hS.2.2 hdg hlocks
theorem e_zmx {v : Int32} {XC : String → State → State → Prop} (hx : p.tables.exec = Jvm.exec) (hb : c.code = cc) (hlocks : meth.locks = false) (hv : v = 0 ∨ v = 1) (hr : meth.sig.returnType = some .boolean) (hP : SP D cy S H) (hD : ∀ a, S a ≠ none → A a) (hS : va_S A s.heap H locs) (hc : cells ≤ mc) (hs : slots ≤ ms) (hdg : decode cc pc = .ok (.ireturn, 1)) : W p l e R s m args below meth c H locs cells slots (vx_MQ below (va_Qi (fun r' (_ : Unit) => (Sum.inr v : String ⊕ Int32) = .inr r') (fun _ t => PoS D cy S A t) A) XC args s mc ms A) (F0 m pc ls [.int v]) := by
  refine vx_ret ?_
  refine W.widen hc hs ?_
  exact W.zret hx hb hr (by rcases hv with h | h <;> rw [h] <;> rfl) (fun t ht hW => ⟨⟨v, (), rfl, rfl, ⟨by rw [ht]; exact hP, hD⟩⟩, hS.F ht⟩) hS.2.2 hdg hlocks
theorem e_lp {v : Int64} (hx : p.tables.exec = Jvm.exec) (hb : c.code = cc) (hlocks : meth.locks = false) (hr : meth.sig.returnType = some .long) (hS : va_S noA s.heap H locs) (hc : cells ≤ mc) (hs : slots ≤ ms) (hdg : decode cc pc = .ok (.lreturn, 1)) : W p l e R s m args below meth c H locs cells slots (MQ below (va_Ql (fun r' (_ : Unit) => r' = v) (fun _ _ => True) noA) args s mc ms noA) (F0 m pc ls [.long v]) := by
  refine W.widen hc hs ?_
  exact W.lret hx hb hr (fun t ht hW => ⟨⟨v, (), rfl, rfl, trivial⟩, hS.F ht⟩) hS.2.2 hdg hlocks
theorem e_lm {v : Int64} (hx : p.tables.exec = Jvm.exec) (hb : c.code = cc) (hlocks : meth.locks = false) (hr : meth.sig.returnType = some .long) (hP : SP D cy S H) (hD : ∀ a, S a ≠ none → A a) (hS : va_S A s.heap H locs) (hc : cells ≤ mc) (hs : slots ≤ ms) (hdg : decode cc pc = .ok (.lreturn, 1)) : W p l e R s m args below meth c H locs cells slots (MQ below (va_Ql (fun r' (_ : Unit) => r' = v) (fun _ t => PoS D cy S A t) A) args s mc ms A) (F0 m pc ls [.long v]) := by
  refine W.widen hc hs ?_
  exact W.lret hx hb hr (fun t ht hW => ⟨⟨v, (), rfl, rfl, ⟨by rw [ht]; exact hP, hD⟩⟩, hS.F ht⟩) hS.2.2 hdg hlocks
theorem e_dp {v : UInt64} (hx : p.tables.exec = Jvm.exec) (hb : c.code = cc) (hlocks : meth.locks = false) (hr : meth.sig.returnType = some .double) (hS : va_S noA s.heap H locs) (hc : cells ≤ mc) (hs : slots ≤ ms) (hdg : decode cc pc = .ok (.dreturn, 1)) : W p l e R s m args below meth c H locs cells slots (MQ below (va_Qd (fun r' (_ : Unit) => r' = v) (fun _ _ => True) noA) args s mc ms noA) (F0 m pc ls [.double v]) := by
  refine W.widen hc hs ?_
  exact W.dret hx hb hr (fun t ht hW => ⟨⟨v, (), rfl, rfl, trivial⟩, hS.F ht⟩) hS.2.2 hdg hlocks
theorem e_dm {v : UInt64} (hx : p.tables.exec = Jvm.exec) (hb : c.code = cc) (hlocks : meth.locks = false) (hr : meth.sig.returnType = some .double) (hP : SP D cy S H) (hD : ∀ a, S a ≠ none → A a) (hS : va_S A s.heap H locs) (hc : cells ≤ mc) (hs : slots ≤ ms) (hdg : decode cc pc = .ok (.dreturn, 1)) : W p l e R s m args below meth c H locs cells slots (MQ below (va_Qd (fun r' (_ : Unit) => r' = v) (fun _ t => PoS D cy S A t) A) args s mc ms A) (F0 m pc ls [.double v]) := by
  refine W.widen hc hs ?_
  exact W.dret hx hb hr (fun t ht hW => ⟨⟨v, (), rfl, rfl, ⟨by rw [ht]; exact hP, hD⟩⟩, hS.F ht⟩) hS.2.2 hdg hlocks
theorem e_vp (hx : p.tables.exec = Jvm.exec) (hb : c.code = cc) (hlocks : meth.locks = false) (hr : meth.sig.returnType = none) (hS : va_S noA s.heap H locs) (hc : cells ≤ mc) (hs : slots ≤ ms) (hdg : decode cc pc = .ok (.return_, 1)) : W p l e R s m args below meth c H locs cells slots (MQ below (va_Qv (fun _ : Unit => True) (fun _ _ => True) noA) args s mc ms noA) (F0 m pc ls []) := by
  refine W.widen hc hs ?_
  exact W.vret hx hb hr (fun t ht hW => ⟨⟨(), rfl, trivial, trivial⟩, hS.F ht⟩) hS.2.2 hdg hlocks
theorem e_vpx {XC : String → State → State → Prop} (hx : p.tables.exec = Jvm.exec) (hb : c.code = cc) (hlocks : meth.locks = false) (hr : meth.sig.returnType = none) (hS : va_S noA s.heap H locs) (hc : cells ≤ mc) (hs : slots ≤ ms) (hdg : decode cc pc = .ok (.return_, 1)) : W p l e R s m args below meth c H locs cells slots (vx_MQ below (va_Qv (fun _ : Unit => (Sum.inr () : String ⊕ Unit) = .inr ()) (fun _ _ => True) noA) XC args s mc ms noA) (F0 m pc ls []) := by
  refine vx_ret ?_
  refine W.widen hc hs ?_
  exact W.vret hx hb hr (fun t ht hW => ⟨⟨(), rfl, rfl, trivial⟩, hS.F ht⟩) hS.2.2 hdg hlocks
theorem e_vm (hx : p.tables.exec = Jvm.exec) (hb : c.code = cc) (hlocks : meth.locks = false) (hr : meth.sig.returnType = none) (hP : SP D cy S H) (hD : ∀ a, S a ≠ none → A a) (hS : va_S A s.heap H locs) (hc : cells ≤ mc) (hs : slots ≤ ms) (hdg : decode cc pc = .ok (.return_, 1)) : W p l e R s m args below meth c H locs cells slots (MQ below (va_Qv (fun _ : Unit => True) (fun _ t => PoS D cy S A t) A) args s mc ms A) (F0 m pc ls []) := by
  refine W.widen hc hs ?_
  exact W.vret hx hb hr (fun t ht hW => ⟨⟨(), rfl, trivial, ⟨by rw [ht]; exact hP, hD⟩⟩, hS.F ht⟩) hS.2.2 hdg hlocks
theorem e_vmx {XC : String → State → State → Prop} (hx : p.tables.exec = Jvm.exec) (hb : c.code = cc) (hlocks : meth.locks = false) (hr : meth.sig.returnType = none) (hP : SP D cy S H) (hD : ∀ a, S a ≠ none → A a) (hS : va_S A s.heap H locs) (hc : cells ≤ mc) (hs : slots ≤ ms) (hdg : decode cc pc = .ok (.return_, 1)) : W p l e R s m args below meth c H locs cells slots (vx_MQ below (va_Qv (fun _ : Unit => (Sum.inr () : String ⊕ Unit) = .inr ()) (fun _ t => PoS D cy S A t) A) XC args s mc ms A) (F0 m pc ls []) := by
  refine vx_ret ?_
  refine W.widen hc hs ?_
  exact W.vret hx hb hr (fun t ht hW => ⟨⟨(), rfl, rfl, ⟨by rw [ht]; exact hP, hD⟩⟩, hS.F ht⟩) hS.2.2 hdg hlocks
theorem e_rp {v : Nat} (hx : p.tables.exec = Jvm.exec) (hb : c.code = cc) (hlocks : meth.locks = false) {rt : FieldType} (hrt : (∃ n, rt = .object n) ∨ ∃ t, rt = .array t) (hr : meth.sig.returnType = some rt) (hS : va_S noA s.heap H locs) (hc : cells ≤ mc) (hs : slots ≤ ms) (hdg : decode cc pc = .ok (.areturn, 1)) : W p l e R s m args below meth c H locs cells slots (MQ below (va_Qq (fun r' (_ : Unit) => r' = some v) (fun _ _ => True) noA) args s mc ms noA) (F0 m pc ls [.ref v]) := by
  refine W.widen hc hs ?_
  exact W.aret hx hb hr hrt (Or.inr ⟨_, rfl⟩) (fun t ht hW => ⟨⟨some v, (), rfl, rfl, trivial⟩, hS.F ht⟩) hS.2.2 hdg hlocks
theorem e_rpx {v : Nat} {XC : String → State → State → Prop} (hx : p.tables.exec = Jvm.exec) (hb : c.code = cc) (hlocks : meth.locks = false) {rt : FieldType} (hrt : (∃ n, rt = .object n) ∨ ∃ t, rt = .array t) (hr : meth.sig.returnType = some rt) (hS : va_S noA s.heap H locs) (hc : cells ≤ mc) (hs : slots ≤ ms) (hdg : decode cc pc = .ok (.areturn, 1)) : W p l e R s m args below meth c H locs cells slots (vx_MQ below (va_Qq (fun r' (_ : Unit) => ∃ r, r' = some r ∧ (Sum.inr v : String ⊕ Nat) = .inr r) (fun _ _ => True) noA) XC args s mc ms noA) (F0 m pc ls [.ref v]) := by
  refine vx_ret ?_
  refine W.widen hc hs ?_
  exact W.aret hx hb hr hrt (Or.inr ⟨_, rfl⟩) (fun t ht hW => ⟨⟨some v, (), rfl, ⟨v, rfl, rfl⟩, trivial⟩, hS.F ht⟩) hS.2.2 hdg hlocks
theorem e_rm {v : Nat} (hx : p.tables.exec = Jvm.exec) (hb : c.code = cc) (hlocks : meth.locks = false) {rt : FieldType} (hrt : (∃ n, rt = .object n) ∨ ∃ t, rt = .array t) (hr : meth.sig.returnType = some rt) (hP : SP D cy S H) (hD : ∀ a, S a ≠ none → A a) (hS : va_S A s.heap H locs) (hc : cells ≤ mc) (hs : slots ≤ ms) (hdg : decode cc pc = .ok (.areturn, 1)) : W p l e R s m args below meth c H locs cells slots (MQ below (va_Qq (fun r' (_ : Unit) => r' = some v) (fun _ t => PoS D cy S A t) A) args s mc ms A) (F0 m pc ls [.ref v]) := by
  refine W.widen hc hs ?_
  exact W.aret hx hb hr hrt (Or.inr ⟨_, rfl⟩) (fun t ht hW => ⟨⟨some v, (), rfl, rfl, ⟨by rw [ht]; exact hP, hD⟩⟩, hS.F ht⟩) hS.2.2 hdg hlocks
theorem e_rmx {v : Nat} {XC : String → State → State → Prop} (hx : p.tables.exec = Jvm.exec) (hb : c.code = cc) (hlocks : meth.locks = false) {rt : FieldType} (hrt : (∃ n, rt = .object n) ∨ ∃ t, rt = .array t) (hr : meth.sig.returnType = some rt) (hP : SP D cy S H) (hD : ∀ a, S a ≠ none → A a) (hS : va_S A s.heap H locs) (hc : cells ≤ mc) (hs : slots ≤ ms) (hdg : decode cc pc = .ok (.areturn, 1)) : W p l e R s m args below meth c H locs cells slots (vx_MQ below (va_Qq (fun r' (_ : Unit) => ∃ r, r' = some r ∧ (Sum.inr v : String ⊕ Nat) = .inr r) (fun _ t => PoS D cy S A t) A) XC args s mc ms A) (F0 m pc ls [.ref v]) := by
  refine vx_ret ?_
  refine W.widen hc hs ?_
  exact W.aret hx hb hr hrt (Or.inr ⟨_, rfl⟩) (fun t ht hW => ⟨⟨some v, (), rfl, ⟨v, rfl, rfl⟩, ⟨by rw [ht]; exact hP, hD⟩⟩, hS.F ht⟩) hS.2.2 hdg hlocks
end ENDS
