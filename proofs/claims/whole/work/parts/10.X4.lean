/-- VowBlocks$Row.<init>()V -/
def f_X4_init (S : St) (sz : Nat) (a0 : Nat) : Option (St × Nat) :=
  (pR (va_up S sz (some (arI 24 (fun _ => 0)))) a0 3 0 sz).bind fun Z1 =>
  (pI Z1 a0 3 1 0).bind fun Z3 =>
  some (Z3, (sz + 1))
abbrev rm_X4_init : Room := { frames := 1, cells := 1, slots := 24, locals := 12 }
set_option maxHeartbeats 4000000 in
set_option maxRecDepth 100000 in
theorem m_X4_init (l : Launch) (D : va_G) (cy : Nat → ClassId) (sz : Nat) (S : St) (a0 : Nat) (S1 : St) (sz1 : Nat) (h : f_X4_init S sz a0 = some (S1, sz1)) : Met l yX4_init (wsA yX4_init cX4_init 1 none) rm_X4_init (va_Pc [.ref a0] (PNA D cy S sz)) (va_Qv (fun _ : Unit => True) (fun _ t => t.heap.size = sz1 ∧ PoS D cy S1 (dm S sz) t) (dm S sz)) 1 24 (dm S sz) := by
  refine Met.ofW (cc := cX4_init) (maxL := 1) (ret := none) (by decide) rfl ?_
  intro p e s m args below meth c s₁ B hml hv
  obtain ⟨rfl, hz, hP, hK, hE⟩ := hv
  have hx := B.exec
  have hb := B.bytes
  have hr := B.returns
  have hts9 := atoms_spec (ws := wsA yX4_init cX4_init 1 none) B.pre
  have hts : ∀ w ∈ ALLW, w.before _ s = true := fun w h => hts9 w (List.mem_cons_of_mem _ h)
  have hown : s.vm.findClass RX4 = some m.cls := findClass_of_methodNamed B.named
  have hlocks := B.notSynchronized
  have hin : meth.name = "<init>" := (name_of_methodNamed B.named B.method).1
  have hD : ∀ a, S a ≠ none → dm S sz a := fun a h => Or.inl h
  have hA : ∀ q : Nat, s.heap.size ≤ q → dm S sz q := fun q h => Or.inr (hz ▸ h)
  have hS : va_S (dm S sz) s.heap s.heap [] := va_S.rf
  have hl := lv_entry [.ref a0] (n := 1) (Nat.le_of_ble_eq_true rfl)
  rw [lg_entry_eq]
  generalize (lg_sl [.ref a0] ++ List.replicate (1 - (lg_sl [.ref a0]).length) Slot.unset).toArray = ls at hl ⊢
  have hl : lv_has ls 1 [(0, .ref a0)] := hl
  rw [f_X4_init] at h
  refine lv_aload_n hx hb dX4_init_0 rfl (lv_at hl 0 rfl) ?_
  refine W.objInit hx hb hown (hts _ wd_111) (hts _ wd_91) (hts _ wd_92) rfl (hl.1.trans hml.symm) rfl dX4_init_1 (Nat.le_of_ble_eq_true rfl) (Nat.le_of_ble_eq_true rfl) ?_
  refine lv_aload_n hx hb dX4_init_4 rfl (lv_at hl 0 rfl) ?_
  refine lv_bipush (v := 24) hx hb dX4_init_5 (by decide) ?_
  refine r_newI hx hb (hts _ wd_119) hK hP hD hS hA (N := 24) (by decide) (by decide) (by decide) (Nat.le_of_ble_eq_true rfl) (Nat.le_of_ble_eq_true rfl) dX4_init_7 hz (fun H hz hP hD hS => ?_)
  replace h := bd h
  obtain ⟨Z1, q2, h⟩ := h
  refine fp_3_0 hx hb hts hown hK hP hD hS hin rfl wd_112 q2 dX4_init_9 (fun H locs hz9 hP hD hS => ?_)
  replace hz := hz9.trans hz
  refine lv_aload_n hx hb dX4_init_12 rfl (lv_at hl 0 rfl) ?_
  refine lv_iconst (v := 0) hx hb dX4_init_13 (by decide) ?_
  replace h := bd h
  obtain ⟨Z3, q4, h⟩ := h
  refine fp_3_1 hx hb hts hown hK hP hD hS wd_113 q4 dX4_init_14 (fun H locs hz9 hP hD hS => ?_)
  replace hz := hz9.trans hz
  cases h
  exact e_vA hx hb hlocks hr hP hD hz hS (Nat.le_of_ble_eq_true rfl) (Nat.le_of_ble_eq_true rfl) dX4_init_17
set_option maxRecDepth 100000 in
theorem c_X4_init_n {p : Program} {l : Launch} {e : Env} {R : Room} {s : State} {m : MethodId} {args : Array Value} {below : List Frame} {meth : Method} {c : Code} {H : Heap} {locs : List Loc} {cells slots : Nat} {Q : State → Prop} {cc : ByteArray} {pc index nL : Nat} {ls : Array Slot} {rest : List Value} {D : va_G} {cy : Nat → ClassId} {A0 : Nat → Prop} {S : St} {H0 : Heap} {own : String} {a0 : Nat} {S1 : St} {sz1 szv : Nat}  (hF : CallFix p m c cc nL s args ALLW own) (hsz : ls.size = nL) (hK : va_K D vwCl (tyL cy) s) (hP : SP D cy S H) (hD : ∀ a, S a ≠ none → A0 a) (hA : ∀ q, H0.size ≤ q → A0 q) (hS : va_S A0 H0 H locs) (hE : NWA s) (hk : va_Nw (.methodLinkNest own index yX4_init "VowBlocks") s) (hR : rm_X4_init.frames + 1 ≤ R.frames ∧ 8 + (1 + 11) + rm_X4_init.locals ≤ R.locals) (h : f_X4_init S szv a0 = some (S1, sz1)) (hz : H.size = szv) (hW : (rest.map fun v => v.category).sum ≤ 8) (hdg : decode cc pc = .ok (.invokespecial index, 3)) (hf : cells + 1 ≤ R.cells ∧ slots + 24 ≤ R.slots)
    (kk : ∀ (H1 : Heap) (locs1 : List Loc), H1.size = sz1 → SP D cy S1 H1 → (∀ a, S1 a ≠ none → A0 a) → va_S A0 H0 H1 locs1 → W p l e R s m args below meth c H1 locs1 (cells + 1) (slots + 24) Q (F0 m (pc + 3) ls (rest))) : W p l e R s m args below meth c H locs cells slots Q (F0 m pc ls (.ref a0 :: rest)) := by
  subst hz
  exact k_N (As := []) (host := "VowBlocks") hF hsz (m_X4_init l D cy H.size S a0 S1 sz1 h) (cwN_of (n := 0) hF.2.2.2.2 hk wd_109 wd_72 wd_110 rfl rfl rfl (by decide +kernel) hR) rfl hK hP hD hA hS hE hW rfl hdg hf kk
/-- VowBlocks$Row.clear()V -/
def f_X4_clear (S : St) (a0 : Nat) : Option (St) :=
  (pI S a0 3 1 0).bind fun Z1 =>
  some Z1
abbrev rm_X4_clear : Room := { frames := 0, cells := 0, slots := 0, locals := 0 }
set_option maxHeartbeats 4000000 in
set_option maxRecDepth 100000 in
theorem m_X4_clear (l : Launch) (D : va_G) (cy : Nat → ClassId) (sz : Nat) (S : St) (a0 : Nat) (S1 : St) (h : f_X4_clear S a0 = some S1) : Met l yX4_clear (wsA yX4_clear cX4_clear 1 none) rm_X4_clear (va_Pc [.ref a0] (PN D cy S sz)) (va_Qv (fun _ : Unit => True) (fun _ t => PoS D cy S1 (dm S sz) t) (dm S sz)) 0 0 (dm S sz) := by
  refine Met.ofW (cc := cX4_clear) (maxL := 1) (ret := none) (by decide) rfl ?_
  intro p e s m args below meth c s₁ B hml hv
  obtain ⟨rfl, hsz, hP, hK⟩ := hv
  have hx := B.exec
  have hb := B.bytes
  have hr := B.returns
  have hts9 := atoms_spec (ws := wsA yX4_clear cX4_clear 1 none) B.pre
  have hts : ∀ w ∈ ALLW, w.before _ s = true := fun w h => hts9 w (List.mem_cons_of_mem _ h)
  have hown : s.vm.findClass RX4 = some m.cls := findClass_of_methodNamed B.named
  have hlocks := B.notSynchronized
  subst hsz
  have hD : ∀ a, S a ≠ none → dm S s.heap.size a := fun a h => Or.inl h
  have hA : ∀ q : Nat, s.heap.size ≤ q → dm S s.heap.size q := fun q h => Or.inr h
  have hS : va_S (dm S s.heap.size) s.heap s.heap [] := va_S.rf
  have hl := lv_entry [.ref a0] (n := 1) (Nat.le_of_ble_eq_true rfl)
  rw [lg_entry_eq]
  generalize (lg_sl [.ref a0] ++ List.replicate (1 - (lg_sl [.ref a0]).length) Slot.unset).toArray = ls at hl ⊢
  have hl : lv_has ls 1 [(0, .ref a0)] := hl
  rw [f_X4_clear] at h
  refine lv_aload_n hx hb dX4_clear_0 rfl (lv_at hl 0 rfl) ?_
  refine lv_iconst (v := 0) hx hb dX4_clear_1 (by decide) ?_
  replace h := bd h
  obtain ⟨Z1, q2, h⟩ := h
  refine fp_3_1 hx hb hts hown hK hP hD hS wd_113 q2 dX4_clear_2 (fun H locs hz9 hP hD hS => ?_)
  cases h
  exact e_vm hx hb hlocks hr hP hD hS (Nat.le_of_ble_eq_true rfl) (Nat.le_of_ble_eq_true rfl) dX4_clear_5
set_option maxRecDepth 100000 in
theorem c_X4_clear {p : Program} {l : Launch} {e : Env} {R : Room} {s : State} {m : MethodId} {args : Array Value} {below : List Frame} {meth : Method} {c : Code} {H : Heap} {locs : List Loc} {cells slots : Nat} {Q : State → Prop} {cc : ByteArray} {pc index nL : Nat} {ls : Array Slot} {rest : List Value} {D : va_G} {cy : Nat → ClassId} {A0 : Nat → Prop} {S : St} {H0 : Heap} {own : String} {u : Unit} {a0 : Nat} {S1 : St}  (hF : CallFix p m c cc nL s args ALLW own) (hsz : ls.size = nL) (hK : va_K D vwCl (tyL cy) s) (hP : SP D cy S H) (hD : ∀ a, S a ≠ none → A0 a) (hA : ∀ q, H0.size ≤ q → A0 q) (hS : va_S A0 H0 H locs) (hk : Cond.methodLink own index yX4_clear ∈ ALLW) (hR : rm_X4_clear.frames + 1 ≤ R.frames ∧ 8 + (1 + 11) + rm_X4_clear.locals ≤ R.locals) (h : f_X4_clear S a0 = some S1) (hc : oO S a0 3 = some u) (hW : (rest.map fun v => v.category).sum ≤ 8) (hdg : decode cc pc = .ok (.invokevirtual index, 3)) (hf : cells + 0 ≤ R.cells ∧ slots + 0 ≤ R.slots)
    (kk : ∀ (H1 : Heap) (locs1 : List Loc), SP D cy S1 H1 → (∀ a, S1 a ≠ none → A0 a) → va_S A0 H0 H1 locs1 → W p l e R s m args below meth c H1 locs1 (cells + 0) (slots + 0) Q (F0 m (pc + 3) ls (rest))) : W p l e R s m args below meth c H locs cells slots Q (F0 m pc ls (.ref a0 :: rest)) := by
  exact k_vVm (As := []) hF hsz (m_X4_clear l D cy H.size S a0 S1 h) (cwV_of (n := 0) hF.2.2.2.2 hk wd_578 wd_579 wd_72 wd_580 rfl rfl (by decide +kernel) hR) rfl hK hP hD hA hS (ci := 3) hc rfl hW rfl hdg hf kk
/-- VowBlocks$Row.hasRoomFor(I)Z -/
def f_X4_hasRoomFor (S : St) (a0 : Nat) (a1 : Int32) : Option (Int32) :=
  (gR S a0 3 0).bind fun x1 =>
  (aN S x1 0).bind fun x3 =>
  (gI S a0 3 1).bind fun x5 =>
  (
    if (x3 - x5) < a1 then
      some 0
    else
      some 1
  : Option (Int32)).bind fun t7 =>
  (zz t7).bind fun _ =>
  some t7
abbrev rm_X4_hasRoomFor : Room := { frames := 0, cells := 0, slots := 0, locals := 0 }
set_option maxHeartbeats 4000000 in
set_option maxRecDepth 100000 in
theorem m_X4_hasRoomFor (l : Launch) (D : va_G) (cy : Nat → ClassId) (S : St) (a0 : Nat) (a1 : Int32) (r : Int32) (h : f_X4_hasRoomFor S a0 a1 = some r) : Met l yX4_hasRoomFor (wsA yX4_hasRoomFor cX4_hasRoomFor 2 (some .boolean)) rm_X4_hasRoomFor (va_Pc [.ref a0, .int a1] (PS D cy S)) (va_Qi (fun r' (_ : Unit) => r' = r) (fun _ _ => True) noA) 0 0 noA := by
  refine Met.ofW (cc := cX4_hasRoomFor) (maxL := 2) (ret := (some .boolean)) (by decide) rfl ?_
  intro p e s m args below meth c s₁ B hml hv
  obtain ⟨rfl, hP, hK⟩ := hv
  have hx := B.exec
  have hb := B.bytes
  have hr := B.returns
  have hts9 := atoms_spec (ws := wsA yX4_hasRoomFor cX4_hasRoomFor 2 (some .boolean)) B.pre
  have hts : ∀ w ∈ ALLW, w.before _ s = true := fun w h => hts9 w (List.mem_cons_of_mem _ h)
  have hown : s.vm.findClass RX4 = some m.cls := findClass_of_methodNamed B.named
  have hlocks := B.notSynchronized
  have hS : va_S noA s.heap s.heap [] := va_S.rf
  have hl := lv_entry [.ref a0, .int a1] (n := 2) (Nat.le_of_ble_eq_true rfl)
  rw [lg_entry_eq]
  generalize (lg_sl [.ref a0, .int a1] ++ List.replicate (2 - (lg_sl [.ref a0, .int a1]).length) Slot.unset).toArray = ls at hl ⊢
  have hl : lv_has ls 2 [(0, .ref a0), (1, .int a1)] := hl
  rw [f_X4_hasRoomFor] at h
  refine lv_iload_n hx hb dX4_hasRoomFor_0 rfl (lv_at hl 1 rfl) ?_
  refine lv_aload_n hx hb dX4_hasRoomFor_1 rfl (lv_at hl 0 rfl) ?_
  replace h := bd h
  obtain ⟨x1, q2, h⟩ := h
  refine fg_3_0 hx hb hts hown hK hP wd_112 q2 dX4_hasRoomFor_2 ?_
  replace h := bd h
  obtain ⟨x3, q4, h⟩ := h
  refine r_aN hx hb hK hP (t := 0) rfl q4 dX4_hasRoomFor_5 ?_
  refine lv_aload_n hx hb dX4_hasRoomFor_6 rfl (lv_at hl 0 rfl) ?_
  replace h := bd h
  obtain ⟨x5, q6, h⟩ := h
  refine fg_3_1 hx hb hts hown hK hP wd_113 q6 dX4_hasRoomFor_7 ?_
  refine lv_isub hx hb dX4_hasRoomFor_10 ?_
  replace h := bd h
  obtain ⟨t7, ht, h⟩ := h
  have K7 : ∀ (H : Heap) (locs : List Loc) (ls : Array Slot), SP D cy S H → va_S noA s.heap H locs → lv_has ls 2 [] → W p l e rm_X4_hasRoomFor s m ([.ref a0, .int a1] : List Value).toArray below meth c H locs 0 0 (MQ below (va_Qi (fun r' (_ : Unit) => r' = r) (fun _ _ => True) noA) ([.ref a0, .int a1] : List Value).toArray s 0 0 noA) (F0 m 19 ls [.int t7]) := by
    intro H locs ls hP hS hl
    replace h := bd h
    obtain ⟨_, q9, h⟩ := h
    cases h
    exact e_zp hx hb hlocks (zz_spec q9) hr hS (Nat.le_of_ble_eq_true rfl) (Nat.le_of_ble_eq_true rfl) dX4_hasRoomFor_19
  replace h := ht
  refine lv_icmp_gt (tgt := 18) hx hb dX4_hasRoomFor_11 (by decide) (fun c8 => ?_) (fun c8 => ?_)
  · replace h := ifp c8 h
    refine lv_iconst (v := 0) hx hb dX4_hasRoomFor_18 (by decide) ?_
    cases h
    exact K7 _ _ _ hP hS (lv_sub hl [] rfl)
  · replace h := ifn c8 h
    refine lv_iconst (v := 1) hx hb dX4_hasRoomFor_14 (by decide) ?_
    refine lv_goto (tgt := 19) hx hb dX4_hasRoomFor_15 (by decide) ?_
    cases h
    exact K7 _ _ _ hP hS (lv_sub hl [] rfl)
set_option maxRecDepth 100000 in
theorem c_X4_hasRoomFor {p : Program} {l : Launch} {e : Env} {R : Room} {s : State} {m : MethodId} {args : Array Value} {below : List Frame} {meth : Method} {c : Code} {H : Heap} {locs : List Loc} {cells slots : Nat} {Q : State → Prop} {cc : ByteArray} {pc index nL : Nat} {ls : Array Slot} {rest : List Value} {D : va_G} {cy : Nat → ClassId} {A0 : Nat → Prop} {S : St} {H0 : Heap} {own : String} {u : Unit} {a0 : Nat} {a1 : Int32} {r : Int32}  (hF : CallFix p m c cc nL s args ALLW own) (hsz : ls.size = nL) (hK : va_K D vwCl (tyL cy) s) (hP : SP D cy S H) (hS : va_S A0 H0 H locs) (hk : Cond.methodLink own index yX4_hasRoomFor ∈ ALLW) (hR : rm_X4_hasRoomFor.frames + 1 ≤ R.frames ∧ 8 + (2 + 11) + rm_X4_hasRoomFor.locals ≤ R.locals) (h : f_X4_hasRoomFor S a0 a1 = some r) (hc : oO S a0 3 = some u) (hW : (rest.map fun v => v.category).sum ≤ 8) (hdg : decode cc pc = .ok (.invokevirtual index, 3)) (hf : cells + 0 ≤ R.cells ∧ slots + 0 ≤ R.slots)
    (kk : ∀ (H1 : Heap) (locs1 : List Loc), SP D cy S H1 → va_S A0 H0 H1 locs1 → W p l e R s m args below meth c H1 locs1 (cells + 0) (slots + 0) Q (F0 m (pc + 3) ls (.int r :: rest))) : W p l e R s m args below meth c H locs cells slots Q (F0 m pc ls (.int a1 :: .ref a0 :: rest)) := by
  exact k_iVp (As := [.int a1]) hF hsz (m_X4_hasRoomFor l D cy S a0 a1 r h) (cwV_of (n := 1) hF.2.2.2.2 hk wd_446 wd_447 wd_72 wd_448 rfl rfl (by decide +kernel) hR) rfl hK hP hS (ci := 3) hc rfl hW rfl hdg hf kk
/-- VowBlocks$Row.push(II)Z -/
def f_X4_push_L12 (y12_0 : Nat) (y12_1 : Int32) (y12_2 : Int32) : Nat → St → Int32 →  Option (St)
  | 0, _, _ => none
  | fu + 1, S12_, y12_3 =>
    if y12_2 ≤ y12_3 then
      some S12_
    else
      (gR S12_ y12_0 3 0).bind fun x8 =>
      (gI S12_ y12_0 3 1).bind fun x10 =>
      (sI S12_ x8 x10 y12_1).bind fun Z12 =>
      (gI Z12 y12_0 3 1).bind fun x14 =>
      (pI Z12 y12_0 3 1 (x14 + 1)).bind fun Z16 =>
      f_X4_push_L12 y12_0 y12_1 y12_2 fu Z16 (y12_3 + 1)
def f_X4_push (S : St) (a0 : Nat) (a1 : Int32) (a2 : Int32) : Option (Int32 × St) :=
  (oO S a0 3).bind fun _ =>
  (f_X4_hasRoomFor S a0 a2).bind fun x3 =>
  if x3 = 0 then
    some (0, S)
  else
    (f_X4_push_L12 a0 a1 a2 FU S 0).bind fun z5 =>
    some (1, z5)
abbrev rm_X4_push : Room := { frames := 1, cells := 0, slots := 0, locals := 21 }
set_option maxHeartbeats 4000000 in
set_option maxRecDepth 100000 in
theorem m_X4_push (l : Launch) (D : va_G) (cy : Nat → ClassId) (sz : Nat) (S : St) (a0 : Nat) (a1 : Int32) (a2 : Int32) (r : Int32) (S1 : St) (h : f_X4_push S a0 a1 a2 = some (r, S1)) : Met l yX4_push (wsA yX4_push cX4_push 4 (some .boolean)) rm_X4_push (va_Pc [.ref a0, .int a1, .int a2] (PN D cy S sz)) (va_Qi (fun r' (_ : Unit) => r' = r) (fun _ t => PoS D cy S1 (dm S sz) t) (dm S sz)) 0 0 (dm S sz) := by
  refine Met.ofW (cc := cX4_push) (maxL := 4) (ret := (some .boolean)) (by decide) rfl ?_
  intro p e s m args below meth c s₁ B hml hv
  obtain ⟨rfl, hsz, hP, hK⟩ := hv
  have hx := B.exec
  have hb := B.bytes
  have hr := B.returns
  have hts9 := atoms_spec (ws := wsA yX4_push cX4_push 4 (some .boolean)) B.pre
  have hts : ∀ w ∈ ALLW, w.before _ s = true := fun w h => hts9 w (List.mem_cons_of_mem _ h)
  have hown : s.vm.findClass RX4 = some m.cls := findClass_of_methodNamed B.named
  have hlocks := B.notSynchronized
  subst hsz
  have hD : ∀ a, S a ≠ none → dm S s.heap.size a := fun a h => Or.inl h
  have hA : ∀ q : Nat, s.heap.size ≤ q → dm S s.heap.size q := fun q h => Or.inr h
  have hS : va_S (dm S s.heap.size) s.heap s.heap [] := va_S.rf
  have hl := lv_entry [.ref a0, .int a1, .int a2] (n := 4) (Nat.le_of_ble_eq_true rfl)
  rw [lg_entry_eq]
  generalize (lg_sl [.ref a0, .int a1, .int a2] ++ List.replicate (4 - (lg_sl [.ref a0, .int a1, .int a2]).length) Slot.unset).toArray = ls at hl ⊢
  have hl : lv_has ls 4 [(0, .ref a0), (1, .int a1), (2, .int a2)] := hl
  rw [f_X4_push] at h
  refine lv_aload_n hx hb dX4_push_0 rfl (lv_at hl 0 rfl) ?_
  refine lv_iload_n hx hb dX4_push_1 rfl (lv_at hl 2 rfl) ?_
  replace h := bd h
  obtain ⟨_, q1, h⟩ := h
  replace h := bd h
  obtain ⟨x3, q2, h⟩ := h
  refine c_X4_hasRoomFor ⟨hx, hb, hml, hown, hts⟩ hl.1 hK hP hS wd_458 ⟨(Nat.le_of_ble_eq_true rfl), (Nat.le_of_ble_eq_true rfl)⟩ q2 q1 (Nat.le_of_ble_eq_true rfl) dX4_push_2 ⟨(Nat.le_of_ble_eq_true rfl), (Nat.le_of_ble_eq_true rfl)⟩ (fun H locs hP hS => ?_)
  refine lv_if_ne (tgt := 10) hx hb dX4_push_5 (by decide) (fun c4 => ?_) (fun c4 => ?_)
  · replace h := ifn c4 h
    refine lv_iconst (v := 0) hx hb dX4_push_10 (by decide) ?_
    refine lv_istore_n (lv' := [(3, .int 0), (0, .ref a0), (1, .int a1), (2, .int a2)]) hx hb dX4_push_11 rfl hl (by decide) rfl (fun ls hl => ?_)
    have L12 : ∀ (y12_0 : Nat) (y12_1 : Int32) (y12_2 : Int32) (fu : Nat) (S12_ : St) (y12_3 : Int32) (res : St), f_X4_push_L12 y12_0 y12_1 y12_2 fu S12_ y12_3 = some res → ∀ (H : Heap) (locs : List Loc) (ls : Array Slot), SP D cy S12_ H → (∀ a, S12_ a ≠ none → (dm S s.heap.size) a) → va_S (dm S s.heap.size) s.heap H locs → lv_has ls 4 [(0, .ref y12_0), (1, .int y12_1), (2, .int y12_2), (3, .int y12_3)] → (∀ (H : Heap) (locs : List Loc) (ls : Array Slot), SP D cy res H → (∀ a, res a ≠ none → (dm S s.heap.size) a) → va_S (dm S s.heap.size) s.heap H locs → lv_has ls 4 [] → W p l e rm_X4_push s m ([.ref a0, .int a1, .int a2] : List Value).toArray below meth c H locs 0 0 (MQ below (va_Qi (fun r' (_ : Unit) => r' = r) (fun _ t => PoS D cy S1 (dm S s.heap.size) t) (dm S s.heap.size)) ([.ref a0, .int a1, .int a2] : List Value).toArray s 0 0 (dm S s.heap.size)) (F0 m 43 ls [])) → W p l e rm_X4_push s m ([.ref a0, .int a1, .int a2] : List Value).toArray below meth c H locs 0 0 (MQ below (va_Qi (fun r' (_ : Unit) => r' = r) (fun _ t => PoS D cy S1 (dm S s.heap.size) t) (dm S s.heap.size)) ([.ref a0, .int a1, .int a2] : List Value).toArray s 0 0 (dm S s.heap.size)) (F0 m 12 ls []) := by
      intro y12_0 y12_1 y12_2 fu
      induction fu with
      | zero =>
        intro S12_ y12_3 res h
        rw [f_X4_push_L12] at h
        cases h
      | succ fu ih =>
        intro S12_ y12_3 res h H locs ls hP hD hS hl hexit
        rw [f_X4_push_L12] at h
        refine lv_iload_n hx hb dX4_push_12 rfl (lv_at hl 3 rfl) ?_
        refine lv_iload_n hx hb dX4_push_13 rfl (lv_at hl 2 rfl) ?_
        refine lv_icmp_ge (tgt := 43) hx hb dX4_push_14 (by decide) (fun c7 => ?_) (fun c7 => ?_)
        · replace h := ifp c7 h
          cases h
          exact hexit _ _ _ hP hD hS (lv_sub hl [] rfl)
        · replace h := ifn c7 h
          refine lv_aload_n hx hb dX4_push_17 rfl (lv_at hl 0 rfl) ?_
          replace h := bd h
          obtain ⟨x8, q9, h⟩ := h
          refine fg_3_0 hx hb hts hown hK hP wd_112 q9 dX4_push_18 ?_
          refine lv_aload_n hx hb dX4_push_21 rfl (lv_at hl 0 rfl) ?_
          replace h := bd h
          obtain ⟨x10, q11, h⟩ := h
          refine fg_3_1 hx hb hts hown hK hP wd_113 q11 dX4_push_22 ?_
          refine lv_iload_n hx hb dX4_push_25 rfl (lv_at hl 1 rfl) ?_
          replace h := bd h
          obtain ⟨Z12, q13, h⟩ := h
          refine r_sI hx hb hK hP hD hS q13 dX4_push_26 (fun H locs hz9 hP hD hS => ?_)
          refine lv_aload_n hx hb dX4_push_27 rfl (lv_at hl 0 rfl) ?_
          refine lv_dup hx hb dX4_push_28 rfl ?_
          replace h := bd h
          obtain ⟨x14, q15, h⟩ := h
          refine fg_3_1 hx hb hts hown hK hP wd_113 q15 dX4_push_29 ?_
          refine lv_iconst (v := 1) hx hb dX4_push_32 (by decide) ?_
          refine lv_iadd hx hb dX4_push_33 ?_
          replace h := bd h
          obtain ⟨Z16, q17, h⟩ := h
          refine fp_3_1 hx hb hts hown hK hP hD hS wd_113 q17 dX4_push_34 (fun H locs hz9 hP hD hS => ?_)
          refine lv_iinc (v := (y12_3 + 1)) (lv' := [(3, .int (y12_3 + 1)), (0, .ref y12_0), (1, .int y12_1), (2, .int y12_2)]) hx hb dX4_push_37 hl (k := 3) rfl rfl (by decide) rfl (fun ls hl => ?_)
          refine lv_goto (tgt := 12) hx hb dX4_push_40 (by decide) ?_
          exact ih Z16 (y12_3 + 1) _ h _ _ _ hP hD hS (lv_sub hl [1, 2, 3, 0] rfl) hexit
    replace h := bd h
    obtain ⟨z5, q18, h⟩ := h
    refine L12 a0 a1 a2 FU S 0 z5 q18 _ _ _ hP hD hS (lv_sub hl [1, 2, 3, 0] rfl) (fun H locs ls hP hD hS hl => ?_)
    refine lv_iconst (v := 1) hx hb dX4_push_43 (by decide) ?_
    cases h
    exact e_zm hx hb hlocks (by decide) hr hP hD hS (Nat.le_of_ble_eq_true rfl) (Nat.le_of_ble_eq_true rfl) dX4_push_44
  · replace h := ifp c4 h
    refine lv_iconst (v := 0) hx hb dX4_push_8 (by decide) ?_
    cases h
    exact e_zm hx hb hlocks (by decide) hr hP hD hS (Nat.le_of_ble_eq_true rfl) (Nat.le_of_ble_eq_true rfl) dX4_push_9
set_option maxRecDepth 100000 in
theorem c_X4_push {p : Program} {l : Launch} {e : Env} {R : Room} {s : State} {m : MethodId} {args : Array Value} {below : List Frame} {meth : Method} {c : Code} {H : Heap} {locs : List Loc} {cells slots : Nat} {Q : State → Prop} {cc : ByteArray} {pc index nL : Nat} {ls : Array Slot} {rest : List Value} {D : va_G} {cy : Nat → ClassId} {A0 : Nat → Prop} {S : St} {H0 : Heap} {own : String} {u : Unit} {a0 : Nat} {a1 : Int32} {a2 : Int32} {r : Int32} {S1 : St}  (hF : CallFix p m c cc nL s args ALLW own) (hsz : ls.size = nL) (hK : va_K D vwCl (tyL cy) s) (hP : SP D cy S H) (hD : ∀ a, S a ≠ none → A0 a) (hA : ∀ q, H0.size ≤ q → A0 q) (hS : va_S A0 H0 H locs) (hk : Cond.methodLink own index yX4_push ∈ ALLW) (hR : rm_X4_push.frames + 1 ≤ R.frames ∧ 8 + (4 + 11) + rm_X4_push.locals ≤ R.locals) (h : f_X4_push S a0 a1 a2 = some (r, S1)) (hc : oO S a0 3 = some u) (hW : (rest.map fun v => v.category).sum ≤ 8) (hdg : decode cc pc = .ok (.invokevirtual index, 3)) (hf : cells + 0 ≤ R.cells ∧ slots + 0 ≤ R.slots)
    (kk : ∀ (H1 : Heap) (locs1 : List Loc), SP D cy S1 H1 → (∀ a, S1 a ≠ none → A0 a) → va_S A0 H0 H1 locs1 → W p l e R s m args below meth c H1 locs1 (cells + 0) (slots + 0) Q (F0 m (pc + 3) ls (.int r :: rest))) : W p l e R s m args below meth c H locs cells slots Q (F0 m pc ls (.int a2 :: .int a1 :: .ref a0 :: rest)) := by
  exact k_iVm (As := [.int a1, .int a2]) hF hsz (m_X4_push l D cy H.size S a0 a1 a2 r S1 h) (cwV_of (n := 2) hF.2.2.2.2 hk wd_455 wd_456 wd_72 wd_457 rfl rfl (by decide +kernel) hR) rfl hK hP hD hA hS (ci := 3) hc rfl hW rfl hdg hf kk
/-- VowBlocks$Row.copyFrom(LVowBlocks$Row;)V -/
def f_X4_copyFrom_L10 (y10_0 : Nat) (y10_1 : Nat) : Nat → St → Int32 →  Option (St)
  | 0, _, _ => none
  | fu + 1, S10_, y10_2 =>
    (gI S10_ y10_0 3 1).bind fun x7 =>
    if x7 ≤ y10_2 then
      some S10_
    else
      (gR S10_ y10_0 3 0).bind fun x10 =>
      (gR S10_ y10_1 3 0).bind fun x12 =>
      (aI S10_ x12 y10_2).bind fun x14 =>
      (sI S10_ x10 y10_2 x14).bind fun Z16 =>
      f_X4_copyFrom_L10 y10_0 y10_1 fu Z16 (y10_2 + 1)
def f_X4_copyFrom (S : St) (a0 : Nat) (a1 : Nat) : Option (St) :=
  (gI S a1 3 1).bind fun x1 =>
  (pI S a0 3 1 x1).bind fun Z3 =>
  (f_X4_copyFrom_L10 a0 a1 FU Z3 0).bind fun z5 =>
  some z5
abbrev rm_X4_copyFrom : Room := { frames := 0, cells := 0, slots := 0, locals := 0 }
set_option maxHeartbeats 4000000 in
set_option maxRecDepth 100000 in
theorem m_X4_copyFrom (l : Launch) (D : va_G) (cy : Nat → ClassId) (sz : Nat) (S : St) (a0 : Nat) (a1 : Nat) (S1 : St) (h : f_X4_copyFrom S a0 a1 = some S1) : Met l yX4_copyFrom (wsA yX4_copyFrom cX4_copyFrom 3 none) rm_X4_copyFrom (va_Pc [.ref a0, .ref a1] (PN D cy S sz)) (va_Qv (fun _ : Unit => True) (fun _ t => PoS D cy S1 (dm S sz) t) (dm S sz)) 0 0 (dm S sz) := by
  refine Met.ofW (cc := cX4_copyFrom) (maxL := 3) (ret := none) (by decide) rfl ?_
  intro p e s m args below meth c s₁ B hml hv
  obtain ⟨rfl, hsz, hP, hK⟩ := hv
  have hx := B.exec
  have hb := B.bytes
  have hr := B.returns
  have hts9 := atoms_spec (ws := wsA yX4_copyFrom cX4_copyFrom 3 none) B.pre
  have hts : ∀ w ∈ ALLW, w.before _ s = true := fun w h => hts9 w (List.mem_cons_of_mem _ h)
  have hown : s.vm.findClass RX4 = some m.cls := findClass_of_methodNamed B.named
  have hlocks := B.notSynchronized
  subst hsz
  have hD : ∀ a, S a ≠ none → dm S s.heap.size a := fun a h => Or.inl h
  have hA : ∀ q : Nat, s.heap.size ≤ q → dm S s.heap.size q := fun q h => Or.inr h
  have hS : va_S (dm S s.heap.size) s.heap s.heap [] := va_S.rf
  have hl := lv_entry [.ref a0, .ref a1] (n := 3) (Nat.le_of_ble_eq_true rfl)
  rw [lg_entry_eq]
  generalize (lg_sl [.ref a0, .ref a1] ++ List.replicate (3 - (lg_sl [.ref a0, .ref a1]).length) Slot.unset).toArray = ls at hl ⊢
  have hl : lv_has ls 3 [(0, .ref a0), (1, .ref a1)] := hl
  rw [f_X4_copyFrom] at h
  refine lv_aload_n hx hb dX4_copyFrom_0 rfl (lv_at hl 0 rfl) ?_
  refine lv_aload_n hx hb dX4_copyFrom_1 rfl (lv_at hl 1 rfl) ?_
  replace h := bd h
  obtain ⟨x1, q2, h⟩ := h
  refine fg_3_1 hx hb hts hown hK hP wd_113 q2 dX4_copyFrom_2 ?_
  replace h := bd h
  obtain ⟨Z3, q4, h⟩ := h
  refine fp_3_1 hx hb hts hown hK hP hD hS wd_113 q4 dX4_copyFrom_5 (fun H locs hz9 hP hD hS => ?_)
  refine lv_iconst (v := 0) hx hb dX4_copyFrom_8 (by decide) ?_
  refine lv_istore_n (lv' := [(2, .int 0), (0, .ref a0), (1, .ref a1)]) hx hb dX4_copyFrom_9 rfl hl (by decide) rfl (fun ls hl => ?_)
  have L10 : ∀ (y10_0 : Nat) (y10_1 : Nat) (fu : Nat) (S10_ : St) (y10_2 : Int32) (res : St), f_X4_copyFrom_L10 y10_0 y10_1 fu S10_ y10_2 = some res → ∀ (H : Heap) (locs : List Loc) (ls : Array Slot), SP D cy S10_ H → (∀ a, S10_ a ≠ none → (dm S s.heap.size) a) → va_S (dm S s.heap.size) s.heap H locs → lv_has ls 3 [(0, .ref y10_0), (1, .ref y10_1), (2, .int y10_2)] → (∀ (H : Heap) (locs : List Loc) (ls : Array Slot), SP D cy res H → (∀ a, res a ≠ none → (dm S s.heap.size) a) → va_S (dm S s.heap.size) s.heap H locs → lv_has ls 3 [] → W p l e rm_X4_copyFrom s m ([.ref a0, .ref a1] : List Value).toArray below meth c H locs 0 0 (MQ below (va_Qv (fun _ : Unit => True) (fun _ t => PoS D cy S1 (dm S s.heap.size) t) (dm S s.heap.size)) ([.ref a0, .ref a1] : List Value).toArray s 0 0 (dm S s.heap.size)) (F0 m 36 ls [])) → W p l e rm_X4_copyFrom s m ([.ref a0, .ref a1] : List Value).toArray below meth c H locs 0 0 (MQ below (va_Qv (fun _ : Unit => True) (fun _ t => PoS D cy S1 (dm S s.heap.size) t) (dm S s.heap.size)) ([.ref a0, .ref a1] : List Value).toArray s 0 0 (dm S s.heap.size)) (F0 m 10 ls []) := by
    intro y10_0 y10_1 fu
    induction fu with
    | zero =>
      intro S10_ y10_2 res h
      rw [f_X4_copyFrom_L10] at h
      cases h
    | succ fu ih =>
      intro S10_ y10_2 res h H locs ls hP hD hS hl hexit
      rw [f_X4_copyFrom_L10] at h
      refine lv_iload_n hx hb dX4_copyFrom_10 rfl (lv_at hl 2 rfl) ?_
      refine lv_aload_n hx hb dX4_copyFrom_11 rfl (lv_at hl 0 rfl) ?_
      replace h := bd h
      obtain ⟨x7, q8, h⟩ := h
      refine fg_3_1 hx hb hts hown hK hP wd_113 q8 dX4_copyFrom_12 ?_
      refine lv_icmp_ge (tgt := 36) hx hb dX4_copyFrom_15 (by decide) (fun c9 => ?_) (fun c9 => ?_)
      · replace h := ifp c9 h
        cases h
        exact hexit _ _ _ hP hD hS (lv_sub hl [] rfl)
      · replace h := ifn c9 h
        refine lv_aload_n hx hb dX4_copyFrom_18 rfl (lv_at hl 0 rfl) ?_
        replace h := bd h
        obtain ⟨x10, q11, h⟩ := h
        refine fg_3_0 hx hb hts hown hK hP wd_112 q11 dX4_copyFrom_19 ?_
        refine lv_iload_n hx hb dX4_copyFrom_22 rfl (lv_at hl 2 rfl) ?_
        refine lv_aload_n hx hb dX4_copyFrom_23 rfl (lv_at hl 1 rfl) ?_
        replace h := bd h
        obtain ⟨x12, q13, h⟩ := h
        refine fg_3_0 hx hb hts hown hK hP wd_112 q13 dX4_copyFrom_24 ?_
        refine lv_iload_n hx hb dX4_copyFrom_27 rfl (lv_at hl 2 rfl) ?_
        replace h := bd h
        obtain ⟨x14, q15, h⟩ := h
        refine r_aI hx hb hK hP q15 dX4_copyFrom_28 ?_
        replace h := bd h
        obtain ⟨Z16, q17, h⟩ := h
        refine r_sI hx hb hK hP hD hS q17 dX4_copyFrom_29 (fun H locs hz9 hP hD hS => ?_)
        refine lv_iinc (v := (y10_2 + 1)) (lv' := [(2, .int (y10_2 + 1)), (0, .ref y10_0), (1, .ref y10_1)]) hx hb dX4_copyFrom_30 hl (k := 2) rfl rfl (by decide) rfl (fun ls hl => ?_)
        refine lv_goto (tgt := 10) hx hb dX4_copyFrom_33 (by decide) ?_
        exact ih Z16 (y10_2 + 1) _ h _ _ _ hP hD hS (lv_sub hl [1, 2, 0] rfl) hexit
  replace h := bd h
  obtain ⟨z5, q18, h⟩ := h
  refine L10 a0 a1 FU Z3 0 z5 q18 _ _ _ hP hD hS (lv_sub hl [1, 2, 0] rfl) (fun H locs ls hP hD hS hl => ?_)
  cases h
  exact e_vm hx hb hlocks hr hP hD hS (Nat.le_of_ble_eq_true rfl) (Nat.le_of_ble_eq_true rfl) dX4_copyFrom_36
set_option maxRecDepth 100000 in
theorem c_X4_copyFrom {p : Program} {l : Launch} {e : Env} {R : Room} {s : State} {m : MethodId} {args : Array Value} {below : List Frame} {meth : Method} {c : Code} {H : Heap} {locs : List Loc} {cells slots : Nat} {Q : State → Prop} {cc : ByteArray} {pc index nL : Nat} {ls : Array Slot} {rest : List Value} {D : va_G} {cy : Nat → ClassId} {A0 : Nat → Prop} {S : St} {H0 : Heap} {own : String} {u : Unit} {a0 : Nat} {a1 : Nat} {S1 : St}  (hF : CallFix p m c cc nL s args ALLW own) (hsz : ls.size = nL) (hK : va_K D vwCl (tyL cy) s) (hP : SP D cy S H) (hD : ∀ a, S a ≠ none → A0 a) (hA : ∀ q, H0.size ≤ q → A0 q) (hS : va_S A0 H0 H locs) (hk : Cond.methodLink own index yX4_copyFrom ∈ ALLW) (hR : rm_X4_copyFrom.frames + 1 ≤ R.frames ∧ 8 + (3 + 11) + rm_X4_copyFrom.locals ≤ R.locals) (h : f_X4_copyFrom S a0 a1 = some S1) (hc : oO S a0 3 = some u) (hW : (rest.map fun v => v.category).sum ≤ 8) (hdg : decode cc pc = .ok (.invokevirtual index, 3)) (hf : cells + 0 ≤ R.cells ∧ slots + 0 ≤ R.slots)
    (kk : ∀ (H1 : Heap) (locs1 : List Loc), SP D cy S1 H1 → (∀ a, S1 a ≠ none → A0 a) → va_S A0 H0 H1 locs1 → W p l e R s m args below meth c H1 locs1 (cells + 0) (slots + 0) Q (F0 m (pc + 3) ls (rest))) : W p l e R s m args below meth c H locs cells slots Q (F0 m pc ls (.ref a1 :: .ref a0 :: rest)) := by
  exact k_vVm (As := [.ref a1]) hF hsz (m_X4_copyFrom l D cy H.size S a0 a1 S1 h) (cwV_of (n := 1) hF.2.2.2.2 hk wd_434 wd_435 wd_72 wd_436 rfl rfl (by decide +kernel) hR) rfl hK hP hD hA hS (ci := 3) hc rfl hW rfl hdg hf kk
/-- VowBlocks$Row.size()I -/
def f_X4_size (S : St) (a0 : Nat) : Option (Int32) :=
  (gI S a0 3 1).bind fun x1 =>
  some x1
abbrev rm_X4_size : Room := { frames := 0, cells := 0, slots := 0, locals := 0 }
set_option maxHeartbeats 4000000 in
set_option maxRecDepth 100000 in
theorem m_X4_size (l : Launch) (D : va_G) (cy : Nat → ClassId) (S : St) (a0 : Nat) (r : Int32) (h : f_X4_size S a0 = some r) : Met l yX4_size (wsA yX4_size cX4_size 1 (some .int)) rm_X4_size (va_Pc [.ref a0] (PS D cy S)) (va_Qi (fun r' (_ : Unit) => r' = r) (fun _ _ => True) noA) 0 0 noA := by
  refine Met.ofW (cc := cX4_size) (maxL := 1) (ret := (some .int)) (by decide) rfl ?_
  intro p e s m args below meth c s₁ B hml hv
  obtain ⟨rfl, hP, hK⟩ := hv
  have hx := B.exec
  have hb := B.bytes
  have hr := B.returns
  have hts9 := atoms_spec (ws := wsA yX4_size cX4_size 1 (some .int)) B.pre
  have hts : ∀ w ∈ ALLW, w.before _ s = true := fun w h => hts9 w (List.mem_cons_of_mem _ h)
  have hown : s.vm.findClass RX4 = some m.cls := findClass_of_methodNamed B.named
  have hlocks := B.notSynchronized
  have hS : va_S noA s.heap s.heap [] := va_S.rf
  have hl := lv_entry [.ref a0] (n := 1) (Nat.le_of_ble_eq_true rfl)
  rw [lg_entry_eq]
  generalize (lg_sl [.ref a0] ++ List.replicate (1 - (lg_sl [.ref a0]).length) Slot.unset).toArray = ls at hl ⊢
  have hl : lv_has ls 1 [(0, .ref a0)] := hl
  rw [f_X4_size] at h
  refine lv_aload_n hx hb dX4_size_0 rfl (lv_at hl 0 rfl) ?_
  replace h := bd h
  obtain ⟨x1, q2, h⟩ := h
  refine fg_3_1 hx hb hts hown hK hP wd_113 q2 dX4_size_1 ?_
  cases h
  exact e_ip hx hb hlocks hr hS (Nat.le_of_ble_eq_true rfl) (Nat.le_of_ble_eq_true rfl) dX4_size_4
set_option maxRecDepth 100000 in
theorem c_X4_size {p : Program} {l : Launch} {e : Env} {R : Room} {s : State} {m : MethodId} {args : Array Value} {below : List Frame} {meth : Method} {c : Code} {H : Heap} {locs : List Loc} {cells slots : Nat} {Q : State → Prop} {cc : ByteArray} {pc index nL : Nat} {ls : Array Slot} {rest : List Value} {D : va_G} {cy : Nat → ClassId} {A0 : Nat → Prop} {S : St} {H0 : Heap} {own : String} {u : Unit} {a0 : Nat} {r : Int32}  (hF : CallFix p m c cc nL s args ALLW own) (hsz : ls.size = nL) (hK : va_K D vwCl (tyL cy) s) (hP : SP D cy S H) (hS : va_S A0 H0 H locs) (hk : Cond.methodLink own index yX4_size ∈ ALLW) (hR : rm_X4_size.frames + 1 ≤ R.frames ∧ 8 + (1 + 11) + rm_X4_size.locals ≤ R.locals) (h : f_X4_size S a0 = some r) (hc : oO S a0 3 = some u) (hW : (rest.map fun v => v.category).sum ≤ 8) (hdg : decode cc pc = .ok (.invokevirtual index, 3)) (hf : cells + 0 ≤ R.cells ∧ slots + 0 ≤ R.slots)
    (kk : ∀ (H1 : Heap) (locs1 : List Loc), SP D cy S H1 → va_S A0 H0 H1 locs1 → W p l e R s m args below meth c H1 locs1 (cells + 0) (slots + 0) Q (F0 m (pc + 3) ls (.int r :: rest))) : W p l e R s m args below meth c H locs cells slots Q (F0 m pc ls (.ref a0 :: rest)) := by
  exact k_iVp (As := []) hF hsz (m_X4_size l D cy S a0 r h) (cwV_of (n := 0) hF.2.2.2.2 hk wd_284 wd_285 wd_72 wd_286 rfl rfl (by decide +kernel) hR) rfl hK hP hS (ci := 3) hc rfl hW rfl hdg hf kk
/-- VowBlocks$Row.runsAmong(I)I -/
def f_X4_runsAmong_L4 (S4_ : St) (y4_0 : Nat) (y4_1 : Int32) : Nat → Int32 → Int32 →  Option (Int32)
  | 0, _, _ => none
  | fu + 1, y4_2, y4_3 =>
    if y4_1 ≤ y4_3 then
      some y4_2
    else
      (gI S4_ y4_0 3 1).bind fun x4 =>
      if x4 ≤ y4_3 then
        some y4_2
      else
        (
          if y4_3 = 0 then
            some (y4_2 + 1)
          else
            (gR S4_ y4_0 3 0).bind fun x9 =>
            (aI S4_ x9 y4_3).bind fun x11 =>
            (gR S4_ y4_0 3 0).bind fun x13 =>
            (aI S4_ x13 (y4_3 - 1)).bind fun x15 =>
            if x11 = x15 then
              some y4_2
            else
              some (y4_2 + 1)
        : Option (Int32)).bind fun t7 =>
        f_X4_runsAmong_L4 S4_ y4_0 y4_1 fu t7 (y4_3 + 1)
def f_X4_runsAmong (S : St) (a0 : Nat) (a1 : Int32) : Option (Int32) :=
  (f_X4_runsAmong_L4 S a0 a1 FU 0 0).bind fun z1 =>
  some z1
abbrev rm_X4_runsAmong : Room := { frames := 0, cells := 0, slots := 0, locals := 0 }
set_option maxHeartbeats 4000000 in
set_option maxRecDepth 100000 in
theorem m_X4_runsAmong (l : Launch) (D : va_G) (cy : Nat → ClassId) (S : St) (a0 : Nat) (a1 : Int32) (r : Int32) (h : f_X4_runsAmong S a0 a1 = some r) : Met l yX4_runsAmong (wsA yX4_runsAmong cX4_runsAmong 4 (some .int)) rm_X4_runsAmong (va_Pc [.ref a0, .int a1] (PS D cy S)) (va_Qi (fun r' (_ : Unit) => r' = r) (fun _ _ => True) noA) 0 0 noA := by
  refine Met.ofW (cc := cX4_runsAmong) (maxL := 4) (ret := (some .int)) (by decide) rfl ?_
  intro p e s m args below meth c s₁ B hml hv
  obtain ⟨rfl, hP, hK⟩ := hv
  have hx := B.exec
  have hb := B.bytes
  have hr := B.returns
  have hts9 := atoms_spec (ws := wsA yX4_runsAmong cX4_runsAmong 4 (some .int)) B.pre
  have hts : ∀ w ∈ ALLW, w.before _ s = true := fun w h => hts9 w (List.mem_cons_of_mem _ h)
  have hown : s.vm.findClass RX4 = some m.cls := findClass_of_methodNamed B.named
  have hlocks := B.notSynchronized
  have hS : va_S noA s.heap s.heap [] := va_S.rf
  have hl := lv_entry [.ref a0, .int a1] (n := 4) (Nat.le_of_ble_eq_true rfl)
  rw [lg_entry_eq]
  generalize (lg_sl [.ref a0, .int a1] ++ List.replicate (4 - (lg_sl [.ref a0, .int a1]).length) Slot.unset).toArray = ls at hl ⊢
  have hl : lv_has ls 4 [(0, .ref a0), (1, .int a1)] := hl
  rw [f_X4_runsAmong] at h
  refine lv_iconst (v := 0) hx hb dX4_runsAmong_0 (by decide) ?_
  refine lv_istore_n (lv' := [(2, .int 0), (0, .ref a0), (1, .int a1)]) hx hb dX4_runsAmong_1 rfl hl (by decide) rfl (fun ls hl => ?_)
  refine lv_iconst (v := 0) hx hb dX4_runsAmong_2 (by decide) ?_
  refine lv_istore_n (lv' := [(3, .int 0), (2, .int 0), (0, .ref a0), (1, .int a1)]) hx hb dX4_runsAmong_3 rfl hl (by decide) rfl (fun ls hl => ?_)
  have L4 : ∀ (S4_ : St) (y4_0 : Nat) (y4_1 : Int32) (fu : Nat) (y4_2 : Int32) (y4_3 : Int32) (res : Int32), f_X4_runsAmong_L4 S4_ y4_0 y4_1 fu y4_2 y4_3 = some res → ∀ (H : Heap) (locs : List Loc) (ls : Array Slot), SP D cy S4_ H → va_S noA s.heap H locs → lv_has ls 4 [(0, .ref y4_0), (1, .int y4_1), (2, .int y4_2), (3, .int y4_3)] → (∀ (H : Heap) (locs : List Loc) (ls : Array Slot), SP D cy S4_ H → va_S noA s.heap H locs → lv_has ls 4 [(2, .int res)] → W p l e rm_X4_runsAmong s m ([.ref a0, .int a1] : List Value).toArray below meth c H locs 0 0 (MQ below (va_Qi (fun r' (_ : Unit) => r' = r) (fun _ _ => True) noA) ([.ref a0, .int a1] : List Value).toArray s 0 0 noA) (F0 m 47 ls [])) → W p l e rm_X4_runsAmong s m ([.ref a0, .int a1] : List Value).toArray below meth c H locs 0 0 (MQ below (va_Qi (fun r' (_ : Unit) => r' = r) (fun _ _ => True) noA) ([.ref a0, .int a1] : List Value).toArray s 0 0 noA) (F0 m 4 ls []) := by
    intro S4_ y4_0 y4_1 fu
    induction fu with
    | zero =>
      intro y4_2 y4_3 res h
      rw [f_X4_runsAmong_L4] at h
      cases h
    | succ fu ih =>
      intro y4_2 y4_3 res h H locs ls hP hS hl hexit
      rw [f_X4_runsAmong_L4] at h
      refine lv_iload_n hx hb dX4_runsAmong_4 rfl (lv_at hl 3 rfl) ?_
      refine lv_iload_n hx hb dX4_runsAmong_5 rfl (lv_at hl 1 rfl) ?_
      refine lv_icmp_ge (tgt := 47) hx hb dX4_runsAmong_6 (by decide) (fun c3 => ?_) (fun c3 => ?_)
      · replace h := ifp c3 h
        cases h
        exact hexit _ _ _ hP hS (lv_sub hl [2] rfl)
      · replace h := ifn c3 h
        refine lv_iload_n hx hb dX4_runsAmong_9 rfl (lv_at hl 3 rfl) ?_
        refine lv_aload_n hx hb dX4_runsAmong_10 rfl (lv_at hl 0 rfl) ?_
        replace h := bd h
        obtain ⟨x4, q5, h⟩ := h
        refine fg_3_1 hx hb hts hown hK hP wd_113 q5 dX4_runsAmong_11 ?_
        refine lv_icmp_ge (tgt := 47) hx hb dX4_runsAmong_14 (by decide) (fun c6 => ?_) (fun c6 => ?_)
        · replace h := ifp c6 h
          cases h
          exact hexit _ _ _ hP hS (lv_sub hl [2] rfl)
        · replace h := ifn c6 h
          refine lv_iload_n hx hb dX4_runsAmong_17 rfl (lv_at hl 3 rfl) ?_
          replace h := bd h
          obtain ⟨t7, ht, h⟩ := h
          have K7 : ∀ (H : Heap) (locs : List Loc) (ls : Array Slot), SP D cy S4_ H → va_S noA s.heap H locs → lv_has ls 4 [(0, .ref y4_0), (1, .int y4_1), (2, .int t7), (3, .int y4_3)] → W p l e rm_X4_runsAmong s m ([.ref a0, .int a1] : List Value).toArray below meth c H locs 0 0 (MQ below (va_Qi (fun r' (_ : Unit) => r' = r) (fun _ _ => True) noA) ([.ref a0, .int a1] : List Value).toArray s 0 0 noA) (F0 m 41 ls []) := by
            intro H locs ls hP hS hl
            refine lv_iinc (v := (y4_3 + 1)) (lv' := [(3, .int (y4_3 + 1)), (0, .ref y4_0), (1, .int y4_1), (2, .int t7)]) hx hb dX4_runsAmong_41 hl (k := 3) rfl rfl (by decide) rfl (fun ls hl => ?_)
            refine lv_goto (tgt := 4) hx hb dX4_runsAmong_44 (by decide) ?_
            exact ih t7 (y4_3 + 1) _ h _ _ _ hP hS (lv_sub hl [1, 2, 3, 0] rfl) hexit
          replace h := ht
          refine lv_if_eq (tgt := 38) hx hb dX4_runsAmong_18 (by decide) (fun c8 => ?_) (fun c8 => ?_)
          · replace h := ifp c8 h
            refine lv_iinc (v := (y4_2 + 1)) (lv' := [(2, .int (y4_2 + 1)), (0, .ref y4_0), (1, .int y4_1), (3, .int y4_3)]) hx hb dX4_runsAmong_38 hl (k := 2) rfl rfl (by decide) rfl (fun ls hl => ?_)
            cases h
            exact K7 _ _ _ hP hS (lv_sub hl [1, 2, 0, 3] rfl)
          · replace h := ifn c8 h
            refine lv_aload_n hx hb dX4_runsAmong_21 rfl (lv_at hl 0 rfl) ?_
            replace h := bd h
            obtain ⟨x9, q10, h⟩ := h
            refine fg_3_0 hx hb hts hown hK hP wd_112 q10 dX4_runsAmong_22 ?_
            refine lv_iload_n hx hb dX4_runsAmong_25 rfl (lv_at hl 3 rfl) ?_
            replace h := bd h
            obtain ⟨x11, q12, h⟩ := h
            refine r_aI hx hb hK hP q12 dX4_runsAmong_26 ?_
            refine lv_aload_n hx hb dX4_runsAmong_27 rfl (lv_at hl 0 rfl) ?_
            replace h := bd h
            obtain ⟨x13, q14, h⟩ := h
            refine fg_3_0 hx hb hts hown hK hP wd_112 q14 dX4_runsAmong_28 ?_
            refine lv_iload_n hx hb dX4_runsAmong_31 rfl (lv_at hl 3 rfl) ?_
            refine lv_iconst (v := 1) hx hb dX4_runsAmong_32 (by decide) ?_
            refine lv_isub hx hb dX4_runsAmong_33 ?_
            replace h := bd h
            obtain ⟨x15, q16, h⟩ := h
            refine r_aI hx hb hK hP q16 dX4_runsAmong_34 ?_
            refine lv_icmp_eq (tgt := 41) hx hb dX4_runsAmong_35 (by decide) (fun c17 => ?_) (fun c17 => ?_)
            · replace h := ifp c17 h
              cases h
              exact K7 _ _ _ hP hS (lv_sub hl [0, 1, 2, 3] rfl)
            · replace h := ifn c17 h
              refine lv_iinc (v := (y4_2 + 1)) (lv' := [(2, .int (y4_2 + 1)), (0, .ref y4_0), (1, .int y4_1), (3, .int y4_3)]) hx hb dX4_runsAmong_38 hl (k := 2) rfl rfl (by decide) rfl (fun ls hl => ?_)
              cases h
              exact K7 _ _ _ hP hS (lv_sub hl [1, 2, 0, 3] rfl)
  replace h := bd h
  obtain ⟨z1, q18, h⟩ := h
  refine L4 S a0 a1 FU 0 0 z1 q18 _ _ _ hP hS (lv_sub hl [2, 3, 1, 0] rfl) (fun H locs ls hP hS hl => ?_)
  refine lv_iload_n hx hb dX4_runsAmong_47 rfl (lv_at hl 0 rfl) ?_
  cases h
  exact e_ip hx hb hlocks hr hS (Nat.le_of_ble_eq_true rfl) (Nat.le_of_ble_eq_true rfl) dX4_runsAmong_48
set_option maxRecDepth 100000 in
theorem c_X4_runsAmong {p : Program} {l : Launch} {e : Env} {R : Room} {s : State} {m : MethodId} {args : Array Value} {below : List Frame} {meth : Method} {c : Code} {H : Heap} {locs : List Loc} {cells slots : Nat} {Q : State → Prop} {cc : ByteArray} {pc index nL : Nat} {ls : Array Slot} {rest : List Value} {D : va_G} {cy : Nat → ClassId} {A0 : Nat → Prop} {S : St} {H0 : Heap} {own : String} {u : Unit} {a0 : Nat} {a1 : Int32} {r : Int32}  (hF : CallFix p m c cc nL s args ALLW own) (hsz : ls.size = nL) (hK : va_K D vwCl (tyL cy) s) (hP : SP D cy S H) (hS : va_S A0 H0 H locs) (hk : Cond.methodLink own index yX4_runsAmong ∈ ALLW) (hR : rm_X4_runsAmong.frames + 1 ≤ R.frames ∧ 8 + (4 + 11) + rm_X4_runsAmong.locals ≤ R.locals) (h : f_X4_runsAmong S a0 a1 = some r) (hc : oO S a0 3 = some u) (hW : (rest.map fun v => v.category).sum ≤ 8) (hdg : decode cc pc = .ok (.invokevirtual index, 3)) (hf : cells + 0 ≤ R.cells ∧ slots + 0 ≤ R.slots)
    (kk : ∀ (H1 : Heap) (locs1 : List Loc), SP D cy S H1 → va_S A0 H0 H1 locs1 → W p l e R s m args below meth c H1 locs1 (cells + 0) (slots + 0) Q (F0 m (pc + 3) ls (.int r :: rest))) : W p l e R s m args below meth c H locs cells slots Q (F0 m pc ls (.int a1 :: .ref a0 :: rest)) := by
  exact k_iVp (As := [.int a1]) hF hsz (m_X4_runsAmong l D cy S a0 a1 r h) (cwV_of (n := 1) hF.2.2.2.2 hk wd_292 wd_293 wd_72 wd_294 rfl rfl (by decide +kernel) hR) rfl hK hP hS (ci := 3) hc rfl hW rfl hdg hf kk
/-- VowBlocks$Row.differentValues()I -/
def f_X4_differentValues_L14 (S14_ : St) (y14_0 : Nat) (y14_1 : Int32) (y14_2 : Int32) : Nat → Int32 →  Option (Int32)
  | 0, _ => none
  | fu + 1, y14_3 =>
    if y14_2 ≤ y14_3 then
      some y14_3
    else
      (gR S14_ y14_0 3 0).bind fun x9 =>
      (aI S14_ x9 y14_3).bind fun x11 =>
      (gR S14_ y14_0 3 0).bind fun x13 =>
      (aI S14_ x13 y14_2).bind fun x15 =>
      if x11 = x15 then
        some y14_3
      else
        f_X4_differentValues_L14 S14_ y14_0 y14_1 y14_2 fu (y14_3 + 1)
def f_X4_differentValues_L4 (S4_ : St) (y4_0 : Nat) : Nat → Int32 → Int32 →  Option (Int32)
  | 0, _, _ => none
  | fu + 1, y4_1, y4_2 =>
    (gI S4_ y4_0 3 1).bind fun x3 =>
    if x3 ≤ y4_2 then
      some y4_1
    else
      (f_X4_differentValues_L14 S4_ y4_0 y4_1 y4_2 FU 0).bind fun z6 =>
      (
        if z6 = y4_2 then
          some (y4_1 + 1)
        else
          some y4_1
      : Option (Int32)).bind fun t19 =>
      f_X4_differentValues_L4 S4_ y4_0 fu t19 (y4_2 + 1)
def f_X4_differentValues (S : St) (a0 : Nat) : Option (Int32) :=
  (f_X4_differentValues_L4 S a0 FU 0 0).bind fun z1 =>
  some z1
abbrev rm_X4_differentValues : Room := { frames := 0, cells := 0, slots := 0, locals := 0 }
set_option maxHeartbeats 4000000 in
set_option maxRecDepth 100000 in
theorem m_X4_differentValues (l : Launch) (D : va_G) (cy : Nat → ClassId) (S : St) (a0 : Nat) (r : Int32) (h : f_X4_differentValues S a0 = some r) : Met l yX4_differentValues (wsA yX4_differentValues cX4_differentValues 4 (some .int)) rm_X4_differentValues (va_Pc [.ref a0] (PS D cy S)) (va_Qi (fun r' (_ : Unit) => r' = r) (fun _ _ => True) noA) 0 0 noA := by
  refine Met.ofW (cc := cX4_differentValues) (maxL := 4) (ret := (some .int)) (by decide) rfl ?_
  intro p e s m args below meth c s₁ B hml hv
  obtain ⟨rfl, hP, hK⟩ := hv
  have hx := B.exec
  have hb := B.bytes
  have hr := B.returns
  have hts9 := atoms_spec (ws := wsA yX4_differentValues cX4_differentValues 4 (some .int)) B.pre
  have hts : ∀ w ∈ ALLW, w.before _ s = true := fun w h => hts9 w (List.mem_cons_of_mem _ h)
  have hown : s.vm.findClass RX4 = some m.cls := findClass_of_methodNamed B.named
  have hlocks := B.notSynchronized
  have hS : va_S noA s.heap s.heap [] := va_S.rf
  have hl := lv_entry [.ref a0] (n := 4) (Nat.le_of_ble_eq_true rfl)
  rw [lg_entry_eq]
  generalize (lg_sl [.ref a0] ++ List.replicate (4 - (lg_sl [.ref a0]).length) Slot.unset).toArray = ls at hl ⊢
  have hl : lv_has ls 4 [(0, .ref a0)] := hl
  rw [f_X4_differentValues] at h
  refine lv_iconst (v := 0) hx hb dX4_differentValues_0 (by decide) ?_
  refine lv_istore_n (lv' := [(1, .int 0), (0, .ref a0)]) hx hb dX4_differentValues_1 rfl hl (by decide) rfl (fun ls hl => ?_)
  refine lv_iconst (v := 0) hx hb dX4_differentValues_2 (by decide) ?_
  refine lv_istore_n (lv' := [(2, .int 0), (1, .int 0), (0, .ref a0)]) hx hb dX4_differentValues_3 rfl hl (by decide) rfl (fun ls hl => ?_)
  have L4 : ∀ (S4_ : St) (y4_0 : Nat) (fu : Nat) (y4_1 : Int32) (y4_2 : Int32) (res : Int32), f_X4_differentValues_L4 S4_ y4_0 fu y4_1 y4_2 = some res → ∀ (H : Heap) (locs : List Loc) (ls : Array Slot), SP D cy S4_ H → va_S noA s.heap H locs → lv_has ls 4 [(0, .ref y4_0), (1, .int y4_1), (2, .int y4_2)] → (∀ (H : Heap) (locs : List Loc) (ls : Array Slot), SP D cy S4_ H → va_S noA s.heap H locs → lv_has ls 4 [(1, .int res)] → W p l e rm_X4_differentValues s m ([.ref a0] : List Value).toArray below meth c H locs 0 0 (MQ below (va_Qi (fun r' (_ : Unit) => r' = r) (fun _ _ => True) noA) ([.ref a0] : List Value).toArray s 0 0 noA) (F0 m 54 ls [])) → W p l e rm_X4_differentValues s m ([.ref a0] : List Value).toArray below meth c H locs 0 0 (MQ below (va_Qi (fun r' (_ : Unit) => r' = r) (fun _ _ => True) noA) ([.ref a0] : List Value).toArray s 0 0 noA) (F0 m 4 ls []) := by
    intro S4_ y4_0 fu
    induction fu with
    | zero =>
      intro y4_1 y4_2 res h
      rw [f_X4_differentValues_L4] at h
      cases h
    | succ fu ih =>
      intro y4_1 y4_2 res h H locs ls hP hS hl hexit
      rw [f_X4_differentValues_L4] at h
      refine lv_iload_n hx hb dX4_differentValues_4 rfl (lv_at hl 2 rfl) ?_
      refine lv_aload_n hx hb dX4_differentValues_5 rfl (lv_at hl 0 rfl) ?_
      replace h := bd h
      obtain ⟨x3, q4, h⟩ := h
      refine fg_3_1 hx hb hts hown hK hP wd_113 q4 dX4_differentValues_6 ?_
      refine lv_icmp_ge (tgt := 54) hx hb dX4_differentValues_9 (by decide) (fun c5 => ?_) (fun c5 => ?_)
      · replace h := ifp c5 h
        cases h
        exact hexit _ _ _ hP hS (lv_sub hl [1] rfl)
      · replace h := ifn c5 h
        refine lv_iconst (v := 0) hx hb dX4_differentValues_12 (by decide) ?_
        refine lv_istore_n (lv' := [(3, .int 0), (0, .ref y4_0), (1, .int y4_1), (2, .int y4_2)]) hx hb dX4_differentValues_13 rfl hl (by decide) rfl (fun ls hl => ?_)
        have L14 : ∀ (S14_ : St) (y14_0 : Nat) (y14_1 : Int32) (y14_2 : Int32) (fu : Nat) (y14_3 : Int32) (res : Int32), f_X4_differentValues_L14 S14_ y14_0 y14_1 y14_2 fu y14_3 = some res → ∀ (H : Heap) (locs : List Loc) (ls : Array Slot), SP D cy S14_ H → va_S noA s.heap H locs → lv_has ls 4 [(0, .ref y14_0), (1, .int y14_1), (2, .int y14_2), (3, .int y14_3)] → (∀ (H : Heap) (locs : List Loc) (ls : Array Slot), SP D cy S14_ H → va_S noA s.heap H locs → lv_has ls 4 [(0, .ref y14_0), (1, .int y14_1), (2, .int y14_2), (3, .int res)] → W p l e rm_X4_differentValues s m ([.ref a0] : List Value).toArray below meth c H locs 0 0 (MQ below (va_Qi (fun r' (_ : Unit) => r' = r) (fun _ _ => True) noA) ([.ref a0] : List Value).toArray s 0 0 noA) (F0 m 40 ls [])) → W p l e rm_X4_differentValues s m ([.ref a0] : List Value).toArray below meth c H locs 0 0 (MQ below (va_Qi (fun r' (_ : Unit) => r' = r) (fun _ _ => True) noA) ([.ref a0] : List Value).toArray s 0 0 noA) (F0 m 14 ls []) := by
          intro S14_ y14_0 y14_1 y14_2 fu
          induction fu with
          | zero =>
            intro y14_3 res h
            rw [f_X4_differentValues_L14] at h
            cases h
          | succ fu ih =>
            intro y14_3 res h H locs ls hP hS hl hexit
            rw [f_X4_differentValues_L14] at h
            refine lv_iload_n hx hb dX4_differentValues_14 rfl (lv_at hl 3 rfl) ?_
            refine lv_iload_n hx hb dX4_differentValues_15 rfl (lv_at hl 2 rfl) ?_
            refine lv_icmp_ge (tgt := 40) hx hb dX4_differentValues_16 (by decide) (fun c8 => ?_) (fun c8 => ?_)
            · replace h := ifp c8 h
              cases h
              exact hexit _ _ _ hP hS (lv_sub hl [0, 1, 2, 3] rfl)
            · replace h := ifn c8 h
              refine lv_aload_n hx hb dX4_differentValues_19 rfl (lv_at hl 0 rfl) ?_
              replace h := bd h
              obtain ⟨x9, q10, h⟩ := h
              refine fg_3_0 hx hb hts hown hK hP wd_112 q10 dX4_differentValues_20 ?_
              refine lv_iload_n hx hb dX4_differentValues_23 rfl (lv_at hl 3 rfl) ?_
              replace h := bd h
              obtain ⟨x11, q12, h⟩ := h
              refine r_aI hx hb hK hP q12 dX4_differentValues_24 ?_
              refine lv_aload_n hx hb dX4_differentValues_25 rfl (lv_at hl 0 rfl) ?_
              replace h := bd h
              obtain ⟨x13, q14, h⟩ := h
              refine fg_3_0 hx hb hts hown hK hP wd_112 q14 dX4_differentValues_26 ?_
              refine lv_iload_n hx hb dX4_differentValues_29 rfl (lv_at hl 2 rfl) ?_
              replace h := bd h
              obtain ⟨x15, q16, h⟩ := h
              refine r_aI hx hb hK hP q16 dX4_differentValues_30 ?_
              refine lv_icmp_eq (tgt := 40) hx hb dX4_differentValues_31 (by decide) (fun c17 => ?_) (fun c17 => ?_)
              · replace h := ifp c17 h
                cases h
                exact hexit _ _ _ hP hS (lv_sub hl [0, 1, 2, 3] rfl)
              · replace h := ifn c17 h
                refine lv_iinc (v := (y14_3 + 1)) (lv' := [(3, .int (y14_3 + 1)), (0, .ref y14_0), (1, .int y14_1), (2, .int y14_2)]) hx hb dX4_differentValues_34 hl (k := 3) rfl rfl (by decide) rfl (fun ls hl => ?_)
                refine lv_goto (tgt := 14) hx hb dX4_differentValues_37 (by decide) ?_
                exact ih (y14_3 + 1) _ h _ _ _ hP hS (lv_sub hl [1, 2, 3, 0] rfl) hexit
        replace h := bd h
        obtain ⟨z6, q18, h⟩ := h
        refine L14 S4_ y4_0 y4_1 y4_2 FU 0 z6 q18 _ _ _ hP hS (lv_sub hl [1, 2, 3, 0] rfl) (fun H locs ls hP hS hl => ?_)
        refine lv_iload_n hx hb dX4_differentValues_40 rfl (lv_at hl 3 rfl) ?_
        refine lv_iload_n hx hb dX4_differentValues_41 rfl (lv_at hl 2 rfl) ?_
        replace h := bd h
        obtain ⟨t19, ht, h⟩ := h
        have K19 : ∀ (H : Heap) (locs : List Loc) (ls : Array Slot), SP D cy S4_ H → va_S noA s.heap H locs → lv_has ls 4 [(0, .ref y4_0), (1, .int t19), (2, .int y4_2)] → W p l e rm_X4_differentValues s m ([.ref a0] : List Value).toArray below meth c H locs 0 0 (MQ below (va_Qi (fun r' (_ : Unit) => r' = r) (fun _ _ => True) noA) ([.ref a0] : List Value).toArray s 0 0 noA) (F0 m 48 ls []) := by
          intro H locs ls hP hS hl
          refine lv_iinc (v := (y4_2 + 1)) (lv' := [(2, .int (y4_2 + 1)), (0, .ref y4_0), (1, .int t19)]) hx hb dX4_differentValues_48 hl (k := 2) rfl rfl (by decide) rfl (fun ls hl => ?_)
          refine lv_goto (tgt := 4) hx hb dX4_differentValues_51 (by decide) ?_
          exact ih t19 (y4_2 + 1) _ h _ _ _ hP hS (lv_sub hl [1, 2, 0] rfl) hexit
        replace h := ht
        refine lv_icmp_ne (tgt := 48) hx hb dX4_differentValues_42 (by decide) (fun c20 => ?_) (fun c20 => ?_)
        · replace h := ifn c20 h
          cases h
          exact K19 _ _ _ hP hS (lv_sub hl [0, 1, 2] rfl)
        · replace h := ifp c20 h
          refine lv_iinc (v := (y4_1 + 1)) (lv' := [(1, .int (y4_1 + 1)), (0, .ref y4_0), (2, .int y4_2), (3, .int z6)]) hx hb dX4_differentValues_45 hl (k := 1) rfl rfl (by decide) rfl (fun ls hl => ?_)
          cases h
          exact K19 _ _ _ hP hS (lv_sub hl [1, 0, 2] rfl)
  replace h := bd h
  obtain ⟨z1, q21, h⟩ := h
  refine L4 S a0 FU 0 0 z1 q21 _ _ _ hP hS (lv_sub hl [2, 1, 0] rfl) (fun H locs ls hP hS hl => ?_)
  refine lv_iload_n hx hb dX4_differentValues_54 rfl (lv_at hl 0 rfl) ?_
  cases h
  exact e_ip hx hb hlocks hr hS (Nat.le_of_ble_eq_true rfl) (Nat.le_of_ble_eq_true rfl) dX4_differentValues_55
set_option maxRecDepth 100000 in
theorem c_X4_differentValues {p : Program} {l : Launch} {e : Env} {R : Room} {s : State} {m : MethodId} {args : Array Value} {below : List Frame} {meth : Method} {c : Code} {H : Heap} {locs : List Loc} {cells slots : Nat} {Q : State → Prop} {cc : ByteArray} {pc index nL : Nat} {ls : Array Slot} {rest : List Value} {D : va_G} {cy : Nat → ClassId} {A0 : Nat → Prop} {S : St} {H0 : Heap} {own : String} {u : Unit} {a0 : Nat} {r : Int32}  (hF : CallFix p m c cc nL s args ALLW own) (hsz : ls.size = nL) (hK : va_K D vwCl (tyL cy) s) (hP : SP D cy S H) (hS : va_S A0 H0 H locs) (hk : Cond.methodLink own index yX4_differentValues ∈ ALLW) (hR : rm_X4_differentValues.frames + 1 ≤ R.frames ∧ 8 + (4 + 11) + rm_X4_differentValues.locals ≤ R.locals) (h : f_X4_differentValues S a0 = some r) (hc : oO S a0 3 = some u) (hW : (rest.map fun v => v.category).sum ≤ 8) (hdg : decode cc pc = .ok (.invokevirtual index, 3)) (hf : cells + 0 ≤ R.cells ∧ slots + 0 ≤ R.slots)
    (kk : ∀ (H1 : Heap) (locs1 : List Loc), SP D cy S H1 → va_S A0 H0 H1 locs1 → W p l e R s m args below meth c H1 locs1 (cells + 0) (slots + 0) Q (F0 m (pc + 3) ls (.int r :: rest))) : W p l e R s m args below meth c H locs cells slots Q (F0 m pc ls (.ref a0 :: rest)) := by
  exact k_iVp (As := []) hF hsz (m_X4_differentValues l D cy S a0 r h) (cwV_of (n := 0) hF.2.2.2.2 hk wd_296 wd_297 wd_72 wd_298 rfl rfl (by decide +kernel) hR) rfl hK hP hS (ci := 3) hc rfl hW rfl hdg hf kk
/-- VowBlocks$Row.spanOfSteps()I -/
def f_X4_spanOfSteps_L4 (S4_ : St) (y4_0 : Nat) : Nat → Int32 → Int32 →  Option (Int32)
  | 0, _, _ => none
  | fu + 1, y4_1, y4_2 =>
    (gI S4_ y4_0 3 1).bind fun x3 =>
    if x3 ≤ y4_2 then
      some y4_1
    else
      (gR S4_ y4_0 3 0).bind fun x6 =>
      (aI S4_ x6 y4_2).bind fun x8 =>
      (gR S4_ y4_0 3 0).bind fun x10 =>
      (aI S4_ x10 (y4_2 - 1)).bind fun x12 =>
      (
        if (x8 - x12) ≤ 0 then
          some (-(x8 - x12))
        else
          some ((x8 - x12) + 1)
      : Option (Int32)).bind fun t14 =>
      (
        if t14 ≤ y4_1 then
          some y4_1
        else
          some t14
      : Option (Int32)).bind fun t16 =>
      f_X4_spanOfSteps_L4 S4_ y4_0 fu t16 (y4_2 + 1)
def f_X4_spanOfSteps (S : St) (a0 : Nat) : Option (Int32) :=
  (f_X4_spanOfSteps_L4 S a0 FU 0 1).bind fun z1 =>
  (
    if z1 = 0 then
      some 1
    else
      some (2 * z1)
  : Option (Int32)).bind fun t19 =>
  some t19
abbrev rm_X4_spanOfSteps : Room := { frames := 0, cells := 0, slots := 0, locals := 0 }
set_option maxHeartbeats 4000000 in
set_option maxRecDepth 100000 in
theorem m_X4_spanOfSteps (l : Launch) (D : va_G) (cy : Nat → ClassId) (S : St) (a0 : Nat) (r : Int32) (h : f_X4_spanOfSteps S a0 = some r) : Met l yX4_spanOfSteps (wsA yX4_spanOfSteps cX4_spanOfSteps 5 (some .int)) rm_X4_spanOfSteps (va_Pc [.ref a0] (PS D cy S)) (va_Qi (fun r' (_ : Unit) => r' = r) (fun _ _ => True) noA) 0 0 noA := by
  refine Met.ofW (cc := cX4_spanOfSteps) (maxL := 5) (ret := (some .int)) (by decide) rfl ?_
  intro p e s m args below meth c s₁ B hml hv
  obtain ⟨rfl, hP, hK⟩ := hv
  have hx := B.exec
  have hb := B.bytes
  have hr := B.returns
  have hts9 := atoms_spec (ws := wsA yX4_spanOfSteps cX4_spanOfSteps 5 (some .int)) B.pre
  have hts : ∀ w ∈ ALLW, w.before _ s = true := fun w h => hts9 w (List.mem_cons_of_mem _ h)
  have hown : s.vm.findClass RX4 = some m.cls := findClass_of_methodNamed B.named
  have hlocks := B.notSynchronized
  have hS : va_S noA s.heap s.heap [] := va_S.rf
  have hl := lv_entry [.ref a0] (n := 5) (Nat.le_of_ble_eq_true rfl)
  rw [lg_entry_eq]
  generalize (lg_sl [.ref a0] ++ List.replicate (5 - (lg_sl [.ref a0]).length) Slot.unset).toArray = ls at hl ⊢
  have hl : lv_has ls 5 [(0, .ref a0)] := hl
  rw [f_X4_spanOfSteps] at h
  refine lv_iconst (v := 0) hx hb dX4_spanOfSteps_0 (by decide) ?_
  refine lv_istore_n (lv' := [(1, .int 0), (0, .ref a0)]) hx hb dX4_spanOfSteps_1 rfl hl (by decide) rfl (fun ls hl => ?_)
  refine lv_iconst (v := 1) hx hb dX4_spanOfSteps_2 (by decide) ?_
  refine lv_istore_n (lv' := [(2, .int 1), (1, .int 0), (0, .ref a0)]) hx hb dX4_spanOfSteps_3 rfl hl (by decide) rfl (fun ls hl => ?_)
  have L4 : ∀ (S4_ : St) (y4_0 : Nat) (fu : Nat) (y4_1 : Int32) (y4_2 : Int32) (res : Int32), f_X4_spanOfSteps_L4 S4_ y4_0 fu y4_1 y4_2 = some res → ∀ (H : Heap) (locs : List Loc) (ls : Array Slot), SP D cy S4_ H → va_S noA s.heap H locs → lv_has ls 5 [(0, .ref y4_0), (1, .int y4_1), (2, .int y4_2)] → (∀ (H : Heap) (locs : List Loc) (ls : Array Slot), SP D cy S4_ H → va_S noA s.heap H locs → lv_has ls 5 [(1, .int res)] → W p l e rm_X4_spanOfSteps s m ([.ref a0] : List Value).toArray below meth c H locs 0 0 (MQ below (va_Qi (fun r' (_ : Unit) => r' = r) (fun _ _ => True) noA) ([.ref a0] : List Value).toArray s 0 0 noA) (F0 m 57 ls [])) → W p l e rm_X4_spanOfSteps s m ([.ref a0] : List Value).toArray below meth c H locs 0 0 (MQ below (va_Qi (fun r' (_ : Unit) => r' = r) (fun _ _ => True) noA) ([.ref a0] : List Value).toArray s 0 0 noA) (F0 m 4 ls []) := by
    intro S4_ y4_0 fu
    induction fu with
    | zero =>
      intro y4_1 y4_2 res h
      rw [f_X4_spanOfSteps_L4] at h
      cases h
    | succ fu ih =>
      intro y4_1 y4_2 res h H locs ls hP hS hl hexit
      rw [f_X4_spanOfSteps_L4] at h
      refine lv_iload_n hx hb dX4_spanOfSteps_4 rfl (lv_at hl 2 rfl) ?_
      refine lv_aload_n hx hb dX4_spanOfSteps_5 rfl (lv_at hl 0 rfl) ?_
      replace h := bd h
      obtain ⟨x3, q4, h⟩ := h
      refine fg_3_1 hx hb hts hown hK hP wd_113 q4 dX4_spanOfSteps_6 ?_
      refine lv_icmp_ge (tgt := 57) hx hb dX4_spanOfSteps_9 (by decide) (fun c5 => ?_) (fun c5 => ?_)
      · replace h := ifp c5 h
        cases h
        exact hexit _ _ _ hP hS (lv_sub hl [1] rfl)
      · replace h := ifn c5 h
        refine lv_aload_n hx hb dX4_spanOfSteps_12 rfl (lv_at hl 0 rfl) ?_
        replace h := bd h
        obtain ⟨x6, q7, h⟩ := h
        refine fg_3_0 hx hb hts hown hK hP wd_112 q7 dX4_spanOfSteps_13 ?_
        refine lv_iload_n hx hb dX4_spanOfSteps_16 rfl (lv_at hl 2 rfl) ?_
        replace h := bd h
        obtain ⟨x8, q9, h⟩ := h
        refine r_aI hx hb hK hP q9 dX4_spanOfSteps_17 ?_
        refine lv_aload_n hx hb dX4_spanOfSteps_18 rfl (lv_at hl 0 rfl) ?_
        replace h := bd h
        obtain ⟨x10, q11, h⟩ := h
        refine fg_3_0 hx hb hts hown hK hP wd_112 q11 dX4_spanOfSteps_19 ?_
        refine lv_iload_n hx hb dX4_spanOfSteps_22 rfl (lv_at hl 2 rfl) ?_
        refine lv_iconst (v := 1) hx hb dX4_spanOfSteps_23 (by decide) ?_
        refine lv_isub hx hb dX4_spanOfSteps_24 ?_
        replace h := bd h
        obtain ⟨x12, q13, h⟩ := h
        refine r_aI hx hb hK hP q13 dX4_spanOfSteps_25 ?_
        refine lv_isub hx hb dX4_spanOfSteps_26 ?_
        refine lv_istore_n (lv' := [(3, .int (x8 - x12)), (0, .ref y4_0), (1, .int y4_1), (2, .int y4_2)]) hx hb dX4_spanOfSteps_27 rfl hl (by decide) rfl (fun ls hl => ?_)
        refine lv_iload_n hx hb dX4_spanOfSteps_28 rfl (lv_at hl 0 rfl) ?_
        replace h := bd h
        obtain ⟨t14, ht, h⟩ := h
        have K14 : ∀ (H : Heap) (locs : List Loc) (ls : Array Slot), SP D cy S4_ H → va_S noA s.heap H locs → lv_has ls 5 [(0, .ref y4_0), (1, .int y4_1), (2, .int y4_2)] → W p l e rm_X4_spanOfSteps s m ([.ref a0] : List Value).toArray below meth c H locs 0 0 (MQ below (va_Qi (fun r' (_ : Unit) => r' = r) (fun _ _ => True) noA) ([.ref a0] : List Value).toArray s 0 0 noA) (F0 m 40 ls [.int t14]) := by
          intro H locs ls hP hS hl
          refine lv_istore (lv' := [(4, .int t14), (0, .ref y4_0), (1, .int y4_1), (2, .int y4_2)]) hx hb dX4_spanOfSteps_40 hl (by decide) rfl (fun ls hl => ?_)
          refine lv_iload hx hb dX4_spanOfSteps_42 (lv_at hl 0 rfl) ?_
          refine lv_iload_n hx hb dX4_spanOfSteps_44 rfl (lv_at hl 2 rfl) ?_
          replace h := bd h
          obtain ⟨t16, ht, h⟩ := h
          have K16 : ∀ (H : Heap) (locs : List Loc) (ls : Array Slot), SP D cy S4_ H → va_S noA s.heap H locs → lv_has ls 5 [(0, .ref y4_0), (1, .int t16), (2, .int y4_2)] → W p l e rm_X4_spanOfSteps s m ([.ref a0] : List Value).toArray below meth c H locs 0 0 (MQ below (va_Qi (fun r' (_ : Unit) => r' = r) (fun _ _ => True) noA) ([.ref a0] : List Value).toArray s 0 0 noA) (F0 m 51 ls []) := by
            intro H locs ls hP hS hl
            refine lv_iinc (v := (y4_2 + 1)) (lv' := [(2, .int (y4_2 + 1)), (0, .ref y4_0), (1, .int t16)]) hx hb dX4_spanOfSteps_51 hl (k := 2) rfl rfl (by decide) rfl (fun ls hl => ?_)
            refine lv_goto (tgt := 4) hx hb dX4_spanOfSteps_54 (by decide) ?_
            exact ih t16 (y4_2 + 1) _ h _ _ _ hP hS (lv_sub hl [1, 2, 0] rfl) hexit
          replace h := ht
          refine lv_icmp_le (tgt := 51) hx hb dX4_spanOfSteps_45 (by decide) (fun c17 => ?_) (fun c17 => ?_)
          · replace h := ifp c17 h
            cases h
            exact K16 _ _ _ hP hS (lv_sub hl [1, 2, 3] rfl)
          · replace h := ifn c17 h
            refine lv_iload hx hb dX4_spanOfSteps_48 (lv_at hl 0 rfl) ?_
            refine lv_istore_n (lv' := [(1, .int t14), (4, .int t14), (0, .ref y4_0), (2, .int y4_2)]) hx hb dX4_spanOfSteps_50 rfl hl (by decide) rfl (fun ls hl => ?_)
            cases h
            exact K16 _ _ _ hP hS (lv_sub hl [2, 0, 3] rfl)
        replace h := ht
        refine lv_if_le (tgt := 38) hx hb dX4_spanOfSteps_29 (by decide) (fun c15 => ?_) (fun c15 => ?_)
        · replace h := ifp c15 h
          refine lv_iload_n hx hb dX4_spanOfSteps_38 rfl (lv_at hl 0 rfl) ?_
          refine lv_ineg hx hb dX4_spanOfSteps_39 ?_
          cases h
          exact K14 _ _ _ hP hS (lv_sub hl [1, 2, 3] rfl)
        · replace h := ifn c15 h
          refine lv_iload_n hx hb dX4_spanOfSteps_32 rfl (lv_at hl 0 rfl) ?_
          refine lv_iconst (v := 1) hx hb dX4_spanOfSteps_33 (by decide) ?_
          refine lv_iadd hx hb dX4_spanOfSteps_34 ?_
          refine lv_goto (tgt := 40) hx hb dX4_spanOfSteps_35 (by decide) ?_
          cases h
          exact K14 _ _ _ hP hS (lv_sub hl [1, 2, 3] rfl)
  replace h := bd h
  obtain ⟨z1, q18, h⟩ := h
  refine L4 S a0 FU 0 1 z1 q18 _ _ _ hP hS (lv_sub hl [2, 1, 0] rfl) (fun H locs ls hP hS hl => ?_)
  refine lv_iload_n hx hb dX4_spanOfSteps_57 rfl (lv_at hl 0 rfl) ?_
  replace h := bd h
  obtain ⟨t19, ht, h⟩ := h
  have K19 : ∀ (H : Heap) (locs : List Loc) (ls : Array Slot), SP D cy S H → va_S noA s.heap H locs → lv_has ls 5 [] → W p l e rm_X4_spanOfSteps s m ([.ref a0] : List Value).toArray below meth c H locs 0 0 (MQ below (va_Qi (fun r' (_ : Unit) => r' = r) (fun _ _ => True) noA) ([.ref a0] : List Value).toArray s 0 0 noA) (F0 m 68 ls [.int t19]) := by
    intro H locs ls hP hS hl
    cases h
    exact e_ip hx hb hlocks hr hS (Nat.le_of_ble_eq_true rfl) (Nat.le_of_ble_eq_true rfl) dX4_spanOfSteps_68
  replace h := ht
  refine lv_if_ne (tgt := 65) hx hb dX4_spanOfSteps_58 (by decide) (fun c20 => ?_) (fun c20 => ?_)
  · replace h := ifn c20 h
    refine lv_iconst (v := 2) hx hb dX4_spanOfSteps_65 (by decide) ?_
    refine lv_iload_n hx hb dX4_spanOfSteps_66 rfl (lv_at hl 0 rfl) ?_
    refine lv_imul hx hb dX4_spanOfSteps_67 ?_
    cases h
    exact K19 _ _ _ hP hS (lv_sub hl [] rfl)
  · replace h := ifp c20 h
    refine lv_iconst (v := 1) hx hb dX4_spanOfSteps_61 (by decide) ?_
    refine lv_goto (tgt := 68) hx hb dX4_spanOfSteps_62 (by decide) ?_
    cases h
    exact K19 _ _ _ hP hS (lv_sub hl [] rfl)
set_option maxRecDepth 100000 in
theorem c_X4_spanOfSteps {p : Program} {l : Launch} {e : Env} {R : Room} {s : State} {m : MethodId} {args : Array Value} {below : List Frame} {meth : Method} {c : Code} {H : Heap} {locs : List Loc} {cells slots : Nat} {Q : State → Prop} {cc : ByteArray} {pc index nL : Nat} {ls : Array Slot} {rest : List Value} {D : va_G} {cy : Nat → ClassId} {A0 : Nat → Prop} {S : St} {H0 : Heap} {own : String} {u : Unit} {a0 : Nat} {r : Int32}  (hF : CallFix p m c cc nL s args ALLW own) (hsz : ls.size = nL) (hK : va_K D vwCl (tyL cy) s) (hP : SP D cy S H) (hS : va_S A0 H0 H locs) (hk : Cond.methodLink own index yX4_spanOfSteps ∈ ALLW) (hR : rm_X4_spanOfSteps.frames + 1 ≤ R.frames ∧ 8 + (5 + 11) + rm_X4_spanOfSteps.locals ≤ R.locals) (h : f_X4_spanOfSteps S a0 = some r) (hc : oO S a0 3 = some u) (hW : (rest.map fun v => v.category).sum ≤ 8) (hdg : decode cc pc = .ok (.invokevirtual index, 3)) (hf : cells + 0 ≤ R.cells ∧ slots + 0 ≤ R.slots)
    (kk : ∀ (H1 : Heap) (locs1 : List Loc), SP D cy S H1 → va_S A0 H0 H1 locs1 → W p l e R s m args below meth c H1 locs1 (cells + 0) (slots + 0) Q (F0 m (pc + 3) ls (.int r :: rest))) : W p l e R s m args below meth c H locs cells slots Q (F0 m pc ls (.ref a0 :: rest)) := by
  exact k_iVp (As := []) hF hsz (m_X4_spanOfSteps l D cy S a0 r h) (cwV_of (n := 0) hF.2.2.2.2 hk wd_303 wd_304 wd_72 wd_305 rfl rfl (by decide +kernel) hR) rfl hK hP hS (ci := 3) hc rfl hW rfl hdg hf kk
/-- VowBlocks$Row.mostTimes()I -/
def f_X4_mostTimes_L17 (S17_ : St) (y17_0 : Nat) (y17_1 : Int32) (y17_2 : Int32) : Nat → Int32 → Int32 →  Option (Int32)
  | 0, _, _ => none
  | fu + 1, y17_3, y17_4 =>
    (gI S17_ y17_0 3 1).bind fun x8 =>
    if x8 ≤ y17_4 then
      some y17_3
    else
      (gR S17_ y17_0 3 0).bind fun x11 =>
      (aI S17_ x11 y17_4).bind fun x13 =>
      (gR S17_ y17_0 3 0).bind fun x15 =>
      (aI S17_ x15 y17_2).bind fun x17 =>
      (
        if x13 = x17 then
          some (y17_3 + 1)
        else
          some y17_3
      : Option (Int32)).bind fun t19 =>
      f_X4_mostTimes_L17 S17_ y17_0 y17_1 y17_2 fu t19 (y17_4 + 1)
def f_X4_mostTimes_L4 (S4_ : St) (y4_0 : Nat) : Nat → Int32 → Int32 →  Option (Int32)
  | 0, _, _ => none
  | fu + 1, y4_1, y4_2 =>
    (gI S4_ y4_0 3 1).bind fun x3 =>
    if x3 ≤ y4_2 then
      some y4_1
    else
      (f_X4_mostTimes_L17 S4_ y4_0 y4_1 y4_2 FU 0 y4_2).bind fun z6 =>
      (
        if z6 ≤ y4_1 then
          some y4_1
        else
          some z6
      : Option (Int32)).bind fun t22 =>
      f_X4_mostTimes_L4 S4_ y4_0 fu t22 (y4_2 + 1)
def f_X4_mostTimes (S : St) (a0 : Nat) : Option (Int32) :=
  (f_X4_mostTimes_L4 S a0 FU 0 0).bind fun z1 =>
  some z1
abbrev rm_X4_mostTimes : Room := { frames := 0, cells := 0, slots := 0, locals := 0 }
set_option maxHeartbeats 4000000 in
set_option maxRecDepth 100000 in
theorem m_X4_mostTimes (l : Launch) (D : va_G) (cy : Nat → ClassId) (S : St) (a0 : Nat) (r : Int32) (h : f_X4_mostTimes S a0 = some r) : Met l yX4_mostTimes (wsA yX4_mostTimes cX4_mostTimes 5 (some .int)) rm_X4_mostTimes (va_Pc [.ref a0] (PS D cy S)) (va_Qi (fun r' (_ : Unit) => r' = r) (fun _ _ => True) noA) 0 0 noA := by
  refine Met.ofW (cc := cX4_mostTimes) (maxL := 5) (ret := (some .int)) (by decide) rfl ?_
  intro p e s m args below meth c s₁ B hml hv
  obtain ⟨rfl, hP, hK⟩ := hv
  have hx := B.exec
  have hb := B.bytes
  have hr := B.returns
  have hts9 := atoms_spec (ws := wsA yX4_mostTimes cX4_mostTimes 5 (some .int)) B.pre
  have hts : ∀ w ∈ ALLW, w.before _ s = true := fun w h => hts9 w (List.mem_cons_of_mem _ h)
  have hown : s.vm.findClass RX4 = some m.cls := findClass_of_methodNamed B.named
  have hlocks := B.notSynchronized
  have hS : va_S noA s.heap s.heap [] := va_S.rf
  have hl := lv_entry [.ref a0] (n := 5) (Nat.le_of_ble_eq_true rfl)
  rw [lg_entry_eq]
  generalize (lg_sl [.ref a0] ++ List.replicate (5 - (lg_sl [.ref a0]).length) Slot.unset).toArray = ls at hl ⊢
  have hl : lv_has ls 5 [(0, .ref a0)] := hl
  rw [f_X4_mostTimes] at h
  refine lv_iconst (v := 0) hx hb dX4_mostTimes_0 (by decide) ?_
  refine lv_istore_n (lv' := [(1, .int 0), (0, .ref a0)]) hx hb dX4_mostTimes_1 rfl hl (by decide) rfl (fun ls hl => ?_)
  refine lv_iconst (v := 0) hx hb dX4_mostTimes_2 (by decide) ?_
  refine lv_istore_n (lv' := [(2, .int 0), (1, .int 0), (0, .ref a0)]) hx hb dX4_mostTimes_3 rfl hl (by decide) rfl (fun ls hl => ?_)
  have L4 : ∀ (S4_ : St) (y4_0 : Nat) (fu : Nat) (y4_1 : Int32) (y4_2 : Int32) (res : Int32), f_X4_mostTimes_L4 S4_ y4_0 fu y4_1 y4_2 = some res → ∀ (H : Heap) (locs : List Loc) (ls : Array Slot), SP D cy S4_ H → va_S noA s.heap H locs → lv_has ls 5 [(0, .ref y4_0), (1, .int y4_1), (2, .int y4_2)] → (∀ (H : Heap) (locs : List Loc) (ls : Array Slot), SP D cy S4_ H → va_S noA s.heap H locs → lv_has ls 5 [(1, .int res)] → W p l e rm_X4_mostTimes s m ([.ref a0] : List Value).toArray below meth c H locs 0 0 (MQ below (va_Qi (fun r' (_ : Unit) => r' = r) (fun _ _ => True) noA) ([.ref a0] : List Value).toArray s 0 0 noA) (F0 m 64 ls [])) → W p l e rm_X4_mostTimes s m ([.ref a0] : List Value).toArray below meth c H locs 0 0 (MQ below (va_Qi (fun r' (_ : Unit) => r' = r) (fun _ _ => True) noA) ([.ref a0] : List Value).toArray s 0 0 noA) (F0 m 4 ls []) := by
    intro S4_ y4_0 fu
    induction fu with
    | zero =>
      intro y4_1 y4_2 res h
      rw [f_X4_mostTimes_L4] at h
      cases h
    | succ fu ih =>
      intro y4_1 y4_2 res h H locs ls hP hS hl hexit
      rw [f_X4_mostTimes_L4] at h
      refine lv_iload_n hx hb dX4_mostTimes_4 rfl (lv_at hl 2 rfl) ?_
      refine lv_aload_n hx hb dX4_mostTimes_5 rfl (lv_at hl 0 rfl) ?_
      replace h := bd h
      obtain ⟨x3, q4, h⟩ := h
      refine fg_3_1 hx hb hts hown hK hP wd_113 q4 dX4_mostTimes_6 ?_
      refine lv_icmp_ge (tgt := 64) hx hb dX4_mostTimes_9 (by decide) (fun c5 => ?_) (fun c5 => ?_)
      · replace h := ifp c5 h
        cases h
        exact hexit _ _ _ hP hS (lv_sub hl [1] rfl)
      · replace h := ifn c5 h
        refine lv_iconst (v := 0) hx hb dX4_mostTimes_12 (by decide) ?_
        refine lv_istore_n (lv' := [(3, .int 0), (0, .ref y4_0), (1, .int y4_1), (2, .int y4_2)]) hx hb dX4_mostTimes_13 rfl hl (by decide) rfl (fun ls hl => ?_)
        refine lv_iload_n hx hb dX4_mostTimes_14 rfl (lv_at hl 3 rfl) ?_
        refine lv_istore (lv' := [(4, .int y4_2), (3, .int 0), (0, .ref y4_0), (1, .int y4_1), (2, .int y4_2)]) hx hb dX4_mostTimes_15 hl (by decide) rfl (fun ls hl => ?_)
        have L17 : ∀ (S17_ : St) (y17_0 : Nat) (y17_1 : Int32) (y17_2 : Int32) (fu : Nat) (y17_3 : Int32) (y17_4 : Int32) (res : Int32), f_X4_mostTimes_L17 S17_ y17_0 y17_1 y17_2 fu y17_3 y17_4 = some res → ∀ (H : Heap) (locs : List Loc) (ls : Array Slot), SP D cy S17_ H → va_S noA s.heap H locs → lv_has ls 5 [(0, .ref y17_0), (1, .int y17_1), (2, .int y17_2), (3, .int y17_3), (4, .int y17_4)] → (∀ (H : Heap) (locs : List Loc) (ls : Array Slot), SP D cy S17_ H → va_S noA s.heap H locs → lv_has ls 5 [(0, .ref y17_0), (1, .int y17_1), (2, .int y17_2), (3, .int res)] → W p l e rm_X4_mostTimes s m ([.ref a0] : List Value).toArray below meth c H locs 0 0 (MQ below (va_Qi (fun r' (_ : Unit) => r' = r) (fun _ _ => True) noA) ([.ref a0] : List Value).toArray s 0 0 noA) (F0 m 51 ls [])) → W p l e rm_X4_mostTimes s m ([.ref a0] : List Value).toArray below meth c H locs 0 0 (MQ below (va_Qi (fun r' (_ : Unit) => r' = r) (fun _ _ => True) noA) ([.ref a0] : List Value).toArray s 0 0 noA) (F0 m 17 ls []) := by
          intro S17_ y17_0 y17_1 y17_2 fu
          induction fu with
          | zero =>
            intro y17_3 y17_4 res h
            rw [f_X4_mostTimes_L17] at h
            cases h
          | succ fu ih =>
            intro y17_3 y17_4 res h H locs ls hP hS hl hexit
            rw [f_X4_mostTimes_L17] at h
            refine lv_iload hx hb dX4_mostTimes_17 (lv_at hl 4 rfl) ?_
            refine lv_aload_n hx hb dX4_mostTimes_19 rfl (lv_at hl 0 rfl) ?_
            replace h := bd h
            obtain ⟨x8, q9, h⟩ := h
            refine fg_3_1 hx hb hts hown hK hP wd_113 q9 dX4_mostTimes_20 ?_
            refine lv_icmp_ge (tgt := 51) hx hb dX4_mostTimes_23 (by decide) (fun c10 => ?_) (fun c10 => ?_)
            · replace h := ifp c10 h
              cases h
              exact hexit _ _ _ hP hS (lv_sub hl [0, 1, 2, 3] rfl)
            · replace h := ifn c10 h
              refine lv_aload_n hx hb dX4_mostTimes_26 rfl (lv_at hl 0 rfl) ?_
              replace h := bd h
              obtain ⟨x11, q12, h⟩ := h
              refine fg_3_0 hx hb hts hown hK hP wd_112 q12 dX4_mostTimes_27 ?_
              refine lv_iload hx hb dX4_mostTimes_30 (lv_at hl 4 rfl) ?_
              replace h := bd h
              obtain ⟨x13, q14, h⟩ := h
              refine r_aI hx hb hK hP q14 dX4_mostTimes_32 ?_
              refine lv_aload_n hx hb dX4_mostTimes_33 rfl (lv_at hl 0 rfl) ?_
              replace h := bd h
              obtain ⟨x15, q16, h⟩ := h
              refine fg_3_0 hx hb hts hown hK hP wd_112 q16 dX4_mostTimes_34 ?_
              refine lv_iload_n hx hb dX4_mostTimes_37 rfl (lv_at hl 2 rfl) ?_
              replace h := bd h
              obtain ⟨x17, q18, h⟩ := h
              refine r_aI hx hb hK hP q18 dX4_mostTimes_38 ?_
              replace h := bd h
              obtain ⟨t19, ht, h⟩ := h
              have K19 : ∀ (H : Heap) (locs : List Loc) (ls : Array Slot), SP D cy S17_ H → va_S noA s.heap H locs → lv_has ls 5 [(0, .ref y17_0), (1, .int y17_1), (2, .int y17_2), (3, .int t19), (4, .int y17_4)] → W p l e rm_X4_mostTimes s m ([.ref a0] : List Value).toArray below meth c H locs 0 0 (MQ below (va_Qi (fun r' (_ : Unit) => r' = r) (fun _ _ => True) noA) ([.ref a0] : List Value).toArray s 0 0 noA) (F0 m 45 ls []) := by
                intro H locs ls hP hS hl
                refine lv_iinc (v := (y17_4 + 1)) (lv' := [(4, .int (y17_4 + 1)), (0, .ref y17_0), (1, .int y17_1), (2, .int y17_2), (3, .int t19)]) hx hb dX4_mostTimes_45 hl (k := 4) rfl rfl (by decide) rfl (fun ls hl => ?_)
                refine lv_goto (tgt := 17) hx hb dX4_mostTimes_48 (by decide) ?_
                exact ih t19 (y17_4 + 1) _ h _ _ _ hP hS (lv_sub hl [1, 2, 3, 4, 0] rfl) hexit
              replace h := ht
              refine lv_icmp_ne (tgt := 45) hx hb dX4_mostTimes_39 (by decide) (fun c20 => ?_) (fun c20 => ?_)
              · replace h := ifn c20 h
                cases h
                exact K19 _ _ _ hP hS (lv_sub hl [0, 1, 2, 3, 4] rfl)
              · replace h := ifp c20 h
                refine lv_iinc (v := (y17_3 + 1)) (lv' := [(3, .int (y17_3 + 1)), (0, .ref y17_0), (1, .int y17_1), (2, .int y17_2), (4, .int y17_4)]) hx hb dX4_mostTimes_42 hl (k := 3) rfl rfl (by decide) rfl (fun ls hl => ?_)
                cases h
                exact K19 _ _ _ hP hS (lv_sub hl [1, 2, 3, 0, 4] rfl)
        replace h := bd h
        obtain ⟨z6, q21, h⟩ := h
        refine L17 S4_ y4_0 y4_1 y4_2 FU 0 y4_2 z6 q21 _ _ _ hP hS (lv_sub hl [2, 3, 4, 1, 0] rfl) (fun H locs ls hP hS hl => ?_)
        refine lv_iload_n hx hb dX4_mostTimes_51 rfl (lv_at hl 3 rfl) ?_
        refine lv_iload_n hx hb dX4_mostTimes_52 rfl (lv_at hl 1 rfl) ?_
        replace h := bd h
        obtain ⟨t22, ht, h⟩ := h
        have K22 : ∀ (H : Heap) (locs : List Loc) (ls : Array Slot), SP D cy S4_ H → va_S noA s.heap H locs → lv_has ls 5 [(0, .ref y4_0), (1, .int t22), (2, .int y4_2)] → W p l e rm_X4_mostTimes s m ([.ref a0] : List Value).toArray below meth c H locs 0 0 (MQ below (va_Qi (fun r' (_ : Unit) => r' = r) (fun _ _ => True) noA) ([.ref a0] : List Value).toArray s 0 0 noA) (F0 m 58 ls []) := by
          intro H locs ls hP hS hl
          refine lv_iinc (v := (y4_2 + 1)) (lv' := [(2, .int (y4_2 + 1)), (0, .ref y4_0), (1, .int t22)]) hx hb dX4_mostTimes_58 hl (k := 2) rfl rfl (by decide) rfl (fun ls hl => ?_)
          refine lv_goto (tgt := 4) hx hb dX4_mostTimes_61 (by decide) ?_
          exact ih t22 (y4_2 + 1) _ h _ _ _ hP hS (lv_sub hl [1, 2, 0] rfl) hexit
        replace h := ht
        refine lv_icmp_le (tgt := 58) hx hb dX4_mostTimes_53 (by decide) (fun c23 => ?_) (fun c23 => ?_)
        · replace h := ifp c23 h
          cases h
          exact K22 _ _ _ hP hS (lv_sub hl [0, 1, 2] rfl)
        · replace h := ifn c23 h
          refine lv_iload_n hx hb dX4_mostTimes_56 rfl (lv_at hl 3 rfl) ?_
          refine lv_istore_n (lv' := [(1, .int z6), (0, .ref y4_0), (2, .int y4_2), (3, .int z6)]) hx hb dX4_mostTimes_57 rfl hl (by decide) rfl (fun ls hl => ?_)
          cases h
          exact K22 _ _ _ hP hS (lv_sub hl [1, 0, 2] rfl)
  replace h := bd h
  obtain ⟨z1, q24, h⟩ := h
  refine L4 S a0 FU 0 0 z1 q24 _ _ _ hP hS (lv_sub hl [2, 1, 0] rfl) (fun H locs ls hP hS hl => ?_)
  refine lv_iload_n hx hb dX4_mostTimes_64 rfl (lv_at hl 0 rfl) ?_
  cases h
  exact e_ip hx hb hlocks hr hS (Nat.le_of_ble_eq_true rfl) (Nat.le_of_ble_eq_true rfl) dX4_mostTimes_65
set_option maxRecDepth 100000 in
theorem c_X4_mostTimes {p : Program} {l : Launch} {e : Env} {R : Room} {s : State} {m : MethodId} {args : Array Value} {below : List Frame} {meth : Method} {c : Code} {H : Heap} {locs : List Loc} {cells slots : Nat} {Q : State → Prop} {cc : ByteArray} {pc index nL : Nat} {ls : Array Slot} {rest : List Value} {D : va_G} {cy : Nat → ClassId} {A0 : Nat → Prop} {S : St} {H0 : Heap} {own : String} {u : Unit} {a0 : Nat} {r : Int32}  (hF : CallFix p m c cc nL s args ALLW own) (hsz : ls.size = nL) (hK : va_K D vwCl (tyL cy) s) (hP : SP D cy S H) (hS : va_S A0 H0 H locs) (hk : Cond.methodLink own index yX4_mostTimes ∈ ALLW) (hR : rm_X4_mostTimes.frames + 1 ≤ R.frames ∧ 8 + (5 + 11) + rm_X4_mostTimes.locals ≤ R.locals) (h : f_X4_mostTimes S a0 = some r) (hc : oO S a0 3 = some u) (hW : (rest.map fun v => v.category).sum ≤ 8) (hdg : decode cc pc = .ok (.invokevirtual index, 3)) (hf : cells + 0 ≤ R.cells ∧ slots + 0 ≤ R.slots)
    (kk : ∀ (H1 : Heap) (locs1 : List Loc), SP D cy S H1 → va_S A0 H0 H1 locs1 → W p l e R s m args below meth c H1 locs1 (cells + 0) (slots + 0) Q (F0 m (pc + 3) ls (.int r :: rest))) : W p l e R s m args below meth c H locs cells slots Q (F0 m pc ls (.ref a0 :: rest)) := by
  exact k_iVp (As := []) hF hsz (m_X4_mostTimes l D cy S a0 r h) (cwV_of (n := 0) hF.2.2.2.2 hk wd_307 wd_308 wd_72 wd_309 rfl rfl (by decide +kernel) hR) rfl hK hP hS (ci := 3) hc rfl hW rfl hdg hf kk
/-- VowBlocks$Row.span()I -/
def f_X4_span_L8 (S8_ : St) (y8_0 : Nat) : Nat → Int32 → Int32 → Int32 →  Option (Int32 × Int32)
  | 0, _, _, _ => none
  | fu + 1, y8_1, y8_2, y8_3 =>
    (gI S8_ y8_0 3 1).bind fun x3 =>
    if x3 ≤ y8_3 then
      some (y8_1, y8_2)
    else
      (gR S8_ y8_0 3 0).bind fun x6 =>
      (aI S8_ x6 y8_3).bind fun x8 =>
      (
        if y8_1 ≤ x8 then
          some y8_1
        else
          (gR S8_ y8_0 3 0).bind fun x12 =>
          (aI S8_ x12 y8_3).bind fun x14 =>
          some x14
      : Option (Int32)).bind fun t10 =>
      (gR S8_ y8_0 3 0).bind fun x16 =>
      (aI S8_ x16 y8_3).bind fun x18 =>
      (
        if x18 ≤ y8_2 then
          some y8_2
        else
          (gR S8_ y8_0 3 0).bind fun x22 =>
          (aI S8_ x22 y8_3).bind fun x24 =>
          some x24
      : Option (Int32)).bind fun t20 =>
      f_X4_span_L8 S8_ y8_0 fu t10 t20 (y8_3 + 1)
def f_X4_span (S : St) (a0 : Nat) : Option (Int32) :=
  (f_X4_span_L8 S a0 FU 255 0 0).bind fun z1 =>
  some ((z1.2 - z1.1) + 1)
abbrev rm_X4_span : Room := { frames := 0, cells := 0, slots := 0, locals := 0 }
set_option maxHeartbeats 4000000 in
set_option maxRecDepth 100000 in
theorem m_X4_span (l : Launch) (D : va_G) (cy : Nat → ClassId) (S : St) (a0 : Nat) (r : Int32) (h : f_X4_span S a0 = some r) : Met l yX4_span (wsA yX4_span cX4_span 4 (some .int)) rm_X4_span (va_Pc [.ref a0] (PS D cy S)) (va_Qi (fun r' (_ : Unit) => r' = r) (fun _ _ => True) noA) 0 0 noA := by
  refine Met.ofW (cc := cX4_span) (maxL := 4) (ret := (some .int)) (by decide) rfl ?_
  intro p e s m args below meth c s₁ B hml hv
  obtain ⟨rfl, hP, hK⟩ := hv
  have hx := B.exec
  have hb := B.bytes
  have hr := B.returns
  have hts9 := atoms_spec (ws := wsA yX4_span cX4_span 4 (some .int)) B.pre
  have hts : ∀ w ∈ ALLW, w.before _ s = true := fun w h => hts9 w (List.mem_cons_of_mem _ h)
  have hown : s.vm.findClass RX4 = some m.cls := findClass_of_methodNamed B.named
  have hlocks := B.notSynchronized
  have hS : va_S noA s.heap s.heap [] := va_S.rf
  have hl := lv_entry [.ref a0] (n := 4) (Nat.le_of_ble_eq_true rfl)
  rw [lg_entry_eq]
  generalize (lg_sl [.ref a0] ++ List.replicate (4 - (lg_sl [.ref a0]).length) Slot.unset).toArray = ls at hl ⊢
  have hl : lv_has ls 4 [(0, .ref a0)] := hl
  rw [f_X4_span] at h
  refine lv_sipush (v := 255) hx hb dX4_span_0 (by decide) ?_
  refine lv_istore_n (lv' := [(1, .int 255), (0, .ref a0)]) hx hb dX4_span_3 rfl hl (by decide) rfl (fun ls hl => ?_)
  refine lv_iconst (v := 0) hx hb dX4_span_4 (by decide) ?_
  refine lv_istore_n (lv' := [(2, .int 0), (1, .int 255), (0, .ref a0)]) hx hb dX4_span_5 rfl hl (by decide) rfl (fun ls hl => ?_)
  refine lv_iconst (v := 0) hx hb dX4_span_6 (by decide) ?_
  refine lv_istore_n (lv' := [(3, .int 0), (2, .int 0), (1, .int 255), (0, .ref a0)]) hx hb dX4_span_7 rfl hl (by decide) rfl (fun ls hl => ?_)
  have L8 : ∀ (S8_ : St) (y8_0 : Nat) (fu : Nat) (y8_1 : Int32) (y8_2 : Int32) (y8_3 : Int32) (res : Int32 × Int32), f_X4_span_L8 S8_ y8_0 fu y8_1 y8_2 y8_3 = some res → ∀ (H : Heap) (locs : List Loc) (ls : Array Slot), SP D cy S8_ H → va_S noA s.heap H locs → lv_has ls 4 [(0, .ref y8_0), (1, .int y8_1), (2, .int y8_2), (3, .int y8_3)] → (∀ (H : Heap) (locs : List Loc) (ls : Array Slot), SP D cy S8_ H → va_S noA s.heap H locs → lv_has ls 4 [(1, .int res.1), (2, .int res.2)] → W p l e rm_X4_span s m ([.ref a0] : List Value).toArray below meth c H locs 0 0 (MQ below (va_Qi (fun r' (_ : Unit) => r' = r) (fun _ _ => True) noA) ([.ref a0] : List Value).toArray s 0 0 noA) (F0 m 56 ls [])) → W p l e rm_X4_span s m ([.ref a0] : List Value).toArray below meth c H locs 0 0 (MQ below (va_Qi (fun r' (_ : Unit) => r' = r) (fun _ _ => True) noA) ([.ref a0] : List Value).toArray s 0 0 noA) (F0 m 8 ls []) := by
    intro S8_ y8_0 fu
    induction fu with
    | zero =>
      intro y8_1 y8_2 y8_3 res h
      rw [f_X4_span_L8] at h
      cases h
    | succ fu ih =>
      intro y8_1 y8_2 y8_3 res h H locs ls hP hS hl hexit
      rw [f_X4_span_L8] at h
      refine lv_iload_n hx hb dX4_span_8 rfl (lv_at hl 3 rfl) ?_
      refine lv_aload_n hx hb dX4_span_9 rfl (lv_at hl 0 rfl) ?_
      replace h := bd h
      obtain ⟨x3, q4, h⟩ := h
      refine fg_3_1 hx hb hts hown hK hP wd_113 q4 dX4_span_10 ?_
      refine lv_icmp_ge (tgt := 56) hx hb dX4_span_13 (by decide) (fun c5 => ?_) (fun c5 => ?_)
      · replace h := ifp c5 h
        cases h
        exact hexit _ _ _ hP hS (lv_sub hl [1, 2] rfl)
      · replace h := ifn c5 h
        refine lv_aload_n hx hb dX4_span_16 rfl (lv_at hl 0 rfl) ?_
        replace h := bd h
        obtain ⟨x6, q7, h⟩ := h
        refine fg_3_0 hx hb hts hown hK hP wd_112 q7 dX4_span_17 ?_
        refine lv_iload_n hx hb dX4_span_20 rfl (lv_at hl 3 rfl) ?_
        replace h := bd h
        obtain ⟨x8, q9, h⟩ := h
        refine r_aI hx hb hK hP q9 dX4_span_21 ?_
        refine lv_iload_n hx hb dX4_span_22 rfl (lv_at hl 1 rfl) ?_
        replace h := bd h
        obtain ⟨t10, ht, h⟩ := h
        have K10 : ∀ (H : Heap) (locs : List Loc) (ls : Array Slot), SP D cy S8_ H → va_S noA s.heap H locs → lv_has ls 4 [(0, .ref y8_0), (1, .int t10), (2, .int y8_2), (3, .int y8_3)] → W p l e rm_X4_span s m ([.ref a0] : List Value).toArray below meth c H locs 0 0 (MQ below (va_Qi (fun r' (_ : Unit) => r' = r) (fun _ _ => True) noA) ([.ref a0] : List Value).toArray s 0 0 noA) (F0 m 33 ls []) := by
          intro H locs ls hP hS hl
          refine lv_aload_n hx hb dX4_span_33 rfl (lv_at hl 0 rfl) ?_
          replace h := bd h
          obtain ⟨x16, q17, h⟩ := h
          refine fg_3_0 hx hb hts hown hK hP wd_112 q17 dX4_span_34 ?_
          refine lv_iload_n hx hb dX4_span_37 rfl (lv_at hl 3 rfl) ?_
          replace h := bd h
          obtain ⟨x18, q19, h⟩ := h
          refine r_aI hx hb hK hP q19 dX4_span_38 ?_
          refine lv_iload_n hx hb dX4_span_39 rfl (lv_at hl 2 rfl) ?_
          replace h := bd h
          obtain ⟨t20, ht, h⟩ := h
          have K20 : ∀ (H : Heap) (locs : List Loc) (ls : Array Slot), SP D cy S8_ H → va_S noA s.heap H locs → lv_has ls 4 [(0, .ref y8_0), (1, .int t10), (2, .int t20), (3, .int y8_3)] → W p l e rm_X4_span s m ([.ref a0] : List Value).toArray below meth c H locs 0 0 (MQ below (va_Qi (fun r' (_ : Unit) => r' = r) (fun _ _ => True) noA) ([.ref a0] : List Value).toArray s 0 0 noA) (F0 m 50 ls []) := by
            intro H locs ls hP hS hl
            refine lv_iinc (v := (y8_3 + 1)) (lv' := [(3, .int (y8_3 + 1)), (0, .ref y8_0), (1, .int t10), (2, .int t20)]) hx hb dX4_span_50 hl (k := 3) rfl rfl (by decide) rfl (fun ls hl => ?_)
            refine lv_goto (tgt := 8) hx hb dX4_span_53 (by decide) ?_
            exact ih t10 t20 (y8_3 + 1) _ h _ _ _ hP hS (lv_sub hl [1, 2, 3, 0] rfl) hexit
          replace h := ht
          refine lv_icmp_le (tgt := 50) hx hb dX4_span_40 (by decide) (fun c21 => ?_) (fun c21 => ?_)
          · replace h := ifp c21 h
            cases h
            exact K20 _ _ _ hP hS (lv_sub hl [0, 1, 2, 3] rfl)
          · replace h := ifn c21 h
            refine lv_aload_n hx hb dX4_span_43 rfl (lv_at hl 0 rfl) ?_
            replace h := bd h
            obtain ⟨x22, q23, h⟩ := h
            refine fg_3_0 hx hb hts hown hK hP wd_112 q23 dX4_span_44 ?_
            refine lv_iload_n hx hb dX4_span_47 rfl (lv_at hl 3 rfl) ?_
            replace h := bd h
            obtain ⟨x24, q25, h⟩ := h
            refine r_aI hx hb hK hP q25 dX4_span_48 ?_
            refine lv_istore_n (lv' := [(2, .int x24), (0, .ref y8_0), (1, .int t10), (3, .int y8_3)]) hx hb dX4_span_49 rfl hl (by decide) rfl (fun ls hl => ?_)
            cases h
            exact K20 _ _ _ hP hS (lv_sub hl [1, 2, 0, 3] rfl)
        replace h := ht
        refine lv_icmp_ge (tgt := 33) hx hb dX4_span_23 (by decide) (fun c11 => ?_) (fun c11 => ?_)
        · replace h := ifp c11 h
          cases h
          exact K10 _ _ _ hP hS (lv_sub hl [0, 1, 2, 3] rfl)
        · replace h := ifn c11 h
          refine lv_aload_n hx hb dX4_span_26 rfl (lv_at hl 0 rfl) ?_
          replace h := bd h
          obtain ⟨x12, q13, h⟩ := h
          refine fg_3_0 hx hb hts hown hK hP wd_112 q13 dX4_span_27 ?_
          refine lv_iload_n hx hb dX4_span_30 rfl (lv_at hl 3 rfl) ?_
          replace h := bd h
          obtain ⟨x14, q15, h⟩ := h
          refine r_aI hx hb hK hP q15 dX4_span_31 ?_
          refine lv_istore_n (lv' := [(1, .int x14), (0, .ref y8_0), (2, .int y8_2), (3, .int y8_3)]) hx hb dX4_span_32 rfl hl (by decide) rfl (fun ls hl => ?_)
          cases h
          exact K10 _ _ _ hP hS (lv_sub hl [1, 0, 2, 3] rfl)
  replace h := bd h
  obtain ⟨z1, q26, h⟩ := h
  refine L8 S a0 FU 255 0 0 z1 q26 _ _ _ hP hS (lv_sub hl [3, 2, 1, 0] rfl) (fun H locs ls hP hS hl => ?_)
  refine lv_iload_n hx hb dX4_span_56 rfl (lv_at hl 1 rfl) ?_
  refine lv_iload_n hx hb dX4_span_57 rfl (lv_at hl 0 rfl) ?_
  refine lv_isub hx hb dX4_span_58 ?_
  refine lv_iconst (v := 1) hx hb dX4_span_59 (by decide) ?_
  refine lv_iadd hx hb dX4_span_60 ?_
  cases h
  exact e_ip hx hb hlocks hr hS (Nat.le_of_ble_eq_true rfl) (Nat.le_of_ble_eq_true rfl) dX4_span_61
set_option maxRecDepth 100000 in
theorem c_X4_span {p : Program} {l : Launch} {e : Env} {R : Room} {s : State} {m : MethodId} {args : Array Value} {below : List Frame} {meth : Method} {c : Code} {H : Heap} {locs : List Loc} {cells slots : Nat} {Q : State → Prop} {cc : ByteArray} {pc index nL : Nat} {ls : Array Slot} {rest : List Value} {D : va_G} {cy : Nat → ClassId} {A0 : Nat → Prop} {S : St} {H0 : Heap} {own : String} {u : Unit} {a0 : Nat} {r : Int32}  (hF : CallFix p m c cc nL s args ALLW own) (hsz : ls.size = nL) (hK : va_K D vwCl (tyL cy) s) (hP : SP D cy S H) (hS : va_S A0 H0 H locs) (hk : Cond.methodLink own index yX4_span ∈ ALLW) (hR : rm_X4_span.frames + 1 ≤ R.frames ∧ 8 + (4 + 11) + rm_X4_span.locals ≤ R.locals) (h : f_X4_span S a0 = some r) (hc : oO S a0 3 = some u) (hW : (rest.map fun v => v.category).sum ≤ 8) (hdg : decode cc pc = .ok (.invokevirtual index, 3)) (hf : cells + 0 ≤ R.cells ∧ slots + 0 ≤ R.slots)
    (kk : ∀ (H1 : Heap) (locs1 : List Loc), SP D cy S H1 → va_S A0 H0 H1 locs1 → W p l e R s m args below meth c H1 locs1 (cells + 0) (slots + 0) Q (F0 m (pc + 3) ls (.int r :: rest))) : W p l e R s m args below meth c H locs cells slots Q (F0 m pc ls (.ref a0 :: rest)) := by
  exact k_iVp (As := []) hF hsz (m_X4_span l D cy S a0 r h) (cwV_of (n := 0) hF.2.2.2.2 hk wd_311 wd_312 wd_72 wd_313 rfl rfl (by decide +kernel) hR) rfl hK hP hS (ci := 3) hc rfl hW rfl hdg hf kk
/-- VowBlocks$Row.has(I)Z -/
def f_X4_has (S : St) (a0 : Nat) (a1 : Int32) : Option (Int32) :=
  (
    if a1 < 0 then
      some 0
    else
      (gI S a0 3 1).bind fun x3 =>
      if x3 ≤ a1 then
        some 0
      else
        some 1
  : Option (Int32)).bind fun t1 =>
  (zz t1).bind fun _ =>
  some t1
abbrev rm_X4_has : Room := { frames := 0, cells := 0, slots := 0, locals := 0 }
set_option maxHeartbeats 4000000 in
set_option maxRecDepth 100000 in
theorem m_X4_has (l : Launch) (D : va_G) (cy : Nat → ClassId) (S : St) (a0 : Nat) (a1 : Int32) (r : Int32) (h : f_X4_has S a0 a1 = some r) : Met l yX4_has (wsA yX4_has cX4_has 2 (some .boolean)) rm_X4_has (va_Pc [.ref a0, .int a1] (PS D cy S)) (va_Qi (fun r' (_ : Unit) => r' = r) (fun _ _ => True) noA) 0 0 noA := by
  refine Met.ofW (cc := cX4_has) (maxL := 2) (ret := (some .boolean)) (by decide) rfl ?_
  intro p e s m args below meth c s₁ B hml hv
  obtain ⟨rfl, hP, hK⟩ := hv
  have hx := B.exec
  have hb := B.bytes
  have hr := B.returns
  have hts9 := atoms_spec (ws := wsA yX4_has cX4_has 2 (some .boolean)) B.pre
  have hts : ∀ w ∈ ALLW, w.before _ s = true := fun w h => hts9 w (List.mem_cons_of_mem _ h)
  have hown : s.vm.findClass RX4 = some m.cls := findClass_of_methodNamed B.named
  have hlocks := B.notSynchronized
  have hS : va_S noA s.heap s.heap [] := va_S.rf
  have hl := lv_entry [.ref a0, .int a1] (n := 2) (Nat.le_of_ble_eq_true rfl)
  rw [lg_entry_eq]
  generalize (lg_sl [.ref a0, .int a1] ++ List.replicate (2 - (lg_sl [.ref a0, .int a1]).length) Slot.unset).toArray = ls at hl ⊢
  have hl : lv_has ls 2 [(0, .ref a0), (1, .int a1)] := hl
  rw [f_X4_has] at h
  refine lv_iload_n hx hb dX4_has_0 rfl (lv_at hl 1 rfl) ?_
  replace h := bd h
  obtain ⟨t1, ht, h⟩ := h
  have K1 : ∀ (H : Heap) (locs : List Loc) (ls : Array Slot), SP D cy S H → va_S noA s.heap H locs → lv_has ls 2 [] → W p l e rm_X4_has s m ([.ref a0, .int a1] : List Value).toArray below meth c H locs 0 0 (MQ below (va_Qi (fun r' (_ : Unit) => r' = r) (fun _ _ => True) noA) ([.ref a0, .int a1] : List Value).toArray s 0 0 noA) (F0 m 17 ls [.int t1]) := by
    intro H locs ls hP hS hl
    replace h := bd h
    obtain ⟨_, q6, h⟩ := h
    cases h
    exact e_zp hx hb hlocks (zz_spec q6) hr hS (Nat.le_of_ble_eq_true rfl) (Nat.le_of_ble_eq_true rfl) dX4_has_17
  replace h := ht
  refine lv_if_lt (tgt := 16) hx hb dX4_has_1 (by decide) (fun c2 => ?_) (fun c2 => ?_)
  · replace h := ifp c2 h
    refine lv_iconst (v := 0) hx hb dX4_has_16 (by decide) ?_
    cases h
    exact K1 _ _ _ hP hS (lv_sub hl [] rfl)
  · replace h := ifn c2 h
    refine lv_iload_n hx hb dX4_has_4 rfl (lv_at hl 1 rfl) ?_
    refine lv_aload_n hx hb dX4_has_5 rfl (lv_at hl 0 rfl) ?_
    replace h := bd h
    obtain ⟨x3, q4, h⟩ := h
    refine fg_3_1 hx hb hts hown hK hP wd_113 q4 dX4_has_6 ?_
    refine lv_icmp_ge (tgt := 16) hx hb dX4_has_9 (by decide) (fun c5 => ?_) (fun c5 => ?_)
    · replace h := ifp c5 h
      refine lv_iconst (v := 0) hx hb dX4_has_16 (by decide) ?_
      cases h
      exact K1 _ _ _ hP hS (lv_sub hl [] rfl)
    · replace h := ifn c5 h
      refine lv_iconst (v := 1) hx hb dX4_has_12 (by decide) ?_
      refine lv_goto (tgt := 17) hx hb dX4_has_13 (by decide) ?_
      cases h
      exact K1 _ _ _ hP hS (lv_sub hl [] rfl)
set_option maxRecDepth 100000 in
theorem c_X4_has {p : Program} {l : Launch} {e : Env} {R : Room} {s : State} {m : MethodId} {args : Array Value} {below : List Frame} {meth : Method} {c : Code} {H : Heap} {locs : List Loc} {cells slots : Nat} {Q : State → Prop} {cc : ByteArray} {pc index nL : Nat} {ls : Array Slot} {rest : List Value} {D : va_G} {cy : Nat → ClassId} {A0 : Nat → Prop} {S : St} {H0 : Heap} {own : String} {u : Unit} {a0 : Nat} {a1 : Int32} {r : Int32}  (hF : CallFix p m c cc nL s args ALLW own) (hsz : ls.size = nL) (hK : va_K D vwCl (tyL cy) s) (hP : SP D cy S H) (hS : va_S A0 H0 H locs) (hk : Cond.methodLink own index yX4_has ∈ ALLW) (hR : rm_X4_has.frames + 1 ≤ R.frames ∧ 8 + (2 + 11) + rm_X4_has.locals ≤ R.locals) (h : f_X4_has S a0 a1 = some r) (hc : oO S a0 3 = some u) (hW : (rest.map fun v => v.category).sum ≤ 8) (hdg : decode cc pc = .ok (.invokevirtual index, 3)) (hf : cells + 0 ≤ R.cells ∧ slots + 0 ≤ R.slots)
    (kk : ∀ (H1 : Heap) (locs1 : List Loc), SP D cy S H1 → va_S A0 H0 H1 locs1 → W p l e R s m args below meth c H1 locs1 (cells + 0) (slots + 0) Q (F0 m (pc + 3) ls (.int r :: rest))) : W p l e R s m args below meth c H locs cells slots Q (F0 m pc ls (.int a1 :: .ref a0 :: rest)) := by
  exact k_iVp (As := [.int a1]) hF hsz (m_X4_has l D cy S a0 a1 r h) (cwV_of (n := 1) hF.2.2.2.2 hk wd_361 wd_362 wd_72 wd_363 rfl rfl (by decide +kernel) hR) rfl hK hP hS (ci := 3) hc rfl hW rfl hdg hf kk
/-- VowBlocks$Row.at(I)I -/
def f_X4_at (S : St) (a0 : Nat) (a1 : Int32) : Option (Int32) :=
  (oO S a0 3).bind fun _ =>
  (f_X4_has S a0 a1).bind fun x3 =>
  (
    if x3 = 0 then
      some (-1)
    else
      (gR S a0 3 0).bind fun x6 =>
      (aI S x6 a1).bind fun x8 =>
      some x8
  : Option (Int32)).bind fun t4 =>
  some t4
abbrev rm_X4_at : Room := { frames := 1, cells := 0, slots := 0, locals := 21 }
set_option maxHeartbeats 4000000 in
set_option maxRecDepth 100000 in
theorem m_X4_at (l : Launch) (D : va_G) (cy : Nat → ClassId) (S : St) (a0 : Nat) (a1 : Int32) (r : Int32) (h : f_X4_at S a0 a1 = some r) : Met l yX4_at (wsA yX4_at cX4_at 2 (some .int)) rm_X4_at (va_Pc [.ref a0, .int a1] (PS D cy S)) (va_Qi (fun r' (_ : Unit) => r' = r) (fun _ _ => True) noA) 0 0 noA := by
  refine Met.ofW (cc := cX4_at) (maxL := 2) (ret := (some .int)) (by decide) rfl ?_
  intro p e s m args below meth c s₁ B hml hv
  obtain ⟨rfl, hP, hK⟩ := hv
  have hx := B.exec
  have hb := B.bytes
  have hr := B.returns
  have hts9 := atoms_spec (ws := wsA yX4_at cX4_at 2 (some .int)) B.pre
  have hts : ∀ w ∈ ALLW, w.before _ s = true := fun w h => hts9 w (List.mem_cons_of_mem _ h)
  have hown : s.vm.findClass RX4 = some m.cls := findClass_of_methodNamed B.named
  have hlocks := B.notSynchronized
  have hS : va_S noA s.heap s.heap [] := va_S.rf
  have hl := lv_entry [.ref a0, .int a1] (n := 2) (Nat.le_of_ble_eq_true rfl)
  rw [lg_entry_eq]
  generalize (lg_sl [.ref a0, .int a1] ++ List.replicate (2 - (lg_sl [.ref a0, .int a1]).length) Slot.unset).toArray = ls at hl ⊢
  have hl : lv_has ls 2 [(0, .ref a0), (1, .int a1)] := hl
  rw [f_X4_at] at h
  refine lv_aload_n hx hb dX4_at_0 rfl (lv_at hl 0 rfl) ?_
  refine lv_iload_n hx hb dX4_at_1 rfl (lv_at hl 1 rfl) ?_
  replace h := bd h
  obtain ⟨_, q1, h⟩ := h
  replace h := bd h
  obtain ⟨x3, q2, h⟩ := h
  refine c_X4_has ⟨hx, hb, hml, hown, hts⟩ hl.1 hK hP hS wd_360 ⟨(Nat.le_of_ble_eq_true rfl), (Nat.le_of_ble_eq_true rfl)⟩ q2 q1 (Nat.le_of_ble_eq_true rfl) dX4_at_2 ⟨(Nat.le_of_ble_eq_true rfl), (Nat.le_of_ble_eq_true rfl)⟩ (fun H locs hP hS => ?_)
  replace h := bd h
  obtain ⟨t4, ht, h⟩ := h
  have K4 : ∀ (H : Heap) (locs : List Loc) (ls : Array Slot), SP D cy S H → va_S noA s.heap H locs → lv_has ls 2 [] → W p l e rm_X4_at s m ([.ref a0, .int a1] : List Value).toArray below meth c H locs 0 0 (MQ below (va_Qi (fun r' (_ : Unit) => r' = r) (fun _ _ => True) noA) ([.ref a0, .int a1] : List Value).toArray s 0 0 noA) (F0 m 18 ls [.int t4]) := by
    intro H locs ls hP hS hl
    cases h
    exact e_ip hx hb hlocks hr hS (Nat.le_of_ble_eq_true rfl) (Nat.le_of_ble_eq_true rfl) dX4_at_18
  replace h := ht
  refine lv_if_eq (tgt := 17) hx hb dX4_at_5 (by decide) (fun c5 => ?_) (fun c5 => ?_)
  · replace h := ifp c5 h
    refine lv_iconst (v := (-1)) hx hb dX4_at_17 (by decide) ?_
    cases h
    exact K4 _ _ _ hP hS (lv_sub hl [] rfl)
  · replace h := ifn c5 h
    refine lv_aload_n hx hb dX4_at_8 rfl (lv_at hl 0 rfl) ?_
    replace h := bd h
    obtain ⟨x6, q7, h⟩ := h
    refine fg_3_0 hx hb hts hown hK hP wd_112 q7 dX4_at_9 ?_
    refine lv_iload_n hx hb dX4_at_12 rfl (lv_at hl 1 rfl) ?_
    replace h := bd h
    obtain ⟨x8, q9, h⟩ := h
    refine r_aI hx hb hK hP q9 dX4_at_13 ?_
    refine lv_goto (tgt := 18) hx hb dX4_at_14 (by decide) ?_
    cases h
    exact K4 _ _ _ hP hS (lv_sub hl [] rfl)
set_option maxRecDepth 100000 in
theorem c_X4_at {p : Program} {l : Launch} {e : Env} {R : Room} {s : State} {m : MethodId} {args : Array Value} {below : List Frame} {meth : Method} {c : Code} {H : Heap} {locs : List Loc} {cells slots : Nat} {Q : State → Prop} {cc : ByteArray} {pc index nL : Nat} {ls : Array Slot} {rest : List Value} {D : va_G} {cy : Nat → ClassId} {A0 : Nat → Prop} {S : St} {H0 : Heap} {own : String} {u : Unit} {a0 : Nat} {a1 : Int32} {r : Int32}  (hF : CallFix p m c cc nL s args ALLW own) (hsz : ls.size = nL) (hK : va_K D vwCl (tyL cy) s) (hP : SP D cy S H) (hS : va_S A0 H0 H locs) (hk : Cond.methodLink own index yX4_at ∈ ALLW) (hR : rm_X4_at.frames + 1 ≤ R.frames ∧ 8 + (2 + 11) + rm_X4_at.locals ≤ R.locals) (h : f_X4_at S a0 a1 = some r) (hc : oO S a0 3 = some u) (hW : (rest.map fun v => v.category).sum ≤ 8) (hdg : decode cc pc = .ok (.invokevirtual index, 3)) (hf : cells + 0 ≤ R.cells ∧ slots + 0 ≤ R.slots)
    (kk : ∀ (H1 : Heap) (locs1 : List Loc), SP D cy S H1 → va_S A0 H0 H1 locs1 → W p l e R s m args below meth c H1 locs1 (cells + 0) (slots + 0) Q (F0 m (pc + 3) ls (.int r :: rest))) : W p l e R s m args below meth c H locs cells slots Q (F0 m pc ls (.int a1 :: .ref a0 :: rest)) := by
  exact k_iVp (As := [.int a1]) hF hsz (m_X4_at l D cy S a0 a1 r h) (cwV_of (n := 1) hF.2.2.2.2 hk wd_357 wd_358 wd_72 wd_359 rfl rfl (by decide +kernel) hR) rfl hK hP hS (ci := 3) hc rfl hW rfl hdg hf kk
/-- VowBlocks$Row.replace(II)V -/
def f_X4_replace (S : St) (a0 : Nat) (a1 : Int32) (a2 : Int32) : Option (St) :=
  (oO S a0 3).bind fun _ =>
  (f_X4_has S a0 a1).bind fun x3 =>
  (
    if x3 = 0 then
      some S
    else
      (gR S a0 3 0).bind fun x6 =>
      (sI S x6 a1 a2).bind fun Z8 =>
      some Z8
  : Option (St)).bind fun t4 =>
  some t4
abbrev rm_X4_replace : Room := { frames := 1, cells := 0, slots := 0, locals := 21 }
set_option maxHeartbeats 4000000 in
set_option maxRecDepth 100000 in
theorem m_X4_replace (l : Launch) (D : va_G) (cy : Nat → ClassId) (sz : Nat) (S : St) (a0 : Nat) (a1 : Int32) (a2 : Int32) (S1 : St) (h : f_X4_replace S a0 a1 a2 = some S1) : Met l yX4_replace (wsA yX4_replace cX4_replace 3 none) rm_X4_replace (va_Pc [.ref a0, .int a1, .int a2] (PN D cy S sz)) (va_Qv (fun _ : Unit => True) (fun _ t => PoS D cy S1 (dm S sz) t) (dm S sz)) 0 0 (dm S sz) := by
  refine Met.ofW (cc := cX4_replace) (maxL := 3) (ret := none) (by decide) rfl ?_
  intro p e s m args below meth c s₁ B hml hv
  obtain ⟨rfl, hsz, hP, hK⟩ := hv
  have hx := B.exec
  have hb := B.bytes
  have hr := B.returns
  have hts9 := atoms_spec (ws := wsA yX4_replace cX4_replace 3 none) B.pre
  have hts : ∀ w ∈ ALLW, w.before _ s = true := fun w h => hts9 w (List.mem_cons_of_mem _ h)
  have hown : s.vm.findClass RX4 = some m.cls := findClass_of_methodNamed B.named
  have hlocks := B.notSynchronized
  subst hsz
  have hD : ∀ a, S a ≠ none → dm S s.heap.size a := fun a h => Or.inl h
  have hA : ∀ q : Nat, s.heap.size ≤ q → dm S s.heap.size q := fun q h => Or.inr h
  have hS : va_S (dm S s.heap.size) s.heap s.heap [] := va_S.rf
  have hl := lv_entry [.ref a0, .int a1, .int a2] (n := 3) (Nat.le_of_ble_eq_true rfl)
  rw [lg_entry_eq]
  generalize (lg_sl [.ref a0, .int a1, .int a2] ++ List.replicate (3 - (lg_sl [.ref a0, .int a1, .int a2]).length) Slot.unset).toArray = ls at hl ⊢
  have hl : lv_has ls 3 [(0, .ref a0), (1, .int a1), (2, .int a2)] := hl
  rw [f_X4_replace] at h
  refine lv_aload_n hx hb dX4_replace_0 rfl (lv_at hl 0 rfl) ?_
  refine lv_iload_n hx hb dX4_replace_1 rfl (lv_at hl 1 rfl) ?_
  replace h := bd h
  obtain ⟨_, q1, h⟩ := h
  replace h := bd h
  obtain ⟨x3, q2, h⟩ := h
  refine c_X4_has ⟨hx, hb, hml, hown, hts⟩ hl.1 hK hP hS wd_360 ⟨(Nat.le_of_ble_eq_true rfl), (Nat.le_of_ble_eq_true rfl)⟩ q2 q1 (Nat.le_of_ble_eq_true rfl) dX4_replace_2 ⟨(Nat.le_of_ble_eq_true rfl), (Nat.le_of_ble_eq_true rfl)⟩ (fun H locs hP hS => ?_)
  replace h := bd h
  obtain ⟨t4, ht, h⟩ := h
  have K4 : ∀ (H : Heap) (locs : List Loc) (ls : Array Slot), SP D cy t4 H → (∀ a, t4 a ≠ none → (dm S s.heap.size) a) → va_S (dm S s.heap.size) s.heap H locs → lv_has ls 3 [] → W p l e rm_X4_replace s m ([.ref a0, .int a1, .int a2] : List Value).toArray below meth c H locs 0 0 (MQ below (va_Qv (fun _ : Unit => True) (fun _ t => PoS D cy S1 (dm S s.heap.size) t) (dm S s.heap.size)) ([.ref a0, .int a1, .int a2] : List Value).toArray s 0 0 (dm S s.heap.size)) (F0 m 15 ls []) := by
    intro H locs ls hP hD hS hl
    cases h
    exact e_vm hx hb hlocks hr hP hD hS (Nat.le_of_ble_eq_true rfl) (Nat.le_of_ble_eq_true rfl) dX4_replace_15
  replace h := ht
  refine lv_if_eq (tgt := 15) hx hb dX4_replace_5 (by decide) (fun c5 => ?_) (fun c5 => ?_)
  · replace h := ifp c5 h
    cases h
    exact K4 _ _ _ hP hD hS (lv_sub hl [] rfl)
  · replace h := ifn c5 h
    refine lv_aload_n hx hb dX4_replace_8 rfl (lv_at hl 0 rfl) ?_
    replace h := bd h
    obtain ⟨x6, q7, h⟩ := h
    refine fg_3_0 hx hb hts hown hK hP wd_112 q7 dX4_replace_9 ?_
    refine lv_iload_n hx hb dX4_replace_12 rfl (lv_at hl 1 rfl) ?_
    refine lv_iload_n hx hb dX4_replace_13 rfl (lv_at hl 2 rfl) ?_
    replace h := bd h
    obtain ⟨Z8, q9, h⟩ := h
    refine r_sI hx hb hK hP hD hS q9 dX4_replace_14 (fun H locs hz9 hP hD hS => ?_)
    cases h
    exact K4 _ _ _ hP hD hS (lv_sub hl [] rfl)
set_option maxRecDepth 100000 in
theorem c_X4_replace {p : Program} {l : Launch} {e : Env} {R : Room} {s : State} {m : MethodId} {args : Array Value} {below : List Frame} {meth : Method} {c : Code} {H : Heap} {locs : List Loc} {cells slots : Nat} {Q : State → Prop} {cc : ByteArray} {pc index nL : Nat} {ls : Array Slot} {rest : List Value} {D : va_G} {cy : Nat → ClassId} {A0 : Nat → Prop} {S : St} {H0 : Heap} {own : String} {u : Unit} {a0 : Nat} {a1 : Int32} {a2 : Int32} {S1 : St}  (hF : CallFix p m c cc nL s args ALLW own) (hsz : ls.size = nL) (hK : va_K D vwCl (tyL cy) s) (hP : SP D cy S H) (hD : ∀ a, S a ≠ none → A0 a) (hA : ∀ q, H0.size ≤ q → A0 q) (hS : va_S A0 H0 H locs) (hk : Cond.methodLink own index yX4_replace ∈ ALLW) (hR : rm_X4_replace.frames + 1 ≤ R.frames ∧ 8 + (3 + 11) + rm_X4_replace.locals ≤ R.locals) (h : f_X4_replace S a0 a1 a2 = some S1) (hc : oO S a0 3 = some u) (hW : (rest.map fun v => v.category).sum ≤ 8) (hdg : decode cc pc = .ok (.invokevirtual index, 3)) (hf : cells + 0 ≤ R.cells ∧ slots + 0 ≤ R.slots)
    (kk : ∀ (H1 : Heap) (locs1 : List Loc), SP D cy S1 H1 → (∀ a, S1 a ≠ none → A0 a) → va_S A0 H0 H1 locs1 → W p l e R s m args below meth c H1 locs1 (cells + 0) (slots + 0) Q (F0 m (pc + 3) ls (rest))) : W p l e R s m args below meth c H locs cells slots Q (F0 m pc ls (.int a2 :: .int a1 :: .ref a0 :: rest)) := by
  exact k_vVm (As := [.int a1, .int a2]) hF hsz (m_X4_replace l D cy H.size S a0 a1 a2 S1 h) (cwV_of (n := 2) hF.2.2.2.2 hk wd_438 wd_439 wd_72 wd_440 rfl rfl (by decide +kernel) hR) rfl hK hP hD hA hS (ci := 3) hc rfl hW rfl hdg hf kk
/-- VowBlocks$Row.remove(I)V -/
def f_X4_remove_L10 (y10_0 : Nat) : Nat → St → Int32 →  Option (St)
  | 0, _, _ => none
  | fu + 1, S10_, y10_2 =>
    (gI S10_ y10_0 3 1).bind fun x8 =>
    if x8 ≤ (y10_2 + 1) then
      some S10_
    else
      (gR S10_ y10_0 3 0).bind fun x11 =>
      (gR S10_ y10_0 3 0).bind fun x13 =>
      (aI S10_ x13 (y10_2 + 1)).bind fun x15 =>
      (sI S10_ x11 y10_2 x15).bind fun Z17 =>
      f_X4_remove_L10 y10_0 fu Z17 (y10_2 + 1)
def f_X4_remove (S : St) (a0 : Nat) (a1 : Int32) : Option (St) :=
  (oO S a0 3).bind fun _ =>
  (f_X4_has S a0 a1).bind fun x3 =>
  (
    if x3 = 0 then
      some S
    else
      (f_X4_remove_L10 a0 FU S a1).bind fun z6 =>
      (gI z6 a0 3 1).bind fun x20 =>
      (pI z6 a0 3 1 (x20 - 1)).bind fun Z22 =>
      some Z22
  : Option (St)).bind fun t4 =>
  some t4
abbrev rm_X4_remove : Room := { frames := 1, cells := 0, slots := 0, locals := 21 }
set_option maxHeartbeats 4000000 in
set_option maxRecDepth 100000 in
theorem m_X4_remove (l : Launch) (D : va_G) (cy : Nat → ClassId) (sz : Nat) (S : St) (a0 : Nat) (a1 : Int32) (S1 : St) (h : f_X4_remove S a0 a1 = some S1) : Met l yX4_remove (wsA yX4_remove cX4_remove 3 none) rm_X4_remove (va_Pc [.ref a0, .int a1] (PN D cy S sz)) (va_Qv (fun _ : Unit => True) (fun _ t => PoS D cy S1 (dm S sz) t) (dm S sz)) 0 0 (dm S sz) := by
  refine Met.ofW (cc := cX4_remove) (maxL := 3) (ret := none) (by decide) rfl ?_
  intro p e s m args below meth c s₁ B hml hv
  obtain ⟨rfl, hsz, hP, hK⟩ := hv
  have hx := B.exec
  have hb := B.bytes
  have hr := B.returns
  have hts9 := atoms_spec (ws := wsA yX4_remove cX4_remove 3 none) B.pre
  have hts : ∀ w ∈ ALLW, w.before _ s = true := fun w h => hts9 w (List.mem_cons_of_mem _ h)
  have hown : s.vm.findClass RX4 = some m.cls := findClass_of_methodNamed B.named
  have hlocks := B.notSynchronized
  subst hsz
  have hD : ∀ a, S a ≠ none → dm S s.heap.size a := fun a h => Or.inl h
  have hA : ∀ q : Nat, s.heap.size ≤ q → dm S s.heap.size q := fun q h => Or.inr h
  have hS : va_S (dm S s.heap.size) s.heap s.heap [] := va_S.rf
  have hl := lv_entry [.ref a0, .int a1] (n := 3) (Nat.le_of_ble_eq_true rfl)
  rw [lg_entry_eq]
  generalize (lg_sl [.ref a0, .int a1] ++ List.replicate (3 - (lg_sl [.ref a0, .int a1]).length) Slot.unset).toArray = ls at hl ⊢
  have hl : lv_has ls 3 [(0, .ref a0), (1, .int a1)] := hl
  rw [f_X4_remove] at h
  refine lv_aload_n hx hb dX4_remove_0 rfl (lv_at hl 0 rfl) ?_
  refine lv_iload_n hx hb dX4_remove_1 rfl (lv_at hl 1 rfl) ?_
  replace h := bd h
  obtain ⟨_, q1, h⟩ := h
  replace h := bd h
  obtain ⟨x3, q2, h⟩ := h
  refine c_X4_has ⟨hx, hb, hml, hown, hts⟩ hl.1 hK hP hS wd_360 ⟨(Nat.le_of_ble_eq_true rfl), (Nat.le_of_ble_eq_true rfl)⟩ q2 q1 (Nat.le_of_ble_eq_true rfl) dX4_remove_2 ⟨(Nat.le_of_ble_eq_true rfl), (Nat.le_of_ble_eq_true rfl)⟩ (fun H locs hP hS => ?_)
  replace h := bd h
  obtain ⟨t4, ht, h⟩ := h
  have K4 : ∀ (H : Heap) (locs : List Loc) (ls : Array Slot), SP D cy t4 H → (∀ a, t4 a ≠ none → (dm S s.heap.size) a) → va_S (dm S s.heap.size) s.heap H locs → lv_has ls 3 [] → W p l e rm_X4_remove s m ([.ref a0, .int a1] : List Value).toArray below meth c H locs 0 0 (MQ below (va_Qv (fun _ : Unit => True) (fun _ t => PoS D cy S1 (dm S s.heap.size) t) (dm S s.heap.size)) ([.ref a0, .int a1] : List Value).toArray s 0 0 (dm S s.heap.size)) (F0 m 50 ls []) := by
    intro H locs ls hP hD hS hl
    cases h
    exact e_vm hx hb hlocks hr hP hD hS (Nat.le_of_ble_eq_true rfl) (Nat.le_of_ble_eq_true rfl) dX4_remove_50
  replace h := ht
  refine lv_if_eq (tgt := 50) hx hb dX4_remove_5 (by decide) (fun c5 => ?_) (fun c5 => ?_)
  · replace h := ifp c5 h
    cases h
    exact K4 _ _ _ hP hD hS (lv_sub hl [] rfl)
  · replace h := ifn c5 h
    refine lv_iload_n hx hb dX4_remove_8 rfl (lv_at hl 1 rfl) ?_
    refine lv_istore_n (lv' := [(2, .int a1), (0, .ref a0), (1, .int a1)]) hx hb dX4_remove_9 rfl hl (by decide) rfl (fun ls hl => ?_)
    have L10 : ∀ (y10_0 : Nat) (fu : Nat) (S10_ : St) (y10_2 : Int32) (res : St), f_X4_remove_L10 y10_0 fu S10_ y10_2 = some res → ∀ (H : Heap) (locs : List Loc) (ls : Array Slot), SP D cy S10_ H → (∀ a, S10_ a ≠ none → (dm S s.heap.size) a) → va_S (dm S s.heap.size) s.heap H locs → lv_has ls 3 [(0, .ref y10_0), (2, .int y10_2)] → (∀ (H : Heap) (locs : List Loc) (ls : Array Slot), SP D cy res H → (∀ a, res a ≠ none → (dm S s.heap.size) a) → va_S (dm S s.heap.size) s.heap H locs → lv_has ls 3 [(0, .ref y10_0)] → W p l e rm_X4_remove s m ([.ref a0, .int a1] : List Value).toArray below meth c H locs 0 0 (MQ below (va_Qv (fun _ : Unit => True) (fun _ t => PoS D cy S1 (dm S s.heap.size) t) (dm S s.heap.size)) ([.ref a0, .int a1] : List Value).toArray s 0 0 (dm S s.heap.size)) (F0 m 40 ls [])) → W p l e rm_X4_remove s m ([.ref a0, .int a1] : List Value).toArray below meth c H locs 0 0 (MQ below (va_Qv (fun _ : Unit => True) (fun _ t => PoS D cy S1 (dm S s.heap.size) t) (dm S s.heap.size)) ([.ref a0, .int a1] : List Value).toArray s 0 0 (dm S s.heap.size)) (F0 m 10 ls []) := by
      intro y10_0 fu
      induction fu with
      | zero =>
        intro S10_ y10_2 res h
        rw [f_X4_remove_L10] at h
        cases h
      | succ fu ih =>
        intro S10_ y10_2 res h H locs ls hP hD hS hl hexit
        rw [f_X4_remove_L10] at h
        refine lv_iload_n hx hb dX4_remove_10 rfl (lv_at hl 1 rfl) ?_
        refine lv_iconst (v := 1) hx hb dX4_remove_11 (by decide) ?_
        refine lv_iadd hx hb dX4_remove_12 ?_
        refine lv_aload_n hx hb dX4_remove_13 rfl (lv_at hl 0 rfl) ?_
        replace h := bd h
        obtain ⟨x8, q9, h⟩ := h
        refine fg_3_1 hx hb hts hown hK hP wd_113 q9 dX4_remove_14 ?_
        refine lv_icmp_ge (tgt := 40) hx hb dX4_remove_17 (by decide) (fun c10 => ?_) (fun c10 => ?_)
        · replace h := ifp c10 h
          cases h
          exact hexit _ _ _ hP hD hS (lv_sub hl [0] rfl)
        · replace h := ifn c10 h
          refine lv_aload_n hx hb dX4_remove_20 rfl (lv_at hl 0 rfl) ?_
          replace h := bd h
          obtain ⟨x11, q12, h⟩ := h
          refine fg_3_0 hx hb hts hown hK hP wd_112 q12 dX4_remove_21 ?_
          refine lv_iload_n hx hb dX4_remove_24 rfl (lv_at hl 1 rfl) ?_
          refine lv_aload_n hx hb dX4_remove_25 rfl (lv_at hl 0 rfl) ?_
          replace h := bd h
          obtain ⟨x13, q14, h⟩ := h
          refine fg_3_0 hx hb hts hown hK hP wd_112 q14 dX4_remove_26 ?_
          refine lv_iload_n hx hb dX4_remove_29 rfl (lv_at hl 1 rfl) ?_
          refine lv_iconst (v := 1) hx hb dX4_remove_30 (by decide) ?_
          refine lv_iadd hx hb dX4_remove_31 ?_
          replace h := bd h
          obtain ⟨x15, q16, h⟩ := h
          refine r_aI hx hb hK hP q16 dX4_remove_32 ?_
          replace h := bd h
          obtain ⟨Z17, q18, h⟩ := h
          refine r_sI hx hb hK hP hD hS q18 dX4_remove_33 (fun H locs hz9 hP hD hS => ?_)
          refine lv_iinc (v := (y10_2 + 1)) (lv' := [(2, .int (y10_2 + 1)), (0, .ref y10_0)]) hx hb dX4_remove_34 hl (k := 1) rfl rfl (by decide) rfl (fun ls hl => ?_)
          refine lv_goto (tgt := 10) hx hb dX4_remove_37 (by decide) ?_
          exact ih Z17 (y10_2 + 1) _ h _ _ _ hP hD hS (lv_sub hl [1, 0] rfl) hexit
    replace h := bd h
    obtain ⟨z6, q19, h⟩ := h
    refine L10 a0 FU S a1 z6 q19 _ _ _ hP hD hS (lv_sub hl [1, 0] rfl) (fun H locs ls hP hD hS hl => ?_)
    refine lv_aload_n hx hb dX4_remove_40 rfl (lv_at hl 0 rfl) ?_
    refine lv_dup hx hb dX4_remove_41 rfl ?_
    replace h := bd h
    obtain ⟨x20, q21, h⟩ := h
    refine fg_3_1 hx hb hts hown hK hP wd_113 q21 dX4_remove_42 ?_
    refine lv_iconst (v := 1) hx hb dX4_remove_45 (by decide) ?_
    refine lv_isub hx hb dX4_remove_46 ?_
    replace h := bd h
    obtain ⟨Z22, q23, h⟩ := h
    refine fp_3_1 hx hb hts hown hK hP hD hS wd_113 q23 dX4_remove_47 (fun H locs hz9 hP hD hS => ?_)
    cases h
    exact K4 _ _ _ hP hD hS (lv_sub hl [] rfl)
set_option maxRecDepth 100000 in
theorem c_X4_remove {p : Program} {l : Launch} {e : Env} {R : Room} {s : State} {m : MethodId} {args : Array Value} {below : List Frame} {meth : Method} {c : Code} {H : Heap} {locs : List Loc} {cells slots : Nat} {Q : State → Prop} {cc : ByteArray} {pc index nL : Nat} {ls : Array Slot} {rest : List Value} {D : va_G} {cy : Nat → ClassId} {A0 : Nat → Prop} {S : St} {H0 : Heap} {own : String} {u : Unit} {a0 : Nat} {a1 : Int32} {S1 : St}  (hF : CallFix p m c cc nL s args ALLW own) (hsz : ls.size = nL) (hK : va_K D vwCl (tyL cy) s) (hP : SP D cy S H) (hD : ∀ a, S a ≠ none → A0 a) (hA : ∀ q, H0.size ≤ q → A0 q) (hS : va_S A0 H0 H locs) (hk : Cond.methodLink own index yX4_remove ∈ ALLW) (hR : rm_X4_remove.frames + 1 ≤ R.frames ∧ 8 + (3 + 11) + rm_X4_remove.locals ≤ R.locals) (h : f_X4_remove S a0 a1 = some S1) (hc : oO S a0 3 = some u) (hW : (rest.map fun v => v.category).sum ≤ 8) (hdg : decode cc pc = .ok (.invokevirtual index, 3)) (hf : cells + 0 ≤ R.cells ∧ slots + 0 ≤ R.slots)
    (kk : ∀ (H1 : Heap) (locs1 : List Loc), SP D cy S1 H1 → (∀ a, S1 a ≠ none → A0 a) → va_S A0 H0 H1 locs1 → W p l e R s m args below meth c H1 locs1 (cells + 0) (slots + 0) Q (F0 m (pc + 3) ls (rest))) : W p l e R s m args below meth c H locs cells slots Q (F0 m pc ls (.int a1 :: .ref a0 :: rest)) := by
  exact k_vVm (As := [.int a1]) hF hsz (m_X4_remove l D cy H.size S a0 a1 S1 h) (cwV_of (n := 1) hF.2.2.2.2 hk wd_682 wd_683 wd_72 wd_684 rfl rfl (by decide +kernel) hR) rfl hK hP hD hA hS (ci := 3) hc rfl hW rfl hdg hf kk
/-- VowBlocks$Row.reverse()V -/
def f_X4_reverse_L2 (y2_0 : Nat) : Nat → St → Int32 →  Option (St)
  | 0, _, _ => none
  | fu + 1, S2_, y2_1 =>
    (gI S2_ y2_0 3 1).bind fun x3 =>
    if ((x3 - 1) - y2_1) ≤ y2_1 then
      some S2_
    else
      (gR S2_ y2_0 3 0).bind fun x6 =>
      (aI S2_ x6 y2_1).bind fun x8 =>
      (gR S2_ y2_0 3 0).bind fun x10 =>
      (gR S2_ y2_0 3 0).bind fun x12 =>
      (gI S2_ y2_0 3 1).bind fun x14 =>
      (aI S2_ x12 ((x14 - 1) - y2_1)).bind fun x16 =>
      (sI S2_ x10 y2_1 x16).bind fun Z18 =>
      (gR Z18 y2_0 3 0).bind fun x20 =>
      (gI Z18 y2_0 3 1).bind fun x22 =>
      (sI Z18 x20 ((x22 - 1) - y2_1) x8).bind fun Z24 =>
      f_X4_reverse_L2 y2_0 fu Z24 (y2_1 + 1)
def f_X4_reverse (S : St) (a0 : Nat) : Option (St) :=
  (f_X4_reverse_L2 a0 FU S 0).bind fun z1 =>
  some z1
abbrev rm_X4_reverse : Room := { frames := 0, cells := 0, slots := 0, locals := 0 }
set_option maxHeartbeats 4000000 in
set_option maxRecDepth 100000 in
theorem m_X4_reverse (l : Launch) (D : va_G) (cy : Nat → ClassId) (sz : Nat) (S : St) (a0 : Nat) (S1 : St) (h : f_X4_reverse S a0 = some S1) : Met l yX4_reverse (wsA yX4_reverse cX4_reverse 3 none) rm_X4_reverse (va_Pc [.ref a0] (PN D cy S sz)) (va_Qv (fun _ : Unit => True) (fun _ t => PoS D cy S1 (dm S sz) t) (dm S sz)) 0 0 (dm S sz) := by
  refine Met.ofW (cc := cX4_reverse) (maxL := 3) (ret := none) (by decide) rfl ?_
  intro p e s m args below meth c s₁ B hml hv
  obtain ⟨rfl, hsz, hP, hK⟩ := hv
  have hx := B.exec
  have hb := B.bytes
  have hr := B.returns
  have hts9 := atoms_spec (ws := wsA yX4_reverse cX4_reverse 3 none) B.pre
  have hts : ∀ w ∈ ALLW, w.before _ s = true := fun w h => hts9 w (List.mem_cons_of_mem _ h)
  have hown : s.vm.findClass RX4 = some m.cls := findClass_of_methodNamed B.named
  have hlocks := B.notSynchronized
  subst hsz
  have hD : ∀ a, S a ≠ none → dm S s.heap.size a := fun a h => Or.inl h
  have hA : ∀ q : Nat, s.heap.size ≤ q → dm S s.heap.size q := fun q h => Or.inr h
  have hS : va_S (dm S s.heap.size) s.heap s.heap [] := va_S.rf
  have hl := lv_entry [.ref a0] (n := 3) (Nat.le_of_ble_eq_true rfl)
  rw [lg_entry_eq]
  generalize (lg_sl [.ref a0] ++ List.replicate (3 - (lg_sl [.ref a0]).length) Slot.unset).toArray = ls at hl ⊢
  have hl : lv_has ls 3 [(0, .ref a0)] := hl
  rw [f_X4_reverse] at h
  refine lv_iconst (v := 0) hx hb dX4_reverse_0 (by decide) ?_
  refine lv_istore_n (lv' := [(1, .int 0), (0, .ref a0)]) hx hb dX4_reverse_1 rfl hl (by decide) rfl (fun ls hl => ?_)
  have L2 : ∀ (y2_0 : Nat) (fu : Nat) (S2_ : St) (y2_1 : Int32) (res : St), f_X4_reverse_L2 y2_0 fu S2_ y2_1 = some res → ∀ (H : Heap) (locs : List Loc) (ls : Array Slot), SP D cy S2_ H → (∀ a, S2_ a ≠ none → (dm S s.heap.size) a) → va_S (dm S s.heap.size) s.heap H locs → lv_has ls 3 [(0, .ref y2_0), (1, .int y2_1)] → (∀ (H : Heap) (locs : List Loc) (ls : Array Slot), SP D cy res H → (∀ a, res a ≠ none → (dm S s.heap.size) a) → va_S (dm S s.heap.size) s.heap H locs → lv_has ls 3 [] → W p l e rm_X4_reverse s m ([.ref a0] : List Value).toArray below meth c H locs 0 0 (MQ below (va_Qv (fun _ : Unit => True) (fun _ t => PoS D cy S1 (dm S s.heap.size) t) (dm S s.heap.size)) ([.ref a0] : List Value).toArray s 0 0 (dm S s.heap.size)) (F0 m 60 ls [])) → W p l e rm_X4_reverse s m ([.ref a0] : List Value).toArray below meth c H locs 0 0 (MQ below (va_Qv (fun _ : Unit => True) (fun _ t => PoS D cy S1 (dm S s.heap.size) t) (dm S s.heap.size)) ([.ref a0] : List Value).toArray s 0 0 (dm S s.heap.size)) (F0 m 2 ls []) := by
    intro y2_0 fu
    induction fu with
    | zero =>
      intro S2_ y2_1 res h
      rw [f_X4_reverse_L2] at h
      cases h
    | succ fu ih =>
      intro S2_ y2_1 res h H locs ls hP hD hS hl hexit
      rw [f_X4_reverse_L2] at h
      refine lv_iload_n hx hb dX4_reverse_2 rfl (lv_at hl 1 rfl) ?_
      refine lv_aload_n hx hb dX4_reverse_3 rfl (lv_at hl 0 rfl) ?_
      replace h := bd h
      obtain ⟨x3, q4, h⟩ := h
      refine fg_3_1 hx hb hts hown hK hP wd_113 q4 dX4_reverse_4 ?_
      refine lv_iconst (v := 1) hx hb dX4_reverse_7 (by decide) ?_
      refine lv_isub hx hb dX4_reverse_8 ?_
      refine lv_iload_n hx hb dX4_reverse_9 rfl (lv_at hl 1 rfl) ?_
      refine lv_isub hx hb dX4_reverse_10 ?_
      refine lv_icmp_ge (tgt := 60) hx hb dX4_reverse_11 (by decide) (fun c5 => ?_) (fun c5 => ?_)
      · replace h := ifp c5 h
        cases h
        exact hexit _ _ _ hP hD hS (lv_sub hl [] rfl)
      · replace h := ifn c5 h
        refine lv_aload_n hx hb dX4_reverse_14 rfl (lv_at hl 0 rfl) ?_
        replace h := bd h
        obtain ⟨x6, q7, h⟩ := h
        refine fg_3_0 hx hb hts hown hK hP wd_112 q7 dX4_reverse_15 ?_
        refine lv_iload_n hx hb dX4_reverse_18 rfl (lv_at hl 1 rfl) ?_
        replace h := bd h
        obtain ⟨x8, q9, h⟩ := h
        refine r_aI hx hb hK hP q9 dX4_reverse_19 ?_
        refine lv_istore_n (lv' := [(2, .int x8), (0, .ref y2_0), (1, .int y2_1)]) hx hb dX4_reverse_20 rfl hl (by decide) rfl (fun ls hl => ?_)
        refine lv_aload_n hx hb dX4_reverse_21 rfl (lv_at hl 1 rfl) ?_
        replace h := bd h
        obtain ⟨x10, q11, h⟩ := h
        refine fg_3_0 hx hb hts hown hK hP wd_112 q11 dX4_reverse_22 ?_
        refine lv_iload_n hx hb dX4_reverse_25 rfl (lv_at hl 2 rfl) ?_
        refine lv_aload_n hx hb dX4_reverse_26 rfl (lv_at hl 1 rfl) ?_
        replace h := bd h
        obtain ⟨x12, q13, h⟩ := h
        refine fg_3_0 hx hb hts hown hK hP wd_112 q13 dX4_reverse_27 ?_
        refine lv_aload_n hx hb dX4_reverse_30 rfl (lv_at hl 1 rfl) ?_
        replace h := bd h
        obtain ⟨x14, q15, h⟩ := h
        refine fg_3_1 hx hb hts hown hK hP wd_113 q15 dX4_reverse_31 ?_
        refine lv_iconst (v := 1) hx hb dX4_reverse_34 (by decide) ?_
        refine lv_isub hx hb dX4_reverse_35 ?_
        refine lv_iload_n hx hb dX4_reverse_36 rfl (lv_at hl 2 rfl) ?_
        refine lv_isub hx hb dX4_reverse_37 ?_
        replace h := bd h
        obtain ⟨x16, q17, h⟩ := h
        refine r_aI hx hb hK hP q17 dX4_reverse_38 ?_
        replace h := bd h
        obtain ⟨Z18, q19, h⟩ := h
        refine r_sI hx hb hK hP hD hS q19 dX4_reverse_39 (fun H locs hz9 hP hD hS => ?_)
        refine lv_aload_n hx hb dX4_reverse_40 rfl (lv_at hl 1 rfl) ?_
        replace h := bd h
        obtain ⟨x20, q21, h⟩ := h
        refine fg_3_0 hx hb hts hown hK hP wd_112 q21 dX4_reverse_41 ?_
        refine lv_aload_n hx hb dX4_reverse_44 rfl (lv_at hl 1 rfl) ?_
        replace h := bd h
        obtain ⟨x22, q23, h⟩ := h
        refine fg_3_1 hx hb hts hown hK hP wd_113 q23 dX4_reverse_45 ?_
        refine lv_iconst (v := 1) hx hb dX4_reverse_48 (by decide) ?_
        refine lv_isub hx hb dX4_reverse_49 ?_
        refine lv_iload_n hx hb dX4_reverse_50 rfl (lv_at hl 2 rfl) ?_
        refine lv_isub hx hb dX4_reverse_51 ?_
        refine lv_iload_n hx hb dX4_reverse_52 rfl (lv_at hl 0 rfl) ?_
        replace h := bd h
        obtain ⟨Z24, q25, h⟩ := h
        refine r_sI hx hb hK hP hD hS q25 dX4_reverse_53 (fun H locs hz9 hP hD hS => ?_)
        refine lv_iinc (v := (y2_1 + 1)) (lv' := [(1, .int (y2_1 + 1)), (2, .int x8), (0, .ref y2_0)]) hx hb dX4_reverse_54 hl (k := 2) rfl rfl (by decide) rfl (fun ls hl => ?_)
        refine lv_goto (tgt := 2) hx hb dX4_reverse_57 (by decide) ?_
        exact ih Z24 (y2_1 + 1) _ h _ _ _ hP hD hS (lv_sub hl [2, 0] rfl) hexit
  replace h := bd h
  obtain ⟨z1, q26, h⟩ := h
  refine L2 a0 FU S 0 z1 q26 _ _ _ hP hD hS (lv_sub hl [1, 0] rfl) (fun H locs ls hP hD hS hl => ?_)
  cases h
  exact e_vm hx hb hlocks hr hP hD hS (Nat.le_of_ble_eq_true rfl) (Nat.le_of_ble_eq_true rfl) dX4_reverse_60
set_option maxRecDepth 100000 in
theorem c_X4_reverse {p : Program} {l : Launch} {e : Env} {R : Room} {s : State} {m : MethodId} {args : Array Value} {below : List Frame} {meth : Method} {c : Code} {H : Heap} {locs : List Loc} {cells slots : Nat} {Q : State → Prop} {cc : ByteArray} {pc index nL : Nat} {ls : Array Slot} {rest : List Value} {D : va_G} {cy : Nat → ClassId} {A0 : Nat → Prop} {S : St} {H0 : Heap} {own : String} {u : Unit} {a0 : Nat} {S1 : St}  (hF : CallFix p m c cc nL s args ALLW own) (hsz : ls.size = nL) (hK : va_K D vwCl (tyL cy) s) (hP : SP D cy S H) (hD : ∀ a, S a ≠ none → A0 a) (hA : ∀ q, H0.size ≤ q → A0 q) (hS : va_S A0 H0 H locs) (hk : Cond.methodLink own index yX4_reverse ∈ ALLW) (hR : rm_X4_reverse.frames + 1 ≤ R.frames ∧ 8 + (3 + 11) + rm_X4_reverse.locals ≤ R.locals) (h : f_X4_reverse S a0 = some S1) (hc : oO S a0 3 = some u) (hW : (rest.map fun v => v.category).sum ≤ 8) (hdg : decode cc pc = .ok (.invokevirtual index, 3)) (hf : cells + 0 ≤ R.cells ∧ slots + 0 ≤ R.slots)
    (kk : ∀ (H1 : Heap) (locs1 : List Loc), SP D cy S1 H1 → (∀ a, S1 a ≠ none → A0 a) → va_S A0 H0 H1 locs1 → W p l e R s m args below meth c H1 locs1 (cells + 0) (slots + 0) Q (F0 m (pc + 3) ls (rest))) : W p l e R s m args below meth c H locs cells slots Q (F0 m pc ls (.ref a0 :: rest)) := by
  exact k_vVm (As := []) hF hsz (m_X4_reverse l D cy H.size S a0 S1 h) (cwV_of (n := 0) hF.2.2.2.2 hk wd_693 wd_694 wd_72 wd_695 rfl rfl (by decide +kernel) hR) rfl hK hP hD hA hS (ci := 3) hc rfl hW rfl hdg hf kk
/-- VowBlocks$Row.pushTail(LVowBlocks$Row;I)V -/
def f_X4_pushTail_L2 (y2_0 : Nat) (y2_1 : Nat) : Nat → St → Int32 →  Option (St)
  | 0, _, _ => none
  | fu + 1, S2_, y2_3 =>
    (gI S2_ y2_1 3 1).bind fun x3 =>
    if x3 ≤ y2_3 then
      some S2_
    else
      (oO S2_ y2_1 3).bind fun _ =>
      (f_X4_at S2_ y2_1 y2_3).bind fun x8 =>
      (oO S2_ y2_0 3).bind fun _ =>
      (f_X4_push S2_ y2_0 x8 1).bind fun z11 =>
      f_X4_pushTail_L2 y2_0 y2_1 fu z11.2 (y2_3 + 1)
def f_X4_pushTail (S : St) (a0 : Nat) (a1 : Nat) (a2 : Int32) : Option (St) :=
  (f_X4_pushTail_L2 a0 a1 FU S a2).bind fun z1 =>
  some z1
abbrev rm_X4_pushTail : Room := { frames := 2, cells := 0, slots := 0, locals := 44 }
set_option maxHeartbeats 4000000 in
set_option maxRecDepth 100000 in
theorem m_X4_pushTail (l : Launch) (D : va_G) (cy : Nat → ClassId) (sz : Nat) (S : St) (a0 : Nat) (a1 : Nat) (a2 : Int32) (S1 : St) (h : f_X4_pushTail S a0 a1 a2 = some S1) : Met l yX4_pushTail (wsA yX4_pushTail cX4_pushTail 4 none) rm_X4_pushTail (va_Pc [.ref a0, .ref a1, .int a2] (PN D cy S sz)) (va_Qv (fun _ : Unit => True) (fun _ t => PoS D cy S1 (dm S sz) t) (dm S sz)) 0 0 (dm S sz) := by
  refine Met.ofW (cc := cX4_pushTail) (maxL := 4) (ret := none) (by decide) rfl ?_
  intro p e s m args below meth c s₁ B hml hv
  obtain ⟨rfl, hsz, hP, hK⟩ := hv
  have hx := B.exec
  have hb := B.bytes
  have hr := B.returns
  have hts9 := atoms_spec (ws := wsA yX4_pushTail cX4_pushTail 4 none) B.pre
  have hts : ∀ w ∈ ALLW, w.before _ s = true := fun w h => hts9 w (List.mem_cons_of_mem _ h)
  have hown : s.vm.findClass RX4 = some m.cls := findClass_of_methodNamed B.named
  have hlocks := B.notSynchronized
  subst hsz
  have hD : ∀ a, S a ≠ none → dm S s.heap.size a := fun a h => Or.inl h
  have hA : ∀ q : Nat, s.heap.size ≤ q → dm S s.heap.size q := fun q h => Or.inr h
  have hS : va_S (dm S s.heap.size) s.heap s.heap [] := va_S.rf
  have hl := lv_entry [.ref a0, .ref a1, .int a2] (n := 4) (Nat.le_of_ble_eq_true rfl)
  rw [lg_entry_eq]
  generalize (lg_sl [.ref a0, .ref a1, .int a2] ++ List.replicate (4 - (lg_sl [.ref a0, .ref a1, .int a2]).length) Slot.unset).toArray = ls at hl ⊢
  have hl : lv_has ls 4 [(0, .ref a0), (1, .ref a1), (2, .int a2)] := hl
  rw [f_X4_pushTail] at h
  refine lv_iload_n hx hb dX4_pushTail_0 rfl (lv_at hl 2 rfl) ?_
  refine lv_istore_n (lv' := [(3, .int a2), (0, .ref a0), (1, .ref a1), (2, .int a2)]) hx hb dX4_pushTail_1 rfl hl (by decide) rfl (fun ls hl => ?_)
  have L2 : ∀ (y2_0 : Nat) (y2_1 : Nat) (fu : Nat) (S2_ : St) (y2_3 : Int32) (res : St), f_X4_pushTail_L2 y2_0 y2_1 fu S2_ y2_3 = some res → ∀ (H : Heap) (locs : List Loc) (ls : Array Slot), SP D cy S2_ H → (∀ a, S2_ a ≠ none → (dm S s.heap.size) a) → va_S (dm S s.heap.size) s.heap H locs → lv_has ls 4 [(0, .ref y2_0), (1, .ref y2_1), (3, .int y2_3)] → (∀ (H : Heap) (locs : List Loc) (ls : Array Slot), SP D cy res H → (∀ a, res a ≠ none → (dm S s.heap.size) a) → va_S (dm S s.heap.size) s.heap H locs → lv_has ls 4 [] → W p l e rm_X4_pushTail s m ([.ref a0, .ref a1, .int a2] : List Value).toArray below meth c H locs 0 0 (MQ below (va_Qv (fun _ : Unit => True) (fun _ t => PoS D cy S1 (dm S s.heap.size) t) (dm S s.heap.size)) ([.ref a0, .ref a1, .int a2] : List Value).toArray s 0 0 (dm S s.heap.size)) (F0 m 27 ls [])) → W p l e rm_X4_pushTail s m ([.ref a0, .ref a1, .int a2] : List Value).toArray below meth c H locs 0 0 (MQ below (va_Qv (fun _ : Unit => True) (fun _ t => PoS D cy S1 (dm S s.heap.size) t) (dm S s.heap.size)) ([.ref a0, .ref a1, .int a2] : List Value).toArray s 0 0 (dm S s.heap.size)) (F0 m 2 ls []) := by
    intro y2_0 y2_1 fu
    induction fu with
    | zero =>
      intro S2_ y2_3 res h
      rw [f_X4_pushTail_L2] at h
      cases h
    | succ fu ih =>
      intro S2_ y2_3 res h H locs ls hP hD hS hl hexit
      rw [f_X4_pushTail_L2] at h
      refine lv_iload_n hx hb dX4_pushTail_2 rfl (lv_at hl 2 rfl) ?_
      refine lv_aload_n hx hb dX4_pushTail_3 rfl (lv_at hl 1 rfl) ?_
      replace h := bd h
      obtain ⟨x3, q4, h⟩ := h
      refine fg_3_1 hx hb hts hown hK hP wd_113 q4 dX4_pushTail_4 ?_
      refine lv_icmp_ge (tgt := 27) hx hb dX4_pushTail_7 (by decide) (fun c5 => ?_) (fun c5 => ?_)
      · replace h := ifp c5 h
        cases h
        exact hexit _ _ _ hP hD hS (lv_sub hl [] rfl)
      · replace h := ifn c5 h
        refine lv_aload_n hx hb dX4_pushTail_10 rfl (lv_at hl 0 rfl) ?_
        refine lv_aload_n hx hb dX4_pushTail_11 rfl (lv_at hl 1 rfl) ?_
        refine lv_iload_n hx hb dX4_pushTail_12 rfl (lv_at hl 2 rfl) ?_
        replace h := bd h
        obtain ⟨_, q6, h⟩ := h
        replace h := bd h
        obtain ⟨x8, q7, h⟩ := h
        refine c_X4_at ⟨hx, hb, hml, hown, hts⟩ hl.1 hK hP hS wd_453 ⟨(Nat.le_of_ble_eq_true rfl), (Nat.le_of_ble_eq_true rfl)⟩ q7 q6 (Nat.le_of_ble_eq_true rfl) dX4_pushTail_13 ⟨(Nat.le_of_ble_eq_true rfl), (Nat.le_of_ble_eq_true rfl)⟩ (fun H locs hP hS => ?_)
        refine lv_iconst (v := 1) hx hb dX4_pushTail_16 (by decide) ?_
        replace h := bd h
        obtain ⟨_, q9, h⟩ := h
        replace h := bd h
        obtain ⟨z11, q10, h⟩ := h
        refine c_X4_push ⟨hx, hb, hml, hown, hts⟩ hl.1 hK hP hD hA hS wd_454 ⟨(Nat.le_of_ble_eq_true rfl), (Nat.le_of_ble_eq_true rfl)⟩ q10 q9 (Nat.le_of_ble_eq_true rfl) dX4_pushTail_17 ⟨(Nat.le_of_ble_eq_true rfl), (Nat.le_of_ble_eq_true rfl)⟩ (fun H locs hP hD hS => ?_)
        refine lv_pop hx hb dX4_pushTail_20 rfl ?_
        refine lv_iinc (v := (y2_3 + 1)) (lv' := [(3, .int (y2_3 + 1)), (0, .ref y2_0), (1, .ref y2_1)]) hx hb dX4_pushTail_21 hl (k := 2) rfl rfl (by decide) rfl (fun ls hl => ?_)
        refine lv_goto (tgt := 2) hx hb dX4_pushTail_24 (by decide) ?_
        exact ih z11.2 (y2_3 + 1) _ h _ _ _ hP hD hS (lv_sub hl [1, 2, 0] rfl) hexit
  replace h := bd h
  obtain ⟨z1, q12, h⟩ := h
  refine L2 a0 a1 FU S a2 z1 q12 _ _ _ hP hD hS (lv_sub hl [1, 2, 0] rfl) (fun H locs ls hP hD hS hl => ?_)
  cases h
  exact e_vm hx hb hlocks hr hP hD hS (Nat.le_of_ble_eq_true rfl) (Nat.le_of_ble_eq_true rfl) dX4_pushTail_27
set_option maxRecDepth 100000 in
theorem c_X4_pushTail {p : Program} {l : Launch} {e : Env} {R : Room} {s : State} {m : MethodId} {args : Array Value} {below : List Frame} {meth : Method} {c : Code} {H : Heap} {locs : List Loc} {cells slots : Nat} {Q : State → Prop} {cc : ByteArray} {pc index nL : Nat} {ls : Array Slot} {rest : List Value} {D : va_G} {cy : Nat → ClassId} {A0 : Nat → Prop} {S : St} {H0 : Heap} {own : String} {u : Unit} {a0 : Nat} {a1 : Nat} {a2 : Int32} {S1 : St}  (hF : CallFix p m c cc nL s args ALLW own) (hsz : ls.size = nL) (hK : va_K D vwCl (tyL cy) s) (hP : SP D cy S H) (hD : ∀ a, S a ≠ none → A0 a) (hA : ∀ q, H0.size ≤ q → A0 q) (hS : va_S A0 H0 H locs) (hk : Cond.methodLink own index yX4_pushTail ∈ ALLW) (hR : rm_X4_pushTail.frames + 1 ≤ R.frames ∧ 8 + (4 + 11) + rm_X4_pushTail.locals ≤ R.locals) (h : f_X4_pushTail S a0 a1 a2 = some S1) (hc : oO S a0 3 = some u) (hW : (rest.map fun v => v.category).sum ≤ 8) (hdg : decode cc pc = .ok (.invokevirtual index, 3)) (hf : cells + 0 ≤ R.cells ∧ slots + 0 ≤ R.slots)
    (kk : ∀ (H1 : Heap) (locs1 : List Loc), SP D cy S1 H1 → (∀ a, S1 a ≠ none → A0 a) → va_S A0 H0 H1 locs1 → W p l e R s m args below meth c H1 locs1 (cells + 0) (slots + 0) Q (F0 m (pc + 3) ls (rest))) : W p l e R s m args below meth c H locs cells slots Q (F0 m pc ls (.int a2 :: .ref a1 :: .ref a0 :: rest)) := by
  exact k_vVm (As := [.ref a1, .int a2]) hF hsz (m_X4_pushTail l D cy H.size S a0 a1 a2 S1 h) (cwV_of (n := 2) hF.2.2.2.2 hk wd_450 wd_451 wd_72 wd_452 rfl rfl (by decide +kernel) hR) rfl hK hP hD hA hS (ci := 3) hc rfl hW rfl hdg hf kk
/-- VowBlocks$Row.shorten(I)V -/
def f_X4_shorten (S : St) (a0 : Nat) (a1 : Int32) : Option (St) :=
  (oO S a0 3).bind fun _ =>
  (f_X4_has S a0 a1).bind fun x3 =>
  (
    if x3 = 0 then
      some S
    else
      (pI S a0 3 1 a1).bind fun Z6 =>
      some Z6
  : Option (St)).bind fun t4 =>
  some t4
abbrev rm_X4_shorten : Room := { frames := 1, cells := 0, slots := 0, locals := 21 }
set_option maxHeartbeats 4000000 in
set_option maxRecDepth 100000 in
theorem m_X4_shorten (l : Launch) (D : va_G) (cy : Nat → ClassId) (sz : Nat) (S : St) (a0 : Nat) (a1 : Int32) (S1 : St) (h : f_X4_shorten S a0 a1 = some S1) : Met l yX4_shorten (wsA yX4_shorten cX4_shorten 2 none) rm_X4_shorten (va_Pc [.ref a0, .int a1] (PN D cy S sz)) (va_Qv (fun _ : Unit => True) (fun _ t => PoS D cy S1 (dm S sz) t) (dm S sz)) 0 0 (dm S sz) := by
  refine Met.ofW (cc := cX4_shorten) (maxL := 2) (ret := none) (by decide) rfl ?_
  intro p e s m args below meth c s₁ B hml hv
  obtain ⟨rfl, hsz, hP, hK⟩ := hv
  have hx := B.exec
  have hb := B.bytes
  have hr := B.returns
  have hts9 := atoms_spec (ws := wsA yX4_shorten cX4_shorten 2 none) B.pre
  have hts : ∀ w ∈ ALLW, w.before _ s = true := fun w h => hts9 w (List.mem_cons_of_mem _ h)
  have hown : s.vm.findClass RX4 = some m.cls := findClass_of_methodNamed B.named
  have hlocks := B.notSynchronized
  subst hsz
  have hD : ∀ a, S a ≠ none → dm S s.heap.size a := fun a h => Or.inl h
  have hA : ∀ q : Nat, s.heap.size ≤ q → dm S s.heap.size q := fun q h => Or.inr h
  have hS : va_S (dm S s.heap.size) s.heap s.heap [] := va_S.rf
  have hl := lv_entry [.ref a0, .int a1] (n := 2) (Nat.le_of_ble_eq_true rfl)
  rw [lg_entry_eq]
  generalize (lg_sl [.ref a0, .int a1] ++ List.replicate (2 - (lg_sl [.ref a0, .int a1]).length) Slot.unset).toArray = ls at hl ⊢
  have hl : lv_has ls 2 [(0, .ref a0), (1, .int a1)] := hl
  rw [f_X4_shorten] at h
  refine lv_aload_n hx hb dX4_shorten_0 rfl (lv_at hl 0 rfl) ?_
  refine lv_iload_n hx hb dX4_shorten_1 rfl (lv_at hl 1 rfl) ?_
  replace h := bd h
  obtain ⟨_, q1, h⟩ := h
  replace h := bd h
  obtain ⟨x3, q2, h⟩ := h
  refine c_X4_has ⟨hx, hb, hml, hown, hts⟩ hl.1 hK hP hS wd_360 ⟨(Nat.le_of_ble_eq_true rfl), (Nat.le_of_ble_eq_true rfl)⟩ q2 q1 (Nat.le_of_ble_eq_true rfl) dX4_shorten_2 ⟨(Nat.le_of_ble_eq_true rfl), (Nat.le_of_ble_eq_true rfl)⟩ (fun H locs hP hS => ?_)
  replace h := bd h
  obtain ⟨t4, ht, h⟩ := h
  have K4 : ∀ (H : Heap) (locs : List Loc) (ls : Array Slot), SP D cy t4 H → (∀ a, t4 a ≠ none → (dm S s.heap.size) a) → va_S (dm S s.heap.size) s.heap H locs → lv_has ls 2 [] → W p l e rm_X4_shorten s m ([.ref a0, .int a1] : List Value).toArray below meth c H locs 0 0 (MQ below (va_Qv (fun _ : Unit => True) (fun _ t => PoS D cy S1 (dm S s.heap.size) t) (dm S s.heap.size)) ([.ref a0, .int a1] : List Value).toArray s 0 0 (dm S s.heap.size)) (F0 m 13 ls []) := by
    intro H locs ls hP hD hS hl
    cases h
    exact e_vm hx hb hlocks hr hP hD hS (Nat.le_of_ble_eq_true rfl) (Nat.le_of_ble_eq_true rfl) dX4_shorten_13
  replace h := ht
  refine lv_if_eq (tgt := 13) hx hb dX4_shorten_5 (by decide) (fun c5 => ?_) (fun c5 => ?_)
  · replace h := ifp c5 h
    cases h
    exact K4 _ _ _ hP hD hS (lv_sub hl [] rfl)
  · replace h := ifn c5 h
    refine lv_aload_n hx hb dX4_shorten_8 rfl (lv_at hl 0 rfl) ?_
    refine lv_iload_n hx hb dX4_shorten_9 rfl (lv_at hl 1 rfl) ?_
    replace h := bd h
    obtain ⟨Z6, q7, h⟩ := h
    refine fp_3_1 hx hb hts hown hK hP hD hS wd_113 q7 dX4_shorten_10 (fun H locs hz9 hP hD hS => ?_)
    cases h
    exact K4 _ _ _ hP hD hS (lv_sub hl [] rfl)
set_option maxRecDepth 100000 in
theorem c_X4_shorten {p : Program} {l : Launch} {e : Env} {R : Room} {s : State} {m : MethodId} {args : Array Value} {below : List Frame} {meth : Method} {c : Code} {H : Heap} {locs : List Loc} {cells slots : Nat} {Q : State → Prop} {cc : ByteArray} {pc index nL : Nat} {ls : Array Slot} {rest : List Value} {D : va_G} {cy : Nat → ClassId} {A0 : Nat → Prop} {S : St} {H0 : Heap} {own : String} {u : Unit} {a0 : Nat} {a1 : Int32} {S1 : St}  (hF : CallFix p m c cc nL s args ALLW own) (hsz : ls.size = nL) (hK : va_K D vwCl (tyL cy) s) (hP : SP D cy S H) (hD : ∀ a, S a ≠ none → A0 a) (hA : ∀ q, H0.size ≤ q → A0 q) (hS : va_S A0 H0 H locs) (hk : Cond.methodLink own index yX4_shorten ∈ ALLW) (hR : rm_X4_shorten.frames + 1 ≤ R.frames ∧ 8 + (2 + 11) + rm_X4_shorten.locals ≤ R.locals) (h : f_X4_shorten S a0 a1 = some S1) (hc : oO S a0 3 = some u) (hW : (rest.map fun v => v.category).sum ≤ 8) (hdg : decode cc pc = .ok (.invokevirtual index, 3)) (hf : cells + 0 ≤ R.cells ∧ slots + 0 ≤ R.slots)
    (kk : ∀ (H1 : Heap) (locs1 : List Loc), SP D cy S1 H1 → (∀ a, S1 a ≠ none → A0 a) → va_S A0 H0 H1 locs1 → W p l e R s m args below meth c H1 locs1 (cells + 0) (slots + 0) Q (F0 m (pc + 3) ls (rest))) : W p l e R s m args below meth c H locs cells slots Q (F0 m pc ls (.int a1 :: .ref a0 :: rest)) := by
  exact k_vVm (As := [.int a1]) hF hsz (m_X4_shorten l D cy H.size S a0 a1 S1 h) (cwV_of (n := 1) hF.2.2.2.2 hk wd_723 wd_724 wd_72 wd_725 rfl rfl (by decide +kernel) hR) rfl hK hP hD hA hS (ci := 3) hc rfl hW rfl hdg hf kk
/-- VowBlocks$Row.firstPlace(I)I -/
def f_X4_firstPlace_L2 (S2_ : St) (y2_0 : Nat) (y2_1 : Int32) : Nat → Int32 →  Option ((Int32) ⊕ (Unit))
  | 0, _ => none
  | fu + 1, y2_2 =>
    (gI S2_ y2_0 3 1).bind fun x3 =>
    if x3 ≤ y2_2 then
      some (.inr ())
    else
      (gR S2_ y2_0 3 0).bind fun x6 =>
      (aI S2_ x6 y2_2).bind fun x8 =>
      if x8 = y2_1 then
        some (.inl y2_2)
      else
        f_X4_firstPlace_L2 S2_ y2_0 y2_1 fu (y2_2 + 1)
def f_X4_firstPlace (S : St) (a0 : Nat) (a1 : Int32) : Option (Int32) :=
  (f_X4_firstPlace_L2 S a0 a1 FU 0).bind fun z1 =>
  Sum.elim (fun y => some y) (fun t2_1 =>
  some (-1)
  ) z1
abbrev rm_X4_firstPlace : Room := { frames := 0, cells := 0, slots := 0, locals := 0 }
set_option maxHeartbeats 4000000 in
set_option maxRecDepth 100000 in
theorem m_X4_firstPlace (l : Launch) (D : va_G) (cy : Nat → ClassId) (S : St) (a0 : Nat) (a1 : Int32) (r : Int32) (h : f_X4_firstPlace S a0 a1 = some r) : Met l yX4_firstPlace (wsA yX4_firstPlace cX4_firstPlace 3 (some .int)) rm_X4_firstPlace (va_Pc [.ref a0, .int a1] (PS D cy S)) (va_Qi (fun r' (_ : Unit) => r' = r) (fun _ _ => True) noA) 0 0 noA := by
  refine Met.ofW (cc := cX4_firstPlace) (maxL := 3) (ret := (some .int)) (by decide) rfl ?_
  intro p e s m args below meth c s₁ B hml hv
  obtain ⟨rfl, hP, hK⟩ := hv
  have hx := B.exec
  have hb := B.bytes
  have hr := B.returns
  have hts9 := atoms_spec (ws := wsA yX4_firstPlace cX4_firstPlace 3 (some .int)) B.pre
  have hts : ∀ w ∈ ALLW, w.before _ s = true := fun w h => hts9 w (List.mem_cons_of_mem _ h)
  have hown : s.vm.findClass RX4 = some m.cls := findClass_of_methodNamed B.named
  have hlocks := B.notSynchronized
  have hS : va_S noA s.heap s.heap [] := va_S.rf
  have hl := lv_entry [.ref a0, .int a1] (n := 3) (Nat.le_of_ble_eq_true rfl)
  rw [lg_entry_eq]
  generalize (lg_sl [.ref a0, .int a1] ++ List.replicate (3 - (lg_sl [.ref a0, .int a1]).length) Slot.unset).toArray = ls at hl ⊢
  have hl : lv_has ls 3 [(0, .ref a0), (1, .int a1)] := hl
  rw [f_X4_firstPlace] at h
  refine lv_iconst (v := 0) hx hb dX4_firstPlace_0 (by decide) ?_
  refine lv_istore_n (lv' := [(2, .int 0), (0, .ref a0), (1, .int a1)]) hx hb dX4_firstPlace_1 rfl hl (by decide) rfl (fun ls hl => ?_)
  have L2 : ∀ (S2_ : St) (y2_0 : Nat) (y2_1 : Int32) (fu : Nat) (y2_2 : Int32) (res : (Int32) ⊕ (Unit)), f_X4_firstPlace_L2 S2_ y2_0 y2_1 fu y2_2 = some res → ∀ (H : Heap) (locs : List Loc) (ls : Array Slot), SP D cy S2_ H → va_S noA s.heap H locs → lv_has ls 3 [(0, .ref y2_0), (1, .int y2_1), (2, .int y2_2)] → (∀ y : Int32, res = .inl y → y = r) → (∀ t2_1 : Unit, res = .inr t2_1 → ∀ (H : Heap) (locs : List Loc) (ls : Array Slot), SP D cy S2_ H → va_S noA s.heap H locs → lv_has ls 3 [] → W p l e rm_X4_firstPlace s m ([.ref a0, .int a1] : List Value).toArray below meth c H locs 0 0 (MQ below (va_Qi (fun r' (_ : Unit) => r' = r) (fun _ _ => True) noA) ([.ref a0, .int a1] : List Value).toArray s 0 0 noA) (F0 m 28 ls [])) → W p l e rm_X4_firstPlace s m ([.ref a0, .int a1] : List Value).toArray below meth c H locs 0 0 (MQ below (va_Qi (fun r' (_ : Unit) => r' = r) (fun _ _ => True) noA) ([.ref a0, .int a1] : List Value).toArray s 0 0 noA) (F0 m 2 ls []) := by
    intro S2_ y2_0 y2_1 fu
    induction fu with
    | zero =>
      intro y2_2 res h
      rw [f_X4_firstPlace_L2] at h
      cases h
    | succ fu ih =>
      intro y2_2 res h H locs ls hP hS hl hret hexit
      rw [f_X4_firstPlace_L2] at h
      refine lv_iload_n hx hb dX4_firstPlace_2 rfl (lv_at hl 2 rfl) ?_
      refine lv_aload_n hx hb dX4_firstPlace_3 rfl (lv_at hl 0 rfl) ?_
      replace h := bd h
      obtain ⟨x3, q4, h⟩ := h
      refine fg_3_1 hx hb hts hown hK hP wd_113 q4 dX4_firstPlace_4 ?_
      refine lv_icmp_ge (tgt := 28) hx hb dX4_firstPlace_7 (by decide) (fun c5 => ?_) (fun c5 => ?_)
      · replace h := ifp c5 h
        cases h
        exact hexit _ rfl _ _ _ hP hS (lv_sub hl [] rfl)
      · replace h := ifn c5 h
        refine lv_aload_n hx hb dX4_firstPlace_10 rfl (lv_at hl 0 rfl) ?_
        replace h := bd h
        obtain ⟨x6, q7, h⟩ := h
        refine fg_3_0 hx hb hts hown hK hP wd_112 q7 dX4_firstPlace_11 ?_
        refine lv_iload_n hx hb dX4_firstPlace_14 rfl (lv_at hl 2 rfl) ?_
        replace h := bd h
        obtain ⟨x8, q9, h⟩ := h
        refine r_aI hx hb hK hP q9 dX4_firstPlace_15 ?_
        refine lv_iload_n hx hb dX4_firstPlace_16 rfl (lv_at hl 1 rfl) ?_
        refine lv_icmp_ne (tgt := 22) hx hb dX4_firstPlace_17 (by decide) (fun c10 => ?_) (fun c10 => ?_)
        · replace h := ifn c10 h
          refine lv_iinc (v := (y2_2 + 1)) (lv' := [(2, .int (y2_2 + 1)), (0, .ref y2_0), (1, .int y2_1)]) hx hb dX4_firstPlace_22 hl (k := 2) rfl rfl (by decide) rfl (fun ls hl => ?_)
          refine lv_goto (tgt := 2) hx hb dX4_firstPlace_25 (by decide) ?_
          exact ih (y2_2 + 1) _ h _ _ _ hP hS (lv_sub hl [1, 2, 0] rfl) hret hexit
        · replace h := ifp c10 h
          refine lv_iload_n hx hb dX4_firstPlace_20 rfl (lv_at hl 2 rfl) ?_
          cases h
          have h := hret _ rfl
          cases h
          exact e_ip hx hb hlocks hr hS (Nat.le_of_ble_eq_true rfl) (Nat.le_of_ble_eq_true rfl) dX4_firstPlace_21
  replace h := bd h
  obtain ⟨z1, q11, h⟩ := h
  refine L2 S a0 a1 FU 0 z1 q11 _ _ _ hP hS (lv_sub hl [1, 2, 0] rfl) (fun y hy => by
    replace h := sel_l hy h
    cases h
    rfl) (fun t2_1 hy H locs ls hP hS hl => ?_)
  replace h := sel_r hy h
  refine lv_iconst (v := (-1)) hx hb dX4_firstPlace_28 (by decide) ?_
  cases h
  exact e_ip hx hb hlocks hr hS (Nat.le_of_ble_eq_true rfl) (Nat.le_of_ble_eq_true rfl) dX4_firstPlace_29
set_option maxRecDepth 100000 in
theorem c_X4_firstPlace {p : Program} {l : Launch} {e : Env} {R : Room} {s : State} {m : MethodId} {args : Array Value} {below : List Frame} {meth : Method} {c : Code} {H : Heap} {locs : List Loc} {cells slots : Nat} {Q : State → Prop} {cc : ByteArray} {pc index nL : Nat} {ls : Array Slot} {rest : List Value} {D : va_G} {cy : Nat → ClassId} {A0 : Nat → Prop} {S : St} {H0 : Heap} {own : String} {u : Unit} {a0 : Nat} {a1 : Int32} {r : Int32}  (hF : CallFix p m c cc nL s args ALLW own) (hsz : ls.size = nL) (hK : va_K D vwCl (tyL cy) s) (hP : SP D cy S H) (hS : va_S A0 H0 H locs) (hk : Cond.methodLink own index yX4_firstPlace ∈ ALLW) (hR : rm_X4_firstPlace.frames + 1 ≤ R.frames ∧ 8 + (3 + 11) + rm_X4_firstPlace.locals ≤ R.locals) (h : f_X4_firstPlace S a0 a1 = some r) (hc : oO S a0 3 = some u) (hW : (rest.map fun v => v.category).sum ≤ 8) (hdg : decode cc pc = .ok (.invokevirtual index, 3)) (hf : cells + 0 ≤ R.cells ∧ slots + 0 ≤ R.slots)
    (kk : ∀ (H1 : Heap) (locs1 : List Loc), SP D cy S H1 → va_S A0 H0 H1 locs1 → W p l e R s m args below meth c H1 locs1 (cells + 0) (slots + 0) Q (F0 m (pc + 3) ls (.int r :: rest))) : W p l e R s m args below meth c H locs cells slots Q (F0 m pc ls (.int a1 :: .ref a0 :: rest)) := by
  exact k_iVp (As := [.int a1]) hF hsz (m_X4_firstPlace l D cy S a0 a1 r h) (cwV_of (n := 1) hF.2.2.2.2 hk wd_371 wd_372 wd_72 wd_373 rfl rfl (by decide +kernel) hR) rfl hK hP hS (ci := 3) hc rfl hW rfl hdg hf kk
/-- VowBlocks$Row.timesOf(I)I -/
def f_X4_timesOf_L4 (S4_ : St) (y4_0 : Nat) (y4_1 : Int32) : Nat → Int32 → Int32 →  Option (Int32)
  | 0, _, _ => none
  | fu + 1, y4_2, y4_3 =>
    (gI S4_ y4_0 3 1).bind fun x3 =>
    if x3 ≤ y4_3 then
      some y4_2
    else
      (gR S4_ y4_0 3 0).bind fun x6 =>
      (aI S4_ x6 y4_3).bind fun x8 =>
      (
        if x8 = y4_1 then
          some (y4_2 + 1)
        else
          some y4_2
      : Option (Int32)).bind fun t10 =>
      f_X4_timesOf_L4 S4_ y4_0 y4_1 fu t10 (y4_3 + 1)
def f_X4_timesOf (S : St) (a0 : Nat) (a1 : Int32) : Option (Int32) :=
  (f_X4_timesOf_L4 S a0 a1 FU 0 0).bind fun z1 =>
  some z1
abbrev rm_X4_timesOf : Room := { frames := 0, cells := 0, slots := 0, locals := 0 }
set_option maxHeartbeats 4000000 in
set_option maxRecDepth 100000 in
theorem m_X4_timesOf (l : Launch) (D : va_G) (cy : Nat → ClassId) (S : St) (a0 : Nat) (a1 : Int32) (r : Int32) (h : f_X4_timesOf S a0 a1 = some r) : Met l yX4_timesOf (wsA yX4_timesOf cX4_timesOf 4 (some .int)) rm_X4_timesOf (va_Pc [.ref a0, .int a1] (PS D cy S)) (va_Qi (fun r' (_ : Unit) => r' = r) (fun _ _ => True) noA) 0 0 noA := by
  refine Met.ofW (cc := cX4_timesOf) (maxL := 4) (ret := (some .int)) (by decide) rfl ?_
  intro p e s m args below meth c s₁ B hml hv
  obtain ⟨rfl, hP, hK⟩ := hv
  have hx := B.exec
  have hb := B.bytes
  have hr := B.returns
  have hts9 := atoms_spec (ws := wsA yX4_timesOf cX4_timesOf 4 (some .int)) B.pre
  have hts : ∀ w ∈ ALLW, w.before _ s = true := fun w h => hts9 w (List.mem_cons_of_mem _ h)
  have hown : s.vm.findClass RX4 = some m.cls := findClass_of_methodNamed B.named
  have hlocks := B.notSynchronized
  have hS : va_S noA s.heap s.heap [] := va_S.rf
  have hl := lv_entry [.ref a0, .int a1] (n := 4) (Nat.le_of_ble_eq_true rfl)
  rw [lg_entry_eq]
  generalize (lg_sl [.ref a0, .int a1] ++ List.replicate (4 - (lg_sl [.ref a0, .int a1]).length) Slot.unset).toArray = ls at hl ⊢
  have hl : lv_has ls 4 [(0, .ref a0), (1, .int a1)] := hl
  rw [f_X4_timesOf] at h
  refine lv_iconst (v := 0) hx hb dX4_timesOf_0 (by decide) ?_
  refine lv_istore_n (lv' := [(2, .int 0), (0, .ref a0), (1, .int a1)]) hx hb dX4_timesOf_1 rfl hl (by decide) rfl (fun ls hl => ?_)
  refine lv_iconst (v := 0) hx hb dX4_timesOf_2 (by decide) ?_
  refine lv_istore_n (lv' := [(3, .int 0), (2, .int 0), (0, .ref a0), (1, .int a1)]) hx hb dX4_timesOf_3 rfl hl (by decide) rfl (fun ls hl => ?_)
  have L4 : ∀ (S4_ : St) (y4_0 : Nat) (y4_1 : Int32) (fu : Nat) (y4_2 : Int32) (y4_3 : Int32) (res : Int32), f_X4_timesOf_L4 S4_ y4_0 y4_1 fu y4_2 y4_3 = some res → ∀ (H : Heap) (locs : List Loc) (ls : Array Slot), SP D cy S4_ H → va_S noA s.heap H locs → lv_has ls 4 [(0, .ref y4_0), (1, .int y4_1), (2, .int y4_2), (3, .int y4_3)] → (∀ (H : Heap) (locs : List Loc) (ls : Array Slot), SP D cy S4_ H → va_S noA s.heap H locs → lv_has ls 4 [(2, .int res)] → W p l e rm_X4_timesOf s m ([.ref a0, .int a1] : List Value).toArray below meth c H locs 0 0 (MQ below (va_Qi (fun r' (_ : Unit) => r' = r) (fun _ _ => True) noA) ([.ref a0, .int a1] : List Value).toArray s 0 0 noA) (F0 m 31 ls [])) → W p l e rm_X4_timesOf s m ([.ref a0, .int a1] : List Value).toArray below meth c H locs 0 0 (MQ below (va_Qi (fun r' (_ : Unit) => r' = r) (fun _ _ => True) noA) ([.ref a0, .int a1] : List Value).toArray s 0 0 noA) (F0 m 4 ls []) := by
    intro S4_ y4_0 y4_1 fu
    induction fu with
    | zero =>
      intro y4_2 y4_3 res h
      rw [f_X4_timesOf_L4] at h
      cases h
    | succ fu ih =>
      intro y4_2 y4_3 res h H locs ls hP hS hl hexit
      rw [f_X4_timesOf_L4] at h
      refine lv_iload_n hx hb dX4_timesOf_4 rfl (lv_at hl 3 rfl) ?_
      refine lv_aload_n hx hb dX4_timesOf_5 rfl (lv_at hl 0 rfl) ?_
      replace h := bd h
      obtain ⟨x3, q4, h⟩ := h
      refine fg_3_1 hx hb hts hown hK hP wd_113 q4 dX4_timesOf_6 ?_
      refine lv_icmp_ge (tgt := 31) hx hb dX4_timesOf_9 (by decide) (fun c5 => ?_) (fun c5 => ?_)
      · replace h := ifp c5 h
        cases h
        exact hexit _ _ _ hP hS (lv_sub hl [2] rfl)
      · replace h := ifn c5 h
        refine lv_aload_n hx hb dX4_timesOf_12 rfl (lv_at hl 0 rfl) ?_
        replace h := bd h
        obtain ⟨x6, q7, h⟩ := h
        refine fg_3_0 hx hb hts hown hK hP wd_112 q7 dX4_timesOf_13 ?_
        refine lv_iload_n hx hb dX4_timesOf_16 rfl (lv_at hl 3 rfl) ?_
        replace h := bd h
        obtain ⟨x8, q9, h⟩ := h
        refine r_aI hx hb hK hP q9 dX4_timesOf_17 ?_
        refine lv_iload_n hx hb dX4_timesOf_18 rfl (lv_at hl 1 rfl) ?_
        replace h := bd h
        obtain ⟨t10, ht, h⟩ := h
        have K10 : ∀ (H : Heap) (locs : List Loc) (ls : Array Slot), SP D cy S4_ H → va_S noA s.heap H locs → lv_has ls 4 [(0, .ref y4_0), (1, .int y4_1), (2, .int t10), (3, .int y4_3)] → W p l e rm_X4_timesOf s m ([.ref a0, .int a1] : List Value).toArray below meth c H locs 0 0 (MQ below (va_Qi (fun r' (_ : Unit) => r' = r) (fun _ _ => True) noA) ([.ref a0, .int a1] : List Value).toArray s 0 0 noA) (F0 m 25 ls []) := by
          intro H locs ls hP hS hl
          refine lv_iinc (v := (y4_3 + 1)) (lv' := [(3, .int (y4_3 + 1)), (0, .ref y4_0), (1, .int y4_1), (2, .int t10)]) hx hb dX4_timesOf_25 hl (k := 3) rfl rfl (by decide) rfl (fun ls hl => ?_)
          refine lv_goto (tgt := 4) hx hb dX4_timesOf_28 (by decide) ?_
          exact ih t10 (y4_3 + 1) _ h _ _ _ hP hS (lv_sub hl [1, 2, 3, 0] rfl) hexit
        replace h := ht
        refine lv_icmp_ne (tgt := 25) hx hb dX4_timesOf_19 (by decide) (fun c11 => ?_) (fun c11 => ?_)
        · replace h := ifn c11 h
          cases h
          exact K10 _ _ _ hP hS (lv_sub hl [0, 1, 2, 3] rfl)
        · replace h := ifp c11 h
          refine lv_iinc (v := (y4_2 + 1)) (lv' := [(2, .int (y4_2 + 1)), (0, .ref y4_0), (1, .int y4_1), (3, .int y4_3)]) hx hb dX4_timesOf_22 hl (k := 2) rfl rfl (by decide) rfl (fun ls hl => ?_)
          cases h
          exact K10 _ _ _ hP hS (lv_sub hl [1, 2, 0, 3] rfl)
  replace h := bd h
  obtain ⟨z1, q12, h⟩ := h
  refine L4 S a0 a1 FU 0 0 z1 q12 _ _ _ hP hS (lv_sub hl [2, 3, 1, 0] rfl) (fun H locs ls hP hS hl => ?_)
  refine lv_iload_n hx hb dX4_timesOf_31 rfl (lv_at hl 0 rfl) ?_
  cases h
  exact e_ip hx hb hlocks hr hS (Nat.le_of_ble_eq_true rfl) (Nat.le_of_ble_eq_true rfl) dX4_timesOf_32
set_option maxRecDepth 100000 in
theorem c_X4_timesOf {p : Program} {l : Launch} {e : Env} {R : Room} {s : State} {m : MethodId} {args : Array Value} {below : List Frame} {meth : Method} {c : Code} {H : Heap} {locs : List Loc} {cells slots : Nat} {Q : State → Prop} {cc : ByteArray} {pc index nL : Nat} {ls : Array Slot} {rest : List Value} {D : va_G} {cy : Nat → ClassId} {A0 : Nat → Prop} {S : St} {H0 : Heap} {own : String} {u : Unit} {a0 : Nat} {a1 : Int32} {r : Int32}  (hF : CallFix p m c cc nL s args ALLW own) (hsz : ls.size = nL) (hK : va_K D vwCl (tyL cy) s) (hP : SP D cy S H) (hS : va_S A0 H0 H locs) (hk : Cond.methodLink own index yX4_timesOf ∈ ALLW) (hR : rm_X4_timesOf.frames + 1 ≤ R.frames ∧ 8 + (4 + 11) + rm_X4_timesOf.locals ≤ R.locals) (h : f_X4_timesOf S a0 a1 = some r) (hc : oO S a0 3 = some u) (hW : (rest.map fun v => v.category).sum ≤ 8) (hdg : decode cc pc = .ok (.invokevirtual index, 3)) (hf : cells + 0 ≤ R.cells ∧ slots + 0 ≤ R.slots)
    (kk : ∀ (H1 : Heap) (locs1 : List Loc), SP D cy S H1 → va_S A0 H0 H1 locs1 → W p l e R s m args below meth c H1 locs1 (cells + 0) (slots + 0) Q (F0 m (pc + 3) ls (.int r :: rest))) : W p l e R s m args below meth c H locs cells slots Q (F0 m pc ls (.int a1 :: .ref a0 :: rest)) := by
  exact k_iVp (As := [.int a1]) hF hsz (m_X4_timesOf l D cy S a0 a1 r h) (cwV_of (n := 1) hF.2.2.2.2 hk wd_389 wd_390 wd_72 wd_391 rfl rfl (by decide +kernel) hR) rfl hK hP hS (ci := 3) hc rfl hW rfl hdg hf kk
/-- VowBlocks$Row.commonValue()I -/
def f_X4_commonValue_L11 (S11_ : St) (y11_0 : Nat) (y11_1 : Int32) : Nat → Int32 → Int32 →  Option (Int32)
  | 0, _, _ => none
  | fu + 1, y11_2, y11_3 =>
    (gI S11_ y11_0 3 1).bind fun x6 =>
    if x6 ≤ y11_3 then
      some y11_2
    else
      (gR S11_ y11_0 3 0).bind fun x9 =>
      (aI S11_ x9 y11_3).bind fun x11 =>
      (oO S11_ y11_0 3).bind fun _ =>
      (f_X4_timesOf S11_ y11_0 x11).bind fun x15 =>
      (
        if x15 = y11_1 then
          (gR S11_ y11_0 3 0).bind fun x18 =>
          (aI S11_ x18 y11_3).bind fun x20 =>
          some (if x20 < y11_2 then x20 else y11_2)
        else
          some y11_2
      : Option (Int32)).bind fun t16 =>
      f_X4_commonValue_L11 S11_ y11_0 y11_1 fu t16 (y11_3 + 1)
def f_X4_commonValue (S : St) (a0 : Nat) : Option (Int32) :=
  (oO S a0 3).bind fun _ =>
  (f_X4_mostTimes S a0).bind fun x3 =>
  (f_X4_commonValue_L11 S a0 x3 FU 255 0).bind fun z4 =>
  some z4
abbrev rm_X4_commonValue : Room := { frames := 1, cells := 0, slots := 0, locals := 24 }
set_option maxHeartbeats 4000000 in
set_option maxRecDepth 100000 in
theorem m_X4_commonValue (l : Launch) (D : va_G) (cy : Nat → ClassId) (S : St) (a0 : Nat) (r : Int32) (h : f_X4_commonValue S a0 = some r) : Met l yX4_commonValue (wsA yX4_commonValue cX4_commonValue 4 (some .int)) rm_X4_commonValue (va_Pc [.ref a0] (PS D cy S)) (va_Qi (fun r' (_ : Unit) => r' = r) (fun _ _ => True) noA) 0 0 noA := by
  refine Met.ofW (cc := cX4_commonValue) (maxL := 4) (ret := (some .int)) (by decide) rfl ?_
  intro p e s m args below meth c s₁ B hml hv
  obtain ⟨rfl, hP, hK⟩ := hv
  have hx := B.exec
  have hb := B.bytes
  have hr := B.returns
  have hts9 := atoms_spec (ws := wsA yX4_commonValue cX4_commonValue 4 (some .int)) B.pre
  have hts : ∀ w ∈ ALLW, w.before _ s = true := fun w h => hts9 w (List.mem_cons_of_mem _ h)
  have hown : s.vm.findClass RX4 = some m.cls := findClass_of_methodNamed B.named
  have hlocks := B.notSynchronized
  have hS : va_S noA s.heap s.heap [] := va_S.rf
  have hl := lv_entry [.ref a0] (n := 4) (Nat.le_of_ble_eq_true rfl)
  rw [lg_entry_eq]
  generalize (lg_sl [.ref a0] ++ List.replicate (4 - (lg_sl [.ref a0]).length) Slot.unset).toArray = ls at hl ⊢
  have hl : lv_has ls 4 [(0, .ref a0)] := hl
  rw [f_X4_commonValue] at h
  refine lv_aload_n hx hb dX4_commonValue_0 rfl (lv_at hl 0 rfl) ?_
  replace h := bd h
  obtain ⟨_, q1, h⟩ := h
  replace h := bd h
  obtain ⟨x3, q2, h⟩ := h
  refine c_X4_mostTimes ⟨hx, hb, hml, hown, hts⟩ hl.1 hK hP hS wd_387 ⟨(Nat.le_of_ble_eq_true rfl), (Nat.le_of_ble_eq_true rfl)⟩ q2 q1 (Nat.le_of_ble_eq_true rfl) dX4_commonValue_1 ⟨(Nat.le_of_ble_eq_true rfl), (Nat.le_of_ble_eq_true rfl)⟩ (fun H locs hP hS => ?_)
  refine lv_istore_n (lv' := [(1, .int x3), (0, .ref a0)]) hx hb dX4_commonValue_4 rfl hl (by decide) rfl (fun ls hl => ?_)
  refine lv_sipush (v := 255) hx hb dX4_commonValue_5 (by decide) ?_
  refine lv_istore_n (lv' := [(2, .int 255), (1, .int x3), (0, .ref a0)]) hx hb dX4_commonValue_8 rfl hl (by decide) rfl (fun ls hl => ?_)
  refine lv_iconst (v := 0) hx hb dX4_commonValue_9 (by decide) ?_
  refine lv_istore_n (lv' := [(3, .int 0), (2, .int 255), (1, .int x3), (0, .ref a0)]) hx hb dX4_commonValue_10 rfl hl (by decide) rfl (fun ls hl => ?_)
  have L11 : ∀ (S11_ : St) (y11_0 : Nat) (y11_1 : Int32) (fu : Nat) (y11_2 : Int32) (y11_3 : Int32) (res : Int32), f_X4_commonValue_L11 S11_ y11_0 y11_1 fu y11_2 y11_3 = some res → ∀ (H : Heap) (locs : List Loc) (ls : Array Slot), SP D cy S11_ H → va_S noA s.heap H locs → lv_has ls 4 [(0, .ref y11_0), (1, .int y11_1), (2, .int y11_2), (3, .int y11_3)] → (∀ (H : Heap) (locs : List Loc) (ls : Array Slot), SP D cy S11_ H → va_S noA s.heap H locs → lv_has ls 4 [(2, .int res)] → W p l e rm_X4_commonValue s m ([.ref a0] : List Value).toArray below meth c H locs 0 0 (MQ below (va_Qi (fun r' (_ : Unit) => r' = r) (fun _ _ => True) noA) ([.ref a0] : List Value).toArray s 0 0 noA) (F0 m 50 ls [])) → W p l e rm_X4_commonValue s m ([.ref a0] : List Value).toArray below meth c H locs 0 0 (MQ below (va_Qi (fun r' (_ : Unit) => r' = r) (fun _ _ => True) noA) ([.ref a0] : List Value).toArray s 0 0 noA) (F0 m 11 ls []) := by
    intro S11_ y11_0 y11_1 fu
    induction fu with
    | zero =>
      intro y11_2 y11_3 res h
      rw [f_X4_commonValue_L11] at h
      cases h
    | succ fu ih =>
      intro y11_2 y11_3 res h H locs ls hP hS hl hexit
      rw [f_X4_commonValue_L11] at h
      refine lv_iload_n hx hb dX4_commonValue_11 rfl (lv_at hl 3 rfl) ?_
      refine lv_aload_n hx hb dX4_commonValue_12 rfl (lv_at hl 0 rfl) ?_
      replace h := bd h
      obtain ⟨x6, q7, h⟩ := h
      refine fg_3_1 hx hb hts hown hK hP wd_113 q7 dX4_commonValue_13 ?_
      refine lv_icmp_ge (tgt := 50) hx hb dX4_commonValue_16 (by decide) (fun c8 => ?_) (fun c8 => ?_)
      · replace h := ifp c8 h
        cases h
        exact hexit _ _ _ hP hS (lv_sub hl [2] rfl)
      · replace h := ifn c8 h
        refine lv_aload_n hx hb dX4_commonValue_19 rfl (lv_at hl 0 rfl) ?_
        refine lv_aload_n hx hb dX4_commonValue_20 rfl (lv_at hl 0 rfl) ?_
        replace h := bd h
        obtain ⟨x9, q10, h⟩ := h
        refine fg_3_0 hx hb hts hown hK hP wd_112 q10 dX4_commonValue_21 ?_
        refine lv_iload_n hx hb dX4_commonValue_24 rfl (lv_at hl 3 rfl) ?_
        replace h := bd h
        obtain ⟨x11, q12, h⟩ := h
        refine r_aI hx hb hK hP q12 dX4_commonValue_25 ?_
        replace h := bd h
        obtain ⟨_, q13, h⟩ := h
        replace h := bd h
        obtain ⟨x15, q14, h⟩ := h
        refine c_X4_timesOf ⟨hx, hb, hml, hown, hts⟩ hl.1 hK hP hS wd_388 ⟨(Nat.le_of_ble_eq_true rfl), (Nat.le_of_ble_eq_true rfl)⟩ q14 q13 (Nat.le_of_ble_eq_true rfl) dX4_commonValue_26 ⟨(Nat.le_of_ble_eq_true rfl), (Nat.le_of_ble_eq_true rfl)⟩ (fun H locs hP hS => ?_)
        refine lv_iload_n hx hb dX4_commonValue_29 rfl (lv_at hl 1 rfl) ?_
        replace h := bd h
        obtain ⟨t16, ht, h⟩ := h
        have K16 : ∀ (H : Heap) (locs : List Loc) (ls : Array Slot), SP D cy S11_ H → va_S noA s.heap H locs → lv_has ls 4 [(0, .ref y11_0), (1, .int y11_1), (2, .int t16), (3, .int y11_3)] → W p l e rm_X4_commonValue s m ([.ref a0] : List Value).toArray below meth c H locs 0 0 (MQ below (va_Qi (fun r' (_ : Unit) => r' = r) (fun _ _ => True) noA) ([.ref a0] : List Value).toArray s 0 0 noA) (F0 m 44 ls []) := by
          intro H locs ls hP hS hl
          refine lv_iinc (v := (y11_3 + 1)) (lv' := [(3, .int (y11_3 + 1)), (0, .ref y11_0), (1, .int y11_1), (2, .int t16)]) hx hb dX4_commonValue_44 hl (k := 3) rfl rfl (by decide) rfl (fun ls hl => ?_)
          refine lv_goto (tgt := 11) hx hb dX4_commonValue_47 (by decide) ?_
          exact ih t16 (y11_3 + 1) _ h _ _ _ hP hS (lv_sub hl [1, 2, 3, 0] rfl) hexit
        replace h := ht
        refine lv_icmp_ne (tgt := 44) hx hb dX4_commonValue_30 (by decide) (fun c17 => ?_) (fun c17 => ?_)
        · replace h := ifn c17 h
          cases h
          exact K16 _ _ _ hP hS (lv_sub hl [0, 1, 2, 3] rfl)
        · replace h := ifp c17 h
          refine lv_iload_n hx hb dX4_commonValue_33 rfl (lv_at hl 2 rfl) ?_
          refine lv_aload_n hx hb dX4_commonValue_34 rfl (lv_at hl 0 rfl) ?_
          replace h := bd h
          obtain ⟨x18, q19, h⟩ := h
          refine fg_3_0 hx hb hts hown hK hP wd_112 q19 dX4_commonValue_35 ?_
          refine lv_iload_n hx hb dX4_commonValue_38 rfl (lv_at hl 3 rfl) ?_
          replace h := bd h
          obtain ⟨x20, q21, h⟩ := h
          refine r_aI hx hb hK hP q21 dX4_commonValue_39 ?_
          refine va_mmin hx hb (hml.trans hl.1.symm) hown (hts _ wd_392) (hts _ wd_393) (hts _ wd_83) (hts _ wd_394) (Nat.le_of_ble_eq_true rfl) (Nat.le_of_ble_eq_true rfl) (Nat.le_of_ble_eq_true rfl) (Nat.le_of_ble_eq_true rfl) dX4_commonValue_40 ?_
          refine lv_istore_n (lv' := [(2, .int (if x20 < y11_2 then x20 else y11_2)), (0, .ref y11_0), (1, .int y11_1), (3, .int y11_3)]) hx hb dX4_commonValue_43 rfl hl (by decide) rfl (fun ls hl => ?_)
          cases h
          exact K16 _ _ _ hP hS (lv_sub hl [1, 2, 0, 3] rfl)
  replace h := bd h
  obtain ⟨z4, q22, h⟩ := h
  refine L11 S a0 x3 FU 255 0 z4 q22 _ _ _ hP hS (lv_sub hl [3, 2, 1, 0] rfl) (fun H locs ls hP hS hl => ?_)
  refine lv_iload_n hx hb dX4_commonValue_50 rfl (lv_at hl 0 rfl) ?_
  cases h
  exact e_ip hx hb hlocks hr hS (Nat.le_of_ble_eq_true rfl) (Nat.le_of_ble_eq_true rfl) dX4_commonValue_51
set_option maxRecDepth 100000 in
theorem c_X4_commonValue {p : Program} {l : Launch} {e : Env} {R : Room} {s : State} {m : MethodId} {args : Array Value} {below : List Frame} {meth : Method} {c : Code} {H : Heap} {locs : List Loc} {cells slots : Nat} {Q : State → Prop} {cc : ByteArray} {pc index nL : Nat} {ls : Array Slot} {rest : List Value} {D : va_G} {cy : Nat → ClassId} {A0 : Nat → Prop} {S : St} {H0 : Heap} {own : String} {u : Unit} {a0 : Nat} {r : Int32}  (hF : CallFix p m c cc nL s args ALLW own) (hsz : ls.size = nL) (hK : va_K D vwCl (tyL cy) s) (hP : SP D cy S H) (hS : va_S A0 H0 H locs) (hk : Cond.methodLink own index yX4_commonValue ∈ ALLW) (hR : rm_X4_commonValue.frames + 1 ≤ R.frames ∧ 8 + (4 + 11) + rm_X4_commonValue.locals ≤ R.locals) (h : f_X4_commonValue S a0 = some r) (hc : oO S a0 3 = some u) (hW : (rest.map fun v => v.category).sum ≤ 8) (hdg : decode cc pc = .ok (.invokevirtual index, 3)) (hf : cells + 0 ≤ R.cells ∧ slots + 0 ≤ R.slots)
    (kk : ∀ (H1 : Heap) (locs1 : List Loc), SP D cy S H1 → va_S A0 H0 H1 locs1 → W p l e R s m args below meth c H1 locs1 (cells + 0) (slots + 0) Q (F0 m (pc + 3) ls (.int r :: rest))) : W p l e R s m args below meth c H locs cells slots Q (F0 m pc ls (.ref a0 :: rest)) := by
  exact k_iVp (As := []) hF hsz (m_X4_commonValue l D cy S a0 r h) (cwV_of (n := 0) hF.2.2.2.2 hk wd_384 wd_385 wd_72 wd_386 rfl rfl (by decide +kernel) hR) rfl hK hP hS (ci := 3) hc rfl hW rfl hdg hf kk
/-- VowBlocks$Row.least()I -/
def f_X4_least_L6 (S6_ : St) (y6_0 : Nat) : Nat → Int32 → Int32 →  Option (Int32)
  | 0, _, _ => none
  | fu + 1, y6_1, y6_2 =>
    (gI S6_ y6_0 3 1).bind fun x3 =>
    if x3 ≤ y6_2 then
      some y6_1
    else
      (gR S6_ y6_0 3 0).bind fun x6 =>
      (aI S6_ x6 y6_2).bind fun x8 =>
      f_X4_least_L6 S6_ y6_0 fu (if x8 < y6_1 then x8 else y6_1) (y6_2 + 1)
def f_X4_least (S : St) (a0 : Nat) : Option (Int32) :=
  (f_X4_least_L6 S a0 FU 255 0).bind fun z1 =>
  some z1
abbrev rm_X4_least : Room := { frames := 1, cells := 0, slots := 0, locals := 13 }
set_option maxHeartbeats 4000000 in
set_option maxRecDepth 100000 in
theorem m_X4_least (l : Launch) (D : va_G) (cy : Nat → ClassId) (S : St) (a0 : Nat) (r : Int32) (h : f_X4_least S a0 = some r) : Met l yX4_least (wsA yX4_least cX4_least 3 (some .int)) rm_X4_least (va_Pc [.ref a0] (PS D cy S)) (va_Qi (fun r' (_ : Unit) => r' = r) (fun _ _ => True) noA) 0 0 noA := by
  refine Met.ofW (cc := cX4_least) (maxL := 3) (ret := (some .int)) (by decide) rfl ?_
  intro p e s m args below meth c s₁ B hml hv
  obtain ⟨rfl, hP, hK⟩ := hv
  have hx := B.exec
  have hb := B.bytes
  have hr := B.returns
  have hts9 := atoms_spec (ws := wsA yX4_least cX4_least 3 (some .int)) B.pre
  have hts : ∀ w ∈ ALLW, w.before _ s = true := fun w h => hts9 w (List.mem_cons_of_mem _ h)
  have hown : s.vm.findClass RX4 = some m.cls := findClass_of_methodNamed B.named
  have hlocks := B.notSynchronized
  have hS : va_S noA s.heap s.heap [] := va_S.rf
  have hl := lv_entry [.ref a0] (n := 3) (Nat.le_of_ble_eq_true rfl)
  rw [lg_entry_eq]
  generalize (lg_sl [.ref a0] ++ List.replicate (3 - (lg_sl [.ref a0]).length) Slot.unset).toArray = ls at hl ⊢
  have hl : lv_has ls 3 [(0, .ref a0)] := hl
  rw [f_X4_least] at h
  refine lv_sipush (v := 255) hx hb dX4_least_0 (by decide) ?_
  refine lv_istore_n (lv' := [(1, .int 255), (0, .ref a0)]) hx hb dX4_least_3 rfl hl (by decide) rfl (fun ls hl => ?_)
  refine lv_iconst (v := 0) hx hb dX4_least_4 (by decide) ?_
  refine lv_istore_n (lv' := [(2, .int 0), (1, .int 255), (0, .ref a0)]) hx hb dX4_least_5 rfl hl (by decide) rfl (fun ls hl => ?_)
  have L6 : ∀ (S6_ : St) (y6_0 : Nat) (fu : Nat) (y6_1 : Int32) (y6_2 : Int32) (res : Int32), f_X4_least_L6 S6_ y6_0 fu y6_1 y6_2 = some res → ∀ (H : Heap) (locs : List Loc) (ls : Array Slot), SP D cy S6_ H → va_S noA s.heap H locs → lv_has ls 3 [(0, .ref y6_0), (1, .int y6_1), (2, .int y6_2)] → (∀ (H : Heap) (locs : List Loc) (ls : Array Slot), SP D cy S6_ H → va_S noA s.heap H locs → lv_has ls 3 [(1, .int res)] → W p l e rm_X4_least s m ([.ref a0] : List Value).toArray below meth c H locs 0 0 (MQ below (va_Qi (fun r' (_ : Unit) => r' = r) (fun _ _ => True) noA) ([.ref a0] : List Value).toArray s 0 0 noA) (F0 m 31 ls [])) → W p l e rm_X4_least s m ([.ref a0] : List Value).toArray below meth c H locs 0 0 (MQ below (va_Qi (fun r' (_ : Unit) => r' = r) (fun _ _ => True) noA) ([.ref a0] : List Value).toArray s 0 0 noA) (F0 m 6 ls []) := by
    intro S6_ y6_0 fu
    induction fu with
    | zero =>
      intro y6_1 y6_2 res h
      rw [f_X4_least_L6] at h
      cases h
    | succ fu ih =>
      intro y6_1 y6_2 res h H locs ls hP hS hl hexit
      rw [f_X4_least_L6] at h
      refine lv_iload_n hx hb dX4_least_6 rfl (lv_at hl 2 rfl) ?_
      refine lv_aload_n hx hb dX4_least_7 rfl (lv_at hl 0 rfl) ?_
      replace h := bd h
      obtain ⟨x3, q4, h⟩ := h
      refine fg_3_1 hx hb hts hown hK hP wd_113 q4 dX4_least_8 ?_
      refine lv_icmp_ge (tgt := 31) hx hb dX4_least_11 (by decide) (fun c5 => ?_) (fun c5 => ?_)
      · replace h := ifp c5 h
        cases h
        exact hexit _ _ _ hP hS (lv_sub hl [1] rfl)
      · replace h := ifn c5 h
        refine lv_iload_n hx hb dX4_least_14 rfl (lv_at hl 1 rfl) ?_
        refine lv_aload_n hx hb dX4_least_15 rfl (lv_at hl 0 rfl) ?_
        replace h := bd h
        obtain ⟨x6, q7, h⟩ := h
        refine fg_3_0 hx hb hts hown hK hP wd_112 q7 dX4_least_16 ?_
        refine lv_iload_n hx hb dX4_least_19 rfl (lv_at hl 2 rfl) ?_
        replace h := bd h
        obtain ⟨x8, q9, h⟩ := h
        refine r_aI hx hb hK hP q9 dX4_least_20 ?_
        refine va_mmin hx hb (hml.trans hl.1.symm) hown (hts _ wd_392) (hts _ wd_393) (hts _ wd_83) (hts _ wd_394) (Nat.le_of_ble_eq_true rfl) (Nat.le_of_ble_eq_true rfl) (Nat.le_of_ble_eq_true rfl) (Nat.le_of_ble_eq_true rfl) dX4_least_21 ?_
        refine lv_istore_n (lv' := [(1, .int (if x8 < y6_1 then x8 else y6_1)), (0, .ref y6_0), (2, .int y6_2)]) hx hb dX4_least_24 rfl hl (by decide) rfl (fun ls hl => ?_)
        refine lv_iinc (v := (y6_2 + 1)) (lv' := [(2, .int (y6_2 + 1)), (1, .int (if x8 < y6_1 then x8 else y6_1)), (0, .ref y6_0)]) hx hb dX4_least_25 hl (k := 2) rfl rfl (by decide) rfl (fun ls hl => ?_)
        refine lv_goto (tgt := 6) hx hb dX4_least_28 (by decide) ?_
        exact ih (if x8 < y6_1 then x8 else y6_1) (y6_2 + 1) _ h _ _ _ hP hS (lv_sub hl [2, 1, 0] rfl) hexit
  replace h := bd h
  obtain ⟨z1, q10, h⟩ := h
  refine L6 S a0 FU 255 0 z1 q10 _ _ _ hP hS (lv_sub hl [2, 1, 0] rfl) (fun H locs ls hP hS hl => ?_)
  refine lv_iload_n hx hb dX4_least_31 rfl (lv_at hl 0 rfl) ?_
  cases h
  exact e_ip hx hb hlocks hr hS (Nat.le_of_ble_eq_true rfl) (Nat.le_of_ble_eq_true rfl) dX4_least_32
set_option maxRecDepth 100000 in
theorem c_X4_least {p : Program} {l : Launch} {e : Env} {R : Room} {s : State} {m : MethodId} {args : Array Value} {below : List Frame} {meth : Method} {c : Code} {H : Heap} {locs : List Loc} {cells slots : Nat} {Q : State → Prop} {cc : ByteArray} {pc index nL : Nat} {ls : Array Slot} {rest : List Value} {D : va_G} {cy : Nat → ClassId} {A0 : Nat → Prop} {S : St} {H0 : Heap} {own : String} {u : Unit} {a0 : Nat} {r : Int32}  (hF : CallFix p m c cc nL s args ALLW own) (hsz : ls.size = nL) (hK : va_K D vwCl (tyL cy) s) (hP : SP D cy S H) (hS : va_S A0 H0 H locs) (hk : Cond.methodLink own index yX4_least ∈ ALLW) (hR : rm_X4_least.frames + 1 ≤ R.frames ∧ 8 + (3 + 11) + rm_X4_least.locals ≤ R.locals) (h : f_X4_least S a0 = some r) (hc : oO S a0 3 = some u) (hW : (rest.map fun v => v.category).sum ≤ 8) (hdg : decode cc pc = .ok (.invokevirtual index, 3)) (hf : cells + 0 ≤ R.cells ∧ slots + 0 ≤ R.slots)
    (kk : ∀ (H1 : Heap) (locs1 : List Loc), SP D cy S H1 → va_S A0 H0 H1 locs1 → W p l e R s m args below meth c H1 locs1 (cells + 0) (slots + 0) Q (F0 m (pc + 3) ls (.int r :: rest))) : W p l e R s m args below meth c H locs cells slots Q (F0 m pc ls (.ref a0 :: rest)) := by
  exact k_iVp (As := []) hF hsz (m_X4_least l D cy S a0 r h) (cwV_of (n := 0) hF.2.2.2.2 hk wd_399 wd_400 wd_72 wd_401 rfl rfl (by decide +kernel) hR) rfl hK hP hS (ci := 3) hc rfl hW rfl hdg hf kk
/-- VowBlocks$Row.sum()I -/
def f_X4_sum_L4 (S4_ : St) (y4_0 : Nat) : Nat → Int32 → Int32 →  Option (Int32)
  | 0, _, _ => none
  | fu + 1, y4_1, y4_2 =>
    (gI S4_ y4_0 3 1).bind fun x3 =>
    if x3 ≤ y4_2 then
      some y4_1
    else
      (gR S4_ y4_0 3 0).bind fun x6 =>
      (aI S4_ x6 y4_2).bind fun x8 =>
      f_X4_sum_L4 S4_ y4_0 fu (y4_1 + x8) (y4_2 + 1)
def f_X4_sum (S : St) (a0 : Nat) : Option (Int32) :=
  (f_X4_sum_L4 S a0 FU 0 0).bind fun z1 =>
  some z1
abbrev rm_X4_sum : Room := { frames := 0, cells := 0, slots := 0, locals := 0 }
set_option maxHeartbeats 4000000 in
set_option maxRecDepth 100000 in
theorem m_X4_sum (l : Launch) (D : va_G) (cy : Nat → ClassId) (S : St) (a0 : Nat) (r : Int32) (h : f_X4_sum S a0 = some r) : Met l yX4_sum (wsA yX4_sum cX4_sum 3 (some .int)) rm_X4_sum (va_Pc [.ref a0] (PS D cy S)) (va_Qi (fun r' (_ : Unit) => r' = r) (fun _ _ => True) noA) 0 0 noA := by
  refine Met.ofW (cc := cX4_sum) (maxL := 3) (ret := (some .int)) (by decide) rfl ?_
  intro p e s m args below meth c s₁ B hml hv
  obtain ⟨rfl, hP, hK⟩ := hv
  have hx := B.exec
  have hb := B.bytes
  have hr := B.returns
  have hts9 := atoms_spec (ws := wsA yX4_sum cX4_sum 3 (some .int)) B.pre
  have hts : ∀ w ∈ ALLW, w.before _ s = true := fun w h => hts9 w (List.mem_cons_of_mem _ h)
  have hown : s.vm.findClass RX4 = some m.cls := findClass_of_methodNamed B.named
  have hlocks := B.notSynchronized
  have hS : va_S noA s.heap s.heap [] := va_S.rf
  have hl := lv_entry [.ref a0] (n := 3) (Nat.le_of_ble_eq_true rfl)
  rw [lg_entry_eq]
  generalize (lg_sl [.ref a0] ++ List.replicate (3 - (lg_sl [.ref a0]).length) Slot.unset).toArray = ls at hl ⊢
  have hl : lv_has ls 3 [(0, .ref a0)] := hl
  rw [f_X4_sum] at h
  refine lv_iconst (v := 0) hx hb dX4_sum_0 (by decide) ?_
  refine lv_istore_n (lv' := [(1, .int 0), (0, .ref a0)]) hx hb dX4_sum_1 rfl hl (by decide) rfl (fun ls hl => ?_)
  refine lv_iconst (v := 0) hx hb dX4_sum_2 (by decide) ?_
  refine lv_istore_n (lv' := [(2, .int 0), (1, .int 0), (0, .ref a0)]) hx hb dX4_sum_3 rfl hl (by decide) rfl (fun ls hl => ?_)
  have L4 : ∀ (S4_ : St) (y4_0 : Nat) (fu : Nat) (y4_1 : Int32) (y4_2 : Int32) (res : Int32), f_X4_sum_L4 S4_ y4_0 fu y4_1 y4_2 = some res → ∀ (H : Heap) (locs : List Loc) (ls : Array Slot), SP D cy S4_ H → va_S noA s.heap H locs → lv_has ls 3 [(0, .ref y4_0), (1, .int y4_1), (2, .int y4_2)] → (∀ (H : Heap) (locs : List Loc) (ls : Array Slot), SP D cy S4_ H → va_S noA s.heap H locs → lv_has ls 3 [(1, .int res)] → W p l e rm_X4_sum s m ([.ref a0] : List Value).toArray below meth c H locs 0 0 (MQ below (va_Qi (fun r' (_ : Unit) => r' = r) (fun _ _ => True) noA) ([.ref a0] : List Value).toArray s 0 0 noA) (F0 m 27 ls [])) → W p l e rm_X4_sum s m ([.ref a0] : List Value).toArray below meth c H locs 0 0 (MQ below (va_Qi (fun r' (_ : Unit) => r' = r) (fun _ _ => True) noA) ([.ref a0] : List Value).toArray s 0 0 noA) (F0 m 4 ls []) := by
    intro S4_ y4_0 fu
    induction fu with
    | zero =>
      intro y4_1 y4_2 res h
      rw [f_X4_sum_L4] at h
      cases h
    | succ fu ih =>
      intro y4_1 y4_2 res h H locs ls hP hS hl hexit
      rw [f_X4_sum_L4] at h
      refine lv_iload_n hx hb dX4_sum_4 rfl (lv_at hl 2 rfl) ?_
      refine lv_aload_n hx hb dX4_sum_5 rfl (lv_at hl 0 rfl) ?_
      replace h := bd h
      obtain ⟨x3, q4, h⟩ := h
      refine fg_3_1 hx hb hts hown hK hP wd_113 q4 dX4_sum_6 ?_
      refine lv_icmp_ge (tgt := 27) hx hb dX4_sum_9 (by decide) (fun c5 => ?_) (fun c5 => ?_)
      · replace h := ifp c5 h
        cases h
        exact hexit _ _ _ hP hS (lv_sub hl [1] rfl)
      · replace h := ifn c5 h
        refine lv_iload_n hx hb dX4_sum_12 rfl (lv_at hl 1 rfl) ?_
        refine lv_aload_n hx hb dX4_sum_13 rfl (lv_at hl 0 rfl) ?_
        replace h := bd h
        obtain ⟨x6, q7, h⟩ := h
        refine fg_3_0 hx hb hts hown hK hP wd_112 q7 dX4_sum_14 ?_
        refine lv_iload_n hx hb dX4_sum_17 rfl (lv_at hl 2 rfl) ?_
        replace h := bd h
        obtain ⟨x8, q9, h⟩ := h
        refine r_aI hx hb hK hP q9 dX4_sum_18 ?_
        refine lv_iadd hx hb dX4_sum_19 ?_
        refine lv_istore_n (lv' := [(1, .int (y4_1 + x8)), (0, .ref y4_0), (2, .int y4_2)]) hx hb dX4_sum_20 rfl hl (by decide) rfl (fun ls hl => ?_)
        refine lv_iinc (v := (y4_2 + 1)) (lv' := [(2, .int (y4_2 + 1)), (1, .int (y4_1 + x8)), (0, .ref y4_0)]) hx hb dX4_sum_21 hl (k := 2) rfl rfl (by decide) rfl (fun ls hl => ?_)
        refine lv_goto (tgt := 4) hx hb dX4_sum_24 (by decide) ?_
        exact ih (y4_1 + x8) (y4_2 + 1) _ h _ _ _ hP hS (lv_sub hl [2, 1, 0] rfl) hexit
  replace h := bd h
  obtain ⟨z1, q10, h⟩ := h
  refine L4 S a0 FU 0 0 z1 q10 _ _ _ hP hS (lv_sub hl [2, 1, 0] rfl) (fun H locs ls hP hS hl => ?_)
  refine lv_iload_n hx hb dX4_sum_27 rfl (lv_at hl 0 rfl) ?_
  cases h
  exact e_ip hx hb hlocks hr hS (Nat.le_of_ble_eq_true rfl) (Nat.le_of_ble_eq_true rfl) dX4_sum_28
set_option maxRecDepth 100000 in
theorem c_X4_sum {p : Program} {l : Launch} {e : Env} {R : Room} {s : State} {m : MethodId} {args : Array Value} {below : List Frame} {meth : Method} {c : Code} {H : Heap} {locs : List Loc} {cells slots : Nat} {Q : State → Prop} {cc : ByteArray} {pc index nL : Nat} {ls : Array Slot} {rest : List Value} {D : va_G} {cy : Nat → ClassId} {A0 : Nat → Prop} {S : St} {H0 : Heap} {own : String} {u : Unit} {a0 : Nat} {r : Int32}  (hF : CallFix p m c cc nL s args ALLW own) (hsz : ls.size = nL) (hK : va_K D vwCl (tyL cy) s) (hP : SP D cy S H) (hS : va_S A0 H0 H locs) (hk : Cond.methodLink own index yX4_sum ∈ ALLW) (hR : rm_X4_sum.frames + 1 ≤ R.frames ∧ 8 + (3 + 11) + rm_X4_sum.locals ≤ R.locals) (h : f_X4_sum S a0 = some r) (hc : oO S a0 3 = some u) (hW : (rest.map fun v => v.category).sum ≤ 8) (hdg : decode cc pc = .ok (.invokevirtual index, 3)) (hf : cells + 0 ≤ R.cells ∧ slots + 0 ≤ R.slots)
    (kk : ∀ (H1 : Heap) (locs1 : List Loc), SP D cy S H1 → va_S A0 H0 H1 locs1 → W p l e R s m args below meth c H1 locs1 (cells + 0) (slots + 0) Q (F0 m (pc + 3) ls (.int r :: rest))) : W p l e R s m args below meth c H locs cells slots Q (F0 m pc ls (.ref a0 :: rest)) := by
  exact k_iVp (As := []) hF hsz (m_X4_sum l D cy S a0 r h) (cwV_of (n := 0) hF.2.2.2.2 hk wd_767 wd_768 wd_72 wd_769 rfl rfl (by decide +kernel) hR) rfl hK hP hS (ci := 3) hc rfl hW rfl hdg hf kk
/-- VowBlocks$Row.isLike(LVowBlocks$Row;)Z -/
def f_X4_isLike_L15 (S15_ : St) (y15_0 : Nat) (y15_1 : Nat) : Nat → Int32 →  Option ((Int32) ⊕ (Unit))
  | 0, _ => none
  | fu + 1, y15_2 =>
    (gI S15_ y15_0 3 1).bind fun x8 =>
    if x8 ≤ y15_2 then
      some (.inr ())
    else
      (gR S15_ y15_0 3 0).bind fun x11 =>
      (aI S15_ x11 y15_2).bind fun x13 =>
      (gR S15_ y15_1 3 0).bind fun x15 =>
      (aI S15_ x15 y15_2).bind fun x17 =>
      if x13 = x17 then
        f_X4_isLike_L15 S15_ y15_0 y15_1 fu (y15_2 + 1)
      else
        some (.inl 0)
def f_X4_isLike (S : St) (a0 : Nat) (a1 : Nat) : Option (Int32) :=
  (gI S a0 3 1).bind fun x1 =>
  (gI S a1 3 1).bind fun x3 =>
  if x1 = x3 then
    (f_X4_isLike_L15 S a0 a1 FU 0).bind fun z6 =>
    Sum.elim (fun y => some y) (fun t15_6 =>
    some 1
    ) z6
  else
    some 0
abbrev rm_X4_isLike : Room := { frames := 0, cells := 0, slots := 0, locals := 0 }
set_option maxHeartbeats 4000000 in
set_option maxRecDepth 100000 in
theorem m_X4_isLike (l : Launch) (D : va_G) (cy : Nat → ClassId) (S : St) (a0 : Nat) (a1 : Nat) (r : Int32) (h : f_X4_isLike S a0 a1 = some r) : Met l yX4_isLike (wsA yX4_isLike cX4_isLike 3 (some .boolean)) rm_X4_isLike (va_Pc [.ref a0, .ref a1] (PS D cy S)) (va_Qi (fun r' (_ : Unit) => r' = r) (fun _ _ => True) noA) 0 0 noA := by
  refine Met.ofW (cc := cX4_isLike) (maxL := 3) (ret := (some .boolean)) (by decide) rfl ?_
  intro p e s m args below meth c s₁ B hml hv
  obtain ⟨rfl, hP, hK⟩ := hv
  have hx := B.exec
  have hb := B.bytes
  have hr := B.returns
  have hts9 := atoms_spec (ws := wsA yX4_isLike cX4_isLike 3 (some .boolean)) B.pre
  have hts : ∀ w ∈ ALLW, w.before _ s = true := fun w h => hts9 w (List.mem_cons_of_mem _ h)
  have hown : s.vm.findClass RX4 = some m.cls := findClass_of_methodNamed B.named
  have hlocks := B.notSynchronized
  have hS : va_S noA s.heap s.heap [] := va_S.rf
  have hl := lv_entry [.ref a0, .ref a1] (n := 3) (Nat.le_of_ble_eq_true rfl)
  rw [lg_entry_eq]
  generalize (lg_sl [.ref a0, .ref a1] ++ List.replicate (3 - (lg_sl [.ref a0, .ref a1]).length) Slot.unset).toArray = ls at hl ⊢
  have hl : lv_has ls 3 [(0, .ref a0), (1, .ref a1)] := hl
  rw [f_X4_isLike] at h
  refine lv_aload_n hx hb dX4_isLike_0 rfl (lv_at hl 0 rfl) ?_
  replace h := bd h
  obtain ⟨x1, q2, h⟩ := h
  refine fg_3_1 hx hb hts hown hK hP wd_113 q2 dX4_isLike_1 ?_
  refine lv_aload_n hx hb dX4_isLike_4 rfl (lv_at hl 1 rfl) ?_
  replace h := bd h
  obtain ⟨x3, q4, h⟩ := h
  refine fg_3_1 hx hb hts hown hK hP wd_113 q4 dX4_isLike_5 ?_
  refine lv_icmp_eq (tgt := 13) hx hb dX4_isLike_8 (by decide) (fun c5 => ?_) (fun c5 => ?_)
  · replace h := ifp c5 h
    refine lv_iconst (v := 0) hx hb dX4_isLike_13 (by decide) ?_
    refine lv_istore_n (lv' := [(2, .int 0), (0, .ref a0), (1, .ref a1)]) hx hb dX4_isLike_14 rfl hl (by decide) rfl (fun ls hl => ?_)
    have L15 : ∀ (S15_ : St) (y15_0 : Nat) (y15_1 : Nat) (fu : Nat) (y15_2 : Int32) (res : (Int32) ⊕ (Unit)), f_X4_isLike_L15 S15_ y15_0 y15_1 fu y15_2 = some res → ∀ (H : Heap) (locs : List Loc) (ls : Array Slot), SP D cy S15_ H → va_S noA s.heap H locs → lv_has ls 3 [(0, .ref y15_0), (1, .ref y15_1), (2, .int y15_2)] → (∀ y : Int32, res = .inl y → y = r) → (∀ t15_6 : Unit, res = .inr t15_6 → ∀ (H : Heap) (locs : List Loc) (ls : Array Slot), SP D cy S15_ H → va_S noA s.heap H locs → lv_has ls 3 [] → W p l e rm_X4_isLike s m ([.ref a0, .ref a1] : List Value).toArray below meth c H locs 0 0 (MQ below (va_Qi (fun r' (_ : Unit) => r' = r) (fun _ _ => True) noA) ([.ref a0, .ref a1] : List Value).toArray s 0 0 noA) (F0 m 46 ls [])) → W p l e rm_X4_isLike s m ([.ref a0, .ref a1] : List Value).toArray below meth c H locs 0 0 (MQ below (va_Qi (fun r' (_ : Unit) => r' = r) (fun _ _ => True) noA) ([.ref a0, .ref a1] : List Value).toArray s 0 0 noA) (F0 m 15 ls []) := by
      intro S15_ y15_0 y15_1 fu
      induction fu with
      | zero =>
        intro y15_2 res h
        rw [f_X4_isLike_L15] at h
        cases h
      | succ fu ih =>
        intro y15_2 res h H locs ls hP hS hl hret hexit
        rw [f_X4_isLike_L15] at h
        refine lv_iload_n hx hb dX4_isLike_15 rfl (lv_at hl 2 rfl) ?_
        refine lv_aload_n hx hb dX4_isLike_16 rfl (lv_at hl 0 rfl) ?_
        replace h := bd h
        obtain ⟨x8, q9, h⟩ := h
        refine fg_3_1 hx hb hts hown hK hP wd_113 q9 dX4_isLike_17 ?_
        refine lv_icmp_ge (tgt := 46) hx hb dX4_isLike_20 (by decide) (fun c10 => ?_) (fun c10 => ?_)
        · replace h := ifp c10 h
          cases h
          exact hexit _ rfl _ _ _ hP hS (lv_sub hl [] rfl)
        · replace h := ifn c10 h
          refine lv_aload_n hx hb dX4_isLike_23 rfl (lv_at hl 0 rfl) ?_
          replace h := bd h
          obtain ⟨x11, q12, h⟩ := h
          refine fg_3_0 hx hb hts hown hK hP wd_112 q12 dX4_isLike_24 ?_
          refine lv_iload_n hx hb dX4_isLike_27 rfl (lv_at hl 2 rfl) ?_
          replace h := bd h
          obtain ⟨x13, q14, h⟩ := h
          refine r_aI hx hb hK hP q14 dX4_isLike_28 ?_
          refine lv_aload_n hx hb dX4_isLike_29 rfl (lv_at hl 1 rfl) ?_
          replace h := bd h
          obtain ⟨x15, q16, h⟩ := h
          refine fg_3_0 hx hb hts hown hK hP wd_112 q16 dX4_isLike_30 ?_
          refine lv_iload_n hx hb dX4_isLike_33 rfl (lv_at hl 2 rfl) ?_
          replace h := bd h
          obtain ⟨x17, q18, h⟩ := h
          refine r_aI hx hb hK hP q18 dX4_isLike_34 ?_
          refine lv_icmp_eq (tgt := 40) hx hb dX4_isLike_35 (by decide) (fun c19 => ?_) (fun c19 => ?_)
          · replace h := ifp c19 h
            refine lv_iinc (v := (y15_2 + 1)) (lv' := [(2, .int (y15_2 + 1)), (0, .ref y15_0), (1, .ref y15_1)]) hx hb dX4_isLike_40 hl (k := 2) rfl rfl (by decide) rfl (fun ls hl => ?_)
            refine lv_goto (tgt := 15) hx hb dX4_isLike_43 (by decide) ?_
            exact ih (y15_2 + 1) _ h _ _ _ hP hS (lv_sub hl [1, 2, 0] rfl) hret hexit
          · replace h := ifn c19 h
            refine lv_iconst (v := 0) hx hb dX4_isLike_38 (by decide) ?_
            cases h
            have h := hret _ rfl
            cases h
            exact e_zp hx hb hlocks (by decide) hr hS (Nat.le_of_ble_eq_true rfl) (Nat.le_of_ble_eq_true rfl) dX4_isLike_39
    replace h := bd h
    obtain ⟨z6, q20, h⟩ := h
    refine L15 S a0 a1 FU 0 z6 q20 _ _ _ hP hS (lv_sub hl [1, 2, 0] rfl) (fun y hy => by
      replace h := sel_l hy h
      cases h
      rfl) (fun t15_6 hy H locs ls hP hS hl => ?_)
    replace h := sel_r hy h
    refine lv_iconst (v := 1) hx hb dX4_isLike_46 (by decide) ?_
    cases h
    exact e_zp hx hb hlocks (by decide) hr hS (Nat.le_of_ble_eq_true rfl) (Nat.le_of_ble_eq_true rfl) dX4_isLike_47
  · replace h := ifn c5 h
    refine lv_iconst (v := 0) hx hb dX4_isLike_11 (by decide) ?_
    cases h
    exact e_zp hx hb hlocks (by decide) hr hS (Nat.le_of_ble_eq_true rfl) (Nat.le_of_ble_eq_true rfl) dX4_isLike_12
set_option maxRecDepth 100000 in
theorem c_X4_isLike {p : Program} {l : Launch} {e : Env} {R : Room} {s : State} {m : MethodId} {args : Array Value} {below : List Frame} {meth : Method} {c : Code} {H : Heap} {locs : List Loc} {cells slots : Nat} {Q : State → Prop} {cc : ByteArray} {pc index nL : Nat} {ls : Array Slot} {rest : List Value} {D : va_G} {cy : Nat → ClassId} {A0 : Nat → Prop} {S : St} {H0 : Heap} {own : String} {u : Unit} {a0 : Nat} {a1 : Nat} {r : Int32}  (hF : CallFix p m c cc nL s args ALLW own) (hsz : ls.size = nL) (hK : va_K D vwCl (tyL cy) s) (hP : SP D cy S H) (hS : va_S A0 H0 H locs) (hk : Cond.methodLink own index yX4_isLike ∈ ALLW) (hR : rm_X4_isLike.frames + 1 ≤ R.frames ∧ 8 + (3 + 11) + rm_X4_isLike.locals ≤ R.locals) (h : f_X4_isLike S a0 a1 = some r) (hc : oO S a0 3 = some u) (hW : (rest.map fun v => v.category).sum ≤ 8) (hdg : decode cc pc = .ok (.invokevirtual index, 3)) (hf : cells + 0 ≤ R.cells ∧ slots + 0 ≤ R.slots)
    (kk : ∀ (H1 : Heap) (locs1 : List Loc), SP D cy S H1 → va_S A0 H0 H1 locs1 → W p l e R s m args below meth c H1 locs1 (cells + 0) (slots + 0) Q (F0 m (pc + 3) ls (.int r :: rest))) : W p l e R s m args below meth c H locs cells slots Q (F0 m pc ls (.ref a1 :: .ref a0 :: rest)) := by
  exact k_iVp (As := [.ref a1]) hF hsz (m_X4_isLike l D cy S a0 a1 r h) (cwV_of (n := 1) hF.2.2.2.2 hk wd_323 wd_324 wd_72 wd_325 rfl rfl (by decide +kernel) hR) rfl hK hP hS (ci := 3) hc rfl hW rfl hdg hf kk
