/-- VowBlocks.<init>()V -/
def f_X6_init (S : St) (sz : Nat) (a0 : Nat) : Option (St × Nat) :=
  (f_X2_init (va_up S sz (some (.inl (1, [.null, .int 0, .int 0, .int 0, .int 0])))) (sz + 1) sz).bind fun z2 =>
  (pR z2.1 a0 5 0 sz).bind fun Z4 =>
  (f_X3_init (va_up Z4 z2.2 (some (.inl (2, [.null, .int 0])))) (z2.2 + 1) z2.2).bind fun z7 =>
  (pR z7.1 a0 5 1 z2.2).bind fun Z9 =>
  (f_X5_init (va_up Z9 z7.2 (some (.inl (4, [.null, .int 0, .int 0, .int 0, .int 0])))) (z7.2 + 1) z7.2).bind fun z12 =>
  (pR z12.1 a0 5 2 z7.2).bind fun Z14 =>
  (f_X4_init (va_up Z14 z12.2 (some (.inl (3, [.null, .int 0])))) (z12.2 + 1) z12.2).bind fun z17 =>
  (pR z17.1 a0 5 3 z12.2).bind fun Z19 =>
  some (Z19, z17.2)
abbrev rm_X6_init : Room := { frames := 5, cells := 238, slots := 2651, locals := 94 }
set_option maxHeartbeats 4000000 in
set_option maxRecDepth 100000 in
theorem m_X6_init (l : Launch) (D : va_G) (cy : Nat → ClassId) (sz : Nat) (S : St) (a0 : Nat) (S1 : St) (sz1 : Nat) (h : f_X6_init S sz a0 = some (S1, sz1)) : Met l yX6_init (wsA yX6_init cX6_init 1 none) rm_X6_init (va_Pc [.ref a0] (PNA D cy S sz)) (va_Qv (fun _ : Unit => True) (fun _ t => t.heap.size = sz1 ∧ PoS D cy S1 (dm S sz) t) (dm S sz)) 238 2651 (dm S sz) := by
  refine Met.ofW (cc := cX6_init) (maxL := 1) (ret := none) (by decide) rfl ?_
  intro p e s m args below meth c s₁ B hml hv
  obtain ⟨rfl, hz, hP, hK, hE⟩ := hv
  have hx := B.exec
  have hb := B.bytes
  have hr := B.returns
  have hts9 := atoms_spec (ws := wsA yX6_init cX6_init 1 none) B.pre
  have hts : ∀ w ∈ ALLW, w.before _ s = true := fun w h => hts9 w (List.mem_cons_of_mem _ h)
  have hown : s.vm.findClass RX6 = some m.cls := findClass_of_methodNamed B.named
  have hlocks := B.notSynchronized
  have hin : meth.name = "<init>" := (name_of_methodNamed B.named B.method).1
  have hD : ∀ a, S a ≠ none → dm S sz a := fun a h => Or.inl h
  have hA : ∀ q : Nat, s.heap.size ≤ q → dm S sz q := fun q h => Or.inr (hz ▸ h)
  have hS : va_S (dm S sz) s.heap s.heap [] := va_S.rf
  have hl := lv_entry [.ref a0] (n := 1) (Nat.le_of_ble_eq_true rfl)
  rw [lg_entry_eq]
  generalize (lg_sl [.ref a0] ++ List.replicate (1 - (lg_sl [.ref a0]).length) Slot.unset).toArray = ls at hl ⊢
  have hl : lv_has ls 1 [(0, .ref a0)] := hl
  rw [f_X6_init] at h
  refine lv_aload_n hx hb dX6_init_0 rfl (lv_at hl 0 rfl) ?_
  refine W.objInit hx hb hown (hts _ wd_90) (hts _ wd_91) (hts _ wd_92) rfl (hl.1.trans hml.symm) rfl dX6_init_1 (Nat.le_of_ble_eq_true rfl) (Nat.le_of_ble_eq_true rfl) ?_
  refine lv_aload_n hx hb dX6_init_4 rfl (lv_at hl 0 rfl) ?_
  refine r_new (ci := 1) (fs := [.null, .int 0, .int 0, .int 0, .int 0]) (T := TX2) (N := 5) hx hb hts iX2 tyX2 tyX2_ok hown (hts _ wd_93) (hts _ wd_94) (hts _ wd_70) hK hP hD hS hA rfl (fun j hj => by have h9 : j < 5 := hj; match j, h9 with | 0, _ => rfl | 1, _ => rfl | 2, _ => rfl | 3, _ => rfl | 4, _ => rfl) (Nat.le_of_ble_eq_true rfl) (Nat.le_of_ble_eq_true rfl) dX6_init_5 hz (fun H hz hP hD hS => ?_)
  refine lv_dup hx hb dX6_init_8 rfl ?_
  replace h := bd h
  obtain ⟨z2, q3, h⟩ := h
  refine c_X2_init ⟨hx, hb, hml, hown, hts⟩ hl.1 hK hP hD hA hS hE wd_95 ⟨(Nat.le_of_ble_eq_true rfl), (Nat.le_of_ble_eq_true rfl)⟩ q3 hz (Nat.le_of_ble_eq_true rfl) dX6_init_9 ⟨(Nat.le_of_ble_eq_true rfl), (Nat.le_of_ble_eq_true rfl)⟩ (fun H locs hz hP hD hS => ?_)
  replace h := bd h
  obtain ⟨Z4, q5, h⟩ := h
  refine fp_5_0 hx hb hts hown hK hP hD hS hin rfl wd_214 q5 dX6_init_12 (fun H locs hz9 hP hD hS => ?_)
  replace hz := hz9.trans hz
  refine lv_aload_n hx hb dX6_init_15 rfl (lv_at hl 0 rfl) ?_
  refine r_new (ci := 2) (fs := [.null, .int 0]) (T := TX3) (N := 2) hx hb hts iX3 tyX3 tyX3_ok hown (hts _ wd_174) (hts _ wd_175) (hts _ wd_73) hK hP hD hS hA rfl (fun j hj => by have h9 : j < 2 := hj; match j, h9 with | 0, _ => rfl | 1, _ => rfl) (Nat.le_of_ble_eq_true rfl) (Nat.le_of_ble_eq_true rfl) dX6_init_16 hz (fun H hz hP hD hS => ?_)
  refine lv_dup hx hb dX6_init_19 rfl ?_
  replace h := bd h
  obtain ⟨z7, q8, h⟩ := h
  refine c_X3_init ⟨hx, hb, hml, hown, hts⟩ hl.1 hK hP hD hA hS hE wd_176 ⟨(Nat.le_of_ble_eq_true rfl), (Nat.le_of_ble_eq_true rfl)⟩ q8 hz (Nat.le_of_ble_eq_true rfl) dX6_init_20 ⟨(Nat.le_of_ble_eq_true rfl), (Nat.le_of_ble_eq_true rfl)⟩ (fun H locs hz hP hD hS => ?_)
  replace h := bd h
  obtain ⟨Z9, q10, h⟩ := h
  refine fp_5_1 hx hb hts hown hK hP hD hS hin rfl wd_215 q10 dX6_init_23 (fun H locs hz9 hP hD hS => ?_)
  replace hz := hz9.trans hz
  refine lv_aload_n hx hb dX6_init_26 rfl (lv_at hl 0 rfl) ?_
  refine r_new (ci := 4) (fs := [.null, .int 0, .int 0, .int 0, .int 0]) (T := TX5) (N := 5) hx hb hts iX5 tyX5 tyX5_ok hown (hts _ wd_190) (hts _ wd_191) (hts _ wd_74) hK hP hD hS hA rfl (fun j hj => by have h9 : j < 5 := hj; match j, h9 with | 0, _ => rfl | 1, _ => rfl | 2, _ => rfl | 3, _ => rfl | 4, _ => rfl) (Nat.le_of_ble_eq_true rfl) (Nat.le_of_ble_eq_true rfl) dX6_init_27 hz (fun H hz hP hD hS => ?_)
  refine lv_dup hx hb dX6_init_30 rfl ?_
  replace h := bd h
  obtain ⟨z12, q13, h⟩ := h
  refine c_X5_init_n ⟨hx, hb, hml, hown, hts⟩ hl.1 hK hP hD hA hS hE (hE.1 _ wn_192) ⟨(Nat.le_of_ble_eq_true rfl), (Nat.le_of_ble_eq_true rfl)⟩ q13 hz (Nat.le_of_ble_eq_true rfl) dX6_init_31 ⟨(Nat.le_of_ble_eq_true rfl), (Nat.le_of_ble_eq_true rfl)⟩ (fun H locs hz hP hD hS => ?_)
  replace h := bd h
  obtain ⟨Z14, q15, h⟩ := h
  refine fp_5_2 hx hb hts hown hK hP hD hS hin rfl wd_216 q15 dX6_init_34 (fun H locs hz9 hP hD hS => ?_)
  replace hz := hz9.trans hz
  refine lv_aload_n hx hb dX6_init_37 rfl (lv_at hl 0 rfl) ?_
  refine r_new (ci := 3) (fs := [.null, .int 0]) (T := TX4) (N := 2) hx hb hts iX4 tyX4 tyX4_ok hown (hts _ wd_212) (hts _ wd_107) (hts _ wd_72) hK hP hD hS hA rfl (fun j hj => by have h9 : j < 2 := hj; match j, h9 with | 0, _ => rfl | 1, _ => rfl) (Nat.le_of_ble_eq_true rfl) (Nat.le_of_ble_eq_true rfl) dX6_init_38 hz (fun H hz hP hD hS => ?_)
  refine lv_dup hx hb dX6_init_41 rfl ?_
  replace h := bd h
  obtain ⟨z17, q18, h⟩ := h
  refine c_X4_init_n ⟨hx, hb, hml, hown, hts⟩ hl.1 hK hP hD hA hS hE (hE.1 _ wn_213) ⟨(Nat.le_of_ble_eq_true rfl), (Nat.le_of_ble_eq_true rfl)⟩ q18 hz (Nat.le_of_ble_eq_true rfl) dX6_init_42 ⟨(Nat.le_of_ble_eq_true rfl), (Nat.le_of_ble_eq_true rfl)⟩ (fun H locs hz hP hD hS => ?_)
  replace h := bd h
  obtain ⟨Z19, q20, h⟩ := h
  refine fp_5_3 hx hb hts hown hK hP hD hS hin rfl wd_217 q20 dX6_init_45 (fun H locs hz9 hP hD hS => ?_)
  replace hz := hz9.trans hz
  cases h
  exact e_vA hx hb hlocks hr hP hD hz hS (Nat.le_of_ble_eq_true rfl) (Nat.le_of_ble_eq_true rfl) dX6_init_48
set_option maxRecDepth 100000 in
theorem c_X6_init {p : Program} {l : Launch} {e : Env} {R : Room} {s : State} {m : MethodId} {args : Array Value} {below : List Frame} {meth : Method} {c : Code} {H : Heap} {locs : List Loc} {cells slots : Nat} {Q : State → Prop} {cc : ByteArray} {pc index nL : Nat} {ls : Array Slot} {rest : List Value} {D : va_G} {cy : Nat → ClassId} {A0 : Nat → Prop} {S : St} {H0 : Heap} {own : String} {a0 : Nat} {S1 : St} {sz1 szv : Nat}  (hF : CallFix p m c cc nL s args ALLW own) (hsz : ls.size = nL) (hK : va_K D vwCl (tyL cy) s) (hP : SP D cy S H) (hD : ∀ a, S a ≠ none → A0 a) (hA : ∀ q, H0.size ≤ q → A0 q) (hS : va_S A0 H0 H locs) (hE : NWA s) (hk : Cond.methodLink own index yX6_init ∈ ALLW) (hR : rm_X6_init.frames + 1 ≤ R.frames ∧ 8 + (1 + 11) + rm_X6_init.locals ≤ R.locals) (h : f_X6_init S szv a0 = some (S1, sz1)) (hz : H.size = szv) (hW : (rest.map fun v => v.category).sum ≤ 8) (hdg : decode cc pc = .ok (.invokespecial index, 3)) (hf : cells + 238 ≤ R.cells ∧ slots + 2651 ≤ R.slots)
    (kk : ∀ (H1 : Heap) (locs1 : List Loc), H1.size = sz1 → SP D cy S1 H1 → (∀ a, S1 a ≠ none → A0 a) → va_S A0 H0 H1 locs1 → W p l e R s m args below meth c H1 locs1 (cells + 238) (slots + 2651) Q (F0 m (pc + 3) ls (rest))) : W p l e R s m args below meth c H locs cells slots Q (F0 m pc ls (.ref a0 :: rest)) := by
  subst hz
  exact k_I (As := []) (host := "") hF hsz (m_X6_init l D cy H.size S a0 S1 sz1 h) (cwI_of (n := 0) hF.2.2.2.2 hk wd_88 wd_69 wd_89 rfl rfl rfl (by decide +kernel) hR) rfl hK hP hD hA hS hE hW rfl hdg hf kk
/-- VowBlocks.requireWithin(III)V -/
def f_X6_requireWithin (a0 : Int32) (a1 : Int32) (a2 : Int32) : Option (String ⊕ Unit) :=
  if a0 < a1 then
    some (.inl "java/lang/IllegalArgumentException")
  else
    if a0 ≤ a2 then
      some (.inr ())
    else
      some (.inl "java/lang/IllegalArgumentException")
abbrev rm_X6_requireWithin : Room := { frames := 6, cells := 1, slots := 6, locals := 82 }
set_option maxHeartbeats 4000000 in
set_option maxRecDepth 100000 in
theorem m_X6_requireWithin (l : Launch) (hl0 : l.stackTraces = false) (D : va_G) (cy : Nat → ClassId) (S : St) (a0 : Int32) (a1 : Int32) (a2 : Int32) (x : String ⊕ Unit) (h : f_X6_requireWithin a0 a1 a2 = some x) : vx_Met l yX6_requireWithin (wsA yX6_requireWithin cX6_requireWithin 3 none) rm_X6_requireWithin (va_Pc [.int a0, .int a1, .int a2] (PSX D cy S)) (va_Qv (fun _ : Unit => x = .inr ()) (fun _ _ => True) noA) (vx_X (fun _ : Unit => True) (fun E _ _ => x = .inl E) noA) 1 6 noA := by
  refine vx_ofW (cc := cX6_requireWithin) (maxL := 3) (ret := none) (by decide) rfl ?_
  intro p e s m args below meth c s₁ B hml htb hv
  obtain ⟨rfl, hP, hK, hE⟩ := hv
  have hx := B.exec
  have hb := B.bytes
  have hr := B.returns
  have hts9 := atoms_spec (ws := wsA yX6_requireWithin cX6_requireWithin 3 none) B.pre
  have hts : ∀ w ∈ ALLW, w.before _ s = true := fun w h => hts9 w (List.mem_cons_of_mem _ h)
  have hown : s.vm.findClass RX6 = some m.cls := findClass_of_methodNamed B.named
  have hlocks := B.notSynchronized
  have hS : va_S noA s.heap s.heap [] := va_S.rf
  have hl := lv_entry [.int a0, .int a1, .int a2] (n := 3) (Nat.le_of_ble_eq_true rfl)
  rw [lg_entry_eq]
  generalize (lg_sl [.int a0, .int a1, .int a2] ++ List.replicate (3 - (lg_sl [.int a0, .int a1, .int a2]).length) Slot.unset).toArray = ls at hl ⊢
  have hl : lv_has ls 3 [(0, .int a0), (1, .int a1), (2, .int a2)] := hl
  rw [f_X6_requireWithin] at h
  refine lv_iload_n hx hb dX6_requireWithin_0 rfl (lv_at hl 0 rfl) ?_
  refine lv_iload_n hx hb dX6_requireWithin_1 rfl (lv_at hl 1 rfl) ?_
  refine lv_icmp_lt (tgt := 10) hx hb dX6_requireWithin_2 (by decide) (fun c1 => ?_) (fun c1 => ?_)
  · replace h := ifp c1 h
    cases h
    exact tX6_IllegalArgumentExceptionWp hx hb hl0 hown hts hE hS (hl.1.trans hml.symm) dX6_requireWithin_10 dX6_requireWithin_13 dX6_requireWithin_14 dX6_requireWithin_17 dX6_requireWithin_20 (fun x h => (htb x h).elim) (Nat.le_of_ble_eq_true rfl) (Nat.le_of_ble_eq_true rfl) (Nat.le_of_ble_eq_true rfl) (Nat.le_of_ble_eq_true rfl) hlocks (Nat.le_of_ble_eq_true rfl) (Nat.le_of_ble_eq_true rfl) (text := "an argument is out of range") (is := 275) (by decide +kernel)
  · replace h := ifn c1 h
    refine lv_iload_n hx hb dX6_requireWithin_5 rfl (lv_at hl 0 rfl) ?_
    refine lv_iload_n hx hb dX6_requireWithin_6 rfl (lv_at hl 2 rfl) ?_
    refine lv_icmp_le (tgt := 21) hx hb dX6_requireWithin_7 (by decide) (fun c2 => ?_) (fun c2 => ?_)
    · replace h := ifp c2 h
      cases h
      exact e_vpx hx hb hlocks hr hS (Nat.le_of_ble_eq_true rfl) (Nat.le_of_ble_eq_true rfl) dX6_requireWithin_21
    · replace h := ifn c2 h
      cases h
      exact tX6_IllegalArgumentExceptionWp hx hb hl0 hown hts hE hS (hl.1.trans hml.symm) dX6_requireWithin_10 dX6_requireWithin_13 dX6_requireWithin_14 dX6_requireWithin_17 dX6_requireWithin_20 (fun x h => (htb x h).elim) (Nat.le_of_ble_eq_true rfl) (Nat.le_of_ble_eq_true rfl) (Nat.le_of_ble_eq_true rfl) (Nat.le_of_ble_eq_true rfl) hlocks (Nat.le_of_ble_eq_true rfl) (Nat.le_of_ble_eq_true rfl) (text := "an argument is out of range") (is := 275) (by decide +kernel)
set_option maxRecDepth 100000 in
theorem c_X6_requireWithin {p : Program} {l : Launch} {e : Env} {R : Room} {s : State} {m : MethodId} {args : Array Value} {below : List Frame} {meth : Method} {c : Code} {H : Heap} {locs : List Loc} {cells slots : Nat} {Q : State → Prop} {cc : ByteArray} {pc index nL : Nat} {ls : Array Slot} {rest : List Value} {D : va_G} {cy : Nat → ClassId} {A0 : Nat → Prop} {S : St} {own : String} {a0 : Int32} {a1 : Int32} {a2 : Int32} {x : String ⊕ Unit}  (hF : CallFix p m c cc nL s args ALLW own) (hsz : ls.size = nL) (hK : va_K D vwCl (tyL cy) s) (hP : SP D cy S H) (hS : va_S A0 s.heap H locs) (hE : ENV A0 s) (hl0 : l.stackTraces = false) (hk : Cond.methodLink own index yX6_requireWithin ∈ ALLW) (hR : rm_X6_requireWithin.frames + 1 ≤ R.frames ∧ 8 + (3 + 11) + rm_X6_requireWithin.locals ≤ R.locals) (h : f_X6_requireWithin a0 a1 a2 = some x) (hW : (rest.map fun v => v.category).sum ≤ 8) (hdg : decode cc pc = .ok (.invokestatic index, 3)) (hf : cells + 1 ≤ R.cells ∧ slots + 6 ≤ R.slots)
    (kx : ∀ (E : String) (ce : Cell) (q9 : Addr) (H1 : Heap) (locs1 : List Loc), x = .inl E → SP D cy S H1 → va_S A0 s.heap H1 locs1 → H1[q9]? = some ce → ce.vm = .none → s.vm.findClass E = some ce.cls → vx_W p l e R s m args below meth c H1 locs1 (cells + 1) (slots + 6) Q (F0 m pc ls rest) q9)
    (kk : ∀ (H1 : Heap) (locs1 : List Loc), x = .inr () → SP D cy S H1 → va_S A0 s.heap H1 locs1 → W p l e R s m args below meth c H1 locs1 (cells + 1) (slots + 6) Q (F0 m (pc + 3) ls (rest))) : W p l e R s m args below meth c H locs cells slots Q (F0 m pc ls (.int a2 :: .int a1 :: .int a0 :: rest)) := by
  exact k_vSpx (As := [.int a0, .int a1, .int a2]) hF hsz (m_X6_requireWithin l hl0 D cy S a0 a1 a2 x h) (cwS_of (n := 3) hF.2.2.2.2 hk wd_483 wd_69 wd_484 rfl rfl (by decide +kernel) hR) rfl hK hP hS hE hW rfl hdg hf kx kk
/-- VowBlocks.requireValue(I)V -/
def f_X6_requireValue (a0 : Int32) : Option (String ⊕ Unit) :=
  (f_X6_requireWithin a0 0 255).bind fun z2 =>
  Sum.elim (fun E =>
    some (.inl E)
  ) (fun _ =>
  some (.inr ())
  ) z2
abbrev rm_X6_requireValue : Room := { frames := 7, cells := 1, slots := 6, locals := 104 }
set_option maxHeartbeats 4000000 in
set_option maxRecDepth 100000 in
theorem m_X6_requireValue (l : Launch) (hl0 : l.stackTraces = false) (D : va_G) (cy : Nat → ClassId) (S : St) (a0 : Int32) (x : String ⊕ Unit) (h : f_X6_requireValue a0 = some x) : vx_Met l yX6_requireValue (wsA yX6_requireValue cX6_requireValue 1 none) rm_X6_requireValue (va_Pc [.int a0] (PSX D cy S)) (va_Qv (fun _ : Unit => x = .inr ()) (fun _ _ => True) noA) (vx_X (fun _ : Unit => True) (fun E _ _ => x = .inl E) noA) 1 6 noA := by
  refine vx_ofW (cc := cX6_requireValue) (maxL := 1) (ret := none) (by decide) rfl ?_
  intro p e s m args below meth c s₁ B hml htb hv
  obtain ⟨rfl, hP, hK, hE⟩ := hv
  have hx := B.exec
  have hb := B.bytes
  have hr := B.returns
  have hts9 := atoms_spec (ws := wsA yX6_requireValue cX6_requireValue 1 none) B.pre
  have hts : ∀ w ∈ ALLW, w.before _ s = true := fun w h => hts9 w (List.mem_cons_of_mem _ h)
  have hown : s.vm.findClass RX6 = some m.cls := findClass_of_methodNamed B.named
  have hlocks := B.notSynchronized
  have hS : va_S noA s.heap s.heap [] := va_S.rf
  have hl := lv_entry [.int a0] (n := 1) (Nat.le_of_ble_eq_true rfl)
  rw [lg_entry_eq]
  generalize (lg_sl [.int a0] ++ List.replicate (1 - (lg_sl [.int a0]).length) Slot.unset).toArray = ls at hl ⊢
  have hl : lv_has ls 1 [(0, .int a0)] := hl
  rw [f_X6_requireValue] at h
  refine lv_iload_n hx hb dX6_requireValue_0 rfl (lv_at hl 0 rfl) ?_
  refine lv_iconst (v := 0) hx hb dX6_requireValue_1 (by decide) ?_
  refine lv_sipush (v := 255) hx hb dX6_requireValue_2 (by decide) ?_
  replace h := bd h
  obtain ⟨z2, q1, h⟩ := h
  refine c_X6_requireWithin ⟨hx, hb, hml, hown, hts⟩ hl.1 hK hP hS hE hl0 wd_482 ⟨(Nat.le_of_ble_eq_true rfl), (Nat.le_of_ble_eq_true rfl)⟩ q1 (Nat.le_of_ble_eq_true rfl) dX6_requireValue_5 ⟨(Nat.le_of_ble_eq_true rfl), (Nat.le_of_ble_eq_true rfl)⟩ (fun E ce qx9 H locs hx9 hP hS h1 h2 h3 => ?_) (fun H locs hx9 hP hS => ?_)
  · replace h := sel_l hx9 h
    cases h
    exact o_p (fun x h => (htb x h).elim) hlocks h1 h2 h3 hS (Nat.le_of_ble_eq_true rfl) (Nat.le_of_ble_eq_true rfl)
  · replace h := sel_r hx9 h
    cases h
    exact e_vpx hx hb hlocks hr hS (Nat.le_of_ble_eq_true rfl) (Nat.le_of_ble_eq_true rfl) dX6_requireValue_8
set_option maxRecDepth 100000 in
theorem c_X6_requireValue {p : Program} {l : Launch} {e : Env} {R : Room} {s : State} {m : MethodId} {args : Array Value} {below : List Frame} {meth : Method} {c : Code} {H : Heap} {locs : List Loc} {cells slots : Nat} {Q : State → Prop} {cc : ByteArray} {pc index nL : Nat} {ls : Array Slot} {rest : List Value} {D : va_G} {cy : Nat → ClassId} {A0 : Nat → Prop} {S : St} {own : String} {a0 : Int32} {x : String ⊕ Unit}  (hF : CallFix p m c cc nL s args ALLW own) (hsz : ls.size = nL) (hK : va_K D vwCl (tyL cy) s) (hP : SP D cy S H) (hS : va_S A0 s.heap H locs) (hE : ENV A0 s) (hl0 : l.stackTraces = false) (hk : Cond.methodLink own index yX6_requireValue ∈ ALLW) (hR : rm_X6_requireValue.frames + 1 ≤ R.frames ∧ 8 + (1 + 11) + rm_X6_requireValue.locals ≤ R.locals) (h : f_X6_requireValue a0 = some x) (hW : (rest.map fun v => v.category).sum ≤ 8) (hdg : decode cc pc = .ok (.invokestatic index, 3)) (hf : cells + 1 ≤ R.cells ∧ slots + 6 ≤ R.slots)
    (kx : ∀ (E : String) (ce : Cell) (q9 : Addr) (H1 : Heap) (locs1 : List Loc), x = .inl E → SP D cy S H1 → va_S A0 s.heap H1 locs1 → H1[q9]? = some ce → ce.vm = .none → s.vm.findClass E = some ce.cls → vx_W p l e R s m args below meth c H1 locs1 (cells + 1) (slots + 6) Q (F0 m pc ls rest) q9)
    (kk : ∀ (H1 : Heap) (locs1 : List Loc), x = .inr () → SP D cy S H1 → va_S A0 s.heap H1 locs1 → W p l e R s m args below meth c H1 locs1 (cells + 1) (slots + 6) Q (F0 m (pc + 3) ls (rest))) : W p l e R s m args below meth c H locs cells slots Q (F0 m pc ls (.int a0 :: rest)) := by
  exact k_vSpx (As := [.int a0]) hF hsz (m_X6_requireValue l hl0 D cy S a0 x h) (cwS_of (n := 1) hF.2.2.2.2 hk wd_480 wd_69 wd_481 rfl rfl (by decide +kernel) hR) rfl hK hP hS hE hW rfl hdg hf kx kk
/-- VowBlocks.requireRoomForBlock()V -/
def f_X6_requireRoomForBlock (S : St) (a0 : Nat) : Option (String ⊕ Unit) :=
  (gR S a0 5 0).bind fun x1 =>
  (oO S x1 1).bind fun _ =>
  (f_X2_isFull S x1).bind fun x5 =>
  if x5 = 0 then
    some (.inr ())
  else
    some (.inl "java/lang/IllegalStateException")
abbrev rm_X6_requireRoomForBlock : Room := { frames := 6, cells := 1, slots := 6, locals := 82 }
set_option maxHeartbeats 4000000 in
set_option maxRecDepth 100000 in
theorem m_X6_requireRoomForBlock (l : Launch) (hl0 : l.stackTraces = false) (D : va_G) (cy : Nat → ClassId) (S : St) (a0 : Nat) (x : String ⊕ Unit) (h : f_X6_requireRoomForBlock S a0 = some x) : vx_Met l yX6_requireRoomForBlock (wsA yX6_requireRoomForBlock cX6_requireRoomForBlock 1 none) rm_X6_requireRoomForBlock (va_Pc [.ref a0] (PSX D cy S)) (va_Qv (fun _ : Unit => x = .inr ()) (fun _ _ => True) noA) (vx_X (fun _ : Unit => True) (fun E _ _ => x = .inl E) noA) 1 6 noA := by
  refine vx_ofW (cc := cX6_requireRoomForBlock) (maxL := 1) (ret := none) (by decide) rfl ?_
  intro p e s m args below meth c s₁ B hml htb hv
  obtain ⟨rfl, hP, hK, hE⟩ := hv
  have hx := B.exec
  have hb := B.bytes
  have hr := B.returns
  have hts9 := atoms_spec (ws := wsA yX6_requireRoomForBlock cX6_requireRoomForBlock 1 none) B.pre
  have hts : ∀ w ∈ ALLW, w.before _ s = true := fun w h => hts9 w (List.mem_cons_of_mem _ h)
  have hown : s.vm.findClass RX6 = some m.cls := findClass_of_methodNamed B.named
  have hlocks := B.notSynchronized
  have hS : va_S noA s.heap s.heap [] := va_S.rf
  have hl := lv_entry [.ref a0] (n := 1) (Nat.le_of_ble_eq_true rfl)
  rw [lg_entry_eq]
  generalize (lg_sl [.ref a0] ++ List.replicate (1 - (lg_sl [.ref a0]).length) Slot.unset).toArray = ls at hl ⊢
  have hl : lv_has ls 1 [(0, .ref a0)] := hl
  rw [f_X6_requireRoomForBlock] at h
  refine lv_aload_n hx hb dX6_requireRoomForBlock_0 rfl (lv_at hl 0 rfl) ?_
  replace h := bd h
  obtain ⟨x1, q2, h⟩ := h
  refine fg_5_0 hx hb hts hown hK hP wd_214 q2 dX6_requireRoomForBlock_1 ?_
  replace h := bd h
  obtain ⟨_, q3, h⟩ := h
  replace h := bd h
  obtain ⟨x5, q4, h⟩ := h
  refine c_X2_isFull ⟨hx, hb, hml, hown, hts⟩ hl.1 hK hP hS wd_557 ⟨(Nat.le_of_ble_eq_true rfl), (Nat.le_of_ble_eq_true rfl)⟩ q4 q3 (Nat.le_of_ble_eq_true rfl) dX6_requireRoomForBlock_4 ⟨(Nat.le_of_ble_eq_true rfl), (Nat.le_of_ble_eq_true rfl)⟩ (fun H locs hP hS => ?_)
  refine lv_if_eq (tgt := 21) hx hb dX6_requireRoomForBlock_7 (by decide) (fun c6 => ?_) (fun c6 => ?_)
  · replace h := ifp c6 h
    cases h
    exact e_vpx hx hb hlocks hr hS (Nat.le_of_ble_eq_true rfl) (Nat.le_of_ble_eq_true rfl) dX6_requireRoomForBlock_21
  · replace h := ifn c6 h
    cases h
    exact tX6_IllegalStateExceptionWp hx hb hl0 hown hts hE hS (hl.1.trans hml.symm) dX6_requireRoomForBlock_10 dX6_requireRoomForBlock_13 dX6_requireRoomForBlock_14 dX6_requireRoomForBlock_17 dX6_requireRoomForBlock_20 (fun x h => (htb x h).elim) (Nat.le_of_ble_eq_true rfl) (Nat.le_of_ble_eq_true rfl) (Nat.le_of_ble_eq_true rfl) (Nat.le_of_ble_eq_true rfl) hlocks (Nat.le_of_ble_eq_true rfl) (Nat.le_of_ble_eq_true rfl) (text := "there are 8 blocks") (is := 273) (by decide +kernel)
set_option maxRecDepth 100000 in
theorem c_X6_requireRoomForBlock {p : Program} {l : Launch} {e : Env} {R : Room} {s : State} {m : MethodId} {args : Array Value} {below : List Frame} {meth : Method} {c : Code} {H : Heap} {locs : List Loc} {cells slots : Nat} {Q : State → Prop} {cc : ByteArray} {pc index nL : Nat} {ls : Array Slot} {rest : List Value} {D : va_G} {cy : Nat → ClassId} {A0 : Nat → Prop} {S : St} {own : String} {u : Unit} {a0 : Nat} {x : String ⊕ Unit}  (hF : CallFix p m c cc nL s args ALLW own) (hsz : ls.size = nL) (hK : va_K D vwCl (tyL cy) s) (hP : SP D cy S H) (hS : va_S A0 s.heap H locs) (hE : ENV A0 s) (hl0 : l.stackTraces = false) (hk : Cond.methodLink own index yX6_requireRoomForBlock ∈ ALLW) (hR : rm_X6_requireRoomForBlock.frames + 1 ≤ R.frames ∧ 8 + (1 + 11) + rm_X6_requireRoomForBlock.locals ≤ R.locals) (h : f_X6_requireRoomForBlock S a0 = some x) (hc : oO S a0 5 = some u) (hW : (rest.map fun v => v.category).sum ≤ 8) (hdg : decode cc pc = .ok (.invokevirtual index, 3)) (hf : cells + 1 ≤ R.cells ∧ slots + 6 ≤ R.slots)
    (kx : ∀ (E : String) (ce : Cell) (q9 : Addr) (H1 : Heap) (locs1 : List Loc), x = .inl E → SP D cy S H1 → va_S A0 s.heap H1 locs1 → H1[q9]? = some ce → ce.vm = .none → s.vm.findClass E = some ce.cls → vx_W p l e R s m args below meth c H1 locs1 (cells + 1) (slots + 6) Q (F0 m pc ls rest) q9)
    (kk : ∀ (H1 : Heap) (locs1 : List Loc), x = .inr () → SP D cy S H1 → va_S A0 s.heap H1 locs1 → W p l e R s m args below meth c H1 locs1 (cells + 1) (slots + 6) Q (F0 m (pc + 3) ls (rest))) : W p l e R s m args below meth c H locs cells slots Q (F0 m pc ls (.ref a0 :: rest)) := by
  exact k_vVpx (As := []) hF hsz (m_X6_requireRoomForBlock l hl0 D cy S a0 x h) (cwV_of (n := 0) hF.2.2.2.2 hk wd_555 wd_13 wd_69 wd_556 rfl rfl (by decide +kernel) hR) rfl hK hP hS hE (ci := 5) hc rfl hW rfl hdg hf kx kk
/-- VowBlocks.make(II)I -/
def f_X6_make (S : St) (a0 : Nat) (a1 : Int32) (a2 : Int32) : Option ((String ⊕ Int32) × St) :=
  (f_X6_requireValue a1).bind fun z2 =>
  Sum.elim (fun E =>
    some (.inl E, S)
  ) (fun _ =>
  (f_X6_requireWithin a2 1 24).bind fun z5 =>
  Sum.elim (fun E =>
    some (.inl E, S)
  ) (fun _ =>
  (oO S a0 5).bind fun _ =>
  (f_X6_requireRoomForBlock S a0).bind fun z9 =>
  Sum.elim (fun E =>
    some (.inl E, S)
  ) (fun _ =>
  (gR S a0 5 3).bind fun x11 =>
  (oO S x11 3).bind fun _ =>
  (f_X4_clear S x11).bind fun z15 =>
  (gR z15 a0 5 3).bind fun x16 =>
  (oO z15 x16 3).bind fun _ =>
  (f_X4_push z15 x16 a1 a2).bind fun z20 =>
  (gR z20.2 a0 5 1).bind fun x21 =>
  (gR z20.2 a0 5 0).bind fun x23 =>
  (oO z20.2 x21 2).bind fun _ =>
  (f_X3_save z20.2 x21 x23).bind fun z27 =>
  (gR z27 a0 5 0).bind fun x28 =>
  (gR z27 a0 5 3).bind fun x30 =>
  (oO z27 x28 1).bind fun _ =>
  (f_X2_open z27 x28 x30).bind fun z34 =>
  some (.inr z34.1, z34.2)
  ) z9
  ) z5
  ) z2
abbrev rm_X6_make : Room := { frames := 8, cells := 3, slots := 18, locals := 135 }
set_option maxHeartbeats 4000000 in
set_option maxRecDepth 100000 in
theorem m_X6_make (l : Launch) (hl0 : l.stackTraces = false) (D : va_G) (cy : Nat → ClassId) (sz : Nat) (S : St) (a0 : Nat) (a1 : Int32) (a2 : Int32) (x : String ⊕ Int32) (S1 : St) (h : f_X6_make S a0 a1 a2 = some (x, S1)) : vx_Met l yX6_make (wsA yX6_make cX6_make 3 (some .int)) rm_X6_make (va_Pc [.ref a0, .int a1, .int a2] (PNX D cy S sz)) (va_Qi (fun r' (_ : Unit) => x = .inr r') (fun _ t => PoS D cy S1 (dm S sz) t) (dm S sz)) (vx_X (fun _ : Unit => True) (fun E _ t => x = .inl E ∧ PoS D cy S1 (dm S sz) t) (dm S sz)) 3 18 (dm S sz) := by
  refine vx_ofW (cc := cX6_make) (maxL := 3) (ret := (some .int)) (by decide) rfl ?_
  intro p e s m args below meth c s₁ B hml htb hv
  obtain ⟨rfl, hsz, hP, hK, hE⟩ := hv
  have hx := B.exec
  have hb := B.bytes
  have hr := B.returns
  have hts9 := atoms_spec (ws := wsA yX6_make cX6_make 3 (some .int)) B.pre
  have hts : ∀ w ∈ ALLW, w.before _ s = true := fun w h => hts9 w (List.mem_cons_of_mem _ h)
  have hown : s.vm.findClass RX6 = some m.cls := findClass_of_methodNamed B.named
  have hlocks := B.notSynchronized
  subst hsz
  have hD : ∀ a, S a ≠ none → dm S s.heap.size a := fun a h => Or.inl h
  have hA : ∀ q : Nat, s.heap.size ≤ q → dm S s.heap.size q := fun q h => Or.inr h
  have hS : va_S (dm S s.heap.size) s.heap s.heap [] := va_S.rf
  have hl := lv_entry [.ref a0, .int a1, .int a2] (n := 3) (Nat.le_of_ble_eq_true rfl)
  rw [lg_entry_eq]
  generalize (lg_sl [.ref a0, .int a1, .int a2] ++ List.replicate (3 - (lg_sl [.ref a0, .int a1, .int a2]).length) Slot.unset).toArray = ls at hl ⊢
  have hl : lv_has ls 3 [(0, .ref a0), (1, .int a1), (2, .int a2)] := hl
  rw [f_X6_make] at h
  refine lv_iload_n hx hb dX6_make_0 rfl (lv_at hl 1 rfl) ?_
  replace h := bd h
  obtain ⟨z2, q1, h⟩ := h
  refine c_X6_requireValue ⟨hx, hb, hml, hown, hts⟩ hl.1 hK hP hS hE hl0 wd_479 ⟨(Nat.le_of_ble_eq_true rfl), (Nat.le_of_ble_eq_true rfl)⟩ q1 (Nat.le_of_ble_eq_true rfl) dX6_make_1 ⟨(Nat.le_of_ble_eq_true rfl), (Nat.le_of_ble_eq_true rfl)⟩ (fun E ce qx9 H locs hx9 hP hS h1 h2 h3 => ?_) (fun H locs hx9 hP hS => ?_)
  · replace h := sel_l hx9 h
    cases h
    exact o_m (fun x h => (htb x h).elim) hlocks h1 h2 h3 hP hD hS (Nat.le_of_ble_eq_true rfl) (Nat.le_of_ble_eq_true rfl)
  · replace h := sel_r hx9 h
    refine lv_iload_n hx hb dX6_make_4 rfl (lv_at hl 2 rfl) ?_
    refine lv_iconst (v := 1) hx hb dX6_make_5 (by decide) ?_
    refine lv_bipush (v := 24) hx hb dX6_make_6 (by decide) ?_
    replace h := bd h
    obtain ⟨z5, q4, h⟩ := h
    refine c_X6_requireWithin ⟨hx, hb, hml, hown, hts⟩ hl.1 hK hP hS hE hl0 wd_482 ⟨(Nat.le_of_ble_eq_true rfl), (Nat.le_of_ble_eq_true rfl)⟩ q4 (Nat.le_of_ble_eq_true rfl) dX6_make_8 ⟨(Nat.le_of_ble_eq_true rfl), (Nat.le_of_ble_eq_true rfl)⟩ (fun E ce qx9 H locs hx9 hP hS h1 h2 h3 => ?_) (fun H locs hx9 hP hS => ?_)
    · replace h := sel_l hx9 h
      cases h
      exact o_m (fun x h => (htb x h).elim) hlocks h1 h2 h3 hP hD hS (Nat.le_of_ble_eq_true rfl) (Nat.le_of_ble_eq_true rfl)
    · replace h := sel_r hx9 h
      refine lv_aload_n hx hb dX6_make_11 rfl (lv_at hl 0 rfl) ?_
      replace h := bd h
      obtain ⟨_, q7, h⟩ := h
      replace h := bd h
      obtain ⟨z9, q8, h⟩ := h
      refine c_X6_requireRoomForBlock ⟨hx, hb, hml, hown, hts⟩ hl.1 hK hP hS hE hl0 wd_553 ⟨(Nat.le_of_ble_eq_true rfl), (Nat.le_of_ble_eq_true rfl)⟩ q8 q7 (Nat.le_of_ble_eq_true rfl) dX6_make_12 ⟨(Nat.le_of_ble_eq_true rfl), (Nat.le_of_ble_eq_true rfl)⟩ (fun E ce qx9 H locs hx9 hP hS h1 h2 h3 => ?_) (fun H locs hx9 hP hS => ?_)
      · replace h := sel_l hx9 h
        cases h
        exact o_m (fun x h => (htb x h).elim) hlocks h1 h2 h3 hP hD hS (Nat.le_of_ble_eq_true rfl) (Nat.le_of_ble_eq_true rfl)
      · replace h := sel_r hx9 h
        refine lv_aload_n hx hb dX6_make_15 rfl (lv_at hl 0 rfl) ?_
        replace h := bd h
        obtain ⟨x11, q12, h⟩ := h
        refine fg_5_3 hx hb hts hown hK hP wd_217 q12 dX6_make_16 ?_
        replace h := bd h
        obtain ⟨_, q13, h⟩ := h
        replace h := bd h
        obtain ⟨z15, q14, h⟩ := h
        refine c_X4_clear ⟨hx, hb, hml, hown, hts⟩ hl.1 hK hP hD hA hS wd_577 ⟨(Nat.le_of_ble_eq_true rfl), (Nat.le_of_ble_eq_true rfl)⟩ q14 q13 (Nat.le_of_ble_eq_true rfl) dX6_make_19 ⟨(Nat.le_of_ble_eq_true rfl), (Nat.le_of_ble_eq_true rfl)⟩ (fun H locs hP hD hS => ?_)
        refine lv_aload_n hx hb dX6_make_22 rfl (lv_at hl 0 rfl) ?_
        replace h := bd h
        obtain ⟨x16, q17, h⟩ := h
        refine fg_5_3 hx hb hts hown hK hP wd_217 q17 dX6_make_23 ?_
        refine lv_iload_n hx hb dX6_make_26 rfl (lv_at hl 1 rfl) ?_
        refine lv_iload_n hx hb dX6_make_27 rfl (lv_at hl 2 rfl) ?_
        replace h := bd h
        obtain ⟨_, q18, h⟩ := h
        replace h := bd h
        obtain ⟨z20, q19, h⟩ := h
        refine c_X4_push ⟨hx, hb, hml, hown, hts⟩ hl.1 hK hP hD hA hS wd_581 ⟨(Nat.le_of_ble_eq_true rfl), (Nat.le_of_ble_eq_true rfl)⟩ q19 q18 (Nat.le_of_ble_eq_true rfl) dX6_make_28 ⟨(Nat.le_of_ble_eq_true rfl), (Nat.le_of_ble_eq_true rfl)⟩ (fun H locs hP hD hS => ?_)
        refine lv_pop hx hb dX6_make_31 rfl ?_
        refine lv_aload_n hx hb dX6_make_32 rfl (lv_at hl 0 rfl) ?_
        replace h := bd h
        obtain ⟨x21, q22, h⟩ := h
        refine fg_5_1 hx hb hts hown hK hP wd_215 q22 dX6_make_33 ?_
        refine lv_aload_n hx hb dX6_make_36 rfl (lv_at hl 0 rfl) ?_
        replace h := bd h
        obtain ⟨x23, q24, h⟩ := h
        refine fg_5_0 hx hb hts hown hK hP wd_214 q24 dX6_make_37 ?_
        replace h := bd h
        obtain ⟨_, q25, h⟩ := h
        replace h := bd h
        obtain ⟨z27, q26, h⟩ := h
        refine c_X3_save ⟨hx, hb, hml, hown, hts⟩ hl.1 hK hP hD hA hS wd_582 ⟨(Nat.le_of_ble_eq_true rfl), (Nat.le_of_ble_eq_true rfl)⟩ q26 q25 (Nat.le_of_ble_eq_true rfl) dX6_make_40 ⟨(Nat.le_of_ble_eq_true rfl), (Nat.le_of_ble_eq_true rfl)⟩ (fun H locs hP hD hS => ?_)
        refine lv_aload_n hx hb dX6_make_43 rfl (lv_at hl 0 rfl) ?_
        replace h := bd h
        obtain ⟨x28, q29, h⟩ := h
        refine fg_5_0 hx hb hts hown hK hP wd_214 q29 dX6_make_44 ?_
        refine lv_aload_n hx hb dX6_make_47 rfl (lv_at hl 0 rfl) ?_
        replace h := bd h
        obtain ⟨x30, q31, h⟩ := h
        refine fg_5_3 hx hb hts hown hK hP wd_217 q31 dX6_make_48 ?_
        replace h := bd h
        obtain ⟨_, q32, h⟩ := h
        replace h := bd h
        obtain ⟨z34, q33, h⟩ := h
        refine c_X2_open ⟨hx, hb, hml, hown, hts⟩ hl.1 hK hP hD hA hS wd_599 ⟨(Nat.le_of_ble_eq_true rfl), (Nat.le_of_ble_eq_true rfl)⟩ q33 q32 (Nat.le_of_ble_eq_true rfl) dX6_make_51 ⟨(Nat.le_of_ble_eq_true rfl), (Nat.le_of_ble_eq_true rfl)⟩ (fun H locs hP hD hS => ?_)
        cases h
        exact e_imx hx hb hlocks hr hP hD hS (Nat.le_of_ble_eq_true rfl) (Nat.le_of_ble_eq_true rfl) dX6_make_54
set_option maxRecDepth 100000 in
theorem c_X6_make {p : Program} {l : Launch} {e : Env} {R : Room} {s : State} {m : MethodId} {args : Array Value} {below : List Frame} {meth : Method} {c : Code} {H : Heap} {locs : List Loc} {cells slots : Nat} {Q : State → Prop} {cc : ByteArray} {pc index nL : Nat} {ls : Array Slot} {rest : List Value} {D : va_G} {cy : Nat → ClassId} {A0 : Nat → Prop} {S : St} {own : String} {u : Unit} {a0 : Nat} {a1 : Int32} {a2 : Int32} {x : String ⊕ Int32} {S1 : St}  (hF : CallFix p m c cc nL s args ALLW own) (hsz : ls.size = nL) (hK : va_K D vwCl (tyL cy) s) (hP : SP D cy S H) (hD : ∀ a, S a ≠ none → A0 a) (hA : ∀ q, s.heap.size ≤ q → A0 q) (hS : va_S A0 s.heap H locs) (hE : ENV A0 s) (hl0 : l.stackTraces = false) (hk : Cond.methodLink own index yX6_make ∈ ALLW) (hR : rm_X6_make.frames + 1 ≤ R.frames ∧ 8 + (3 + 11) + rm_X6_make.locals ≤ R.locals) (h : f_X6_make S a0 a1 a2 = some (x, S1)) (hc : oO S a0 5 = some u) (hW : (rest.map fun v => v.category).sum ≤ 8) (hdg : decode cc pc = .ok (.invokevirtual index, 3)) (hf : cells + 3 ≤ R.cells ∧ slots + 18 ≤ R.slots)
    (kx : ∀ (E : String) (ce : Cell) (q9 : Addr) (H1 : Heap) (locs1 : List Loc), x = .inl E → SP D cy S1 H1 → (∀ a, S1 a ≠ none → A0 a) → va_S A0 s.heap H1 locs1 → H1[q9]? = some ce → ce.vm = .none → s.vm.findClass E = some ce.cls → vx_W p l e R s m args below meth c H1 locs1 (cells + 3) (slots + 18) Q (F0 m pc ls rest) q9)
    (kk : ∀ (r : Int32) (H1 : Heap) (locs1 : List Loc), x = .inr r → SP D cy S1 H1 → (∀ a, S1 a ≠ none → A0 a) → va_S A0 s.heap H1 locs1 → W p l e R s m args below meth c H1 locs1 (cells + 3) (slots + 18) Q (F0 m (pc + 3) ls (.int r :: rest))) : W p l e R s m args below meth c H locs cells slots Q (F0 m pc ls (.int a2 :: .int a1 :: .ref a0 :: rest)) := by
  exact k_iVmx (As := [.int a1, .int a2]) hF hsz (m_X6_make l hl0 D cy H.size S a0 a1 a2 x S1 h) (cwV_of (n := 2) hF.2.2.2.2 hk wd_476 wd_477 wd_69 wd_478 rfl rfl (by decide +kernel) hR) rfl hK hP hD hA hS hE (ci := 5) hc rfl hW rfl hdg hf kx kk
/-- VowBlocks.read()I -/
def f_X6_read (S : St) (a0 : Nat) : Option ((String ⊕ Int32) × St) :=
  (gR S a0 5 2).bind fun x1 =>
  (gR S a0 5 3).bind fun x3 =>
  (oO S x1 4).bind fun _ =>
  (f_X5_spell S x1 x3).bind fun z7 =>
  if z7.1 = 0 then
    some (.inl "java/lang/IllegalArgumentException", z7.2)
  else
    (oO z7.2 a0 5).bind fun _ =>
    (f_X6_requireRoomForBlock z7.2 a0).bind fun z11 =>
    Sum.elim (fun E =>
      some (.inl E, z7.2)
    ) (fun _ =>
    (gR z7.2 a0 5 1).bind fun x13 =>
    (gR z7.2 a0 5 0).bind fun x15 =>
    (oO z7.2 x13 2).bind fun _ =>
    (f_X3_save z7.2 x13 x15).bind fun z19 =>
    (gR z19 a0 5 2).bind fun x20 =>
    (oO z19 x20 4).bind fun _ =>
    (f_X5_empty z19 x20).bind fun z24 =>
    (gR z24 a0 5 0).bind fun x25 =>
    (gR z24 a0 5 3).bind fun x27 =>
    (oO z24 x25 1).bind fun _ =>
    (f_X2_open z24 x25 x27).bind fun z31 =>
    some (.inr z31.1, z31.2)
    ) z11
abbrev rm_X6_read : Room := { frames := 7, cells := 1, slots := 6, locals := 135 }
set_option maxHeartbeats 4000000 in
set_option maxRecDepth 100000 in
theorem m_X6_read (l : Launch) (hl0 : l.stackTraces = false) (D : va_G) (cy : Nat → ClassId) (sz : Nat) (S : St) (a0 : Nat) (x : String ⊕ Int32) (S1 : St) (h : f_X6_read S a0 = some (x, S1)) : vx_Met l yX6_read (wsA yX6_read cX6_read 1 (some .int)) rm_X6_read (va_Pc [.ref a0] (PNX D cy S sz)) (va_Qi (fun r' (_ : Unit) => x = .inr r') (fun _ t => PoS D cy S1 (dm S sz) t) (dm S sz)) (vx_X (fun _ : Unit => True) (fun E _ t => x = .inl E ∧ PoS D cy S1 (dm S sz) t) (dm S sz)) 1 6 (dm S sz) := by
  refine vx_ofW (cc := cX6_read) (maxL := 1) (ret := (some .int)) (by decide) rfl ?_
  intro p e s m args below meth c s₁ B hml htb hv
  obtain ⟨rfl, hsz, hP, hK, hE⟩ := hv
  have hx := B.exec
  have hb := B.bytes
  have hr := B.returns
  have hts9 := atoms_spec (ws := wsA yX6_read cX6_read 1 (some .int)) B.pre
  have hts : ∀ w ∈ ALLW, w.before _ s = true := fun w h => hts9 w (List.mem_cons_of_mem _ h)
  have hown : s.vm.findClass RX6 = some m.cls := findClass_of_methodNamed B.named
  have hlocks := B.notSynchronized
  subst hsz
  have hD : ∀ a, S a ≠ none → dm S s.heap.size a := fun a h => Or.inl h
  have hA : ∀ q : Nat, s.heap.size ≤ q → dm S s.heap.size q := fun q h => Or.inr h
  have hS : va_S (dm S s.heap.size) s.heap s.heap [] := va_S.rf
  have hl := lv_entry [.ref a0] (n := 1) (Nat.le_of_ble_eq_true rfl)
  rw [lg_entry_eq]
  generalize (lg_sl [.ref a0] ++ List.replicate (1 - (lg_sl [.ref a0]).length) Slot.unset).toArray = ls at hl ⊢
  have hl : lv_has ls 1 [(0, .ref a0)] := hl
  rw [f_X6_read] at h
  refine lv_aload_n hx hb dX6_read_0 rfl (lv_at hl 0 rfl) ?_
  replace h := bd h
  obtain ⟨x1, q2, h⟩ := h
  refine fg_5_2 hx hb hts hown hK hP wd_216 q2 dX6_read_1 ?_
  refine lv_aload_n hx hb dX6_read_4 rfl (lv_at hl 0 rfl) ?_
  replace h := bd h
  obtain ⟨x3, q4, h⟩ := h
  refine fg_5_3 hx hb hts hown hK hP wd_217 q4 dX6_read_5 ?_
  replace h := bd h
  obtain ⟨_, q5, h⟩ := h
  replace h := bd h
  obtain ⟨z7, q6, h⟩ := h
  refine c_X5_spell ⟨hx, hb, hml, hown, hts⟩ hl.1 hK hP hD hA hS wd_619 ⟨(Nat.le_of_ble_eq_true rfl), (Nat.le_of_ble_eq_true rfl)⟩ q6 q5 (Nat.le_of_ble_eq_true rfl) dX6_read_8 ⟨(Nat.le_of_ble_eq_true rfl), (Nat.le_of_ble_eq_true rfl)⟩ (fun H locs hP hD hS => ?_)
  refine lv_if_ne (tgt := 24) hx hb dX6_read_11 (by decide) (fun c8 => ?_) (fun c8 => ?_)
  · replace h := ifn c8 h
    refine lv_aload_n hx hb dX6_read_24 rfl (lv_at hl 0 rfl) ?_
    replace h := bd h
    obtain ⟨_, q9, h⟩ := h
    replace h := bd h
    obtain ⟨z11, q10, h⟩ := h
    refine c_X6_requireRoomForBlock ⟨hx, hb, hml, hown, hts⟩ hl.1 hK hP hS hE hl0 wd_553 ⟨(Nat.le_of_ble_eq_true rfl), (Nat.le_of_ble_eq_true rfl)⟩ q10 q9 (Nat.le_of_ble_eq_true rfl) dX6_read_25 ⟨(Nat.le_of_ble_eq_true rfl), (Nat.le_of_ble_eq_true rfl)⟩ (fun E ce qx9 H locs hx9 hP hS h1 h2 h3 => ?_) (fun H locs hx9 hP hS => ?_)
    · replace h := sel_l hx9 h
      cases h
      exact o_m (fun x h => (htb x h).elim) hlocks h1 h2 h3 hP hD hS (Nat.le_of_ble_eq_true rfl) (Nat.le_of_ble_eq_true rfl)
    · replace h := sel_r hx9 h
      refine lv_aload_n hx hb dX6_read_28 rfl (lv_at hl 0 rfl) ?_
      replace h := bd h
      obtain ⟨x13, q14, h⟩ := h
      refine fg_5_1 hx hb hts hown hK hP wd_215 q14 dX6_read_29 ?_
      refine lv_aload_n hx hb dX6_read_32 rfl (lv_at hl 0 rfl) ?_
      replace h := bd h
      obtain ⟨x15, q16, h⟩ := h
      refine fg_5_0 hx hb hts hown hK hP wd_214 q16 dX6_read_33 ?_
      replace h := bd h
      obtain ⟨_, q17, h⟩ := h
      replace h := bd h
      obtain ⟨z19, q18, h⟩ := h
      refine c_X3_save ⟨hx, hb, hml, hown, hts⟩ hl.1 hK hP hD hA hS wd_582 ⟨(Nat.le_of_ble_eq_true rfl), (Nat.le_of_ble_eq_true rfl)⟩ q18 q17 (Nat.le_of_ble_eq_true rfl) dX6_read_36 ⟨(Nat.le_of_ble_eq_true rfl), (Nat.le_of_ble_eq_true rfl)⟩ (fun H locs hP hD hS => ?_)
      refine lv_aload_n hx hb dX6_read_39 rfl (lv_at hl 0 rfl) ?_
      replace h := bd h
      obtain ⟨x20, q21, h⟩ := h
      refine fg_5_2 hx hb hts hown hK hP wd_216 q21 dX6_read_40 ?_
      replace h := bd h
      obtain ⟨_, q22, h⟩ := h
      replace h := bd h
      obtain ⟨z24, q23, h⟩ := h
      refine c_X5_empty ⟨hx, hb, hml, hown, hts⟩ hl.1 hK hP hD hA hS wd_235 ⟨(Nat.le_of_ble_eq_true rfl), (Nat.le_of_ble_eq_true rfl)⟩ q23 q22 (Nat.le_of_ble_eq_true rfl) dX6_read_43 ⟨(Nat.le_of_ble_eq_true rfl), (Nat.le_of_ble_eq_true rfl)⟩ (fun H locs hP hD hS => ?_)
      refine lv_aload_n hx hb dX6_read_46 rfl (lv_at hl 0 rfl) ?_
      replace h := bd h
      obtain ⟨x25, q26, h⟩ := h
      refine fg_5_0 hx hb hts hown hK hP wd_214 q26 dX6_read_47 ?_
      refine lv_aload_n hx hb dX6_read_50 rfl (lv_at hl 0 rfl) ?_
      replace h := bd h
      obtain ⟨x27, q28, h⟩ := h
      refine fg_5_3 hx hb hts hown hK hP wd_217 q28 dX6_read_51 ?_
      replace h := bd h
      obtain ⟨_, q29, h⟩ := h
      replace h := bd h
      obtain ⟨z31, q30, h⟩ := h
      refine c_X2_open ⟨hx, hb, hml, hown, hts⟩ hl.1 hK hP hD hA hS wd_599 ⟨(Nat.le_of_ble_eq_true rfl), (Nat.le_of_ble_eq_true rfl)⟩ q30 q29 (Nat.le_of_ble_eq_true rfl) dX6_read_54 ⟨(Nat.le_of_ble_eq_true rfl), (Nat.le_of_ble_eq_true rfl)⟩ (fun H locs hP hD hS => ?_)
      cases h
      exact e_imx hx hb hlocks hr hP hD hS (Nat.le_of_ble_eq_true rfl) (Nat.le_of_ble_eq_true rfl) dX6_read_57
  · replace h := ifp c8 h
    cases h
    exact tX6_IllegalArgumentExceptionm hx hb hl0 hown hts hE hP hD hS (hl.1.trans hml.symm) dX6_read_14 dX6_read_17 dX6_read_18 dX6_read_20 dX6_read_23 (fun x h => (htb x h).elim) (Nat.le_of_ble_eq_true rfl) (Nat.le_of_ble_eq_true rfl) (Nat.le_of_ble_eq_true rfl) (Nat.le_of_ble_eq_true rfl) hlocks (Nat.le_of_ble_eq_true rfl) (Nat.le_of_ble_eq_true rfl) (text := "the buffer is not a row of 1 to 24 values") (is := 69) (by decide +kernel)
set_option maxRecDepth 100000 in
theorem c_X6_read {p : Program} {l : Launch} {e : Env} {R : Room} {s : State} {m : MethodId} {args : Array Value} {below : List Frame} {meth : Method} {c : Code} {H : Heap} {locs : List Loc} {cells slots : Nat} {Q : State → Prop} {cc : ByteArray} {pc index nL : Nat} {ls : Array Slot} {rest : List Value} {D : va_G} {cy : Nat → ClassId} {A0 : Nat → Prop} {S : St} {own : String} {u : Unit} {a0 : Nat} {x : String ⊕ Int32} {S1 : St}  (hF : CallFix p m c cc nL s args ALLW own) (hsz : ls.size = nL) (hK : va_K D vwCl (tyL cy) s) (hP : SP D cy S H) (hD : ∀ a, S a ≠ none → A0 a) (hA : ∀ q, s.heap.size ≤ q → A0 q) (hS : va_S A0 s.heap H locs) (hE : ENV A0 s) (hl0 : l.stackTraces = false) (hk : Cond.methodLink own index yX6_read ∈ ALLW) (hR : rm_X6_read.frames + 1 ≤ R.frames ∧ 8 + (1 + 11) + rm_X6_read.locals ≤ R.locals) (h : f_X6_read S a0 = some (x, S1)) (hc : oO S a0 5 = some u) (hW : (rest.map fun v => v.category).sum ≤ 8) (hdg : decode cc pc = .ok (.invokevirtual index, 3)) (hf : cells + 1 ≤ R.cells ∧ slots + 6 ≤ R.slots)
    (kx : ∀ (E : String) (ce : Cell) (q9 : Addr) (H1 : Heap) (locs1 : List Loc), x = .inl E → SP D cy S1 H1 → (∀ a, S1 a ≠ none → A0 a) → va_S A0 s.heap H1 locs1 → H1[q9]? = some ce → ce.vm = .none → s.vm.findClass E = some ce.cls → vx_W p l e R s m args below meth c H1 locs1 (cells + 1) (slots + 6) Q (F0 m pc ls rest) q9)
    (kk : ∀ (r : Int32) (H1 : Heap) (locs1 : List Loc), x = .inr r → SP D cy S1 H1 → (∀ a, S1 a ≠ none → A0 a) → va_S A0 s.heap H1 locs1 → W p l e R s m args below meth c H1 locs1 (cells + 1) (slots + 6) Q (F0 m (pc + 3) ls (.int r :: rest))) : W p l e R s m args below meth c H locs cells slots Q (F0 m pc ls (.ref a0 :: rest)) := by
  exact k_iVmx (As := []) hF hsz (m_X6_read l hl0 D cy H.size S a0 x S1 h) (cwV_of (n := 0) hF.2.2.2.2 hk wd_616 wd_617 wd_69 wd_618 rfl rfl (by decide +kernel) hR) rfl hK hP hD hA hS hE (ci := 5) hc rfl hW rfl hdg hf kx kk
/-- VowBlocks.find(I)LVowBlocks$Block; -/
def f_X6_find (S : St) (a0 : Nat) (a1 : Int32) : Option (String ⊕ Nat) :=
  (gR S a0 5 0).bind fun x1 =>
  (oO S x1 1).bind fun _ =>
  (f_X2_has S x1 a1).bind fun x5 =>
  if x5 = 0 then
    some (.inl "java/lang/IndexOutOfBoundsException")
  else
    (gR S a0 5 0).bind fun x7 =>
    (oO S x7 1).bind fun _ =>
    (f_X2_at S x7 a1).bind fun x11 =>
    some (.inr x11)
abbrev rm_X6_find : Room := { frames := 6, cells := 1, slots := 6, locals := 82 }
set_option maxHeartbeats 4000000 in
set_option maxRecDepth 100000 in
theorem m_X6_find (l : Launch) (hl0 : l.stackTraces = false) (D : va_G) (cy : Nat → ClassId) (S : St) (a0 : Nat) (a1 : Int32) (x : String ⊕ Nat) (h : f_X6_find S a0 a1 = some x) : vx_Met l yX6_find (wsA yX6_find cX6_find 2 (some (.object "VowBlocks$Block"))) rm_X6_find (va_Pc [.ref a0, .int a1] (PSX D cy S)) (va_Qq (fun r' (_ : Unit) => ∃ r, r' = some r ∧ x = .inr r) (fun _ _ => True) noA) (vx_X (fun _ : Unit => True) (fun E _ _ => x = .inl E) noA) 1 6 noA := by
  refine vx_ofW (cc := cX6_find) (maxL := 2) (ret := (some (.object "VowBlocks$Block"))) (by decide) rfl ?_
  intro p e s m args below meth c s₁ B hml htb hv
  obtain ⟨rfl, hP, hK, hE⟩ := hv
  have hx := B.exec
  have hb := B.bytes
  have hr := B.returns
  have hts9 := atoms_spec (ws := wsA yX6_find cX6_find 2 (some (.object "VowBlocks$Block"))) B.pre
  have hts : ∀ w ∈ ALLW, w.before _ s = true := fun w h => hts9 w (List.mem_cons_of_mem _ h)
  have hown : s.vm.findClass RX6 = some m.cls := findClass_of_methodNamed B.named
  have hlocks := B.notSynchronized
  have hS : va_S noA s.heap s.heap [] := va_S.rf
  have hl := lv_entry [.ref a0, .int a1] (n := 2) (Nat.le_of_ble_eq_true rfl)
  rw [lg_entry_eq]
  generalize (lg_sl [.ref a0, .int a1] ++ List.replicate (2 - (lg_sl [.ref a0, .int a1]).length) Slot.unset).toArray = ls at hl ⊢
  have hl : lv_has ls 2 [(0, .ref a0), (1, .int a1)] := hl
  rw [f_X6_find] at h
  refine lv_aload_n hx hb dX6_find_0 rfl (lv_at hl 0 rfl) ?_
  replace h := bd h
  obtain ⟨x1, q2, h⟩ := h
  refine fg_5_0 hx hb hts hown hK hP wd_214 q2 dX6_find_1 ?_
  refine lv_iload_n hx hb dX6_find_4 rfl (lv_at hl 1 rfl) ?_
  replace h := bd h
  obtain ⟨_, q3, h⟩ := h
  replace h := bd h
  obtain ⟨x5, q4, h⟩ := h
  refine c_X2_has ⟨hx, hb, hml, hown, hts⟩ hl.1 hK hP hS wd_642 ⟨(Nat.le_of_ble_eq_true rfl), (Nat.le_of_ble_eq_true rfl)⟩ q4 q3 (Nat.le_of_ble_eq_true rfl) dX6_find_5 ⟨(Nat.le_of_ble_eq_true rfl), (Nat.le_of_ble_eq_true rfl)⟩ (fun H locs hP hS => ?_)
  refine lv_if_ne (tgt := 22) hx hb dX6_find_8 (by decide) (fun c6 => ?_) (fun c6 => ?_)
  · replace h := ifn c6 h
    refine lv_aload_n hx hb dX6_find_22 rfl (lv_at hl 0 rfl) ?_
    replace h := bd h
    obtain ⟨x7, q8, h⟩ := h
    refine fg_5_0 hx hb hts hown hK hP wd_214 q8 dX6_find_23 ?_
    refine lv_iload_n hx hb dX6_find_26 rfl (lv_at hl 1 rfl) ?_
    replace h := bd h
    obtain ⟨_, q9, h⟩ := h
    replace h := bd h
    obtain ⟨x11, q10, h⟩ := h
    refine c_X2_at ⟨hx, hb, hml, hown, hts⟩ hl.1 hK hP hS wd_271 ⟨(Nat.le_of_ble_eq_true rfl), (Nat.le_of_ble_eq_true rfl)⟩ q10 q9 (Nat.le_of_ble_eq_true rfl) dX6_find_27 ⟨(Nat.le_of_ble_eq_true rfl), (Nat.le_of_ble_eq_true rfl)⟩ (fun H locs hP hS => ?_)
    cases h
    exact e_rpx hx hb hlocks (Or.inl ⟨_, rfl⟩) hr hS (Nat.le_of_ble_eq_true rfl) (Nat.le_of_ble_eq_true rfl) dX6_find_30
  · replace h := ifp c6 h
    cases h
    exact tX6_IndexOutOfBoundsExceptionWp hx hb hl0 hown hts hE hS (hl.1.trans hml.symm) dX6_find_11 dX6_find_14 dX6_find_15 dX6_find_18 dX6_find_21 (fun x h => (htb x h).elim) (Nat.le_of_ble_eq_true rfl) (Nat.le_of_ble_eq_true rfl) (Nat.le_of_ble_eq_true rfl) (Nat.le_of_ble_eq_true rfl) hlocks (Nat.le_of_ble_eq_true rfl) (Nat.le_of_ble_eq_true rfl) (text := "no such block") (is := 265) (by decide +kernel)
set_option maxRecDepth 100000 in
theorem c_X6_find {p : Program} {l : Launch} {e : Env} {R : Room} {s : State} {m : MethodId} {args : Array Value} {below : List Frame} {meth : Method} {c : Code} {H : Heap} {locs : List Loc} {cells slots : Nat} {Q : State → Prop} {cc : ByteArray} {pc index nL : Nat} {ls : Array Slot} {rest : List Value} {D : va_G} {cy : Nat → ClassId} {A0 : Nat → Prop} {S : St} {own : String} {u : Unit} {a0 : Nat} {a1 : Int32} {x : String ⊕ Nat}  (hF : CallFix p m c cc nL s args ALLW own) (hsz : ls.size = nL) (hK : va_K D vwCl (tyL cy) s) (hP : SP D cy S H) (hS : va_S A0 s.heap H locs) (hE : ENV A0 s) (hl0 : l.stackTraces = false) (hk : Cond.methodLink own index yX6_find ∈ ALLW) (hR : rm_X6_find.frames + 1 ≤ R.frames ∧ 8 + (2 + 11) + rm_X6_find.locals ≤ R.locals) (h : f_X6_find S a0 a1 = some x) (hc : oO S a0 5 = some u) (hW : (rest.map fun v => v.category).sum ≤ 8) (hdg : decode cc pc = .ok (.invokevirtual index, 3)) (hf : cells + 1 ≤ R.cells ∧ slots + 6 ≤ R.slots)
    (kx : ∀ (E : String) (ce : Cell) (q9 : Addr) (H1 : Heap) (locs1 : List Loc), x = .inl E → SP D cy S H1 → va_S A0 s.heap H1 locs1 → H1[q9]? = some ce → ce.vm = .none → s.vm.findClass E = some ce.cls → vx_W p l e R s m args below meth c H1 locs1 (cells + 1) (slots + 6) Q (F0 m pc ls rest) q9)
    (kk : ∀ (r : Nat) (H1 : Heap) (locs1 : List Loc), x = .inr r → SP D cy S H1 → va_S A0 s.heap H1 locs1 → W p l e R s m args below meth c H1 locs1 (cells + 1) (slots + 6) Q (F0 m (pc + 3) ls (.ref r :: rest))) : W p l e R s m args below meth c H locs cells slots Q (F0 m pc ls (.int a1 :: .ref a0 :: rest)) := by
  exact k_rVpx (As := [.int a1]) hF hsz (m_X6_find l hl0 D cy S a0 a1 x h) (cwV_of (n := 1) hF.2.2.2.2 hk wd_640 wd_16 wd_69 wd_641 rfl rfl (by decide +kernel) hR) rfl hK hP hS hE (ci := 5) hc rfl hW rfl hdg hf kx kk
/-- VowBlocks.add(II)I -/
def f_X6_add (S : St) (a0 : Nat) (a1 : Int32) (a2 : Int32) : Option ((String ⊕ Int32) × St) :=
  (oO S a0 5).bind fun _ =>
  (f_X6_find S a0 a1).bind fun z3 =>
  Sum.elim (fun E =>
    some (.inl E, S)
  ) (fun x4 =>
  (gR S x4 0 0).bind fun x5 =>
  (f_X6_requireValue a2).bind fun z8 =>
  Sum.elim (fun E =>
    some (.inl E, S)
  ) (fun _ =>
  (oO S x5 3).bind fun _ =>
  (f_X4_hasRoomFor S x5 1).bind fun x12 =>
  if x12 = 0 then
    some (.inl "java/lang/IllegalStateException", S)
  else
    (gR S a0 5 1).bind fun x14 =>
    (gR S a0 5 0).bind fun x16 =>
    (oO S x14 2).bind fun _ =>
    (f_X3_save S x14 x16).bind fun z20 =>
    (oO z20 x5 3).bind fun _ =>
    (f_X4_push z20 x5 a2 1).bind fun z23 =>
    (oO z23.2 x5 3).bind fun _ =>
    (f_X4_size z23.2 x5).bind fun x26 =>
    some (.inr x26, z23.2)
  ) z8
  ) z3
abbrev rm_X6_add : Room := { frames := 8, cells := 3, slots := 18, locals := 124 }
set_option maxHeartbeats 4000000 in
set_option maxRecDepth 100000 in
theorem m_X6_add (l : Launch) (hl0 : l.stackTraces = false) (D : va_G) (cy : Nat → ClassId) (sz : Nat) (S : St) (a0 : Nat) (a1 : Int32) (a2 : Int32) (x : String ⊕ Int32) (S1 : St) (h : f_X6_add S a0 a1 a2 = some (x, S1)) : vx_Met l yX6_add (wsA yX6_add cX6_add 4 (some .int)) rm_X6_add (va_Pc [.ref a0, .int a1, .int a2] (PNX D cy S sz)) (va_Qi (fun r' (_ : Unit) => x = .inr r') (fun _ t => PoS D cy S1 (dm S sz) t) (dm S sz)) (vx_X (fun _ : Unit => True) (fun E _ t => x = .inl E ∧ PoS D cy S1 (dm S sz) t) (dm S sz)) 3 18 (dm S sz) := by
  refine vx_ofW (cc := cX6_add) (maxL := 4) (ret := (some .int)) (by decide) rfl ?_
  intro p e s m args below meth c s₁ B hml htb hv
  obtain ⟨rfl, hsz, hP, hK, hE⟩ := hv
  have hx := B.exec
  have hb := B.bytes
  have hr := B.returns
  have hts9 := atoms_spec (ws := wsA yX6_add cX6_add 4 (some .int)) B.pre
  have hts : ∀ w ∈ ALLW, w.before _ s = true := fun w h => hts9 w (List.mem_cons_of_mem _ h)
  have hown : s.vm.findClass RX6 = some m.cls := findClass_of_methodNamed B.named
  have hlocks := B.notSynchronized
  subst hsz
  have hD : ∀ a, S a ≠ none → dm S s.heap.size a := fun a h => Or.inl h
  have hA : ∀ q : Nat, s.heap.size ≤ q → dm S s.heap.size q := fun q h => Or.inr h
  have hS : va_S (dm S s.heap.size) s.heap s.heap [] := va_S.rf
  have hl := lv_entry [.ref a0, .int a1, .int a2] (n := 4) (Nat.le_of_ble_eq_true rfl)
  rw [lg_entry_eq]
  generalize (lg_sl [.ref a0, .int a1, .int a2] ++ List.replicate (4 - (lg_sl [.ref a0, .int a1, .int a2]).length) Slot.unset).toArray = ls at hl ⊢
  have hl : lv_has ls 4 [(0, .ref a0), (1, .int a1), (2, .int a2)] := hl
  rw [f_X6_add] at h
  refine lv_aload_n hx hb dX6_add_0 rfl (lv_at hl 0 rfl) ?_
  refine lv_iload_n hx hb dX6_add_1 rfl (lv_at hl 1 rfl) ?_
  replace h := bd h
  obtain ⟨_, q1, h⟩ := h
  replace h := bd h
  obtain ⟨z3, q2, h⟩ := h
  refine c_X6_find ⟨hx, hb, hml, hown, hts⟩ hl.1 hK hP hS hE hl0 wd_638 ⟨(Nat.le_of_ble_eq_true rfl), (Nat.le_of_ble_eq_true rfl)⟩ q2 q1 (Nat.le_of_ble_eq_true rfl) dX6_add_2 ⟨(Nat.le_of_ble_eq_true rfl), (Nat.le_of_ble_eq_true rfl)⟩ (fun E ce qx9 H locs hx9 hP hS h1 h2 h3 => ?_) (fun x4 H locs hx9 hP hS => ?_)
  · replace h := sel_l hx9 h
    cases h
    exact o_m (fun x h => (htb x h).elim) hlocks h1 h2 h3 hP hD hS (Nat.le_of_ble_eq_true rfl) (Nat.le_of_ble_eq_true rfl)
  · replace h := sel_r hx9 h
    replace h := bd h
    obtain ⟨x5, q6, h⟩ := h
    refine fg_0_0 hx hb hts hown hK hP wd_121 q6 dX6_add_5 ?_
    refine lv_astore_n (lv' := [(3, .ref x5), (0, .ref a0), (1, .int a1), (2, .int a2)]) hx hb dX6_add_8 rfl hl (by decide) rfl (fun ls hl => ?_)
    refine lv_iload_n hx hb dX6_add_9 rfl (lv_at hl 3 rfl) ?_
    replace h := bd h
    obtain ⟨z8, q7, h⟩ := h
    refine c_X6_requireValue ⟨hx, hb, hml, hown, hts⟩ hl.1 hK hP hS hE hl0 wd_479 ⟨(Nat.le_of_ble_eq_true rfl), (Nat.le_of_ble_eq_true rfl)⟩ q7 (Nat.le_of_ble_eq_true rfl) dX6_add_10 ⟨(Nat.le_of_ble_eq_true rfl), (Nat.le_of_ble_eq_true rfl)⟩ (fun E ce qx9 H locs hx9 hP hS h1 h2 h3 => ?_) (fun H locs hx9 hP hS => ?_)
    · replace h := sel_l hx9 h
      cases h
      exact o_m (fun x h => (htb x h).elim) hlocks h1 h2 h3 hP hD hS (Nat.le_of_ble_eq_true rfl) (Nat.le_of_ble_eq_true rfl)
    · replace h := sel_r hx9 h
      refine lv_aload_n hx hb dX6_add_13 rfl (lv_at hl 0 rfl) ?_
      refine lv_iconst (v := 1) hx hb dX6_add_14 (by decide) ?_
      replace h := bd h
      obtain ⟨_, q10, h⟩ := h
      replace h := bd h
      obtain ⟨x12, q11, h⟩ := h
      refine c_X4_hasRoomFor ⟨hx, hb, hml, hown, hts⟩ hl.1 hK hP hS wd_445 ⟨(Nat.le_of_ble_eq_true rfl), (Nat.le_of_ble_eq_true rfl)⟩ q11 q10 (Nat.le_of_ble_eq_true rfl) dX6_add_15 ⟨(Nat.le_of_ble_eq_true rfl), (Nat.le_of_ble_eq_true rfl)⟩ (fun H locs hP hS => ?_)
      refine lv_if_ne (tgt := 31) hx hb dX6_add_18 (by decide) (fun c13 => ?_) (fun c13 => ?_)
      · replace h := ifn c13 h
        refine lv_aload_n hx hb dX6_add_31 rfl (lv_at hl 1 rfl) ?_
        replace h := bd h
        obtain ⟨x14, q15, h⟩ := h
        refine fg_5_1 hx hb hts hown hK hP wd_215 q15 dX6_add_32 ?_
        refine lv_aload_n hx hb dX6_add_35 rfl (lv_at hl 1 rfl) ?_
        replace h := bd h
        obtain ⟨x16, q17, h⟩ := h
        refine fg_5_0 hx hb hts hown hK hP wd_214 q17 dX6_add_36 ?_
        replace h := bd h
        obtain ⟨_, q18, h⟩ := h
        replace h := bd h
        obtain ⟨z20, q19, h⟩ := h
        refine c_X3_save ⟨hx, hb, hml, hown, hts⟩ hl.1 hK hP hD hA hS wd_582 ⟨(Nat.le_of_ble_eq_true rfl), (Nat.le_of_ble_eq_true rfl)⟩ q19 q18 (Nat.le_of_ble_eq_true rfl) dX6_add_39 ⟨(Nat.le_of_ble_eq_true rfl), (Nat.le_of_ble_eq_true rfl)⟩ (fun H locs hP hD hS => ?_)
        refine lv_aload_n hx hb dX6_add_42 rfl (lv_at hl 0 rfl) ?_
        refine lv_iload_n hx hb dX6_add_43 rfl (lv_at hl 3 rfl) ?_
        refine lv_iconst (v := 1) hx hb dX6_add_44 (by decide) ?_
        replace h := bd h
        obtain ⟨_, q21, h⟩ := h
        replace h := bd h
        obtain ⟨z23, q22, h⟩ := h
        refine c_X4_push ⟨hx, hb, hml, hown, hts⟩ hl.1 hK hP hD hA hS wd_581 ⟨(Nat.le_of_ble_eq_true rfl), (Nat.le_of_ble_eq_true rfl)⟩ q22 q21 (Nat.le_of_ble_eq_true rfl) dX6_add_45 ⟨(Nat.le_of_ble_eq_true rfl), (Nat.le_of_ble_eq_true rfl)⟩ (fun H locs hP hD hS => ?_)
        refine lv_pop hx hb dX6_add_48 rfl ?_
        refine lv_aload_n hx hb dX6_add_49 rfl (lv_at hl 0 rfl) ?_
        replace h := bd h
        obtain ⟨_, q24, h⟩ := h
        replace h := bd h
        obtain ⟨x26, q25, h⟩ := h
        refine c_X4_size ⟨hx, hb, hml, hown, hts⟩ hl.1 hK hP hS wd_283 ⟨(Nat.le_of_ble_eq_true rfl), (Nat.le_of_ble_eq_true rfl)⟩ q25 q24 (Nat.le_of_ble_eq_true rfl) dX6_add_50 ⟨(Nat.le_of_ble_eq_true rfl), (Nat.le_of_ble_eq_true rfl)⟩ (fun H locs hP hS => ?_)
        cases h
        exact e_imx hx hb hlocks hr hP hD hS (Nat.le_of_ble_eq_true rfl) (Nat.le_of_ble_eq_true rfl) dX6_add_53
      · replace h := ifp c13 h
        cases h
        exact tX6_IllegalStateExceptionm hx hb hl0 hown hts hE hP hD hS (hl.1.trans hml.symm) dX6_add_21 dX6_add_24 dX6_add_25 dX6_add_27 dX6_add_30 (fun x h => (htb x h).elim) (Nat.le_of_ble_eq_true rfl) (Nat.le_of_ble_eq_true rfl) (Nat.le_of_ble_eq_true rfl) (Nat.le_of_ble_eq_true rfl) hlocks (Nat.le_of_ble_eq_true rfl) (Nat.le_of_ble_eq_true rfl) (text := "the block has 24 values") (is := 92) (by decide +kernel)
set_option maxRecDepth 100000 in
theorem c_X6_add {p : Program} {l : Launch} {e : Env} {R : Room} {s : State} {m : MethodId} {args : Array Value} {below : List Frame} {meth : Method} {c : Code} {H : Heap} {locs : List Loc} {cells slots : Nat} {Q : State → Prop} {cc : ByteArray} {pc index nL : Nat} {ls : Array Slot} {rest : List Value} {D : va_G} {cy : Nat → ClassId} {A0 : Nat → Prop} {S : St} {own : String} {u : Unit} {a0 : Nat} {a1 : Int32} {a2 : Int32} {x : String ⊕ Int32} {S1 : St}  (hF : CallFix p m c cc nL s args ALLW own) (hsz : ls.size = nL) (hK : va_K D vwCl (tyL cy) s) (hP : SP D cy S H) (hD : ∀ a, S a ≠ none → A0 a) (hA : ∀ q, s.heap.size ≤ q → A0 q) (hS : va_S A0 s.heap H locs) (hE : ENV A0 s) (hl0 : l.stackTraces = false) (hk : Cond.methodLink own index yX6_add ∈ ALLW) (hR : rm_X6_add.frames + 1 ≤ R.frames ∧ 8 + (4 + 11) + rm_X6_add.locals ≤ R.locals) (h : f_X6_add S a0 a1 a2 = some (x, S1)) (hc : oO S a0 5 = some u) (hW : (rest.map fun v => v.category).sum ≤ 8) (hdg : decode cc pc = .ok (.invokevirtual index, 3)) (hf : cells + 3 ≤ R.cells ∧ slots + 18 ≤ R.slots)
    (kx : ∀ (E : String) (ce : Cell) (q9 : Addr) (H1 : Heap) (locs1 : List Loc), x = .inl E → SP D cy S1 H1 → (∀ a, S1 a ≠ none → A0 a) → va_S A0 s.heap H1 locs1 → H1[q9]? = some ce → ce.vm = .none → s.vm.findClass E = some ce.cls → vx_W p l e R s m args below meth c H1 locs1 (cells + 3) (slots + 18) Q (F0 m pc ls rest) q9)
    (kk : ∀ (r : Int32) (H1 : Heap) (locs1 : List Loc), x = .inr r → SP D cy S1 H1 → (∀ a, S1 a ≠ none → A0 a) → va_S A0 s.heap H1 locs1 → W p l e R s m args below meth c H1 locs1 (cells + 3) (slots + 18) Q (F0 m (pc + 3) ls (.int r :: rest))) : W p l e R s m args below meth c H locs cells slots Q (F0 m pc ls (.int a2 :: .int a1 :: .ref a0 :: rest)) := by
  exact k_iVmx (As := [.int a1, .int a2]) hF hsz (m_X6_add l hl0 D cy H.size S a0 a1 a2 x S1 h) (cwV_of (n := 2) hF.2.2.2.2 hk wd_635 wd_636 wd_69 wd_637 rfl rfl (by decide +kernel) hR) rfl hK hP hD hA hS hE (ci := 5) hc rfl hW rfl hdg hf kx kk
/-- VowBlocks.findWithPlace(II)LVowBlocks$Block; -/
def f_X6_findWithPlace (S : St) (a0 : Nat) (a1 : Int32) (a2 : Int32) : Option (String ⊕ Nat) :=
  (oO S a0 5).bind fun _ =>
  (f_X6_find S a0 a1).bind fun z3 =>
  Sum.elim (fun E =>
    some (.inl E)
  ) (fun x4 =>
  (gR S x4 0 0).bind fun x5 =>
  (oO S x5 3).bind fun _ =>
  (f_X4_has S x5 a2).bind fun x9 =>
  if x9 = 0 then
    some (.inl "java/lang/IndexOutOfBoundsException")
  else
    some (.inr x4)
  ) z3
abbrev rm_X6_findWithPlace : Room := { frames := 7, cells := 2, slots := 12, locals := 103 }
set_option maxHeartbeats 4000000 in
set_option maxRecDepth 100000 in
theorem m_X6_findWithPlace (l : Launch) (hl0 : l.stackTraces = false) (D : va_G) (cy : Nat → ClassId) (S : St) (a0 : Nat) (a1 : Int32) (a2 : Int32) (x : String ⊕ Nat) (h : f_X6_findWithPlace S a0 a1 a2 = some x) : vx_Met l yX6_findWithPlace (wsA yX6_findWithPlace cX6_findWithPlace 4 (some (.object "VowBlocks$Block"))) rm_X6_findWithPlace (va_Pc [.ref a0, .int a1, .int a2] (PSX D cy S)) (va_Qq (fun r' (_ : Unit) => ∃ r, r' = some r ∧ x = .inr r) (fun _ _ => True) noA) (vx_X (fun _ : Unit => True) (fun E _ _ => x = .inl E) noA) 2 12 noA := by
  refine vx_ofW (cc := cX6_findWithPlace) (maxL := 4) (ret := (some (.object "VowBlocks$Block"))) (by decide) rfl ?_
  intro p e s m args below meth c s₁ B hml htb hv
  obtain ⟨rfl, hP, hK, hE⟩ := hv
  have hx := B.exec
  have hb := B.bytes
  have hr := B.returns
  have hts9 := atoms_spec (ws := wsA yX6_findWithPlace cX6_findWithPlace 4 (some (.object "VowBlocks$Block"))) B.pre
  have hts : ∀ w ∈ ALLW, w.before _ s = true := fun w h => hts9 w (List.mem_cons_of_mem _ h)
  have hown : s.vm.findClass RX6 = some m.cls := findClass_of_methodNamed B.named
  have hlocks := B.notSynchronized
  have hS : va_S noA s.heap s.heap [] := va_S.rf
  have hl := lv_entry [.ref a0, .int a1, .int a2] (n := 4) (Nat.le_of_ble_eq_true rfl)
  rw [lg_entry_eq]
  generalize (lg_sl [.ref a0, .int a1, .int a2] ++ List.replicate (4 - (lg_sl [.ref a0, .int a1, .int a2]).length) Slot.unset).toArray = ls at hl ⊢
  have hl : lv_has ls 4 [(0, .ref a0), (1, .int a1), (2, .int a2)] := hl
  rw [f_X6_findWithPlace] at h
  refine lv_aload_n hx hb dX6_findWithPlace_0 rfl (lv_at hl 0 rfl) ?_
  refine lv_iload_n hx hb dX6_findWithPlace_1 rfl (lv_at hl 1 rfl) ?_
  replace h := bd h
  obtain ⟨_, q1, h⟩ := h
  replace h := bd h
  obtain ⟨z3, q2, h⟩ := h
  refine c_X6_find ⟨hx, hb, hml, hown, hts⟩ hl.1 hK hP hS hE hl0 wd_638 ⟨(Nat.le_of_ble_eq_true rfl), (Nat.le_of_ble_eq_true rfl)⟩ q2 q1 (Nat.le_of_ble_eq_true rfl) dX6_findWithPlace_2 ⟨(Nat.le_of_ble_eq_true rfl), (Nat.le_of_ble_eq_true rfl)⟩ (fun E ce qx9 H locs hx9 hP hS h1 h2 h3 => ?_) (fun x4 H locs hx9 hP hS => ?_)
  · replace h := sel_l hx9 h
    cases h
    exact o_p (fun x h => (htb x h).elim) hlocks h1 h2 h3 hS (Nat.le_of_ble_eq_true rfl) (Nat.le_of_ble_eq_true rfl)
  · replace h := sel_r hx9 h
    refine lv_astore_n (lv' := [(3, .ref x4), (0, .ref a0), (1, .int a1), (2, .int a2)]) hx hb dX6_findWithPlace_5 rfl hl (by decide) rfl (fun ls hl => ?_)
    refine lv_aload_n hx hb dX6_findWithPlace_6 rfl (lv_at hl 0 rfl) ?_
    replace h := bd h
    obtain ⟨x5, q6, h⟩ := h
    refine fg_0_0 hx hb hts hown hK hP wd_121 q6 dX6_findWithPlace_7 ?_
    refine lv_iload_n hx hb dX6_findWithPlace_10 rfl (lv_at hl 3 rfl) ?_
    replace h := bd h
    obtain ⟨_, q7, h⟩ := h
    replace h := bd h
    obtain ⟨x9, q8, h⟩ := h
    refine c_X4_has ⟨hx, hb, hml, hown, hts⟩ hl.1 hK hP hS wd_671 ⟨(Nat.le_of_ble_eq_true rfl), (Nat.le_of_ble_eq_true rfl)⟩ q8 q7 (Nat.le_of_ble_eq_true rfl) dX6_findWithPlace_11 ⟨(Nat.le_of_ble_eq_true rfl), (Nat.le_of_ble_eq_true rfl)⟩ (fun H locs hP hS => ?_)
    refine lv_if_ne (tgt := 28) hx hb dX6_findWithPlace_14 (by decide) (fun c10 => ?_) (fun c10 => ?_)
    · replace h := ifn c10 h
      refine lv_aload_n hx hb dX6_findWithPlace_28 rfl (lv_at hl 0 rfl) ?_
      cases h
      exact e_rpx hx hb hlocks (Or.inl ⟨_, rfl⟩) hr hS (Nat.le_of_ble_eq_true rfl) (Nat.le_of_ble_eq_true rfl) dX6_findWithPlace_29
    · replace h := ifp c10 h
      cases h
      exact tX6_IndexOutOfBoundsExceptionWp hx hb hl0 hown hts hE hS (hl.1.trans hml.symm) dX6_findWithPlace_17 dX6_findWithPlace_20 dX6_findWithPlace_21 dX6_findWithPlace_24 dX6_findWithPlace_27 (fun x h => (htb x h).elim) (Nat.le_of_ble_eq_true rfl) (Nat.le_of_ble_eq_true rfl) (Nat.le_of_ble_eq_true rfl) (Nat.le_of_ble_eq_true rfl) hlocks (Nat.le_of_ble_eq_true rfl) (Nat.le_of_ble_eq_true rfl) (text := "no such place") (is := 268) (by decide +kernel)
set_option maxRecDepth 100000 in
theorem c_X6_findWithPlace {p : Program} {l : Launch} {e : Env} {R : Room} {s : State} {m : MethodId} {args : Array Value} {below : List Frame} {meth : Method} {c : Code} {H : Heap} {locs : List Loc} {cells slots : Nat} {Q : State → Prop} {cc : ByteArray} {pc index nL : Nat} {ls : Array Slot} {rest : List Value} {D : va_G} {cy : Nat → ClassId} {A0 : Nat → Prop} {S : St} {own : String} {u : Unit} {a0 : Nat} {a1 : Int32} {a2 : Int32} {x : String ⊕ Nat}  (hF : CallFix p m c cc nL s args ALLW own) (hsz : ls.size = nL) (hK : va_K D vwCl (tyL cy) s) (hP : SP D cy S H) (hS : va_S A0 s.heap H locs) (hE : ENV A0 s) (hl0 : l.stackTraces = false) (hk : Cond.methodLink own index yX6_findWithPlace ∈ ALLW) (hR : rm_X6_findWithPlace.frames + 1 ≤ R.frames ∧ 8 + (4 + 11) + rm_X6_findWithPlace.locals ≤ R.locals) (h : f_X6_findWithPlace S a0 a1 a2 = some x) (hc : oO S a0 5 = some u) (hW : (rest.map fun v => v.category).sum ≤ 8) (hdg : decode cc pc = .ok (.invokevirtual index, 3)) (hf : cells + 2 ≤ R.cells ∧ slots + 12 ≤ R.slots)
    (kx : ∀ (E : String) (ce : Cell) (q9 : Addr) (H1 : Heap) (locs1 : List Loc), x = .inl E → SP D cy S H1 → va_S A0 s.heap H1 locs1 → H1[q9]? = some ce → ce.vm = .none → s.vm.findClass E = some ce.cls → vx_W p l e R s m args below meth c H1 locs1 (cells + 2) (slots + 12) Q (F0 m pc ls rest) q9)
    (kk : ∀ (r : Nat) (H1 : Heap) (locs1 : List Loc), x = .inr r → SP D cy S H1 → va_S A0 s.heap H1 locs1 → W p l e R s m args below meth c H1 locs1 (cells + 2) (slots + 12) Q (F0 m (pc + 3) ls (.ref r :: rest))) : W p l e R s m args below meth c H locs cells slots Q (F0 m pc ls (.int a2 :: .int a1 :: .ref a0 :: rest)) := by
  exact k_rVpx (As := [.int a1, .int a2]) hF hsz (m_X6_findWithPlace l hl0 D cy S a0 a1 a2 x h) (cwV_of (n := 2) hF.2.2.2.2 hk wd_669 wd_17 wd_69 wd_670 rfl rfl (by decide +kernel) hR) rfl hK hP hS hE (ci := 5) hc rfl hW rfl hdg hf kx kk
/-- VowBlocks.put(III)I -/
def f_X6_put (S : St) (a0 : Nat) (a1 : Int32) (a2 : Int32) (a3 : Int32) : Option ((String ⊕ Int32) × St) :=
  (oO S a0 5).bind fun _ =>
  (f_X6_findWithPlace S a0 a1 a2).bind fun z3 =>
  Sum.elim (fun E =>
    some (.inl E, S)
  ) (fun x4 =>
  (gR S x4 0 0).bind fun x5 =>
  (f_X6_requireValue a3).bind fun z8 =>
  Sum.elim (fun E =>
    some (.inl E, S)
  ) (fun _ =>
  (gR S a0 5 1).bind fun x10 =>
  (gR S a0 5 0).bind fun x12 =>
  (oO S x10 2).bind fun _ =>
  (f_X3_save S x10 x12).bind fun z16 =>
  (oO z16 x5 3).bind fun _ =>
  (f_X4_at z16 x5 a2).bind fun x19 =>
  (oO z16 x5 3).bind fun _ =>
  (f_X4_replace z16 x5 a2 a3).bind fun z22 =>
  some (.inr x19, z22)
  ) z8
  ) z3
abbrev rm_X6_put : Room := { frames := 8, cells := 3, slots := 18, locals := 126 }
set_option maxHeartbeats 4000000 in
set_option maxRecDepth 100000 in
theorem m_X6_put (l : Launch) (hl0 : l.stackTraces = false) (D : va_G) (cy : Nat → ClassId) (sz : Nat) (S : St) (a0 : Nat) (a1 : Int32) (a2 : Int32) (a3 : Int32) (x : String ⊕ Int32) (S1 : St) (h : f_X6_put S a0 a1 a2 a3 = some (x, S1)) : vx_Met l yX6_put (wsA yX6_put cX6_put 6 (some .int)) rm_X6_put (va_Pc [.ref a0, .int a1, .int a2, .int a3] (PNX D cy S sz)) (va_Qi (fun r' (_ : Unit) => x = .inr r') (fun _ t => PoS D cy S1 (dm S sz) t) (dm S sz)) (vx_X (fun _ : Unit => True) (fun E _ t => x = .inl E ∧ PoS D cy S1 (dm S sz) t) (dm S sz)) 3 18 (dm S sz) := by
  refine vx_ofW (cc := cX6_put) (maxL := 6) (ret := (some .int)) (by decide) rfl ?_
  intro p e s m args below meth c s₁ B hml htb hv
  obtain ⟨rfl, hsz, hP, hK, hE⟩ := hv
  have hx := B.exec
  have hb := B.bytes
  have hr := B.returns
  have hts9 := atoms_spec (ws := wsA yX6_put cX6_put 6 (some .int)) B.pre
  have hts : ∀ w ∈ ALLW, w.before _ s = true := fun w h => hts9 w (List.mem_cons_of_mem _ h)
  have hown : s.vm.findClass RX6 = some m.cls := findClass_of_methodNamed B.named
  have hlocks := B.notSynchronized
  subst hsz
  have hD : ∀ a, S a ≠ none → dm S s.heap.size a := fun a h => Or.inl h
  have hA : ∀ q : Nat, s.heap.size ≤ q → dm S s.heap.size q := fun q h => Or.inr h
  have hS : va_S (dm S s.heap.size) s.heap s.heap [] := va_S.rf
  have hl := lv_entry [.ref a0, .int a1, .int a2, .int a3] (n := 6) (Nat.le_of_ble_eq_true rfl)
  rw [lg_entry_eq]
  generalize (lg_sl [.ref a0, .int a1, .int a2, .int a3] ++ List.replicate (6 - (lg_sl [.ref a0, .int a1, .int a2, .int a3]).length) Slot.unset).toArray = ls at hl ⊢
  have hl : lv_has ls 6 [(0, .ref a0), (1, .int a1), (2, .int a2), (3, .int a3)] := hl
  rw [f_X6_put] at h
  refine lv_aload_n hx hb dX6_put_0 rfl (lv_at hl 0 rfl) ?_
  refine lv_iload_n hx hb dX6_put_1 rfl (lv_at hl 1 rfl) ?_
  refine lv_iload_n hx hb dX6_put_2 rfl (lv_at hl 2 rfl) ?_
  replace h := bd h
  obtain ⟨_, q1, h⟩ := h
  replace h := bd h
  obtain ⟨z3, q2, h⟩ := h
  refine c_X6_findWithPlace ⟨hx, hb, hml, hown, hts⟩ hl.1 hK hP hS hE hl0 wd_667 ⟨(Nat.le_of_ble_eq_true rfl), (Nat.le_of_ble_eq_true rfl)⟩ q2 q1 (Nat.le_of_ble_eq_true rfl) dX6_put_3 ⟨(Nat.le_of_ble_eq_true rfl), (Nat.le_of_ble_eq_true rfl)⟩ (fun E ce qx9 H locs hx9 hP hS h1 h2 h3 => ?_) (fun x4 H locs hx9 hP hS => ?_)
  · replace h := sel_l hx9 h
    cases h
    exact o_m (fun x h => (htb x h).elim) hlocks h1 h2 h3 hP hD hS (Nat.le_of_ble_eq_true rfl) (Nat.le_of_ble_eq_true rfl)
  · replace h := sel_r hx9 h
    replace h := bd h
    obtain ⟨x5, q6, h⟩ := h
    refine fg_0_0 hx hb hts hown hK hP wd_121 q6 dX6_put_6 ?_
    refine lv_astore (lv' := [(4, .ref x5), (0, .ref a0), (1, .int a1), (2, .int a2), (3, .int a3)]) hx hb dX6_put_9 hl (by decide) rfl (fun ls hl => ?_)
    refine lv_iload_n hx hb dX6_put_11 rfl (lv_at hl 4 rfl) ?_
    replace h := bd h
    obtain ⟨z8, q7, h⟩ := h
    refine c_X6_requireValue ⟨hx, hb, hml, hown, hts⟩ hl.1 hK hP hS hE hl0 wd_479 ⟨(Nat.le_of_ble_eq_true rfl), (Nat.le_of_ble_eq_true rfl)⟩ q7 (Nat.le_of_ble_eq_true rfl) dX6_put_12 ⟨(Nat.le_of_ble_eq_true rfl), (Nat.le_of_ble_eq_true rfl)⟩ (fun E ce qx9 H locs hx9 hP hS h1 h2 h3 => ?_) (fun H locs hx9 hP hS => ?_)
    · replace h := sel_l hx9 h
      cases h
      exact o_m (fun x h => (htb x h).elim) hlocks h1 h2 h3 hP hD hS (Nat.le_of_ble_eq_true rfl) (Nat.le_of_ble_eq_true rfl)
    · replace h := sel_r hx9 h
      refine lv_aload_n hx hb dX6_put_15 rfl (lv_at hl 1 rfl) ?_
      replace h := bd h
      obtain ⟨x10, q11, h⟩ := h
      refine fg_5_1 hx hb hts hown hK hP wd_215 q11 dX6_put_16 ?_
      refine lv_aload_n hx hb dX6_put_19 rfl (lv_at hl 1 rfl) ?_
      replace h := bd h
      obtain ⟨x12, q13, h⟩ := h
      refine fg_5_0 hx hb hts hown hK hP wd_214 q13 dX6_put_20 ?_
      replace h := bd h
      obtain ⟨_, q14, h⟩ := h
      replace h := bd h
      obtain ⟨z16, q15, h⟩ := h
      refine c_X3_save ⟨hx, hb, hml, hown, hts⟩ hl.1 hK hP hD hA hS wd_582 ⟨(Nat.le_of_ble_eq_true rfl), (Nat.le_of_ble_eq_true rfl)⟩ q15 q14 (Nat.le_of_ble_eq_true rfl) dX6_put_23 ⟨(Nat.le_of_ble_eq_true rfl), (Nat.le_of_ble_eq_true rfl)⟩ (fun H locs hP hD hS => ?_)
      refine lv_aload hx hb dX6_put_26 (lv_at hl 0 rfl) ?_
      refine lv_iload_n hx hb dX6_put_28 rfl (lv_at hl 3 rfl) ?_
      replace h := bd h
      obtain ⟨_, q17, h⟩ := h
      replace h := bd h
      obtain ⟨x19, q18, h⟩ := h
      refine c_X4_at ⟨hx, hb, hml, hown, hts⟩ hl.1 hK hP hS wd_356 ⟨(Nat.le_of_ble_eq_true rfl), (Nat.le_of_ble_eq_true rfl)⟩ q18 q17 (Nat.le_of_ble_eq_true rfl) dX6_put_29 ⟨(Nat.le_of_ble_eq_true rfl), (Nat.le_of_ble_eq_true rfl)⟩ (fun H locs hP hS => ?_)
      refine lv_istore (lv' := [(5, .int x19), (4, .ref x5), (0, .ref a0), (1, .int a1), (2, .int a2), (3, .int a3)]) hx hb dX6_put_32 hl (by decide) rfl (fun ls hl => ?_)
      refine lv_aload hx hb dX6_put_34 (lv_at hl 1 rfl) ?_
      refine lv_iload_n hx hb dX6_put_36 rfl (lv_at hl 4 rfl) ?_
      refine lv_iload_n hx hb dX6_put_37 rfl (lv_at hl 5 rfl) ?_
      replace h := bd h
      obtain ⟨_, q20, h⟩ := h
      replace h := bd h
      obtain ⟨z22, q21, h⟩ := h
      refine c_X4_replace ⟨hx, hb, hml, hown, hts⟩ hl.1 hK hP hD hA hS wd_437 ⟨(Nat.le_of_ble_eq_true rfl), (Nat.le_of_ble_eq_true rfl)⟩ q21 q20 (Nat.le_of_ble_eq_true rfl) dX6_put_38 ⟨(Nat.le_of_ble_eq_true rfl), (Nat.le_of_ble_eq_true rfl)⟩ (fun H locs hP hD hS => ?_)
      refine lv_iload hx hb dX6_put_41 (lv_at hl 0 rfl) ?_
      cases h
      exact e_imx hx hb hlocks hr hP hD hS (Nat.le_of_ble_eq_true rfl) (Nat.le_of_ble_eq_true rfl) dX6_put_43
set_option maxRecDepth 100000 in
theorem c_X6_put {p : Program} {l : Launch} {e : Env} {R : Room} {s : State} {m : MethodId} {args : Array Value} {below : List Frame} {meth : Method} {c : Code} {H : Heap} {locs : List Loc} {cells slots : Nat} {Q : State → Prop} {cc : ByteArray} {pc index nL : Nat} {ls : Array Slot} {rest : List Value} {D : va_G} {cy : Nat → ClassId} {A0 : Nat → Prop} {S : St} {own : String} {u : Unit} {a0 : Nat} {a1 : Int32} {a2 : Int32} {a3 : Int32} {x : String ⊕ Int32} {S1 : St}  (hF : CallFix p m c cc nL s args ALLW own) (hsz : ls.size = nL) (hK : va_K D vwCl (tyL cy) s) (hP : SP D cy S H) (hD : ∀ a, S a ≠ none → A0 a) (hA : ∀ q, s.heap.size ≤ q → A0 q) (hS : va_S A0 s.heap H locs) (hE : ENV A0 s) (hl0 : l.stackTraces = false) (hk : Cond.methodLink own index yX6_put ∈ ALLW) (hR : rm_X6_put.frames + 1 ≤ R.frames ∧ 8 + (6 + 11) + rm_X6_put.locals ≤ R.locals) (h : f_X6_put S a0 a1 a2 a3 = some (x, S1)) (hc : oO S a0 5 = some u) (hW : (rest.map fun v => v.category).sum ≤ 8) (hdg : decode cc pc = .ok (.invokevirtual index, 3)) (hf : cells + 3 ≤ R.cells ∧ slots + 18 ≤ R.slots)
    (kx : ∀ (E : String) (ce : Cell) (q9 : Addr) (H1 : Heap) (locs1 : List Loc), x = .inl E → SP D cy S1 H1 → (∀ a, S1 a ≠ none → A0 a) → va_S A0 s.heap H1 locs1 → H1[q9]? = some ce → ce.vm = .none → s.vm.findClass E = some ce.cls → vx_W p l e R s m args below meth c H1 locs1 (cells + 3) (slots + 18) Q (F0 m pc ls rest) q9)
    (kk : ∀ (r : Int32) (H1 : Heap) (locs1 : List Loc), x = .inr r → SP D cy S1 H1 → (∀ a, S1 a ≠ none → A0 a) → va_S A0 s.heap H1 locs1 → W p l e R s m args below meth c H1 locs1 (cells + 3) (slots + 18) Q (F0 m (pc + 3) ls (.int r :: rest))) : W p l e R s m args below meth c H locs cells slots Q (F0 m pc ls (.int a3 :: .int a2 :: .int a1 :: .ref a0 :: rest)) := by
  exact k_iVmx (As := [.int a1, .int a2, .int a3]) hF hsz (m_X6_put l hl0 D cy H.size S a0 a1 a2 a3 x S1 h) (cwV_of (n := 3) hF.2.2.2.2 hk wd_664 wd_665 wd_69 wd_666 rfl rfl (by decide +kernel) hR) rfl hK hP hD hA hS hE (ci := 5) hc rfl hW rfl hdg hf kx kk
/-- VowBlocks.take(II)I -/
def f_X6_take (S : St) (a0 : Nat) (a1 : Int32) (a2 : Int32) : Option ((String ⊕ Int32) × St) :=
  (oO S a0 5).bind fun _ =>
  (f_X6_findWithPlace S a0 a1 a2).bind fun z3 =>
  Sum.elim (fun E =>
    some (.inl E, S)
  ) (fun x4 =>
  (gR S x4 0 0).bind fun x5 =>
  (oO S x5 3).bind fun _ =>
  (f_X4_size S x5).bind fun x9 =>
  if 1 < x9 then
    (gR S a0 5 1).bind fun x11 =>
    (gR S a0 5 0).bind fun x13 =>
    (oO S x11 2).bind fun _ =>
    (f_X3_save S x11 x13).bind fun z17 =>
    (oO z17 x5 3).bind fun _ =>
    (f_X4_at z17 x5 a2).bind fun x20 =>
    (oO z17 x5 3).bind fun _ =>
    (f_X4_remove z17 x5 a2).bind fun z23 =>
    some (.inr x20, z23)
  else
    some (.inl "java/lang/IllegalStateException", S)
  ) z3
abbrev rm_X6_take : Room := { frames := 8, cells := 3, slots := 18, locals := 126 }
set_option maxHeartbeats 4000000 in
set_option maxRecDepth 100000 in
theorem m_X6_take (l : Launch) (hl0 : l.stackTraces = false) (D : va_G) (cy : Nat → ClassId) (sz : Nat) (S : St) (a0 : Nat) (a1 : Int32) (a2 : Int32) (x : String ⊕ Int32) (S1 : St) (h : f_X6_take S a0 a1 a2 = some (x, S1)) : vx_Met l yX6_take (wsA yX6_take cX6_take 5 (some .int)) rm_X6_take (va_Pc [.ref a0, .int a1, .int a2] (PNX D cy S sz)) (va_Qi (fun r' (_ : Unit) => x = .inr r') (fun _ t => PoS D cy S1 (dm S sz) t) (dm S sz)) (vx_X (fun _ : Unit => True) (fun E _ t => x = .inl E ∧ PoS D cy S1 (dm S sz) t) (dm S sz)) 3 18 (dm S sz) := by
  refine vx_ofW (cc := cX6_take) (maxL := 5) (ret := (some .int)) (by decide) rfl ?_
  intro p e s m args below meth c s₁ B hml htb hv
  obtain ⟨rfl, hsz, hP, hK, hE⟩ := hv
  have hx := B.exec
  have hb := B.bytes
  have hr := B.returns
  have hts9 := atoms_spec (ws := wsA yX6_take cX6_take 5 (some .int)) B.pre
  have hts : ∀ w ∈ ALLW, w.before _ s = true := fun w h => hts9 w (List.mem_cons_of_mem _ h)
  have hown : s.vm.findClass RX6 = some m.cls := findClass_of_methodNamed B.named
  have hlocks := B.notSynchronized
  subst hsz
  have hD : ∀ a, S a ≠ none → dm S s.heap.size a := fun a h => Or.inl h
  have hA : ∀ q : Nat, s.heap.size ≤ q → dm S s.heap.size q := fun q h => Or.inr h
  have hS : va_S (dm S s.heap.size) s.heap s.heap [] := va_S.rf
  have hl := lv_entry [.ref a0, .int a1, .int a2] (n := 5) (Nat.le_of_ble_eq_true rfl)
  rw [lg_entry_eq]
  generalize (lg_sl [.ref a0, .int a1, .int a2] ++ List.replicate (5 - (lg_sl [.ref a0, .int a1, .int a2]).length) Slot.unset).toArray = ls at hl ⊢
  have hl : lv_has ls 5 [(0, .ref a0), (1, .int a1), (2, .int a2)] := hl
  rw [f_X6_take] at h
  refine lv_aload_n hx hb dX6_take_0 rfl (lv_at hl 0 rfl) ?_
  refine lv_iload_n hx hb dX6_take_1 rfl (lv_at hl 1 rfl) ?_
  refine lv_iload_n hx hb dX6_take_2 rfl (lv_at hl 2 rfl) ?_
  replace h := bd h
  obtain ⟨_, q1, h⟩ := h
  replace h := bd h
  obtain ⟨z3, q2, h⟩ := h
  refine c_X6_findWithPlace ⟨hx, hb, hml, hown, hts⟩ hl.1 hK hP hS hE hl0 wd_667 ⟨(Nat.le_of_ble_eq_true rfl), (Nat.le_of_ble_eq_true rfl)⟩ q2 q1 (Nat.le_of_ble_eq_true rfl) dX6_take_3 ⟨(Nat.le_of_ble_eq_true rfl), (Nat.le_of_ble_eq_true rfl)⟩ (fun E ce qx9 H locs hx9 hP hS h1 h2 h3 => ?_) (fun x4 H locs hx9 hP hS => ?_)
  · replace h := sel_l hx9 h
    cases h
    exact o_m (fun x h => (htb x h).elim) hlocks h1 h2 h3 hP hD hS (Nat.le_of_ble_eq_true rfl) (Nat.le_of_ble_eq_true rfl)
  · replace h := sel_r hx9 h
    replace h := bd h
    obtain ⟨x5, q6, h⟩ := h
    refine fg_0_0 hx hb hts hown hK hP wd_121 q6 dX6_take_6 ?_
    refine lv_astore_n (lv' := [(3, .ref x5), (0, .ref a0), (1, .int a1), (2, .int a2)]) hx hb dX6_take_9 rfl hl (by decide) rfl (fun ls hl => ?_)
    refine lv_aload_n hx hb dX6_take_10 rfl (lv_at hl 0 rfl) ?_
    replace h := bd h
    obtain ⟨_, q7, h⟩ := h
    replace h := bd h
    obtain ⟨x9, q8, h⟩ := h
    refine c_X4_size ⟨hx, hb, hml, hown, hts⟩ hl.1 hK hP hS wd_283 ⟨(Nat.le_of_ble_eq_true rfl), (Nat.le_of_ble_eq_true rfl)⟩ q8 q7 (Nat.le_of_ble_eq_true rfl) dX6_take_11 ⟨(Nat.le_of_ble_eq_true rfl), (Nat.le_of_ble_eq_true rfl)⟩ (fun H locs hP hS => ?_)
    refine lv_iconst (v := 1) hx hb dX6_take_14 (by decide) ?_
    refine lv_icmp_gt (tgt := 28) hx hb dX6_take_15 (by decide) (fun c10 => ?_) (fun c10 => ?_)
    · replace h := ifp c10 h
      refine lv_aload_n hx hb dX6_take_28 rfl (lv_at hl 1 rfl) ?_
      replace h := bd h
      obtain ⟨x11, q12, h⟩ := h
      refine fg_5_1 hx hb hts hown hK hP wd_215 q12 dX6_take_29 ?_
      refine lv_aload_n hx hb dX6_take_32 rfl (lv_at hl 1 rfl) ?_
      replace h := bd h
      obtain ⟨x13, q14, h⟩ := h
      refine fg_5_0 hx hb hts hown hK hP wd_214 q14 dX6_take_33 ?_
      replace h := bd h
      obtain ⟨_, q15, h⟩ := h
      replace h := bd h
      obtain ⟨z17, q16, h⟩ := h
      refine c_X3_save ⟨hx, hb, hml, hown, hts⟩ hl.1 hK hP hD hA hS wd_582 ⟨(Nat.le_of_ble_eq_true rfl), (Nat.le_of_ble_eq_true rfl)⟩ q16 q15 (Nat.le_of_ble_eq_true rfl) dX6_take_36 ⟨(Nat.le_of_ble_eq_true rfl), (Nat.le_of_ble_eq_true rfl)⟩ (fun H locs hP hD hS => ?_)
      refine lv_aload_n hx hb dX6_take_39 rfl (lv_at hl 0 rfl) ?_
      refine lv_iload_n hx hb dX6_take_40 rfl (lv_at hl 3 rfl) ?_
      replace h := bd h
      obtain ⟨_, q18, h⟩ := h
      replace h := bd h
      obtain ⟨x20, q19, h⟩ := h
      refine c_X4_at ⟨hx, hb, hml, hown, hts⟩ hl.1 hK hP hS wd_356 ⟨(Nat.le_of_ble_eq_true rfl), (Nat.le_of_ble_eq_true rfl)⟩ q19 q18 (Nat.le_of_ble_eq_true rfl) dX6_take_41 ⟨(Nat.le_of_ble_eq_true rfl), (Nat.le_of_ble_eq_true rfl)⟩ (fun H locs hP hS => ?_)
      refine lv_istore (lv' := [(4, .int x20), (3, .ref x5), (0, .ref a0), (1, .int a1), (2, .int a2)]) hx hb dX6_take_44 hl (by decide) rfl (fun ls hl => ?_)
      refine lv_aload_n hx hb dX6_take_46 rfl (lv_at hl 1 rfl) ?_
      refine lv_iload_n hx hb dX6_take_47 rfl (lv_at hl 4 rfl) ?_
      replace h := bd h
      obtain ⟨_, q21, h⟩ := h
      replace h := bd h
      obtain ⟨z23, q22, h⟩ := h
      refine c_X4_remove ⟨hx, hb, hml, hown, hts⟩ hl.1 hK hP hD hA hS wd_681 ⟨(Nat.le_of_ble_eq_true rfl), (Nat.le_of_ble_eq_true rfl)⟩ q22 q21 (Nat.le_of_ble_eq_true rfl) dX6_take_48 ⟨(Nat.le_of_ble_eq_true rfl), (Nat.le_of_ble_eq_true rfl)⟩ (fun H locs hP hD hS => ?_)
      refine lv_iload hx hb dX6_take_51 (lv_at hl 0 rfl) ?_
      cases h
      exact e_imx hx hb hlocks hr hP hD hS (Nat.le_of_ble_eq_true rfl) (Nat.le_of_ble_eq_true rfl) dX6_take_53
    · replace h := ifn c10 h
      cases h
      exact tX6_IllegalStateExceptionm hx hb hl0 hown hts hE hP hD hS (hl.1.trans hml.symm) dX6_take_18 dX6_take_21 dX6_take_22 dX6_take_24 dX6_take_27 (fun x h => (htb x h).elim) (Nat.le_of_ble_eq_true rfl) (Nat.le_of_ble_eq_true rfl) (Nat.le_of_ble_eq_true rfl) (Nat.le_of_ble_eq_true rfl) hlocks (Nat.le_of_ble_eq_true rfl) (Nat.le_of_ble_eq_true rfl) (text := "the block has one value alone") (is := 111) (by decide +kernel)
set_option maxRecDepth 100000 in
theorem c_X6_take {p : Program} {l : Launch} {e : Env} {R : Room} {s : State} {m : MethodId} {args : Array Value} {below : List Frame} {meth : Method} {c : Code} {H : Heap} {locs : List Loc} {cells slots : Nat} {Q : State → Prop} {cc : ByteArray} {pc index nL : Nat} {ls : Array Slot} {rest : List Value} {D : va_G} {cy : Nat → ClassId} {A0 : Nat → Prop} {S : St} {own : String} {u : Unit} {a0 : Nat} {a1 : Int32} {a2 : Int32} {x : String ⊕ Int32} {S1 : St}  (hF : CallFix p m c cc nL s args ALLW own) (hsz : ls.size = nL) (hK : va_K D vwCl (tyL cy) s) (hP : SP D cy S H) (hD : ∀ a, S a ≠ none → A0 a) (hA : ∀ q, s.heap.size ≤ q → A0 q) (hS : va_S A0 s.heap H locs) (hE : ENV A0 s) (hl0 : l.stackTraces = false) (hk : Cond.methodLink own index yX6_take ∈ ALLW) (hR : rm_X6_take.frames + 1 ≤ R.frames ∧ 8 + (5 + 11) + rm_X6_take.locals ≤ R.locals) (h : f_X6_take S a0 a1 a2 = some (x, S1)) (hc : oO S a0 5 = some u) (hW : (rest.map fun v => v.category).sum ≤ 8) (hdg : decode cc pc = .ok (.invokevirtual index, 3)) (hf : cells + 3 ≤ R.cells ∧ slots + 18 ≤ R.slots)
    (kx : ∀ (E : String) (ce : Cell) (q9 : Addr) (H1 : Heap) (locs1 : List Loc), x = .inl E → SP D cy S1 H1 → (∀ a, S1 a ≠ none → A0 a) → va_S A0 s.heap H1 locs1 → H1[q9]? = some ce → ce.vm = .none → s.vm.findClass E = some ce.cls → vx_W p l e R s m args below meth c H1 locs1 (cells + 3) (slots + 18) Q (F0 m pc ls rest) q9)
    (kk : ∀ (r : Int32) (H1 : Heap) (locs1 : List Loc), x = .inr r → SP D cy S1 H1 → (∀ a, S1 a ≠ none → A0 a) → va_S A0 s.heap H1 locs1 → W p l e R s m args below meth c H1 locs1 (cells + 3) (slots + 18) Q (F0 m (pc + 3) ls (.int r :: rest))) : W p l e R s m args below meth c H locs cells slots Q (F0 m pc ls (.int a2 :: .int a1 :: .ref a0 :: rest)) := by
  exact k_iVmx (As := [.int a1, .int a2]) hF hsz (m_X6_take l hl0 D cy H.size S a0 a1 a2 x S1 h) (cwV_of (n := 2) hF.2.2.2.2 hk wd_677 wd_678 wd_69 wd_679 rfl rfl (by decide +kernel) hR) rfl hK hP hD hA hS hE (ci := 5) hc rfl hW rfl hdg hf kx kk
/-- VowBlocks.turn(I)I -/
def f_X6_turn (S : St) (a0 : Nat) (a1 : Int32) : Option ((String ⊕ Int32) × St) :=
  (oO S a0 5).bind fun _ =>
  (f_X6_find S a0 a1).bind fun z3 =>
  Sum.elim (fun E =>
    some (.inl E, S)
  ) (fun x4 =>
  (gR S x4 0 0).bind fun x5 =>
  (gR S a0 5 1).bind fun x7 =>
  (gR S a0 5 0).bind fun x9 =>
  (oO S x7 2).bind fun _ =>
  (f_X3_save S x7 x9).bind fun z13 =>
  (oO z13 x5 3).bind fun _ =>
  (f_X4_reverse z13 x5).bind fun z16 =>
  (oO z16 x5 3).bind fun _ =>
  (f_X4_at z16 x5 0).bind fun x19 =>
  some (.inr x19, z16)
  ) z3
abbrev rm_X6_turn : Room := { frames := 7, cells := 1, slots := 6, locals := 103 }
set_option maxHeartbeats 4000000 in
set_option maxRecDepth 100000 in
theorem m_X6_turn (l : Launch) (hl0 : l.stackTraces = false) (D : va_G) (cy : Nat → ClassId) (sz : Nat) (S : St) (a0 : Nat) (a1 : Int32) (x : String ⊕ Int32) (S1 : St) (h : f_X6_turn S a0 a1 = some (x, S1)) : vx_Met l yX6_turn (wsA yX6_turn cX6_turn 3 (some .int)) rm_X6_turn (va_Pc [.ref a0, .int a1] (PNX D cy S sz)) (va_Qi (fun r' (_ : Unit) => x = .inr r') (fun _ t => PoS D cy S1 (dm S sz) t) (dm S sz)) (vx_X (fun _ : Unit => True) (fun E _ t => x = .inl E ∧ PoS D cy S1 (dm S sz) t) (dm S sz)) 1 6 (dm S sz) := by
  refine vx_ofW (cc := cX6_turn) (maxL := 3) (ret := (some .int)) (by decide) rfl ?_
  intro p e s m args below meth c s₁ B hml htb hv
  obtain ⟨rfl, hsz, hP, hK, hE⟩ := hv
  have hx := B.exec
  have hb := B.bytes
  have hr := B.returns
  have hts9 := atoms_spec (ws := wsA yX6_turn cX6_turn 3 (some .int)) B.pre
  have hts : ∀ w ∈ ALLW, w.before _ s = true := fun w h => hts9 w (List.mem_cons_of_mem _ h)
  have hown : s.vm.findClass RX6 = some m.cls := findClass_of_methodNamed B.named
  have hlocks := B.notSynchronized
  subst hsz
  have hD : ∀ a, S a ≠ none → dm S s.heap.size a := fun a h => Or.inl h
  have hA : ∀ q : Nat, s.heap.size ≤ q → dm S s.heap.size q := fun q h => Or.inr h
  have hS : va_S (dm S s.heap.size) s.heap s.heap [] := va_S.rf
  have hl := lv_entry [.ref a0, .int a1] (n := 3) (Nat.le_of_ble_eq_true rfl)
  rw [lg_entry_eq]
  generalize (lg_sl [.ref a0, .int a1] ++ List.replicate (3 - (lg_sl [.ref a0, .int a1]).length) Slot.unset).toArray = ls at hl ⊢
  have hl : lv_has ls 3 [(0, .ref a0), (1, .int a1)] := hl
  rw [f_X6_turn] at h
  refine lv_aload_n hx hb dX6_turn_0 rfl (lv_at hl 0 rfl) ?_
  refine lv_iload_n hx hb dX6_turn_1 rfl (lv_at hl 1 rfl) ?_
  replace h := bd h
  obtain ⟨_, q1, h⟩ := h
  replace h := bd h
  obtain ⟨z3, q2, h⟩ := h
  refine c_X6_find ⟨hx, hb, hml, hown, hts⟩ hl.1 hK hP hS hE hl0 wd_638 ⟨(Nat.le_of_ble_eq_true rfl), (Nat.le_of_ble_eq_true rfl)⟩ q2 q1 (Nat.le_of_ble_eq_true rfl) dX6_turn_2 ⟨(Nat.le_of_ble_eq_true rfl), (Nat.le_of_ble_eq_true rfl)⟩ (fun E ce qx9 H locs hx9 hP hS h1 h2 h3 => ?_) (fun x4 H locs hx9 hP hS => ?_)
  · replace h := sel_l hx9 h
    cases h
    exact o_m (fun x h => (htb x h).elim) hlocks h1 h2 h3 hP hD hS (Nat.le_of_ble_eq_true rfl) (Nat.le_of_ble_eq_true rfl)
  · replace h := sel_r hx9 h
    replace h := bd h
    obtain ⟨x5, q6, h⟩ := h
    refine fg_0_0 hx hb hts hown hK hP wd_121 q6 dX6_turn_5 ?_
    refine lv_astore_n (lv' := [(2, .ref x5), (0, .ref a0), (1, .int a1)]) hx hb dX6_turn_8 rfl hl (by decide) rfl (fun ls hl => ?_)
    refine lv_aload_n hx hb dX6_turn_9 rfl (lv_at hl 1 rfl) ?_
    replace h := bd h
    obtain ⟨x7, q8, h⟩ := h
    refine fg_5_1 hx hb hts hown hK hP wd_215 q8 dX6_turn_10 ?_
    refine lv_aload_n hx hb dX6_turn_13 rfl (lv_at hl 1 rfl) ?_
    replace h := bd h
    obtain ⟨x9, q10, h⟩ := h
    refine fg_5_0 hx hb hts hown hK hP wd_214 q10 dX6_turn_14 ?_
    replace h := bd h
    obtain ⟨_, q11, h⟩ := h
    replace h := bd h
    obtain ⟨z13, q12, h⟩ := h
    refine c_X3_save ⟨hx, hb, hml, hown, hts⟩ hl.1 hK hP hD hA hS wd_582 ⟨(Nat.le_of_ble_eq_true rfl), (Nat.le_of_ble_eq_true rfl)⟩ q12 q11 (Nat.le_of_ble_eq_true rfl) dX6_turn_17 ⟨(Nat.le_of_ble_eq_true rfl), (Nat.le_of_ble_eq_true rfl)⟩ (fun H locs hP hD hS => ?_)
    refine lv_aload_n hx hb dX6_turn_20 rfl (lv_at hl 0 rfl) ?_
    replace h := bd h
    obtain ⟨_, q14, h⟩ := h
    replace h := bd h
    obtain ⟨z16, q15, h⟩ := h
    refine c_X4_reverse ⟨hx, hb, hml, hown, hts⟩ hl.1 hK hP hD hA hS wd_692 ⟨(Nat.le_of_ble_eq_true rfl), (Nat.le_of_ble_eq_true rfl)⟩ q15 q14 (Nat.le_of_ble_eq_true rfl) dX6_turn_21 ⟨(Nat.le_of_ble_eq_true rfl), (Nat.le_of_ble_eq_true rfl)⟩ (fun H locs hP hD hS => ?_)
    refine lv_aload_n hx hb dX6_turn_24 rfl (lv_at hl 0 rfl) ?_
    refine lv_iconst (v := 0) hx hb dX6_turn_25 (by decide) ?_
    replace h := bd h
    obtain ⟨_, q17, h⟩ := h
    replace h := bd h
    obtain ⟨x19, q18, h⟩ := h
    refine c_X4_at ⟨hx, hb, hml, hown, hts⟩ hl.1 hK hP hS wd_356 ⟨(Nat.le_of_ble_eq_true rfl), (Nat.le_of_ble_eq_true rfl)⟩ q18 q17 (Nat.le_of_ble_eq_true rfl) dX6_turn_26 ⟨(Nat.le_of_ble_eq_true rfl), (Nat.le_of_ble_eq_true rfl)⟩ (fun H locs hP hS => ?_)
    cases h
    exact e_imx hx hb hlocks hr hP hD hS (Nat.le_of_ble_eq_true rfl) (Nat.le_of_ble_eq_true rfl) dX6_turn_29
set_option maxRecDepth 100000 in
theorem c_X6_turn {p : Program} {l : Launch} {e : Env} {R : Room} {s : State} {m : MethodId} {args : Array Value} {below : List Frame} {meth : Method} {c : Code} {H : Heap} {locs : List Loc} {cells slots : Nat} {Q : State → Prop} {cc : ByteArray} {pc index nL : Nat} {ls : Array Slot} {rest : List Value} {D : va_G} {cy : Nat → ClassId} {A0 : Nat → Prop} {S : St} {own : String} {u : Unit} {a0 : Nat} {a1 : Int32} {x : String ⊕ Int32} {S1 : St}  (hF : CallFix p m c cc nL s args ALLW own) (hsz : ls.size = nL) (hK : va_K D vwCl (tyL cy) s) (hP : SP D cy S H) (hD : ∀ a, S a ≠ none → A0 a) (hA : ∀ q, s.heap.size ≤ q → A0 q) (hS : va_S A0 s.heap H locs) (hE : ENV A0 s) (hl0 : l.stackTraces = false) (hk : Cond.methodLink own index yX6_turn ∈ ALLW) (hR : rm_X6_turn.frames + 1 ≤ R.frames ∧ 8 + (3 + 11) + rm_X6_turn.locals ≤ R.locals) (h : f_X6_turn S a0 a1 = some (x, S1)) (hc : oO S a0 5 = some u) (hW : (rest.map fun v => v.category).sum ≤ 8) (hdg : decode cc pc = .ok (.invokevirtual index, 3)) (hf : cells + 1 ≤ R.cells ∧ slots + 6 ≤ R.slots)
    (kx : ∀ (E : String) (ce : Cell) (q9 : Addr) (H1 : Heap) (locs1 : List Loc), x = .inl E → SP D cy S1 H1 → (∀ a, S1 a ≠ none → A0 a) → va_S A0 s.heap H1 locs1 → H1[q9]? = some ce → ce.vm = .none → s.vm.findClass E = some ce.cls → vx_W p l e R s m args below meth c H1 locs1 (cells + 1) (slots + 6) Q (F0 m pc ls rest) q9)
    (kk : ∀ (r : Int32) (H1 : Heap) (locs1 : List Loc), x = .inr r → SP D cy S1 H1 → (∀ a, S1 a ≠ none → A0 a) → va_S A0 s.heap H1 locs1 → W p l e R s m args below meth c H1 locs1 (cells + 1) (slots + 6) Q (F0 m (pc + 3) ls (.int r :: rest))) : W p l e R s m args below meth c H locs cells slots Q (F0 m pc ls (.int a1 :: .ref a0 :: rest)) := by
  exact k_iVmx (As := [.int a1]) hF hsz (m_X6_turn l hl0 D cy H.size S a0 a1 x S1 h) (cwV_of (n := 1) hF.2.2.2.2 hk wd_689 wd_690 wd_69 wd_691 rfl rfl (by decide +kernel) hR) rfl hK hP hD hA hS hE (ci := 5) hc rfl hW rfl hdg hf kx kk
/-- VowBlocks.join(II)I -/
def f_X6_join (S : St) (a0 : Nat) (a1 : Int32) (a2 : Int32) : Option ((String ⊕ Int32) × St) :=
  (oO S a0 5).bind fun _ =>
  (f_X6_find S a0 a1).bind fun z3 =>
  Sum.elim (fun E =>
    some (.inl E, S)
  ) (fun x4 =>
  (oO S a0 5).bind fun _ =>
  (f_X6_find S a0 a2).bind fun z7 =>
  Sum.elim (fun E =>
    some (.inl E, S)
  ) (fun x8 =>
  if a1 = a2 then
    some (.inl "java/lang/IllegalArgumentException", S)
  else
    (gR S x4 0 0).bind fun x10 =>
    (gR S x8 0 0).bind fun x12 =>
    (oO S x12 3).bind fun _ =>
    (f_X4_size S x12).bind fun x16 =>
    (oO S x10 3).bind fun _ =>
    (f_X4_hasRoomFor S x10 x16).bind fun x19 =>
    if x19 = 0 then
      some (.inl "java/lang/IllegalStateException", S)
    else
      (gR S a0 5 1).bind fun x21 =>
      (gR S a0 5 0).bind fun x23 =>
      (oO S x21 2).bind fun _ =>
      (f_X3_save S x21 x23).bind fun z27 =>
      (oO z27 x4 0).bind fun _ =>
      (f_X0_absorb z27 x4 x8).bind fun z30 =>
      (gR z30 a0 5 0).bind fun x31 =>
      (oO z30 x31 1).bind fun _ =>
      (f_X2_drop z30 x31 a2).bind fun z35 =>
      (
        if a1 ≤ a2 then
          some a1
        else
          some (a1 - 1)
      : Option (Int32)).bind fun t36 =>
      some (.inr t36, z35)
  ) z7
  ) z3
abbrev rm_X6_join : Room := { frames := 7, cells := 3, slots := 18, locals := 103 }
set_option maxHeartbeats 4000000 in
set_option maxRecDepth 100000 in
theorem m_X6_join (l : Launch) (hl0 : l.stackTraces = false) (D : va_G) (cy : Nat → ClassId) (sz : Nat) (S : St) (a0 : Nat) (a1 : Int32) (a2 : Int32) (x : String ⊕ Int32) (S1 : St) (h : f_X6_join S a0 a1 a2 = some (x, S1)) : vx_Met l yX6_join (wsA yX6_join cX6_join 5 (some .int)) rm_X6_join (va_Pc [.ref a0, .int a1, .int a2] (PNX D cy S sz)) (va_Qi (fun r' (_ : Unit) => x = .inr r') (fun _ t => PoS D cy S1 (dm S sz) t) (dm S sz)) (vx_X (fun _ : Unit => True) (fun E _ t => x = .inl E ∧ PoS D cy S1 (dm S sz) t) (dm S sz)) 3 18 (dm S sz) := by
  refine vx_ofW (cc := cX6_join) (maxL := 5) (ret := (some .int)) (by decide) rfl ?_
  intro p e s m args below meth c s₁ B hml htb hv
  obtain ⟨rfl, hsz, hP, hK, hE⟩ := hv
  have hx := B.exec
  have hb := B.bytes
  have hr := B.returns
  have hts9 := atoms_spec (ws := wsA yX6_join cX6_join 5 (some .int)) B.pre
  have hts : ∀ w ∈ ALLW, w.before _ s = true := fun w h => hts9 w (List.mem_cons_of_mem _ h)
  have hown : s.vm.findClass RX6 = some m.cls := findClass_of_methodNamed B.named
  have hlocks := B.notSynchronized
  subst hsz
  have hD : ∀ a, S a ≠ none → dm S s.heap.size a := fun a h => Or.inl h
  have hA : ∀ q : Nat, s.heap.size ≤ q → dm S s.heap.size q := fun q h => Or.inr h
  have hS : va_S (dm S s.heap.size) s.heap s.heap [] := va_S.rf
  have hl := lv_entry [.ref a0, .int a1, .int a2] (n := 5) (Nat.le_of_ble_eq_true rfl)
  rw [lg_entry_eq]
  generalize (lg_sl [.ref a0, .int a1, .int a2] ++ List.replicate (5 - (lg_sl [.ref a0, .int a1, .int a2]).length) Slot.unset).toArray = ls at hl ⊢
  have hl : lv_has ls 5 [(0, .ref a0), (1, .int a1), (2, .int a2)] := hl
  rw [f_X6_join] at h
  refine lv_aload_n hx hb dX6_join_0 rfl (lv_at hl 0 rfl) ?_
  refine lv_iload_n hx hb dX6_join_1 rfl (lv_at hl 1 rfl) ?_
  replace h := bd h
  obtain ⟨_, q1, h⟩ := h
  replace h := bd h
  obtain ⟨z3, q2, h⟩ := h
  refine c_X6_find ⟨hx, hb, hml, hown, hts⟩ hl.1 hK hP hS hE hl0 wd_638 ⟨(Nat.le_of_ble_eq_true rfl), (Nat.le_of_ble_eq_true rfl)⟩ q2 q1 (Nat.le_of_ble_eq_true rfl) dX6_join_2 ⟨(Nat.le_of_ble_eq_true rfl), (Nat.le_of_ble_eq_true rfl)⟩ (fun E ce qx9 H locs hx9 hP hS h1 h2 h3 => ?_) (fun x4 H locs hx9 hP hS => ?_)
  · replace h := sel_l hx9 h
    cases h
    exact o_m (fun x h => (htb x h).elim) hlocks h1 h2 h3 hP hD hS (Nat.le_of_ble_eq_true rfl) (Nat.le_of_ble_eq_true rfl)
  · replace h := sel_r hx9 h
    refine lv_astore_n (lv' := [(3, .ref x4), (0, .ref a0), (1, .int a1), (2, .int a2)]) hx hb dX6_join_5 rfl hl (by decide) rfl (fun ls hl => ?_)
    refine lv_aload_n hx hb dX6_join_6 rfl (lv_at hl 1 rfl) ?_
    refine lv_iload_n hx hb dX6_join_7 rfl (lv_at hl 3 rfl) ?_
    replace h := bd h
    obtain ⟨_, q5, h⟩ := h
    replace h := bd h
    obtain ⟨z7, q6, h⟩ := h
    refine c_X6_find ⟨hx, hb, hml, hown, hts⟩ hl.1 hK hP hS hE hl0 wd_638 ⟨(Nat.le_of_ble_eq_true rfl), (Nat.le_of_ble_eq_true rfl)⟩ q6 q5 (Nat.le_of_ble_eq_true rfl) dX6_join_8 ⟨(Nat.le_of_ble_eq_true rfl), (Nat.le_of_ble_eq_true rfl)⟩ (fun E ce qx9 H locs hx9 hP hS h1 h2 h3 => ?_) (fun x8 H locs hx9 hP hS => ?_)
    · replace h := sel_l hx9 h
      cases h
      exact o_m (fun x h => (htb x h).elim) hlocks h1 h2 h3 hP hD hS (Nat.le_of_ble_eq_true rfl) (Nat.le_of_ble_eq_true rfl)
    · replace h := sel_r hx9 h
      refine lv_astore (lv' := [(4, .ref x8), (3, .ref x4), (0, .ref a0), (1, .int a1), (2, .int a2)]) hx hb dX6_join_11 hl (by decide) rfl (fun ls hl => ?_)
      refine lv_iload_n hx hb dX6_join_13 rfl (lv_at hl 3 rfl) ?_
      refine lv_iload_n hx hb dX6_join_14 rfl (lv_at hl 4 rfl) ?_
      refine lv_icmp_ne (tgt := 28) hx hb dX6_join_15 (by decide) (fun c9 => ?_) (fun c9 => ?_)
      · replace h := ifn c9 h
        refine lv_aload_n hx hb dX6_join_28 rfl (lv_at hl 1 rfl) ?_
        replace h := bd h
        obtain ⟨x10, q11, h⟩ := h
        refine fg_0_0 hx hb hts hown hK hP wd_121 q11 dX6_join_29 ?_
        refine lv_aload hx hb dX6_join_32 (lv_at hl 0 rfl) ?_
        replace h := bd h
        obtain ⟨x12, q13, h⟩ := h
        refine fg_0_0 hx hb hts hown hK hP wd_121 q13 dX6_join_34 ?_
        replace h := bd h
        obtain ⟨_, q14, h⟩ := h
        replace h := bd h
        obtain ⟨x16, q15, h⟩ := h
        refine c_X4_size ⟨hx, hb, hml, hown, hts⟩ hl.1 hK hP hS wd_283 ⟨(Nat.le_of_ble_eq_true rfl), (Nat.le_of_ble_eq_true rfl)⟩ q15 q14 (Nat.le_of_ble_eq_true rfl) dX6_join_37 ⟨(Nat.le_of_ble_eq_true rfl), (Nat.le_of_ble_eq_true rfl)⟩ (fun H locs hP hS => ?_)
        replace h := bd h
        obtain ⟨_, q17, h⟩ := h
        replace h := bd h
        obtain ⟨x19, q18, h⟩ := h
        refine c_X4_hasRoomFor ⟨hx, hb, hml, hown, hts⟩ hl.1 hK hP hS wd_445 ⟨(Nat.le_of_ble_eq_true rfl), (Nat.le_of_ble_eq_true rfl)⟩ q18 q17 (Nat.le_of_ble_eq_true rfl) dX6_join_40 ⟨(Nat.le_of_ble_eq_true rfl), (Nat.le_of_ble_eq_true rfl)⟩ (fun H locs hP hS => ?_)
        refine lv_if_ne (tgt := 56) hx hb dX6_join_43 (by decide) (fun c20 => ?_) (fun c20 => ?_)
        · replace h := ifn c20 h
          refine lv_aload_n hx hb dX6_join_56 rfl (lv_at hl 2 rfl) ?_
          replace h := bd h
          obtain ⟨x21, q22, h⟩ := h
          refine fg_5_1 hx hb hts hown hK hP wd_215 q22 dX6_join_57 ?_
          refine lv_aload_n hx hb dX6_join_60 rfl (lv_at hl 2 rfl) ?_
          replace h := bd h
          obtain ⟨x23, q24, h⟩ := h
          refine fg_5_0 hx hb hts hown hK hP wd_214 q24 dX6_join_61 ?_
          replace h := bd h
          obtain ⟨_, q25, h⟩ := h
          replace h := bd h
          obtain ⟨z27, q26, h⟩ := h
          refine c_X3_save ⟨hx, hb, hml, hown, hts⟩ hl.1 hK hP hD hA hS wd_582 ⟨(Nat.le_of_ble_eq_true rfl), (Nat.le_of_ble_eq_true rfl)⟩ q26 q25 (Nat.le_of_ble_eq_true rfl) dX6_join_64 ⟨(Nat.le_of_ble_eq_true rfl), (Nat.le_of_ble_eq_true rfl)⟩ (fun H locs hP hD hS => ?_)
          refine lv_aload_n hx hb dX6_join_67 rfl (lv_at hl 1 rfl) ?_
          refine lv_aload hx hb dX6_join_68 (lv_at hl 0 rfl) ?_
          replace h := bd h
          obtain ⟨_, q28, h⟩ := h
          replace h := bd h
          obtain ⟨z30, q29, h⟩ := h
          refine c_X0_absorb ⟨hx, hb, hml, hown, hts⟩ hl.1 hK hP hD hA hS wd_705 ⟨(Nat.le_of_ble_eq_true rfl), (Nat.le_of_ble_eq_true rfl)⟩ q29 q28 (Nat.le_of_ble_eq_true rfl) dX6_join_70 ⟨(Nat.le_of_ble_eq_true rfl), (Nat.le_of_ble_eq_true rfl)⟩ (fun H locs hP hD hS => ?_)
          refine lv_aload_n hx hb dX6_join_73 rfl (lv_at hl 2 rfl) ?_
          replace h := bd h
          obtain ⟨x31, q32, h⟩ := h
          refine fg_5_0 hx hb hts hown hK hP wd_214 q32 dX6_join_74 ?_
          refine lv_iload_n hx hb dX6_join_77 rfl (lv_at hl 4 rfl) ?_
          replace h := bd h
          obtain ⟨_, q33, h⟩ := h
          replace h := bd h
          obtain ⟨z35, q34, h⟩ := h
          refine c_X2_drop ⟨hx, hb, hml, hown, hts⟩ hl.1 hK hP hD hA hS wd_710 ⟨(Nat.le_of_ble_eq_true rfl), (Nat.le_of_ble_eq_true rfl)⟩ q34 q33 (Nat.le_of_ble_eq_true rfl) dX6_join_78 ⟨(Nat.le_of_ble_eq_true rfl), (Nat.le_of_ble_eq_true rfl)⟩ (fun H locs hP hD hS => ?_)
          refine lv_iload_n hx hb dX6_join_81 rfl (lv_at hl 4 rfl) ?_
          refine lv_iload_n hx hb dX6_join_82 rfl (lv_at hl 3 rfl) ?_
          replace h := bd h
          obtain ⟨t36, ht, h⟩ := h
          have K36 : ∀ (H : Heap) (locs : List Loc) (ls : Array Slot), SP D cy z35 H → (∀ a, z35 a ≠ none → (dm S s.heap.size) a) → va_S (dm S s.heap.size) s.heap H locs → lv_has ls 5 [] → W p l e rm_X6_join s m ([.ref a0, .int a1, .int a2] : List Value).toArray below meth c H locs 2 12 (vx_MQ below (va_Qi (fun r' (_ : Unit) => x = .inr r') (fun _ t => PoS D cy S1 (dm S s.heap.size) t) (dm S s.heap.size)) (vx_X (fun _ : Unit => True) (fun E _ t => x = .inl E ∧ PoS D cy S1 (dm S s.heap.size) t) (dm S s.heap.size)) ([.ref a0, .int a1, .int a2] : List Value).toArray s 3 18 (dm S s.heap.size)) (F0 m 93 ls [.int t36]) := by
            intro H locs ls hP hD hS hl
            cases h
            exact e_imx hx hb hlocks hr hP hD hS (Nat.le_of_ble_eq_true rfl) (Nat.le_of_ble_eq_true rfl) dX6_join_93
          replace h := ht
          refine lv_icmp_ge (tgt := 92) hx hb dX6_join_83 (by decide) (fun c37 => ?_) (fun c37 => ?_)
          · replace h := ifp c37 h
            refine lv_iload_n hx hb dX6_join_92 rfl (lv_at hl 3 rfl) ?_
            cases h
            exact K36 _ _ _ hP hD hS (lv_sub hl [] rfl)
          · replace h := ifn c37 h
            refine lv_iload_n hx hb dX6_join_86 rfl (lv_at hl 3 rfl) ?_
            refine lv_iconst (v := 1) hx hb dX6_join_87 (by decide) ?_
            refine lv_isub hx hb dX6_join_88 ?_
            refine lv_goto (tgt := 93) hx hb dX6_join_89 (by decide) ?_
            cases h
            exact K36 _ _ _ hP hD hS (lv_sub hl [] rfl)
        · replace h := ifp c20 h
          cases h
          exact tX6_IllegalStateExceptionm hx hb hl0 hown hts hE hP hD hS (hl.1.trans hml.symm) dX6_join_46 dX6_join_49 dX6_join_50 dX6_join_52 dX6_join_55 (fun x h => (htb x h).elim) (Nat.le_of_ble_eq_true rfl) (Nat.le_of_ble_eq_true rfl) (Nat.le_of_ble_eq_true rfl) (Nat.le_of_ble_eq_true rfl) hlocks (Nat.le_of_ble_eq_true rfl) (Nat.le_of_ble_eq_true rfl) (text := "there would be more than 24 values") (is := 121) (by decide +kernel)
      · replace h := ifp c9 h
        cases h
        exact tX6_IllegalArgumentExceptionm hx hb hl0 hown hts hE hP hD hS (hl.1.trans hml.symm) dX6_join_18 dX6_join_21 dX6_join_22 dX6_join_24 dX6_join_27 (fun x h => (htb x h).elim) (Nat.le_of_ble_eq_true rfl) (Nat.le_of_ble_eq_true rfl) (Nat.le_of_ble_eq_true rfl) (Nat.le_of_ble_eq_true rfl) hlocks (Nat.le_of_ble_eq_true rfl) (Nat.le_of_ble_eq_true rfl) (text := "a block is not joined with itself") (is := 119) (by decide +kernel)
set_option maxRecDepth 100000 in
theorem c_X6_join {p : Program} {l : Launch} {e : Env} {R : Room} {s : State} {m : MethodId} {args : Array Value} {below : List Frame} {meth : Method} {c : Code} {H : Heap} {locs : List Loc} {cells slots : Nat} {Q : State → Prop} {cc : ByteArray} {pc index nL : Nat} {ls : Array Slot} {rest : List Value} {D : va_G} {cy : Nat → ClassId} {A0 : Nat → Prop} {S : St} {own : String} {u : Unit} {a0 : Nat} {a1 : Int32} {a2 : Int32} {x : String ⊕ Int32} {S1 : St}  (hF : CallFix p m c cc nL s args ALLW own) (hsz : ls.size = nL) (hK : va_K D vwCl (tyL cy) s) (hP : SP D cy S H) (hD : ∀ a, S a ≠ none → A0 a) (hA : ∀ q, s.heap.size ≤ q → A0 q) (hS : va_S A0 s.heap H locs) (hE : ENV A0 s) (hl0 : l.stackTraces = false) (hk : Cond.methodLink own index yX6_join ∈ ALLW) (hR : rm_X6_join.frames + 1 ≤ R.frames ∧ 8 + (5 + 11) + rm_X6_join.locals ≤ R.locals) (h : f_X6_join S a0 a1 a2 = some (x, S1)) (hc : oO S a0 5 = some u) (hW : (rest.map fun v => v.category).sum ≤ 8) (hdg : decode cc pc = .ok (.invokevirtual index, 3)) (hf : cells + 3 ≤ R.cells ∧ slots + 18 ≤ R.slots)
    (kx : ∀ (E : String) (ce : Cell) (q9 : Addr) (H1 : Heap) (locs1 : List Loc), x = .inl E → SP D cy S1 H1 → (∀ a, S1 a ≠ none → A0 a) → va_S A0 s.heap H1 locs1 → H1[q9]? = some ce → ce.vm = .none → s.vm.findClass E = some ce.cls → vx_W p l e R s m args below meth c H1 locs1 (cells + 3) (slots + 18) Q (F0 m pc ls rest) q9)
    (kk : ∀ (r : Int32) (H1 : Heap) (locs1 : List Loc), x = .inr r → SP D cy S1 H1 → (∀ a, S1 a ≠ none → A0 a) → va_S A0 s.heap H1 locs1 → W p l e R s m args below meth c H1 locs1 (cells + 3) (slots + 18) Q (F0 m (pc + 3) ls (.int r :: rest))) : W p l e R s m args below meth c H locs cells slots Q (F0 m pc ls (.int a2 :: .int a1 :: .ref a0 :: rest)) := by
  exact k_iVmx (As := [.int a1, .int a2]) hF hsz (m_X6_join l hl0 D cy H.size S a0 a1 a2 x S1 h) (cwV_of (n := 2) hF.2.2.2.2 hk wd_700 wd_701 wd_69 wd_702 rfl rfl (by decide +kernel) hR) rfl hK hP hD hA hS hE (ci := 5) hc rfl hW rfl hdg hf kx kk
/-- VowBlocks.cut(II)I -/
def f_X6_cut (S : St) (a0 : Nat) (a1 : Int32) (a2 : Int32) : Option ((String ⊕ Int32) × St) :=
  (oO S a0 5).bind fun _ =>
  (f_X6_findWithPlace S a0 a1 a2).bind fun z3 =>
  Sum.elim (fun E =>
    some (.inl E, S)
  ) (fun x4 =>
  (gR S x4 0 0).bind fun x5 =>
  if 1 ≤ a2 then
    (oO S a0 5).bind fun _ =>
    (f_X6_requireRoomForBlock S a0).bind fun z10 =>
    Sum.elim (fun E =>
      some (.inl E, S)
    ) (fun _ =>
    (gR S a0 5 1).bind fun x12 =>
    (gR S a0 5 0).bind fun x14 =>
    (oO S x12 2).bind fun _ =>
    (f_X3_save S x12 x14).bind fun z18 =>
    (gR z18 a0 5 3).bind fun x19 =>
    (oO z18 x19 3).bind fun _ =>
    (f_X4_clear z18 x19).bind fun z23 =>
    (gR z23 a0 5 3).bind fun x24 =>
    (oO z23 x24 3).bind fun _ =>
    (f_X4_pushTail z23 x24 x5 a2).bind fun z28 =>
    (oO z28 x5 3).bind fun _ =>
    (f_X4_shorten z28 x5 a2).bind fun z31 =>
    (gR z31 a0 5 0).bind fun x32 =>
    (gR z31 a0 5 3).bind fun x34 =>
    (oO z31 x32 1).bind fun _ =>
    (f_X2_open z31 x32 x34).bind fun z38 =>
    some (.inr z38.1, z38.2)
    ) z10
  else
    some (.inl "java/lang/IndexOutOfBoundsException", S)
  ) z3
abbrev rm_X6_cut : Room := { frames := 8, cells := 3, slots := 18, locals := 135 }
set_option maxHeartbeats 4000000 in
set_option maxRecDepth 100000 in
theorem m_X6_cut (l : Launch) (hl0 : l.stackTraces = false) (D : va_G) (cy : Nat → ClassId) (sz : Nat) (S : St) (a0 : Nat) (a1 : Int32) (a2 : Int32) (x : String ⊕ Int32) (S1 : St) (h : f_X6_cut S a0 a1 a2 = some (x, S1)) : vx_Met l yX6_cut (wsA yX6_cut cX6_cut 4 (some .int)) rm_X6_cut (va_Pc [.ref a0, .int a1, .int a2] (PNX D cy S sz)) (va_Qi (fun r' (_ : Unit) => x = .inr r') (fun _ t => PoS D cy S1 (dm S sz) t) (dm S sz)) (vx_X (fun _ : Unit => True) (fun E _ t => x = .inl E ∧ PoS D cy S1 (dm S sz) t) (dm S sz)) 3 18 (dm S sz) := by
  refine vx_ofW (cc := cX6_cut) (maxL := 4) (ret := (some .int)) (by decide) rfl ?_
  intro p e s m args below meth c s₁ B hml htb hv
  obtain ⟨rfl, hsz, hP, hK, hE⟩ := hv
  have hx := B.exec
  have hb := B.bytes
  have hr := B.returns
  have hts9 := atoms_spec (ws := wsA yX6_cut cX6_cut 4 (some .int)) B.pre
  have hts : ∀ w ∈ ALLW, w.before _ s = true := fun w h => hts9 w (List.mem_cons_of_mem _ h)
  have hown : s.vm.findClass RX6 = some m.cls := findClass_of_methodNamed B.named
  have hlocks := B.notSynchronized
  subst hsz
  have hD : ∀ a, S a ≠ none → dm S s.heap.size a := fun a h => Or.inl h
  have hA : ∀ q : Nat, s.heap.size ≤ q → dm S s.heap.size q := fun q h => Or.inr h
  have hS : va_S (dm S s.heap.size) s.heap s.heap [] := va_S.rf
  have hl := lv_entry [.ref a0, .int a1, .int a2] (n := 4) (Nat.le_of_ble_eq_true rfl)
  rw [lg_entry_eq]
  generalize (lg_sl [.ref a0, .int a1, .int a2] ++ List.replicate (4 - (lg_sl [.ref a0, .int a1, .int a2]).length) Slot.unset).toArray = ls at hl ⊢
  have hl : lv_has ls 4 [(0, .ref a0), (1, .int a1), (2, .int a2)] := hl
  rw [f_X6_cut] at h
  refine lv_aload_n hx hb dX6_cut_0 rfl (lv_at hl 0 rfl) ?_
  refine lv_iload_n hx hb dX6_cut_1 rfl (lv_at hl 1 rfl) ?_
  refine lv_iload_n hx hb dX6_cut_2 rfl (lv_at hl 2 rfl) ?_
  replace h := bd h
  obtain ⟨_, q1, h⟩ := h
  replace h := bd h
  obtain ⟨z3, q2, h⟩ := h
  refine c_X6_findWithPlace ⟨hx, hb, hml, hown, hts⟩ hl.1 hK hP hS hE hl0 wd_667 ⟨(Nat.le_of_ble_eq_true rfl), (Nat.le_of_ble_eq_true rfl)⟩ q2 q1 (Nat.le_of_ble_eq_true rfl) dX6_cut_3 ⟨(Nat.le_of_ble_eq_true rfl), (Nat.le_of_ble_eq_true rfl)⟩ (fun E ce qx9 H locs hx9 hP hS h1 h2 h3 => ?_) (fun x4 H locs hx9 hP hS => ?_)
  · replace h := sel_l hx9 h
    cases h
    exact o_m (fun x h => (htb x h).elim) hlocks h1 h2 h3 hP hD hS (Nat.le_of_ble_eq_true rfl) (Nat.le_of_ble_eq_true rfl)
  · replace h := sel_r hx9 h
    replace h := bd h
    obtain ⟨x5, q6, h⟩ := h
    refine fg_0_0 hx hb hts hown hK hP wd_121 q6 dX6_cut_6 ?_
    refine lv_astore_n (lv' := [(3, .ref x5), (0, .ref a0), (1, .int a1), (2, .int a2)]) hx hb dX6_cut_9 rfl hl (by decide) rfl (fun ls hl => ?_)
    refine lv_iload_n hx hb dX6_cut_10 rfl (lv_at hl 3 rfl) ?_
    refine lv_iconst (v := 1) hx hb dX6_cut_11 (by decide) ?_
    refine lv_icmp_ge (tgt := 25) hx hb dX6_cut_12 (by decide) (fun c7 => ?_) (fun c7 => ?_)
    · replace h := ifp c7 h
      refine lv_aload_n hx hb dX6_cut_25 rfl (lv_at hl 1 rfl) ?_
      replace h := bd h
      obtain ⟨_, q8, h⟩ := h
      replace h := bd h
      obtain ⟨z10, q9, h⟩ := h
      refine c_X6_requireRoomForBlock ⟨hx, hb, hml, hown, hts⟩ hl.1 hK hP hS hE hl0 wd_553 ⟨(Nat.le_of_ble_eq_true rfl), (Nat.le_of_ble_eq_true rfl)⟩ q9 q8 (Nat.le_of_ble_eq_true rfl) dX6_cut_26 ⟨(Nat.le_of_ble_eq_true rfl), (Nat.le_of_ble_eq_true rfl)⟩ (fun E ce qx9 H locs hx9 hP hS h1 h2 h3 => ?_) (fun H locs hx9 hP hS => ?_)
      · replace h := sel_l hx9 h
        cases h
        exact o_m (fun x h => (htb x h).elim) hlocks h1 h2 h3 hP hD hS (Nat.le_of_ble_eq_true rfl) (Nat.le_of_ble_eq_true rfl)
      · replace h := sel_r hx9 h
        refine lv_aload_n hx hb dX6_cut_29 rfl (lv_at hl 1 rfl) ?_
        replace h := bd h
        obtain ⟨x12, q13, h⟩ := h
        refine fg_5_1 hx hb hts hown hK hP wd_215 q13 dX6_cut_30 ?_
        refine lv_aload_n hx hb dX6_cut_33 rfl (lv_at hl 1 rfl) ?_
        replace h := bd h
        obtain ⟨x14, q15, h⟩ := h
        refine fg_5_0 hx hb hts hown hK hP wd_214 q15 dX6_cut_34 ?_
        replace h := bd h
        obtain ⟨_, q16, h⟩ := h
        replace h := bd h
        obtain ⟨z18, q17, h⟩ := h
        refine c_X3_save ⟨hx, hb, hml, hown, hts⟩ hl.1 hK hP hD hA hS wd_582 ⟨(Nat.le_of_ble_eq_true rfl), (Nat.le_of_ble_eq_true rfl)⟩ q17 q16 (Nat.le_of_ble_eq_true rfl) dX6_cut_37 ⟨(Nat.le_of_ble_eq_true rfl), (Nat.le_of_ble_eq_true rfl)⟩ (fun H locs hP hD hS => ?_)
        refine lv_aload_n hx hb dX6_cut_40 rfl (lv_at hl 1 rfl) ?_
        replace h := bd h
        obtain ⟨x19, q20, h⟩ := h
        refine fg_5_3 hx hb hts hown hK hP wd_217 q20 dX6_cut_41 ?_
        replace h := bd h
        obtain ⟨_, q21, h⟩ := h
        replace h := bd h
        obtain ⟨z23, q22, h⟩ := h
        refine c_X4_clear ⟨hx, hb, hml, hown, hts⟩ hl.1 hK hP hD hA hS wd_577 ⟨(Nat.le_of_ble_eq_true rfl), (Nat.le_of_ble_eq_true rfl)⟩ q22 q21 (Nat.le_of_ble_eq_true rfl) dX6_cut_44 ⟨(Nat.le_of_ble_eq_true rfl), (Nat.le_of_ble_eq_true rfl)⟩ (fun H locs hP hD hS => ?_)
        refine lv_aload_n hx hb dX6_cut_47 rfl (lv_at hl 1 rfl) ?_
        replace h := bd h
        obtain ⟨x24, q25, h⟩ := h
        refine fg_5_3 hx hb hts hown hK hP wd_217 q25 dX6_cut_48 ?_
        refine lv_aload_n hx hb dX6_cut_51 rfl (lv_at hl 0 rfl) ?_
        refine lv_iload_n hx hb dX6_cut_52 rfl (lv_at hl 3 rfl) ?_
        replace h := bd h
        obtain ⟨_, q26, h⟩ := h
        replace h := bd h
        obtain ⟨z28, q27, h⟩ := h
        refine c_X4_pushTail ⟨hx, hb, hml, hown, hts⟩ hl.1 hK hP hD hA hS wd_449 ⟨(Nat.le_of_ble_eq_true rfl), (Nat.le_of_ble_eq_true rfl)⟩ q27 q26 (Nat.le_of_ble_eq_true rfl) dX6_cut_53 ⟨(Nat.le_of_ble_eq_true rfl), (Nat.le_of_ble_eq_true rfl)⟩ (fun H locs hP hD hS => ?_)
        refine lv_aload_n hx hb dX6_cut_56 rfl (lv_at hl 0 rfl) ?_
        refine lv_iload_n hx hb dX6_cut_57 rfl (lv_at hl 3 rfl) ?_
        replace h := bd h
        obtain ⟨_, q29, h⟩ := h
        replace h := bd h
        obtain ⟨z31, q30, h⟩ := h
        refine c_X4_shorten ⟨hx, hb, hml, hown, hts⟩ hl.1 hK hP hD hA hS wd_722 ⟨(Nat.le_of_ble_eq_true rfl), (Nat.le_of_ble_eq_true rfl)⟩ q30 q29 (Nat.le_of_ble_eq_true rfl) dX6_cut_58 ⟨(Nat.le_of_ble_eq_true rfl), (Nat.le_of_ble_eq_true rfl)⟩ (fun H locs hP hD hS => ?_)
        refine lv_aload_n hx hb dX6_cut_61 rfl (lv_at hl 1 rfl) ?_
        replace h := bd h
        obtain ⟨x32, q33, h⟩ := h
        refine fg_5_0 hx hb hts hown hK hP wd_214 q33 dX6_cut_62 ?_
        refine lv_aload_n hx hb dX6_cut_65 rfl (lv_at hl 1 rfl) ?_
        replace h := bd h
        obtain ⟨x34, q35, h⟩ := h
        refine fg_5_3 hx hb hts hown hK hP wd_217 q35 dX6_cut_66 ?_
        replace h := bd h
        obtain ⟨_, q36, h⟩ := h
        replace h := bd h
        obtain ⟨z38, q37, h⟩ := h
        refine c_X2_open ⟨hx, hb, hml, hown, hts⟩ hl.1 hK hP hD hA hS wd_599 ⟨(Nat.le_of_ble_eq_true rfl), (Nat.le_of_ble_eq_true rfl)⟩ q37 q36 (Nat.le_of_ble_eq_true rfl) dX6_cut_69 ⟨(Nat.le_of_ble_eq_true rfl), (Nat.le_of_ble_eq_true rfl)⟩ (fun H locs hP hD hS => ?_)
        cases h
        exact e_imx hx hb hlocks hr hP hD hS (Nat.le_of_ble_eq_true rfl) (Nat.le_of_ble_eq_true rfl) dX6_cut_72
    · replace h := ifn c7 h
      cases h
      exact tX6_IndexOutOfBoundsExceptionm hx hb hl0 hown hts hE hP hD hS (hl.1.trans hml.symm) dX6_cut_15 dX6_cut_18 dX6_cut_19 dX6_cut_21 dX6_cut_24 (fun x h => (htb x h).elim) (Nat.le_of_ble_eq_true rfl) (Nat.le_of_ble_eq_true rfl) (Nat.le_of_ble_eq_true rfl) (Nat.le_of_ble_eq_true rfl) hlocks (Nat.le_of_ble_eq_true rfl) (Nat.le_of_ble_eq_true rfl) (text := "the first value stays") (is := 132) (by decide +kernel)
set_option maxRecDepth 100000 in
theorem c_X6_cut {p : Program} {l : Launch} {e : Env} {R : Room} {s : State} {m : MethodId} {args : Array Value} {below : List Frame} {meth : Method} {c : Code} {H : Heap} {locs : List Loc} {cells slots : Nat} {Q : State → Prop} {cc : ByteArray} {pc index nL : Nat} {ls : Array Slot} {rest : List Value} {D : va_G} {cy : Nat → ClassId} {A0 : Nat → Prop} {S : St} {own : String} {u : Unit} {a0 : Nat} {a1 : Int32} {a2 : Int32} {x : String ⊕ Int32} {S1 : St}  (hF : CallFix p m c cc nL s args ALLW own) (hsz : ls.size = nL) (hK : va_K D vwCl (tyL cy) s) (hP : SP D cy S H) (hD : ∀ a, S a ≠ none → A0 a) (hA : ∀ q, s.heap.size ≤ q → A0 q) (hS : va_S A0 s.heap H locs) (hE : ENV A0 s) (hl0 : l.stackTraces = false) (hk : Cond.methodLink own index yX6_cut ∈ ALLW) (hR : rm_X6_cut.frames + 1 ≤ R.frames ∧ 8 + (4 + 11) + rm_X6_cut.locals ≤ R.locals) (h : f_X6_cut S a0 a1 a2 = some (x, S1)) (hc : oO S a0 5 = some u) (hW : (rest.map fun v => v.category).sum ≤ 8) (hdg : decode cc pc = .ok (.invokevirtual index, 3)) (hf : cells + 3 ≤ R.cells ∧ slots + 18 ≤ R.slots)
    (kx : ∀ (E : String) (ce : Cell) (q9 : Addr) (H1 : Heap) (locs1 : List Loc), x = .inl E → SP D cy S1 H1 → (∀ a, S1 a ≠ none → A0 a) → va_S A0 s.heap H1 locs1 → H1[q9]? = some ce → ce.vm = .none → s.vm.findClass E = some ce.cls → vx_W p l e R s m args below meth c H1 locs1 (cells + 3) (slots + 18) Q (F0 m pc ls rest) q9)
    (kk : ∀ (r : Int32) (H1 : Heap) (locs1 : List Loc), x = .inr r → SP D cy S1 H1 → (∀ a, S1 a ≠ none → A0 a) → va_S A0 s.heap H1 locs1 → W p l e R s m args below meth c H1 locs1 (cells + 3) (slots + 18) Q (F0 m (pc + 3) ls (.int r :: rest))) : W p l e R s m args below meth c H locs cells slots Q (F0 m pc ls (.int a2 :: .int a1 :: .ref a0 :: rest)) := by
  exact k_iVmx (As := [.int a1, .int a2]) hF hsz (m_X6_cut l hl0 D cy H.size S a0 a1 a2 x S1 h) (cwV_of (n := 2) hF.2.2.2.2 hk wd_718 wd_719 wd_69 wd_720 rfl rfl (by decide +kernel) hR) rfl hK hP hD hA hS hE (ci := 5) hc rfl hW rfl hdg hf kx kk
/-- VowBlocks.pass(I)I -/
def f_X6_pass_L47 (y47_0 : Nat) (y47_1 : Int32) : Nat → St → Int32 → Int32 →  Option (Int32 × St)
  | 0, _, _, _ => none
  | fu + 1, S47_, y47_2, y47_3 =>
    if y47_1 ≤ y47_3 then
      some (y47_2, S47_)
    else
      (gR S47_ y47_0 5 0).bind fun x19 =>
      (oO S47_ x19 1).bind fun _ =>
      (f_X2_liveDay S47_ x19).bind fun z23 =>
      f_X6_pass_L47 y47_0 y47_1 fu z23.2 (y47_2 + z23.1) (y47_3 + 1)
def f_X6_pass (S : St) (a0 : Nat) (a1 : Int32) : Option ((String ⊕ Int32) × St) :=
  (f_X6_requireWithin a1 1 100).bind fun z2 =>
  Sum.elim (fun E =>
    some (.inl E, S)
  ) (fun _ =>
  (gR S a0 5 0).bind fun x4 =>
  (gI S x4 1 2).bind fun x6 =>
  if (x6 + a1) ≤ 5000 then
    (gR S a0 5 1).bind fun x9 =>
    (gR S a0 5 0).bind fun x11 =>
    (oO S x9 2).bind fun _ =>
    (f_X3_save S x9 x11).bind fun z15 =>
    (f_X6_pass_L47 a0 a1 FU z15 0 0).bind fun z16 =>
    some (.inr z16.1, z16.2)
  else
    some (.inl "java/lang/IllegalStateException", S)
  ) z2
abbrev rm_X6_pass : Room := { frames := 7, cells := 2, slots := 12, locals := 137 }
set_option maxHeartbeats 4000000 in
set_option maxRecDepth 100000 in
theorem m_X6_pass (l : Launch) (hl0 : l.stackTraces = false) (D : va_G) (cy : Nat → ClassId) (sz : Nat) (S : St) (a0 : Nat) (a1 : Int32) (x : String ⊕ Int32) (S1 : St) (h : f_X6_pass S a0 a1 = some (x, S1)) : vx_Met l yX6_pass (wsA yX6_pass cX6_pass 4 (some .int)) rm_X6_pass (va_Pc [.ref a0, .int a1] (PNX D cy S sz)) (va_Qi (fun r' (_ : Unit) => x = .inr r') (fun _ t => PoS D cy S1 (dm S sz) t) (dm S sz)) (vx_X (fun _ : Unit => True) (fun E _ t => x = .inl E ∧ PoS D cy S1 (dm S sz) t) (dm S sz)) 2 12 (dm S sz) := by
  refine vx_ofW (cc := cX6_pass) (maxL := 4) (ret := (some .int)) (by decide) rfl ?_
  intro p e s m args below meth c s₁ B hml htb hv
  obtain ⟨rfl, hsz, hP, hK, hE⟩ := hv
  have hx := B.exec
  have hb := B.bytes
  have hr := B.returns
  have hts9 := atoms_spec (ws := wsA yX6_pass cX6_pass 4 (some .int)) B.pre
  have hts : ∀ w ∈ ALLW, w.before _ s = true := fun w h => hts9 w (List.mem_cons_of_mem _ h)
  have hown : s.vm.findClass RX6 = some m.cls := findClass_of_methodNamed B.named
  have hlocks := B.notSynchronized
  subst hsz
  have hD : ∀ a, S a ≠ none → dm S s.heap.size a := fun a h => Or.inl h
  have hA : ∀ q : Nat, s.heap.size ≤ q → dm S s.heap.size q := fun q h => Or.inr h
  have hS : va_S (dm S s.heap.size) s.heap s.heap [] := va_S.rf
  have hl := lv_entry [.ref a0, .int a1] (n := 4) (Nat.le_of_ble_eq_true rfl)
  rw [lg_entry_eq]
  generalize (lg_sl [.ref a0, .int a1] ++ List.replicate (4 - (lg_sl [.ref a0, .int a1]).length) Slot.unset).toArray = ls at hl ⊢
  have hl : lv_has ls 4 [(0, .ref a0), (1, .int a1)] := hl
  rw [f_X6_pass] at h
  refine lv_iload_n hx hb dX6_pass_0 rfl (lv_at hl 1 rfl) ?_
  refine lv_iconst (v := 1) hx hb dX6_pass_1 (by decide) ?_
  refine lv_bipush (v := 100) hx hb dX6_pass_2 (by decide) ?_
  replace h := bd h
  obtain ⟨z2, q1, h⟩ := h
  refine c_X6_requireWithin ⟨hx, hb, hml, hown, hts⟩ hl.1 hK hP hS hE hl0 wd_482 ⟨(Nat.le_of_ble_eq_true rfl), (Nat.le_of_ble_eq_true rfl)⟩ q1 (Nat.le_of_ble_eq_true rfl) dX6_pass_4 ⟨(Nat.le_of_ble_eq_true rfl), (Nat.le_of_ble_eq_true rfl)⟩ (fun E ce qx9 H locs hx9 hP hS h1 h2 h3 => ?_) (fun H locs hx9 hP hS => ?_)
  · replace h := sel_l hx9 h
    cases h
    exact o_m (fun x h => (htb x h).elim) hlocks h1 h2 h3 hP hD hS (Nat.le_of_ble_eq_true rfl) (Nat.le_of_ble_eq_true rfl)
  · replace h := sel_r hx9 h
    refine lv_aload_n hx hb dX6_pass_7 rfl (lv_at hl 0 rfl) ?_
    replace h := bd h
    obtain ⟨x4, q5, h⟩ := h
    refine fg_5_0 hx hb hts hown hK hP wd_214 q5 dX6_pass_8 ?_
    replace h := bd h
    obtain ⟨x6, q7, h⟩ := h
    refine fg_1_2 hx hb hts hown hK hP wd_158 q7 dX6_pass_11 ?_
    refine lv_iload_n hx hb dX6_pass_14 rfl (lv_at hl 1 rfl) ?_
    refine lv_iadd hx hb dX6_pass_15 ?_
    refine lv_sipush (v := 5000) hx hb dX6_pass_16 (by decide) ?_
    refine lv_icmp_le (tgt := 32) hx hb dX6_pass_19 (by decide) (fun c8 => ?_) (fun c8 => ?_)
    · replace h := ifp c8 h
      refine lv_aload_n hx hb dX6_pass_32 rfl (lv_at hl 0 rfl) ?_
      replace h := bd h
      obtain ⟨x9, q10, h⟩ := h
      refine fg_5_1 hx hb hts hown hK hP wd_215 q10 dX6_pass_33 ?_
      refine lv_aload_n hx hb dX6_pass_36 rfl (lv_at hl 0 rfl) ?_
      replace h := bd h
      obtain ⟨x11, q12, h⟩ := h
      refine fg_5_0 hx hb hts hown hK hP wd_214 q12 dX6_pass_37 ?_
      replace h := bd h
      obtain ⟨_, q13, h⟩ := h
      replace h := bd h
      obtain ⟨z15, q14, h⟩ := h
      refine c_X3_save ⟨hx, hb, hml, hown, hts⟩ hl.1 hK hP hD hA hS wd_582 ⟨(Nat.le_of_ble_eq_true rfl), (Nat.le_of_ble_eq_true rfl)⟩ q14 q13 (Nat.le_of_ble_eq_true rfl) dX6_pass_40 ⟨(Nat.le_of_ble_eq_true rfl), (Nat.le_of_ble_eq_true rfl)⟩ (fun H locs hP hD hS => ?_)
      refine lv_iconst (v := 0) hx hb dX6_pass_43 (by decide) ?_
      refine lv_istore_n (lv' := [(2, .int 0), (0, .ref a0), (1, .int a1)]) hx hb dX6_pass_44 rfl hl (by decide) rfl (fun ls hl => ?_)
      refine lv_iconst (v := 0) hx hb dX6_pass_45 (by decide) ?_
      refine lv_istore_n (lv' := [(3, .int 0), (2, .int 0), (0, .ref a0), (1, .int a1)]) hx hb dX6_pass_46 rfl hl (by decide) rfl (fun ls hl => ?_)
      have L47 : ∀ (y47_0 : Nat) (y47_1 : Int32) (fu : Nat) (S47_ : St) (y47_2 : Int32) (y47_3 : Int32) (res : Int32 × St), f_X6_pass_L47 y47_0 y47_1 fu S47_ y47_2 y47_3 = some res → ∀ (H : Heap) (locs : List Loc) (ls : Array Slot), SP D cy S47_ H → (∀ a, S47_ a ≠ none → (dm S s.heap.size) a) → va_S (dm S s.heap.size) s.heap H locs → lv_has ls 4 [(0, .ref y47_0), (1, .int y47_1), (2, .int y47_2), (3, .int y47_3)] → (∀ (H : Heap) (locs : List Loc) (ls : Array Slot), SP D cy res.2 H → (∀ a, res.2 a ≠ none → (dm S s.heap.size) a) → va_S (dm S s.heap.size) s.heap H locs → lv_has ls 4 [(2, .int res.1)] → W p l e rm_X6_pass s m ([.ref a0, .int a1] : List Value).toArray below meth c H locs 1 6 (vx_MQ below (va_Qi (fun r' (_ : Unit) => x = .inr r') (fun _ t => PoS D cy S1 (dm S s.heap.size) t) (dm S s.heap.size)) (vx_X (fun _ : Unit => True) (fun E _ t => x = .inl E ∧ PoS D cy S1 (dm S s.heap.size) t) (dm S s.heap.size)) ([.ref a0, .int a1] : List Value).toArray s 2 12 (dm S s.heap.size)) (F0 m 68 ls [])) → W p l e rm_X6_pass s m ([.ref a0, .int a1] : List Value).toArray below meth c H locs 1 6 (vx_MQ below (va_Qi (fun r' (_ : Unit) => x = .inr r') (fun _ t => PoS D cy S1 (dm S s.heap.size) t) (dm S s.heap.size)) (vx_X (fun _ : Unit => True) (fun E _ t => x = .inl E ∧ PoS D cy S1 (dm S s.heap.size) t) (dm S s.heap.size)) ([.ref a0, .int a1] : List Value).toArray s 2 12 (dm S s.heap.size)) (F0 m 47 ls []) := by
        intro y47_0 y47_1 fu
        induction fu with
        | zero =>
          intro S47_ y47_2 y47_3 res h
          rw [f_X6_pass_L47] at h
          cases h
        | succ fu ih =>
          intro S47_ y47_2 y47_3 res h H locs ls hP hD hS hl hexit
          rw [f_X6_pass_L47] at h
          refine lv_iload_n hx hb dX6_pass_47 rfl (lv_at hl 3 rfl) ?_
          refine lv_iload_n hx hb dX6_pass_48 rfl (lv_at hl 1 rfl) ?_
          refine lv_icmp_ge (tgt := 68) hx hb dX6_pass_49 (by decide) (fun c18 => ?_) (fun c18 => ?_)
          · replace h := ifp c18 h
            cases h
            exact hexit _ _ _ hP hD hS (lv_sub hl [2] rfl)
          · replace h := ifn c18 h
            refine lv_iload_n hx hb dX6_pass_52 rfl (lv_at hl 2 rfl) ?_
            refine lv_aload_n hx hb dX6_pass_53 rfl (lv_at hl 0 rfl) ?_
            replace h := bd h
            obtain ⟨x19, q20, h⟩ := h
            refine fg_5_0 hx hb hts hown hK hP wd_214 q20 dX6_pass_54 ?_
            replace h := bd h
            obtain ⟨_, q21, h⟩ := h
            replace h := bd h
            obtain ⟨z23, q22, h⟩ := h
            refine c_X2_liveDay ⟨hx, hb, hml, hown, hts⟩ hl.1 hK hP hD hA hS wd_734 ⟨(Nat.le_of_ble_eq_true rfl), (Nat.le_of_ble_eq_true rfl)⟩ q22 q21 (Nat.le_of_ble_eq_true rfl) dX6_pass_57 ⟨(Nat.le_of_ble_eq_true rfl), (Nat.le_of_ble_eq_true rfl)⟩ (fun H locs hP hD hS => ?_)
            refine lv_iadd hx hb dX6_pass_60 ?_
            refine lv_istore_n (lv' := [(2, .int (y47_2 + z23.1)), (0, .ref y47_0), (1, .int y47_1), (3, .int y47_3)]) hx hb dX6_pass_61 rfl hl (by decide) rfl (fun ls hl => ?_)
            refine lv_iinc (v := (y47_3 + 1)) (lv' := [(3, .int (y47_3 + 1)), (2, .int (y47_2 + z23.1)), (0, .ref y47_0), (1, .int y47_1)]) hx hb dX6_pass_62 hl (k := 3) rfl rfl (by decide) rfl (fun ls hl => ?_)
            refine lv_goto (tgt := 47) hx hb dX6_pass_65 (by decide) ?_
            exact ih z23.2 (y47_2 + z23.1) (y47_3 + 1) _ h _ _ _ hP hD hS (lv_sub hl [2, 3, 1, 0] rfl) hexit
      replace h := bd h
      obtain ⟨z16, q24, h⟩ := h
      refine L47 a0 a1 FU z15 0 0 z16 q24 _ _ _ hP hD hS (lv_sub hl [2, 3, 1, 0] rfl) (fun H locs ls hP hD hS hl => ?_)
      refine lv_iload_n hx hb dX6_pass_68 rfl (lv_at hl 0 rfl) ?_
      cases h
      exact e_imx hx hb hlocks hr hP hD hS (Nat.le_of_ble_eq_true rfl) (Nat.le_of_ble_eq_true rfl) dX6_pass_69
    · replace h := ifn c8 h
      cases h
      exact tX6_IllegalStateExceptionm hx hb hl0 hown hts hE hP hD hS (hl.1.trans hml.symm) dX6_pass_22 dX6_pass_25 dX6_pass_26 dX6_pass_28 dX6_pass_31 (fun x h => (htb x h).elim) (Nat.le_of_ble_eq_true rfl) (Nat.le_of_ble_eq_true rfl) (Nat.le_of_ble_eq_true rfl) (Nat.le_of_ble_eq_true rfl) hlocks (Nat.le_of_ble_eq_true rfl) (Nat.le_of_ble_eq_true rfl) (text := "the day would be above 5000") (is := 146) (by decide +kernel)
set_option maxRecDepth 100000 in
theorem c_X6_pass {p : Program} {l : Launch} {e : Env} {R : Room} {s : State} {m : MethodId} {args : Array Value} {below : List Frame} {meth : Method} {c : Code} {H : Heap} {locs : List Loc} {cells slots : Nat} {Q : State → Prop} {cc : ByteArray} {pc index nL : Nat} {ls : Array Slot} {rest : List Value} {D : va_G} {cy : Nat → ClassId} {A0 : Nat → Prop} {S : St} {own : String} {u : Unit} {a0 : Nat} {a1 : Int32} {x : String ⊕ Int32} {S1 : St}  (hF : CallFix p m c cc nL s args ALLW own) (hsz : ls.size = nL) (hK : va_K D vwCl (tyL cy) s) (hP : SP D cy S H) (hD : ∀ a, S a ≠ none → A0 a) (hA : ∀ q, s.heap.size ≤ q → A0 q) (hS : va_S A0 s.heap H locs) (hE : ENV A0 s) (hl0 : l.stackTraces = false) (hk : Cond.methodLink own index yX6_pass ∈ ALLW) (hR : rm_X6_pass.frames + 1 ≤ R.frames ∧ 8 + (4 + 11) + rm_X6_pass.locals ≤ R.locals) (h : f_X6_pass S a0 a1 = some (x, S1)) (hc : oO S a0 5 = some u) (hW : (rest.map fun v => v.category).sum ≤ 8) (hdg : decode cc pc = .ok (.invokevirtual index, 3)) (hf : cells + 2 ≤ R.cells ∧ slots + 12 ≤ R.slots)
    (kx : ∀ (E : String) (ce : Cell) (q9 : Addr) (H1 : Heap) (locs1 : List Loc), x = .inl E → SP D cy S1 H1 → (∀ a, S1 a ≠ none → A0 a) → va_S A0 s.heap H1 locs1 → H1[q9]? = some ce → ce.vm = .none → s.vm.findClass E = some ce.cls → vx_W p l e R s m args below meth c H1 locs1 (cells + 2) (slots + 12) Q (F0 m pc ls rest) q9)
    (kk : ∀ (r : Int32) (H1 : Heap) (locs1 : List Loc), x = .inr r → SP D cy S1 H1 → (∀ a, S1 a ≠ none → A0 a) → va_S A0 s.heap H1 locs1 → W p l e R s m args below meth c H1 locs1 (cells + 2) (slots + 12) Q (F0 m (pc + 3) ls (.int r :: rest))) : W p l e R s m args below meth c H locs cells slots Q (F0 m pc ls (.int a1 :: .ref a0 :: rest)) := by
  exact k_iVmx (As := [.int a1]) hF hsz (m_X6_pass l hl0 D cy H.size S a0 a1 x S1 h) (cwV_of (n := 1) hF.2.2.2.2 hk wd_730 wd_731 wd_69 wd_732 rfl rfl (by decide +kernel) hR) rfl hK hP hD hA hS hE (ci := 5) hc rfl hW rfl hdg hf kx kk
/-- VowBlocks.fineOf(LVowBlocks$Block;)I -/
def f_X6_fineOf (S : St) (a0 : Nat) (a1 : Nat) : Option (Int32) :=
  (gR S a0 5 0).bind fun x1 =>
  (gI S x1 1 4).bind fun x3 =>
  (gR S a0 5 0).bind fun x5 =>
  (gI S x5 1 2).bind fun x7 =>
  (gR S a0 5 0).bind fun x9 =>
  (gI S x9 1 3).bind fun x11 =>
  (oO S a1 0).bind fun _ =>
  (f_X0_daysLeft S a1 x7 x11).bind fun x15 =>
  some (x3 * x15)
abbrev rm_X6_fineOf : Room := { frames := 2, cells := 0, slots := 0, locals := 35 }
set_option maxHeartbeats 4000000 in
set_option maxRecDepth 100000 in
theorem m_X6_fineOf (l : Launch) (D : va_G) (cy : Nat → ClassId) (S : St) (a0 : Nat) (a1 : Nat) (r : Int32) (h : f_X6_fineOf S a0 a1 = some r) : Met l yX6_fineOf (wsA yX6_fineOf cX6_fineOf 2 (some .int)) rm_X6_fineOf (va_Pc [.ref a0, .ref a1] (PS D cy S)) (va_Qi (fun r' (_ : Unit) => r' = r) (fun _ _ => True) noA) 0 0 noA := by
  refine Met.ofW (cc := cX6_fineOf) (maxL := 2) (ret := (some .int)) (by decide) rfl ?_
  intro p e s m args below meth c s₁ B hml hv
  obtain ⟨rfl, hP, hK⟩ := hv
  have hx := B.exec
  have hb := B.bytes
  have hr := B.returns
  have hts9 := atoms_spec (ws := wsA yX6_fineOf cX6_fineOf 2 (some .int)) B.pre
  have hts : ∀ w ∈ ALLW, w.before _ s = true := fun w h => hts9 w (List.mem_cons_of_mem _ h)
  have hown : s.vm.findClass RX6 = some m.cls := findClass_of_methodNamed B.named
  have hlocks := B.notSynchronized
  have hS : va_S noA s.heap s.heap [] := va_S.rf
  have hl := lv_entry [.ref a0, .ref a1] (n := 2) (Nat.le_of_ble_eq_true rfl)
  rw [lg_entry_eq]
  generalize (lg_sl [.ref a0, .ref a1] ++ List.replicate (2 - (lg_sl [.ref a0, .ref a1]).length) Slot.unset).toArray = ls at hl ⊢
  have hl : lv_has ls 2 [(0, .ref a0), (1, .ref a1)] := hl
  rw [f_X6_fineOf] at h
  refine lv_aload_n hx hb dX6_fineOf_0 rfl (lv_at hl 0 rfl) ?_
  replace h := bd h
  obtain ⟨x1, q2, h⟩ := h
  refine fg_5_0 hx hb hts hown hK hP wd_214 q2 dX6_fineOf_1 ?_
  replace h := bd h
  obtain ⟨x3, q4, h⟩ := h
  refine fg_1_4 hx hb hts hown hK hP wd_162 q4 dX6_fineOf_4 ?_
  refine lv_aload_n hx hb dX6_fineOf_7 rfl (lv_at hl 1 rfl) ?_
  refine lv_aload_n hx hb dX6_fineOf_8 rfl (lv_at hl 0 rfl) ?_
  replace h := bd h
  obtain ⟨x5, q6, h⟩ := h
  refine fg_5_0 hx hb hts hown hK hP wd_214 q6 dX6_fineOf_9 ?_
  replace h := bd h
  obtain ⟨x7, q8, h⟩ := h
  refine fg_1_2 hx hb hts hown hK hP wd_158 q8 dX6_fineOf_12 ?_
  refine lv_aload_n hx hb dX6_fineOf_15 rfl (lv_at hl 0 rfl) ?_
  replace h := bd h
  obtain ⟨x9, q10, h⟩ := h
  refine fg_5_0 hx hb hts hown hK hP wd_214 q10 dX6_fineOf_16 ?_
  replace h := bd h
  obtain ⟨x11, q12, h⟩ := h
  refine fg_1_3 hx hb hts hown hK hP wd_160 q12 dX6_fineOf_19 ?_
  replace h := bd h
  obtain ⟨_, q13, h⟩ := h
  replace h := bd h
  obtain ⟨x15, q14, h⟩ := h
  refine c_X0_daysLeft ⟨hx, hb, hml, hown, hts⟩ hl.1 hK hP hS wd_406 ⟨(Nat.le_of_ble_eq_true rfl), (Nat.le_of_ble_eq_true rfl)⟩ q14 q13 (Nat.le_of_ble_eq_true rfl) dX6_fineOf_22 ⟨(Nat.le_of_ble_eq_true rfl), (Nat.le_of_ble_eq_true rfl)⟩ (fun H locs hP hS => ?_)
  refine lv_imul hx hb dX6_fineOf_25 ?_
  cases h
  exact e_ip hx hb hlocks hr hS (Nat.le_of_ble_eq_true rfl) (Nat.le_of_ble_eq_true rfl) dX6_fineOf_26
set_option maxRecDepth 100000 in
theorem c_X6_fineOf {p : Program} {l : Launch} {e : Env} {R : Room} {s : State} {m : MethodId} {args : Array Value} {below : List Frame} {meth : Method} {c : Code} {H : Heap} {locs : List Loc} {cells slots : Nat} {Q : State → Prop} {cc : ByteArray} {pc index nL : Nat} {ls : Array Slot} {rest : List Value} {D : va_G} {cy : Nat → ClassId} {A0 : Nat → Prop} {S : St} {H0 : Heap} {own : String} {u : Unit} {a0 : Nat} {a1 : Nat} {r : Int32}  (hF : CallFix p m c cc nL s args ALLW own) (hsz : ls.size = nL) (hK : va_K D vwCl (tyL cy) s) (hP : SP D cy S H) (hS : va_S A0 H0 H locs) (hk : Cond.methodLink own index yX6_fineOf ∈ ALLW) (hR : rm_X6_fineOf.frames + 1 ≤ R.frames ∧ 8 + (2 + 11) + rm_X6_fineOf.locals ≤ R.locals) (h : f_X6_fineOf S a0 a1 = some r) (hc : oO S a0 5 = some u) (hW : (rest.map fun v => v.category).sum ≤ 8) (hdg : decode cc pc = .ok (.invokevirtual index, 3)) (hf : cells + 0 ≤ R.cells ∧ slots + 0 ≤ R.slots)
    (kk : ∀ (H1 : Heap) (locs1 : List Loc), SP D cy S H1 → va_S A0 H0 H1 locs1 → W p l e R s m args below meth c H1 locs1 (cells + 0) (slots + 0) Q (F0 m (pc + 3) ls (.int r :: rest))) : W p l e R s m args below meth c H locs cells slots Q (F0 m pc ls (.ref a1 :: .ref a0 :: rest)) := by
  exact k_iVp (As := [.ref a1]) hF hsz (m_X6_fineOf l D cy S a0 a1 r h) (cwV_of (n := 1) hF.2.2.2.2 hk wd_427 wd_9 wd_69 wd_428 rfl rfl (by decide +kernel) hR) rfl hK hP hS (ci := 5) hc rfl hW rfl hdg hf kk
/-- VowBlocks.breakVow(I)I -/
def f_X6_breakVow (S : St) (a0 : Nat) (a1 : Int32) : Option ((String ⊕ Int32) × St) :=
  (oO S a0 5).bind fun _ =>
  (f_X6_find S a0 a1).bind fun z3 =>
  Sum.elim (fun E =>
    some (.inl E, S)
  ) (fun x4 =>
  (gR S a0 5 1).bind fun x5 =>
  (gR S a0 5 0).bind fun x7 =>
  (oO S x5 2).bind fun _ =>
  (f_X3_save S x5 x7).bind fun z11 =>
  (oO z11 a0 5).bind fun _ =>
  (f_X6_fineOf z11 a0 x4).bind fun x14 =>
  (gI z11 x4 0 6).bind fun x15 =>
  (pI z11 x4 0 6 (x15 + x14)).bind fun Z17 =>
  (gR Z17 a0 5 0).bind fun x19 =>
  (gI Z17 x19 1 2).bind fun x21 =>
  (oO Z17 x4 0).bind fun _ =>
  (f_X0_vow Z17 x4 x21).bind fun z25 =>
  some (.inr x14, z25)
  ) z3
abbrev rm_X6_breakVow : Room := { frames := 7, cells := 1, slots := 6, locals := 103 }
set_option maxHeartbeats 4000000 in
set_option maxRecDepth 100000 in
theorem m_X6_breakVow (l : Launch) (hl0 : l.stackTraces = false) (D : va_G) (cy : Nat → ClassId) (sz : Nat) (S : St) (a0 : Nat) (a1 : Int32) (x : String ⊕ Int32) (S1 : St) (h : f_X6_breakVow S a0 a1 = some (x, S1)) : vx_Met l yX6_breakVow (wsA yX6_breakVow cX6_breakVow 4 (some .int)) rm_X6_breakVow (va_Pc [.ref a0, .int a1] (PNX D cy S sz)) (va_Qi (fun r' (_ : Unit) => x = .inr r') (fun _ t => PoS D cy S1 (dm S sz) t) (dm S sz)) (vx_X (fun _ : Unit => True) (fun E _ t => x = .inl E ∧ PoS D cy S1 (dm S sz) t) (dm S sz)) 1 6 (dm S sz) := by
  refine vx_ofW (cc := cX6_breakVow) (maxL := 4) (ret := (some .int)) (by decide) rfl ?_
  intro p e s m args below meth c s₁ B hml htb hv
  obtain ⟨rfl, hsz, hP, hK, hE⟩ := hv
  have hx := B.exec
  have hb := B.bytes
  have hr := B.returns
  have hts9 := atoms_spec (ws := wsA yX6_breakVow cX6_breakVow 4 (some .int)) B.pre
  have hts : ∀ w ∈ ALLW, w.before _ s = true := fun w h => hts9 w (List.mem_cons_of_mem _ h)
  have hown : s.vm.findClass RX6 = some m.cls := findClass_of_methodNamed B.named
  have hlocks := B.notSynchronized
  subst hsz
  have hD : ∀ a, S a ≠ none → dm S s.heap.size a := fun a h => Or.inl h
  have hA : ∀ q : Nat, s.heap.size ≤ q → dm S s.heap.size q := fun q h => Or.inr h
  have hS : va_S (dm S s.heap.size) s.heap s.heap [] := va_S.rf
  have hl := lv_entry [.ref a0, .int a1] (n := 4) (Nat.le_of_ble_eq_true rfl)
  rw [lg_entry_eq]
  generalize (lg_sl [.ref a0, .int a1] ++ List.replicate (4 - (lg_sl [.ref a0, .int a1]).length) Slot.unset).toArray = ls at hl ⊢
  have hl : lv_has ls 4 [(0, .ref a0), (1, .int a1)] := hl
  rw [f_X6_breakVow] at h
  refine lv_aload_n hx hb dX6_breakVow_0 rfl (lv_at hl 0 rfl) ?_
  refine lv_iload_n hx hb dX6_breakVow_1 rfl (lv_at hl 1 rfl) ?_
  replace h := bd h
  obtain ⟨_, q1, h⟩ := h
  replace h := bd h
  obtain ⟨z3, q2, h⟩ := h
  refine c_X6_find ⟨hx, hb, hml, hown, hts⟩ hl.1 hK hP hS hE hl0 wd_638 ⟨(Nat.le_of_ble_eq_true rfl), (Nat.le_of_ble_eq_true rfl)⟩ q2 q1 (Nat.le_of_ble_eq_true rfl) dX6_breakVow_2 ⟨(Nat.le_of_ble_eq_true rfl), (Nat.le_of_ble_eq_true rfl)⟩ (fun E ce qx9 H locs hx9 hP hS h1 h2 h3 => ?_) (fun x4 H locs hx9 hP hS => ?_)
  · replace h := sel_l hx9 h
    cases h
    exact o_m (fun x h => (htb x h).elim) hlocks h1 h2 h3 hP hD hS (Nat.le_of_ble_eq_true rfl) (Nat.le_of_ble_eq_true rfl)
  · replace h := sel_r hx9 h
    refine lv_astore_n (lv' := [(2, .ref x4), (0, .ref a0), (1, .int a1)]) hx hb dX6_breakVow_5 rfl hl (by decide) rfl (fun ls hl => ?_)
    refine lv_aload_n hx hb dX6_breakVow_6 rfl (lv_at hl 1 rfl) ?_
    replace h := bd h
    obtain ⟨x5, q6, h⟩ := h
    refine fg_5_1 hx hb hts hown hK hP wd_215 q6 dX6_breakVow_7 ?_
    refine lv_aload_n hx hb dX6_breakVow_10 rfl (lv_at hl 1 rfl) ?_
    replace h := bd h
    obtain ⟨x7, q8, h⟩ := h
    refine fg_5_0 hx hb hts hown hK hP wd_214 q8 dX6_breakVow_11 ?_
    replace h := bd h
    obtain ⟨_, q9, h⟩ := h
    replace h := bd h
    obtain ⟨z11, q10, h⟩ := h
    refine c_X3_save ⟨hx, hb, hml, hown, hts⟩ hl.1 hK hP hD hA hS wd_582 ⟨(Nat.le_of_ble_eq_true rfl), (Nat.le_of_ble_eq_true rfl)⟩ q10 q9 (Nat.le_of_ble_eq_true rfl) dX6_breakVow_14 ⟨(Nat.le_of_ble_eq_true rfl), (Nat.le_of_ble_eq_true rfl)⟩ (fun H locs hP hD hS => ?_)
    refine lv_aload_n hx hb dX6_breakVow_17 rfl (lv_at hl 1 rfl) ?_
    refine lv_aload_n hx hb dX6_breakVow_18 rfl (lv_at hl 0 rfl) ?_
    replace h := bd h
    obtain ⟨_, q12, h⟩ := h
    replace h := bd h
    obtain ⟨x14, q13, h⟩ := h
    refine c_X6_fineOf ⟨hx, hb, hml, hown, hts⟩ hl.1 hK hP hS wd_425 ⟨(Nat.le_of_ble_eq_true rfl), (Nat.le_of_ble_eq_true rfl)⟩ q13 q12 (Nat.le_of_ble_eq_true rfl) dX6_breakVow_19 ⟨(Nat.le_of_ble_eq_true rfl), (Nat.le_of_ble_eq_true rfl)⟩ (fun H locs hP hS => ?_)
    refine lv_istore_n (lv' := [(3, .int x14), (2, .ref x4), (0, .ref a0), (1, .int a1)]) hx hb dX6_breakVow_22 rfl hl (by decide) rfl (fun ls hl => ?_)
    refine lv_aload_n hx hb dX6_breakVow_23 rfl (lv_at hl 1 rfl) ?_
    refine lv_dup hx hb dX6_breakVow_24 rfl ?_
    replace h := bd h
    obtain ⟨x15, q16, h⟩ := h
    refine fg_0_6 hx hb hts hown hK hP wd_135 q16 dX6_breakVow_25 ?_
    refine lv_iload_n hx hb dX6_breakVow_28 rfl (lv_at hl 0 rfl) ?_
    refine lv_iadd hx hb dX6_breakVow_29 ?_
    replace h := bd h
    obtain ⟨Z17, q18, h⟩ := h
    refine fp_0_6 hx hb hts hown hK hP hD hS wd_135 q18 dX6_breakVow_30 (fun H locs hz9 hP hD hS => ?_)
    refine lv_aload_n hx hb dX6_breakVow_33 rfl (lv_at hl 1 rfl) ?_
    refine lv_aload_n hx hb dX6_breakVow_34 rfl (lv_at hl 2 rfl) ?_
    replace h := bd h
    obtain ⟨x19, q20, h⟩ := h
    refine fg_5_0 hx hb hts hown hK hP wd_214 q20 dX6_breakVow_35 ?_
    replace h := bd h
    obtain ⟨x21, q22, h⟩ := h
    refine fg_1_2 hx hb hts hown hK hP wd_158 q22 dX6_breakVow_38 ?_
    replace h := bd h
    obtain ⟨_, q23, h⟩ := h
    replace h := bd h
    obtain ⟨z25, q24, h⟩ := h
    refine c_X0_vow ⟨hx, hb, hml, hown, hts⟩ hl.1 hK hP hD hA hS wd_751 ⟨(Nat.le_of_ble_eq_true rfl), (Nat.le_of_ble_eq_true rfl)⟩ q24 q23 (Nat.le_of_ble_eq_true rfl) dX6_breakVow_41 ⟨(Nat.le_of_ble_eq_true rfl), (Nat.le_of_ble_eq_true rfl)⟩ (fun H locs hP hD hS => ?_)
    refine lv_iload_n hx hb dX6_breakVow_44 rfl (lv_at hl 0 rfl) ?_
    cases h
    exact e_imx hx hb hlocks hr hP hD hS (Nat.le_of_ble_eq_true rfl) (Nat.le_of_ble_eq_true rfl) dX6_breakVow_45
set_option maxRecDepth 100000 in
theorem c_X6_breakVow {p : Program} {l : Launch} {e : Env} {R : Room} {s : State} {m : MethodId} {args : Array Value} {below : List Frame} {meth : Method} {c : Code} {H : Heap} {locs : List Loc} {cells slots : Nat} {Q : State → Prop} {cc : ByteArray} {pc index nL : Nat} {ls : Array Slot} {rest : List Value} {D : va_G} {cy : Nat → ClassId} {A0 : Nat → Prop} {S : St} {own : String} {u : Unit} {a0 : Nat} {a1 : Int32} {x : String ⊕ Int32} {S1 : St}  (hF : CallFix p m c cc nL s args ALLW own) (hsz : ls.size = nL) (hK : va_K D vwCl (tyL cy) s) (hP : SP D cy S H) (hD : ∀ a, S a ≠ none → A0 a) (hA : ∀ q, s.heap.size ≤ q → A0 q) (hS : va_S A0 s.heap H locs) (hE : ENV A0 s) (hl0 : l.stackTraces = false) (hk : Cond.methodLink own index yX6_breakVow ∈ ALLW) (hR : rm_X6_breakVow.frames + 1 ≤ R.frames ∧ 8 + (4 + 11) + rm_X6_breakVow.locals ≤ R.locals) (h : f_X6_breakVow S a0 a1 = some (x, S1)) (hc : oO S a0 5 = some u) (hW : (rest.map fun v => v.category).sum ≤ 8) (hdg : decode cc pc = .ok (.invokevirtual index, 3)) (hf : cells + 1 ≤ R.cells ∧ slots + 6 ≤ R.slots)
    (kx : ∀ (E : String) (ce : Cell) (q9 : Addr) (H1 : Heap) (locs1 : List Loc), x = .inl E → SP D cy S1 H1 → (∀ a, S1 a ≠ none → A0 a) → va_S A0 s.heap H1 locs1 → H1[q9]? = some ce → ce.vm = .none → s.vm.findClass E = some ce.cls → vx_W p l e R s m args below meth c H1 locs1 (cells + 1) (slots + 6) Q (F0 m pc ls rest) q9)
    (kk : ∀ (r : Int32) (H1 : Heap) (locs1 : List Loc), x = .inr r → SP D cy S1 H1 → (∀ a, S1 a ≠ none → A0 a) → va_S A0 s.heap H1 locs1 → W p l e R s m args below meth c H1 locs1 (cells + 1) (slots + 6) Q (F0 m (pc + 3) ls (.int r :: rest))) : W p l e R s m args below meth c H locs cells slots Q (F0 m pc ls (.int a1 :: .ref a0 :: rest)) := by
  exact k_iVmx (As := [.int a1]) hF hsz (m_X6_breakVow l hl0 D cy H.size S a0 a1 x S1 h) (cwV_of (n := 1) hF.2.2.2.2 hk wd_748 wd_749 wd_69 wd_750 rfl rfl (by decide +kernel) hR) rfl hK hP hD hA hS hE (ci := 5) hc rfl hW rfl hdg hf kx kk
/-- VowBlocks.requireQuestion(II)V -/
def f_X6_requireQuestion (a0 : Int32) (a1 : Int32) : Option (String ⊕ Unit) :=
  (f_X6_requireWithin a0 0 2).bind fun z2 =>
  Sum.elim (fun E =>
    some (.inl E)
  ) (fun _ =>
  (f_X6_requireValue a1).bind fun z5 =>
  Sum.elim (fun E =>
    some (.inl E)
  ) (fun _ =>
  some (.inr ())
  ) z5
  ) z2
abbrev rm_X6_requireQuestion : Room := { frames := 8, cells := 2, slots := 12, locals := 124 }
set_option maxHeartbeats 4000000 in
set_option maxRecDepth 100000 in
theorem m_X6_requireQuestion (l : Launch) (hl0 : l.stackTraces = false) (D : va_G) (cy : Nat → ClassId) (S : St) (a0 : Int32) (a1 : Int32) (x : String ⊕ Unit) (h : f_X6_requireQuestion a0 a1 = some x) : vx_Met l yX6_requireQuestion (wsA yX6_requireQuestion cX6_requireQuestion 2 none) rm_X6_requireQuestion (va_Pc [.int a0, .int a1] (PSX D cy S)) (va_Qv (fun _ : Unit => x = .inr ()) (fun _ _ => True) noA) (vx_X (fun _ : Unit => True) (fun E _ _ => x = .inl E) noA) 2 12 noA := by
  refine vx_ofW (cc := cX6_requireQuestion) (maxL := 2) (ret := none) (by decide) rfl ?_
  intro p e s m args below meth c s₁ B hml htb hv
  obtain ⟨rfl, hP, hK, hE⟩ := hv
  have hx := B.exec
  have hb := B.bytes
  have hr := B.returns
  have hts9 := atoms_spec (ws := wsA yX6_requireQuestion cX6_requireQuestion 2 none) B.pre
  have hts : ∀ w ∈ ALLW, w.before _ s = true := fun w h => hts9 w (List.mem_cons_of_mem _ h)
  have hown : s.vm.findClass RX6 = some m.cls := findClass_of_methodNamed B.named
  have hlocks := B.notSynchronized
  have hS : va_S noA s.heap s.heap [] := va_S.rf
  have hl := lv_entry [.int a0, .int a1] (n := 2) (Nat.le_of_ble_eq_true rfl)
  rw [lg_entry_eq]
  generalize (lg_sl [.int a0, .int a1] ++ List.replicate (2 - (lg_sl [.int a0, .int a1]).length) Slot.unset).toArray = ls at hl ⊢
  have hl : lv_has ls 2 [(0, .int a0), (1, .int a1)] := hl
  rw [f_X6_requireQuestion] at h
  refine lv_iload_n hx hb dX6_requireQuestion_0 rfl (lv_at hl 0 rfl) ?_
  refine lv_iconst (v := 0) hx hb dX6_requireQuestion_1 (by decide) ?_
  refine lv_iconst (v := 2) hx hb dX6_requireQuestion_2 (by decide) ?_
  replace h := bd h
  obtain ⟨z2, q1, h⟩ := h
  refine c_X6_requireWithin ⟨hx, hb, hml, hown, hts⟩ hl.1 hK hP hS hE hl0 wd_482 ⟨(Nat.le_of_ble_eq_true rfl), (Nat.le_of_ble_eq_true rfl)⟩ q1 (Nat.le_of_ble_eq_true rfl) dX6_requireQuestion_3 ⟨(Nat.le_of_ble_eq_true rfl), (Nat.le_of_ble_eq_true rfl)⟩ (fun E ce qx9 H locs hx9 hP hS h1 h2 h3 => ?_) (fun H locs hx9 hP hS => ?_)
  · replace h := sel_l hx9 h
    cases h
    exact o_p (fun x h => (htb x h).elim) hlocks h1 h2 h3 hS (Nat.le_of_ble_eq_true rfl) (Nat.le_of_ble_eq_true rfl)
  · replace h := sel_r hx9 h
    refine lv_iload_n hx hb dX6_requireQuestion_6 rfl (lv_at hl 1 rfl) ?_
    replace h := bd h
    obtain ⟨z5, q4, h⟩ := h
    refine c_X6_requireValue ⟨hx, hb, hml, hown, hts⟩ hl.1 hK hP hS hE hl0 wd_479 ⟨(Nat.le_of_ble_eq_true rfl), (Nat.le_of_ble_eq_true rfl)⟩ q4 (Nat.le_of_ble_eq_true rfl) dX6_requireQuestion_7 ⟨(Nat.le_of_ble_eq_true rfl), (Nat.le_of_ble_eq_true rfl)⟩ (fun E ce qx9 H locs hx9 hP hS h1 h2 h3 => ?_) (fun H locs hx9 hP hS => ?_)
    · replace h := sel_l hx9 h
      cases h
      exact o_p (fun x h => (htb x h).elim) hlocks h1 h2 h3 hS (Nat.le_of_ble_eq_true rfl) (Nat.le_of_ble_eq_true rfl)
    · replace h := sel_r hx9 h
      cases h
      exact e_vpx hx hb hlocks hr hS (Nat.le_of_ble_eq_true rfl) (Nat.le_of_ble_eq_true rfl) dX6_requireQuestion_10
set_option maxRecDepth 100000 in
theorem c_X6_requireQuestion {p : Program} {l : Launch} {e : Env} {R : Room} {s : State} {m : MethodId} {args : Array Value} {below : List Frame} {meth : Method} {c : Code} {H : Heap} {locs : List Loc} {cells slots : Nat} {Q : State → Prop} {cc : ByteArray} {pc index nL : Nat} {ls : Array Slot} {rest : List Value} {D : va_G} {cy : Nat → ClassId} {A0 : Nat → Prop} {S : St} {own : String} {a0 : Int32} {a1 : Int32} {x : String ⊕ Unit}  (hF : CallFix p m c cc nL s args ALLW own) (hsz : ls.size = nL) (hK : va_K D vwCl (tyL cy) s) (hP : SP D cy S H) (hS : va_S A0 s.heap H locs) (hE : ENV A0 s) (hl0 : l.stackTraces = false) (hk : Cond.methodLink own index yX6_requireQuestion ∈ ALLW) (hR : rm_X6_requireQuestion.frames + 1 ≤ R.frames ∧ 8 + (2 + 11) + rm_X6_requireQuestion.locals ≤ R.locals) (h : f_X6_requireQuestion a0 a1 = some x) (hW : (rest.map fun v => v.category).sum ≤ 8) (hdg : decode cc pc = .ok (.invokestatic index, 3)) (hf : cells + 2 ≤ R.cells ∧ slots + 12 ≤ R.slots)
    (kx : ∀ (E : String) (ce : Cell) (q9 : Addr) (H1 : Heap) (locs1 : List Loc), x = .inl E → SP D cy S H1 → va_S A0 s.heap H1 locs1 → H1[q9]? = some ce → ce.vm = .none → s.vm.findClass E = some ce.cls → vx_W p l e R s m args below meth c H1 locs1 (cells + 2) (slots + 12) Q (F0 m pc ls rest) q9)
    (kk : ∀ (H1 : Heap) (locs1 : List Loc), x = .inr () → SP D cy S H1 → va_S A0 s.heap H1 locs1 → W p l e R s m args below meth c H1 locs1 (cells + 2) (slots + 12) Q (F0 m (pc + 3) ls (rest))) : W p l e R s m args below meth c H locs cells slots Q (F0 m pc ls (.int a1 :: .int a0 :: rest)) := by
  exact k_vSpx (As := [.int a0, .int a1]) hF hsz (m_X6_requireQuestion l hl0 D cy S a0 a1 x h) (cwS_of (n := 2) hF.2.2.2.2 hk wd_760 wd_69 wd_761 rfl rfl (by decide +kernel) hR) rfl hK hP hS hE hW rfl hdg hf kx kk
/-- VowBlocks.ask(III)I -/
def f_X6_ask (S : St) (a0 : Nat) (a1 : Int32) (a2 : Int32) (a3 : Int32) : Option ((String ⊕ Int32) × St) :=
  (oO S a0 5).bind fun _ =>
  (f_X6_find S a0 a1).bind fun z3 =>
  Sum.elim (fun E =>
    some (.inl E, S)
  ) (fun x4 =>
  (f_X6_requireQuestion a2 a3).bind fun z6 =>
  Sum.elim (fun E =>
    some (.inl E, S)
  ) (fun _ =>
  (gR S a0 5 1).bind fun x8 =>
  (gR S a0 5 0).bind fun x10 =>
  (oO S x8 2).bind fun _ =>
  (f_X3_save S x8 x10).bind fun z14 =>
  (gI z14 x4 0 5).bind fun x15 =>
  (pI z14 x4 0 5 (x15 + 1)).bind fun Z17 =>
  (gI Z17 x4 0 4).bind fun x19 =>
  (gR Z17 x4 0 0).bind fun x21 =>
  (gI Z17 x4 0 1).bind fun x23 =>
  (f_X1_effort Z17 x21 x23 a2 a3).bind fun x26 =>
  (pI Z17 x4 0 4 (x19 + x26)).bind fun Z27 =>
  (gR Z27 x4 0 0).bind fun x29 =>
  (f_X1_answer Z27 x29 a2 a3).bind fun x32 =>
  some (.inr x32, Z27)
  ) z6
  ) z3
abbrev rm_X6_ask : Room := { frames := 9, cells := 3, slots := 18, locals := 145 }
set_option maxHeartbeats 4000000 in
set_option maxRecDepth 100000 in
theorem m_X6_ask (l : Launch) (hl0 : l.stackTraces = false) (D : va_G) (cy : Nat → ClassId) (sz : Nat) (S : St) (a0 : Nat) (a1 : Int32) (a2 : Int32) (a3 : Int32) (x : String ⊕ Int32) (S1 : St) (h : f_X6_ask S a0 a1 a2 a3 = some (x, S1)) : vx_Met l yX6_ask (wsA yX6_ask cX6_ask 5 (some .int)) rm_X6_ask (va_Pc [.ref a0, .int a1, .int a2, .int a3] (PNX D cy S sz)) (va_Qi (fun r' (_ : Unit) => x = .inr r') (fun _ t => PoS D cy S1 (dm S sz) t) (dm S sz)) (vx_X (fun _ : Unit => True) (fun E _ t => x = .inl E ∧ PoS D cy S1 (dm S sz) t) (dm S sz)) 3 18 (dm S sz) := by
  refine vx_ofW (cc := cX6_ask) (maxL := 5) (ret := (some .int)) (by decide) rfl ?_
  intro p e s m args below meth c s₁ B hml htb hv
  obtain ⟨rfl, hsz, hP, hK, hE⟩ := hv
  have hx := B.exec
  have hb := B.bytes
  have hr := B.returns
  have hts9 := atoms_spec (ws := wsA yX6_ask cX6_ask 5 (some .int)) B.pre
  have hts : ∀ w ∈ ALLW, w.before _ s = true := fun w h => hts9 w (List.mem_cons_of_mem _ h)
  have hown : s.vm.findClass RX6 = some m.cls := findClass_of_methodNamed B.named
  have hlocks := B.notSynchronized
  subst hsz
  have hD : ∀ a, S a ≠ none → dm S s.heap.size a := fun a h => Or.inl h
  have hA : ∀ q : Nat, s.heap.size ≤ q → dm S s.heap.size q := fun q h => Or.inr h
  have hS : va_S (dm S s.heap.size) s.heap s.heap [] := va_S.rf
  have hl := lv_entry [.ref a0, .int a1, .int a2, .int a3] (n := 5) (Nat.le_of_ble_eq_true rfl)
  rw [lg_entry_eq]
  generalize (lg_sl [.ref a0, .int a1, .int a2, .int a3] ++ List.replicate (5 - (lg_sl [.ref a0, .int a1, .int a2, .int a3]).length) Slot.unset).toArray = ls at hl ⊢
  have hl : lv_has ls 5 [(0, .ref a0), (1, .int a1), (2, .int a2), (3, .int a3)] := hl
  rw [f_X6_ask] at h
  refine lv_aload_n hx hb dX6_ask_0 rfl (lv_at hl 0 rfl) ?_
  refine lv_iload_n hx hb dX6_ask_1 rfl (lv_at hl 1 rfl) ?_
  replace h := bd h
  obtain ⟨_, q1, h⟩ := h
  replace h := bd h
  obtain ⟨z3, q2, h⟩ := h
  refine c_X6_find ⟨hx, hb, hml, hown, hts⟩ hl.1 hK hP hS hE hl0 wd_638 ⟨(Nat.le_of_ble_eq_true rfl), (Nat.le_of_ble_eq_true rfl)⟩ q2 q1 (Nat.le_of_ble_eq_true rfl) dX6_ask_2 ⟨(Nat.le_of_ble_eq_true rfl), (Nat.le_of_ble_eq_true rfl)⟩ (fun E ce qx9 H locs hx9 hP hS h1 h2 h3 => ?_) (fun x4 H locs hx9 hP hS => ?_)
  · replace h := sel_l hx9 h
    cases h
    exact o_m (fun x h => (htb x h).elim) hlocks h1 h2 h3 hP hD hS (Nat.le_of_ble_eq_true rfl) (Nat.le_of_ble_eq_true rfl)
  · replace h := sel_r hx9 h
    refine lv_astore (lv' := [(4, .ref x4), (0, .ref a0), (1, .int a1), (2, .int a2), (3, .int a3)]) hx hb dX6_ask_5 hl (by decide) rfl (fun ls hl => ?_)
    refine lv_iload_n hx hb dX6_ask_7 rfl (lv_at hl 3 rfl) ?_
    refine lv_iload_n hx hb dX6_ask_8 rfl (lv_at hl 4 rfl) ?_
    replace h := bd h
    obtain ⟨z6, q5, h⟩ := h
    refine c_X6_requireQuestion ⟨hx, hb, hml, hown, hts⟩ hl.1 hK hP hS hE hl0 wd_759 ⟨(Nat.le_of_ble_eq_true rfl), (Nat.le_of_ble_eq_true rfl)⟩ q5 (Nat.le_of_ble_eq_true rfl) dX6_ask_9 ⟨(Nat.le_of_ble_eq_true rfl), (Nat.le_of_ble_eq_true rfl)⟩ (fun E ce qx9 H locs hx9 hP hS h1 h2 h3 => ?_) (fun H locs hx9 hP hS => ?_)
    · replace h := sel_l hx9 h
      cases h
      exact o_m (fun x h => (htb x h).elim) hlocks h1 h2 h3 hP hD hS (Nat.le_of_ble_eq_true rfl) (Nat.le_of_ble_eq_true rfl)
    · replace h := sel_r hx9 h
      refine lv_aload_n hx hb dX6_ask_12 rfl (lv_at hl 1 rfl) ?_
      replace h := bd h
      obtain ⟨x8, q9, h⟩ := h
      refine fg_5_1 hx hb hts hown hK hP wd_215 q9 dX6_ask_13 ?_
      refine lv_aload_n hx hb dX6_ask_16 rfl (lv_at hl 1 rfl) ?_
      replace h := bd h
      obtain ⟨x10, q11, h⟩ := h
      refine fg_5_0 hx hb hts hown hK hP wd_214 q11 dX6_ask_17 ?_
      replace h := bd h
      obtain ⟨_, q12, h⟩ := h
      replace h := bd h
      obtain ⟨z14, q13, h⟩ := h
      refine c_X3_save ⟨hx, hb, hml, hown, hts⟩ hl.1 hK hP hD hA hS wd_582 ⟨(Nat.le_of_ble_eq_true rfl), (Nat.le_of_ble_eq_true rfl)⟩ q13 q12 (Nat.le_of_ble_eq_true rfl) dX6_ask_20 ⟨(Nat.le_of_ble_eq_true rfl), (Nat.le_of_ble_eq_true rfl)⟩ (fun H locs hP hD hS => ?_)
      refine lv_aload hx hb dX6_ask_23 (lv_at hl 0 rfl) ?_
      refine lv_dup hx hb dX6_ask_25 rfl ?_
      replace h := bd h
      obtain ⟨x15, q16, h⟩ := h
      refine fg_0_5 hx hb hts hown hK hP wd_133 q16 dX6_ask_26 ?_
      refine lv_iconst (v := 1) hx hb dX6_ask_29 (by decide) ?_
      refine lv_iadd hx hb dX6_ask_30 ?_
      replace h := bd h
      obtain ⟨Z17, q18, h⟩ := h
      refine fp_0_5 hx hb hts hown hK hP hD hS wd_133 q18 dX6_ask_31 (fun H locs hz9 hP hD hS => ?_)
      refine lv_aload hx hb dX6_ask_34 (lv_at hl 0 rfl) ?_
      refine lv_dup hx hb dX6_ask_36 rfl ?_
      replace h := bd h
      obtain ⟨x19, q20, h⟩ := h
      refine fg_0_4 hx hb hts hown hK hP wd_131 q20 dX6_ask_37 ?_
      refine lv_aload hx hb dX6_ask_40 (lv_at hl 0 rfl) ?_
      replace h := bd h
      obtain ⟨x21, q22, h⟩ := h
      refine fg_0_0 hx hb hts hown hK hP wd_121 q22 dX6_ask_42 ?_
      refine lv_aload hx hb dX6_ask_45 (lv_at hl 0 rfl) ?_
      replace h := bd h
      obtain ⟨x23, q24, h⟩ := h
      refine fg_0_1 hx hb hts hown hK hP wd_125 q24 dX6_ask_47 ?_
      refine lv_iload_n hx hb dX6_ask_50 rfl (lv_at hl 3 rfl) ?_
      refine lv_iload_n hx hb dX6_ask_51 rfl (lv_at hl 4 rfl) ?_
      replace h := bd h
      obtain ⟨x26, q25, h⟩ := h
      refine c_X1_effort ⟨hx, hb, hml, hown, hts⟩ hl.1 hK hP hS wd_364 ⟨(Nat.le_of_ble_eq_true rfl), (Nat.le_of_ble_eq_true rfl)⟩ q25 (Nat.le_of_ble_eq_true rfl) dX6_ask_52 ⟨(Nat.le_of_ble_eq_true rfl), (Nat.le_of_ble_eq_true rfl)⟩ (fun H locs hP hS => ?_)
      refine lv_iadd hx hb dX6_ask_55 ?_
      replace h := bd h
      obtain ⟨Z27, q28, h⟩ := h
      refine fp_0_4 hx hb hts hown hK hP hD hS wd_131 q28 dX6_ask_56 (fun H locs hz9 hP hD hS => ?_)
      refine lv_aload hx hb dX6_ask_59 (lv_at hl 0 rfl) ?_
      replace h := bd h
      obtain ⟨x29, q30, h⟩ := h
      refine fg_0_0 hx hb hts hown hK hP wd_121 q30 dX6_ask_61 ?_
      refine lv_iload_n hx hb dX6_ask_64 rfl (lv_at hl 3 rfl) ?_
      refine lv_iload_n hx hb dX6_ask_65 rfl (lv_at hl 4 rfl) ?_
      replace h := bd h
      obtain ⟨x32, q31, h⟩ := h
      refine c_X1_answer ⟨hx, hb, hml, hown, hts⟩ hl.1 hK hP hS wd_762 ⟨(Nat.le_of_ble_eq_true rfl), (Nat.le_of_ble_eq_true rfl)⟩ q31 (Nat.le_of_ble_eq_true rfl) dX6_ask_66 ⟨(Nat.le_of_ble_eq_true rfl), (Nat.le_of_ble_eq_true rfl)⟩ (fun H locs hP hS => ?_)
      cases h
      exact e_imx hx hb hlocks hr hP hD hS (Nat.le_of_ble_eq_true rfl) (Nat.le_of_ble_eq_true rfl) dX6_ask_69
set_option maxRecDepth 100000 in
theorem c_X6_ask {p : Program} {l : Launch} {e : Env} {R : Room} {s : State} {m : MethodId} {args : Array Value} {below : List Frame} {meth : Method} {c : Code} {H : Heap} {locs : List Loc} {cells slots : Nat} {Q : State → Prop} {cc : ByteArray} {pc index nL : Nat} {ls : Array Slot} {rest : List Value} {D : va_G} {cy : Nat → ClassId} {A0 : Nat → Prop} {S : St} {own : String} {u : Unit} {a0 : Nat} {a1 : Int32} {a2 : Int32} {a3 : Int32} {x : String ⊕ Int32} {S1 : St}  (hF : CallFix p m c cc nL s args ALLW own) (hsz : ls.size = nL) (hK : va_K D vwCl (tyL cy) s) (hP : SP D cy S H) (hD : ∀ a, S a ≠ none → A0 a) (hA : ∀ q, s.heap.size ≤ q → A0 q) (hS : va_S A0 s.heap H locs) (hE : ENV A0 s) (hl0 : l.stackTraces = false) (hk : Cond.methodLink own index yX6_ask ∈ ALLW) (hR : rm_X6_ask.frames + 1 ≤ R.frames ∧ 8 + (5 + 11) + rm_X6_ask.locals ≤ R.locals) (h : f_X6_ask S a0 a1 a2 a3 = some (x, S1)) (hc : oO S a0 5 = some u) (hW : (rest.map fun v => v.category).sum ≤ 8) (hdg : decode cc pc = .ok (.invokevirtual index, 3)) (hf : cells + 3 ≤ R.cells ∧ slots + 18 ≤ R.slots)
    (kx : ∀ (E : String) (ce : Cell) (q9 : Addr) (H1 : Heap) (locs1 : List Loc), x = .inl E → SP D cy S1 H1 → (∀ a, S1 a ≠ none → A0 a) → va_S A0 s.heap H1 locs1 → H1[q9]? = some ce → ce.vm = .none → s.vm.findClass E = some ce.cls → vx_W p l e R s m args below meth c H1 locs1 (cells + 3) (slots + 18) Q (F0 m pc ls rest) q9)
    (kk : ∀ (r : Int32) (H1 : Heap) (locs1 : List Loc), x = .inr r → SP D cy S1 H1 → (∀ a, S1 a ≠ none → A0 a) → va_S A0 s.heap H1 locs1 → W p l e R s m args below meth c H1 locs1 (cells + 3) (slots + 18) Q (F0 m (pc + 3) ls (.int r :: rest))) : W p l e R s m args below meth c H locs cells slots Q (F0 m pc ls (.int a3 :: .int a2 :: .int a1 :: .ref a0 :: rest)) := by
  exact k_iVmx (As := [.int a1, .int a2, .int a3]) hF hsz (m_X6_ask l hl0 D cy H.size S a0 a1 a2 a3 x S1 h) (cwV_of (n := 3) hF.2.2.2.2 hk wd_756 wd_757 wd_69 wd_758 rfl rfl (by decide +kernel) hR) rfl hK hP hD hA hS hE (ci := 5) hc rfl hW rfl hdg hf kx kk
/-- VowBlocks.settingAt(I)I -/
def f_X6_settingAt (S : St) (a0 : Nat) (a1 : Int32) : Option (String ⊕ Int32) :=
  if a1 = 0 then
    (
      if a1 = 0 then
        (gR S a0 5 0).bind fun x8 =>
        (gI S x8 1 3).bind fun x10 =>
        some x10
      else
        (gR S a0 5 0).bind fun x4 =>
        (gI S x4 1 4).bind fun x6 =>
        some x6
    : Option (Int32)).bind fun t2 =>
    some (.inr t2)
  else
    if a1 = 1 then
      (
        if a1 = 0 then
          (gR S a0 5 0).bind fun x19 =>
          (gI S x19 1 3).bind fun x21 =>
          some x21
        else
          (gR S a0 5 0).bind fun x15 =>
          (gI S x15 1 4).bind fun x17 =>
          some x17
      : Option (Int32)).bind fun t13 =>
      some (.inr t13)
    else
      some (.inl "java/lang/IndexOutOfBoundsException")
abbrev rm_X6_settingAt : Room := { frames := 6, cells := 1, slots := 6, locals := 82 }
set_option maxHeartbeats 4000000 in
set_option maxRecDepth 100000 in
theorem m_X6_settingAt (l : Launch) (hl0 : l.stackTraces = false) (D : va_G) (cy : Nat → ClassId) (S : St) (a0 : Nat) (a1 : Int32) (x : String ⊕ Int32) (h : f_X6_settingAt S a0 a1 = some x) : vx_Met l yX6_settingAt (wsA yX6_settingAt cX6_settingAt 2 (some .int)) rm_X6_settingAt (va_Pc [.ref a0, .int a1] (PSX D cy S)) (va_Qi (fun r' (_ : Unit) => x = .inr r') (fun _ _ => True) noA) (vx_X (fun _ : Unit => True) (fun E _ _ => x = .inl E) noA) 1 6 noA := by
  refine vx_ofW (cc := cX6_settingAt) (maxL := 2) (ret := (some .int)) (by decide) rfl ?_
  intro p e s m args below meth c s₁ B hml htb hv
  obtain ⟨rfl, hP, hK, hE⟩ := hv
  have hx := B.exec
  have hb := B.bytes
  have hr := B.returns
  have hts9 := atoms_spec (ws := wsA yX6_settingAt cX6_settingAt 2 (some .int)) B.pre
  have hts : ∀ w ∈ ALLW, w.before _ s = true := fun w h => hts9 w (List.mem_cons_of_mem _ h)
  have hown : s.vm.findClass RX6 = some m.cls := findClass_of_methodNamed B.named
  have hlocks := B.notSynchronized
  have hS : va_S noA s.heap s.heap [] := va_S.rf
  have hl := lv_entry [.ref a0, .int a1] (n := 2) (Nat.le_of_ble_eq_true rfl)
  rw [lg_entry_eq]
  generalize (lg_sl [.ref a0, .int a1] ++ List.replicate (2 - (lg_sl [.ref a0, .int a1]).length) Slot.unset).toArray = ls at hl ⊢
  have hl : lv_has ls 2 [(0, .ref a0), (1, .int a1)] := hl
  rw [f_X6_settingAt] at h
  refine lv_iload_n hx hb dX6_settingAt_0 rfl (lv_at hl 1 rfl) ?_
  refine lv_if_eq (tgt := 20) hx hb dX6_settingAt_1 (by decide) (fun c1 => ?_) (fun c1 => ?_)
  · replace h := ifp c1 h
    refine lv_iload_n hx hb dX6_settingAt_20 rfl (lv_at hl 1 rfl) ?_
    replace h := bd h
    obtain ⟨t2, ht, h⟩ := h
    have K2 : ∀ (H : Heap) (locs : List Loc) (ls : Array Slot), SP D cy S H → va_S noA s.heap H locs → lv_has ls 2 [] → W p l e rm_X6_settingAt s m ([.ref a0, .int a1] : List Value).toArray below meth c H locs 0 0 (vx_MQ below (va_Qi (fun r' (_ : Unit) => x = .inr r') (fun _ _ => True) noA) (vx_X (fun _ : Unit => True) (fun E _ _ => x = .inl E) noA) ([.ref a0, .int a1] : List Value).toArray s 1 6 noA) (F0 m 41 ls [.int t2]) := by
      intro H locs ls hP hS hl
      cases h
      exact e_ipx hx hb hlocks hr hS (Nat.le_of_ble_eq_true rfl) (Nat.le_of_ble_eq_true rfl) dX6_settingAt_41
    replace h := ht
    refine lv_if_ne (tgt := 34) hx hb dX6_settingAt_21 (by decide) (fun c3 => ?_) (fun c3 => ?_)
    · replace h := ifn c3 h
      refine lv_aload_n hx hb dX6_settingAt_34 rfl (lv_at hl 0 rfl) ?_
      replace h := bd h
      obtain ⟨x4, q5, h⟩ := h
      refine fg_5_0 hx hb hts hown hK hP wd_214 q5 dX6_settingAt_35 ?_
      replace h := bd h
      obtain ⟨x6, q7, h⟩ := h
      refine fg_1_4 hx hb hts hown hK hP wd_162 q7 dX6_settingAt_38 ?_
      cases h
      exact K2 _ _ _ hP hS (lv_sub hl [] rfl)
    · replace h := ifp c3 h
      refine lv_aload_n hx hb dX6_settingAt_24 rfl (lv_at hl 0 rfl) ?_
      replace h := bd h
      obtain ⟨x8, q9, h⟩ := h
      refine fg_5_0 hx hb hts hown hK hP wd_214 q9 dX6_settingAt_25 ?_
      replace h := bd h
      obtain ⟨x10, q11, h⟩ := h
      refine fg_1_3 hx hb hts hown hK hP wd_160 q11 dX6_settingAt_28 ?_
      refine lv_goto (tgt := 41) hx hb dX6_settingAt_31 (by decide) ?_
      cases h
      exact K2 _ _ _ hP hS (lv_sub hl [] rfl)
  · replace h := ifn c1 h
    refine lv_iload_n hx hb dX6_settingAt_4 rfl (lv_at hl 1 rfl) ?_
    refine lv_iconst (v := 1) hx hb dX6_settingAt_5 (by decide) ?_
    refine lv_icmp_eq (tgt := 20) hx hb dX6_settingAt_6 (by decide) (fun c12 => ?_) (fun c12 => ?_)
    · replace h := ifp c12 h
      refine lv_iload_n hx hb dX6_settingAt_20 rfl (lv_at hl 1 rfl) ?_
      replace h := bd h
      obtain ⟨t13, ht, h⟩ := h
      have K13 : ∀ (H : Heap) (locs : List Loc) (ls : Array Slot), SP D cy S H → va_S noA s.heap H locs → lv_has ls 2 [] → W p l e rm_X6_settingAt s m ([.ref a0, .int a1] : List Value).toArray below meth c H locs 0 0 (vx_MQ below (va_Qi (fun r' (_ : Unit) => x = .inr r') (fun _ _ => True) noA) (vx_X (fun _ : Unit => True) (fun E _ _ => x = .inl E) noA) ([.ref a0, .int a1] : List Value).toArray s 1 6 noA) (F0 m 41 ls [.int t13]) := by
        intro H locs ls hP hS hl
        cases h
        exact e_ipx hx hb hlocks hr hS (Nat.le_of_ble_eq_true rfl) (Nat.le_of_ble_eq_true rfl) dX6_settingAt_41
      replace h := ht
      refine lv_if_ne (tgt := 34) hx hb dX6_settingAt_21 (by decide) (fun c14 => ?_) (fun c14 => ?_)
      · replace h := ifn c14 h
        refine lv_aload_n hx hb dX6_settingAt_34 rfl (lv_at hl 0 rfl) ?_
        replace h := bd h
        obtain ⟨x15, q16, h⟩ := h
        refine fg_5_0 hx hb hts hown hK hP wd_214 q16 dX6_settingAt_35 ?_
        replace h := bd h
        obtain ⟨x17, q18, h⟩ := h
        refine fg_1_4 hx hb hts hown hK hP wd_162 q18 dX6_settingAt_38 ?_
        cases h
        exact K13 _ _ _ hP hS (lv_sub hl [] rfl)
      · replace h := ifp c14 h
        refine lv_aload_n hx hb dX6_settingAt_24 rfl (lv_at hl 0 rfl) ?_
        replace h := bd h
        obtain ⟨x19, q20, h⟩ := h
        refine fg_5_0 hx hb hts hown hK hP wd_214 q20 dX6_settingAt_25 ?_
        replace h := bd h
        obtain ⟨x21, q22, h⟩ := h
        refine fg_1_3 hx hb hts hown hK hP wd_160 q22 dX6_settingAt_28 ?_
        refine lv_goto (tgt := 41) hx hb dX6_settingAt_31 (by decide) ?_
        cases h
        exact K13 _ _ _ hP hS (lv_sub hl [] rfl)
    · replace h := ifn c12 h
      cases h
      exact tX6_IndexOutOfBoundsExceptionWp hx hb hl0 hown hts hE hS (hl.1.trans hml.symm) dX6_settingAt_9 dX6_settingAt_12 dX6_settingAt_13 dX6_settingAt_16 dX6_settingAt_19 (fun x h => (htb x h).elim) (Nat.le_of_ble_eq_true rfl) (Nat.le_of_ble_eq_true rfl) (Nat.le_of_ble_eq_true rfl) (Nat.le_of_ble_eq_true rfl) hlocks (Nat.le_of_ble_eq_true rfl) (Nat.le_of_ble_eq_true rfl) (text := "no such setting") (is := 270) (by decide +kernel)
set_option maxRecDepth 100000 in
theorem c_X6_settingAt {p : Program} {l : Launch} {e : Env} {R : Room} {s : State} {m : MethodId} {args : Array Value} {below : List Frame} {meth : Method} {c : Code} {H : Heap} {locs : List Loc} {cells slots : Nat} {Q : State → Prop} {cc : ByteArray} {pc index nL : Nat} {ls : Array Slot} {rest : List Value} {D : va_G} {cy : Nat → ClassId} {A0 : Nat → Prop} {S : St} {own : String} {u : Unit} {a0 : Nat} {a1 : Int32} {x : String ⊕ Int32}  (hF : CallFix p m c cc nL s args ALLW own) (hsz : ls.size = nL) (hK : va_K D vwCl (tyL cy) s) (hP : SP D cy S H) (hS : va_S A0 s.heap H locs) (hE : ENV A0 s) (hl0 : l.stackTraces = false) (hk : Cond.methodLink own index yX6_settingAt ∈ ALLW) (hR : rm_X6_settingAt.frames + 1 ≤ R.frames ∧ 8 + (2 + 11) + rm_X6_settingAt.locals ≤ R.locals) (h : f_X6_settingAt S a0 a1 = some x) (hc : oO S a0 5 = some u) (hW : (rest.map fun v => v.category).sum ≤ 8) (hdg : decode cc pc = .ok (.invokevirtual index, 3)) (hf : cells + 1 ≤ R.cells ∧ slots + 6 ≤ R.slots)
    (kx : ∀ (E : String) (ce : Cell) (q9 : Addr) (H1 : Heap) (locs1 : List Loc), x = .inl E → SP D cy S H1 → va_S A0 s.heap H1 locs1 → H1[q9]? = some ce → ce.vm = .none → s.vm.findClass E = some ce.cls → vx_W p l e R s m args below meth c H1 locs1 (cells + 1) (slots + 6) Q (F0 m pc ls rest) q9)
    (kk : ∀ (r : Int32) (H1 : Heap) (locs1 : List Loc), x = .inr r → SP D cy S H1 → va_S A0 s.heap H1 locs1 → W p l e R s m args below meth c H1 locs1 (cells + 1) (slots + 6) Q (F0 m (pc + 3) ls (.int r :: rest))) : W p l e R s m args below meth c H locs cells slots Q (F0 m pc ls (.int a1 :: .ref a0 :: rest)) := by
  exact k_iVpx (As := [.int a1]) hF hsz (m_X6_settingAt l hl0 D cy S a0 a1 x h) (cwV_of (n := 1) hF.2.2.2.2 hk wd_779 wd_18 wd_69 wd_780 rfl rfl (by decide +kernel) hR) rfl hK hP hS hE (ci := 5) hc rfl hW rfl hdg hf kx kk
/-- VowBlocks.set(II)I -/
def f_X6_set (S : St) (a0 : Nat) (a1 : Int32) (a2 : Int32) : Option ((String ⊕ Int32) × St) :=
  (oO S a0 5).bind fun _ =>
  (f_X6_settingAt S a0 a1).bind fun z3 =>
  Sum.elim (fun E =>
    some (.inl E, S)
  ) (fun x4 =>
  if a1 = 0 then
    (f_X6_requireWithin a2 1 400).bind fun z27 =>
    Sum.elim (fun E =>
      some (.inl E, S)
    ) (fun _ =>
    (gR S a0 5 1).bind fun x29 =>
    (gR S a0 5 0).bind fun x31 =>
    (oO S x29 2).bind fun _ =>
    (f_X3_save S x29 x31).bind fun z35 =>
    (
      if a1 = 0 then
        (gR z35 a0 5 0).bind fun x42 =>
        (pI z35 x42 1 3 a2).bind fun Z44 =>
        some Z44
      else
        (gR z35 a0 5 0).bind fun x38 =>
        (pI z35 x38 1 4 a2).bind fun Z40 =>
        some Z40
    : Option (St)).bind fun t36 =>
    some (.inr x4, t36)
    ) z27
  else
    (f_X6_requireWithin a2 0 100).bind fun z7 =>
    Sum.elim (fun E =>
      some (.inl E, S)
    ) (fun _ =>
    (gR S a0 5 1).bind fun x9 =>
    (gR S a0 5 0).bind fun x11 =>
    (oO S x9 2).bind fun _ =>
    (f_X3_save S x9 x11).bind fun z15 =>
    (
      if a1 = 0 then
        (gR z15 a0 5 0).bind fun x22 =>
        (pI z15 x22 1 3 a2).bind fun Z24 =>
        some Z24
      else
        (gR z15 a0 5 0).bind fun x18 =>
        (pI z15 x18 1 4 a2).bind fun Z20 =>
        some Z20
    : Option (St)).bind fun t16 =>
    some (.inr x4, t16)
    ) z7
  ) z3
abbrev rm_X6_set : Room := { frames := 7, cells := 2, slots := 12, locals := 104 }
set_option maxHeartbeats 4000000 in
set_option maxRecDepth 100000 in
theorem m_X6_set (l : Launch) (hl0 : l.stackTraces = false) (D : va_G) (cy : Nat → ClassId) (sz : Nat) (S : St) (a0 : Nat) (a1 : Int32) (a2 : Int32) (x : String ⊕ Int32) (S1 : St) (h : f_X6_set S a0 a1 a2 = some (x, S1)) : vx_Met l yX6_set (wsA yX6_set cX6_set 4 (some .int)) rm_X6_set (va_Pc [.ref a0, .int a1, .int a2] (PNX D cy S sz)) (va_Qi (fun r' (_ : Unit) => x = .inr r') (fun _ t => PoS D cy S1 (dm S sz) t) (dm S sz)) (vx_X (fun _ : Unit => True) (fun E _ t => x = .inl E ∧ PoS D cy S1 (dm S sz) t) (dm S sz)) 2 12 (dm S sz) := by
  refine vx_ofW (cc := cX6_set) (maxL := 4) (ret := (some .int)) (by decide) rfl ?_
  intro p e s m args below meth c s₁ B hml htb hv
  obtain ⟨rfl, hsz, hP, hK, hE⟩ := hv
  have hx := B.exec
  have hb := B.bytes
  have hr := B.returns
  have hts9 := atoms_spec (ws := wsA yX6_set cX6_set 4 (some .int)) B.pre
  have hts : ∀ w ∈ ALLW, w.before _ s = true := fun w h => hts9 w (List.mem_cons_of_mem _ h)
  have hown : s.vm.findClass RX6 = some m.cls := findClass_of_methodNamed B.named
  have hlocks := B.notSynchronized
  subst hsz
  have hD : ∀ a, S a ≠ none → dm S s.heap.size a := fun a h => Or.inl h
  have hA : ∀ q : Nat, s.heap.size ≤ q → dm S s.heap.size q := fun q h => Or.inr h
  have hS : va_S (dm S s.heap.size) s.heap s.heap [] := va_S.rf
  have hl := lv_entry [.ref a0, .int a1, .int a2] (n := 4) (Nat.le_of_ble_eq_true rfl)
  rw [lg_entry_eq]
  generalize (lg_sl [.ref a0, .int a1, .int a2] ++ List.replicate (4 - (lg_sl [.ref a0, .int a1, .int a2]).length) Slot.unset).toArray = ls at hl ⊢
  have hl : lv_has ls 4 [(0, .ref a0), (1, .int a1), (2, .int a2)] := hl
  rw [f_X6_set] at h
  refine lv_aload_n hx hb dX6_set_0 rfl (lv_at hl 0 rfl) ?_
  refine lv_iload_n hx hb dX6_set_1 rfl (lv_at hl 1 rfl) ?_
  replace h := bd h
  obtain ⟨_, q1, h⟩ := h
  replace h := bd h
  obtain ⟨z3, q2, h⟩ := h
  refine c_X6_settingAt ⟨hx, hb, hml, hown, hts⟩ hl.1 hK hP hS hE hl0 wd_777 ⟨(Nat.le_of_ble_eq_true rfl), (Nat.le_of_ble_eq_true rfl)⟩ q2 q1 (Nat.le_of_ble_eq_true rfl) dX6_set_2 ⟨(Nat.le_of_ble_eq_true rfl), (Nat.le_of_ble_eq_true rfl)⟩ (fun E ce qx9 H locs hx9 hP hS h1 h2 h3 => ?_) (fun x4 H locs hx9 hP hS => ?_)
  · replace h := sel_l hx9 h
    cases h
    exact o_m (fun x h => (htb x h).elim) hlocks h1 h2 h3 hP hD hS (Nat.le_of_ble_eq_true rfl) (Nat.le_of_ble_eq_true rfl)
  · replace h := sel_r hx9 h
    refine lv_istore_n (lv' := [(3, .int x4), (0, .ref a0), (1, .int a1), (2, .int a2)]) hx hb dX6_set_5 rfl hl (by decide) rfl (fun ls hl => ?_)
    refine lv_iload_n hx hb dX6_set_6 rfl (lv_at hl 2 rfl) ?_
    refine lv_if_ne (tgt := 21) hx hb dX6_set_7 (by decide) (fun c5 => ?_) (fun c5 => ?_)
    · replace h := ifn c5 h
      refine lv_iload_n hx hb dX6_set_21 rfl (lv_at hl 3 rfl) ?_
      refine lv_iconst (v := 0) hx hb dX6_set_22 (by decide) ?_
      refine lv_bipush (v := 100) hx hb dX6_set_23 (by decide) ?_
      replace h := bd h
      obtain ⟨z7, q6, h⟩ := h
      refine c_X6_requireWithin ⟨hx, hb, hml, hown, hts⟩ hl.1 hK hP hS hE hl0 wd_482 ⟨(Nat.le_of_ble_eq_true rfl), (Nat.le_of_ble_eq_true rfl)⟩ q6 (Nat.le_of_ble_eq_true rfl) dX6_set_25 ⟨(Nat.le_of_ble_eq_true rfl), (Nat.le_of_ble_eq_true rfl)⟩ (fun E ce qx9 H locs hx9 hP hS h1 h2 h3 => ?_) (fun H locs hx9 hP hS => ?_)
      · replace h := sel_l hx9 h
        cases h
        exact o_m (fun x h => (htb x h).elim) hlocks h1 h2 h3 hP hD hS (Nat.le_of_ble_eq_true rfl) (Nat.le_of_ble_eq_true rfl)
      · replace h := sel_r hx9 h
        refine lv_aload_n hx hb dX6_set_28 rfl (lv_at hl 1 rfl) ?_
        replace h := bd h
        obtain ⟨x9, q10, h⟩ := h
        refine fg_5_1 hx hb hts hown hK hP wd_215 q10 dX6_set_29 ?_
        refine lv_aload_n hx hb dX6_set_32 rfl (lv_at hl 1 rfl) ?_
        replace h := bd h
        obtain ⟨x11, q12, h⟩ := h
        refine fg_5_0 hx hb hts hown hK hP wd_214 q12 dX6_set_33 ?_
        replace h := bd h
        obtain ⟨_, q13, h⟩ := h
        replace h := bd h
        obtain ⟨z15, q14, h⟩ := h
        refine c_X3_save ⟨hx, hb, hml, hown, hts⟩ hl.1 hK hP hD hA hS wd_582 ⟨(Nat.le_of_ble_eq_true rfl), (Nat.le_of_ble_eq_true rfl)⟩ q14 q13 (Nat.le_of_ble_eq_true rfl) dX6_set_36 ⟨(Nat.le_of_ble_eq_true rfl), (Nat.le_of_ble_eq_true rfl)⟩ (fun H locs hP hD hS => ?_)
        refine lv_iload_n hx hb dX6_set_39 rfl (lv_at hl 2 rfl) ?_
        replace h := bd h
        obtain ⟨t16, ht, h⟩ := h
        have K16 : ∀ (H : Heap) (locs : List Loc) (ls : Array Slot), SP D cy t16 H → (∀ a, t16 a ≠ none → (dm S s.heap.size) a) → va_S (dm S s.heap.size) s.heap H locs → lv_has ls 4 [(3, .int x4)] → W p l e rm_X6_set s m ([.ref a0, .int a1, .int a2] : List Value).toArray below meth c H locs 2 12 (vx_MQ below (va_Qi (fun r' (_ : Unit) => x = .inr r') (fun _ t => PoS D cy S1 (dm S s.heap.size) t) (dm S s.heap.size)) (vx_X (fun _ : Unit => True) (fun E _ t => x = .inl E ∧ PoS D cy S1 (dm S s.heap.size) t) (dm S s.heap.size)) ([.ref a0, .int a1, .int a2] : List Value).toArray s 2 12 (dm S s.heap.size)) (F0 m 62 ls []) := by
          intro H locs ls hP hD hS hl
          refine lv_iload_n hx hb dX6_set_62 rfl (lv_at hl 0 rfl) ?_
          cases h
          exact e_imx hx hb hlocks hr hP hD hS (Nat.le_of_ble_eq_true rfl) (Nat.le_of_ble_eq_true rfl) dX6_set_63
        replace h := ht
        refine lv_if_ne (tgt := 54) hx hb dX6_set_40 (by decide) (fun c17 => ?_) (fun c17 => ?_)
        · replace h := ifn c17 h
          refine lv_aload_n hx hb dX6_set_54 rfl (lv_at hl 1 rfl) ?_
          replace h := bd h
          obtain ⟨x18, q19, h⟩ := h
          refine fg_5_0 hx hb hts hown hK hP wd_214 q19 dX6_set_55 ?_
          refine lv_iload_n hx hb dX6_set_58 rfl (lv_at hl 3 rfl) ?_
          replace h := bd h
          obtain ⟨Z20, q21, h⟩ := h
          refine fp_1_4 hx hb hts hown hK hP hD hS wd_162 q21 dX6_set_59 (fun H locs hz9 hP hD hS => ?_)
          cases h
          exact K16 _ _ _ hP hD hS (lv_sub hl [0] rfl)
        · replace h := ifp c17 h
          refine lv_aload_n hx hb dX6_set_43 rfl (lv_at hl 1 rfl) ?_
          replace h := bd h
          obtain ⟨x22, q23, h⟩ := h
          refine fg_5_0 hx hb hts hown hK hP wd_214 q23 dX6_set_44 ?_
          refine lv_iload_n hx hb dX6_set_47 rfl (lv_at hl 3 rfl) ?_
          replace h := bd h
          obtain ⟨Z24, q25, h⟩ := h
          refine fp_1_3 hx hb hts hown hK hP hD hS wd_160 q25 dX6_set_48 (fun H locs hz9 hP hD hS => ?_)
          refine lv_goto (tgt := 62) hx hb dX6_set_51 (by decide) ?_
          cases h
          exact K16 _ _ _ hP hD hS (lv_sub hl [0] rfl)
    · replace h := ifp c5 h
      refine lv_iload_n hx hb dX6_set_10 rfl (lv_at hl 3 rfl) ?_
      refine lv_iconst (v := 1) hx hb dX6_set_11 (by decide) ?_
      refine lv_sipush (v := 400) hx hb dX6_set_12 (by decide) ?_
      replace h := bd h
      obtain ⟨z27, q26, h⟩ := h
      refine c_X6_requireWithin ⟨hx, hb, hml, hown, hts⟩ hl.1 hK hP hS hE hl0 wd_482 ⟨(Nat.le_of_ble_eq_true rfl), (Nat.le_of_ble_eq_true rfl)⟩ q26 (Nat.le_of_ble_eq_true rfl) dX6_set_15 ⟨(Nat.le_of_ble_eq_true rfl), (Nat.le_of_ble_eq_true rfl)⟩ (fun E ce qx9 H locs hx9 hP hS h1 h2 h3 => ?_) (fun H locs hx9 hP hS => ?_)
      · replace h := sel_l hx9 h
        cases h
        exact o_m (fun x h => (htb x h).elim) hlocks h1 h2 h3 hP hD hS (Nat.le_of_ble_eq_true rfl) (Nat.le_of_ble_eq_true rfl)
      · replace h := sel_r hx9 h
        refine lv_goto (tgt := 28) hx hb dX6_set_18 (by decide) ?_
        refine lv_aload_n hx hb dX6_set_28 rfl (lv_at hl 1 rfl) ?_
        replace h := bd h
        obtain ⟨x29, q30, h⟩ := h
        refine fg_5_1 hx hb hts hown hK hP wd_215 q30 dX6_set_29 ?_
        refine lv_aload_n hx hb dX6_set_32 rfl (lv_at hl 1 rfl) ?_
        replace h := bd h
        obtain ⟨x31, q32, h⟩ := h
        refine fg_5_0 hx hb hts hown hK hP wd_214 q32 dX6_set_33 ?_
        replace h := bd h
        obtain ⟨_, q33, h⟩ := h
        replace h := bd h
        obtain ⟨z35, q34, h⟩ := h
        refine c_X3_save ⟨hx, hb, hml, hown, hts⟩ hl.1 hK hP hD hA hS wd_582 ⟨(Nat.le_of_ble_eq_true rfl), (Nat.le_of_ble_eq_true rfl)⟩ q34 q33 (Nat.le_of_ble_eq_true rfl) dX6_set_36 ⟨(Nat.le_of_ble_eq_true rfl), (Nat.le_of_ble_eq_true rfl)⟩ (fun H locs hP hD hS => ?_)
        refine lv_iload_n hx hb dX6_set_39 rfl (lv_at hl 2 rfl) ?_
        replace h := bd h
        obtain ⟨t36, ht, h⟩ := h
        have K36 : ∀ (H : Heap) (locs : List Loc) (ls : Array Slot), SP D cy t36 H → (∀ a, t36 a ≠ none → (dm S s.heap.size) a) → va_S (dm S s.heap.size) s.heap H locs → lv_has ls 4 [(3, .int x4)] → W p l e rm_X6_set s m ([.ref a0, .int a1, .int a2] : List Value).toArray below meth c H locs 2 12 (vx_MQ below (va_Qi (fun r' (_ : Unit) => x = .inr r') (fun _ t => PoS D cy S1 (dm S s.heap.size) t) (dm S s.heap.size)) (vx_X (fun _ : Unit => True) (fun E _ t => x = .inl E ∧ PoS D cy S1 (dm S s.heap.size) t) (dm S s.heap.size)) ([.ref a0, .int a1, .int a2] : List Value).toArray s 2 12 (dm S s.heap.size)) (F0 m 62 ls []) := by
          intro H locs ls hP hD hS hl
          refine lv_iload_n hx hb dX6_set_62 rfl (lv_at hl 0 rfl) ?_
          cases h
          exact e_imx hx hb hlocks hr hP hD hS (Nat.le_of_ble_eq_true rfl) (Nat.le_of_ble_eq_true rfl) dX6_set_63
        replace h := ht
        refine lv_if_ne (tgt := 54) hx hb dX6_set_40 (by decide) (fun c37 => ?_) (fun c37 => ?_)
        · replace h := ifn c37 h
          refine lv_aload_n hx hb dX6_set_54 rfl (lv_at hl 1 rfl) ?_
          replace h := bd h
          obtain ⟨x38, q39, h⟩ := h
          refine fg_5_0 hx hb hts hown hK hP wd_214 q39 dX6_set_55 ?_
          refine lv_iload_n hx hb dX6_set_58 rfl (lv_at hl 3 rfl) ?_
          replace h := bd h
          obtain ⟨Z40, q41, h⟩ := h
          refine fp_1_4 hx hb hts hown hK hP hD hS wd_162 q41 dX6_set_59 (fun H locs hz9 hP hD hS => ?_)
          cases h
          exact K36 _ _ _ hP hD hS (lv_sub hl [0] rfl)
        · replace h := ifp c37 h
          refine lv_aload_n hx hb dX6_set_43 rfl (lv_at hl 1 rfl) ?_
          replace h := bd h
          obtain ⟨x42, q43, h⟩ := h
          refine fg_5_0 hx hb hts hown hK hP wd_214 q43 dX6_set_44 ?_
          refine lv_iload_n hx hb dX6_set_47 rfl (lv_at hl 3 rfl) ?_
          replace h := bd h
          obtain ⟨Z44, q45, h⟩ := h
          refine fp_1_3 hx hb hts hown hK hP hD hS wd_160 q45 dX6_set_48 (fun H locs hz9 hP hD hS => ?_)
          refine lv_goto (tgt := 62) hx hb dX6_set_51 (by decide) ?_
          cases h
          exact K36 _ _ _ hP hD hS (lv_sub hl [0] rfl)
set_option maxRecDepth 100000 in
theorem c_X6_set {p : Program} {l : Launch} {e : Env} {R : Room} {s : State} {m : MethodId} {args : Array Value} {below : List Frame} {meth : Method} {c : Code} {H : Heap} {locs : List Loc} {cells slots : Nat} {Q : State → Prop} {cc : ByteArray} {pc index nL : Nat} {ls : Array Slot} {rest : List Value} {D : va_G} {cy : Nat → ClassId} {A0 : Nat → Prop} {S : St} {own : String} {u : Unit} {a0 : Nat} {a1 : Int32} {a2 : Int32} {x : String ⊕ Int32} {S1 : St}  (hF : CallFix p m c cc nL s args ALLW own) (hsz : ls.size = nL) (hK : va_K D vwCl (tyL cy) s) (hP : SP D cy S H) (hD : ∀ a, S a ≠ none → A0 a) (hA : ∀ q, s.heap.size ≤ q → A0 q) (hS : va_S A0 s.heap H locs) (hE : ENV A0 s) (hl0 : l.stackTraces = false) (hk : Cond.methodLink own index yX6_set ∈ ALLW) (hR : rm_X6_set.frames + 1 ≤ R.frames ∧ 8 + (4 + 11) + rm_X6_set.locals ≤ R.locals) (h : f_X6_set S a0 a1 a2 = some (x, S1)) (hc : oO S a0 5 = some u) (hW : (rest.map fun v => v.category).sum ≤ 8) (hdg : decode cc pc = .ok (.invokevirtual index, 3)) (hf : cells + 2 ≤ R.cells ∧ slots + 12 ≤ R.slots)
    (kx : ∀ (E : String) (ce : Cell) (q9 : Addr) (H1 : Heap) (locs1 : List Loc), x = .inl E → SP D cy S1 H1 → (∀ a, S1 a ≠ none → A0 a) → va_S A0 s.heap H1 locs1 → H1[q9]? = some ce → ce.vm = .none → s.vm.findClass E = some ce.cls → vx_W p l e R s m args below meth c H1 locs1 (cells + 2) (slots + 12) Q (F0 m pc ls rest) q9)
    (kk : ∀ (r : Int32) (H1 : Heap) (locs1 : List Loc), x = .inr r → SP D cy S1 H1 → (∀ a, S1 a ≠ none → A0 a) → va_S A0 s.heap H1 locs1 → W p l e R s m args below meth c H1 locs1 (cells + 2) (slots + 12) Q (F0 m (pc + 3) ls (.int r :: rest))) : W p l e R s m args below meth c H locs cells slots Q (F0 m pc ls (.int a2 :: .int a1 :: .ref a0 :: rest)) := by
  exact k_iVmx (As := [.int a1, .int a2]) hF hsz (m_X6_set l hl0 D cy H.size S a0 a1 a2 x S1 h) (cwV_of (n := 2) hF.2.2.2.2 hk wd_774 wd_775 wd_69 wd_776 rfl rfl (by decide +kernel) hR) rfl hK hP hD hA hS hE (ci := 5) hc rfl hW rfl hdg hf kx kk
/-- VowBlocks.append(I)I -/
def f_X6_append (S : St) (a0 : Nat) (a1 : Int32) : Option ((String ⊕ Int32) × St) :=
  (f_X6_requireWithin a1 33 126).bind fun z2 =>
  Sum.elim (fun E =>
    some (.inl E, S)
  ) (fun _ =>
  (gR S a0 5 2).bind fun x4 =>
  (oO S x4 4).bind fun _ =>
  (f_X5_isFull S x4).bind fun x8 =>
  if x8 = 0 then
    (gR S a0 5 2).bind fun x10 =>
    (oO S x10 4).bind fun _ =>
    (f_X5_push S x10 a1).bind fun z14 =>
    (gR z14 a0 5 2).bind fun x15 =>
    (oO z14 x15 4).bind fun _ =>
    (f_X5_length z14 x15).bind fun x19 =>
    some (.inr x19, z14)
  else
    some (.inl "java/lang/IllegalStateException", S)
  ) z2
abbrev rm_X6_append : Room := { frames := 7, cells := 2, slots := 12, locals := 104 }
set_option maxHeartbeats 4000000 in
set_option maxRecDepth 100000 in
theorem m_X6_append (l : Launch) (hl0 : l.stackTraces = false) (D : va_G) (cy : Nat → ClassId) (sz : Nat) (S : St) (a0 : Nat) (a1 : Int32) (x : String ⊕ Int32) (S1 : St) (h : f_X6_append S a0 a1 = some (x, S1)) : vx_Met l yX6_append (wsA yX6_append cX6_append 2 (some .int)) rm_X6_append (va_Pc [.ref a0, .int a1] (PNX D cy S sz)) (va_Qi (fun r' (_ : Unit) => x = .inr r') (fun _ t => PoS D cy S1 (dm S sz) t) (dm S sz)) (vx_X (fun _ : Unit => True) (fun E _ t => x = .inl E ∧ PoS D cy S1 (dm S sz) t) (dm S sz)) 2 12 (dm S sz) := by
  refine vx_ofW (cc := cX6_append) (maxL := 2) (ret := (some .int)) (by decide) rfl ?_
  intro p e s m args below meth c s₁ B hml htb hv
  obtain ⟨rfl, hsz, hP, hK, hE⟩ := hv
  have hx := B.exec
  have hb := B.bytes
  have hr := B.returns
  have hts9 := atoms_spec (ws := wsA yX6_append cX6_append 2 (some .int)) B.pre
  have hts : ∀ w ∈ ALLW, w.before _ s = true := fun w h => hts9 w (List.mem_cons_of_mem _ h)
  have hown : s.vm.findClass RX6 = some m.cls := findClass_of_methodNamed B.named
  have hlocks := B.notSynchronized
  subst hsz
  have hD : ∀ a, S a ≠ none → dm S s.heap.size a := fun a h => Or.inl h
  have hA : ∀ q : Nat, s.heap.size ≤ q → dm S s.heap.size q := fun q h => Or.inr h
  have hS : va_S (dm S s.heap.size) s.heap s.heap [] := va_S.rf
  have hl := lv_entry [.ref a0, .int a1] (n := 2) (Nat.le_of_ble_eq_true rfl)
  rw [lg_entry_eq]
  generalize (lg_sl [.ref a0, .int a1] ++ List.replicate (2 - (lg_sl [.ref a0, .int a1]).length) Slot.unset).toArray = ls at hl ⊢
  have hl : lv_has ls 2 [(0, .ref a0), (1, .int a1)] := hl
  rw [f_X6_append] at h
  refine lv_iload_n hx hb dX6_append_0 rfl (lv_at hl 1 rfl) ?_
  refine lv_bipush (v := 33) hx hb dX6_append_1 (by decide) ?_
  refine lv_bipush (v := 126) hx hb dX6_append_3 (by decide) ?_
  replace h := bd h
  obtain ⟨z2, q1, h⟩ := h
  refine c_X6_requireWithin ⟨hx, hb, hml, hown, hts⟩ hl.1 hK hP hS hE hl0 wd_482 ⟨(Nat.le_of_ble_eq_true rfl), (Nat.le_of_ble_eq_true rfl)⟩ q1 (Nat.le_of_ble_eq_true rfl) dX6_append_5 ⟨(Nat.le_of_ble_eq_true rfl), (Nat.le_of_ble_eq_true rfl)⟩ (fun E ce qx9 H locs hx9 hP hS h1 h2 h3 => ?_) (fun H locs hx9 hP hS => ?_)
  · replace h := sel_l hx9 h
    cases h
    exact o_m (fun x h => (htb x h).elim) hlocks h1 h2 h3 hP hD hS (Nat.le_of_ble_eq_true rfl) (Nat.le_of_ble_eq_true rfl)
  · replace h := sel_r hx9 h
    refine lv_aload_n hx hb dX6_append_8 rfl (lv_at hl 0 rfl) ?_
    replace h := bd h
    obtain ⟨x4, q5, h⟩ := h
    refine fg_5_2 hx hb hts hown hK hP wd_216 q5 dX6_append_9 ?_
    replace h := bd h
    obtain ⟨_, q6, h⟩ := h
    replace h := bd h
    obtain ⟨x8, q7, h⟩ := h
    refine c_X5_isFull ⟨hx, hb, hml, hown, hts⟩ hl.1 hK hP hS wd_789 ⟨(Nat.le_of_ble_eq_true rfl), (Nat.le_of_ble_eq_true rfl)⟩ q7 q6 (Nat.le_of_ble_eq_true rfl) dX6_append_12 ⟨(Nat.le_of_ble_eq_true rfl), (Nat.le_of_ble_eq_true rfl)⟩ (fun H locs hP hS => ?_)
    refine lv_if_eq (tgt := 28) hx hb dX6_append_15 (by decide) (fun c9 => ?_) (fun c9 => ?_)
    · replace h := ifp c9 h
      refine lv_aload_n hx hb dX6_append_28 rfl (lv_at hl 0 rfl) ?_
      replace h := bd h
      obtain ⟨x10, q11, h⟩ := h
      refine fg_5_2 hx hb hts hown hK hP wd_216 q11 dX6_append_29 ?_
      refine lv_iload_n hx hb dX6_append_32 rfl (lv_at hl 1 rfl) ?_
      replace h := bd h
      obtain ⟨_, q12, h⟩ := h
      replace h := bd h
      obtain ⟨z14, q13, h⟩ := h
      refine c_X5_push ⟨hx, hb, hml, hown, hts⟩ hl.1 hK hP hD hA hS wd_794 ⟨(Nat.le_of_ble_eq_true rfl), (Nat.le_of_ble_eq_true rfl)⟩ q13 q12 (Nat.le_of_ble_eq_true rfl) dX6_append_33 ⟨(Nat.le_of_ble_eq_true rfl), (Nat.le_of_ble_eq_true rfl)⟩ (fun H locs hP hD hS => ?_)
      refine lv_aload_n hx hb dX6_append_36 rfl (lv_at hl 0 rfl) ?_
      replace h := bd h
      obtain ⟨x15, q16, h⟩ := h
      refine fg_5_2 hx hb hts hown hK hP wd_216 q16 dX6_append_37 ?_
      replace h := bd h
      obtain ⟨_, q17, h⟩ := h
      replace h := bd h
      obtain ⟨x19, q18, h⟩ := h
      refine c_X5_length ⟨hx, hb, hml, hown, hts⟩ hl.1 hK hP hS wd_231 ⟨(Nat.le_of_ble_eq_true rfl), (Nat.le_of_ble_eq_true rfl)⟩ q18 q17 (Nat.le_of_ble_eq_true rfl) dX6_append_40 ⟨(Nat.le_of_ble_eq_true rfl), (Nat.le_of_ble_eq_true rfl)⟩ (fun H locs hP hS => ?_)
      cases h
      exact e_imx hx hb hlocks hr hP hD hS (Nat.le_of_ble_eq_true rfl) (Nat.le_of_ble_eq_true rfl) dX6_append_43
    · replace h := ifn c9 h
      cases h
      exact tX6_IllegalStateExceptionm hx hb hl0 hown hts hE hP hD hS (hl.1.trans hml.symm) dX6_append_18 dX6_append_21 dX6_append_22 dX6_append_24 dX6_append_27 (fun x h => (htb x h).elim) (Nat.le_of_ble_eq_true rfl) (Nat.le_of_ble_eq_true rfl) (Nat.le_of_ble_eq_true rfl) (Nat.le_of_ble_eq_true rfl) hlocks (Nat.le_of_ble_eq_true rfl) (Nat.le_of_ble_eq_true rfl) (text := "the buffer has 60 characters") (is := 196) (by decide +kernel)
set_option maxRecDepth 100000 in
theorem c_X6_append {p : Program} {l : Launch} {e : Env} {R : Room} {s : State} {m : MethodId} {args : Array Value} {below : List Frame} {meth : Method} {c : Code} {H : Heap} {locs : List Loc} {cells slots : Nat} {Q : State → Prop} {cc : ByteArray} {pc index nL : Nat} {ls : Array Slot} {rest : List Value} {D : va_G} {cy : Nat → ClassId} {A0 : Nat → Prop} {S : St} {own : String} {u : Unit} {a0 : Nat} {a1 : Int32} {x : String ⊕ Int32} {S1 : St}  (hF : CallFix p m c cc nL s args ALLW own) (hsz : ls.size = nL) (hK : va_K D vwCl (tyL cy) s) (hP : SP D cy S H) (hD : ∀ a, S a ≠ none → A0 a) (hA : ∀ q, s.heap.size ≤ q → A0 q) (hS : va_S A0 s.heap H locs) (hE : ENV A0 s) (hl0 : l.stackTraces = false) (hk : Cond.methodLink own index yX6_append ∈ ALLW) (hR : rm_X6_append.frames + 1 ≤ R.frames ∧ 8 + (2 + 11) + rm_X6_append.locals ≤ R.locals) (h : f_X6_append S a0 a1 = some (x, S1)) (hc : oO S a0 5 = some u) (hW : (rest.map fun v => v.category).sum ≤ 8) (hdg : decode cc pc = .ok (.invokevirtual index, 3)) (hf : cells + 2 ≤ R.cells ∧ slots + 12 ≤ R.slots)
    (kx : ∀ (E : String) (ce : Cell) (q9 : Addr) (H1 : Heap) (locs1 : List Loc), x = .inl E → SP D cy S1 H1 → (∀ a, S1 a ≠ none → A0 a) → va_S A0 s.heap H1 locs1 → H1[q9]? = some ce → ce.vm = .none → s.vm.findClass E = some ce.cls → vx_W p l e R s m args below meth c H1 locs1 (cells + 2) (slots + 12) Q (F0 m pc ls rest) q9)
    (kk : ∀ (r : Int32) (H1 : Heap) (locs1 : List Loc), x = .inr r → SP D cy S1 H1 → (∀ a, S1 a ≠ none → A0 a) → va_S A0 s.heap H1 locs1 → W p l e R s m args below meth c H1 locs1 (cells + 2) (slots + 12) Q (F0 m (pc + 3) ls (.int r :: rest))) : W p l e R s m args below meth c H locs cells slots Q (F0 m pc ls (.int a1 :: .ref a0 :: rest)) := by
  exact k_iVmx (As := [.int a1]) hF hsz (m_X6_append l hl0 D cy H.size S a0 a1 x S1 h) (cwV_of (n := 1) hF.2.2.2.2 hk wd_786 wd_787 wd_69 wd_788 rfl rfl (by decide +kernel) hR) rfl hK hP hD hA hS hE (ci := 5) hc rfl hW rfl hdg hf kx kk
/-- VowBlocks.clearBuffer()I -/
def f_X6_clearBuffer (S : St) (a0 : Nat) : Option (Int32 × St) :=
  (gR S a0 5 2).bind fun x1 =>
  (oO S x1 4).bind fun _ =>
  (f_X5_length S x1).bind fun x5 =>
  (gR S a0 5 2).bind fun x6 =>
  (oO S x6 4).bind fun _ =>
  (f_X5_empty S x6).bind fun z10 =>
  some (x5, z10)
abbrev rm_X6_clearBuffer : Room := { frames := 1, cells := 0, slots := 0, locals := 20 }
set_option maxHeartbeats 4000000 in
set_option maxRecDepth 100000 in
theorem m_X6_clearBuffer (l : Launch) (D : va_G) (cy : Nat → ClassId) (sz : Nat) (S : St) (a0 : Nat) (r : Int32) (S1 : St) (h : f_X6_clearBuffer S a0 = some (r, S1)) : Met l yX6_clearBuffer (wsA yX6_clearBuffer cX6_clearBuffer 2 (some .int)) rm_X6_clearBuffer (va_Pc [.ref a0] (PN D cy S sz)) (va_Qi (fun r' (_ : Unit) => r' = r) (fun _ t => PoS D cy S1 (dm S sz) t) (dm S sz)) 0 0 (dm S sz) := by
  refine Met.ofW (cc := cX6_clearBuffer) (maxL := 2) (ret := (some .int)) (by decide) rfl ?_
  intro p e s m args below meth c s₁ B hml hv
  obtain ⟨rfl, hsz, hP, hK⟩ := hv
  have hx := B.exec
  have hb := B.bytes
  have hr := B.returns
  have hts9 := atoms_spec (ws := wsA yX6_clearBuffer cX6_clearBuffer 2 (some .int)) B.pre
  have hts : ∀ w ∈ ALLW, w.before _ s = true := fun w h => hts9 w (List.mem_cons_of_mem _ h)
  have hown : s.vm.findClass RX6 = some m.cls := findClass_of_methodNamed B.named
  have hlocks := B.notSynchronized
  subst hsz
  have hD : ∀ a, S a ≠ none → dm S s.heap.size a := fun a h => Or.inl h
  have hA : ∀ q : Nat, s.heap.size ≤ q → dm S s.heap.size q := fun q h => Or.inr h
  have hS : va_S (dm S s.heap.size) s.heap s.heap [] := va_S.rf
  have hl := lv_entry [.ref a0] (n := 2) (Nat.le_of_ble_eq_true rfl)
  rw [lg_entry_eq]
  generalize (lg_sl [.ref a0] ++ List.replicate (2 - (lg_sl [.ref a0]).length) Slot.unset).toArray = ls at hl ⊢
  have hl : lv_has ls 2 [(0, .ref a0)] := hl
  rw [f_X6_clearBuffer] at h
  refine lv_aload_n hx hb dX6_clearBuffer_0 rfl (lv_at hl 0 rfl) ?_
  replace h := bd h
  obtain ⟨x1, q2, h⟩ := h
  refine fg_5_2 hx hb hts hown hK hP wd_216 q2 dX6_clearBuffer_1 ?_
  replace h := bd h
  obtain ⟨_, q3, h⟩ := h
  replace h := bd h
  obtain ⟨x5, q4, h⟩ := h
  refine c_X5_length ⟨hx, hb, hml, hown, hts⟩ hl.1 hK hP hS wd_231 ⟨(Nat.le_of_ble_eq_true rfl), (Nat.le_of_ble_eq_true rfl)⟩ q4 q3 (Nat.le_of_ble_eq_true rfl) dX6_clearBuffer_4 ⟨(Nat.le_of_ble_eq_true rfl), (Nat.le_of_ble_eq_true rfl)⟩ (fun H locs hP hS => ?_)
  refine lv_istore_n (lv' := [(1, .int x5), (0, .ref a0)]) hx hb dX6_clearBuffer_7 rfl hl (by decide) rfl (fun ls hl => ?_)
  refine lv_aload_n hx hb dX6_clearBuffer_8 rfl (lv_at hl 1 rfl) ?_
  replace h := bd h
  obtain ⟨x6, q7, h⟩ := h
  refine fg_5_2 hx hb hts hown hK hP wd_216 q7 dX6_clearBuffer_9 ?_
  replace h := bd h
  obtain ⟨_, q8, h⟩ := h
  replace h := bd h
  obtain ⟨z10, q9, h⟩ := h
  refine c_X5_empty ⟨hx, hb, hml, hown, hts⟩ hl.1 hK hP hD hA hS wd_235 ⟨(Nat.le_of_ble_eq_true rfl), (Nat.le_of_ble_eq_true rfl)⟩ q9 q8 (Nat.le_of_ble_eq_true rfl) dX6_clearBuffer_12 ⟨(Nat.le_of_ble_eq_true rfl), (Nat.le_of_ble_eq_true rfl)⟩ (fun H locs hP hD hS => ?_)
  refine lv_iload_n hx hb dX6_clearBuffer_15 rfl (lv_at hl 0 rfl) ?_
  cases h
  exact e_im hx hb hlocks hr hP hD hS (Nat.le_of_ble_eq_true rfl) (Nat.le_of_ble_eq_true rfl) dX6_clearBuffer_16
set_option maxRecDepth 100000 in
theorem c_X6_clearBuffer {p : Program} {l : Launch} {e : Env} {R : Room} {s : State} {m : MethodId} {args : Array Value} {below : List Frame} {meth : Method} {c : Code} {H : Heap} {locs : List Loc} {cells slots : Nat} {Q : State → Prop} {cc : ByteArray} {pc index nL : Nat} {ls : Array Slot} {rest : List Value} {D : va_G} {cy : Nat → ClassId} {A0 : Nat → Prop} {S : St} {H0 : Heap} {own : String} {u : Unit} {a0 : Nat} {r : Int32} {S1 : St}  (hF : CallFix p m c cc nL s args ALLW own) (hsz : ls.size = nL) (hK : va_K D vwCl (tyL cy) s) (hP : SP D cy S H) (hD : ∀ a, S a ≠ none → A0 a) (hA : ∀ q, H0.size ≤ q → A0 q) (hS : va_S A0 H0 H locs) (hk : Cond.methodLink own index yX6_clearBuffer ∈ ALLW) (hR : rm_X6_clearBuffer.frames + 1 ≤ R.frames ∧ 8 + (2 + 11) + rm_X6_clearBuffer.locals ≤ R.locals) (h : f_X6_clearBuffer S a0 = some (r, S1)) (hc : oO S a0 5 = some u) (hW : (rest.map fun v => v.category).sum ≤ 8) (hdg : decode cc pc = .ok (.invokevirtual index, 3)) (hf : cells + 0 ≤ R.cells ∧ slots + 0 ≤ R.slots)
    (kk : ∀ (H1 : Heap) (locs1 : List Loc), SP D cy S1 H1 → (∀ a, S1 a ≠ none → A0 a) → va_S A0 H0 H1 locs1 → W p l e R s m args below meth c H1 locs1 (cells + 0) (slots + 0) Q (F0 m (pc + 3) ls (.int r :: rest))) : W p l e R s m args below meth c H locs cells slots Q (F0 m pc ls (.ref a0 :: rest)) := by
  exact k_iVm (As := []) hF hsz (m_X6_clearBuffer l D cy H.size S a0 r S1 h) (cwV_of (n := 0) hF.2.2.2.2 hk wd_228 wd_229 wd_69 wd_230 rfl rfl (by decide +kernel) hR) rfl hK hP hD hA hS (ci := 5) hc rfl hW rfl hdg hf kk
/-- VowBlocks.firstError()I -/
def f_X6_firstError (S : St) (a0 : Nat) : Option (Int32 × St) :=
  (gR S a0 5 2).bind fun x1 =>
  (oO S x1 4).bind fun _ =>
  (f_X5_errorPlace S x1).bind fun z5 =>
  some (z5.1, z5.2)
abbrev rm_X6_firstError : Room := { frames := 3, cells := 0, slots := 0, locals := 63 }
set_option maxHeartbeats 4000000 in
set_option maxRecDepth 100000 in
theorem m_X6_firstError (l : Launch) (D : va_G) (cy : Nat → ClassId) (sz : Nat) (S : St) (a0 : Nat) (r : Int32) (S1 : St) (h : f_X6_firstError S a0 = some (r, S1)) : Met l yX6_firstError (wsA yX6_firstError cX6_firstError 1 (some .int)) rm_X6_firstError (va_Pc [.ref a0] (PN D cy S sz)) (va_Qi (fun r' (_ : Unit) => r' = r) (fun _ t => PoS D cy S1 (dm S sz) t) (dm S sz)) 0 0 (dm S sz) := by
  refine Met.ofW (cc := cX6_firstError) (maxL := 1) (ret := (some .int)) (by decide) rfl ?_
  intro p e s m args below meth c s₁ B hml hv
  obtain ⟨rfl, hsz, hP, hK⟩ := hv
  have hx := B.exec
  have hb := B.bytes
  have hr := B.returns
  have hts9 := atoms_spec (ws := wsA yX6_firstError cX6_firstError 1 (some .int)) B.pre
  have hts : ∀ w ∈ ALLW, w.before _ s = true := fun w h => hts9 w (List.mem_cons_of_mem _ h)
  have hown : s.vm.findClass RX6 = some m.cls := findClass_of_methodNamed B.named
  have hlocks := B.notSynchronized
  subst hsz
  have hD : ∀ a, S a ≠ none → dm S s.heap.size a := fun a h => Or.inl h
  have hA : ∀ q : Nat, s.heap.size ≤ q → dm S s.heap.size q := fun q h => Or.inr h
  have hS : va_S (dm S s.heap.size) s.heap s.heap [] := va_S.rf
  have hl := lv_entry [.ref a0] (n := 1) (Nat.le_of_ble_eq_true rfl)
  rw [lg_entry_eq]
  generalize (lg_sl [.ref a0] ++ List.replicate (1 - (lg_sl [.ref a0]).length) Slot.unset).toArray = ls at hl ⊢
  have hl : lv_has ls 1 [(0, .ref a0)] := hl
  rw [f_X6_firstError] at h
  refine lv_aload_n hx hb dX6_firstError_0 rfl (lv_at hl 0 rfl) ?_
  replace h := bd h
  obtain ⟨x1, q2, h⟩ := h
  refine fg_5_2 hx hb hts hown hK hP wd_216 q2 dX6_firstError_1 ?_
  replace h := bd h
  obtain ⟨_, q3, h⟩ := h
  replace h := bd h
  obtain ⟨z5, q4, h⟩ := h
  refine c_X5_errorPlace ⟨hx, hb, hml, hown, hts⟩ hl.1 hK hP hD hA hS wd_243 ⟨(Nat.le_of_ble_eq_true rfl), (Nat.le_of_ble_eq_true rfl)⟩ q4 q3 (Nat.le_of_ble_eq_true rfl) dX6_firstError_4 ⟨(Nat.le_of_ble_eq_true rfl), (Nat.le_of_ble_eq_true rfl)⟩ (fun H locs hP hD hS => ?_)
  cases h
  exact e_im hx hb hlocks hr hP hD hS (Nat.le_of_ble_eq_true rfl) (Nat.le_of_ble_eq_true rfl) dX6_firstError_7
set_option maxRecDepth 100000 in
theorem c_X6_firstError {p : Program} {l : Launch} {e : Env} {R : Room} {s : State} {m : MethodId} {args : Array Value} {below : List Frame} {meth : Method} {c : Code} {H : Heap} {locs : List Loc} {cells slots : Nat} {Q : State → Prop} {cc : ByteArray} {pc index nL : Nat} {ls : Array Slot} {rest : List Value} {D : va_G} {cy : Nat → ClassId} {A0 : Nat → Prop} {S : St} {H0 : Heap} {own : String} {u : Unit} {a0 : Nat} {r : Int32} {S1 : St}  (hF : CallFix p m c cc nL s args ALLW own) (hsz : ls.size = nL) (hK : va_K D vwCl (tyL cy) s) (hP : SP D cy S H) (hD : ∀ a, S a ≠ none → A0 a) (hA : ∀ q, H0.size ≤ q → A0 q) (hS : va_S A0 H0 H locs) (hk : Cond.methodLink own index yX6_firstError ∈ ALLW) (hR : rm_X6_firstError.frames + 1 ≤ R.frames ∧ 8 + (1 + 11) + rm_X6_firstError.locals ≤ R.locals) (h : f_X6_firstError S a0 = some (r, S1)) (hc : oO S a0 5 = some u) (hW : (rest.map fun v => v.category).sum ≤ 8) (hdg : decode cc pc = .ok (.invokevirtual index, 3)) (hf : cells + 0 ≤ R.cells ∧ slots + 0 ≤ R.slots)
    (kk : ∀ (H1 : Heap) (locs1 : List Loc), SP D cy S1 H1 → (∀ a, S1 a ≠ none → A0 a) → va_S A0 H0 H1 locs1 → W p l e R s m args below meth c H1 locs1 (cells + 0) (slots + 0) Q (F0 m (pc + 3) ls (.int r :: rest))) : W p l e R s m args below meth c H locs cells slots Q (F0 m pc ls (.ref a0 :: rest)) := by
  exact k_iVm (As := []) hF hsz (m_X6_firstError l D cy H.size S a0 r S1 h) (cwV_of (n := 0) hF.2.2.2.2 hk wd_240 wd_241 wd_69 wd_242 rfl rfl (by decide +kernel) hR) rfl hK hP hD hA hS (ci := 5) hc rfl hW rfl hdg hf kk
/-- VowBlocks.undo()I -/
def f_X6_undo (S : St) (a0 : Nat) : Option ((String ⊕ Int32) × St) :=
  (gR S a0 5 1).bind fun x1 =>
  (oO S x1 2).bind fun _ =>
  (f_X3_size S x1).bind fun x5 =>
  if x5 = 0 then
    some (.inl "java/lang/IllegalStateException", S)
  else
    (gR S a0 5 1).bind fun x7 =>
    (gR S a0 5 0).bind fun x9 =>
    (oO S x7 2).bind fun _ =>
    (f_X3_restore S x7 x9).bind fun z13 =>
    (gR z13 a0 5 1).bind fun x14 =>
    (oO z13 x14 2).bind fun _ =>
    (f_X3_size z13 x14).bind fun x18 =>
    some (.inr x18, z13)
abbrev rm_X6_undo : Room := { frames := 6, cells := 1, slots := 6, locals := 86 }
set_option maxHeartbeats 4000000 in
set_option maxRecDepth 100000 in
theorem m_X6_undo (l : Launch) (hl0 : l.stackTraces = false) (D : va_G) (cy : Nat → ClassId) (sz : Nat) (S : St) (a0 : Nat) (x : String ⊕ Int32) (S1 : St) (h : f_X6_undo S a0 = some (x, S1)) : vx_Met l yX6_undo (wsA yX6_undo cX6_undo 1 (some .int)) rm_X6_undo (va_Pc [.ref a0] (PNX D cy S sz)) (va_Qi (fun r' (_ : Unit) => x = .inr r') (fun _ t => PoS D cy S1 (dm S sz) t) (dm S sz)) (vx_X (fun _ : Unit => True) (fun E _ t => x = .inl E ∧ PoS D cy S1 (dm S sz) t) (dm S sz)) 1 6 (dm S sz) := by
  refine vx_ofW (cc := cX6_undo) (maxL := 1) (ret := (some .int)) (by decide) rfl ?_
  intro p e s m args below meth c s₁ B hml htb hv
  obtain ⟨rfl, hsz, hP, hK, hE⟩ := hv
  have hx := B.exec
  have hb := B.bytes
  have hr := B.returns
  have hts9 := atoms_spec (ws := wsA yX6_undo cX6_undo 1 (some .int)) B.pre
  have hts : ∀ w ∈ ALLW, w.before _ s = true := fun w h => hts9 w (List.mem_cons_of_mem _ h)
  have hown : s.vm.findClass RX6 = some m.cls := findClass_of_methodNamed B.named
  have hlocks := B.notSynchronized
  subst hsz
  have hD : ∀ a, S a ≠ none → dm S s.heap.size a := fun a h => Or.inl h
  have hA : ∀ q : Nat, s.heap.size ≤ q → dm S s.heap.size q := fun q h => Or.inr h
  have hS : va_S (dm S s.heap.size) s.heap s.heap [] := va_S.rf
  have hl := lv_entry [.ref a0] (n := 1) (Nat.le_of_ble_eq_true rfl)
  rw [lg_entry_eq]
  generalize (lg_sl [.ref a0] ++ List.replicate (1 - (lg_sl [.ref a0]).length) Slot.unset).toArray = ls at hl ⊢
  have hl : lv_has ls 1 [(0, .ref a0)] := hl
  rw [f_X6_undo] at h
  refine lv_aload_n hx hb dX6_undo_0 rfl (lv_at hl 0 rfl) ?_
  replace h := bd h
  obtain ⟨x1, q2, h⟩ := h
  refine fg_5_1 hx hb hts hown hK hP wd_215 q2 dX6_undo_1 ?_
  replace h := bd h
  obtain ⟨_, q3, h⟩ := h
  replace h := bd h
  obtain ⟨x5, q4, h⟩ := h
  refine c_X3_size ⟨hx, hb, hml, hown, hts⟩ hl.1 hK hP hS wd_340 ⟨(Nat.le_of_ble_eq_true rfl), (Nat.le_of_ble_eq_true rfl)⟩ q4 q3 (Nat.le_of_ble_eq_true rfl) dX6_undo_4 ⟨(Nat.le_of_ble_eq_true rfl), (Nat.le_of_ble_eq_true rfl)⟩ (fun H locs hP hS => ?_)
  refine lv_if_ne (tgt := 20) hx hb dX6_undo_7 (by decide) (fun c6 => ?_) (fun c6 => ?_)
  · replace h := ifn c6 h
    refine lv_aload_n hx hb dX6_undo_20 rfl (lv_at hl 0 rfl) ?_
    replace h := bd h
    obtain ⟨x7, q8, h⟩ := h
    refine fg_5_1 hx hb hts hown hK hP wd_215 q8 dX6_undo_21 ?_
    refine lv_aload_n hx hb dX6_undo_24 rfl (lv_at hl 0 rfl) ?_
    replace h := bd h
    obtain ⟨x9, q10, h⟩ := h
    refine fg_5_0 hx hb hts hown hK hP wd_214 q10 dX6_undo_25 ?_
    replace h := bd h
    obtain ⟨_, q11, h⟩ := h
    replace h := bd h
    obtain ⟨z13, q12, h⟩ := h
    refine c_X3_restore ⟨hx, hb, hml, hown, hts⟩ hl.1 hK hP hD hA hS wd_807 ⟨(Nat.le_of_ble_eq_true rfl), (Nat.le_of_ble_eq_true rfl)⟩ q12 q11 (Nat.le_of_ble_eq_true rfl) dX6_undo_28 ⟨(Nat.le_of_ble_eq_true rfl), (Nat.le_of_ble_eq_true rfl)⟩ (fun H locs hP hD hS => ?_)
    refine lv_aload_n hx hb dX6_undo_31 rfl (lv_at hl 0 rfl) ?_
    replace h := bd h
    obtain ⟨x14, q15, h⟩ := h
    refine fg_5_1 hx hb hts hown hK hP wd_215 q15 dX6_undo_32 ?_
    replace h := bd h
    obtain ⟨_, q16, h⟩ := h
    replace h := bd h
    obtain ⟨x18, q17, h⟩ := h
    refine c_X3_size ⟨hx, hb, hml, hown, hts⟩ hl.1 hK hP hS wd_340 ⟨(Nat.le_of_ble_eq_true rfl), (Nat.le_of_ble_eq_true rfl)⟩ q17 q16 (Nat.le_of_ble_eq_true rfl) dX6_undo_35 ⟨(Nat.le_of_ble_eq_true rfl), (Nat.le_of_ble_eq_true rfl)⟩ (fun H locs hP hS => ?_)
    cases h
    exact e_imx hx hb hlocks hr hP hD hS (Nat.le_of_ble_eq_true rfl) (Nat.le_of_ble_eq_true rfl) dX6_undo_38
  · replace h := ifp c6 h
    cases h
    exact tX6_IllegalStateExceptionm hx hb hl0 hown hts hE hP hD hS (hl.1.trans hml.symm) dX6_undo_10 dX6_undo_13 dX6_undo_14 dX6_undo_16 dX6_undo_19 (fun x h => (htb x h).elim) (Nat.le_of_ble_eq_true rfl) (Nat.le_of_ble_eq_true rfl) (Nat.le_of_ble_eq_true rfl) (Nat.le_of_ble_eq_true rfl) hlocks (Nat.le_of_ble_eq_true rfl) (Nat.le_of_ble_eq_true rfl) (text := "no state is saved") (is := 207) (by decide +kernel)
set_option maxRecDepth 100000 in
theorem c_X6_undo {p : Program} {l : Launch} {e : Env} {R : Room} {s : State} {m : MethodId} {args : Array Value} {below : List Frame} {meth : Method} {c : Code} {H : Heap} {locs : List Loc} {cells slots : Nat} {Q : State → Prop} {cc : ByteArray} {pc index nL : Nat} {ls : Array Slot} {rest : List Value} {D : va_G} {cy : Nat → ClassId} {A0 : Nat → Prop} {S : St} {own : String} {u : Unit} {a0 : Nat} {x : String ⊕ Int32} {S1 : St}  (hF : CallFix p m c cc nL s args ALLW own) (hsz : ls.size = nL) (hK : va_K D vwCl (tyL cy) s) (hP : SP D cy S H) (hD : ∀ a, S a ≠ none → A0 a) (hA : ∀ q, s.heap.size ≤ q → A0 q) (hS : va_S A0 s.heap H locs) (hE : ENV A0 s) (hl0 : l.stackTraces = false) (hk : Cond.methodLink own index yX6_undo ∈ ALLW) (hR : rm_X6_undo.frames + 1 ≤ R.frames ∧ 8 + (1 + 11) + rm_X6_undo.locals ≤ R.locals) (h : f_X6_undo S a0 = some (x, S1)) (hc : oO S a0 5 = some u) (hW : (rest.map fun v => v.category).sum ≤ 8) (hdg : decode cc pc = .ok (.invokevirtual index, 3)) (hf : cells + 1 ≤ R.cells ∧ slots + 6 ≤ R.slots)
    (kx : ∀ (E : String) (ce : Cell) (q9 : Addr) (H1 : Heap) (locs1 : List Loc), x = .inl E → SP D cy S1 H1 → (∀ a, S1 a ≠ none → A0 a) → va_S A0 s.heap H1 locs1 → H1[q9]? = some ce → ce.vm = .none → s.vm.findClass E = some ce.cls → vx_W p l e R s m args below meth c H1 locs1 (cells + 1) (slots + 6) Q (F0 m pc ls rest) q9)
    (kk : ∀ (r : Int32) (H1 : Heap) (locs1 : List Loc), x = .inr r → SP D cy S1 H1 → (∀ a, S1 a ≠ none → A0 a) → va_S A0 s.heap H1 locs1 → W p l e R s m args below meth c H1 locs1 (cells + 1) (slots + 6) Q (F0 m (pc + 3) ls (.int r :: rest))) : W p l e R s m args below meth c H locs cells slots Q (F0 m pc ls (.ref a0 :: rest)) := by
  exact k_iVmx (As := []) hF hsz (m_X6_undo l hl0 D cy H.size S a0 x S1 h) (cwV_of (n := 0) hF.2.2.2.2 hk wd_803 wd_804 wd_69 wd_805 rfl rfl (by decide +kernel) hR) rfl hK hP hD hA hS hE (ci := 5) hc rfl hW rfl hdg hf kx kk
/-- VowBlocks.propertyOf(LVowBlocks$Block;I)I -/
def f_X6_propertyOf (S : St) (a0 : Nat) (a1 : Nat) (a2 : Int32) : Option (Int32) :=
  if a2 = 0 then
    (gR S a1 0 0).bind fun x15 =>
    (oO S x15 3).bind fun _ =>
    (f_X4_size S x15).bind fun x19 =>
    some x19
  else
    if a2 = 1 then
      (gI S a1 0 1).bind fun x20 =>
      some x20
    else
      if a2 = 2 then
        (gR S a1 0 0).bind fun x22 =>
        (gI S a1 0 1).bind fun x24 =>
        (f_X1_bits S x22 x24).bind fun x27 =>
        some x27
      else
        if a2 = 3 then
          (gI S a1 0 2).bind fun x28 =>
          some x28
        else
          if a2 = 4 then
            (gI S a1 0 3).bind fun x30 =>
            some x30
          else
            if a2 = 5 then
              (gI S a1 0 4).bind fun x32 =>
              some x32
            else
              if a2 = 6 then
                (gI S a1 0 5).bind fun x34 =>
                some x34
              else
                if a2 = 7 then
                  (gI S a1 0 6).bind fun x36 =>
                  some x36
                else
                  if a2 = 8 then
                    (gR S a1 0 0).bind fun x38 =>
                    (f_X1_best S x38).bind fun x41 =>
                    some x41
                  else
                    if a2 = 9 then
                      (gR S a1 0 0).bind fun x42 =>
                      (gR S a1 0 0).bind fun x44 =>
                      (f_X1_best S x44).bind fun x47 =>
                      (f_X1_bits S x42 x47).bind fun x49 =>
                      some x49
                    else
                      if a2 = 10 then
                        (gR S a0 5 0).bind fun x50 =>
                        (gR S a1 0 0).bind fun x52 =>
                        (oO S x50 1).bind fun _ =>
                        (f_X2_firstAlike S x50 x52).bind fun x56 =>
                        some x56
                      else
                        (gI S a1 0 7).bind fun x12 =>
                        some x12
abbrev rm_X6_propertyOf : Room := { frames := 3, cells := 0, slots := 0, locals := 71 }
set_option maxHeartbeats 4000000 in
set_option maxRecDepth 100000 in
theorem m_X6_propertyOf (l : Launch) (D : va_G) (cy : Nat → ClassId) (S : St) (a0 : Nat) (a1 : Nat) (a2 : Int32) (r : Int32) (h : f_X6_propertyOf S a0 a1 a2 = some r) : Met l yX6_propertyOf (wsA yX6_propertyOf cX6_propertyOf 3 (some .int)) rm_X6_propertyOf (va_Pc [.ref a0, .ref a1, .int a2] (PS D cy S)) (va_Qi (fun r' (_ : Unit) => r' = r) (fun _ _ => True) noA) 0 0 noA := by
  refine Met.ofW (cc := cX6_propertyOf) (maxL := 3) (ret := (some .int)) (by decide) rfl ?_
  intro p e s m args below meth c s₁ B hml hv
  obtain ⟨rfl, hP, hK⟩ := hv
  have hx := B.exec
  have hb := B.bytes
  have hr := B.returns
  have hts9 := atoms_spec (ws := wsA yX6_propertyOf cX6_propertyOf 3 (some .int)) B.pre
  have hts : ∀ w ∈ ALLW, w.before _ s = true := fun w h => hts9 w (List.mem_cons_of_mem _ h)
  have hown : s.vm.findClass RX6 = some m.cls := findClass_of_methodNamed B.named
  have hlocks := B.notSynchronized
  have hS : va_S noA s.heap s.heap [] := va_S.rf
  have hl := lv_entry [.ref a0, .ref a1, .int a2] (n := 3) (Nat.le_of_ble_eq_true rfl)
  rw [lg_entry_eq]
  generalize (lg_sl [.ref a0, .ref a1, .int a2] ++ List.replicate (3 - (lg_sl [.ref a0, .ref a1, .int a2]).length) Slot.unset).toArray = ls at hl ⊢
  have hl : lv_has ls 3 [(0, .ref a0), (1, .ref a1), (2, .int a2)] := hl
  rw [f_X6_propertyOf] at h
  refine lv_iload_n hx hb dX6_propertyOf_0 rfl (lv_at hl 2 rfl) ?_
  by_cases c1 : a2 = 0
  · replace h := ifp c1 h
    refine lv_tableIn (off := 59) (tgt := 60) hx hb dX6_propertyOf_1 (by rw [c1]; decide) (by rw [c1]; decide) (by rw [c1]; rfl) (by decide) ?_
    refine lv_aload_n hx hb dX6_propertyOf_60 rfl (lv_at hl 1 rfl) ?_
    replace h := bd h
    obtain ⟨x15, q16, h⟩ := h
    refine fg_0_0 hx hb hts hown hK hP wd_121 q16 dX6_propertyOf_61 ?_
    replace h := bd h
    obtain ⟨_, q17, h⟩ := h
    replace h := bd h
    obtain ⟨x19, q18, h⟩ := h
    refine c_X4_size ⟨hx, hb, hml, hown, hts⟩ hl.1 hK hP hS wd_283 ⟨(Nat.le_of_ble_eq_true rfl), (Nat.le_of_ble_eq_true rfl)⟩ q18 q17 (Nat.le_of_ble_eq_true rfl) dX6_propertyOf_64 ⟨(Nat.le_of_ble_eq_true rfl), (Nat.le_of_ble_eq_true rfl)⟩ (fun H locs hP hS => ?_)
    cases h
    exact e_ip hx hb hlocks hr hS (Nat.le_of_ble_eq_true rfl) (Nat.le_of_ble_eq_true rfl) dX6_propertyOf_67
  · replace h := ifn c1 h
    by_cases c2 : a2 = 1
    · replace h := ifp c2 h
      refine lv_tableIn (off := 67) (tgt := 68) hx hb dX6_propertyOf_1 (by rw [c2]; decide) (by rw [c2]; decide) (by rw [c2]; rfl) (by decide) ?_
      refine lv_aload_n hx hb dX6_propertyOf_68 rfl (lv_at hl 1 rfl) ?_
      replace h := bd h
      obtain ⟨x20, q21, h⟩ := h
      refine fg_0_1 hx hb hts hown hK hP wd_125 q21 dX6_propertyOf_69 ?_
      cases h
      exact e_ip hx hb hlocks hr hS (Nat.le_of_ble_eq_true rfl) (Nat.le_of_ble_eq_true rfl) dX6_propertyOf_72
    · replace h := ifn c2 h
      by_cases c3 : a2 = 2
      · replace h := ifp c3 h
        refine lv_tableIn (off := 72) (tgt := 73) hx hb dX6_propertyOf_1 (by rw [c3]; decide) (by rw [c3]; decide) (by rw [c3]; rfl) (by decide) ?_
        refine lv_aload_n hx hb dX6_propertyOf_73 rfl (lv_at hl 1 rfl) ?_
        replace h := bd h
        obtain ⟨x22, q23, h⟩ := h
        refine fg_0_0 hx hb hts hown hK hP wd_121 q23 dX6_propertyOf_74 ?_
        refine lv_aload_n hx hb dX6_propertyOf_77 rfl (lv_at hl 1 rfl) ?_
        replace h := bd h
        obtain ⟨x24, q25, h⟩ := h
        refine fg_0_1 hx hb hts hown hK hP wd_125 q25 dX6_propertyOf_78 ?_
        replace h := bd h
        obtain ⟨x27, q26, h⟩ := h
        refine c_X1_bits ⟨hx, hb, hml, hown, hts⟩ hl.1 hK hP hS wd_287 ⟨(Nat.le_of_ble_eq_true rfl), (Nat.le_of_ble_eq_true rfl)⟩ q26 (Nat.le_of_ble_eq_true rfl) dX6_propertyOf_81 ⟨(Nat.le_of_ble_eq_true rfl), (Nat.le_of_ble_eq_true rfl)⟩ (fun H locs hP hS => ?_)
        cases h
        exact e_ip hx hb hlocks hr hS (Nat.le_of_ble_eq_true rfl) (Nat.le_of_ble_eq_true rfl) dX6_propertyOf_84
      · replace h := ifn c3 h
        by_cases c4 : a2 = 3
        · replace h := ifp c4 h
          refine lv_tableIn (off := 84) (tgt := 85) hx hb dX6_propertyOf_1 (by rw [c4]; decide) (by rw [c4]; decide) (by rw [c4]; rfl) (by decide) ?_
          refine lv_aload_n hx hb dX6_propertyOf_85 rfl (lv_at hl 1 rfl) ?_
          replace h := bd h
          obtain ⟨x28, q29, h⟩ := h
          refine fg_0_2 hx hb hts hown hK hP wd_127 q29 dX6_propertyOf_86 ?_
          cases h
          exact e_ip hx hb hlocks hr hS (Nat.le_of_ble_eq_true rfl) (Nat.le_of_ble_eq_true rfl) dX6_propertyOf_89
        · replace h := ifn c4 h
          by_cases c5 : a2 = 4
          · replace h := ifp c5 h
            refine lv_tableIn (off := 89) (tgt := 90) hx hb dX6_propertyOf_1 (by rw [c5]; decide) (by rw [c5]; decide) (by rw [c5]; rfl) (by decide) ?_
            refine lv_aload_n hx hb dX6_propertyOf_90 rfl (lv_at hl 1 rfl) ?_
            replace h := bd h
            obtain ⟨x30, q31, h⟩ := h
            refine fg_0_3 hx hb hts hown hK hP wd_129 q31 dX6_propertyOf_91 ?_
            cases h
            exact e_ip hx hb hlocks hr hS (Nat.le_of_ble_eq_true rfl) (Nat.le_of_ble_eq_true rfl) dX6_propertyOf_94
          · replace h := ifn c5 h
            by_cases c6 : a2 = 5
            · replace h := ifp c6 h
              refine lv_tableIn (off := 94) (tgt := 95) hx hb dX6_propertyOf_1 (by rw [c6]; decide) (by rw [c6]; decide) (by rw [c6]; rfl) (by decide) ?_
              refine lv_aload_n hx hb dX6_propertyOf_95 rfl (lv_at hl 1 rfl) ?_
              replace h := bd h
              obtain ⟨x32, q33, h⟩ := h
              refine fg_0_4 hx hb hts hown hK hP wd_131 q33 dX6_propertyOf_96 ?_
              cases h
              exact e_ip hx hb hlocks hr hS (Nat.le_of_ble_eq_true rfl) (Nat.le_of_ble_eq_true rfl) dX6_propertyOf_99
            · replace h := ifn c6 h
              by_cases c7 : a2 = 6
              · replace h := ifp c7 h
                refine lv_tableIn (off := 99) (tgt := 100) hx hb dX6_propertyOf_1 (by rw [c7]; decide) (by rw [c7]; decide) (by rw [c7]; rfl) (by decide) ?_
                refine lv_aload_n hx hb dX6_propertyOf_100 rfl (lv_at hl 1 rfl) ?_
                replace h := bd h
                obtain ⟨x34, q35, h⟩ := h
                refine fg_0_5 hx hb hts hown hK hP wd_133 q35 dX6_propertyOf_101 ?_
                cases h
                exact e_ip hx hb hlocks hr hS (Nat.le_of_ble_eq_true rfl) (Nat.le_of_ble_eq_true rfl) dX6_propertyOf_104
              · replace h := ifn c7 h
                by_cases c8 : a2 = 7
                · replace h := ifp c8 h
                  refine lv_tableIn (off := 104) (tgt := 105) hx hb dX6_propertyOf_1 (by rw [c8]; decide) (by rw [c8]; decide) (by rw [c8]; rfl) (by decide) ?_
                  refine lv_aload_n hx hb dX6_propertyOf_105 rfl (lv_at hl 1 rfl) ?_
                  replace h := bd h
                  obtain ⟨x36, q37, h⟩ := h
                  refine fg_0_6 hx hb hts hown hK hP wd_135 q37 dX6_propertyOf_106 ?_
                  cases h
                  exact e_ip hx hb hlocks hr hS (Nat.le_of_ble_eq_true rfl) (Nat.le_of_ble_eq_true rfl) dX6_propertyOf_109
                · replace h := ifn c8 h
                  by_cases c9 : a2 = 8
                  · replace h := ifp c9 h
                    refine lv_tableIn (off := 109) (tgt := 110) hx hb dX6_propertyOf_1 (by rw [c9]; decide) (by rw [c9]; decide) (by rw [c9]; rfl) (by decide) ?_
                    refine lv_aload_n hx hb dX6_propertyOf_110 rfl (lv_at hl 1 rfl) ?_
                    replace h := bd h
                    obtain ⟨x38, q39, h⟩ := h
                    refine fg_0_0 hx hb hts hown hK hP wd_121 q39 dX6_propertyOf_111 ?_
                    replace h := bd h
                    obtain ⟨x41, q40, h⟩ := h
                    refine c_X1_best ⟨hx, hb, hml, hown, hts⟩ hl.1 hK hP hS wd_314 ⟨(Nat.le_of_ble_eq_true rfl), (Nat.le_of_ble_eq_true rfl)⟩ q40 (Nat.le_of_ble_eq_true rfl) dX6_propertyOf_114 ⟨(Nat.le_of_ble_eq_true rfl), (Nat.le_of_ble_eq_true rfl)⟩ (fun H locs hP hS => ?_)
                    cases h
                    exact e_ip hx hb hlocks hr hS (Nat.le_of_ble_eq_true rfl) (Nat.le_of_ble_eq_true rfl) dX6_propertyOf_117
                  · replace h := ifn c9 h
                    by_cases c10 : a2 = 9
                    · replace h := ifp c10 h
                      refine lv_tableIn (off := 117) (tgt := 118) hx hb dX6_propertyOf_1 (by rw [c10]; decide) (by rw [c10]; decide) (by rw [c10]; rfl) (by decide) ?_
                      refine lv_aload_n hx hb dX6_propertyOf_118 rfl (lv_at hl 1 rfl) ?_
                      replace h := bd h
                      obtain ⟨x42, q43, h⟩ := h
                      refine fg_0_0 hx hb hts hown hK hP wd_121 q43 dX6_propertyOf_119 ?_
                      refine lv_aload_n hx hb dX6_propertyOf_122 rfl (lv_at hl 1 rfl) ?_
                      replace h := bd h
                      obtain ⟨x44, q45, h⟩ := h
                      refine fg_0_0 hx hb hts hown hK hP wd_121 q45 dX6_propertyOf_123 ?_
                      replace h := bd h
                      obtain ⟨x47, q46, h⟩ := h
                      refine c_X1_best ⟨hx, hb, hml, hown, hts⟩ hl.1 hK hP hS wd_314 ⟨(Nat.le_of_ble_eq_true rfl), (Nat.le_of_ble_eq_true rfl)⟩ q46 (Nat.le_of_ble_eq_true rfl) dX6_propertyOf_126 ⟨(Nat.le_of_ble_eq_true rfl), (Nat.le_of_ble_eq_true rfl)⟩ (fun H locs hP hS => ?_)
                      replace h := bd h
                      obtain ⟨x49, q48, h⟩ := h
                      refine c_X1_bits ⟨hx, hb, hml, hown, hts⟩ hl.1 hK hP hS wd_287 ⟨(Nat.le_of_ble_eq_true rfl), (Nat.le_of_ble_eq_true rfl)⟩ q48 (Nat.le_of_ble_eq_true rfl) dX6_propertyOf_129 ⟨(Nat.le_of_ble_eq_true rfl), (Nat.le_of_ble_eq_true rfl)⟩ (fun H locs hP hS => ?_)
                      cases h
                      exact e_ip hx hb hlocks hr hS (Nat.le_of_ble_eq_true rfl) (Nat.le_of_ble_eq_true rfl) dX6_propertyOf_132
                    · replace h := ifn c10 h
                      by_cases c11 : a2 = 10
                      · replace h := ifp c11 h
                        refine lv_tableIn (off := 132) (tgt := 133) hx hb dX6_propertyOf_1 (by rw [c11]; decide) (by rw [c11]; decide) (by rw [c11]; rfl) (by decide) ?_
                        refine lv_aload_n hx hb dX6_propertyOf_133 rfl (lv_at hl 0 rfl) ?_
                        replace h := bd h
                        obtain ⟨x50, q51, h⟩ := h
                        refine fg_5_0 hx hb hts hown hK hP wd_214 q51 dX6_propertyOf_134 ?_
                        refine lv_aload_n hx hb dX6_propertyOf_137 rfl (lv_at hl 1 rfl) ?_
                        replace h := bd h
                        obtain ⟨x52, q53, h⟩ := h
                        refine fg_0_0 hx hb hts hown hK hP wd_121 q53 dX6_propertyOf_138 ?_
                        replace h := bd h
                        obtain ⟨_, q54, h⟩ := h
                        replace h := bd h
                        obtain ⟨x56, q55, h⟩ := h
                        refine c_X2_firstAlike ⟨hx, hb, hml, hown, hts⟩ hl.1 hK hP hS wd_318 ⟨(Nat.le_of_ble_eq_true rfl), (Nat.le_of_ble_eq_true rfl)⟩ q55 q54 (Nat.le_of_ble_eq_true rfl) dX6_propertyOf_141 ⟨(Nat.le_of_ble_eq_true rfl), (Nat.le_of_ble_eq_true rfl)⟩ (fun H locs hP hS => ?_)
                        cases h
                        exact e_ip hx hb hlocks hr hS (Nat.le_of_ble_eq_true rfl) (Nat.le_of_ble_eq_true rfl) dX6_propertyOf_144
                      · replace h := ifn c11 h
                        refine lv_tableOut (tgt := 145) hx hb dX6_propertyOf_1 (tsw_out (x := a2) 0 11 (fun k hk => by match k, hk with | 0, _ => exact c1 | 1, _ => exact c2 | 2, _ => exact c3 | 3, _ => exact c4 | 4, _ => exact c5 | 5, _ => exact c6 | 6, _ => exact c7 | 7, _ => exact c8 | 8, _ => exact c9 | 9, _ => exact c10 | 10, _ => exact c11) (by decide)) (by decide) ?_
                        refine lv_aload_n hx hb dX6_propertyOf_145 rfl (lv_at hl 1 rfl) ?_
                        replace h := bd h
                        obtain ⟨x12, q13, h⟩ := h
                        refine fg_0_7 hx hb hts hown hK hP wd_137 q13 dX6_propertyOf_146 ?_
                        cases h
                        exact e_ip hx hb hlocks hr hS (Nat.le_of_ble_eq_true rfl) (Nat.le_of_ble_eq_true rfl) dX6_propertyOf_149
set_option maxRecDepth 100000 in
theorem c_X6_propertyOf {p : Program} {l : Launch} {e : Env} {R : Room} {s : State} {m : MethodId} {args : Array Value} {below : List Frame} {meth : Method} {c : Code} {H : Heap} {locs : List Loc} {cells slots : Nat} {Q : State → Prop} {cc : ByteArray} {pc index nL : Nat} {ls : Array Slot} {rest : List Value} {D : va_G} {cy : Nat → ClassId} {A0 : Nat → Prop} {S : St} {H0 : Heap} {own : String} {u : Unit} {a0 : Nat} {a1 : Nat} {a2 : Int32} {r : Int32}  (hF : CallFix p m c cc nL s args ALLW own) (hsz : ls.size = nL) (hK : va_K D vwCl (tyL cy) s) (hP : SP D cy S H) (hS : va_S A0 H0 H locs) (hk : Cond.methodLink own index yX6_propertyOf ∈ ALLW) (hR : rm_X6_propertyOf.frames + 1 ≤ R.frames ∧ 8 + (3 + 11) + rm_X6_propertyOf.locals ≤ R.locals) (h : f_X6_propertyOf S a0 a1 a2 = some r) (hc : oO S a0 5 = some u) (hW : (rest.map fun v => v.category).sum ≤ 8) (hdg : decode cc pc = .ok (.invokevirtual index, 3)) (hf : cells + 0 ≤ R.cells ∧ slots + 0 ≤ R.slots)
    (kk : ∀ (H1 : Heap) (locs1 : List Loc), SP D cy S H1 → va_S A0 H0 H1 locs1 → W p l e R s m args below meth c H1 locs1 (cells + 0) (slots + 0) Q (F0 m (pc + 3) ls (.int r :: rest))) : W p l e R s m args below meth c H locs cells slots Q (F0 m pc ls (.int a2 :: .ref a1 :: .ref a0 :: rest)) := by
  exact k_iVp (As := [.ref a1, .int a2]) hF hsz (m_X6_propertyOf l D cy S a0 a1 a2 r h) (cwV_of (n := 2) hF.2.2.2.2 hk wd_281 wd_4 wd_69 wd_282 rfl rfl (by decide +kernel) hR) rfl hK hP hS (ci := 5) hc rfl hW rfl hdg hf kk
/-- VowBlocks.block(II)I -/
def f_X6_block (S : St) (a0 : Nat) (a1 : Int32) (a2 : Int32) : Option (String ⊕ Int32) :=
  (oO S a0 5).bind fun _ =>
  (f_X6_find S a0 a1).bind fun z3 =>
  Sum.elim (fun E =>
    some (.inl E)
  ) (fun x4 =>
  (f_X6_requireWithin a2 0 11).bind fun z6 =>
  Sum.elim (fun E =>
    some (.inl E)
  ) (fun _ =>
  (oO S a0 5).bind fun _ =>
  (f_X6_propertyOf S a0 x4 a2).bind fun x10 =>
  some (.inr x10)
  ) z6
  ) z3
abbrev rm_X6_block : Room := { frames := 7, cells := 2, slots := 12, locals := 104 }
set_option maxHeartbeats 4000000 in
set_option maxRecDepth 100000 in
theorem m_X6_block (l : Launch) (hl0 : l.stackTraces = false) (D : va_G) (cy : Nat → ClassId) (S : St) (a0 : Nat) (a1 : Int32) (a2 : Int32) (x : String ⊕ Int32) (h : f_X6_block S a0 a1 a2 = some x) : vx_Met l yX6_block (wsA yX6_block cX6_block 4 (some .int)) rm_X6_block (va_Pc [.ref a0, .int a1, .int a2] (PSX D cy S)) (va_Qi (fun r' (_ : Unit) => x = .inr r') (fun _ _ => True) noA) (vx_X (fun _ : Unit => True) (fun E _ _ => x = .inl E) noA) 2 12 noA := by
  refine vx_ofW (cc := cX6_block) (maxL := 4) (ret := (some .int)) (by decide) rfl ?_
  intro p e s m args below meth c s₁ B hml htb hv
  obtain ⟨rfl, hP, hK, hE⟩ := hv
  have hx := B.exec
  have hb := B.bytes
  have hr := B.returns
  have hts9 := atoms_spec (ws := wsA yX6_block cX6_block 4 (some .int)) B.pre
  have hts : ∀ w ∈ ALLW, w.before _ s = true := fun w h => hts9 w (List.mem_cons_of_mem _ h)
  have hown : s.vm.findClass RX6 = some m.cls := findClass_of_methodNamed B.named
  have hlocks := B.notSynchronized
  have hS : va_S noA s.heap s.heap [] := va_S.rf
  have hl := lv_entry [.ref a0, .int a1, .int a2] (n := 4) (Nat.le_of_ble_eq_true rfl)
  rw [lg_entry_eq]
  generalize (lg_sl [.ref a0, .int a1, .int a2] ++ List.replicate (4 - (lg_sl [.ref a0, .int a1, .int a2]).length) Slot.unset).toArray = ls at hl ⊢
  have hl : lv_has ls 4 [(0, .ref a0), (1, .int a1), (2, .int a2)] := hl
  rw [f_X6_block] at h
  refine lv_aload_n hx hb dX6_block_0 rfl (lv_at hl 0 rfl) ?_
  refine lv_iload_n hx hb dX6_block_1 rfl (lv_at hl 1 rfl) ?_
  replace h := bd h
  obtain ⟨_, q1, h⟩ := h
  replace h := bd h
  obtain ⟨z3, q2, h⟩ := h
  refine c_X6_find ⟨hx, hb, hml, hown, hts⟩ hl.1 hK hP hS hE hl0 wd_638 ⟨(Nat.le_of_ble_eq_true rfl), (Nat.le_of_ble_eq_true rfl)⟩ q2 q1 (Nat.le_of_ble_eq_true rfl) dX6_block_2 ⟨(Nat.le_of_ble_eq_true rfl), (Nat.le_of_ble_eq_true rfl)⟩ (fun E ce qx9 H locs hx9 hP hS h1 h2 h3 => ?_) (fun x4 H locs hx9 hP hS => ?_)
  · replace h := sel_l hx9 h
    cases h
    exact o_p (fun x h => (htb x h).elim) hlocks h1 h2 h3 hS (Nat.le_of_ble_eq_true rfl) (Nat.le_of_ble_eq_true rfl)
  · replace h := sel_r hx9 h
    refine lv_astore_n (lv' := [(3, .ref x4), (0, .ref a0), (1, .int a1), (2, .int a2)]) hx hb dX6_block_5 rfl hl (by decide) rfl (fun ls hl => ?_)
    refine lv_iload_n hx hb dX6_block_6 rfl (lv_at hl 3 rfl) ?_
    refine lv_iconst (v := 0) hx hb dX6_block_7 (by decide) ?_
    refine lv_bipush (v := 11) hx hb dX6_block_8 (by decide) ?_
    replace h := bd h
    obtain ⟨z6, q5, h⟩ := h
    refine c_X6_requireWithin ⟨hx, hb, hml, hown, hts⟩ hl.1 hK hP hS hE hl0 wd_482 ⟨(Nat.le_of_ble_eq_true rfl), (Nat.le_of_ble_eq_true rfl)⟩ q5 (Nat.le_of_ble_eq_true rfl) dX6_block_10 ⟨(Nat.le_of_ble_eq_true rfl), (Nat.le_of_ble_eq_true rfl)⟩ (fun E ce qx9 H locs hx9 hP hS h1 h2 h3 => ?_) (fun H locs hx9 hP hS => ?_)
    · replace h := sel_l hx9 h
      cases h
      exact o_p (fun x h => (htb x h).elim) hlocks h1 h2 h3 hS (Nat.le_of_ble_eq_true rfl) (Nat.le_of_ble_eq_true rfl)
    · replace h := sel_r hx9 h
      refine lv_aload_n hx hb dX6_block_13 rfl (lv_at hl 1 rfl) ?_
      refine lv_aload_n hx hb dX6_block_14 rfl (lv_at hl 0 rfl) ?_
      refine lv_iload_n hx hb dX6_block_15 rfl (lv_at hl 3 rfl) ?_
      replace h := bd h
      obtain ⟨_, q8, h⟩ := h
      replace h := bd h
      obtain ⟨x10, q9, h⟩ := h
      refine c_X6_propertyOf ⟨hx, hb, hml, hown, hts⟩ hl.1 hK hP hS wd_279 ⟨(Nat.le_of_ble_eq_true rfl), (Nat.le_of_ble_eq_true rfl)⟩ q9 q8 (Nat.le_of_ble_eq_true rfl) dX6_block_16 ⟨(Nat.le_of_ble_eq_true rfl), (Nat.le_of_ble_eq_true rfl)⟩ (fun H locs hP hS => ?_)
      cases h
      exact e_ipx hx hb hlocks hr hS (Nat.le_of_ble_eq_true rfl) (Nat.le_of_ble_eq_true rfl) dX6_block_19
set_option maxRecDepth 100000 in
theorem c_X6_block {p : Program} {l : Launch} {e : Env} {R : Room} {s : State} {m : MethodId} {args : Array Value} {below : List Frame} {meth : Method} {c : Code} {H : Heap} {locs : List Loc} {cells slots : Nat} {Q : State → Prop} {cc : ByteArray} {pc index nL : Nat} {ls : Array Slot} {rest : List Value} {D : va_G} {cy : Nat → ClassId} {A0 : Nat → Prop} {S : St} {own : String} {u : Unit} {a0 : Nat} {a1 : Int32} {a2 : Int32} {x : String ⊕ Int32}  (hF : CallFix p m c cc nL s args ALLW own) (hsz : ls.size = nL) (hK : va_K D vwCl (tyL cy) s) (hP : SP D cy S H) (hS : va_S A0 s.heap H locs) (hE : ENV A0 s) (hl0 : l.stackTraces = false) (hk : Cond.methodLink own index yX6_block ∈ ALLW) (hR : rm_X6_block.frames + 1 ≤ R.frames ∧ 8 + (4 + 11) + rm_X6_block.locals ≤ R.locals) (h : f_X6_block S a0 a1 a2 = some x) (hc : oO S a0 5 = some u) (hW : (rest.map fun v => v.category).sum ≤ 8) (hdg : decode cc pc = .ok (.invokevirtual index, 3)) (hf : cells + 2 ≤ R.cells ∧ slots + 12 ≤ R.slots)
    (kx : ∀ (E : String) (ce : Cell) (q9 : Addr) (H1 : Heap) (locs1 : List Loc), x = .inl E → SP D cy S H1 → va_S A0 s.heap H1 locs1 → H1[q9]? = some ce → ce.vm = .none → s.vm.findClass E = some ce.cls → vx_W p l e R s m args below meth c H1 locs1 (cells + 2) (slots + 12) Q (F0 m pc ls rest) q9)
    (kk : ∀ (r : Int32) (H1 : Heap) (locs1 : List Loc), x = .inr r → SP D cy S H1 → va_S A0 s.heap H1 locs1 → W p l e R s m args below meth c H1 locs1 (cells + 2) (slots + 12) Q (F0 m (pc + 3) ls (.int r :: rest))) : W p l e R s m args below meth c H locs cells slots Q (F0 m pc ls (.int a2 :: .int a1 :: .ref a0 :: rest)) := by
  exact k_iVpx (As := [.int a1, .int a2]) hF hsz (m_X6_block l hl0 D cy S a0 a1 a2 x h) (cwV_of (n := 2) hF.2.2.2.2 hk wd_815 wd_816 wd_69 wd_817 rfl rfl (by decide +kernel) hR) rfl hK hP hS hE (ci := 5) hc rfl hW rfl hdg hf kx kk
/-- VowBlocks.value(II)I -/
def f_X6_value (S : St) (a0 : Nat) (a1 : Int32) (a2 : Int32) : Option (String ⊕ Int32) :=
  (oO S a0 5).bind fun _ =>
  (f_X6_findWithPlace S a0 a1 a2).bind fun z3 =>
  Sum.elim (fun E =>
    some (.inl E)
  ) (fun x4 =>
  (gR S x4 0 0).bind fun x5 =>
  (oO S x5 3).bind fun _ =>
  (f_X4_at S x5 a2).bind fun x9 =>
  some (.inr x9)
  ) z3
abbrev rm_X6_value : Room := { frames := 8, cells := 2, slots := 12, locals := 126 }
set_option maxHeartbeats 4000000 in
set_option maxRecDepth 100000 in
theorem m_X6_value (l : Launch) (hl0 : l.stackTraces = false) (D : va_G) (cy : Nat → ClassId) (S : St) (a0 : Nat) (a1 : Int32) (a2 : Int32) (x : String ⊕ Int32) (h : f_X6_value S a0 a1 a2 = some x) : vx_Met l yX6_value (wsA yX6_value cX6_value 3 (some .int)) rm_X6_value (va_Pc [.ref a0, .int a1, .int a2] (PSX D cy S)) (va_Qi (fun r' (_ : Unit) => x = .inr r') (fun _ _ => True) noA) (vx_X (fun _ : Unit => True) (fun E _ _ => x = .inl E) noA) 2 12 noA := by
  refine vx_ofW (cc := cX6_value) (maxL := 3) (ret := (some .int)) (by decide) rfl ?_
  intro p e s m args below meth c s₁ B hml htb hv
  obtain ⟨rfl, hP, hK, hE⟩ := hv
  have hx := B.exec
  have hb := B.bytes
  have hr := B.returns
  have hts9 := atoms_spec (ws := wsA yX6_value cX6_value 3 (some .int)) B.pre
  have hts : ∀ w ∈ ALLW, w.before _ s = true := fun w h => hts9 w (List.mem_cons_of_mem _ h)
  have hown : s.vm.findClass RX6 = some m.cls := findClass_of_methodNamed B.named
  have hlocks := B.notSynchronized
  have hS : va_S noA s.heap s.heap [] := va_S.rf
  have hl := lv_entry [.ref a0, .int a1, .int a2] (n := 3) (Nat.le_of_ble_eq_true rfl)
  rw [lg_entry_eq]
  generalize (lg_sl [.ref a0, .int a1, .int a2] ++ List.replicate (3 - (lg_sl [.ref a0, .int a1, .int a2]).length) Slot.unset).toArray = ls at hl ⊢
  have hl : lv_has ls 3 [(0, .ref a0), (1, .int a1), (2, .int a2)] := hl
  rw [f_X6_value] at h
  refine lv_aload_n hx hb dX6_value_0 rfl (lv_at hl 0 rfl) ?_
  refine lv_iload_n hx hb dX6_value_1 rfl (lv_at hl 1 rfl) ?_
  refine lv_iload_n hx hb dX6_value_2 rfl (lv_at hl 2 rfl) ?_
  replace h := bd h
  obtain ⟨_, q1, h⟩ := h
  replace h := bd h
  obtain ⟨z3, q2, h⟩ := h
  refine c_X6_findWithPlace ⟨hx, hb, hml, hown, hts⟩ hl.1 hK hP hS hE hl0 wd_667 ⟨(Nat.le_of_ble_eq_true rfl), (Nat.le_of_ble_eq_true rfl)⟩ q2 q1 (Nat.le_of_ble_eq_true rfl) dX6_value_3 ⟨(Nat.le_of_ble_eq_true rfl), (Nat.le_of_ble_eq_true rfl)⟩ (fun E ce qx9 H locs hx9 hP hS h1 h2 h3 => ?_) (fun x4 H locs hx9 hP hS => ?_)
  · replace h := sel_l hx9 h
    cases h
    exact o_p (fun x h => (htb x h).elim) hlocks h1 h2 h3 hS (Nat.le_of_ble_eq_true rfl) (Nat.le_of_ble_eq_true rfl)
  · replace h := sel_r hx9 h
    replace h := bd h
    obtain ⟨x5, q6, h⟩ := h
    refine fg_0_0 hx hb hts hown hK hP wd_121 q6 dX6_value_6 ?_
    refine lv_iload_n hx hb dX6_value_9 rfl (lv_at hl 2 rfl) ?_
    replace h := bd h
    obtain ⟨_, q7, h⟩ := h
    replace h := bd h
    obtain ⟨x9, q8, h⟩ := h
    refine c_X4_at ⟨hx, hb, hml, hown, hts⟩ hl.1 hK hP hS wd_356 ⟨(Nat.le_of_ble_eq_true rfl), (Nat.le_of_ble_eq_true rfl)⟩ q8 q7 (Nat.le_of_ble_eq_true rfl) dX6_value_10 ⟨(Nat.le_of_ble_eq_true rfl), (Nat.le_of_ble_eq_true rfl)⟩ (fun H locs hP hS => ?_)
    cases h
    exact e_ipx hx hb hlocks hr hS (Nat.le_of_ble_eq_true rfl) (Nat.le_of_ble_eq_true rfl) dX6_value_13
set_option maxRecDepth 100000 in
theorem c_X6_value {p : Program} {l : Launch} {e : Env} {R : Room} {s : State} {m : MethodId} {args : Array Value} {below : List Frame} {meth : Method} {c : Code} {H : Heap} {locs : List Loc} {cells slots : Nat} {Q : State → Prop} {cc : ByteArray} {pc index nL : Nat} {ls : Array Slot} {rest : List Value} {D : va_G} {cy : Nat → ClassId} {A0 : Nat → Prop} {S : St} {own : String} {u : Unit} {a0 : Nat} {a1 : Int32} {a2 : Int32} {x : String ⊕ Int32}  (hF : CallFix p m c cc nL s args ALLW own) (hsz : ls.size = nL) (hK : va_K D vwCl (tyL cy) s) (hP : SP D cy S H) (hS : va_S A0 s.heap H locs) (hE : ENV A0 s) (hl0 : l.stackTraces = false) (hk : Cond.methodLink own index yX6_value ∈ ALLW) (hR : rm_X6_value.frames + 1 ≤ R.frames ∧ 8 + (3 + 11) + rm_X6_value.locals ≤ R.locals) (h : f_X6_value S a0 a1 a2 = some x) (hc : oO S a0 5 = some u) (hW : (rest.map fun v => v.category).sum ≤ 8) (hdg : decode cc pc = .ok (.invokevirtual index, 3)) (hf : cells + 2 ≤ R.cells ∧ slots + 12 ≤ R.slots)
    (kx : ∀ (E : String) (ce : Cell) (q9 : Addr) (H1 : Heap) (locs1 : List Loc), x = .inl E → SP D cy S H1 → va_S A0 s.heap H1 locs1 → H1[q9]? = some ce → ce.vm = .none → s.vm.findClass E = some ce.cls → vx_W p l e R s m args below meth c H1 locs1 (cells + 2) (slots + 12) Q (F0 m pc ls rest) q9)
    (kk : ∀ (r : Int32) (H1 : Heap) (locs1 : List Loc), x = .inr r → SP D cy S H1 → va_S A0 s.heap H1 locs1 → W p l e R s m args below meth c H1 locs1 (cells + 2) (slots + 12) Q (F0 m (pc + 3) ls (.int r :: rest))) : W p l e R s m args below meth c H locs cells slots Q (F0 m pc ls (.int a2 :: .int a1 :: .ref a0 :: rest)) := by
  exact k_iVpx (As := [.int a1, .int a2]) hF hsz (m_X6_value l hl0 D cy S a0 a1 a2 x h) (cwV_of (n := 2) hF.2.2.2.2 hk wd_822 wd_823 wd_69 wd_824 rfl rfl (by decide +kernel) hR) rfl hK hP hS hE (ci := 5) hc rfl hW rfl hdg hf kx kk
/-- VowBlocks.sumOf(I)I -/
def f_X6_sumOf_L4 (S4_ : St) (y4_0 : Nat) (y4_1 : Int32) : Nat → Int32 → Int32 →  Option (Int32)
  | 0, _, _ => none
  | fu + 1, y4_2, y4_3 =>
    (gR S4_ y4_0 5 0).bind fun x3 =>
    (oO S4_ x3 1).bind fun _ =>
    (f_X2_size S4_ x3).bind fun x7 =>
    if x7 ≤ y4_3 then
      some y4_2
    else
      (gR S4_ y4_0 5 0).bind fun x9 =>
      (oO S4_ x9 1).bind fun _ =>
      (f_X2_at S4_ x9 y4_3).bind fun x13 =>
      (oO S4_ y4_0 5).bind fun _ =>
      (f_X6_propertyOf S4_ y4_0 x13 y4_1).bind fun x16 =>
      f_X6_sumOf_L4 S4_ y4_0 y4_1 fu (y4_2 + x16) (y4_3 + 1)
def f_X6_sumOf (S : St) (a0 : Nat) (a1 : Int32) : Option (Int32) :=
  (f_X6_sumOf_L4 S a0 a1 FU 0 0).bind fun z1 =>
  some z1
abbrev rm_X6_sumOf : Room := { frames := 4, cells := 0, slots := 0, locals := 93 }
set_option maxHeartbeats 4000000 in
set_option maxRecDepth 100000 in
theorem m_X6_sumOf (l : Launch) (D : va_G) (cy : Nat → ClassId) (S : St) (a0 : Nat) (a1 : Int32) (r : Int32) (h : f_X6_sumOf S a0 a1 = some r) : Met l yX6_sumOf (wsA yX6_sumOf cX6_sumOf 4 (some .int)) rm_X6_sumOf (va_Pc [.ref a0, .int a1] (PS D cy S)) (va_Qi (fun r' (_ : Unit) => r' = r) (fun _ _ => True) noA) 0 0 noA := by
  refine Met.ofW (cc := cX6_sumOf) (maxL := 4) (ret := (some .int)) (by decide) rfl ?_
  intro p e s m args below meth c s₁ B hml hv
  obtain ⟨rfl, hP, hK⟩ := hv
  have hx := B.exec
  have hb := B.bytes
  have hr := B.returns
  have hts9 := atoms_spec (ws := wsA yX6_sumOf cX6_sumOf 4 (some .int)) B.pre
  have hts : ∀ w ∈ ALLW, w.before _ s = true := fun w h => hts9 w (List.mem_cons_of_mem _ h)
  have hown : s.vm.findClass RX6 = some m.cls := findClass_of_methodNamed B.named
  have hlocks := B.notSynchronized
  have hS : va_S noA s.heap s.heap [] := va_S.rf
  have hl := lv_entry [.ref a0, .int a1] (n := 4) (Nat.le_of_ble_eq_true rfl)
  rw [lg_entry_eq]
  generalize (lg_sl [.ref a0, .int a1] ++ List.replicate (4 - (lg_sl [.ref a0, .int a1]).length) Slot.unset).toArray = ls at hl ⊢
  have hl : lv_has ls 4 [(0, .ref a0), (1, .int a1)] := hl
  rw [f_X6_sumOf] at h
  refine lv_iconst (v := 0) hx hb dX6_sumOf_0 (by decide) ?_
  refine lv_istore_n (lv' := [(2, .int 0), (0, .ref a0), (1, .int a1)]) hx hb dX6_sumOf_1 rfl hl (by decide) rfl (fun ls hl => ?_)
  refine lv_iconst (v := 0) hx hb dX6_sumOf_2 (by decide) ?_
  refine lv_istore_n (lv' := [(3, .int 0), (2, .int 0), (0, .ref a0), (1, .int a1)]) hx hb dX6_sumOf_3 rfl hl (by decide) rfl (fun ls hl => ?_)
  have L4 : ∀ (S4_ : St) (y4_0 : Nat) (y4_1 : Int32) (fu : Nat) (y4_2 : Int32) (y4_3 : Int32) (res : Int32), f_X6_sumOf_L4 S4_ y4_0 y4_1 fu y4_2 y4_3 = some res → ∀ (H : Heap) (locs : List Loc) (ls : Array Slot), SP D cy S4_ H → va_S noA s.heap H locs → lv_has ls 4 [(0, .ref y4_0), (1, .int y4_1), (2, .int y4_2), (3, .int y4_3)] → (∀ (H : Heap) (locs : List Loc) (ls : Array Slot), SP D cy S4_ H → va_S noA s.heap H locs → lv_has ls 4 [(2, .int res)] → W p l e rm_X6_sumOf s m ([.ref a0, .int a1] : List Value).toArray below meth c H locs 0 0 (MQ below (va_Qi (fun r' (_ : Unit) => r' = r) (fun _ _ => True) noA) ([.ref a0, .int a1] : List Value).toArray s 0 0 noA) (F0 m 37 ls [])) → W p l e rm_X6_sumOf s m ([.ref a0, .int a1] : List Value).toArray below meth c H locs 0 0 (MQ below (va_Qi (fun r' (_ : Unit) => r' = r) (fun _ _ => True) noA) ([.ref a0, .int a1] : List Value).toArray s 0 0 noA) (F0 m 4 ls []) := by
    intro S4_ y4_0 y4_1 fu
    induction fu with
    | zero =>
      intro y4_2 y4_3 res h
      rw [f_X6_sumOf_L4] at h
      cases h
    | succ fu ih =>
      intro y4_2 y4_3 res h H locs ls hP hS hl hexit
      rw [f_X6_sumOf_L4] at h
      refine lv_iload_n hx hb dX6_sumOf_4 rfl (lv_at hl 3 rfl) ?_
      refine lv_aload_n hx hb dX6_sumOf_5 rfl (lv_at hl 0 rfl) ?_
      replace h := bd h
      obtain ⟨x3, q4, h⟩ := h
      refine fg_5_0 hx hb hts hown hK hP wd_214 q4 dX6_sumOf_6 ?_
      replace h := bd h
      obtain ⟨_, q5, h⟩ := h
      replace h := bd h
      obtain ⟨x7, q6, h⟩ := h
      refine c_X2_size ⟨hx, hb, hml, hown, hts⟩ hl.1 hK hP hS wd_267 ⟨(Nat.le_of_ble_eq_true rfl), (Nat.le_of_ble_eq_true rfl)⟩ q6 q5 (Nat.le_of_ble_eq_true rfl) dX6_sumOf_9 ⟨(Nat.le_of_ble_eq_true rfl), (Nat.le_of_ble_eq_true rfl)⟩ (fun H locs hP hS => ?_)
      refine lv_icmp_ge (tgt := 37) hx hb dX6_sumOf_12 (by decide) (fun c8 => ?_) (fun c8 => ?_)
      · replace h := ifp c8 h
        cases h
        exact hexit _ _ _ hP hS (lv_sub hl [2] rfl)
      · replace h := ifn c8 h
        refine lv_iload_n hx hb dX6_sumOf_15 rfl (lv_at hl 2 rfl) ?_
        refine lv_aload_n hx hb dX6_sumOf_16 rfl (lv_at hl 0 rfl) ?_
        refine lv_aload_n hx hb dX6_sumOf_17 rfl (lv_at hl 0 rfl) ?_
        replace h := bd h
        obtain ⟨x9, q10, h⟩ := h
        refine fg_5_0 hx hb hts hown hK hP wd_214 q10 dX6_sumOf_18 ?_
        refine lv_iload_n hx hb dX6_sumOf_21 rfl (lv_at hl 3 rfl) ?_
        replace h := bd h
        obtain ⟨_, q11, h⟩ := h
        replace h := bd h
        obtain ⟨x13, q12, h⟩ := h
        refine c_X2_at ⟨hx, hb, hml, hown, hts⟩ hl.1 hK hP hS wd_271 ⟨(Nat.le_of_ble_eq_true rfl), (Nat.le_of_ble_eq_true rfl)⟩ q12 q11 (Nat.le_of_ble_eq_true rfl) dX6_sumOf_22 ⟨(Nat.le_of_ble_eq_true rfl), (Nat.le_of_ble_eq_true rfl)⟩ (fun H locs hP hS => ?_)
        refine lv_iload_n hx hb dX6_sumOf_25 rfl (lv_at hl 1 rfl) ?_
        replace h := bd h
        obtain ⟨_, q14, h⟩ := h
        replace h := bd h
        obtain ⟨x16, q15, h⟩ := h
        refine c_X6_propertyOf ⟨hx, hb, hml, hown, hts⟩ hl.1 hK hP hS wd_279 ⟨(Nat.le_of_ble_eq_true rfl), (Nat.le_of_ble_eq_true rfl)⟩ q15 q14 (Nat.le_of_ble_eq_true rfl) dX6_sumOf_26 ⟨(Nat.le_of_ble_eq_true rfl), (Nat.le_of_ble_eq_true rfl)⟩ (fun H locs hP hS => ?_)
        refine lv_iadd hx hb dX6_sumOf_29 ?_
        refine lv_istore_n (lv' := [(2, .int (y4_2 + x16)), (0, .ref y4_0), (1, .int y4_1), (3, .int y4_3)]) hx hb dX6_sumOf_30 rfl hl (by decide) rfl (fun ls hl => ?_)
        refine lv_iinc (v := (y4_3 + 1)) (lv' := [(3, .int (y4_3 + 1)), (2, .int (y4_2 + x16)), (0, .ref y4_0), (1, .int y4_1)]) hx hb dX6_sumOf_31 hl (k := 3) rfl rfl (by decide) rfl (fun ls hl => ?_)
        refine lv_goto (tgt := 4) hx hb dX6_sumOf_34 (by decide) ?_
        exact ih (y4_2 + x16) (y4_3 + 1) _ h _ _ _ hP hS (lv_sub hl [2, 3, 1, 0] rfl) hexit
  replace h := bd h
  obtain ⟨z1, q17, h⟩ := h
  refine L4 S a0 a1 FU 0 0 z1 q17 _ _ _ hP hS (lv_sub hl [2, 3, 1, 0] rfl) (fun H locs ls hP hS hl => ?_)
  refine lv_iload_n hx hb dX6_sumOf_37 rfl (lv_at hl 0 rfl) ?_
  cases h
  exact e_ip hx hb hlocks hr hS (Nat.le_of_ble_eq_true rfl) (Nat.le_of_ble_eq_true rfl) dX6_sumOf_38
set_option maxRecDepth 100000 in
theorem c_X6_sumOf {p : Program} {l : Launch} {e : Env} {R : Room} {s : State} {m : MethodId} {args : Array Value} {below : List Frame} {meth : Method} {c : Code} {H : Heap} {locs : List Loc} {cells slots : Nat} {Q : State → Prop} {cc : ByteArray} {pc index nL : Nat} {ls : Array Slot} {rest : List Value} {D : va_G} {cy : Nat → ClassId} {A0 : Nat → Prop} {S : St} {H0 : Heap} {own : String} {u : Unit} {a0 : Nat} {a1 : Int32} {r : Int32}  (hF : CallFix p m c cc nL s args ALLW own) (hsz : ls.size = nL) (hK : va_K D vwCl (tyL cy) s) (hP : SP D cy S H) (hS : va_S A0 H0 H locs) (hk : Cond.methodLink own index yX6_sumOf ∈ ALLW) (hR : rm_X6_sumOf.frames + 1 ≤ R.frames ∧ 8 + (4 + 11) + rm_X6_sumOf.locals ≤ R.locals) (h : f_X6_sumOf S a0 a1 = some r) (hc : oO S a0 5 = some u) (hW : (rest.map fun v => v.category).sum ≤ 8) (hdg : decode cc pc = .ok (.invokevirtual index, 3)) (hf : cells + 0 ≤ R.cells ∧ slots + 0 ≤ R.slots)
    (kk : ∀ (H1 : Heap) (locs1 : List Loc), SP D cy S H1 → va_S A0 H0 H1 locs1 → W p l e R s m args below meth c H1 locs1 (cells + 0) (slots + 0) Q (F0 m (pc + 3) ls (.int r :: rest))) : W p l e R s m args below meth c H locs cells slots Q (F0 m pc ls (.int a1 :: .ref a0 :: rest)) := by
  exact k_iVp (As := [.int a1]) hF hsz (m_X6_sumOf l D cy S a0 a1 r h) (cwV_of (n := 1) hF.2.2.2.2 hk wd_265 wd_3 wd_69 wd_266 rfl rfl (by decide +kernel) hR) rfl hK hP hS (ci := 5) hc rfl hW rfl hdg hf kk
/-- VowBlocks.countOf(I)I -/
def f_X6_countOf (S : St) (a0 : Nat) (a1 : Int32) : Option (Int32) :=
  if a1 = 0 then
    (gR S a0 5 0).bind fun x17 =>
    (oO S x17 1).bind fun _ =>
    (f_X2_size S x17).bind fun x21 =>
    some x21
  else
    if a1 = 1 then
      (gR S a0 5 0).bind fun x22 =>
      (gI S x22 1 2).bind fun x24 =>
      some x24
    else
      if a1 = 2 then
        (oO S a0 5).bind fun _ =>
        (f_X6_sumOf S a0 0).bind fun x28 =>
        some x28
      else
        if a1 = 3 then
          (oO S a0 5).bind fun _ =>
          (f_X6_sumOf S a0 2).bind fun x31 =>
          some x31
        else
          if a1 = 4 then
            (oO S a0 5).bind fun _ =>
            (f_X6_sumOf S a0 9).bind fun x34 =>
            some x34
          else
            if a1 = 5 then
              (oO S a0 5).bind fun _ =>
              (f_X6_sumOf S a0 4).bind fun x37 =>
              some x37
            else
              if a1 = 6 then
                (oO S a0 5).bind fun _ =>
                (f_X6_sumOf S a0 5).bind fun x40 =>
                some x40
              else
                if a1 = 7 then
                  (oO S a0 5).bind fun _ =>
                  (f_X6_sumOf S a0 7).bind fun x43 =>
                  some x43
                else
                  if a1 = 8 then
                    (gR S a0 5 0).bind fun x44 =>
                    (oO S x44 1).bind fun _ =>
                    (f_X2_differentRows S x44).bind fun x48 =>
                    some x48
                  else
                    if a1 = 9 then
                      (gR S a0 5 1).bind fun x49 =>
                      (oO S x49 2).bind fun _ =>
                      (f_X3_size S x49).bind fun x53 =>
                      some x53
                    else
                      (gR S a0 5 0).bind fun x11 =>
                      (oO S x11 1).bind fun _ =>
                      (f_X2_blocksWithCode S x11 (a1 - 10)).bind fun x15 =>
                      some x15
abbrev rm_X6_countOf : Room := { frames := 5, cells := 0, slots := 0, locals := 116 }
set_option maxHeartbeats 4000000 in
set_option maxRecDepth 100000 in
theorem m_X6_countOf (l : Launch) (D : va_G) (cy : Nat → ClassId) (S : St) (a0 : Nat) (a1 : Int32) (r : Int32) (h : f_X6_countOf S a0 a1 = some r) : Met l yX6_countOf (wsA yX6_countOf cX6_countOf 2 (some .int)) rm_X6_countOf (va_Pc [.ref a0, .int a1] (PS D cy S)) (va_Qi (fun r' (_ : Unit) => r' = r) (fun _ _ => True) noA) 0 0 noA := by
  refine Met.ofW (cc := cX6_countOf) (maxL := 2) (ret := (some .int)) (by decide) rfl ?_
  intro p e s m args below meth c s₁ B hml hv
  obtain ⟨rfl, hP, hK⟩ := hv
  have hx := B.exec
  have hb := B.bytes
  have hr := B.returns
  have hts9 := atoms_spec (ws := wsA yX6_countOf cX6_countOf 2 (some .int)) B.pre
  have hts : ∀ w ∈ ALLW, w.before _ s = true := fun w h => hts9 w (List.mem_cons_of_mem _ h)
  have hown : s.vm.findClass RX6 = some m.cls := findClass_of_methodNamed B.named
  have hlocks := B.notSynchronized
  have hS : va_S noA s.heap s.heap [] := va_S.rf
  have hl := lv_entry [.ref a0, .int a1] (n := 2) (Nat.le_of_ble_eq_true rfl)
  rw [lg_entry_eq]
  generalize (lg_sl [.ref a0, .int a1] ++ List.replicate (2 - (lg_sl [.ref a0, .int a1]).length) Slot.unset).toArray = ls at hl ⊢
  have hl : lv_has ls 2 [(0, .ref a0), (1, .int a1)] := hl
  rw [f_X6_countOf] at h
  refine lv_iload_n hx hb dX6_countOf_0 rfl (lv_at hl 1 rfl) ?_
  by_cases c1 : a1 = 0
  · replace h := ifp c1 h
    refine lv_tableIn (off := 55) (tgt := 56) hx hb dX6_countOf_1 (by rw [c1]; decide) (by rw [c1]; decide) (by rw [c1]; rfl) (by decide) ?_
    refine lv_aload_n hx hb dX6_countOf_56 rfl (lv_at hl 0 rfl) ?_
    replace h := bd h
    obtain ⟨x17, q18, h⟩ := h
    refine fg_5_0 hx hb hts hown hK hP wd_214 q18 dX6_countOf_57 ?_
    replace h := bd h
    obtain ⟨_, q19, h⟩ := h
    replace h := bd h
    obtain ⟨x21, q20, h⟩ := h
    refine c_X2_size ⟨hx, hb, hml, hown, hts⟩ hl.1 hK hP hS wd_267 ⟨(Nat.le_of_ble_eq_true rfl), (Nat.le_of_ble_eq_true rfl)⟩ q20 q19 (Nat.le_of_ble_eq_true rfl) dX6_countOf_60 ⟨(Nat.le_of_ble_eq_true rfl), (Nat.le_of_ble_eq_true rfl)⟩ (fun H locs hP hS => ?_)
    cases h
    exact e_ip hx hb hlocks hr hS (Nat.le_of_ble_eq_true rfl) (Nat.le_of_ble_eq_true rfl) dX6_countOf_63
  · replace h := ifn c1 h
    by_cases c2 : a1 = 1
    · replace h := ifp c2 h
      refine lv_tableIn (off := 63) (tgt := 64) hx hb dX6_countOf_1 (by rw [c2]; decide) (by rw [c2]; decide) (by rw [c2]; rfl) (by decide) ?_
      refine lv_aload_n hx hb dX6_countOf_64 rfl (lv_at hl 0 rfl) ?_
      replace h := bd h
      obtain ⟨x22, q23, h⟩ := h
      refine fg_5_0 hx hb hts hown hK hP wd_214 q23 dX6_countOf_65 ?_
      replace h := bd h
      obtain ⟨x24, q25, h⟩ := h
      refine fg_1_2 hx hb hts hown hK hP wd_158 q25 dX6_countOf_68 ?_
      cases h
      exact e_ip hx hb hlocks hr hS (Nat.le_of_ble_eq_true rfl) (Nat.le_of_ble_eq_true rfl) dX6_countOf_71
    · replace h := ifn c2 h
      by_cases c3 : a1 = 2
      · replace h := ifp c3 h
        refine lv_tableIn (off := 71) (tgt := 72) hx hb dX6_countOf_1 (by rw [c3]; decide) (by rw [c3]; decide) (by rw [c3]; rfl) (by decide) ?_
        refine lv_aload_n hx hb dX6_countOf_72 rfl (lv_at hl 0 rfl) ?_
        refine lv_iconst (v := 0) hx hb dX6_countOf_73 (by decide) ?_
        replace h := bd h
        obtain ⟨_, q26, h⟩ := h
        replace h := bd h
        obtain ⟨x28, q27, h⟩ := h
        refine c_X6_sumOf ⟨hx, hb, hml, hown, hts⟩ hl.1 hK hP hS wd_263 ⟨(Nat.le_of_ble_eq_true rfl), (Nat.le_of_ble_eq_true rfl)⟩ q27 q26 (Nat.le_of_ble_eq_true rfl) dX6_countOf_74 ⟨(Nat.le_of_ble_eq_true rfl), (Nat.le_of_ble_eq_true rfl)⟩ (fun H locs hP hS => ?_)
        cases h
        exact e_ip hx hb hlocks hr hS (Nat.le_of_ble_eq_true rfl) (Nat.le_of_ble_eq_true rfl) dX6_countOf_77
      · replace h := ifn c3 h
        by_cases c4 : a1 = 3
        · replace h := ifp c4 h
          refine lv_tableIn (off := 77) (tgt := 78) hx hb dX6_countOf_1 (by rw [c4]; decide) (by rw [c4]; decide) (by rw [c4]; rfl) (by decide) ?_
          refine lv_aload_n hx hb dX6_countOf_78 rfl (lv_at hl 0 rfl) ?_
          refine lv_iconst (v := 2) hx hb dX6_countOf_79 (by decide) ?_
          replace h := bd h
          obtain ⟨_, q29, h⟩ := h
          replace h := bd h
          obtain ⟨x31, q30, h⟩ := h
          refine c_X6_sumOf ⟨hx, hb, hml, hown, hts⟩ hl.1 hK hP hS wd_263 ⟨(Nat.le_of_ble_eq_true rfl), (Nat.le_of_ble_eq_true rfl)⟩ q30 q29 (Nat.le_of_ble_eq_true rfl) dX6_countOf_80 ⟨(Nat.le_of_ble_eq_true rfl), (Nat.le_of_ble_eq_true rfl)⟩ (fun H locs hP hS => ?_)
          cases h
          exact e_ip hx hb hlocks hr hS (Nat.le_of_ble_eq_true rfl) (Nat.le_of_ble_eq_true rfl) dX6_countOf_83
        · replace h := ifn c4 h
          by_cases c5 : a1 = 4
          · replace h := ifp c5 h
            refine lv_tableIn (off := 83) (tgt := 84) hx hb dX6_countOf_1 (by rw [c5]; decide) (by rw [c5]; decide) (by rw [c5]; rfl) (by decide) ?_
            refine lv_aload_n hx hb dX6_countOf_84 rfl (lv_at hl 0 rfl) ?_
            refine lv_bipush (v := 9) hx hb dX6_countOf_85 (by decide) ?_
            replace h := bd h
            obtain ⟨_, q32, h⟩ := h
            replace h := bd h
            obtain ⟨x34, q33, h⟩ := h
            refine c_X6_sumOf ⟨hx, hb, hml, hown, hts⟩ hl.1 hK hP hS wd_263 ⟨(Nat.le_of_ble_eq_true rfl), (Nat.le_of_ble_eq_true rfl)⟩ q33 q32 (Nat.le_of_ble_eq_true rfl) dX6_countOf_87 ⟨(Nat.le_of_ble_eq_true rfl), (Nat.le_of_ble_eq_true rfl)⟩ (fun H locs hP hS => ?_)
            cases h
            exact e_ip hx hb hlocks hr hS (Nat.le_of_ble_eq_true rfl) (Nat.le_of_ble_eq_true rfl) dX6_countOf_90
          · replace h := ifn c5 h
            by_cases c6 : a1 = 5
            · replace h := ifp c6 h
              refine lv_tableIn (off := 90) (tgt := 91) hx hb dX6_countOf_1 (by rw [c6]; decide) (by rw [c6]; decide) (by rw [c6]; rfl) (by decide) ?_
              refine lv_aload_n hx hb dX6_countOf_91 rfl (lv_at hl 0 rfl) ?_
              refine lv_iconst (v := 4) hx hb dX6_countOf_92 (by decide) ?_
              replace h := bd h
              obtain ⟨_, q35, h⟩ := h
              replace h := bd h
              obtain ⟨x37, q36, h⟩ := h
              refine c_X6_sumOf ⟨hx, hb, hml, hown, hts⟩ hl.1 hK hP hS wd_263 ⟨(Nat.le_of_ble_eq_true rfl), (Nat.le_of_ble_eq_true rfl)⟩ q36 q35 (Nat.le_of_ble_eq_true rfl) dX6_countOf_93 ⟨(Nat.le_of_ble_eq_true rfl), (Nat.le_of_ble_eq_true rfl)⟩ (fun H locs hP hS => ?_)
              cases h
              exact e_ip hx hb hlocks hr hS (Nat.le_of_ble_eq_true rfl) (Nat.le_of_ble_eq_true rfl) dX6_countOf_96
            · replace h := ifn c6 h
              by_cases c7 : a1 = 6
              · replace h := ifp c7 h
                refine lv_tableIn (off := 96) (tgt := 97) hx hb dX6_countOf_1 (by rw [c7]; decide) (by rw [c7]; decide) (by rw [c7]; rfl) (by decide) ?_
                refine lv_aload_n hx hb dX6_countOf_97 rfl (lv_at hl 0 rfl) ?_
                refine lv_iconst (v := 5) hx hb dX6_countOf_98 (by decide) ?_
                replace h := bd h
                obtain ⟨_, q38, h⟩ := h
                replace h := bd h
                obtain ⟨x40, q39, h⟩ := h
                refine c_X6_sumOf ⟨hx, hb, hml, hown, hts⟩ hl.1 hK hP hS wd_263 ⟨(Nat.le_of_ble_eq_true rfl), (Nat.le_of_ble_eq_true rfl)⟩ q39 q38 (Nat.le_of_ble_eq_true rfl) dX6_countOf_99 ⟨(Nat.le_of_ble_eq_true rfl), (Nat.le_of_ble_eq_true rfl)⟩ (fun H locs hP hS => ?_)
                cases h
                exact e_ip hx hb hlocks hr hS (Nat.le_of_ble_eq_true rfl) (Nat.le_of_ble_eq_true rfl) dX6_countOf_102
              · replace h := ifn c7 h
                by_cases c8 : a1 = 7
                · replace h := ifp c8 h
                  refine lv_tableIn (off := 102) (tgt := 103) hx hb dX6_countOf_1 (by rw [c8]; decide) (by rw [c8]; decide) (by rw [c8]; rfl) (by decide) ?_
                  refine lv_aload_n hx hb dX6_countOf_103 rfl (lv_at hl 0 rfl) ?_
                  refine lv_bipush (v := 7) hx hb dX6_countOf_104 (by decide) ?_
                  replace h := bd h
                  obtain ⟨_, q41, h⟩ := h
                  replace h := bd h
                  obtain ⟨x43, q42, h⟩ := h
                  refine c_X6_sumOf ⟨hx, hb, hml, hown, hts⟩ hl.1 hK hP hS wd_263 ⟨(Nat.le_of_ble_eq_true rfl), (Nat.le_of_ble_eq_true rfl)⟩ q42 q41 (Nat.le_of_ble_eq_true rfl) dX6_countOf_106 ⟨(Nat.le_of_ble_eq_true rfl), (Nat.le_of_ble_eq_true rfl)⟩ (fun H locs hP hS => ?_)
                  cases h
                  exact e_ip hx hb hlocks hr hS (Nat.le_of_ble_eq_true rfl) (Nat.le_of_ble_eq_true rfl) dX6_countOf_109
                · replace h := ifn c8 h
                  by_cases c9 : a1 = 8
                  · replace h := ifp c9 h
                    refine lv_tableIn (off := 109) (tgt := 110) hx hb dX6_countOf_1 (by rw [c9]; decide) (by rw [c9]; decide) (by rw [c9]; rfl) (by decide) ?_
                    refine lv_aload_n hx hb dX6_countOf_110 rfl (lv_at hl 0 rfl) ?_
                    replace h := bd h
                    obtain ⟨x44, q45, h⟩ := h
                    refine fg_5_0 hx hb hts hown hK hP wd_214 q45 dX6_countOf_111 ?_
                    replace h := bd h
                    obtain ⟨_, q46, h⟩ := h
                    replace h := bd h
                    obtain ⟨x48, q47, h⟩ := h
                    refine c_X2_differentRows ⟨hx, hb, hml, hown, hts⟩ hl.1 hK hP hS wd_335 ⟨(Nat.le_of_ble_eq_true rfl), (Nat.le_of_ble_eq_true rfl)⟩ q47 q46 (Nat.le_of_ble_eq_true rfl) dX6_countOf_114 ⟨(Nat.le_of_ble_eq_true rfl), (Nat.le_of_ble_eq_true rfl)⟩ (fun H locs hP hS => ?_)
                    cases h
                    exact e_ip hx hb hlocks hr hS (Nat.le_of_ble_eq_true rfl) (Nat.le_of_ble_eq_true rfl) dX6_countOf_117
                  · replace h := ifn c9 h
                    by_cases c10 : a1 = 9
                    · replace h := ifp c10 h
                      refine lv_tableIn (off := 117) (tgt := 118) hx hb dX6_countOf_1 (by rw [c10]; decide) (by rw [c10]; decide) (by rw [c10]; rfl) (by decide) ?_
                      refine lv_aload_n hx hb dX6_countOf_118 rfl (lv_at hl 0 rfl) ?_
                      replace h := bd h
                      obtain ⟨x49, q50, h⟩ := h
                      refine fg_5_1 hx hb hts hown hK hP wd_215 q50 dX6_countOf_119 ?_
                      replace h := bd h
                      obtain ⟨_, q51, h⟩ := h
                      replace h := bd h
                      obtain ⟨x53, q52, h⟩ := h
                      refine c_X3_size ⟨hx, hb, hml, hown, hts⟩ hl.1 hK hP hS wd_340 ⟨(Nat.le_of_ble_eq_true rfl), (Nat.le_of_ble_eq_true rfl)⟩ q52 q51 (Nat.le_of_ble_eq_true rfl) dX6_countOf_122 ⟨(Nat.le_of_ble_eq_true rfl), (Nat.le_of_ble_eq_true rfl)⟩ (fun H locs hP hS => ?_)
                      cases h
                      exact e_ip hx hb hlocks hr hS (Nat.le_of_ble_eq_true rfl) (Nat.le_of_ble_eq_true rfl) dX6_countOf_125
                    · replace h := ifn c10 h
                      refine lv_tableOut (tgt := 126) hx hb dX6_countOf_1 (tsw_out (x := a1) 0 10 (fun k hk => by match k, hk with | 0, _ => exact c1 | 1, _ => exact c2 | 2, _ => exact c3 | 3, _ => exact c4 | 4, _ => exact c5 | 5, _ => exact c6 | 6, _ => exact c7 | 7, _ => exact c8 | 8, _ => exact c9 | 9, _ => exact c10) (by decide)) (by decide) ?_
                      refine lv_aload_n hx hb dX6_countOf_126 rfl (lv_at hl 0 rfl) ?_
                      replace h := bd h
                      obtain ⟨x11, q12, h⟩ := h
                      refine fg_5_0 hx hb hts hown hK hP wd_214 q12 dX6_countOf_127 ?_
                      refine lv_iload_n hx hb dX6_countOf_130 rfl (lv_at hl 1 rfl) ?_
                      refine lv_bipush (v := 10) hx hb dX6_countOf_131 (by decide) ?_
                      refine lv_isub hx hb dX6_countOf_133 ?_
                      replace h := bd h
                      obtain ⟨_, q13, h⟩ := h
                      replace h := bd h
                      obtain ⟨x15, q14, h⟩ := h
                      refine c_X2_blocksWithCode ⟨hx, hb, hml, hown, hts⟩ hl.1 hK hP hS wd_344 ⟨(Nat.le_of_ble_eq_true rfl), (Nat.le_of_ble_eq_true rfl)⟩ q14 q13 (Nat.le_of_ble_eq_true rfl) dX6_countOf_134 ⟨(Nat.le_of_ble_eq_true rfl), (Nat.le_of_ble_eq_true rfl)⟩ (fun H locs hP hS => ?_)
                      cases h
                      exact e_ip hx hb hlocks hr hS (Nat.le_of_ble_eq_true rfl) (Nat.le_of_ble_eq_true rfl) dX6_countOf_137
set_option maxRecDepth 100000 in
theorem c_X6_countOf {p : Program} {l : Launch} {e : Env} {R : Room} {s : State} {m : MethodId} {args : Array Value} {below : List Frame} {meth : Method} {c : Code} {H : Heap} {locs : List Loc} {cells slots : Nat} {Q : State → Prop} {cc : ByteArray} {pc index nL : Nat} {ls : Array Slot} {rest : List Value} {D : va_G} {cy : Nat → ClassId} {A0 : Nat → Prop} {S : St} {H0 : Heap} {own : String} {u : Unit} {a0 : Nat} {a1 : Int32} {r : Int32}  (hF : CallFix p m c cc nL s args ALLW own) (hsz : ls.size = nL) (hK : va_K D vwCl (tyL cy) s) (hP : SP D cy S H) (hS : va_S A0 H0 H locs) (hk : Cond.methodLink own index yX6_countOf ∈ ALLW) (hR : rm_X6_countOf.frames + 1 ≤ R.frames ∧ 8 + (2 + 11) + rm_X6_countOf.locals ≤ R.locals) (h : f_X6_countOf S a0 a1 = some r) (hc : oO S a0 5 = some u) (hW : (rest.map fun v => v.category).sum ≤ 8) (hdg : decode cc pc = .ok (.invokevirtual index, 3)) (hf : cells + 0 ≤ R.cells ∧ slots + 0 ≤ R.slots)
    (kk : ∀ (H1 : Heap) (locs1 : List Loc), SP D cy S H1 → va_S A0 H0 H1 locs1 → W p l e R s m args below meth c H1 locs1 (cells + 0) (slots + 0) Q (F0 m (pc + 3) ls (.int r :: rest))) : W p l e R s m args below meth c H locs cells slots Q (F0 m pc ls (.int a1 :: .ref a0 :: rest)) := by
  exact k_iVp (As := [.int a1]) hF hsz (m_X6_countOf l D cy S a0 a1 r h) (cwV_of (n := 1) hF.2.2.2.2 hk wd_333 wd_5 wd_69 wd_334 rfl rfl (by decide +kernel) hR) rfl hK hP hS (ci := 5) hc rfl hW rfl hdg hf kk
/-- VowBlocks.count(I)I -/
def f_X6_count (S : St) (a0 : Nat) (a1 : Int32) : Option (String ⊕ Int32) :=
  (f_X6_requireWithin a1 0 15).bind fun z2 =>
  Sum.elim (fun E =>
    some (.inl E)
  ) (fun _ =>
  (oO S a0 5).bind fun _ =>
  (f_X6_countOf S a0 a1).bind fun x6 =>
  some (.inr x6)
  ) z2
abbrev rm_X6_count : Room := { frames := 7, cells := 1, slots := 6, locals := 137 }
set_option maxHeartbeats 4000000 in
set_option maxRecDepth 100000 in
theorem m_X6_count (l : Launch) (hl0 : l.stackTraces = false) (D : va_G) (cy : Nat → ClassId) (S : St) (a0 : Nat) (a1 : Int32) (x : String ⊕ Int32) (h : f_X6_count S a0 a1 = some x) : vx_Met l yX6_count (wsA yX6_count cX6_count 2 (some .int)) rm_X6_count (va_Pc [.ref a0, .int a1] (PSX D cy S)) (va_Qi (fun r' (_ : Unit) => x = .inr r') (fun _ _ => True) noA) (vx_X (fun _ : Unit => True) (fun E _ _ => x = .inl E) noA) 1 6 noA := by
  refine vx_ofW (cc := cX6_count) (maxL := 2) (ret := (some .int)) (by decide) rfl ?_
  intro p e s m args below meth c s₁ B hml htb hv
  obtain ⟨rfl, hP, hK, hE⟩ := hv
  have hx := B.exec
  have hb := B.bytes
  have hr := B.returns
  have hts9 := atoms_spec (ws := wsA yX6_count cX6_count 2 (some .int)) B.pre
  have hts : ∀ w ∈ ALLW, w.before _ s = true := fun w h => hts9 w (List.mem_cons_of_mem _ h)
  have hown : s.vm.findClass RX6 = some m.cls := findClass_of_methodNamed B.named
  have hlocks := B.notSynchronized
  have hS : va_S noA s.heap s.heap [] := va_S.rf
  have hl := lv_entry [.ref a0, .int a1] (n := 2) (Nat.le_of_ble_eq_true rfl)
  rw [lg_entry_eq]
  generalize (lg_sl [.ref a0, .int a1] ++ List.replicate (2 - (lg_sl [.ref a0, .int a1]).length) Slot.unset).toArray = ls at hl ⊢
  have hl : lv_has ls 2 [(0, .ref a0), (1, .int a1)] := hl
  rw [f_X6_count] at h
  refine lv_iload_n hx hb dX6_count_0 rfl (lv_at hl 1 rfl) ?_
  refine lv_iconst (v := 0) hx hb dX6_count_1 (by decide) ?_
  refine lv_bipush (v := 15) hx hb dX6_count_2 (by decide) ?_
  replace h := bd h
  obtain ⟨z2, q1, h⟩ := h
  refine c_X6_requireWithin ⟨hx, hb, hml, hown, hts⟩ hl.1 hK hP hS hE hl0 wd_482 ⟨(Nat.le_of_ble_eq_true rfl), (Nat.le_of_ble_eq_true rfl)⟩ q1 (Nat.le_of_ble_eq_true rfl) dX6_count_4 ⟨(Nat.le_of_ble_eq_true rfl), (Nat.le_of_ble_eq_true rfl)⟩ (fun E ce qx9 H locs hx9 hP hS h1 h2 h3 => ?_) (fun H locs hx9 hP hS => ?_)
  · replace h := sel_l hx9 h
    cases h
    exact o_p (fun x h => (htb x h).elim) hlocks h1 h2 h3 hS (Nat.le_of_ble_eq_true rfl) (Nat.le_of_ble_eq_true rfl)
  · replace h := sel_r hx9 h
    refine lv_aload_n hx hb dX6_count_7 rfl (lv_at hl 0 rfl) ?_
    refine lv_iload_n hx hb dX6_count_8 rfl (lv_at hl 1 rfl) ?_
    replace h := bd h
    obtain ⟨_, q4, h⟩ := h
    replace h := bd h
    obtain ⟨x6, q5, h⟩ := h
    refine c_X6_countOf ⟨hx, hb, hml, hown, hts⟩ hl.1 hK hP hS wd_331 ⟨(Nat.le_of_ble_eq_true rfl), (Nat.le_of_ble_eq_true rfl)⟩ q5 q4 (Nat.le_of_ble_eq_true rfl) dX6_count_9 ⟨(Nat.le_of_ble_eq_true rfl), (Nat.le_of_ble_eq_true rfl)⟩ (fun H locs hP hS => ?_)
    cases h
    exact e_ipx hx hb hlocks hr hS (Nat.le_of_ble_eq_true rfl) (Nat.le_of_ble_eq_true rfl) dX6_count_12
set_option maxRecDepth 100000 in
theorem c_X6_count {p : Program} {l : Launch} {e : Env} {R : Room} {s : State} {m : MethodId} {args : Array Value} {below : List Frame} {meth : Method} {c : Code} {H : Heap} {locs : List Loc} {cells slots : Nat} {Q : State → Prop} {cc : ByteArray} {pc index nL : Nat} {ls : Array Slot} {rest : List Value} {D : va_G} {cy : Nat → ClassId} {A0 : Nat → Prop} {S : St} {own : String} {u : Unit} {a0 : Nat} {a1 : Int32} {x : String ⊕ Int32}  (hF : CallFix p m c cc nL s args ALLW own) (hsz : ls.size = nL) (hK : va_K D vwCl (tyL cy) s) (hP : SP D cy S H) (hS : va_S A0 s.heap H locs) (hE : ENV A0 s) (hl0 : l.stackTraces = false) (hk : Cond.methodLink own index yX6_count ∈ ALLW) (hR : rm_X6_count.frames + 1 ≤ R.frames ∧ 8 + (2 + 11) + rm_X6_count.locals ≤ R.locals) (h : f_X6_count S a0 a1 = some x) (hc : oO S a0 5 = some u) (hW : (rest.map fun v => v.category).sum ≤ 8) (hdg : decode cc pc = .ok (.invokevirtual index, 3)) (hf : cells + 1 ≤ R.cells ∧ slots + 6 ≤ R.slots)
    (kx : ∀ (E : String) (ce : Cell) (q9 : Addr) (H1 : Heap) (locs1 : List Loc), x = .inl E → SP D cy S H1 → va_S A0 s.heap H1 locs1 → H1[q9]? = some ce → ce.vm = .none → s.vm.findClass E = some ce.cls → vx_W p l e R s m args below meth c H1 locs1 (cells + 1) (slots + 6) Q (F0 m pc ls rest) q9)
    (kk : ∀ (r : Int32) (H1 : Heap) (locs1 : List Loc), x = .inr r → SP D cy S H1 → va_S A0 s.heap H1 locs1 → W p l e R s m args below meth c H1 locs1 (cells + 1) (slots + 6) Q (F0 m (pc + 3) ls (.int r :: rest))) : W p l e R s m args below meth c H locs cells slots Q (F0 m pc ls (.int a1 :: .ref a0 :: rest)) := by
  exact k_iVpx (As := [.int a1]) hF hsz (m_X6_count l hl0 D cy S a0 a1 x h) (cwV_of (n := 1) hF.2.2.2.2 hk wd_829 wd_830 wd_69 wd_831 rfl rfl (by decide +kernel) hR) rfl hK hP hS hE (ci := 5) hc rfl hW rfl hdg hf kx kk
/-- VowBlocks.setting(I)I -/
def f_X6_setting (S : St) (a0 : Nat) (a1 : Int32) : Option (String ⊕ Int32) :=
  (oO S a0 5).bind fun _ =>
  (f_X6_settingAt S a0 a1).bind fun z3 =>
  Sum.elim (fun E =>
    some (.inl E)
  ) (fun x4 =>
  some (.inr x4)
  ) z3
abbrev rm_X6_setting : Room := { frames := 7, cells := 1, slots := 6, locals := 103 }
set_option maxHeartbeats 4000000 in
set_option maxRecDepth 100000 in
theorem m_X6_setting (l : Launch) (hl0 : l.stackTraces = false) (D : va_G) (cy : Nat → ClassId) (S : St) (a0 : Nat) (a1 : Int32) (x : String ⊕ Int32) (h : f_X6_setting S a0 a1 = some x) : vx_Met l yX6_setting (wsA yX6_setting cX6_setting 2 (some .int)) rm_X6_setting (va_Pc [.ref a0, .int a1] (PSX D cy S)) (va_Qi (fun r' (_ : Unit) => x = .inr r') (fun _ _ => True) noA) (vx_X (fun _ : Unit => True) (fun E _ _ => x = .inl E) noA) 1 6 noA := by
  refine vx_ofW (cc := cX6_setting) (maxL := 2) (ret := (some .int)) (by decide) rfl ?_
  intro p e s m args below meth c s₁ B hml htb hv
  obtain ⟨rfl, hP, hK, hE⟩ := hv
  have hx := B.exec
  have hb := B.bytes
  have hr := B.returns
  have hts9 := atoms_spec (ws := wsA yX6_setting cX6_setting 2 (some .int)) B.pre
  have hts : ∀ w ∈ ALLW, w.before _ s = true := fun w h => hts9 w (List.mem_cons_of_mem _ h)
  have hown : s.vm.findClass RX6 = some m.cls := findClass_of_methodNamed B.named
  have hlocks := B.notSynchronized
  have hS : va_S noA s.heap s.heap [] := va_S.rf
  have hl := lv_entry [.ref a0, .int a1] (n := 2) (Nat.le_of_ble_eq_true rfl)
  rw [lg_entry_eq]
  generalize (lg_sl [.ref a0, .int a1] ++ List.replicate (2 - (lg_sl [.ref a0, .int a1]).length) Slot.unset).toArray = ls at hl ⊢
  have hl : lv_has ls 2 [(0, .ref a0), (1, .int a1)] := hl
  rw [f_X6_setting] at h
  refine lv_aload_n hx hb dX6_setting_0 rfl (lv_at hl 0 rfl) ?_
  refine lv_iload_n hx hb dX6_setting_1 rfl (lv_at hl 1 rfl) ?_
  replace h := bd h
  obtain ⟨_, q1, h⟩ := h
  replace h := bd h
  obtain ⟨z3, q2, h⟩ := h
  refine c_X6_settingAt ⟨hx, hb, hml, hown, hts⟩ hl.1 hK hP hS hE hl0 wd_777 ⟨(Nat.le_of_ble_eq_true rfl), (Nat.le_of_ble_eq_true rfl)⟩ q2 q1 (Nat.le_of_ble_eq_true rfl) dX6_setting_2 ⟨(Nat.le_of_ble_eq_true rfl), (Nat.le_of_ble_eq_true rfl)⟩ (fun E ce qx9 H locs hx9 hP hS h1 h2 h3 => ?_) (fun x4 H locs hx9 hP hS => ?_)
  · replace h := sel_l hx9 h
    cases h
    exact o_p (fun x h => (htb x h).elim) hlocks h1 h2 h3 hS (Nat.le_of_ble_eq_true rfl) (Nat.le_of_ble_eq_true rfl)
  · replace h := sel_r hx9 h
    cases h
    exact e_ipx hx hb hlocks hr hS (Nat.le_of_ble_eq_true rfl) (Nat.le_of_ble_eq_true rfl) dX6_setting_5
set_option maxRecDepth 100000 in
theorem c_X6_setting {p : Program} {l : Launch} {e : Env} {R : Room} {s : State} {m : MethodId} {args : Array Value} {below : List Frame} {meth : Method} {c : Code} {H : Heap} {locs : List Loc} {cells slots : Nat} {Q : State → Prop} {cc : ByteArray} {pc index nL : Nat} {ls : Array Slot} {rest : List Value} {D : va_G} {cy : Nat → ClassId} {A0 : Nat → Prop} {S : St} {own : String} {u : Unit} {a0 : Nat} {a1 : Int32} {x : String ⊕ Int32}  (hF : CallFix p m c cc nL s args ALLW own) (hsz : ls.size = nL) (hK : va_K D vwCl (tyL cy) s) (hP : SP D cy S H) (hS : va_S A0 s.heap H locs) (hE : ENV A0 s) (hl0 : l.stackTraces = false) (hk : Cond.methodLink own index yX6_setting ∈ ALLW) (hR : rm_X6_setting.frames + 1 ≤ R.frames ∧ 8 + (2 + 11) + rm_X6_setting.locals ≤ R.locals) (h : f_X6_setting S a0 a1 = some x) (hc : oO S a0 5 = some u) (hW : (rest.map fun v => v.category).sum ≤ 8) (hdg : decode cc pc = .ok (.invokevirtual index, 3)) (hf : cells + 1 ≤ R.cells ∧ slots + 6 ≤ R.slots)
    (kx : ∀ (E : String) (ce : Cell) (q9 : Addr) (H1 : Heap) (locs1 : List Loc), x = .inl E → SP D cy S H1 → va_S A0 s.heap H1 locs1 → H1[q9]? = some ce → ce.vm = .none → s.vm.findClass E = some ce.cls → vx_W p l e R s m args below meth c H1 locs1 (cells + 1) (slots + 6) Q (F0 m pc ls rest) q9)
    (kk : ∀ (r : Int32) (H1 : Heap) (locs1 : List Loc), x = .inr r → SP D cy S H1 → va_S A0 s.heap H1 locs1 → W p l e R s m args below meth c H1 locs1 (cells + 1) (slots + 6) Q (F0 m (pc + 3) ls (.int r :: rest))) : W p l e R s m args below meth c H locs cells slots Q (F0 m pc ls (.int a1 :: .ref a0 :: rest)) := by
  exact k_iVpx (As := [.int a1]) hF hsz (m_X6_setting l hl0 D cy S a0 a1 x h) (cwV_of (n := 1) hF.2.2.2.2 hk wd_836 wd_837 wd_69 wd_838 rfl rfl (by decide +kernel) hR) rfl hK hP hS hE (ci := 5) hc rfl hW rfl hdg hf kx kk
/-- VowBlocks.cost(II)I -/
def f_X6_cost (S : St) (a0 : Nat) (a1 : Int32) (a2 : Int32) : Option (String ⊕ Int32) :=
  (oO S a0 5).bind fun _ =>
  (f_X6_find S a0 a1).bind fun z3 =>
  Sum.elim (fun E =>
    some (.inl E)
  ) (fun x4 =>
  (f_X6_requireWithin a2 0 5).bind fun z6 =>
  Sum.elim (fun E =>
    some (.inl E)
  ) (fun _ =>
  (gR S x4 0 0).bind fun x8 =>
  (f_X1_bits S x8 a2).bind fun x11 =>
  some (.inr x11)
  ) z6
  ) z3
abbrev rm_X6_cost : Room := { frames := 7, cells := 2, slots := 12, locals := 104 }
set_option maxHeartbeats 4000000 in
set_option maxRecDepth 100000 in
theorem m_X6_cost (l : Launch) (hl0 : l.stackTraces = false) (D : va_G) (cy : Nat → ClassId) (S : St) (a0 : Nat) (a1 : Int32) (a2 : Int32) (x : String ⊕ Int32) (h : f_X6_cost S a0 a1 a2 = some x) : vx_Met l yX6_cost (wsA yX6_cost cX6_cost 4 (some .int)) rm_X6_cost (va_Pc [.ref a0, .int a1, .int a2] (PSX D cy S)) (va_Qi (fun r' (_ : Unit) => x = .inr r') (fun _ _ => True) noA) (vx_X (fun _ : Unit => True) (fun E _ _ => x = .inl E) noA) 2 12 noA := by
  refine vx_ofW (cc := cX6_cost) (maxL := 4) (ret := (some .int)) (by decide) rfl ?_
  intro p e s m args below meth c s₁ B hml htb hv
  obtain ⟨rfl, hP, hK, hE⟩ := hv
  have hx := B.exec
  have hb := B.bytes
  have hr := B.returns
  have hts9 := atoms_spec (ws := wsA yX6_cost cX6_cost 4 (some .int)) B.pre
  have hts : ∀ w ∈ ALLW, w.before _ s = true := fun w h => hts9 w (List.mem_cons_of_mem _ h)
  have hown : s.vm.findClass RX6 = some m.cls := findClass_of_methodNamed B.named
  have hlocks := B.notSynchronized
  have hS : va_S noA s.heap s.heap [] := va_S.rf
  have hl := lv_entry [.ref a0, .int a1, .int a2] (n := 4) (Nat.le_of_ble_eq_true rfl)
  rw [lg_entry_eq]
  generalize (lg_sl [.ref a0, .int a1, .int a2] ++ List.replicate (4 - (lg_sl [.ref a0, .int a1, .int a2]).length) Slot.unset).toArray = ls at hl ⊢
  have hl : lv_has ls 4 [(0, .ref a0), (1, .int a1), (2, .int a2)] := hl
  rw [f_X6_cost] at h
  refine lv_aload_n hx hb dX6_cost_0 rfl (lv_at hl 0 rfl) ?_
  refine lv_iload_n hx hb dX6_cost_1 rfl (lv_at hl 1 rfl) ?_
  replace h := bd h
  obtain ⟨_, q1, h⟩ := h
  replace h := bd h
  obtain ⟨z3, q2, h⟩ := h
  refine c_X6_find ⟨hx, hb, hml, hown, hts⟩ hl.1 hK hP hS hE hl0 wd_638 ⟨(Nat.le_of_ble_eq_true rfl), (Nat.le_of_ble_eq_true rfl)⟩ q2 q1 (Nat.le_of_ble_eq_true rfl) dX6_cost_2 ⟨(Nat.le_of_ble_eq_true rfl), (Nat.le_of_ble_eq_true rfl)⟩ (fun E ce qx9 H locs hx9 hP hS h1 h2 h3 => ?_) (fun x4 H locs hx9 hP hS => ?_)
  · replace h := sel_l hx9 h
    cases h
    exact o_p (fun x h => (htb x h).elim) hlocks h1 h2 h3 hS (Nat.le_of_ble_eq_true rfl) (Nat.le_of_ble_eq_true rfl)
  · replace h := sel_r hx9 h
    refine lv_astore_n (lv' := [(3, .ref x4), (0, .ref a0), (1, .int a1), (2, .int a2)]) hx hb dX6_cost_5 rfl hl (by decide) rfl (fun ls hl => ?_)
    refine lv_iload_n hx hb dX6_cost_6 rfl (lv_at hl 3 rfl) ?_
    refine lv_iconst (v := 0) hx hb dX6_cost_7 (by decide) ?_
    refine lv_iconst (v := 5) hx hb dX6_cost_8 (by decide) ?_
    replace h := bd h
    obtain ⟨z6, q5, h⟩ := h
    refine c_X6_requireWithin ⟨hx, hb, hml, hown, hts⟩ hl.1 hK hP hS hE hl0 wd_482 ⟨(Nat.le_of_ble_eq_true rfl), (Nat.le_of_ble_eq_true rfl)⟩ q5 (Nat.le_of_ble_eq_true rfl) dX6_cost_9 ⟨(Nat.le_of_ble_eq_true rfl), (Nat.le_of_ble_eq_true rfl)⟩ (fun E ce qx9 H locs hx9 hP hS h1 h2 h3 => ?_) (fun H locs hx9 hP hS => ?_)
    · replace h := sel_l hx9 h
      cases h
      exact o_p (fun x h => (htb x h).elim) hlocks h1 h2 h3 hS (Nat.le_of_ble_eq_true rfl) (Nat.le_of_ble_eq_true rfl)
    · replace h := sel_r hx9 h
      refine lv_aload_n hx hb dX6_cost_12 rfl (lv_at hl 0 rfl) ?_
      replace h := bd h
      obtain ⟨x8, q9, h⟩ := h
      refine fg_0_0 hx hb hts hown hK hP wd_121 q9 dX6_cost_13 ?_
      refine lv_iload_n hx hb dX6_cost_16 rfl (lv_at hl 3 rfl) ?_
      replace h := bd h
      obtain ⟨x11, q10, h⟩ := h
      refine c_X1_bits ⟨hx, hb, hml, hown, hts⟩ hl.1 hK hP hS wd_287 ⟨(Nat.le_of_ble_eq_true rfl), (Nat.le_of_ble_eq_true rfl)⟩ q10 (Nat.le_of_ble_eq_true rfl) dX6_cost_17 ⟨(Nat.le_of_ble_eq_true rfl), (Nat.le_of_ble_eq_true rfl)⟩ (fun H locs hP hS => ?_)
      cases h
      exact e_ipx hx hb hlocks hr hS (Nat.le_of_ble_eq_true rfl) (Nat.le_of_ble_eq_true rfl) dX6_cost_20
set_option maxRecDepth 100000 in
theorem c_X6_cost {p : Program} {l : Launch} {e : Env} {R : Room} {s : State} {m : MethodId} {args : Array Value} {below : List Frame} {meth : Method} {c : Code} {H : Heap} {locs : List Loc} {cells slots : Nat} {Q : State → Prop} {cc : ByteArray} {pc index nL : Nat} {ls : Array Slot} {rest : List Value} {D : va_G} {cy : Nat → ClassId} {A0 : Nat → Prop} {S : St} {own : String} {u : Unit} {a0 : Nat} {a1 : Int32} {a2 : Int32} {x : String ⊕ Int32}  (hF : CallFix p m c cc nL s args ALLW own) (hsz : ls.size = nL) (hK : va_K D vwCl (tyL cy) s) (hP : SP D cy S H) (hS : va_S A0 s.heap H locs) (hE : ENV A0 s) (hl0 : l.stackTraces = false) (hk : Cond.methodLink own index yX6_cost ∈ ALLW) (hR : rm_X6_cost.frames + 1 ≤ R.frames ∧ 8 + (4 + 11) + rm_X6_cost.locals ≤ R.locals) (h : f_X6_cost S a0 a1 a2 = some x) (hc : oO S a0 5 = some u) (hW : (rest.map fun v => v.category).sum ≤ 8) (hdg : decode cc pc = .ok (.invokevirtual index, 3)) (hf : cells + 2 ≤ R.cells ∧ slots + 12 ≤ R.slots)
    (kx : ∀ (E : String) (ce : Cell) (q9 : Addr) (H1 : Heap) (locs1 : List Loc), x = .inl E → SP D cy S H1 → va_S A0 s.heap H1 locs1 → H1[q9]? = some ce → ce.vm = .none → s.vm.findClass E = some ce.cls → vx_W p l e R s m args below meth c H1 locs1 (cells + 2) (slots + 12) Q (F0 m pc ls rest) q9)
    (kk : ∀ (r : Int32) (H1 : Heap) (locs1 : List Loc), x = .inr r → SP D cy S H1 → va_S A0 s.heap H1 locs1 → W p l e R s m args below meth c H1 locs1 (cells + 2) (slots + 12) Q (F0 m (pc + 3) ls (.int r :: rest))) : W p l e R s m args below meth c H locs cells slots Q (F0 m pc ls (.int a2 :: .int a1 :: .ref a0 :: rest)) := by
  exact k_iVpx (As := [.int a1, .int a2]) hF hsz (m_X6_cost l hl0 D cy S a0 a1 a2 x h) (cwV_of (n := 2) hF.2.2.2.2 hk wd_843 wd_844 wd_69 wd_845 rfl rfl (by decide +kernel) hR) rfl hK hP hS hE (ci := 5) hc rfl hW rfl hdg hf kx kk
/-- VowBlocks.work(IIII)I -/
def f_X6_work (S : St) (a0 : Nat) (a1 : Int32) (a2 : Int32) (a3 : Int32) (a4 : Int32) : Option (String ⊕ Int32) :=
  (oO S a0 5).bind fun _ =>
  (f_X6_find S a0 a1).bind fun z3 =>
  Sum.elim (fun E =>
    some (.inl E)
  ) (fun x4 =>
  (f_X6_requireWithin a2 0 5).bind fun z6 =>
  Sum.elim (fun E =>
    some (.inl E)
  ) (fun _ =>
  (f_X6_requireQuestion a3 a4).bind fun z9 =>
  Sum.elim (fun E =>
    some (.inl E)
  ) (fun _ =>
  (gR S x4 0 0).bind fun x11 =>
  (f_X1_effort S x11 a2 a3 a4).bind fun x14 =>
  some (.inr x14)
  ) z9
  ) z6
  ) z3
abbrev rm_X6_work : Room := { frames := 9, cells := 4, slots := 24, locals := 145 }
set_option maxHeartbeats 4000000 in
set_option maxRecDepth 100000 in
theorem m_X6_work (l : Launch) (hl0 : l.stackTraces = false) (D : va_G) (cy : Nat → ClassId) (S : St) (a0 : Nat) (a1 : Int32) (a2 : Int32) (a3 : Int32) (a4 : Int32) (x : String ⊕ Int32) (h : f_X6_work S a0 a1 a2 a3 a4 = some x) : vx_Met l yX6_work (wsA yX6_work cX6_work 6 (some .int)) rm_X6_work (va_Pc [.ref a0, .int a1, .int a2, .int a3, .int a4] (PSX D cy S)) (va_Qi (fun r' (_ : Unit) => x = .inr r') (fun _ _ => True) noA) (vx_X (fun _ : Unit => True) (fun E _ _ => x = .inl E) noA) 4 24 noA := by
  refine vx_ofW (cc := cX6_work) (maxL := 6) (ret := (some .int)) (by decide) rfl ?_
  intro p e s m args below meth c s₁ B hml htb hv
  obtain ⟨rfl, hP, hK, hE⟩ := hv
  have hx := B.exec
  have hb := B.bytes
  have hr := B.returns
  have hts9 := atoms_spec (ws := wsA yX6_work cX6_work 6 (some .int)) B.pre
  have hts : ∀ w ∈ ALLW, w.before _ s = true := fun w h => hts9 w (List.mem_cons_of_mem _ h)
  have hown : s.vm.findClass RX6 = some m.cls := findClass_of_methodNamed B.named
  have hlocks := B.notSynchronized
  have hS : va_S noA s.heap s.heap [] := va_S.rf
  have hl := lv_entry [.ref a0, .int a1, .int a2, .int a3, .int a4] (n := 6) (Nat.le_of_ble_eq_true rfl)
  rw [lg_entry_eq]
  generalize (lg_sl [.ref a0, .int a1, .int a2, .int a3, .int a4] ++ List.replicate (6 - (lg_sl [.ref a0, .int a1, .int a2, .int a3, .int a4]).length) Slot.unset).toArray = ls at hl ⊢
  have hl : lv_has ls 6 [(0, .ref a0), (1, .int a1), (2, .int a2), (3, .int a3), (4, .int a4)] := hl
  rw [f_X6_work] at h
  refine lv_aload_n hx hb dX6_work_0 rfl (lv_at hl 0 rfl) ?_
  refine lv_iload_n hx hb dX6_work_1 rfl (lv_at hl 1 rfl) ?_
  replace h := bd h
  obtain ⟨_, q1, h⟩ := h
  replace h := bd h
  obtain ⟨z3, q2, h⟩ := h
  refine c_X6_find ⟨hx, hb, hml, hown, hts⟩ hl.1 hK hP hS hE hl0 wd_638 ⟨(Nat.le_of_ble_eq_true rfl), (Nat.le_of_ble_eq_true rfl)⟩ q2 q1 (Nat.le_of_ble_eq_true rfl) dX6_work_2 ⟨(Nat.le_of_ble_eq_true rfl), (Nat.le_of_ble_eq_true rfl)⟩ (fun E ce qx9 H locs hx9 hP hS h1 h2 h3 => ?_) (fun x4 H locs hx9 hP hS => ?_)
  · replace h := sel_l hx9 h
    cases h
    exact o_p (fun x h => (htb x h).elim) hlocks h1 h2 h3 hS (Nat.le_of_ble_eq_true rfl) (Nat.le_of_ble_eq_true rfl)
  · replace h := sel_r hx9 h
    refine lv_astore (lv' := [(5, .ref x4), (0, .ref a0), (1, .int a1), (2, .int a2), (3, .int a3), (4, .int a4)]) hx hb dX6_work_5 hl (by decide) rfl (fun ls hl => ?_)
    refine lv_iload_n hx hb dX6_work_7 rfl (lv_at hl 3 rfl) ?_
    refine lv_iconst (v := 0) hx hb dX6_work_8 (by decide) ?_
    refine lv_iconst (v := 5) hx hb dX6_work_9 (by decide) ?_
    replace h := bd h
    obtain ⟨z6, q5, h⟩ := h
    refine c_X6_requireWithin ⟨hx, hb, hml, hown, hts⟩ hl.1 hK hP hS hE hl0 wd_482 ⟨(Nat.le_of_ble_eq_true rfl), (Nat.le_of_ble_eq_true rfl)⟩ q5 (Nat.le_of_ble_eq_true rfl) dX6_work_10 ⟨(Nat.le_of_ble_eq_true rfl), (Nat.le_of_ble_eq_true rfl)⟩ (fun E ce qx9 H locs hx9 hP hS h1 h2 h3 => ?_) (fun H locs hx9 hP hS => ?_)
    · replace h := sel_l hx9 h
      cases h
      exact o_p (fun x h => (htb x h).elim) hlocks h1 h2 h3 hS (Nat.le_of_ble_eq_true rfl) (Nat.le_of_ble_eq_true rfl)
    · replace h := sel_r hx9 h
      refine lv_iload_n hx hb dX6_work_13 rfl (lv_at hl 4 rfl) ?_
      refine lv_iload hx hb dX6_work_14 (lv_at hl 5 rfl) ?_
      replace h := bd h
      obtain ⟨z9, q8, h⟩ := h
      refine c_X6_requireQuestion ⟨hx, hb, hml, hown, hts⟩ hl.1 hK hP hS hE hl0 wd_759 ⟨(Nat.le_of_ble_eq_true rfl), (Nat.le_of_ble_eq_true rfl)⟩ q8 (Nat.le_of_ble_eq_true rfl) dX6_work_16 ⟨(Nat.le_of_ble_eq_true rfl), (Nat.le_of_ble_eq_true rfl)⟩ (fun E ce qx9 H locs hx9 hP hS h1 h2 h3 => ?_) (fun H locs hx9 hP hS => ?_)
      · replace h := sel_l hx9 h
        cases h
        exact o_p (fun x h => (htb x h).elim) hlocks h1 h2 h3 hS (Nat.le_of_ble_eq_true rfl) (Nat.le_of_ble_eq_true rfl)
      · replace h := sel_r hx9 h
        refine lv_aload hx hb dX6_work_19 (lv_at hl 0 rfl) ?_
        replace h := bd h
        obtain ⟨x11, q12, h⟩ := h
        refine fg_0_0 hx hb hts hown hK hP wd_121 q12 dX6_work_21 ?_
        refine lv_iload_n hx hb dX6_work_24 rfl (lv_at hl 3 rfl) ?_
        refine lv_iload_n hx hb dX6_work_25 rfl (lv_at hl 4 rfl) ?_
        refine lv_iload hx hb dX6_work_26 (lv_at hl 5 rfl) ?_
        replace h := bd h
        obtain ⟨x14, q13, h⟩ := h
        refine c_X1_effort ⟨hx, hb, hml, hown, hts⟩ hl.1 hK hP hS wd_364 ⟨(Nat.le_of_ble_eq_true rfl), (Nat.le_of_ble_eq_true rfl)⟩ q13 (Nat.le_of_ble_eq_true rfl) dX6_work_28 ⟨(Nat.le_of_ble_eq_true rfl), (Nat.le_of_ble_eq_true rfl)⟩ (fun H locs hP hS => ?_)
        cases h
        exact e_ipx hx hb hlocks hr hS (Nat.le_of_ble_eq_true rfl) (Nat.le_of_ble_eq_true rfl) dX6_work_31
set_option maxRecDepth 100000 in
theorem c_X6_work {p : Program} {l : Launch} {e : Env} {R : Room} {s : State} {m : MethodId} {args : Array Value} {below : List Frame} {meth : Method} {c : Code} {H : Heap} {locs : List Loc} {cells slots : Nat} {Q : State → Prop} {cc : ByteArray} {pc index nL : Nat} {ls : Array Slot} {rest : List Value} {D : va_G} {cy : Nat → ClassId} {A0 : Nat → Prop} {S : St} {own : String} {u : Unit} {a0 : Nat} {a1 : Int32} {a2 : Int32} {a3 : Int32} {a4 : Int32} {x : String ⊕ Int32}  (hF : CallFix p m c cc nL s args ALLW own) (hsz : ls.size = nL) (hK : va_K D vwCl (tyL cy) s) (hP : SP D cy S H) (hS : va_S A0 s.heap H locs) (hE : ENV A0 s) (hl0 : l.stackTraces = false) (hk : Cond.methodLink own index yX6_work ∈ ALLW) (hR : rm_X6_work.frames + 1 ≤ R.frames ∧ 8 + (6 + 11) + rm_X6_work.locals ≤ R.locals) (h : f_X6_work S a0 a1 a2 a3 a4 = some x) (hc : oO S a0 5 = some u) (hW : (rest.map fun v => v.category).sum ≤ 8) (hdg : decode cc pc = .ok (.invokevirtual index, 3)) (hf : cells + 4 ≤ R.cells ∧ slots + 24 ≤ R.slots)
    (kx : ∀ (E : String) (ce : Cell) (q9 : Addr) (H1 : Heap) (locs1 : List Loc), x = .inl E → SP D cy S H1 → va_S A0 s.heap H1 locs1 → H1[q9]? = some ce → ce.vm = .none → s.vm.findClass E = some ce.cls → vx_W p l e R s m args below meth c H1 locs1 (cells + 4) (slots + 24) Q (F0 m pc ls rest) q9)
    (kk : ∀ (r : Int32) (H1 : Heap) (locs1 : List Loc), x = .inr r → SP D cy S H1 → va_S A0 s.heap H1 locs1 → W p l e R s m args below meth c H1 locs1 (cells + 4) (slots + 24) Q (F0 m (pc + 3) ls (.int r :: rest))) : W p l e R s m args below meth c H locs cells slots Q (F0 m pc ls (.int a4 :: .int a3 :: .int a2 :: .int a1 :: .ref a0 :: rest)) := by
  exact k_iVpx (As := [.int a1, .int a2, .int a3, .int a4]) hF hsz (m_X6_work l hl0 D cy S a0 a1 a2 a3 a4 x h) (cwV_of (n := 4) hF.2.2.2.2 hk wd_850 wd_851 wd_69 wd_852 rfl rfl (by decide +kernel) hR) rfl hK hP hS hE (ci := 5) hc rfl hW rfl hdg hf kx kk
/-- VowBlocks.regretOf(LVowBlocks$Block;I)I -/
def f_X6_regretOf (S : St) (a0 : Nat) (a1 : Nat) (a2 : Int32) : Option (Int32) :=
  (gR S a0 5 0).bind fun x1 =>
  (gI S x1 1 2).bind fun x3 =>
  (gR S a0 5 0).bind fun x5 =>
  (gI S x5 1 3).bind fun x7 =>
  (oO S a1 0).bind fun _ =>
  (f_X0_daysLeft S a1 x3 x7).bind fun x11 =>
  (oO S a1 0).bind fun _ =>
  (f_X0_excess S a1).bind fun x14 =>
  some (x14 * (if (if 1 < x11 then x11 else 1) < a2 then (if 1 < x11 then x11 else 1) else a2))
abbrev rm_X6_regretOf : Room := { frames := 4, cells := 0, slots := 0, locals := 91 }
set_option maxHeartbeats 4000000 in
set_option maxRecDepth 100000 in
theorem m_X6_regretOf (l : Launch) (D : va_G) (cy : Nat → ClassId) (S : St) (a0 : Nat) (a1 : Nat) (a2 : Int32) (r : Int32) (h : f_X6_regretOf S a0 a1 a2 = some r) : Met l yX6_regretOf (wsA yX6_regretOf cX6_regretOf 4 (some .int)) rm_X6_regretOf (va_Pc [.ref a0, .ref a1, .int a2] (PS D cy S)) (va_Qi (fun r' (_ : Unit) => r' = r) (fun _ _ => True) noA) 0 0 noA := by
  refine Met.ofW (cc := cX6_regretOf) (maxL := 4) (ret := (some .int)) (by decide) rfl ?_
  intro p e s m args below meth c s₁ B hml hv
  obtain ⟨rfl, hP, hK⟩ := hv
  have hx := B.exec
  have hb := B.bytes
  have hr := B.returns
  have hts9 := atoms_spec (ws := wsA yX6_regretOf cX6_regretOf 4 (some .int)) B.pre
  have hts : ∀ w ∈ ALLW, w.before _ s = true := fun w h => hts9 w (List.mem_cons_of_mem _ h)
  have hown : s.vm.findClass RX6 = some m.cls := findClass_of_methodNamed B.named
  have hlocks := B.notSynchronized
  have hS : va_S noA s.heap s.heap [] := va_S.rf
  have hl := lv_entry [.ref a0, .ref a1, .int a2] (n := 4) (Nat.le_of_ble_eq_true rfl)
  rw [lg_entry_eq]
  generalize (lg_sl [.ref a0, .ref a1, .int a2] ++ List.replicate (4 - (lg_sl [.ref a0, .ref a1, .int a2]).length) Slot.unset).toArray = ls at hl ⊢
  have hl : lv_has ls 4 [(0, .ref a0), (1, .ref a1), (2, .int a2)] := hl
  rw [f_X6_regretOf] at h
  refine lv_iconst (v := 1) hx hb dX6_regretOf_0 (by decide) ?_
  refine lv_aload_n hx hb dX6_regretOf_1 rfl (lv_at hl 1 rfl) ?_
  refine lv_aload_n hx hb dX6_regretOf_2 rfl (lv_at hl 0 rfl) ?_
  replace h := bd h
  obtain ⟨x1, q2, h⟩ := h
  refine fg_5_0 hx hb hts hown hK hP wd_214 q2 dX6_regretOf_3 ?_
  replace h := bd h
  obtain ⟨x3, q4, h⟩ := h
  refine fg_1_2 hx hb hts hown hK hP wd_158 q4 dX6_regretOf_6 ?_
  refine lv_aload_n hx hb dX6_regretOf_9 rfl (lv_at hl 0 rfl) ?_
  replace h := bd h
  obtain ⟨x5, q6, h⟩ := h
  refine fg_5_0 hx hb hts hown hK hP wd_214 q6 dX6_regretOf_10 ?_
  replace h := bd h
  obtain ⟨x7, q8, h⟩ := h
  refine fg_1_3 hx hb hts hown hK hP wd_160 q8 dX6_regretOf_13 ?_
  replace h := bd h
  obtain ⟨_, q9, h⟩ := h
  replace h := bd h
  obtain ⟨x11, q10, h⟩ := h
  refine c_X0_daysLeft ⟨hx, hb, hml, hown, hts⟩ hl.1 hK hP hS wd_406 ⟨(Nat.le_of_ble_eq_true rfl), (Nat.le_of_ble_eq_true rfl)⟩ q10 q9 (Nat.le_of_ble_eq_true rfl) dX6_regretOf_16 ⟨(Nat.le_of_ble_eq_true rfl), (Nat.le_of_ble_eq_true rfl)⟩ (fun H locs hP hS => ?_)
  refine va_mmax hx hb (hml.trans hl.1.symm) hown (hts _ wd_413) (hts _ wd_411) (hts _ wd_83) (hts _ wd_412) (Nat.le_of_ble_eq_true rfl) (Nat.le_of_ble_eq_true rfl) (Nat.le_of_ble_eq_true rfl) (Nat.le_of_ble_eq_true rfl) dX6_regretOf_19 ?_
  refine lv_istore_n (lv' := [(3, .int (if 1 < x11 then x11 else 1)), (0, .ref a0), (1, .ref a1), (2, .int a2)]) hx hb dX6_regretOf_22 rfl hl (by decide) rfl (fun ls hl => ?_)
  refine lv_aload_n hx hb dX6_regretOf_23 rfl (lv_at hl 2 rfl) ?_
  replace h := bd h
  obtain ⟨_, q12, h⟩ := h
  replace h := bd h
  obtain ⟨x14, q13, h⟩ := h
  refine c_X0_excess ⟨hx, hb, hml, hown, hts⟩ hl.1 hK hP hS wd_414 ⟨(Nat.le_of_ble_eq_true rfl), (Nat.le_of_ble_eq_true rfl)⟩ q13 q12 (Nat.le_of_ble_eq_true rfl) dX6_regretOf_24 ⟨(Nat.le_of_ble_eq_true rfl), (Nat.le_of_ble_eq_true rfl)⟩ (fun H locs hP hS => ?_)
  refine lv_iload_n hx hb dX6_regretOf_27 rfl (lv_at hl 3 rfl) ?_
  refine lv_iload_n hx hb dX6_regretOf_28 rfl (lv_at hl 0 rfl) ?_
  refine va_mmin hx hb (hml.trans hl.1.symm) hown (hts _ wd_420) (hts _ wd_393) (hts _ wd_83) (hts _ wd_394) (Nat.le_of_ble_eq_true rfl) (Nat.le_of_ble_eq_true rfl) (Nat.le_of_ble_eq_true rfl) (Nat.le_of_ble_eq_true rfl) dX6_regretOf_29 ?_
  refine lv_imul hx hb dX6_regretOf_32 ?_
  cases h
  exact e_ip hx hb hlocks hr hS (Nat.le_of_ble_eq_true rfl) (Nat.le_of_ble_eq_true rfl) dX6_regretOf_33
set_option maxRecDepth 100000 in
theorem c_X6_regretOf {p : Program} {l : Launch} {e : Env} {R : Room} {s : State} {m : MethodId} {args : Array Value} {below : List Frame} {meth : Method} {c : Code} {H : Heap} {locs : List Loc} {cells slots : Nat} {Q : State → Prop} {cc : ByteArray} {pc index nL : Nat} {ls : Array Slot} {rest : List Value} {D : va_G} {cy : Nat → ClassId} {A0 : Nat → Prop} {S : St} {H0 : Heap} {own : String} {u : Unit} {a0 : Nat} {a1 : Nat} {a2 : Int32} {r : Int32}  (hF : CallFix p m c cc nL s args ALLW own) (hsz : ls.size = nL) (hK : va_K D vwCl (tyL cy) s) (hP : SP D cy S H) (hS : va_S A0 H0 H locs) (hk : Cond.methodLink own index yX6_regretOf ∈ ALLW) (hR : rm_X6_regretOf.frames + 1 ≤ R.frames ∧ 8 + (4 + 11) + rm_X6_regretOf.locals ≤ R.locals) (h : f_X6_regretOf S a0 a1 a2 = some r) (hc : oO S a0 5 = some u) (hW : (rest.map fun v => v.category).sum ≤ 8) (hdg : decode cc pc = .ok (.invokevirtual index, 3)) (hf : cells + 0 ≤ R.cells ∧ slots + 0 ≤ R.slots)
    (kk : ∀ (H1 : Heap) (locs1 : List Loc), SP D cy S H1 → va_S A0 H0 H1 locs1 → W p l e R s m args below meth c H1 locs1 (cells + 0) (slots + 0) Q (F0 m (pc + 3) ls (.int r :: rest))) : W p l e R s m args below meth c H locs cells slots Q (F0 m pc ls (.int a2 :: .ref a1 :: .ref a0 :: rest)) := by
  exact k_iVp (As := [.ref a1, .int a2]) hF hsz (m_X6_regretOf l D cy S a0 a1 a2 r h) (cwV_of (n := 2) hF.2.2.2.2 hk wd_404 wd_7 wd_69 wd_405 rfl rfl (by decide +kernel) hR) rfl hK hP hS (ci := 5) hc rfl hW rfl hdg hf kk
/-- VowBlocks.regretIn(II)I -/
def f_X6_regretIn (S : St) (a0 : Nat) (a1 : Int32) (a2 : Int32) : Option (String ⊕ Int32) :=
  (oO S a0 5).bind fun _ =>
  (f_X6_find S a0 a1).bind fun z3 =>
  Sum.elim (fun E =>
    some (.inl E)
  ) (fun x4 =>
  (f_X6_requireWithin a2 0 200).bind fun z6 =>
  Sum.elim (fun E =>
    some (.inl E)
  ) (fun _ =>
  (oO S a0 5).bind fun _ =>
  (f_X6_regretOf S a0 x4 a2).bind fun x10 =>
  some (.inr x10)
  ) z6
  ) z3
abbrev rm_X6_regretIn : Room := { frames := 7, cells := 2, slots := 12, locals := 114 }
set_option maxHeartbeats 4000000 in
set_option maxRecDepth 100000 in
theorem m_X6_regretIn (l : Launch) (hl0 : l.stackTraces = false) (D : va_G) (cy : Nat → ClassId) (S : St) (a0 : Nat) (a1 : Int32) (a2 : Int32) (x : String ⊕ Int32) (h : f_X6_regretIn S a0 a1 a2 = some x) : vx_Met l yX6_regretIn (wsA yX6_regretIn cX6_regretIn 4 (some .int)) rm_X6_regretIn (va_Pc [.ref a0, .int a1, .int a2] (PSX D cy S)) (va_Qi (fun r' (_ : Unit) => x = .inr r') (fun _ _ => True) noA) (vx_X (fun _ : Unit => True) (fun E _ _ => x = .inl E) noA) 2 12 noA := by
  refine vx_ofW (cc := cX6_regretIn) (maxL := 4) (ret := (some .int)) (by decide) rfl ?_
  intro p e s m args below meth c s₁ B hml htb hv
  obtain ⟨rfl, hP, hK, hE⟩ := hv
  have hx := B.exec
  have hb := B.bytes
  have hr := B.returns
  have hts9 := atoms_spec (ws := wsA yX6_regretIn cX6_regretIn 4 (some .int)) B.pre
  have hts : ∀ w ∈ ALLW, w.before _ s = true := fun w h => hts9 w (List.mem_cons_of_mem _ h)
  have hown : s.vm.findClass RX6 = some m.cls := findClass_of_methodNamed B.named
  have hlocks := B.notSynchronized
  have hS : va_S noA s.heap s.heap [] := va_S.rf
  have hl := lv_entry [.ref a0, .int a1, .int a2] (n := 4) (Nat.le_of_ble_eq_true rfl)
  rw [lg_entry_eq]
  generalize (lg_sl [.ref a0, .int a1, .int a2] ++ List.replicate (4 - (lg_sl [.ref a0, .int a1, .int a2]).length) Slot.unset).toArray = ls at hl ⊢
  have hl : lv_has ls 4 [(0, .ref a0), (1, .int a1), (2, .int a2)] := hl
  rw [f_X6_regretIn] at h
  refine lv_aload_n hx hb dX6_regretIn_0 rfl (lv_at hl 0 rfl) ?_
  refine lv_iload_n hx hb dX6_regretIn_1 rfl (lv_at hl 1 rfl) ?_
  replace h := bd h
  obtain ⟨_, q1, h⟩ := h
  replace h := bd h
  obtain ⟨z3, q2, h⟩ := h
  refine c_X6_find ⟨hx, hb, hml, hown, hts⟩ hl.1 hK hP hS hE hl0 wd_638 ⟨(Nat.le_of_ble_eq_true rfl), (Nat.le_of_ble_eq_true rfl)⟩ q2 q1 (Nat.le_of_ble_eq_true rfl) dX6_regretIn_2 ⟨(Nat.le_of_ble_eq_true rfl), (Nat.le_of_ble_eq_true rfl)⟩ (fun E ce qx9 H locs hx9 hP hS h1 h2 h3 => ?_) (fun x4 H locs hx9 hP hS => ?_)
  · replace h := sel_l hx9 h
    cases h
    exact o_p (fun x h => (htb x h).elim) hlocks h1 h2 h3 hS (Nat.le_of_ble_eq_true rfl) (Nat.le_of_ble_eq_true rfl)
  · replace h := sel_r hx9 h
    refine lv_astore_n (lv' := [(3, .ref x4), (0, .ref a0), (1, .int a1), (2, .int a2)]) hx hb dX6_regretIn_5 rfl hl (by decide) rfl (fun ls hl => ?_)
    refine lv_iload_n hx hb dX6_regretIn_6 rfl (lv_at hl 3 rfl) ?_
    refine lv_iconst (v := 0) hx hb dX6_regretIn_7 (by decide) ?_
    refine lv_sipush (v := 200) hx hb dX6_regretIn_8 (by decide) ?_
    replace h := bd h
    obtain ⟨z6, q5, h⟩ := h
    refine c_X6_requireWithin ⟨hx, hb, hml, hown, hts⟩ hl.1 hK hP hS hE hl0 wd_482 ⟨(Nat.le_of_ble_eq_true rfl), (Nat.le_of_ble_eq_true rfl)⟩ q5 (Nat.le_of_ble_eq_true rfl) dX6_regretIn_11 ⟨(Nat.le_of_ble_eq_true rfl), (Nat.le_of_ble_eq_true rfl)⟩ (fun E ce qx9 H locs hx9 hP hS h1 h2 h3 => ?_) (fun H locs hx9 hP hS => ?_)
    · replace h := sel_l hx9 h
      cases h
      exact o_p (fun x h => (htb x h).elim) hlocks h1 h2 h3 hS (Nat.le_of_ble_eq_true rfl) (Nat.le_of_ble_eq_true rfl)
    · replace h := sel_r hx9 h
      refine lv_aload_n hx hb dX6_regretIn_14 rfl (lv_at hl 1 rfl) ?_
      refine lv_aload_n hx hb dX6_regretIn_15 rfl (lv_at hl 0 rfl) ?_
      refine lv_iload_n hx hb dX6_regretIn_16 rfl (lv_at hl 3 rfl) ?_
      replace h := bd h
      obtain ⟨_, q8, h⟩ := h
      replace h := bd h
      obtain ⟨x10, q9, h⟩ := h
      refine c_X6_regretOf ⟨hx, hb, hml, hown, hts⟩ hl.1 hK hP hS wd_402 ⟨(Nat.le_of_ble_eq_true rfl), (Nat.le_of_ble_eq_true rfl)⟩ q9 q8 (Nat.le_of_ble_eq_true rfl) dX6_regretIn_17 ⟨(Nat.le_of_ble_eq_true rfl), (Nat.le_of_ble_eq_true rfl)⟩ (fun H locs hP hS => ?_)
      cases h
      exact e_ipx hx hb hlocks hr hS (Nat.le_of_ble_eq_true rfl) (Nat.le_of_ble_eq_true rfl) dX6_regretIn_20
set_option maxRecDepth 100000 in
theorem c_X6_regretIn {p : Program} {l : Launch} {e : Env} {R : Room} {s : State} {m : MethodId} {args : Array Value} {below : List Frame} {meth : Method} {c : Code} {H : Heap} {locs : List Loc} {cells slots : Nat} {Q : State → Prop} {cc : ByteArray} {pc index nL : Nat} {ls : Array Slot} {rest : List Value} {D : va_G} {cy : Nat → ClassId} {A0 : Nat → Prop} {S : St} {own : String} {u : Unit} {a0 : Nat} {a1 : Int32} {a2 : Int32} {x : String ⊕ Int32}  (hF : CallFix p m c cc nL s args ALLW own) (hsz : ls.size = nL) (hK : va_K D vwCl (tyL cy) s) (hP : SP D cy S H) (hS : va_S A0 s.heap H locs) (hE : ENV A0 s) (hl0 : l.stackTraces = false) (hk : Cond.methodLink own index yX6_regretIn ∈ ALLW) (hR : rm_X6_regretIn.frames + 1 ≤ R.frames ∧ 8 + (4 + 11) + rm_X6_regretIn.locals ≤ R.locals) (h : f_X6_regretIn S a0 a1 a2 = some x) (hc : oO S a0 5 = some u) (hW : (rest.map fun v => v.category).sum ≤ 8) (hdg : decode cc pc = .ok (.invokevirtual index, 3)) (hf : cells + 2 ≤ R.cells ∧ slots + 12 ≤ R.slots)
    (kx : ∀ (E : String) (ce : Cell) (q9 : Addr) (H1 : Heap) (locs1 : List Loc), x = .inl E → SP D cy S H1 → va_S A0 s.heap H1 locs1 → H1[q9]? = some ce → ce.vm = .none → s.vm.findClass E = some ce.cls → vx_W p l e R s m args below meth c H1 locs1 (cells + 2) (slots + 12) Q (F0 m pc ls rest) q9)
    (kk : ∀ (r : Int32) (H1 : Heap) (locs1 : List Loc), x = .inr r → SP D cy S H1 → va_S A0 s.heap H1 locs1 → W p l e R s m args below meth c H1 locs1 (cells + 2) (slots + 12) Q (F0 m (pc + 3) ls (.int r :: rest))) : W p l e R s m args below meth c H locs cells slots Q (F0 m pc ls (.int a2 :: .int a1 :: .ref a0 :: rest)) := by
  exact k_iVpx (As := [.int a1, .int a2]) hF hsz (m_X6_regretIn l hl0 D cy S a0 a1 a2 x h) (cwV_of (n := 2) hF.2.2.2.2 hk wd_857 wd_858 wd_69 wd_859 rfl rfl (by decide +kernel) hR) rfl hK hP hS hE (ci := 5) hc rfl hW rfl hdg hf kx kk
/-- VowBlocks.gainOf(LVowBlocks$Block;)I -/
def f_X6_gainOf (S : St) (a0 : Nat) (a1 : Nat) : Option (Int32) :=
  (gR S a0 5 0).bind fun x1 =>
  (gI S x1 1 2).bind fun x3 =>
  (gR S a0 5 0).bind fun x5 =>
  (gI S x5 1 3).bind fun x7 =>
  (oO S a1 0).bind fun _ =>
  (f_X0_daysLeft S a1 x3 x7).bind fun x11 =>
  (oO S a1 0).bind fun _ =>
  (f_X0_excess S a1).bind fun x14 =>
  (oO S a0 5).bind fun _ =>
  (f_X6_fineOf S a0 a1).bind fun x17 =>
  some ((x14 * (if 200 < x11 then 200 else x11)) - x17)
abbrev rm_X6_gainOf : Room := { frames := 4, cells := 0, slots := 0, locals := 91 }
set_option maxHeartbeats 4000000 in
set_option maxRecDepth 100000 in
theorem m_X6_gainOf (l : Launch) (D : va_G) (cy : Nat → ClassId) (S : St) (a0 : Nat) (a1 : Nat) (r : Int32) (h : f_X6_gainOf S a0 a1 = some r) : Met l yX6_gainOf (wsA yX6_gainOf cX6_gainOf 3 (some .int)) rm_X6_gainOf (va_Pc [.ref a0, .ref a1] (PS D cy S)) (va_Qi (fun r' (_ : Unit) => r' = r) (fun _ _ => True) noA) 0 0 noA := by
  refine Met.ofW (cc := cX6_gainOf) (maxL := 3) (ret := (some .int)) (by decide) rfl ?_
  intro p e s m args below meth c s₁ B hml hv
  obtain ⟨rfl, hP, hK⟩ := hv
  have hx := B.exec
  have hb := B.bytes
  have hr := B.returns
  have hts9 := atoms_spec (ws := wsA yX6_gainOf cX6_gainOf 3 (some .int)) B.pre
  have hts : ∀ w ∈ ALLW, w.before _ s = true := fun w h => hts9 w (List.mem_cons_of_mem _ h)
  have hown : s.vm.findClass RX6 = some m.cls := findClass_of_methodNamed B.named
  have hlocks := B.notSynchronized
  have hS : va_S noA s.heap s.heap [] := va_S.rf
  have hl := lv_entry [.ref a0, .ref a1] (n := 3) (Nat.le_of_ble_eq_true rfl)
  rw [lg_entry_eq]
  generalize (lg_sl [.ref a0, .ref a1] ++ List.replicate (3 - (lg_sl [.ref a0, .ref a1]).length) Slot.unset).toArray = ls at hl ⊢
  have hl : lv_has ls 3 [(0, .ref a0), (1, .ref a1)] := hl
  rw [f_X6_gainOf] at h
  refine lv_aload_n hx hb dX6_gainOf_0 rfl (lv_at hl 1 rfl) ?_
  refine lv_aload_n hx hb dX6_gainOf_1 rfl (lv_at hl 0 rfl) ?_
  replace h := bd h
  obtain ⟨x1, q2, h⟩ := h
  refine fg_5_0 hx hb hts hown hK hP wd_214 q2 dX6_gainOf_2 ?_
  replace h := bd h
  obtain ⟨x3, q4, h⟩ := h
  refine fg_1_2 hx hb hts hown hK hP wd_158 q4 dX6_gainOf_5 ?_
  refine lv_aload_n hx hb dX6_gainOf_8 rfl (lv_at hl 0 rfl) ?_
  replace h := bd h
  obtain ⟨x5, q6, h⟩ := h
  refine fg_5_0 hx hb hts hown hK hP wd_214 q6 dX6_gainOf_9 ?_
  replace h := bd h
  obtain ⟨x7, q8, h⟩ := h
  refine fg_1_3 hx hb hts hown hK hP wd_160 q8 dX6_gainOf_12 ?_
  replace h := bd h
  obtain ⟨_, q9, h⟩ := h
  replace h := bd h
  obtain ⟨x11, q10, h⟩ := h
  refine c_X0_daysLeft ⟨hx, hb, hml, hown, hts⟩ hl.1 hK hP hS wd_406 ⟨(Nat.le_of_ble_eq_true rfl), (Nat.le_of_ble_eq_true rfl)⟩ q10 q9 (Nat.le_of_ble_eq_true rfl) dX6_gainOf_15 ⟨(Nat.le_of_ble_eq_true rfl), (Nat.le_of_ble_eq_true rfl)⟩ (fun H locs hP hS => ?_)
  refine lv_istore_n (lv' := [(2, .int x11), (0, .ref a0), (1, .ref a1)]) hx hb dX6_gainOf_18 rfl hl (by decide) rfl (fun ls hl => ?_)
  refine lv_aload_n hx hb dX6_gainOf_19 rfl (lv_at hl 2 rfl) ?_
  replace h := bd h
  obtain ⟨_, q12, h⟩ := h
  replace h := bd h
  obtain ⟨x14, q13, h⟩ := h
  refine c_X0_excess ⟨hx, hb, hml, hown, hts⟩ hl.1 hK hP hS wd_414 ⟨(Nat.le_of_ble_eq_true rfl), (Nat.le_of_ble_eq_true rfl)⟩ q13 q12 (Nat.le_of_ble_eq_true rfl) dX6_gainOf_20 ⟨(Nat.le_of_ble_eq_true rfl), (Nat.le_of_ble_eq_true rfl)⟩ (fun H locs hP hS => ?_)
  refine lv_iload_n hx hb dX6_gainOf_23 rfl (lv_at hl 0 rfl) ?_
  refine lv_sipush (v := 200) hx hb dX6_gainOf_24 (by decide) ?_
  refine va_mmin hx hb (hml.trans hl.1.symm) hown (hts _ wd_420) (hts _ wd_393) (hts _ wd_83) (hts _ wd_394) (Nat.le_of_ble_eq_true rfl) (Nat.le_of_ble_eq_true rfl) (Nat.le_of_ble_eq_true rfl) (Nat.le_of_ble_eq_true rfl) dX6_gainOf_27 ?_
  refine lv_imul hx hb dX6_gainOf_30 ?_
  refine lv_aload_n hx hb dX6_gainOf_31 rfl (lv_at hl 1 rfl) ?_
  refine lv_aload_n hx hb dX6_gainOf_32 rfl (lv_at hl 2 rfl) ?_
  replace h := bd h
  obtain ⟨_, q15, h⟩ := h
  replace h := bd h
  obtain ⟨x17, q16, h⟩ := h
  refine c_X6_fineOf ⟨hx, hb, hml, hown, hts⟩ hl.1 hK hP hS wd_425 ⟨(Nat.le_of_ble_eq_true rfl), (Nat.le_of_ble_eq_true rfl)⟩ q16 q15 (Nat.le_of_ble_eq_true rfl) dX6_gainOf_33 ⟨(Nat.le_of_ble_eq_true rfl), (Nat.le_of_ble_eq_true rfl)⟩ (fun H locs hP hS => ?_)
  refine lv_isub hx hb dX6_gainOf_36 ?_
  cases h
  exact e_ip hx hb hlocks hr hS (Nat.le_of_ble_eq_true rfl) (Nat.le_of_ble_eq_true rfl) dX6_gainOf_37
set_option maxRecDepth 100000 in
theorem c_X6_gainOf {p : Program} {l : Launch} {e : Env} {R : Room} {s : State} {m : MethodId} {args : Array Value} {below : List Frame} {meth : Method} {c : Code} {H : Heap} {locs : List Loc} {cells slots : Nat} {Q : State → Prop} {cc : ByteArray} {pc index nL : Nat} {ls : Array Slot} {rest : List Value} {D : va_G} {cy : Nat → ClassId} {A0 : Nat → Prop} {S : St} {H0 : Heap} {own : String} {u : Unit} {a0 : Nat} {a1 : Nat} {r : Int32}  (hF : CallFix p m c cc nL s args ALLW own) (hsz : ls.size = nL) (hK : va_K D vwCl (tyL cy) s) (hP : SP D cy S H) (hS : va_S A0 H0 H locs) (hk : Cond.methodLink own index yX6_gainOf ∈ ALLW) (hR : rm_X6_gainOf.frames + 1 ≤ R.frames ∧ 8 + (3 + 11) + rm_X6_gainOf.locals ≤ R.locals) (h : f_X6_gainOf S a0 a1 = some r) (hc : oO S a0 5 = some u) (hW : (rest.map fun v => v.category).sum ≤ 8) (hdg : decode cc pc = .ok (.invokevirtual index, 3)) (hf : cells + 0 ≤ R.cells ∧ slots + 0 ≤ R.slots)
    (kk : ∀ (H1 : Heap) (locs1 : List Loc), SP D cy S H1 → va_S A0 H0 H1 locs1 → W p l e R s m args below meth c H1 locs1 (cells + 0) (slots + 0) Q (F0 m (pc + 3) ls (.int r :: rest))) : W p l e R s m args below meth c H locs cells slots Q (F0 m pc ls (.ref a1 :: .ref a0 :: rest)) := by
  exact k_iVp (As := [.ref a1]) hF hsz (m_X6_gainOf l D cy S a0 a1 r h) (cwV_of (n := 1) hF.2.2.2.2 hk wd_423 wd_8 wd_69 wd_424 rfl rfl (by decide +kernel) hR) rfl hK hP hS (ci := 5) hc rfl hW rfl hdg hf kk
/-- VowBlocks.gain(I)I -/
def f_X6_gain (S : St) (a0 : Nat) (a1 : Int32) : Option (String ⊕ Int32) :=
  (oO S a0 5).bind fun _ =>
  (f_X6_find S a0 a1).bind fun z3 =>
  Sum.elim (fun E =>
    some (.inl E)
  ) (fun x4 =>
  (oO S a0 5).bind fun _ =>
  (f_X6_gainOf S a0 x4).bind fun x7 =>
  some (.inr x7)
  ) z3
abbrev rm_X6_gain : Room := { frames := 7, cells := 1, slots := 6, locals := 113 }
set_option maxHeartbeats 4000000 in
set_option maxRecDepth 100000 in
theorem m_X6_gain (l : Launch) (hl0 : l.stackTraces = false) (D : va_G) (cy : Nat → ClassId) (S : St) (a0 : Nat) (a1 : Int32) (x : String ⊕ Int32) (h : f_X6_gain S a0 a1 = some x) : vx_Met l yX6_gain (wsA yX6_gain cX6_gain 2 (some .int)) rm_X6_gain (va_Pc [.ref a0, .int a1] (PSX D cy S)) (va_Qi (fun r' (_ : Unit) => x = .inr r') (fun _ _ => True) noA) (vx_X (fun _ : Unit => True) (fun E _ _ => x = .inl E) noA) 1 6 noA := by
  refine vx_ofW (cc := cX6_gain) (maxL := 2) (ret := (some .int)) (by decide) rfl ?_
  intro p e s m args below meth c s₁ B hml htb hv
  obtain ⟨rfl, hP, hK, hE⟩ := hv
  have hx := B.exec
  have hb := B.bytes
  have hr := B.returns
  have hts9 := atoms_spec (ws := wsA yX6_gain cX6_gain 2 (some .int)) B.pre
  have hts : ∀ w ∈ ALLW, w.before _ s = true := fun w h => hts9 w (List.mem_cons_of_mem _ h)
  have hown : s.vm.findClass RX6 = some m.cls := findClass_of_methodNamed B.named
  have hlocks := B.notSynchronized
  have hS : va_S noA s.heap s.heap [] := va_S.rf
  have hl := lv_entry [.ref a0, .int a1] (n := 2) (Nat.le_of_ble_eq_true rfl)
  rw [lg_entry_eq]
  generalize (lg_sl [.ref a0, .int a1] ++ List.replicate (2 - (lg_sl [.ref a0, .int a1]).length) Slot.unset).toArray = ls at hl ⊢
  have hl : lv_has ls 2 [(0, .ref a0), (1, .int a1)] := hl
  rw [f_X6_gain] at h
  refine lv_aload_n hx hb dX6_gain_0 rfl (lv_at hl 0 rfl) ?_
  refine lv_aload_n hx hb dX6_gain_1 rfl (lv_at hl 0 rfl) ?_
  refine lv_iload_n hx hb dX6_gain_2 rfl (lv_at hl 1 rfl) ?_
  replace h := bd h
  obtain ⟨_, q1, h⟩ := h
  replace h := bd h
  obtain ⟨z3, q2, h⟩ := h
  refine c_X6_find ⟨hx, hb, hml, hown, hts⟩ hl.1 hK hP hS hE hl0 wd_638 ⟨(Nat.le_of_ble_eq_true rfl), (Nat.le_of_ble_eq_true rfl)⟩ q2 q1 (Nat.le_of_ble_eq_true rfl) dX6_gain_3 ⟨(Nat.le_of_ble_eq_true rfl), (Nat.le_of_ble_eq_true rfl)⟩ (fun E ce qx9 H locs hx9 hP hS h1 h2 h3 => ?_) (fun x4 H locs hx9 hP hS => ?_)
  · replace h := sel_l hx9 h
    cases h
    exact o_p (fun x h => (htb x h).elim) hlocks h1 h2 h3 hS (Nat.le_of_ble_eq_true rfl) (Nat.le_of_ble_eq_true rfl)
  · replace h := sel_r hx9 h
    replace h := bd h
    obtain ⟨_, q5, h⟩ := h
    replace h := bd h
    obtain ⟨x7, q6, h⟩ := h
    refine c_X6_gainOf ⟨hx, hb, hml, hown, hts⟩ hl.1 hK hP hS wd_421 ⟨(Nat.le_of_ble_eq_true rfl), (Nat.le_of_ble_eq_true rfl)⟩ q6 q5 (Nat.le_of_ble_eq_true rfl) dX6_gain_6 ⟨(Nat.le_of_ble_eq_true rfl), (Nat.le_of_ble_eq_true rfl)⟩ (fun H locs hP hS => ?_)
    cases h
    exact e_ipx hx hb hlocks hr hS (Nat.le_of_ble_eq_true rfl) (Nat.le_of_ble_eq_true rfl) dX6_gain_9
set_option maxRecDepth 100000 in
theorem c_X6_gain {p : Program} {l : Launch} {e : Env} {R : Room} {s : State} {m : MethodId} {args : Array Value} {below : List Frame} {meth : Method} {c : Code} {H : Heap} {locs : List Loc} {cells slots : Nat} {Q : State → Prop} {cc : ByteArray} {pc index nL : Nat} {ls : Array Slot} {rest : List Value} {D : va_G} {cy : Nat → ClassId} {A0 : Nat → Prop} {S : St} {own : String} {u : Unit} {a0 : Nat} {a1 : Int32} {x : String ⊕ Int32}  (hF : CallFix p m c cc nL s args ALLW own) (hsz : ls.size = nL) (hK : va_K D vwCl (tyL cy) s) (hP : SP D cy S H) (hS : va_S A0 s.heap H locs) (hE : ENV A0 s) (hl0 : l.stackTraces = false) (hk : Cond.methodLink own index yX6_gain ∈ ALLW) (hR : rm_X6_gain.frames + 1 ≤ R.frames ∧ 8 + (2 + 11) + rm_X6_gain.locals ≤ R.locals) (h : f_X6_gain S a0 a1 = some x) (hc : oO S a0 5 = some u) (hW : (rest.map fun v => v.category).sum ≤ 8) (hdg : decode cc pc = .ok (.invokevirtual index, 3)) (hf : cells + 1 ≤ R.cells ∧ slots + 6 ≤ R.slots)
    (kx : ∀ (E : String) (ce : Cell) (q9 : Addr) (H1 : Heap) (locs1 : List Loc), x = .inl E → SP D cy S H1 → va_S A0 s.heap H1 locs1 → H1[q9]? = some ce → ce.vm = .none → s.vm.findClass E = some ce.cls → vx_W p l e R s m args below meth c H1 locs1 (cells + 1) (slots + 6) Q (F0 m pc ls rest) q9)
    (kk : ∀ (r : Int32) (H1 : Heap) (locs1 : List Loc), x = .inr r → SP D cy S H1 → va_S A0 s.heap H1 locs1 → W p l e R s m args below meth c H1 locs1 (cells + 1) (slots + 6) Q (F0 m (pc + 3) ls (.int r :: rest))) : W p l e R s m args below meth c H locs cells slots Q (F0 m pc ls (.int a1 :: .ref a0 :: rest)) := by
  exact k_iVpx (As := [.int a1]) hF hsz (m_X6_gain l hl0 D cy S a0 a1 x h) (cwV_of (n := 1) hF.2.2.2.2 hk wd_864 wd_865 wd_69 wd_866 rfl rfl (by decide +kernel) hR) rfl hK hP hS hE (ci := 5) hc rfl hW rfl hdg hf kx kk
/-- VowBlocks.cheapestValue(LVowBlocks$Block;I)I -/
def f_X6_cheapestValue_L38 (y38_0 : Nat) (y38_1 : Nat) (y38_2 : Int32) : Nat → St → Int32 → Int32 → Int32 →  Option (Int32 × St)
  | 0, _, _, _, _ => none
  | fu + 1, S38_, y38_3, y38_4, y38_5 =>
    if 255 < y38_5 then
      some (y38_3, S38_)
    else
      (gR S38_ y38_0 5 3).bind fun x22 =>
      (oO S38_ x22 3).bind fun _ =>
      (f_X4_replace S38_ x22 y38_2 y38_5).bind fun z26 =>
      (gR z26 y38_0 5 3).bind fun x27 =>
      (gI z26 y38_1 0 1).bind fun x29 =>
      (f_X1_bits z26 x27 x29).bind fun x32 =>
      (
        if y38_4 ≤ x32 then
          some (y38_3, y38_4)
        else
          some (y38_5, x32)
      : Option (Int32 × Int32)).bind fun t33 =>
      f_X6_cheapestValue_L38 y38_0 y38_1 y38_2 fu z26 t33.1 t33.2 (y38_5 + 1)
def f_X6_cheapestValue (S : St) (a0 : Nat) (a1 : Nat) (a2 : Int32) : Option (Int32 × St) :=
  (gR S a0 5 3).bind fun x1 =>
  (gR S a1 0 0).bind fun x3 =>
  (oO S x1 3).bind fun _ =>
  (f_X4_copyFrom S x1 x3).bind fun z7 =>
  (gR z7 a0 5 3).bind fun x8 =>
  (oO z7 x8 3).bind fun _ =>
  (f_X4_replace z7 x8 a2 0).bind fun z12 =>
  (gR z12 a0 5 3).bind fun x13 =>
  (gI z12 a1 0 1).bind fun x15 =>
  (f_X1_bits z12 x13 x15).bind fun x18 =>
  (f_X6_cheapestValue_L38 a0 a1 a2 FU z12 0 x18 1).bind fun z19 =>
  some (z19.1, z19.2)
abbrev rm_X6_cheapestValue : Room := { frames := 2, cells := 0, slots := 0, locals := 47 }
set_option maxHeartbeats 4000000 in
set_option maxRecDepth 100000 in
theorem m_X6_cheapestValue (l : Launch) (D : va_G) (cy : Nat → ClassId) (sz : Nat) (S : St) (a0 : Nat) (a1 : Nat) (a2 : Int32) (r : Int32) (S1 : St) (h : f_X6_cheapestValue S a0 a1 a2 = some (r, S1)) : Met l yX6_cheapestValue (wsA yX6_cheapestValue cX6_cheapestValue 7 (some .int)) rm_X6_cheapestValue (va_Pc [.ref a0, .ref a1, .int a2] (PN D cy S sz)) (va_Qi (fun r' (_ : Unit) => r' = r) (fun _ t => PoS D cy S1 (dm S sz) t) (dm S sz)) 0 0 (dm S sz) := by
  refine Met.ofW (cc := cX6_cheapestValue) (maxL := 7) (ret := (some .int)) (by decide) rfl ?_
  intro p e s m args below meth c s₁ B hml hv
  obtain ⟨rfl, hsz, hP, hK⟩ := hv
  have hx := B.exec
  have hb := B.bytes
  have hr := B.returns
  have hts9 := atoms_spec (ws := wsA yX6_cheapestValue cX6_cheapestValue 7 (some .int)) B.pre
  have hts : ∀ w ∈ ALLW, w.before _ s = true := fun w h => hts9 w (List.mem_cons_of_mem _ h)
  have hown : s.vm.findClass RX6 = some m.cls := findClass_of_methodNamed B.named
  have hlocks := B.notSynchronized
  subst hsz
  have hD : ∀ a, S a ≠ none → dm S s.heap.size a := fun a h => Or.inl h
  have hA : ∀ q : Nat, s.heap.size ≤ q → dm S s.heap.size q := fun q h => Or.inr h
  have hS : va_S (dm S s.heap.size) s.heap s.heap [] := va_S.rf
  have hl := lv_entry [.ref a0, .ref a1, .int a2] (n := 7) (Nat.le_of_ble_eq_true rfl)
  rw [lg_entry_eq]
  generalize (lg_sl [.ref a0, .ref a1, .int a2] ++ List.replicate (7 - (lg_sl [.ref a0, .ref a1, .int a2]).length) Slot.unset).toArray = ls at hl ⊢
  have hl : lv_has ls 7 [(0, .ref a0), (1, .ref a1), (2, .int a2)] := hl
  rw [f_X6_cheapestValue] at h
  refine lv_aload_n hx hb dX6_cheapestValue_0 rfl (lv_at hl 0 rfl) ?_
  replace h := bd h
  obtain ⟨x1, q2, h⟩ := h
  refine fg_5_3 hx hb hts hown hK hP wd_217 q2 dX6_cheapestValue_1 ?_
  refine lv_aload_n hx hb dX6_cheapestValue_4 rfl (lv_at hl 1 rfl) ?_
  replace h := bd h
  obtain ⟨x3, q4, h⟩ := h
  refine fg_0_0 hx hb hts hown hK hP wd_121 q4 dX6_cheapestValue_5 ?_
  replace h := bd h
  obtain ⟨_, q5, h⟩ := h
  replace h := bd h
  obtain ⟨z7, q6, h⟩ := h
  refine c_X4_copyFrom ⟨hx, hb, hml, hown, hts⟩ hl.1 hK hP hD hA hS wd_433 ⟨(Nat.le_of_ble_eq_true rfl), (Nat.le_of_ble_eq_true rfl)⟩ q6 q5 (Nat.le_of_ble_eq_true rfl) dX6_cheapestValue_8 ⟨(Nat.le_of_ble_eq_true rfl), (Nat.le_of_ble_eq_true rfl)⟩ (fun H locs hP hD hS => ?_)
  refine lv_aload_n hx hb dX6_cheapestValue_11 rfl (lv_at hl 0 rfl) ?_
  replace h := bd h
  obtain ⟨x8, q9, h⟩ := h
  refine fg_5_3 hx hb hts hown hK hP wd_217 q9 dX6_cheapestValue_12 ?_
  refine lv_iload_n hx hb dX6_cheapestValue_15 rfl (lv_at hl 2 rfl) ?_
  refine lv_iconst (v := 0) hx hb dX6_cheapestValue_16 (by decide) ?_
  replace h := bd h
  obtain ⟨_, q10, h⟩ := h
  replace h := bd h
  obtain ⟨z12, q11, h⟩ := h
  refine c_X4_replace ⟨hx, hb, hml, hown, hts⟩ hl.1 hK hP hD hA hS wd_437 ⟨(Nat.le_of_ble_eq_true rfl), (Nat.le_of_ble_eq_true rfl)⟩ q11 q10 (Nat.le_of_ble_eq_true rfl) dX6_cheapestValue_17 ⟨(Nat.le_of_ble_eq_true rfl), (Nat.le_of_ble_eq_true rfl)⟩ (fun H locs hP hD hS => ?_)
  refine lv_iconst (v := 0) hx hb dX6_cheapestValue_20 (by decide) ?_
  refine lv_istore_n (lv' := [(3, .int 0), (0, .ref a0), (1, .ref a1), (2, .int a2)]) hx hb dX6_cheapestValue_21 rfl hl (by decide) rfl (fun ls hl => ?_)
  refine lv_aload_n hx hb dX6_cheapestValue_22 rfl (lv_at hl 1 rfl) ?_
  replace h := bd h
  obtain ⟨x13, q14, h⟩ := h
  refine fg_5_3 hx hb hts hown hK hP wd_217 q14 dX6_cheapestValue_23 ?_
  refine lv_aload_n hx hb dX6_cheapestValue_26 rfl (lv_at hl 2 rfl) ?_
  replace h := bd h
  obtain ⟨x15, q16, h⟩ := h
  refine fg_0_1 hx hb hts hown hK hP wd_125 q16 dX6_cheapestValue_27 ?_
  replace h := bd h
  obtain ⟨x18, q17, h⟩ := h
  refine c_X1_bits ⟨hx, hb, hml, hown, hts⟩ hl.1 hK hP hS wd_287 ⟨(Nat.le_of_ble_eq_true rfl), (Nat.le_of_ble_eq_true rfl)⟩ q17 (Nat.le_of_ble_eq_true rfl) dX6_cheapestValue_30 ⟨(Nat.le_of_ble_eq_true rfl), (Nat.le_of_ble_eq_true rfl)⟩ (fun H locs hP hS => ?_)
  refine lv_istore (lv' := [(4, .int x18), (3, .int 0), (0, .ref a0), (1, .ref a1), (2, .int a2)]) hx hb dX6_cheapestValue_33 hl (by decide) rfl (fun ls hl => ?_)
  refine lv_iconst (v := 1) hx hb dX6_cheapestValue_35 (by decide) ?_
  refine lv_istore (lv' := [(5, .int 1), (4, .int x18), (3, .int 0), (0, .ref a0), (1, .ref a1), (2, .int a2)]) hx hb dX6_cheapestValue_36 hl (by decide) rfl (fun ls hl => ?_)
  have L38 : ∀ (y38_0 : Nat) (y38_1 : Nat) (y38_2 : Int32) (fu : Nat) (S38_ : St) (y38_3 : Int32) (y38_4 : Int32) (y38_5 : Int32) (res : Int32 × St), f_X6_cheapestValue_L38 y38_0 y38_1 y38_2 fu S38_ y38_3 y38_4 y38_5 = some res → ∀ (H : Heap) (locs : List Loc) (ls : Array Slot), SP D cy S38_ H → (∀ a, S38_ a ≠ none → (dm S s.heap.size) a) → va_S (dm S s.heap.size) s.heap H locs → lv_has ls 7 [(0, .ref y38_0), (1, .ref y38_1), (2, .int y38_2), (3, .int y38_3), (4, .int y38_4), (5, .int y38_5)] → (∀ (H : Heap) (locs : List Loc) (ls : Array Slot), SP D cy res.2 H → (∀ a, res.2 a ≠ none → (dm S s.heap.size) a) → va_S (dm S s.heap.size) s.heap H locs → lv_has ls 7 [(3, .int res.1)] → W p l e rm_X6_cheapestValue s m ([.ref a0, .ref a1, .int a2] : List Value).toArray below meth c H locs 0 0 (MQ below (va_Qi (fun r' (_ : Unit) => r' = r) (fun _ t => PoS D cy S1 (dm S s.heap.size) t) (dm S s.heap.size)) ([.ref a0, .ref a1, .int a2] : List Value).toArray s 0 0 (dm S s.heap.size)) (F0 m 89 ls [])) → W p l e rm_X6_cheapestValue s m ([.ref a0, .ref a1, .int a2] : List Value).toArray below meth c H locs 0 0 (MQ below (va_Qi (fun r' (_ : Unit) => r' = r) (fun _ t => PoS D cy S1 (dm S s.heap.size) t) (dm S s.heap.size)) ([.ref a0, .ref a1, .int a2] : List Value).toArray s 0 0 (dm S s.heap.size)) (F0 m 38 ls []) := by
    intro y38_0 y38_1 y38_2 fu
    induction fu with
    | zero =>
      intro S38_ y38_3 y38_4 y38_5 res h
      rw [f_X6_cheapestValue_L38] at h
      cases h
    | succ fu ih =>
      intro S38_ y38_3 y38_4 y38_5 res h H locs ls hP hD hS hl hexit
      rw [f_X6_cheapestValue_L38] at h
      refine lv_iload hx hb dX6_cheapestValue_38 (lv_at hl 5 rfl) ?_
      refine lv_sipush (v := 255) hx hb dX6_cheapestValue_40 (by decide) ?_
      refine lv_icmp_gt (tgt := 89) hx hb dX6_cheapestValue_43 (by decide) (fun c21 => ?_) (fun c21 => ?_)
      · replace h := ifp c21 h
        cases h
        exact hexit _ _ _ hP hD hS (lv_sub hl [3] rfl)
      · replace h := ifn c21 h
        refine lv_aload_n hx hb dX6_cheapestValue_46 rfl (lv_at hl 0 rfl) ?_
        replace h := bd h
        obtain ⟨x22, q23, h⟩ := h
        refine fg_5_3 hx hb hts hown hK hP wd_217 q23 dX6_cheapestValue_47 ?_
        refine lv_iload_n hx hb dX6_cheapestValue_50 rfl (lv_at hl 2 rfl) ?_
        refine lv_iload hx hb dX6_cheapestValue_51 (lv_at hl 5 rfl) ?_
        replace h := bd h
        obtain ⟨_, q24, h⟩ := h
        replace h := bd h
        obtain ⟨z26, q25, h⟩ := h
        refine c_X4_replace ⟨hx, hb, hml, hown, hts⟩ hl.1 hK hP hD hA hS wd_437 ⟨(Nat.le_of_ble_eq_true rfl), (Nat.le_of_ble_eq_true rfl)⟩ q25 q24 (Nat.le_of_ble_eq_true rfl) dX6_cheapestValue_53 ⟨(Nat.le_of_ble_eq_true rfl), (Nat.le_of_ble_eq_true rfl)⟩ (fun H locs hP hD hS => ?_)
        refine lv_aload_n hx hb dX6_cheapestValue_56 rfl (lv_at hl 0 rfl) ?_
        replace h := bd h
        obtain ⟨x27, q28, h⟩ := h
        refine fg_5_3 hx hb hts hown hK hP wd_217 q28 dX6_cheapestValue_57 ?_
        refine lv_aload_n hx hb dX6_cheapestValue_60 rfl (lv_at hl 1 rfl) ?_
        replace h := bd h
        obtain ⟨x29, q30, h⟩ := h
        refine fg_0_1 hx hb hts hown hK hP wd_125 q30 dX6_cheapestValue_61 ?_
        replace h := bd h
        obtain ⟨x32, q31, h⟩ := h
        refine c_X1_bits ⟨hx, hb, hml, hown, hts⟩ hl.1 hK hP hS wd_287 ⟨(Nat.le_of_ble_eq_true rfl), (Nat.le_of_ble_eq_true rfl)⟩ q31 (Nat.le_of_ble_eq_true rfl) dX6_cheapestValue_64 ⟨(Nat.le_of_ble_eq_true rfl), (Nat.le_of_ble_eq_true rfl)⟩ (fun H locs hP hS => ?_)
        refine lv_istore (lv' := [(6, .int x32), (0, .ref y38_0), (1, .ref y38_1), (2, .int y38_2), (3, .int y38_3), (4, .int y38_4), (5, .int y38_5)]) hx hb dX6_cheapestValue_67 hl (by decide) rfl (fun ls hl => ?_)
        refine lv_iload hx hb dX6_cheapestValue_69 (lv_at hl 0 rfl) ?_
        refine lv_iload hx hb dX6_cheapestValue_71 (lv_at hl 5 rfl) ?_
        replace h := bd h
        obtain ⟨t33, ht, h⟩ := h
        have K33 : ∀ (H : Heap) (locs : List Loc) (ls : Array Slot), SP D cy z26 H → (∀ a, z26 a ≠ none → (dm S s.heap.size) a) → va_S (dm S s.heap.size) s.heap H locs → lv_has ls 7 [(0, .ref y38_0), (1, .ref y38_1), (2, .int y38_2), (3, .int t33.1), (4, .int t33.2), (5, .int y38_5)] → W p l e rm_X6_cheapestValue s m ([.ref a0, .ref a1, .int a2] : List Value).toArray below meth c H locs 0 0 (MQ below (va_Qi (fun r' (_ : Unit) => r' = r) (fun _ t => PoS D cy S1 (dm S s.heap.size) t) (dm S s.heap.size)) ([.ref a0, .ref a1, .int a2] : List Value).toArray s 0 0 (dm S s.heap.size)) (F0 m 83 ls []) := by
          intro H locs ls hP hD hS hl
          refine lv_iinc (v := (y38_5 + 1)) (lv' := [(5, .int (y38_5 + 1)), (0, .ref y38_0), (1, .ref y38_1), (2, .int y38_2), (3, .int t33.1), (4, .int t33.2)]) hx hb dX6_cheapestValue_83 hl (k := 5) rfl rfl (by decide) rfl (fun ls hl => ?_)
          refine lv_goto (tgt := 38) hx hb dX6_cheapestValue_86 (by decide) ?_
          exact ih z26 t33.1 t33.2 (y38_5 + 1) _ h _ _ _ hP hD hS (lv_sub hl [1, 2, 3, 4, 5, 0] rfl) hexit
        replace h := ht
        refine lv_icmp_ge (tgt := 83) hx hb dX6_cheapestValue_73 (by decide) (fun c34 => ?_) (fun c34 => ?_)
        · replace h := ifp c34 h
          cases h
          exact K33 _ _ _ hP hD hS (lv_sub hl [1, 2, 3, 4, 5, 6] rfl)
        · replace h := ifn c34 h
          refine lv_iload hx hb dX6_cheapestValue_76 (lv_at hl 0 rfl) ?_
          refine lv_istore (lv' := [(4, .int x32), (6, .int x32), (0, .ref y38_0), (1, .ref y38_1), (2, .int y38_2), (3, .int y38_3), (5, .int y38_5)]) hx hb dX6_cheapestValue_78 hl (by decide) rfl (fun ls hl => ?_)
          refine lv_iload hx hb dX6_cheapestValue_80 (lv_at hl 6 rfl) ?_
          refine lv_istore_n (lv' := [(3, .int y38_5), (4, .int x32), (6, .int x32), (0, .ref y38_0), (1, .ref y38_1), (2, .int y38_2), (5, .int y38_5)]) hx hb dX6_cheapestValue_82 rfl hl (by decide) rfl (fun ls hl => ?_)
          cases h
          exact K33 _ _ _ hP hD hS (lv_sub hl [3, 4, 5, 0, 1, 6] rfl)
  replace h := bd h
  obtain ⟨z19, q35, h⟩ := h
  refine L38 a0 a1 a2 FU z12 0 x18 1 z19 q35 _ _ _ hP hD hS (lv_sub hl [3, 4, 5, 2, 1, 0] rfl) (fun H locs ls hP hD hS hl => ?_)
  refine lv_iload_n hx hb dX6_cheapestValue_89 rfl (lv_at hl 0 rfl) ?_
  cases h
  exact e_im hx hb hlocks hr hP hD hS (Nat.le_of_ble_eq_true rfl) (Nat.le_of_ble_eq_true rfl) dX6_cheapestValue_90
set_option maxRecDepth 100000 in
theorem c_X6_cheapestValue {p : Program} {l : Launch} {e : Env} {R : Room} {s : State} {m : MethodId} {args : Array Value} {below : List Frame} {meth : Method} {c : Code} {H : Heap} {locs : List Loc} {cells slots : Nat} {Q : State → Prop} {cc : ByteArray} {pc index nL : Nat} {ls : Array Slot} {rest : List Value} {D : va_G} {cy : Nat → ClassId} {A0 : Nat → Prop} {S : St} {H0 : Heap} {own : String} {u : Unit} {a0 : Nat} {a1 : Nat} {a2 : Int32} {r : Int32} {S1 : St}  (hF : CallFix p m c cc nL s args ALLW own) (hsz : ls.size = nL) (hK : va_K D vwCl (tyL cy) s) (hP : SP D cy S H) (hD : ∀ a, S a ≠ none → A0 a) (hA : ∀ q, H0.size ≤ q → A0 q) (hS : va_S A0 H0 H locs) (hk : Cond.methodLink own index yX6_cheapestValue ∈ ALLW) (hR : rm_X6_cheapestValue.frames + 1 ≤ R.frames ∧ 8 + (7 + 11) + rm_X6_cheapestValue.locals ≤ R.locals) (h : f_X6_cheapestValue S a0 a1 a2 = some (r, S1)) (hc : oO S a0 5 = some u) (hW : (rest.map fun v => v.category).sum ≤ 8) (hdg : decode cc pc = .ok (.invokevirtual index, 3)) (hf : cells + 0 ≤ R.cells ∧ slots + 0 ≤ R.slots)
    (kk : ∀ (H1 : Heap) (locs1 : List Loc), SP D cy S1 H1 → (∀ a, S1 a ≠ none → A0 a) → va_S A0 H0 H1 locs1 → W p l e R s m args below meth c H1 locs1 (cells + 0) (slots + 0) Q (F0 m (pc + 3) ls (.int r :: rest))) : W p l e R s m args below meth c H locs cells slots Q (F0 m pc ls (.int a2 :: .ref a1 :: .ref a0 :: rest)) := by
  exact k_iVm (As := [.ref a1, .int a2]) hF hsz (m_X6_cheapestValue l D cy H.size S a0 a1 a2 r S1 h) (cwV_of (n := 2) hF.2.2.2.2 hk wd_431 wd_10 wd_69 wd_432 rfl rfl (by decide +kernel) hR) rfl hK hP hD hA hS (ci := 5) hc rfl hW rfl hdg hf kk
/-- VowBlocks.cheapest(II)I -/
def f_X6_cheapest (S : St) (a0 : Nat) (a1 : Int32) (a2 : Int32) : Option ((String ⊕ Int32) × St) :=
  (oO S a0 5).bind fun _ =>
  (f_X6_findWithPlace S a0 a1 a2).bind fun z3 =>
  Sum.elim (fun E =>
    some (.inl E, S)
  ) (fun x4 =>
  (oO S a0 5).bind fun _ =>
  (f_X6_cheapestValue S a0 x4 a2).bind fun z7 =>
  some (.inr z7.1, z7.2)
  ) z3
abbrev rm_X6_cheapest : Room := { frames := 8, cells := 2, slots := 12, locals := 126 }
set_option maxHeartbeats 4000000 in
set_option maxRecDepth 100000 in
theorem m_X6_cheapest (l : Launch) (hl0 : l.stackTraces = false) (D : va_G) (cy : Nat → ClassId) (sz : Nat) (S : St) (a0 : Nat) (a1 : Int32) (a2 : Int32) (x : String ⊕ Int32) (S1 : St) (h : f_X6_cheapest S a0 a1 a2 = some (x, S1)) : vx_Met l yX6_cheapest (wsA yX6_cheapest cX6_cheapest 3 (some .int)) rm_X6_cheapest (va_Pc [.ref a0, .int a1, .int a2] (PNX D cy S sz)) (va_Qi (fun r' (_ : Unit) => x = .inr r') (fun _ t => PoS D cy S1 (dm S sz) t) (dm S sz)) (vx_X (fun _ : Unit => True) (fun E _ t => x = .inl E ∧ PoS D cy S1 (dm S sz) t) (dm S sz)) 2 12 (dm S sz) := by
  refine vx_ofW (cc := cX6_cheapest) (maxL := 3) (ret := (some .int)) (by decide) rfl ?_
  intro p e s m args below meth c s₁ B hml htb hv
  obtain ⟨rfl, hsz, hP, hK, hE⟩ := hv
  have hx := B.exec
  have hb := B.bytes
  have hr := B.returns
  have hts9 := atoms_spec (ws := wsA yX6_cheapest cX6_cheapest 3 (some .int)) B.pre
  have hts : ∀ w ∈ ALLW, w.before _ s = true := fun w h => hts9 w (List.mem_cons_of_mem _ h)
  have hown : s.vm.findClass RX6 = some m.cls := findClass_of_methodNamed B.named
  have hlocks := B.notSynchronized
  subst hsz
  have hD : ∀ a, S a ≠ none → dm S s.heap.size a := fun a h => Or.inl h
  have hA : ∀ q : Nat, s.heap.size ≤ q → dm S s.heap.size q := fun q h => Or.inr h
  have hS : va_S (dm S s.heap.size) s.heap s.heap [] := va_S.rf
  have hl := lv_entry [.ref a0, .int a1, .int a2] (n := 3) (Nat.le_of_ble_eq_true rfl)
  rw [lg_entry_eq]
  generalize (lg_sl [.ref a0, .int a1, .int a2] ++ List.replicate (3 - (lg_sl [.ref a0, .int a1, .int a2]).length) Slot.unset).toArray = ls at hl ⊢
  have hl : lv_has ls 3 [(0, .ref a0), (1, .int a1), (2, .int a2)] := hl
  rw [f_X6_cheapest] at h
  refine lv_aload_n hx hb dX6_cheapest_0 rfl (lv_at hl 0 rfl) ?_
  refine lv_aload_n hx hb dX6_cheapest_1 rfl (lv_at hl 0 rfl) ?_
  refine lv_iload_n hx hb dX6_cheapest_2 rfl (lv_at hl 1 rfl) ?_
  refine lv_iload_n hx hb dX6_cheapest_3 rfl (lv_at hl 2 rfl) ?_
  replace h := bd h
  obtain ⟨_, q1, h⟩ := h
  replace h := bd h
  obtain ⟨z3, q2, h⟩ := h
  refine c_X6_findWithPlace ⟨hx, hb, hml, hown, hts⟩ hl.1 hK hP hS hE hl0 wd_667 ⟨(Nat.le_of_ble_eq_true rfl), (Nat.le_of_ble_eq_true rfl)⟩ q2 q1 (Nat.le_of_ble_eq_true rfl) dX6_cheapest_4 ⟨(Nat.le_of_ble_eq_true rfl), (Nat.le_of_ble_eq_true rfl)⟩ (fun E ce qx9 H locs hx9 hP hS h1 h2 h3 => ?_) (fun x4 H locs hx9 hP hS => ?_)
  · replace h := sel_l hx9 h
    cases h
    exact o_m (fun x h => (htb x h).elim) hlocks h1 h2 h3 hP hD hS (Nat.le_of_ble_eq_true rfl) (Nat.le_of_ble_eq_true rfl)
  · replace h := sel_r hx9 h
    refine lv_iload_n hx hb dX6_cheapest_7 rfl (lv_at hl 2 rfl) ?_
    replace h := bd h
    obtain ⟨_, q5, h⟩ := h
    replace h := bd h
    obtain ⟨z7, q6, h⟩ := h
    refine c_X6_cheapestValue ⟨hx, hb, hml, hown, hts⟩ hl.1 hK hP hD hA hS wd_429 ⟨(Nat.le_of_ble_eq_true rfl), (Nat.le_of_ble_eq_true rfl)⟩ q6 q5 (Nat.le_of_ble_eq_true rfl) dX6_cheapest_8 ⟨(Nat.le_of_ble_eq_true rfl), (Nat.le_of_ble_eq_true rfl)⟩ (fun H locs hP hD hS => ?_)
    cases h
    exact e_imx hx hb hlocks hr hP hD hS (Nat.le_of_ble_eq_true rfl) (Nat.le_of_ble_eq_true rfl) dX6_cheapest_11
set_option maxRecDepth 100000 in
theorem c_X6_cheapest {p : Program} {l : Launch} {e : Env} {R : Room} {s : State} {m : MethodId} {args : Array Value} {below : List Frame} {meth : Method} {c : Code} {H : Heap} {locs : List Loc} {cells slots : Nat} {Q : State → Prop} {cc : ByteArray} {pc index nL : Nat} {ls : Array Slot} {rest : List Value} {D : va_G} {cy : Nat → ClassId} {A0 : Nat → Prop} {S : St} {own : String} {u : Unit} {a0 : Nat} {a1 : Int32} {a2 : Int32} {x : String ⊕ Int32} {S1 : St}  (hF : CallFix p m c cc nL s args ALLW own) (hsz : ls.size = nL) (hK : va_K D vwCl (tyL cy) s) (hP : SP D cy S H) (hD : ∀ a, S a ≠ none → A0 a) (hA : ∀ q, s.heap.size ≤ q → A0 q) (hS : va_S A0 s.heap H locs) (hE : ENV A0 s) (hl0 : l.stackTraces = false) (hk : Cond.methodLink own index yX6_cheapest ∈ ALLW) (hR : rm_X6_cheapest.frames + 1 ≤ R.frames ∧ 8 + (3 + 11) + rm_X6_cheapest.locals ≤ R.locals) (h : f_X6_cheapest S a0 a1 a2 = some (x, S1)) (hc : oO S a0 5 = some u) (hW : (rest.map fun v => v.category).sum ≤ 8) (hdg : decode cc pc = .ok (.invokevirtual index, 3)) (hf : cells + 2 ≤ R.cells ∧ slots + 12 ≤ R.slots)
    (kx : ∀ (E : String) (ce : Cell) (q9 : Addr) (H1 : Heap) (locs1 : List Loc), x = .inl E → SP D cy S1 H1 → (∀ a, S1 a ≠ none → A0 a) → va_S A0 s.heap H1 locs1 → H1[q9]? = some ce → ce.vm = .none → s.vm.findClass E = some ce.cls → vx_W p l e R s m args below meth c H1 locs1 (cells + 2) (slots + 12) Q (F0 m pc ls rest) q9)
    (kk : ∀ (r : Int32) (H1 : Heap) (locs1 : List Loc), x = .inr r → SP D cy S1 H1 → (∀ a, S1 a ≠ none → A0 a) → va_S A0 s.heap H1 locs1 → W p l e R s m args below meth c H1 locs1 (cells + 2) (slots + 12) Q (F0 m (pc + 3) ls (.int r :: rest))) : W p l e R s m args below meth c H locs cells slots Q (F0 m pc ls (.int a2 :: .int a1 :: .ref a0 :: rest)) := by
  exact k_iVmx (As := [.int a1, .int a2]) hF hsz (m_X6_cheapest l hl0 D cy H.size S a0 a1 a2 x S1 h) (cwV_of (n := 2) hF.2.2.2.2 hk wd_871 wd_872 wd_69 wd_873 rfl rfl (by decide +kernel) hR) rfl hK hP hD hA hS hE (ci := 5) hc rfl hW rfl hdg hf kx kk
/-- VowBlocks.mateOf(LVowBlocks$Block;)I -/
def f_X6_mateOf_L7 (y7_0 : Nat) (y7_1 : Nat) : Nat → St → Int32 → Int32 → Int32 →  Option (Int32 × St)
  | 0, _, _, _, _ => none
  | fu + 1, S7_, y7_2, y7_3, y7_4 =>
    (gR S7_ y7_0 5 0).bind fun x3 =>
    (oO S7_ x3 1).bind fun _ =>
    (f_X2_size S7_ x3).bind fun x7 =>
    if x7 ≤ y7_4 then
      some (y7_2, S7_)
    else
      (gR S7_ y7_0 5 0).bind fun x9 =>
      (oO S7_ x9 1).bind fun _ =>
      (f_X2_at S7_ x9 y7_4).bind fun x13 =>
      (
        if x13 = y7_1 then
          some (y7_2, y7_3, S7_)
        else
          (gR S7_ y7_1 0 0).bind fun x16 =>
          (gR S7_ x13 0 0).bind fun x18 =>
          (oO S7_ x18 3).bind fun _ =>
          (f_X4_size S7_ x18).bind fun x22 =>
          (oO S7_ x16 3).bind fun _ =>
          (f_X4_hasRoomFor S7_ x16 x22).bind fun x25 =>
          if x25 = 0 then
            some (y7_2, y7_3, S7_)
          else
            (gR S7_ y7_0 5 3).bind fun x27 =>
            (gR S7_ y7_1 0 0).bind fun x29 =>
            (oO S7_ x27 3).bind fun _ =>
            (f_X4_copyFrom S7_ x27 x29).bind fun z33 =>
            (gR z33 y7_0 5 3).bind fun x34 =>
            (gR z33 x13 0 0).bind fun x36 =>
            (oO z33 x34 3).bind fun _ =>
            (f_X4_pushTail z33 x34 x36 0).bind fun z40 =>
            (gR z40 y7_0 5 3).bind fun x41 =>
            (gI z40 y7_1 0 1).bind fun x43 =>
            (f_X1_bits z40 x41 x43).bind fun x46 =>
            if y7_2 = (-1) then
              some (y7_4, x46, z40)
            else
              if y7_3 ≤ x46 then
                some (y7_2, y7_3, z40)
              else
                some (y7_4, x46, z40)
      : Option (Int32 × Int32 × St)).bind fun t14 =>
      f_X6_mateOf_L7 y7_0 y7_1 fu t14.2.2 t14.1 t14.2.1 (y7_4 + 1)
def f_X6_mateOf (S : St) (a0 : Nat) (a1 : Nat) : Option (Int32 × St) :=
  (f_X6_mateOf_L7 a0 a1 FU S (-1) 0 0).bind fun z1 =>
  some (z1.1, z1.2)
abbrev rm_X6_mateOf : Room := { frames := 3, cells := 0, slots := 0, locals := 67 }
set_option maxHeartbeats 4000000 in
set_option maxRecDepth 100000 in
theorem m_X6_mateOf (l : Launch) (D : va_G) (cy : Nat → ClassId) (sz : Nat) (S : St) (a0 : Nat) (a1 : Nat) (r : Int32) (S1 : St) (h : f_X6_mateOf S a0 a1 = some (r, S1)) : Met l yX6_mateOf (wsA yX6_mateOf cX6_mateOf 7 (some .int)) rm_X6_mateOf (va_Pc [.ref a0, .ref a1] (PN D cy S sz)) (va_Qi (fun r' (_ : Unit) => r' = r) (fun _ t => PoS D cy S1 (dm S sz) t) (dm S sz)) 0 0 (dm S sz) := by
  refine Met.ofW (cc := cX6_mateOf) (maxL := 7) (ret := (some .int)) (by decide) rfl ?_
  intro p e s m args below meth c s₁ B hml hv
  obtain ⟨rfl, hsz, hP, hK⟩ := hv
  have hx := B.exec
  have hb := B.bytes
  have hr := B.returns
  have hts9 := atoms_spec (ws := wsA yX6_mateOf cX6_mateOf 7 (some .int)) B.pre
  have hts : ∀ w ∈ ALLW, w.before _ s = true := fun w h => hts9 w (List.mem_cons_of_mem _ h)
  have hown : s.vm.findClass RX6 = some m.cls := findClass_of_methodNamed B.named
  have hlocks := B.notSynchronized
  subst hsz
  have hD : ∀ a, S a ≠ none → dm S s.heap.size a := fun a h => Or.inl h
  have hA : ∀ q : Nat, s.heap.size ≤ q → dm S s.heap.size q := fun q h => Or.inr h
  have hS : va_S (dm S s.heap.size) s.heap s.heap [] := va_S.rf
  have hl := lv_entry [.ref a0, .ref a1] (n := 7) (Nat.le_of_ble_eq_true rfl)
  rw [lg_entry_eq]
  generalize (lg_sl [.ref a0, .ref a1] ++ List.replicate (7 - (lg_sl [.ref a0, .ref a1]).length) Slot.unset).toArray = ls at hl ⊢
  have hl : lv_has ls 7 [(0, .ref a0), (1, .ref a1)] := hl
  rw [f_X6_mateOf] at h
  refine lv_iconst (v := (-1)) hx hb dX6_mateOf_0 (by decide) ?_
  refine lv_istore_n (lv' := [(2, .int (-1)), (0, .ref a0), (1, .ref a1)]) hx hb dX6_mateOf_1 rfl hl (by decide) rfl (fun ls hl => ?_)
  refine lv_iconst (v := 0) hx hb dX6_mateOf_2 (by decide) ?_
  refine lv_istore_n (lv' := [(3, .int 0), (2, .int (-1)), (0, .ref a0), (1, .ref a1)]) hx hb dX6_mateOf_3 rfl hl (by decide) rfl (fun ls hl => ?_)
  refine lv_iconst (v := 0) hx hb dX6_mateOf_4 (by decide) ?_
  refine lv_istore (lv' := [(4, .int 0), (3, .int 0), (2, .int (-1)), (0, .ref a0), (1, .ref a1)]) hx hb dX6_mateOf_5 hl (by decide) rfl (fun ls hl => ?_)
  have L7 : ∀ (y7_0 : Nat) (y7_1 : Nat) (fu : Nat) (S7_ : St) (y7_2 : Int32) (y7_3 : Int32) (y7_4 : Int32) (res : Int32 × St), f_X6_mateOf_L7 y7_0 y7_1 fu S7_ y7_2 y7_3 y7_4 = some res → ∀ (H : Heap) (locs : List Loc) (ls : Array Slot), SP D cy S7_ H → (∀ a, S7_ a ≠ none → (dm S s.heap.size) a) → va_S (dm S s.heap.size) s.heap H locs → lv_has ls 7 [(0, .ref y7_0), (1, .ref y7_1), (2, .int y7_2), (3, .int y7_3), (4, .int y7_4)] → (∀ (H : Heap) (locs : List Loc) (ls : Array Slot), SP D cy res.2 H → (∀ a, res.2 a ≠ none → (dm S s.heap.size) a) → va_S (dm S s.heap.size) s.heap H locs → lv_has ls 7 [(2, .int res.1)] → W p l e rm_X6_mateOf s m ([.ref a0, .ref a1] : List Value).toArray below meth c H locs 0 0 (MQ below (va_Qi (fun r' (_ : Unit) => r' = r) (fun _ t => PoS D cy S1 (dm S s.heap.size) t) (dm S s.heap.size)) ([.ref a0, .ref a1] : List Value).toArray s 0 0 (dm S s.heap.size)) (F0 m 114 ls [])) → W p l e rm_X6_mateOf s m ([.ref a0, .ref a1] : List Value).toArray below meth c H locs 0 0 (MQ below (va_Qi (fun r' (_ : Unit) => r' = r) (fun _ t => PoS D cy S1 (dm S s.heap.size) t) (dm S s.heap.size)) ([.ref a0, .ref a1] : List Value).toArray s 0 0 (dm S s.heap.size)) (F0 m 7 ls []) := by
    intro y7_0 y7_1 fu
    induction fu with
    | zero =>
      intro S7_ y7_2 y7_3 y7_4 res h
      rw [f_X6_mateOf_L7] at h
      cases h
    | succ fu ih =>
      intro S7_ y7_2 y7_3 y7_4 res h H locs ls hP hD hS hl hexit
      rw [f_X6_mateOf_L7] at h
      refine lv_iload hx hb dX6_mateOf_7 (lv_at hl 4 rfl) ?_
      refine lv_aload_n hx hb dX6_mateOf_9 rfl (lv_at hl 0 rfl) ?_
      replace h := bd h
      obtain ⟨x3, q4, h⟩ := h
      refine fg_5_0 hx hb hts hown hK hP wd_214 q4 dX6_mateOf_10 ?_
      replace h := bd h
      obtain ⟨_, q5, h⟩ := h
      replace h := bd h
      obtain ⟨x7, q6, h⟩ := h
      refine c_X2_size ⟨hx, hb, hml, hown, hts⟩ hl.1 hK hP hS wd_267 ⟨(Nat.le_of_ble_eq_true rfl), (Nat.le_of_ble_eq_true rfl)⟩ q6 q5 (Nat.le_of_ble_eq_true rfl) dX6_mateOf_13 ⟨(Nat.le_of_ble_eq_true rfl), (Nat.le_of_ble_eq_true rfl)⟩ (fun H locs hP hS => ?_)
      refine lv_icmp_ge (tgt := 114) hx hb dX6_mateOf_16 (by decide) (fun c8 => ?_) (fun c8 => ?_)
      · replace h := ifp c8 h
        cases h
        exact hexit _ _ _ hP hD hS (lv_sub hl [2] rfl)
      · replace h := ifn c8 h
        refine lv_aload_n hx hb dX6_mateOf_19 rfl (lv_at hl 0 rfl) ?_
        replace h := bd h
        obtain ⟨x9, q10, h⟩ := h
        refine fg_5_0 hx hb hts hown hK hP wd_214 q10 dX6_mateOf_20 ?_
        refine lv_iload hx hb dX6_mateOf_23 (lv_at hl 4 rfl) ?_
        replace h := bd h
        obtain ⟨_, q11, h⟩ := h
        replace h := bd h
        obtain ⟨x13, q12, h⟩ := h
        refine c_X2_at ⟨hx, hb, hml, hown, hts⟩ hl.1 hK hP hS wd_271 ⟨(Nat.le_of_ble_eq_true rfl), (Nat.le_of_ble_eq_true rfl)⟩ q12 q11 (Nat.le_of_ble_eq_true rfl) dX6_mateOf_25 ⟨(Nat.le_of_ble_eq_true rfl), (Nat.le_of_ble_eq_true rfl)⟩ (fun H locs hP hS => ?_)
        refine lv_astore (lv' := [(5, .ref x13), (0, .ref y7_0), (1, .ref y7_1), (2, .int y7_2), (3, .int y7_3), (4, .int y7_4)]) hx hb dX6_mateOf_28 hl (by decide) rfl (fun ls hl => ?_)
        refine lv_aload hx hb dX6_mateOf_30 (lv_at hl 0 rfl) ?_
        refine lv_aload_n hx hb dX6_mateOf_32 rfl (lv_at hl 2 rfl) ?_
        replace h := bd h
        obtain ⟨t14, ht, h⟩ := h
        have K14 : ∀ (H : Heap) (locs : List Loc) (ls : Array Slot), SP D cy t14.2.2 H → (∀ a, t14.2.2 a ≠ none → (dm S s.heap.size) a) → va_S (dm S s.heap.size) s.heap H locs → lv_has ls 7 [(0, .ref y7_0), (1, .ref y7_1), (2, .int t14.1), (3, .int t14.2.1), (4, .int y7_4)] → W p l e rm_X6_mateOf s m ([.ref a0, .ref a1] : List Value).toArray below meth c H locs 0 0 (MQ below (va_Qi (fun r' (_ : Unit) => r' = r) (fun _ t => PoS D cy S1 (dm S s.heap.size) t) (dm S s.heap.size)) ([.ref a0, .ref a1] : List Value).toArray s 0 0 (dm S s.heap.size)) (F0 m 108 ls []) := by
          intro H locs ls hP hD hS hl
          refine lv_iinc (v := (y7_4 + 1)) (lv' := [(4, .int (y7_4 + 1)), (0, .ref y7_0), (1, .ref y7_1), (2, .int t14.1), (3, .int t14.2.1)]) hx hb dX6_mateOf_108 hl (k := 4) rfl rfl (by decide) rfl (fun ls hl => ?_)
          refine lv_goto (tgt := 7) hx hb dX6_mateOf_111 (by decide) ?_
          exact ih t14.2.2 t14.1 t14.2.1 (y7_4 + 1) _ h _ _ _ hP hD hS (lv_sub hl [1, 2, 3, 4, 0] rfl) hexit
        replace h := ht
        refine lv_acmp_eq (rx := some x13) (ry := some y7_1) (tgt := 108) hx hb dX6_mateOf_33 (by decide) (fun c15 => ?_) (fun c15 => ?_)
        · replace c15 := Option.some.inj c15
          replace h := ifp c15 h
          cases h
          exact K14 _ _ _ hP hD hS (lv_sub hl [1, 2, 3, 4, 5] rfl)
        · replace c15 := fun e9 => c15 (congrArg some e9)
          replace h := ifn c15 h
          refine lv_aload_n hx hb dX6_mateOf_36 rfl (lv_at hl 2 rfl) ?_
          replace h := bd h
          obtain ⟨x16, q17, h⟩ := h
          refine fg_0_0 hx hb hts hown hK hP wd_121 q17 dX6_mateOf_37 ?_
          refine lv_aload hx hb dX6_mateOf_40 (lv_at hl 0 rfl) ?_
          replace h := bd h
          obtain ⟨x18, q19, h⟩ := h
          refine fg_0_0 hx hb hts hown hK hP wd_121 q19 dX6_mateOf_42 ?_
          replace h := bd h
          obtain ⟨_, q20, h⟩ := h
          replace h := bd h
          obtain ⟨x22, q21, h⟩ := h
          refine c_X4_size ⟨hx, hb, hml, hown, hts⟩ hl.1 hK hP hS wd_283 ⟨(Nat.le_of_ble_eq_true rfl), (Nat.le_of_ble_eq_true rfl)⟩ q21 q20 (Nat.le_of_ble_eq_true rfl) dX6_mateOf_45 ⟨(Nat.le_of_ble_eq_true rfl), (Nat.le_of_ble_eq_true rfl)⟩ (fun H locs hP hS => ?_)
          replace h := bd h
          obtain ⟨_, q23, h⟩ := h
          replace h := bd h
          obtain ⟨x25, q24, h⟩ := h
          refine c_X4_hasRoomFor ⟨hx, hb, hml, hown, hts⟩ hl.1 hK hP hS wd_445 ⟨(Nat.le_of_ble_eq_true rfl), (Nat.le_of_ble_eq_true rfl)⟩ q24 q23 (Nat.le_of_ble_eq_true rfl) dX6_mateOf_48 ⟨(Nat.le_of_ble_eq_true rfl), (Nat.le_of_ble_eq_true rfl)⟩ (fun H locs hP hS => ?_)
          refine lv_if_eq (tgt := 108) hx hb dX6_mateOf_51 (by decide) (fun c26 => ?_) (fun c26 => ?_)
          · replace h := ifp c26 h
            cases h
            exact K14 _ _ _ hP hD hS (lv_sub hl [1, 2, 3, 4, 5] rfl)
          · replace h := ifn c26 h
            refine lv_aload_n hx hb dX6_mateOf_54 rfl (lv_at hl 1 rfl) ?_
            replace h := bd h
            obtain ⟨x27, q28, h⟩ := h
            refine fg_5_3 hx hb hts hown hK hP wd_217 q28 dX6_mateOf_55 ?_
            refine lv_aload_n hx hb dX6_mateOf_58 rfl (lv_at hl 2 rfl) ?_
            replace h := bd h
            obtain ⟨x29, q30, h⟩ := h
            refine fg_0_0 hx hb hts hown hK hP wd_121 q30 dX6_mateOf_59 ?_
            replace h := bd h
            obtain ⟨_, q31, h⟩ := h
            replace h := bd h
            obtain ⟨z33, q32, h⟩ := h
            refine c_X4_copyFrom ⟨hx, hb, hml, hown, hts⟩ hl.1 hK hP hD hA hS wd_433 ⟨(Nat.le_of_ble_eq_true rfl), (Nat.le_of_ble_eq_true rfl)⟩ q32 q31 (Nat.le_of_ble_eq_true rfl) dX6_mateOf_62 ⟨(Nat.le_of_ble_eq_true rfl), (Nat.le_of_ble_eq_true rfl)⟩ (fun H locs hP hD hS => ?_)
            refine lv_aload_n hx hb dX6_mateOf_65 rfl (lv_at hl 1 rfl) ?_
            replace h := bd h
            obtain ⟨x34, q35, h⟩ := h
            refine fg_5_3 hx hb hts hown hK hP wd_217 q35 dX6_mateOf_66 ?_
            refine lv_aload hx hb dX6_mateOf_69 (lv_at hl 0 rfl) ?_
            replace h := bd h
            obtain ⟨x36, q37, h⟩ := h
            refine fg_0_0 hx hb hts hown hK hP wd_121 q37 dX6_mateOf_71 ?_
            refine lv_iconst (v := 0) hx hb dX6_mateOf_74 (by decide) ?_
            replace h := bd h
            obtain ⟨_, q38, h⟩ := h
            replace h := bd h
            obtain ⟨z40, q39, h⟩ := h
            refine c_X4_pushTail ⟨hx, hb, hml, hown, hts⟩ hl.1 hK hP hD hA hS wd_449 ⟨(Nat.le_of_ble_eq_true rfl), (Nat.le_of_ble_eq_true rfl)⟩ q39 q38 (Nat.le_of_ble_eq_true rfl) dX6_mateOf_75 ⟨(Nat.le_of_ble_eq_true rfl), (Nat.le_of_ble_eq_true rfl)⟩ (fun H locs hP hD hS => ?_)
            refine lv_aload_n hx hb dX6_mateOf_78 rfl (lv_at hl 1 rfl) ?_
            replace h := bd h
            obtain ⟨x41, q42, h⟩ := h
            refine fg_5_3 hx hb hts hown hK hP wd_217 q42 dX6_mateOf_79 ?_
            refine lv_aload_n hx hb dX6_mateOf_82 rfl (lv_at hl 2 rfl) ?_
            replace h := bd h
            obtain ⟨x43, q44, h⟩ := h
            refine fg_0_1 hx hb hts hown hK hP wd_125 q44 dX6_mateOf_83 ?_
            replace h := bd h
            obtain ⟨x46, q45, h⟩ := h
            refine c_X1_bits ⟨hx, hb, hml, hown, hts⟩ hl.1 hK hP hS wd_287 ⟨(Nat.le_of_ble_eq_true rfl), (Nat.le_of_ble_eq_true rfl)⟩ q45 (Nat.le_of_ble_eq_true rfl) dX6_mateOf_86 ⟨(Nat.le_of_ble_eq_true rfl), (Nat.le_of_ble_eq_true rfl)⟩ (fun H locs hP hS => ?_)
            refine lv_istore (lv' := [(6, .int x46), (5, .ref x13), (0, .ref y7_0), (1, .ref y7_1), (2, .int y7_2), (3, .int y7_3), (4, .int y7_4)]) hx hb dX6_mateOf_89 hl (by decide) rfl (fun ls hl => ?_)
            refine lv_iload_n hx hb dX6_mateOf_91 rfl (lv_at hl 4 rfl) ?_
            refine lv_iconst (v := (-1)) hx hb dX6_mateOf_92 (by decide) ?_
            refine lv_icmp_eq (tgt := 102) hx hb dX6_mateOf_93 (by decide) (fun c47 => ?_) (fun c47 => ?_)
            · replace h := ifp c47 h
              refine lv_iload hx hb dX6_mateOf_102 (lv_at hl 0 rfl) ?_
              refine lv_istore_n (lv' := [(3, .int x46), (6, .int x46), (5, .ref x13), (0, .ref y7_0), (1, .ref y7_1), (2, .int y7_2), (4, .int y7_4)]) hx hb dX6_mateOf_104 rfl hl (by decide) rfl (fun ls hl => ?_)
              refine lv_iload hx hb dX6_mateOf_105 (lv_at hl 6 rfl) ?_
              refine lv_istore_n (lv' := [(2, .int y7_4), (3, .int x46), (6, .int x46), (5, .ref x13), (0, .ref y7_0), (1, .ref y7_1), (4, .int y7_4)]) hx hb dX6_mateOf_107 rfl hl (by decide) rfl (fun ls hl => ?_)
              cases h
              exact K14 _ _ _ hP hD hS (lv_sub hl [4, 5, 0, 1, 6] rfl)
            · replace h := ifn c47 h
              refine lv_iload hx hb dX6_mateOf_96 (lv_at hl 0 rfl) ?_
              refine lv_iload_n hx hb dX6_mateOf_98 rfl (lv_at hl 5 rfl) ?_
              refine lv_icmp_ge (tgt := 108) hx hb dX6_mateOf_99 (by decide) (fun c48 => ?_) (fun c48 => ?_)
              · replace h := ifp c48 h
                cases h
                exact K14 _ _ _ hP hD hS (lv_sub hl [2, 3, 4, 5, 6] rfl)
              · replace h := ifn c48 h
                refine lv_iload hx hb dX6_mateOf_102 (lv_at hl 0 rfl) ?_
                refine lv_istore_n (lv' := [(3, .int x46), (6, .int x46), (5, .ref x13), (0, .ref y7_0), (1, .ref y7_1), (2, .int y7_2), (4, .int y7_4)]) hx hb dX6_mateOf_104 rfl hl (by decide) rfl (fun ls hl => ?_)
                refine lv_iload hx hb dX6_mateOf_105 (lv_at hl 6 rfl) ?_
                refine lv_istore_n (lv' := [(2, .int y7_4), (3, .int x46), (6, .int x46), (5, .ref x13), (0, .ref y7_0), (1, .ref y7_1), (4, .int y7_4)]) hx hb dX6_mateOf_107 rfl hl (by decide) rfl (fun ls hl => ?_)
                cases h
                exact K14 _ _ _ hP hD hS (lv_sub hl [4, 5, 0, 1, 6] rfl)
  replace h := bd h
  obtain ⟨z1, q49, h⟩ := h
  refine L7 a0 a1 FU S (-1) 0 0 z1 q49 _ _ _ hP hD hS (lv_sub hl [3, 4, 2, 1, 0] rfl) (fun H locs ls hP hD hS hl => ?_)
  refine lv_iload_n hx hb dX6_mateOf_114 rfl (lv_at hl 0 rfl) ?_
  cases h
  exact e_im hx hb hlocks hr hP hD hS (Nat.le_of_ble_eq_true rfl) (Nat.le_of_ble_eq_true rfl) dX6_mateOf_115
set_option maxRecDepth 100000 in
theorem c_X6_mateOf {p : Program} {l : Launch} {e : Env} {R : Room} {s : State} {m : MethodId} {args : Array Value} {below : List Frame} {meth : Method} {c : Code} {H : Heap} {locs : List Loc} {cells slots : Nat} {Q : State → Prop} {cc : ByteArray} {pc index nL : Nat} {ls : Array Slot} {rest : List Value} {D : va_G} {cy : Nat → ClassId} {A0 : Nat → Prop} {S : St} {H0 : Heap} {own : String} {u : Unit} {a0 : Nat} {a1 : Nat} {r : Int32} {S1 : St}  (hF : CallFix p m c cc nL s args ALLW own) (hsz : ls.size = nL) (hK : va_K D vwCl (tyL cy) s) (hP : SP D cy S H) (hD : ∀ a, S a ≠ none → A0 a) (hA : ∀ q, H0.size ≤ q → A0 q) (hS : va_S A0 H0 H locs) (hk : Cond.methodLink own index yX6_mateOf ∈ ALLW) (hR : rm_X6_mateOf.frames + 1 ≤ R.frames ∧ 8 + (7 + 11) + rm_X6_mateOf.locals ≤ R.locals) (h : f_X6_mateOf S a0 a1 = some (r, S1)) (hc : oO S a0 5 = some u) (hW : (rest.map fun v => v.category).sum ≤ 8) (hdg : decode cc pc = .ok (.invokevirtual index, 3)) (hf : cells + 0 ≤ R.cells ∧ slots + 0 ≤ R.slots)
    (kk : ∀ (H1 : Heap) (locs1 : List Loc), SP D cy S1 H1 → (∀ a, S1 a ≠ none → A0 a) → va_S A0 H0 H1 locs1 → W p l e R s m args below meth c H1 locs1 (cells + 0) (slots + 0) Q (F0 m (pc + 3) ls (.int r :: rest))) : W p l e R s m args below meth c H locs cells slots Q (F0 m pc ls (.ref a1 :: .ref a0 :: rest)) := by
  exact k_iVm (As := [.ref a1]) hF hsz (m_X6_mateOf l D cy H.size S a0 a1 r S1 h) (cwV_of (n := 1) hF.2.2.2.2 hk wd_443 wd_11 wd_69 wd_444 rfl rfl (by decide +kernel) hR) rfl hK hP hD hA hS (ci := 5) hc rfl hW rfl hdg hf kk
/-- VowBlocks.mate(I)I -/
def f_X6_mate (S : St) (a0 : Nat) (a1 : Int32) : Option ((String ⊕ Int32) × St) :=
  (oO S a0 5).bind fun _ =>
  (f_X6_find S a0 a1).bind fun z3 =>
  Sum.elim (fun E =>
    some (.inl E, S)
  ) (fun x4 =>
  (oO S a0 5).bind fun _ =>
  (f_X6_mateOf S a0 x4).bind fun z7 =>
  some (.inr z7.1, z7.2)
  ) z3
abbrev rm_X6_mate : Room := { frames := 7, cells := 1, slots := 6, locals := 103 }
set_option maxHeartbeats 4000000 in
set_option maxRecDepth 100000 in
theorem m_X6_mate (l : Launch) (hl0 : l.stackTraces = false) (D : va_G) (cy : Nat → ClassId) (sz : Nat) (S : St) (a0 : Nat) (a1 : Int32) (x : String ⊕ Int32) (S1 : St) (h : f_X6_mate S a0 a1 = some (x, S1)) : vx_Met l yX6_mate (wsA yX6_mate cX6_mate 2 (some .int)) rm_X6_mate (va_Pc [.ref a0, .int a1] (PNX D cy S sz)) (va_Qi (fun r' (_ : Unit) => x = .inr r') (fun _ t => PoS D cy S1 (dm S sz) t) (dm S sz)) (vx_X (fun _ : Unit => True) (fun E _ t => x = .inl E ∧ PoS D cy S1 (dm S sz) t) (dm S sz)) 1 6 (dm S sz) := by
  refine vx_ofW (cc := cX6_mate) (maxL := 2) (ret := (some .int)) (by decide) rfl ?_
  intro p e s m args below meth c s₁ B hml htb hv
  obtain ⟨rfl, hsz, hP, hK, hE⟩ := hv
  have hx := B.exec
  have hb := B.bytes
  have hr := B.returns
  have hts9 := atoms_spec (ws := wsA yX6_mate cX6_mate 2 (some .int)) B.pre
  have hts : ∀ w ∈ ALLW, w.before _ s = true := fun w h => hts9 w (List.mem_cons_of_mem _ h)
  have hown : s.vm.findClass RX6 = some m.cls := findClass_of_methodNamed B.named
  have hlocks := B.notSynchronized
  subst hsz
  have hD : ∀ a, S a ≠ none → dm S s.heap.size a := fun a h => Or.inl h
  have hA : ∀ q : Nat, s.heap.size ≤ q → dm S s.heap.size q := fun q h => Or.inr h
  have hS : va_S (dm S s.heap.size) s.heap s.heap [] := va_S.rf
  have hl := lv_entry [.ref a0, .int a1] (n := 2) (Nat.le_of_ble_eq_true rfl)
  rw [lg_entry_eq]
  generalize (lg_sl [.ref a0, .int a1] ++ List.replicate (2 - (lg_sl [.ref a0, .int a1]).length) Slot.unset).toArray = ls at hl ⊢
  have hl : lv_has ls 2 [(0, .ref a0), (1, .int a1)] := hl
  rw [f_X6_mate] at h
  refine lv_aload_n hx hb dX6_mate_0 rfl (lv_at hl 0 rfl) ?_
  refine lv_aload_n hx hb dX6_mate_1 rfl (lv_at hl 0 rfl) ?_
  refine lv_iload_n hx hb dX6_mate_2 rfl (lv_at hl 1 rfl) ?_
  replace h := bd h
  obtain ⟨_, q1, h⟩ := h
  replace h := bd h
  obtain ⟨z3, q2, h⟩ := h
  refine c_X6_find ⟨hx, hb, hml, hown, hts⟩ hl.1 hK hP hS hE hl0 wd_638 ⟨(Nat.le_of_ble_eq_true rfl), (Nat.le_of_ble_eq_true rfl)⟩ q2 q1 (Nat.le_of_ble_eq_true rfl) dX6_mate_3 ⟨(Nat.le_of_ble_eq_true rfl), (Nat.le_of_ble_eq_true rfl)⟩ (fun E ce qx9 H locs hx9 hP hS h1 h2 h3 => ?_) (fun x4 H locs hx9 hP hS => ?_)
  · replace h := sel_l hx9 h
    cases h
    exact o_m (fun x h => (htb x h).elim) hlocks h1 h2 h3 hP hD hS (Nat.le_of_ble_eq_true rfl) (Nat.le_of_ble_eq_true rfl)
  · replace h := sel_r hx9 h
    replace h := bd h
    obtain ⟨_, q5, h⟩ := h
    replace h := bd h
    obtain ⟨z7, q6, h⟩ := h
    refine c_X6_mateOf ⟨hx, hb, hml, hown, hts⟩ hl.1 hK hP hD hA hS wd_441 ⟨(Nat.le_of_ble_eq_true rfl), (Nat.le_of_ble_eq_true rfl)⟩ q6 q5 (Nat.le_of_ble_eq_true rfl) dX6_mate_6 ⟨(Nat.le_of_ble_eq_true rfl), (Nat.le_of_ble_eq_true rfl)⟩ (fun H locs hP hD hS => ?_)
    cases h
    exact e_imx hx hb hlocks hr hP hD hS (Nat.le_of_ble_eq_true rfl) (Nat.le_of_ble_eq_true rfl) dX6_mate_9
set_option maxRecDepth 100000 in
theorem c_X6_mate {p : Program} {l : Launch} {e : Env} {R : Room} {s : State} {m : MethodId} {args : Array Value} {below : List Frame} {meth : Method} {c : Code} {H : Heap} {locs : List Loc} {cells slots : Nat} {Q : State → Prop} {cc : ByteArray} {pc index nL : Nat} {ls : Array Slot} {rest : List Value} {D : va_G} {cy : Nat → ClassId} {A0 : Nat → Prop} {S : St} {own : String} {u : Unit} {a0 : Nat} {a1 : Int32} {x : String ⊕ Int32} {S1 : St}  (hF : CallFix p m c cc nL s args ALLW own) (hsz : ls.size = nL) (hK : va_K D vwCl (tyL cy) s) (hP : SP D cy S H) (hD : ∀ a, S a ≠ none → A0 a) (hA : ∀ q, s.heap.size ≤ q → A0 q) (hS : va_S A0 s.heap H locs) (hE : ENV A0 s) (hl0 : l.stackTraces = false) (hk : Cond.methodLink own index yX6_mate ∈ ALLW) (hR : rm_X6_mate.frames + 1 ≤ R.frames ∧ 8 + (2 + 11) + rm_X6_mate.locals ≤ R.locals) (h : f_X6_mate S a0 a1 = some (x, S1)) (hc : oO S a0 5 = some u) (hW : (rest.map fun v => v.category).sum ≤ 8) (hdg : decode cc pc = .ok (.invokevirtual index, 3)) (hf : cells + 1 ≤ R.cells ∧ slots + 6 ≤ R.slots)
    (kx : ∀ (E : String) (ce : Cell) (q9 : Addr) (H1 : Heap) (locs1 : List Loc), x = .inl E → SP D cy S1 H1 → (∀ a, S1 a ≠ none → A0 a) → va_S A0 s.heap H1 locs1 → H1[q9]? = some ce → ce.vm = .none → s.vm.findClass E = some ce.cls → vx_W p l e R s m args below meth c H1 locs1 (cells + 1) (slots + 6) Q (F0 m pc ls rest) q9)
    (kk : ∀ (r : Int32) (H1 : Heap) (locs1 : List Loc), x = .inr r → SP D cy S1 H1 → (∀ a, S1 a ≠ none → A0 a) → va_S A0 s.heap H1 locs1 → W p l e R s m args below meth c H1 locs1 (cells + 1) (slots + 6) Q (F0 m (pc + 3) ls (.int r :: rest))) : W p l e R s m args below meth c H locs cells slots Q (F0 m pc ls (.int a1 :: .ref a0 :: rest)) := by
  exact k_iVmx (As := [.int a1]) hF hsz (m_X6_mate l hl0 D cy H.size S a0 a1 x S1 h) (cwV_of (n := 1) hF.2.2.2.2 hk wd_878 wd_879 wd_69 wd_880 rfl rfl (by decide +kernel) hR) rfl hK hP hD hA hS hE (ci := 5) hc rfl hW rfl hdg hf kx kk
/-- VowBlocks.meanBits()D -/
def f_X6_meanBits (S : St) (a0 : Nat) : Option (UInt64) :=
  (oO S a0 5).bind fun _ =>
  (f_X6_sumOf S a0 0).bind fun x3 =>
  (
    if x3 = 0 then
      some FP.dconst0
    else
      (oO S a0 5).bind fun _ =>
      (f_X6_sumOf S a0 2).bind fun x8 =>
      (nn (FP.ddiv (FP.i2d x8) (FP.i2d x3))).bind fun _ =>
      some (FP.ddiv (FP.i2d x8) (FP.i2d x3))
  : Option (UInt64)).bind fun t4 =>
  some t4
abbrev rm_X6_meanBits : Room := { frames := 5, cells := 0, slots := 0, locals := 116 }
set_option maxHeartbeats 4000000 in
set_option maxRecDepth 100000 in
theorem m_X6_meanBits (l : Launch) (D : va_G) (cy : Nat → ClassId) (S : St) (a0 : Nat) (r : UInt64) (h : f_X6_meanBits S a0 = some r) : Met l yX6_meanBits (wsA yX6_meanBits cX6_meanBits 2 (some .double)) rm_X6_meanBits (va_Pc [.ref a0] (PS D cy S)) (va_Qd (fun r' (_ : Unit) => r' = r) (fun _ _ => True) noA) 0 0 noA := by
  refine Met.ofW (cc := cX6_meanBits) (maxL := 2) (ret := (some .double)) (by decide) rfl ?_
  intro p e s m args below meth c s₁ B hml hv
  obtain ⟨rfl, hP, hK⟩ := hv
  have hx := B.exec
  have hb := B.bytes
  have hr := B.returns
  have hts9 := atoms_spec (ws := wsA yX6_meanBits cX6_meanBits 2 (some .double)) B.pre
  have hts : ∀ w ∈ ALLW, w.before _ s = true := fun w h => hts9 w (List.mem_cons_of_mem _ h)
  have hown : s.vm.findClass RX6 = some m.cls := findClass_of_methodNamed B.named
  have hlocks := B.notSynchronized
  have hS : va_S noA s.heap s.heap [] := va_S.rf
  have hl := lv_entry [.ref a0] (n := 2) (Nat.le_of_ble_eq_true rfl)
  rw [lg_entry_eq]
  generalize (lg_sl [.ref a0] ++ List.replicate (2 - (lg_sl [.ref a0]).length) Slot.unset).toArray = ls at hl ⊢
  have hl : lv_has ls 2 [(0, .ref a0)] := hl
  rw [f_X6_meanBits] at h
  refine lv_aload_n hx hb dX6_meanBits_0 rfl (lv_at hl 0 rfl) ?_
  refine lv_iconst (v := 0) hx hb dX6_meanBits_1 (by decide) ?_
  replace h := bd h
  obtain ⟨_, q1, h⟩ := h
  replace h := bd h
  obtain ⟨x3, q2, h⟩ := h
  refine c_X6_sumOf ⟨hx, hb, hml, hown, hts⟩ hl.1 hK hP hS wd_263 ⟨(Nat.le_of_ble_eq_true rfl), (Nat.le_of_ble_eq_true rfl)⟩ q2 q1 (Nat.le_of_ble_eq_true rfl) dX6_meanBits_2 ⟨(Nat.le_of_ble_eq_true rfl), (Nat.le_of_ble_eq_true rfl)⟩ (fun H locs hP hS => ?_)
  refine lv_istore_n (lv' := [(1, .int x3), (0, .ref a0)]) hx hb dX6_meanBits_5 rfl hl (by decide) rfl (fun ls hl => ?_)
  refine lv_iload_n hx hb dX6_meanBits_6 rfl (lv_at hl 0 rfl) ?_
  replace h := bd h
  obtain ⟨t4, ht, h⟩ := h
  have K4 : ∀ (H : Heap) (locs : List Loc) (ls : Array Slot), SP D cy S H → va_S noA s.heap H locs → lv_has ls 2 [] → W p l e rm_X6_meanBits s m ([.ref a0] : List Value).toArray below meth c H locs 0 0 (MQ below (va_Qd (fun r' (_ : Unit) => r' = r) (fun _ _ => True) noA) ([.ref a0] : List Value).toArray s 0 0 noA) (F0 m 23 ls [.double t4]) := by
    intro H locs ls hP hS hl
    cases h
    exact e_dp hx hb hlocks hr hS (Nat.le_of_ble_eq_true rfl) (Nat.le_of_ble_eq_true rfl) dX6_meanBits_23
  replace h := ht
  refine lv_if_ne (tgt := 14) hx hb dX6_meanBits_7 (by decide) (fun c5 => ?_) (fun c5 => ?_)
  · replace h := ifn c5 h
    refine lv_aload_n hx hb dX6_meanBits_14 rfl (lv_at hl 1 rfl) ?_
    refine lv_iconst (v := 2) hx hb dX6_meanBits_15 (by decide) ?_
    replace h := bd h
    obtain ⟨_, q6, h⟩ := h
    replace h := bd h
    obtain ⟨x8, q7, h⟩ := h
    refine c_X6_sumOf ⟨hx, hb, hml, hown, hts⟩ hl.1 hK hP hS wd_263 ⟨(Nat.le_of_ble_eq_true rfl), (Nat.le_of_ble_eq_true rfl)⟩ q7 q6 (Nat.le_of_ble_eq_true rfl) dX6_meanBits_16 ⟨(Nat.le_of_ble_eq_true rfl), (Nat.le_of_ble_eq_true rfl)⟩ (fun H locs hP hS => ?_)
    refine lv_i2d hx hb dX6_meanBits_19 ?_
    refine lv_iload_n hx hb dX6_meanBits_20 rfl (lv_at hl 0 rfl) ?_
    refine lv_i2d hx hb dX6_meanBits_21 ?_
    replace h := bd h
    obtain ⟨_, q9, h⟩ := h
    refine lv_ddiv hx hb dX6_meanBits_22 (nn_spec q9) ?_
    cases h
    exact K4 _ _ _ hP hS (lv_sub hl [] rfl)
  · replace h := ifp c5 h
    refine lv_dconst0 hx hb dX6_meanBits_10 ?_
    refine lv_goto (tgt := 23) hx hb dX6_meanBits_11 (by decide) ?_
    cases h
    exact K4 _ _ _ hP hS (lv_sub hl [] rfl)
set_option maxRecDepth 100000 in
theorem c_X6_meanBits {p : Program} {l : Launch} {e : Env} {R : Room} {s : State} {m : MethodId} {args : Array Value} {below : List Frame} {meth : Method} {c : Code} {H : Heap} {locs : List Loc} {cells slots : Nat} {Q : State → Prop} {cc : ByteArray} {pc index nL : Nat} {ls : Array Slot} {rest : List Value} {D : va_G} {cy : Nat → ClassId} {A0 : Nat → Prop} {S : St} {H0 : Heap} {own : String} {u : Unit} {a0 : Nat} {r : UInt64}  (hF : CallFix p m c cc nL s args ALLW own) (hsz : ls.size = nL) (hK : va_K D vwCl (tyL cy) s) (hP : SP D cy S H) (hS : va_S A0 H0 H locs) (hk : Cond.methodLink own index yX6_meanBits ∈ ALLW) (hR : rm_X6_meanBits.frames + 1 ≤ R.frames ∧ 8 + (2 + 11) + rm_X6_meanBits.locals ≤ R.locals) (h : f_X6_meanBits S a0 = some r) (hc : oO S a0 5 = some u) (hW : (rest.map fun v => v.category).sum ≤ 8) (hdg : decode cc pc = .ok (.invokevirtual index, 3)) (hf : cells + 0 ≤ R.cells ∧ slots + 0 ≤ R.slots)
    (kk : ∀ (H1 : Heap) (locs1 : List Loc), SP D cy S H1 → va_S A0 H0 H1 locs1 → W p l e R s m args below meth c H1 locs1 (cells + 0) (slots + 0) Q (F0 m (pc + 3) ls (.double r :: rest))) : W p l e R s m args below meth c H locs cells slots Q (F0 m pc ls (.ref a0 :: rest)) := by
  exact k_dVp (As := []) hF hsz (m_X6_meanBits l D cy S a0 r h) (cwV_of (n := 0) hF.2.2.2.2 hk wd_260 wd_261 wd_69 wd_262 rfl rfl (by decide +kernel) hR) rfl hK hP hS (ci := 5) hc rfl hW rfl hdg hf kk
/-- VowBlocks.mix(JJ)J -/
def f_X6_mix (a0 : Int64) (a2 : Int64) : Option (Int64) :=
  some ((31 * a0) + a2)
abbrev rm_X6_mix : Room := { frames := 0, cells := 0, slots := 0, locals := 0 }
set_option maxHeartbeats 4000000 in
set_option maxRecDepth 100000 in
theorem m_X6_mix (l : Launch) (D : va_G) (cy : Nat → ClassId) (S : St) (a0 : Int64) (a2 : Int64) (r : Int64) (h : f_X6_mix a0 a2 = some r) : Met l yX6_mix (wsA yX6_mix cX6_mix 4 (some .long)) rm_X6_mix (va_Pc [.long a0, .long a2] (PS D cy S)) (va_Ql (fun r' (_ : Unit) => r' = r) (fun _ _ => True) noA) 0 0 noA := by
  refine Met.ofW (cc := cX6_mix) (maxL := 4) (ret := (some .long)) (by decide) rfl ?_
  intro p e s m args below meth c s₁ B hml hv
  obtain ⟨rfl, hP, hK⟩ := hv
  have hx := B.exec
  have hb := B.bytes
  have hr := B.returns
  have hts9 := atoms_spec (ws := wsA yX6_mix cX6_mix 4 (some .long)) B.pre
  have hts : ∀ w ∈ ALLW, w.before _ s = true := fun w h => hts9 w (List.mem_cons_of_mem _ h)
  have hown : s.vm.findClass RX6 = some m.cls := findClass_of_methodNamed B.named
  have hlocks := B.notSynchronized
  have hS : va_S noA s.heap s.heap [] := va_S.rf
  have hl := lv_entry [.long a0, .long a2] (n := 4) (Nat.le_of_ble_eq_true rfl)
  rw [lg_entry_eq]
  generalize (lg_sl [.long a0, .long a2] ++ List.replicate (4 - (lg_sl [.long a0, .long a2]).length) Slot.unset).toArray = ls at hl ⊢
  have hl : lv_has ls 4 [(0, .long a0), (2, .long a2)] := hl
  rw [f_X6_mix] at h
  refine lv_ldc2 hx hb hown (hts _ wd_351) dX6_mix_0 ?_
  refine lv_lload_n hx hb dX6_mix_3 rfl (lv_at hl 0 rfl) ?_
  refine lv_lmul hx hb dX6_mix_4 ?_
  refine lv_lload_n hx hb dX6_mix_5 rfl (lv_at hl 1 rfl) ?_
  refine lv_ladd hx hb dX6_mix_6 ?_
  cases h
  exact e_lp hx hb hlocks hr hS (Nat.le_of_ble_eq_true rfl) (Nat.le_of_ble_eq_true rfl) dX6_mix_7
set_option maxRecDepth 100000 in
theorem c_X6_mix {p : Program} {l : Launch} {e : Env} {R : Room} {s : State} {m : MethodId} {args : Array Value} {below : List Frame} {meth : Method} {c : Code} {H : Heap} {locs : List Loc} {cells slots : Nat} {Q : State → Prop} {cc : ByteArray} {pc index nL : Nat} {ls : Array Slot} {rest : List Value} {D : va_G} {cy : Nat → ClassId} {A0 : Nat → Prop} {S : St} {H0 : Heap} {own : String} {a0 : Int64} {a2 : Int64} {r : Int64}  (hF : CallFix p m c cc nL s args ALLW own) (hsz : ls.size = nL) (hK : va_K D vwCl (tyL cy) s) (hP : SP D cy S H) (hS : va_S A0 H0 H locs) (hk : Cond.methodLink own index yX6_mix ∈ ALLW) (hR : rm_X6_mix.frames + 1 ≤ R.frames ∧ 8 + (4 + 11) + rm_X6_mix.locals ≤ R.locals) (h : f_X6_mix a0 a2 = some r) (hW : (rest.map fun v => v.category).sum ≤ 8) (hdg : decode cc pc = .ok (.invokestatic index, 3)) (hf : cells + 0 ≤ R.cells ∧ slots + 0 ≤ R.slots)
    (kk : ∀ (H1 : Heap) (locs1 : List Loc), SP D cy S H1 → va_S A0 H0 H1 locs1 → W p l e R s m args below meth c H1 locs1 (cells + 0) (slots + 0) Q (F0 m (pc + 3) ls (.long r :: rest))) : W p l e R s m args below meth c H locs cells slots Q (F0 m pc ls (.long a2 :: .long a0 :: rest)) := by
  exact k_lSp (As := [.long a0, .long a2]) hF hsz (m_X6_mix l D cy S a0 a2 r h) (cwS_of (n := 2) hF.2.2.2.2 hk wd_349 wd_69 wd_350 rfl rfl (by decide +kernel) hR) rfl hK hP hS hW rfl hdg hf kk
/-- VowBlocks.mixBlock(JLVowBlocks$Block;)J -/
def f_X6_mixBlock_L6 (S6_ : St) (y6_0 : Nat) (y6_3 : Nat) : Nat → Int64 → Int32 →  Option (Int64)
  | 0, _, _ => none
  | fu + 1, y6_4, y6_6 =>
    if 12 ≤ y6_6 then
      some y6_4
    else
      (oO S6_ y6_0 5).bind fun _ =>
      (f_X6_propertyOf S6_ y6_0 y6_3 y6_6).bind fun x6 =>
      (f_X6_mix y6_4 (Int32.toInt64 x6)).bind fun x8 =>
      f_X6_mixBlock_L6 S6_ y6_0 y6_3 fu x8 (y6_6 + 1)
def f_X6_mixBlock_L37 (S37_ : St) (y37_0 : Nat) (y37_3 : Nat) : Nat → Int64 → Int32 →  Option (Int64)
  | 0, _, _ => none
  | fu + 1, y37_4, y37_6 =>
    (gR S37_ y37_3 0 0).bind fun x12 =>
    (oO S37_ x12 3).bind fun _ =>
    (f_X4_size S37_ x12).bind fun x16 =>
    if x16 ≤ y37_6 then
      some y37_4
    else
      (gR S37_ y37_3 0 0).bind fun x18 =>
      (oO S37_ x18 3).bind fun _ =>
      (f_X4_at S37_ x18 y37_6).bind fun x22 =>
      (f_X6_mix y37_4 (Int32.toInt64 x22)).bind fun x24 =>
      f_X6_mixBlock_L37 S37_ y37_0 y37_3 fu x24 (y37_6 + 1)
def f_X6_mixBlock_L75 (S75_ : St) (y75_0 : Nat) (y75_3 : Nat) : Nat → Int64 → Int32 →  Option (Int64)
  | 0, _, _ => none
  | fu + 1, y75_4, y75_6 =>
    if 6 ≤ y75_6 then
      some y75_4
    else
      (gR S75_ y75_3 0 0).bind fun x29 =>
      (f_X1_bits S75_ x29 y75_6).bind fun x32 =>
      (f_X6_mix y75_4 (Int32.toInt64 x32)).bind fun x34 =>
      f_X6_mixBlock_L75 S75_ y75_0 y75_3 fu x34 (y75_6 + 1)
def f_X6_mixBlock_L108 (S108_ : St) (y108_0 : Nat) (y108_3 : Nat) : Nat → Int64 → Int32 →  Option (Int64)
  | 0, _, _ => none
  | fu + 1, y108_4, y108_6 =>
    if 6 ≤ y108_6 then
      some y108_4
    else
      (gR S108_ y108_3 0 0).bind fun x39 =>
      (f_X1_effort S108_ x39 y108_6 0 3).bind fun x42 =>
      (f_X6_mix y108_4 (Int32.toInt64 x42)).bind fun x44 =>
      f_X6_mixBlock_L108 S108_ y108_0 y108_3 fu x44 (y108_6 + 1)
def f_X6_mixBlock_L143 (S143_ : St) (y143_0 : Nat) (y143_3 : Nat) : Nat → Int64 → Int32 →  Option (Int64)
  | 0, _, _ => none
  | fu + 1, y143_4, y143_6 =>
    if 6 ≤ y143_6 then
      some y143_4
    else
      (gR S143_ y143_3 0 0).bind fun x49 =>
      (f_X1_effort S143_ x49 y143_6 2 3).bind fun x52 =>
      (f_X6_mix y143_4 (Int32.toInt64 x52)).bind fun x54 =>
      f_X6_mixBlock_L143 S143_ y143_0 y143_3 fu x54 (y143_6 + 1)
def f_X6_mixBlock (S : St) (a0 : Nat) (a1 : Int64) (a3 : Nat) : Option (Int64 × St) :=
  (f_X6_mixBlock_L6 S a0 a3 FU a1 0).bind fun z1 =>
  (f_X6_mixBlock_L37 S a0 a3 FU z1 0).bind fun z10 =>
  (f_X6_mixBlock_L75 S a0 a3 FU z10 0).bind fun z26 =>
  (f_X6_mixBlock_L108 S a0 a3 FU z26 0).bind fun z36 =>
  (f_X6_mixBlock_L143 S a0 a3 FU z36 0).bind fun z46 =>
  (oO S a0 5).bind fun _ =>
  (f_X6_regretOf S a0 a3 20).bind fun x58 =>
  (f_X6_mix z46 (Int32.toInt64 x58)).bind fun x60 =>
  (oO S a0 5).bind fun _ =>
  (f_X6_gainOf S a0 a3).bind fun x63 =>
  (f_X6_mix x60 (Int32.toInt64 x63)).bind fun x65 =>
  (oO S a0 5).bind fun _ =>
  (f_X6_cheapestValue S a0 a3 0).bind fun z68 =>
  (f_X6_mix x65 (Int32.toInt64 z68.1)).bind fun x70 =>
  (oO z68.2 a0 5).bind fun _ =>
  (f_X6_mateOf z68.2 a0 a3).bind fun z73 =>
  (f_X6_mix x70 (Int32.toInt64 z73.1)).bind fun x75 =>
  some (x75, z73.2)
abbrev rm_X6_mixBlock : Room := { frames := 5, cells := 0, slots := 0, locals := 114 }
set_option maxHeartbeats 4000000 in
set_option maxRecDepth 100000 in
theorem m_X6_mixBlock (l : Launch) (D : va_G) (cy : Nat → ClassId) (sz : Nat) (S : St) (a0 : Nat) (a1 : Int64) (a3 : Nat) (r : Int64) (S1 : St) (h : f_X6_mixBlock S a0 a1 a3 = some (r, S1)) : Met l yX6_mixBlock (wsA yX6_mixBlock cX6_mixBlock 7 (some .long)) rm_X6_mixBlock (va_Pc [.ref a0, .long a1, .ref a3] (PN D cy S sz)) (va_Ql (fun r' (_ : Unit) => r' = r) (fun _ t => PoS D cy S1 (dm S sz) t) (dm S sz)) 0 0 (dm S sz) := by
  refine Met.ofW (cc := cX6_mixBlock) (maxL := 7) (ret := (some .long)) (by decide) rfl ?_
  intro p e s m args below meth c s₁ B hml hv
  obtain ⟨rfl, hsz, hP, hK⟩ := hv
  have hx := B.exec
  have hb := B.bytes
  have hr := B.returns
  have hts9 := atoms_spec (ws := wsA yX6_mixBlock cX6_mixBlock 7 (some .long)) B.pre
  have hts : ∀ w ∈ ALLW, w.before _ s = true := fun w h => hts9 w (List.mem_cons_of_mem _ h)
  have hown : s.vm.findClass RX6 = some m.cls := findClass_of_methodNamed B.named
  have hlocks := B.notSynchronized
  subst hsz
  have hD : ∀ a, S a ≠ none → dm S s.heap.size a := fun a h => Or.inl h
  have hA : ∀ q : Nat, s.heap.size ≤ q → dm S s.heap.size q := fun q h => Or.inr h
  have hS : va_S (dm S s.heap.size) s.heap s.heap [] := va_S.rf
  have hl := lv_entry [.ref a0, .long a1, .ref a3] (n := 7) (Nat.le_of_ble_eq_true rfl)
  rw [lg_entry_eq]
  generalize (lg_sl [.ref a0, .long a1, .ref a3] ++ List.replicate (7 - (lg_sl [.ref a0, .long a1, .ref a3]).length) Slot.unset).toArray = ls at hl ⊢
  have hl : lv_has ls 7 [(0, .ref a0), (1, .long a1), (3, .ref a3)] := hl
  rw [f_X6_mixBlock] at h
  refine lv_lload_n hx hb dX6_mixBlock_0 rfl (lv_at hl 1 rfl) ?_
  refine lv_lstore (lv' := [(4, .long a1), (0, .ref a0), (1, .long a1), (3, .ref a3)]) hx hb dX6_mixBlock_1 hl (by decide) rfl (fun ls hl => ?_)
  refine lv_iconst (v := 0) hx hb dX6_mixBlock_3 (by decide) ?_
  refine lv_istore (lv' := [(6, .int 0), (4, .long a1), (0, .ref a0), (1, .long a1), (3, .ref a3)]) hx hb dX6_mixBlock_4 hl (by decide) rfl (fun ls hl => ?_)
  have L6 : ∀ (S6_ : St) (y6_0 : Nat) (y6_3 : Nat) (fu : Nat) (y6_4 : Int64) (y6_6 : Int32) (res : Int64), f_X6_mixBlock_L6 S6_ y6_0 y6_3 fu y6_4 y6_6 = some res → ∀ (H : Heap) (locs : List Loc) (ls : Array Slot), SP D cy S6_ H → (∀ a, S6_ a ≠ none → (dm S s.heap.size) a) → va_S (dm S s.heap.size) s.heap H locs → lv_has ls 7 [(0, .ref y6_0), (3, .ref y6_3), (4, .long y6_4), (6, .int y6_6)] → (∀ (H : Heap) (locs : List Loc) (ls : Array Slot), SP D cy S6_ H → (∀ a, S6_ a ≠ none → (dm S s.heap.size) a) → va_S (dm S s.heap.size) s.heap H locs → lv_has ls 7 [(0, .ref y6_0), (3, .ref y6_3), (4, .long res)] → W p l e rm_X6_mixBlock s m ([.ref a0, .long a1, .ref a3] : List Value).toArray below meth c H locs 0 0 (MQ below (va_Ql (fun r' (_ : Unit) => r' = r) (fun _ t => PoS D cy S1 (dm S s.heap.size) t) (dm S s.heap.size)) ([.ref a0, .long a1, .ref a3] : List Value).toArray s 0 0 (dm S s.heap.size)) (F0 m 34 ls [])) → W p l e rm_X6_mixBlock s m ([.ref a0, .long a1, .ref a3] : List Value).toArray below meth c H locs 0 0 (MQ below (va_Ql (fun r' (_ : Unit) => r' = r) (fun _ t => PoS D cy S1 (dm S s.heap.size) t) (dm S s.heap.size)) ([.ref a0, .long a1, .ref a3] : List Value).toArray s 0 0 (dm S s.heap.size)) (F0 m 6 ls []) := by
    intro S6_ y6_0 y6_3 fu
    induction fu with
    | zero =>
      intro y6_4 y6_6 res h
      rw [f_X6_mixBlock_L6] at h
      cases h
    | succ fu ih =>
      intro y6_4 y6_6 res h H locs ls hP hD hS hl hexit
      rw [f_X6_mixBlock_L6] at h
      refine lv_iload hx hb dX6_mixBlock_6 (lv_at hl 3 rfl) ?_
      refine lv_bipush (v := 12) hx hb dX6_mixBlock_8 (by decide) ?_
      refine lv_icmp_ge (tgt := 34) hx hb dX6_mixBlock_10 (by decide) (fun c3 => ?_) (fun c3 => ?_)
      · replace h := ifp c3 h
        cases h
        exact hexit _ _ _ hP hD hS (lv_sub hl [0, 1, 2] rfl)
      · replace h := ifn c3 h
        refine lv_lload hx hb dX6_mixBlock_13 (lv_at hl 2 rfl) ?_
        refine lv_aload_n hx hb dX6_mixBlock_15 rfl (lv_at hl 0 rfl) ?_
        refine lv_aload_n hx hb dX6_mixBlock_16 rfl (lv_at hl 1 rfl) ?_
        refine lv_iload hx hb dX6_mixBlock_17 (lv_at hl 3 rfl) ?_
        replace h := bd h
        obtain ⟨_, q4, h⟩ := h
        replace h := bd h
        obtain ⟨x6, q5, h⟩ := h
        refine c_X6_propertyOf ⟨hx, hb, hml, hown, hts⟩ hl.1 hK hP hS wd_279 ⟨(Nat.le_of_ble_eq_true rfl), (Nat.le_of_ble_eq_true rfl)⟩ q5 q4 (Nat.le_of_ble_eq_true rfl) dX6_mixBlock_19 ⟨(Nat.le_of_ble_eq_true rfl), (Nat.le_of_ble_eq_true rfl)⟩ (fun H locs hP hS => ?_)
        refine lv_i2l (v := (Int32.toInt64 x6)) hx hb dX6_mixBlock_22 rfl ?_
        replace h := bd h
        obtain ⟨x8, q7, h⟩ := h
        refine c_X6_mix ⟨hx, hb, hml, hown, hts⟩ hl.1 hK hP hS wd_348 ⟨(Nat.le_of_ble_eq_true rfl), (Nat.le_of_ble_eq_true rfl)⟩ q7 (Nat.le_of_ble_eq_true rfl) dX6_mixBlock_23 ⟨(Nat.le_of_ble_eq_true rfl), (Nat.le_of_ble_eq_true rfl)⟩ (fun H locs hP hS => ?_)
        refine lv_lstore (lv' := [(4, .long x8), (0, .ref y6_0), (3, .ref y6_3), (6, .int y6_6)]) hx hb dX6_mixBlock_26 hl (by decide) rfl (fun ls hl => ?_)
        refine lv_iinc (v := (y6_6 + 1)) (lv' := [(6, .int (y6_6 + 1)), (4, .long x8), (0, .ref y6_0), (3, .ref y6_3)]) hx hb dX6_mixBlock_28 hl (k := 3) rfl rfl (by decide) rfl (fun ls hl => ?_)
        refine lv_goto (tgt := 6) hx hb dX6_mixBlock_31 (by decide) ?_
        exact ih x8 (y6_6 + 1) _ h _ _ _ hP hD hS (lv_sub hl [2, 3, 1, 0] rfl) hexit
  replace h := bd h
  obtain ⟨z1, q9, h⟩ := h
  refine L6 S a0 a3 FU a1 0 z1 q9 _ _ _ hP hD hS (lv_sub hl [2, 4, 1, 0] rfl) (fun H locs ls hP hD hS hl => ?_)
  refine lv_iconst (v := 0) hx hb dX6_mixBlock_34 (by decide) ?_
  refine lv_istore (lv' := [(6, .int 0), (0, .ref a0), (3, .ref a3), (4, .long z1)]) hx hb dX6_mixBlock_35 hl (by decide) rfl (fun ls hl => ?_)
  have L37 : ∀ (S37_ : St) (y37_0 : Nat) (y37_3 : Nat) (fu : Nat) (y37_4 : Int64) (y37_6 : Int32) (res : Int64), f_X6_mixBlock_L37 S37_ y37_0 y37_3 fu y37_4 y37_6 = some res → ∀ (H : Heap) (locs : List Loc) (ls : Array Slot), SP D cy S37_ H → (∀ a, S37_ a ≠ none → (dm S s.heap.size) a) → va_S (dm S s.heap.size) s.heap H locs → lv_has ls 7 [(0, .ref y37_0), (3, .ref y37_3), (4, .long y37_4), (6, .int y37_6)] → (∀ (H : Heap) (locs : List Loc) (ls : Array Slot), SP D cy S37_ H → (∀ a, S37_ a ≠ none → (dm S s.heap.size) a) → va_S (dm S s.heap.size) s.heap H locs → lv_has ls 7 [(0, .ref y37_0), (3, .ref y37_3), (4, .long res)] → W p l e rm_X6_mixBlock s m ([.ref a0, .long a1, .ref a3] : List Value).toArray below meth c H locs 0 0 (MQ below (va_Ql (fun r' (_ : Unit) => r' = r) (fun _ t => PoS D cy S1 (dm S s.heap.size) t) (dm S s.heap.size)) ([.ref a0, .long a1, .ref a3] : List Value).toArray s 0 0 (dm S s.heap.size)) (F0 m 72 ls [])) → W p l e rm_X6_mixBlock s m ([.ref a0, .long a1, .ref a3] : List Value).toArray below meth c H locs 0 0 (MQ below (va_Ql (fun r' (_ : Unit) => r' = r) (fun _ t => PoS D cy S1 (dm S s.heap.size) t) (dm S s.heap.size)) ([.ref a0, .long a1, .ref a3] : List Value).toArray s 0 0 (dm S s.heap.size)) (F0 m 37 ls []) := by
    intro S37_ y37_0 y37_3 fu
    induction fu with
    | zero =>
      intro y37_4 y37_6 res h
      rw [f_X6_mixBlock_L37] at h
      cases h
    | succ fu ih =>
      intro y37_4 y37_6 res h H locs ls hP hD hS hl hexit
      rw [f_X6_mixBlock_L37] at h
      refine lv_iload hx hb dX6_mixBlock_37 (lv_at hl 3 rfl) ?_
      refine lv_aload_n hx hb dX6_mixBlock_39 rfl (lv_at hl 1 rfl) ?_
      replace h := bd h
      obtain ⟨x12, q13, h⟩ := h
      refine fg_0_0 hx hb hts hown hK hP wd_121 q13 dX6_mixBlock_40 ?_
      replace h := bd h
      obtain ⟨_, q14, h⟩ := h
      replace h := bd h
      obtain ⟨x16, q15, h⟩ := h
      refine c_X4_size ⟨hx, hb, hml, hown, hts⟩ hl.1 hK hP hS wd_283 ⟨(Nat.le_of_ble_eq_true rfl), (Nat.le_of_ble_eq_true rfl)⟩ q15 q14 (Nat.le_of_ble_eq_true rfl) dX6_mixBlock_43 ⟨(Nat.le_of_ble_eq_true rfl), (Nat.le_of_ble_eq_true rfl)⟩ (fun H locs hP hS => ?_)
      refine lv_icmp_ge (tgt := 72) hx hb dX6_mixBlock_46 (by decide) (fun c17 => ?_) (fun c17 => ?_)
      · replace h := ifp c17 h
        cases h
        exact hexit _ _ _ hP hD hS (lv_sub hl [0, 1, 2] rfl)
      · replace h := ifn c17 h
        refine lv_lload hx hb dX6_mixBlock_49 (lv_at hl 2 rfl) ?_
        refine lv_aload_n hx hb dX6_mixBlock_51 rfl (lv_at hl 1 rfl) ?_
        replace h := bd h
        obtain ⟨x18, q19, h⟩ := h
        refine fg_0_0 hx hb hts hown hK hP wd_121 q19 dX6_mixBlock_52 ?_
        refine lv_iload hx hb dX6_mixBlock_55 (lv_at hl 3 rfl) ?_
        replace h := bd h
        obtain ⟨_, q20, h⟩ := h
        replace h := bd h
        obtain ⟨x22, q21, h⟩ := h
        refine c_X4_at ⟨hx, hb, hml, hown, hts⟩ hl.1 hK hP hS wd_356 ⟨(Nat.le_of_ble_eq_true rfl), (Nat.le_of_ble_eq_true rfl)⟩ q21 q20 (Nat.le_of_ble_eq_true rfl) dX6_mixBlock_57 ⟨(Nat.le_of_ble_eq_true rfl), (Nat.le_of_ble_eq_true rfl)⟩ (fun H locs hP hS => ?_)
        refine lv_i2l (v := (Int32.toInt64 x22)) hx hb dX6_mixBlock_60 rfl ?_
        replace h := bd h
        obtain ⟨x24, q23, h⟩ := h
        refine c_X6_mix ⟨hx, hb, hml, hown, hts⟩ hl.1 hK hP hS wd_348 ⟨(Nat.le_of_ble_eq_true rfl), (Nat.le_of_ble_eq_true rfl)⟩ q23 (Nat.le_of_ble_eq_true rfl) dX6_mixBlock_61 ⟨(Nat.le_of_ble_eq_true rfl), (Nat.le_of_ble_eq_true rfl)⟩ (fun H locs hP hS => ?_)
        refine lv_lstore (lv' := [(4, .long x24), (0, .ref y37_0), (3, .ref y37_3), (6, .int y37_6)]) hx hb dX6_mixBlock_64 hl (by decide) rfl (fun ls hl => ?_)
        refine lv_iinc (v := (y37_6 + 1)) (lv' := [(6, .int (y37_6 + 1)), (4, .long x24), (0, .ref y37_0), (3, .ref y37_3)]) hx hb dX6_mixBlock_66 hl (k := 3) rfl rfl (by decide) rfl (fun ls hl => ?_)
        refine lv_goto (tgt := 37) hx hb dX6_mixBlock_69 (by decide) ?_
        exact ih x24 (y37_6 + 1) _ h _ _ _ hP hD hS (lv_sub hl [2, 3, 1, 0] rfl) hexit
  replace h := bd h
  obtain ⟨z10, q25, h⟩ := h
  refine L37 S a0 a3 FU z1 0 z10 q25 _ _ _ hP hD hS (lv_sub hl [1, 2, 3, 0] rfl) (fun H locs ls hP hD hS hl => ?_)
  refine lv_iconst (v := 0) hx hb dX6_mixBlock_72 (by decide) ?_
  refine lv_istore (lv' := [(6, .int 0), (0, .ref a0), (3, .ref a3), (4, .long z10)]) hx hb dX6_mixBlock_73 hl (by decide) rfl (fun ls hl => ?_)
  have L75 : ∀ (S75_ : St) (y75_0 : Nat) (y75_3 : Nat) (fu : Nat) (y75_4 : Int64) (y75_6 : Int32) (res : Int64), f_X6_mixBlock_L75 S75_ y75_0 y75_3 fu y75_4 y75_6 = some res → ∀ (H : Heap) (locs : List Loc) (ls : Array Slot), SP D cy S75_ H → (∀ a, S75_ a ≠ none → (dm S s.heap.size) a) → va_S (dm S s.heap.size) s.heap H locs → lv_has ls 7 [(0, .ref y75_0), (3, .ref y75_3), (4, .long y75_4), (6, .int y75_6)] → (∀ (H : Heap) (locs : List Loc) (ls : Array Slot), SP D cy S75_ H → (∀ a, S75_ a ≠ none → (dm S s.heap.size) a) → va_S (dm S s.heap.size) s.heap H locs → lv_has ls 7 [(0, .ref y75_0), (3, .ref y75_3), (4, .long res)] → W p l e rm_X6_mixBlock s m ([.ref a0, .long a1, .ref a3] : List Value).toArray below meth c H locs 0 0 (MQ below (va_Ql (fun r' (_ : Unit) => r' = r) (fun _ t => PoS D cy S1 (dm S s.heap.size) t) (dm S s.heap.size)) ([.ref a0, .long a1, .ref a3] : List Value).toArray s 0 0 (dm S s.heap.size)) (F0 m 105 ls [])) → W p l e rm_X6_mixBlock s m ([.ref a0, .long a1, .ref a3] : List Value).toArray below meth c H locs 0 0 (MQ below (va_Ql (fun r' (_ : Unit) => r' = r) (fun _ t => PoS D cy S1 (dm S s.heap.size) t) (dm S s.heap.size)) ([.ref a0, .long a1, .ref a3] : List Value).toArray s 0 0 (dm S s.heap.size)) (F0 m 75 ls []) := by
    intro S75_ y75_0 y75_3 fu
    induction fu with
    | zero =>
      intro y75_4 y75_6 res h
      rw [f_X6_mixBlock_L75] at h
      cases h
    | succ fu ih =>
      intro y75_4 y75_6 res h H locs ls hP hD hS hl hexit
      rw [f_X6_mixBlock_L75] at h
      refine lv_iload hx hb dX6_mixBlock_75 (lv_at hl 3 rfl) ?_
      refine lv_bipush (v := 6) hx hb dX6_mixBlock_77 (by decide) ?_
      refine lv_icmp_ge (tgt := 105) hx hb dX6_mixBlock_79 (by decide) (fun c28 => ?_) (fun c28 => ?_)
      · replace h := ifp c28 h
        cases h
        exact hexit _ _ _ hP hD hS (lv_sub hl [0, 1, 2] rfl)
      · replace h := ifn c28 h
        refine lv_lload hx hb dX6_mixBlock_82 (lv_at hl 2 rfl) ?_
        refine lv_aload_n hx hb dX6_mixBlock_84 rfl (lv_at hl 1 rfl) ?_
        replace h := bd h
        obtain ⟨x29, q30, h⟩ := h
        refine fg_0_0 hx hb hts hown hK hP wd_121 q30 dX6_mixBlock_85 ?_
        refine lv_iload hx hb dX6_mixBlock_88 (lv_at hl 3 rfl) ?_
        replace h := bd h
        obtain ⟨x32, q31, h⟩ := h
        refine c_X1_bits ⟨hx, hb, hml, hown, hts⟩ hl.1 hK hP hS wd_287 ⟨(Nat.le_of_ble_eq_true rfl), (Nat.le_of_ble_eq_true rfl)⟩ q31 (Nat.le_of_ble_eq_true rfl) dX6_mixBlock_90 ⟨(Nat.le_of_ble_eq_true rfl), (Nat.le_of_ble_eq_true rfl)⟩ (fun H locs hP hS => ?_)
        refine lv_i2l (v := (Int32.toInt64 x32)) hx hb dX6_mixBlock_93 rfl ?_
        replace h := bd h
        obtain ⟨x34, q33, h⟩ := h
        refine c_X6_mix ⟨hx, hb, hml, hown, hts⟩ hl.1 hK hP hS wd_348 ⟨(Nat.le_of_ble_eq_true rfl), (Nat.le_of_ble_eq_true rfl)⟩ q33 (Nat.le_of_ble_eq_true rfl) dX6_mixBlock_94 ⟨(Nat.le_of_ble_eq_true rfl), (Nat.le_of_ble_eq_true rfl)⟩ (fun H locs hP hS => ?_)
        refine lv_lstore (lv' := [(4, .long x34), (0, .ref y75_0), (3, .ref y75_3), (6, .int y75_6)]) hx hb dX6_mixBlock_97 hl (by decide) rfl (fun ls hl => ?_)
        refine lv_iinc (v := (y75_6 + 1)) (lv' := [(6, .int (y75_6 + 1)), (4, .long x34), (0, .ref y75_0), (3, .ref y75_3)]) hx hb dX6_mixBlock_99 hl (k := 3) rfl rfl (by decide) rfl (fun ls hl => ?_)
        refine lv_goto (tgt := 75) hx hb dX6_mixBlock_102 (by decide) ?_
        exact ih x34 (y75_6 + 1) _ h _ _ _ hP hD hS (lv_sub hl [2, 3, 1, 0] rfl) hexit
  replace h := bd h
  obtain ⟨z26, q35, h⟩ := h
  refine L75 S a0 a3 FU z10 0 z26 q35 _ _ _ hP hD hS (lv_sub hl [1, 2, 3, 0] rfl) (fun H locs ls hP hD hS hl => ?_)
  refine lv_iconst (v := 0) hx hb dX6_mixBlock_105 (by decide) ?_
  refine lv_istore (lv' := [(6, .int 0), (0, .ref a0), (3, .ref a3), (4, .long z26)]) hx hb dX6_mixBlock_106 hl (by decide) rfl (fun ls hl => ?_)
  have L108 : ∀ (S108_ : St) (y108_0 : Nat) (y108_3 : Nat) (fu : Nat) (y108_4 : Int64) (y108_6 : Int32) (res : Int64), f_X6_mixBlock_L108 S108_ y108_0 y108_3 fu y108_4 y108_6 = some res → ∀ (H : Heap) (locs : List Loc) (ls : Array Slot), SP D cy S108_ H → (∀ a, S108_ a ≠ none → (dm S s.heap.size) a) → va_S (dm S s.heap.size) s.heap H locs → lv_has ls 7 [(0, .ref y108_0), (3, .ref y108_3), (4, .long y108_4), (6, .int y108_6)] → (∀ (H : Heap) (locs : List Loc) (ls : Array Slot), SP D cy S108_ H → (∀ a, S108_ a ≠ none → (dm S s.heap.size) a) → va_S (dm S s.heap.size) s.heap H locs → lv_has ls 7 [(0, .ref y108_0), (3, .ref y108_3), (4, .long res)] → W p l e rm_X6_mixBlock s m ([.ref a0, .long a1, .ref a3] : List Value).toArray below meth c H locs 0 0 (MQ below (va_Ql (fun r' (_ : Unit) => r' = r) (fun _ t => PoS D cy S1 (dm S s.heap.size) t) (dm S s.heap.size)) ([.ref a0, .long a1, .ref a3] : List Value).toArray s 0 0 (dm S s.heap.size)) (F0 m 140 ls [])) → W p l e rm_X6_mixBlock s m ([.ref a0, .long a1, .ref a3] : List Value).toArray below meth c H locs 0 0 (MQ below (va_Ql (fun r' (_ : Unit) => r' = r) (fun _ t => PoS D cy S1 (dm S s.heap.size) t) (dm S s.heap.size)) ([.ref a0, .long a1, .ref a3] : List Value).toArray s 0 0 (dm S s.heap.size)) (F0 m 108 ls []) := by
    intro S108_ y108_0 y108_3 fu
    induction fu with
    | zero =>
      intro y108_4 y108_6 res h
      rw [f_X6_mixBlock_L108] at h
      cases h
    | succ fu ih =>
      intro y108_4 y108_6 res h H locs ls hP hD hS hl hexit
      rw [f_X6_mixBlock_L108] at h
      refine lv_iload hx hb dX6_mixBlock_108 (lv_at hl 3 rfl) ?_
      refine lv_bipush (v := 6) hx hb dX6_mixBlock_110 (by decide) ?_
      refine lv_icmp_ge (tgt := 140) hx hb dX6_mixBlock_112 (by decide) (fun c38 => ?_) (fun c38 => ?_)
      · replace h := ifp c38 h
        cases h
        exact hexit _ _ _ hP hD hS (lv_sub hl [0, 1, 2] rfl)
      · replace h := ifn c38 h
        refine lv_lload hx hb dX6_mixBlock_115 (lv_at hl 2 rfl) ?_
        refine lv_aload_n hx hb dX6_mixBlock_117 rfl (lv_at hl 1 rfl) ?_
        replace h := bd h
        obtain ⟨x39, q40, h⟩ := h
        refine fg_0_0 hx hb hts hown hK hP wd_121 q40 dX6_mixBlock_118 ?_
        refine lv_iload hx hb dX6_mixBlock_121 (lv_at hl 3 rfl) ?_
        refine lv_iconst (v := 0) hx hb dX6_mixBlock_123 (by decide) ?_
        refine lv_iconst (v := 3) hx hb dX6_mixBlock_124 (by decide) ?_
        replace h := bd h
        obtain ⟨x42, q41, h⟩ := h
        refine c_X1_effort ⟨hx, hb, hml, hown, hts⟩ hl.1 hK hP hS wd_364 ⟨(Nat.le_of_ble_eq_true rfl), (Nat.le_of_ble_eq_true rfl)⟩ q41 (Nat.le_of_ble_eq_true rfl) dX6_mixBlock_125 ⟨(Nat.le_of_ble_eq_true rfl), (Nat.le_of_ble_eq_true rfl)⟩ (fun H locs hP hS => ?_)
        refine lv_i2l (v := (Int32.toInt64 x42)) hx hb dX6_mixBlock_128 rfl ?_
        replace h := bd h
        obtain ⟨x44, q43, h⟩ := h
        refine c_X6_mix ⟨hx, hb, hml, hown, hts⟩ hl.1 hK hP hS wd_348 ⟨(Nat.le_of_ble_eq_true rfl), (Nat.le_of_ble_eq_true rfl)⟩ q43 (Nat.le_of_ble_eq_true rfl) dX6_mixBlock_129 ⟨(Nat.le_of_ble_eq_true rfl), (Nat.le_of_ble_eq_true rfl)⟩ (fun H locs hP hS => ?_)
        refine lv_lstore (lv' := [(4, .long x44), (0, .ref y108_0), (3, .ref y108_3), (6, .int y108_6)]) hx hb dX6_mixBlock_132 hl (by decide) rfl (fun ls hl => ?_)
        refine lv_iinc (v := (y108_6 + 1)) (lv' := [(6, .int (y108_6 + 1)), (4, .long x44), (0, .ref y108_0), (3, .ref y108_3)]) hx hb dX6_mixBlock_134 hl (k := 3) rfl rfl (by decide) rfl (fun ls hl => ?_)
        refine lv_goto (tgt := 108) hx hb dX6_mixBlock_137 (by decide) ?_
        exact ih x44 (y108_6 + 1) _ h _ _ _ hP hD hS (lv_sub hl [2, 3, 1, 0] rfl) hexit
  replace h := bd h
  obtain ⟨z36, q45, h⟩ := h
  refine L108 S a0 a3 FU z26 0 z36 q45 _ _ _ hP hD hS (lv_sub hl [1, 2, 3, 0] rfl) (fun H locs ls hP hD hS hl => ?_)
  refine lv_iconst (v := 0) hx hb dX6_mixBlock_140 (by decide) ?_
  refine lv_istore (lv' := [(6, .int 0), (0, .ref a0), (3, .ref a3), (4, .long z36)]) hx hb dX6_mixBlock_141 hl (by decide) rfl (fun ls hl => ?_)
  have L143 : ∀ (S143_ : St) (y143_0 : Nat) (y143_3 : Nat) (fu : Nat) (y143_4 : Int64) (y143_6 : Int32) (res : Int64), f_X6_mixBlock_L143 S143_ y143_0 y143_3 fu y143_4 y143_6 = some res → ∀ (H : Heap) (locs : List Loc) (ls : Array Slot), SP D cy S143_ H → (∀ a, S143_ a ≠ none → (dm S s.heap.size) a) → va_S (dm S s.heap.size) s.heap H locs → lv_has ls 7 [(0, .ref y143_0), (3, .ref y143_3), (4, .long y143_4), (6, .int y143_6)] → (∀ (H : Heap) (locs : List Loc) (ls : Array Slot), SP D cy S143_ H → (∀ a, S143_ a ≠ none → (dm S s.heap.size) a) → va_S (dm S s.heap.size) s.heap H locs → lv_has ls 7 [(0, .ref y143_0), (3, .ref y143_3), (4, .long res)] → W p l e rm_X6_mixBlock s m ([.ref a0, .long a1, .ref a3] : List Value).toArray below meth c H locs 0 0 (MQ below (va_Ql (fun r' (_ : Unit) => r' = r) (fun _ t => PoS D cy S1 (dm S s.heap.size) t) (dm S s.heap.size)) ([.ref a0, .long a1, .ref a3] : List Value).toArray s 0 0 (dm S s.heap.size)) (F0 m 175 ls [])) → W p l e rm_X6_mixBlock s m ([.ref a0, .long a1, .ref a3] : List Value).toArray below meth c H locs 0 0 (MQ below (va_Ql (fun r' (_ : Unit) => r' = r) (fun _ t => PoS D cy S1 (dm S s.heap.size) t) (dm S s.heap.size)) ([.ref a0, .long a1, .ref a3] : List Value).toArray s 0 0 (dm S s.heap.size)) (F0 m 143 ls []) := by
    intro S143_ y143_0 y143_3 fu
    induction fu with
    | zero =>
      intro y143_4 y143_6 res h
      rw [f_X6_mixBlock_L143] at h
      cases h
    | succ fu ih =>
      intro y143_4 y143_6 res h H locs ls hP hD hS hl hexit
      rw [f_X6_mixBlock_L143] at h
      refine lv_iload hx hb dX6_mixBlock_143 (lv_at hl 3 rfl) ?_
      refine lv_bipush (v := 6) hx hb dX6_mixBlock_145 (by decide) ?_
      refine lv_icmp_ge (tgt := 175) hx hb dX6_mixBlock_147 (by decide) (fun c48 => ?_) (fun c48 => ?_)
      · replace h := ifp c48 h
        cases h
        exact hexit _ _ _ hP hD hS (lv_sub hl [0, 1, 2] rfl)
      · replace h := ifn c48 h
        refine lv_lload hx hb dX6_mixBlock_150 (lv_at hl 2 rfl) ?_
        refine lv_aload_n hx hb dX6_mixBlock_152 rfl (lv_at hl 1 rfl) ?_
        replace h := bd h
        obtain ⟨x49, q50, h⟩ := h
        refine fg_0_0 hx hb hts hown hK hP wd_121 q50 dX6_mixBlock_153 ?_
        refine lv_iload hx hb dX6_mixBlock_156 (lv_at hl 3 rfl) ?_
        refine lv_iconst (v := 2) hx hb dX6_mixBlock_158 (by decide) ?_
        refine lv_iconst (v := 3) hx hb dX6_mixBlock_159 (by decide) ?_
        replace h := bd h
        obtain ⟨x52, q51, h⟩ := h
        refine c_X1_effort ⟨hx, hb, hml, hown, hts⟩ hl.1 hK hP hS wd_364 ⟨(Nat.le_of_ble_eq_true rfl), (Nat.le_of_ble_eq_true rfl)⟩ q51 (Nat.le_of_ble_eq_true rfl) dX6_mixBlock_160 ⟨(Nat.le_of_ble_eq_true rfl), (Nat.le_of_ble_eq_true rfl)⟩ (fun H locs hP hS => ?_)
        refine lv_i2l (v := (Int32.toInt64 x52)) hx hb dX6_mixBlock_163 rfl ?_
        replace h := bd h
        obtain ⟨x54, q53, h⟩ := h
        refine c_X6_mix ⟨hx, hb, hml, hown, hts⟩ hl.1 hK hP hS wd_348 ⟨(Nat.le_of_ble_eq_true rfl), (Nat.le_of_ble_eq_true rfl)⟩ q53 (Nat.le_of_ble_eq_true rfl) dX6_mixBlock_164 ⟨(Nat.le_of_ble_eq_true rfl), (Nat.le_of_ble_eq_true rfl)⟩ (fun H locs hP hS => ?_)
        refine lv_lstore (lv' := [(4, .long x54), (0, .ref y143_0), (3, .ref y143_3), (6, .int y143_6)]) hx hb dX6_mixBlock_167 hl (by decide) rfl (fun ls hl => ?_)
        refine lv_iinc (v := (y143_6 + 1)) (lv' := [(6, .int (y143_6 + 1)), (4, .long x54), (0, .ref y143_0), (3, .ref y143_3)]) hx hb dX6_mixBlock_169 hl (k := 3) rfl rfl (by decide) rfl (fun ls hl => ?_)
        refine lv_goto (tgt := 143) hx hb dX6_mixBlock_172 (by decide) ?_
        exact ih x54 (y143_6 + 1) _ h _ _ _ hP hD hS (lv_sub hl [2, 3, 1, 0] rfl) hexit
  replace h := bd h
  obtain ⟨z46, q55, h⟩ := h
  refine L143 S a0 a3 FU z36 0 z46 q55 _ _ _ hP hD hS (lv_sub hl [1, 2, 3, 0] rfl) (fun H locs ls hP hD hS hl => ?_)
  refine lv_lload hx hb dX6_mixBlock_175 (lv_at hl 2 rfl) ?_
  refine lv_aload_n hx hb dX6_mixBlock_177 rfl (lv_at hl 0 rfl) ?_
  refine lv_aload_n hx hb dX6_mixBlock_178 rfl (lv_at hl 1 rfl) ?_
  refine lv_bipush (v := 20) hx hb dX6_mixBlock_179 (by decide) ?_
  replace h := bd h
  obtain ⟨_, q56, h⟩ := h
  replace h := bd h
  obtain ⟨x58, q57, h⟩ := h
  refine c_X6_regretOf ⟨hx, hb, hml, hown, hts⟩ hl.1 hK hP hS wd_402 ⟨(Nat.le_of_ble_eq_true rfl), (Nat.le_of_ble_eq_true rfl)⟩ q57 q56 (Nat.le_of_ble_eq_true rfl) dX6_mixBlock_181 ⟨(Nat.le_of_ble_eq_true rfl), (Nat.le_of_ble_eq_true rfl)⟩ (fun H locs hP hS => ?_)
  refine lv_i2l (v := (Int32.toInt64 x58)) hx hb dX6_mixBlock_184 rfl ?_
  replace h := bd h
  obtain ⟨x60, q59, h⟩ := h
  refine c_X6_mix ⟨hx, hb, hml, hown, hts⟩ hl.1 hK hP hS wd_348 ⟨(Nat.le_of_ble_eq_true rfl), (Nat.le_of_ble_eq_true rfl)⟩ q59 (Nat.le_of_ble_eq_true rfl) dX6_mixBlock_185 ⟨(Nat.le_of_ble_eq_true rfl), (Nat.le_of_ble_eq_true rfl)⟩ (fun H locs hP hS => ?_)
  refine lv_lstore (lv' := [(4, .long x60), (0, .ref a0), (3, .ref a3)]) hx hb dX6_mixBlock_188 hl (by decide) rfl (fun ls hl => ?_)
  refine lv_lload hx hb dX6_mixBlock_190 (lv_at hl 0 rfl) ?_
  refine lv_aload_n hx hb dX6_mixBlock_192 rfl (lv_at hl 1 rfl) ?_
  refine lv_aload_n hx hb dX6_mixBlock_193 rfl (lv_at hl 2 rfl) ?_
  replace h := bd h
  obtain ⟨_, q61, h⟩ := h
  replace h := bd h
  obtain ⟨x63, q62, h⟩ := h
  refine c_X6_gainOf ⟨hx, hb, hml, hown, hts⟩ hl.1 hK hP hS wd_421 ⟨(Nat.le_of_ble_eq_true rfl), (Nat.le_of_ble_eq_true rfl)⟩ q62 q61 (Nat.le_of_ble_eq_true rfl) dX6_mixBlock_194 ⟨(Nat.le_of_ble_eq_true rfl), (Nat.le_of_ble_eq_true rfl)⟩ (fun H locs hP hS => ?_)
  refine lv_i2l (v := (Int32.toInt64 x63)) hx hb dX6_mixBlock_197 rfl ?_
  replace h := bd h
  obtain ⟨x65, q64, h⟩ := h
  refine c_X6_mix ⟨hx, hb, hml, hown, hts⟩ hl.1 hK hP hS wd_348 ⟨(Nat.le_of_ble_eq_true rfl), (Nat.le_of_ble_eq_true rfl)⟩ q64 (Nat.le_of_ble_eq_true rfl) dX6_mixBlock_198 ⟨(Nat.le_of_ble_eq_true rfl), (Nat.le_of_ble_eq_true rfl)⟩ (fun H locs hP hS => ?_)
  refine lv_lstore (lv' := [(4, .long x65), (0, .ref a0), (3, .ref a3)]) hx hb dX6_mixBlock_201 hl (by decide) rfl (fun ls hl => ?_)
  refine lv_lload hx hb dX6_mixBlock_203 (lv_at hl 0 rfl) ?_
  refine lv_aload_n hx hb dX6_mixBlock_205 rfl (lv_at hl 1 rfl) ?_
  refine lv_aload_n hx hb dX6_mixBlock_206 rfl (lv_at hl 2 rfl) ?_
  refine lv_iconst (v := 0) hx hb dX6_mixBlock_207 (by decide) ?_
  replace h := bd h
  obtain ⟨_, q66, h⟩ := h
  replace h := bd h
  obtain ⟨z68, q67, h⟩ := h
  refine c_X6_cheapestValue ⟨hx, hb, hml, hown, hts⟩ hl.1 hK hP hD hA hS wd_429 ⟨(Nat.le_of_ble_eq_true rfl), (Nat.le_of_ble_eq_true rfl)⟩ q67 q66 (Nat.le_of_ble_eq_true rfl) dX6_mixBlock_208 ⟨(Nat.le_of_ble_eq_true rfl), (Nat.le_of_ble_eq_true rfl)⟩ (fun H locs hP hD hS => ?_)
  refine lv_i2l (v := (Int32.toInt64 z68.1)) hx hb dX6_mixBlock_211 rfl ?_
  replace h := bd h
  obtain ⟨x70, q69, h⟩ := h
  refine c_X6_mix ⟨hx, hb, hml, hown, hts⟩ hl.1 hK hP hS wd_348 ⟨(Nat.le_of_ble_eq_true rfl), (Nat.le_of_ble_eq_true rfl)⟩ q69 (Nat.le_of_ble_eq_true rfl) dX6_mixBlock_212 ⟨(Nat.le_of_ble_eq_true rfl), (Nat.le_of_ble_eq_true rfl)⟩ (fun H locs hP hS => ?_)
  refine lv_lstore (lv' := [(4, .long x70), (0, .ref a0), (3, .ref a3)]) hx hb dX6_mixBlock_215 hl (by decide) rfl (fun ls hl => ?_)
  refine lv_lload hx hb dX6_mixBlock_217 (lv_at hl 0 rfl) ?_
  refine lv_aload_n hx hb dX6_mixBlock_219 rfl (lv_at hl 1 rfl) ?_
  refine lv_aload_n hx hb dX6_mixBlock_220 rfl (lv_at hl 2 rfl) ?_
  replace h := bd h
  obtain ⟨_, q71, h⟩ := h
  replace h := bd h
  obtain ⟨z73, q72, h⟩ := h
  refine c_X6_mateOf ⟨hx, hb, hml, hown, hts⟩ hl.1 hK hP hD hA hS wd_441 ⟨(Nat.le_of_ble_eq_true rfl), (Nat.le_of_ble_eq_true rfl)⟩ q72 q71 (Nat.le_of_ble_eq_true rfl) dX6_mixBlock_221 ⟨(Nat.le_of_ble_eq_true rfl), (Nat.le_of_ble_eq_true rfl)⟩ (fun H locs hP hD hS => ?_)
  refine lv_i2l (v := (Int32.toInt64 z73.1)) hx hb dX6_mixBlock_224 rfl ?_
  replace h := bd h
  obtain ⟨x75, q74, h⟩ := h
  refine c_X6_mix ⟨hx, hb, hml, hown, hts⟩ hl.1 hK hP hS wd_348 ⟨(Nat.le_of_ble_eq_true rfl), (Nat.le_of_ble_eq_true rfl)⟩ q74 (Nat.le_of_ble_eq_true rfl) dX6_mixBlock_225 ⟨(Nat.le_of_ble_eq_true rfl), (Nat.le_of_ble_eq_true rfl)⟩ (fun H locs hP hS => ?_)
  cases h
  exact e_lm hx hb hlocks hr hP hD hS (Nat.le_of_ble_eq_true rfl) (Nat.le_of_ble_eq_true rfl) dX6_mixBlock_228
set_option maxRecDepth 100000 in
theorem c_X6_mixBlock {p : Program} {l : Launch} {e : Env} {R : Room} {s : State} {m : MethodId} {args : Array Value} {below : List Frame} {meth : Method} {c : Code} {H : Heap} {locs : List Loc} {cells slots : Nat} {Q : State → Prop} {cc : ByteArray} {pc index nL : Nat} {ls : Array Slot} {rest : List Value} {D : va_G} {cy : Nat → ClassId} {A0 : Nat → Prop} {S : St} {H0 : Heap} {own : String} {u : Unit} {a0 : Nat} {a1 : Int64} {a3 : Nat} {r : Int64} {S1 : St}  (hF : CallFix p m c cc nL s args ALLW own) (hsz : ls.size = nL) (hK : va_K D vwCl (tyL cy) s) (hP : SP D cy S H) (hD : ∀ a, S a ≠ none → A0 a) (hA : ∀ q, H0.size ≤ q → A0 q) (hS : va_S A0 H0 H locs) (hk : Cond.methodLink own index yX6_mixBlock ∈ ALLW) (hR : rm_X6_mixBlock.frames + 1 ≤ R.frames ∧ 8 + (7 + 11) + rm_X6_mixBlock.locals ≤ R.locals) (h : f_X6_mixBlock S a0 a1 a3 = some (r, S1)) (hc : oO S a0 5 = some u) (hW : (rest.map fun v => v.category).sum ≤ 8) (hdg : decode cc pc = .ok (.invokevirtual index, 3)) (hf : cells + 0 ≤ R.cells ∧ slots + 0 ≤ R.slots)
    (kk : ∀ (H1 : Heap) (locs1 : List Loc), SP D cy S1 H1 → (∀ a, S1 a ≠ none → A0 a) → va_S A0 H0 H1 locs1 → W p l e R s m args below meth c H1 locs1 (cells + 0) (slots + 0) Q (F0 m (pc + 3) ls (.long r :: rest))) : W p l e R s m args below meth c H locs cells slots Q (F0 m pc ls (.ref a3 :: .long a1 :: .ref a0 :: rest)) := by
  exact k_lVm (As := [.long a1, .ref a3]) hF hsz (m_X6_mixBlock l D cy H.size S a0 a1 a3 r S1 h) (cwV_of (n := 2) hF.2.2.2.2 hk wd_354 wd_6 wd_69 wd_355 rfl rfl (by decide +kernel) hR) rfl hK hP hD hA hS (ci := 5) hc rfl hW rfl hdg hf kk
/-- VowBlocks.doubleBits(D)J -/
def f_X6_doubleBits_L18  : Nat → UInt64 → Int64 → Int32 →  Option (UInt64 × Int64)
  | 0, _, _, _ => none
  | fu + 1, y18_2, y18_4, y18_6 =>
    if 1023 ≤ y18_6 then
      some (y18_2, y18_4)
    else
      if (Op.cmpValue (FP.dcmp y18_2 4611686018427387904) .l) < 0 then
        some (y18_2, y18_4)
      else
        (nn (FP.ddiv y18_2 4611686018427387904)).bind fun _ =>
        f_X6_doubleBits_L18  fu (FP.ddiv y18_2 4611686018427387904) (y18_4 + 1) (y18_6 + 1)
def f_X6_doubleBits_L55  : Nat → UInt64 → Int64 → Int32 →  Option (UInt64 × Int64)
  | 0, _, _, _ => none
  | fu + 1, y55_2, y55_4, y55_6 =>
    if 1022 ≤ y55_6 then
      some (y55_2, y55_4)
    else
      if 0 ≤ (Op.cmpValue (FP.dcmp y55_2 FP.dconst1) .g) then
        some (y55_2, y55_4)
      else
        (nn (FP.dmul y55_2 4611686018427387904)).bind fun _ =>
        f_X6_doubleBits_L55  fu (FP.dmul y55_2 4611686018427387904) (y55_4 - 1) (y55_6 + 1)
def f_X6_doubleBits (a0 : UInt64) : Option (Int64) :=
  if 0 < (Op.cmpValue (FP.dcmp a0 FP.dconst0) .l) then
    (f_X6_doubleBits_L18  FU a0 1023 0).bind fun z2 =>
    (f_X6_doubleBits_L55  FU z2.1 z2.2 0).bind fun z8 =>
    (nn (FP.dsub z8.1 FP.dconst1)).bind fun _ =>
    (nn (FP.dmul (FP.dsub z8.1 FP.dconst1) 4841369599423283200)).bind fun _ =>
    some ((z8.2 <<< ((52 : Int32).toInt64 &&& 63)) + (FP.d2l (FP.dmul (FP.dsub z8.1 FP.dconst1) 4841369599423283200)))
  else
    some 0
abbrev rm_X6_doubleBits : Room := { frames := 0, cells := 0, slots := 0, locals := 0 }
set_option maxHeartbeats 4000000 in
set_option maxRecDepth 100000 in
theorem m_X6_doubleBits (l : Launch) (D : va_G) (cy : Nat → ClassId) (S : St) (a0 : UInt64) (r : Int64) (h : f_X6_doubleBits a0 = some r) : Met l yX6_doubleBits (wsA yX6_doubleBits cX6_doubleBits 7 (some .long)) rm_X6_doubleBits (va_Pc [.double a0] (PS D cy S)) (va_Ql (fun r' (_ : Unit) => r' = r) (fun _ _ => True) noA) 0 0 noA := by
  refine Met.ofW (cc := cX6_doubleBits) (maxL := 7) (ret := (some .long)) (by decide) rfl ?_
  intro p e s m args below meth c s₁ B hml hv
  obtain ⟨rfl, hP, hK⟩ := hv
  have hx := B.exec
  have hb := B.bytes
  have hr := B.returns
  have hts9 := atoms_spec (ws := wsA yX6_doubleBits cX6_doubleBits 7 (some .long)) B.pre
  have hts : ∀ w ∈ ALLW, w.before _ s = true := fun w h => hts9 w (List.mem_cons_of_mem _ h)
  have hown : s.vm.findClass RX6 = some m.cls := findClass_of_methodNamed B.named
  have hlocks := B.notSynchronized
  have hS : va_S noA s.heap s.heap [] := va_S.rf
  have hl := lv_entry [.double a0] (n := 7) (Nat.le_of_ble_eq_true rfl)
  rw [lg_entry_eq]
  generalize (lg_sl [.double a0] ++ List.replicate (7 - (lg_sl [.double a0]).length) Slot.unset).toArray = ls at hl ⊢
  have hl : lv_has ls 7 [(0, .double a0)] := hl
  rw [f_X6_doubleBits] at h
  refine lv_dload_n hx hb dX6_doubleBits_0 rfl (lv_at hl 0 rfl) ?_
  refine lv_dconst0 hx hb dX6_doubleBits_1 ?_
  refine lv_dcmp hx hb dX6_doubleBits_2 ?_
  refine lv_if_gt (tgt := 8) hx hb dX6_doubleBits_3 (by decide) (fun c1 => ?_) (fun c1 => ?_)
  · replace h := ifp c1 h
    refine lv_dload_n hx hb dX6_doubleBits_8 rfl (lv_at hl 0 rfl) ?_
    refine lv_dstore_n (lv' := [(2, .double a0), (0, .double a0)]) hx hb dX6_doubleBits_9 rfl hl (by decide) rfl (fun ls hl => ?_)
    refine lv_ldc2 hx hb hown (hts _ wd_463) dX6_doubleBits_10 ?_
    refine lv_lstore (lv' := [(4, .long 1023), (2, .double a0), (0, .double a0)]) hx hb dX6_doubleBits_13 hl (by decide) rfl (fun ls hl => ?_)
    refine lv_iconst (v := 0) hx hb dX6_doubleBits_15 (by decide) ?_
    refine lv_istore (lv' := [(6, .int 0), (4, .long 1023), (2, .double a0), (0, .double a0)]) hx hb dX6_doubleBits_16 hl (by decide) rfl (fun ls hl => ?_)
    have L18 : ∀ (fu : Nat) (y18_2 : UInt64) (y18_4 : Int64) (y18_6 : Int32) (res : UInt64 × Int64), f_X6_doubleBits_L18  fu y18_2 y18_4 y18_6 = some res → ∀ (H : Heap) (locs : List Loc) (ls : Array Slot), SP D cy S H → va_S noA s.heap H locs → lv_has ls 7 [(2, .double y18_2), (4, .long y18_4), (6, .int y18_6)] → (∀ (H : Heap) (locs : List Loc) (ls : Array Slot), SP D cy S H → va_S noA s.heap H locs → lv_has ls 7 [(2, .double res.1), (4, .long res.2)] → W p l e rm_X6_doubleBits s m ([.double a0] : List Value).toArray below meth c H locs 0 0 (MQ below (va_Ql (fun r' (_ : Unit) => r' = r) (fun _ _ => True) noA) ([.double a0] : List Value).toArray s 0 0 noA) (F0 m 52 ls [])) → W p l e rm_X6_doubleBits s m ([.double a0] : List Value).toArray below meth c H locs 0 0 (MQ below (va_Ql (fun r' (_ : Unit) => r' = r) (fun _ _ => True) noA) ([.double a0] : List Value).toArray s 0 0 noA) (F0 m 18 ls []) := by
      intro fu
      induction fu with
      | zero =>
        intro y18_2 y18_4 y18_6 res h
        rw [f_X6_doubleBits_L18] at h
        cases h
      | succ fu ih =>
        intro y18_2 y18_4 y18_6 res h H locs ls hP hS hl hexit
        rw [f_X6_doubleBits_L18] at h
        refine lv_iload hx hb dX6_doubleBits_18 (lv_at hl 2 rfl) ?_
        refine lv_sipush (v := 1023) hx hb dX6_doubleBits_20 (by decide) ?_
        refine lv_icmp_ge (tgt := 52) hx hb dX6_doubleBits_23 (by decide) (fun c4 => ?_) (fun c4 => ?_)
        · replace h := ifp c4 h
          cases h
          exact hexit _ _ _ hP hS (lv_sub hl [0, 1] rfl)
        · replace h := ifn c4 h
          refine lv_dload_n hx hb dX6_doubleBits_26 rfl (lv_at hl 0 rfl) ?_
          refine lv_ldc2d hx hb hown (hts _ wd_464) dX6_doubleBits_27 ?_
          refine lv_dcmp hx hb dX6_doubleBits_30 ?_
          refine lv_if_lt (tgt := 52) hx hb dX6_doubleBits_31 (by decide) (fun c5 => ?_) (fun c5 => ?_)
          · replace h := ifp c5 h
            cases h
            exact hexit _ _ _ hP hS (lv_sub hl [0, 1] rfl)
          · replace h := ifn c5 h
            refine lv_dload_n hx hb dX6_doubleBits_34 rfl (lv_at hl 0 rfl) ?_
            refine lv_ldc2d hx hb hown (hts _ wd_464) dX6_doubleBits_35 ?_
            replace h := bd h
            obtain ⟨_, q6, h⟩ := h
            refine lv_ddiv hx hb dX6_doubleBits_38 (nn_spec q6) ?_
            refine lv_dstore_n (lv' := [(2, .double (FP.ddiv y18_2 4611686018427387904)), (4, .long y18_4), (6, .int y18_6)]) hx hb dX6_doubleBits_39 rfl hl (by decide) rfl (fun ls hl => ?_)
            refine lv_lload hx hb dX6_doubleBits_40 (lv_at hl 1 rfl) ?_
            refine lv_lconst (v := 1) hx hb dX6_doubleBits_42 (by decide) ?_
            refine lv_ladd hx hb dX6_doubleBits_43 ?_
            refine lv_lstore (lv' := [(4, .long (y18_4 + 1)), (2, .double (FP.ddiv y18_2 4611686018427387904)), (6, .int y18_6)]) hx hb dX6_doubleBits_44 hl (by decide) rfl (fun ls hl => ?_)
            refine lv_iinc (v := (y18_6 + 1)) (lv' := [(6, .int (y18_6 + 1)), (4, .long (y18_4 + 1)), (2, .double (FP.ddiv y18_2 4611686018427387904))]) hx hb dX6_doubleBits_46 hl (k := 2) rfl rfl (by decide) rfl (fun ls hl => ?_)
            refine lv_goto (tgt := 18) hx hb dX6_doubleBits_49 (by decide) ?_
            exact ih (FP.ddiv y18_2 4611686018427387904) (y18_4 + 1) (y18_6 + 1) _ h _ _ _ hP hS (lv_sub hl [2, 1, 0] rfl) hexit
    replace h := bd h
    obtain ⟨z2, q7, h⟩ := h
    refine L18  FU a0 1023 0 z2 q7 _ _ _ hP hS (lv_sub hl [2, 1, 0] rfl) (fun H locs ls hP hS hl => ?_)
    refine lv_iconst (v := 0) hx hb dX6_doubleBits_52 (by decide) ?_
    refine lv_istore (lv' := [(6, .int 0), (2, .double z2.1), (4, .long z2.2)]) hx hb dX6_doubleBits_53 hl (by decide) rfl (fun ls hl => ?_)
    have L55 : ∀ (fu : Nat) (y55_2 : UInt64) (y55_4 : Int64) (y55_6 : Int32) (res : UInt64 × Int64), f_X6_doubleBits_L55  fu y55_2 y55_4 y55_6 = some res → ∀ (H : Heap) (locs : List Loc) (ls : Array Slot), SP D cy S H → va_S noA s.heap H locs → lv_has ls 7 [(2, .double y55_2), (4, .long y55_4), (6, .int y55_6)] → (∀ (H : Heap) (locs : List Loc) (ls : Array Slot), SP D cy S H → va_S noA s.heap H locs → lv_has ls 7 [(2, .double res.1), (4, .long res.2)] → W p l e rm_X6_doubleBits s m ([.double a0] : List Value).toArray below meth c H locs 0 0 (MQ below (va_Ql (fun r' (_ : Unit) => r' = r) (fun _ _ => True) noA) ([.double a0] : List Value).toArray s 0 0 noA) (F0 m 87 ls [])) → W p l e rm_X6_doubleBits s m ([.double a0] : List Value).toArray below meth c H locs 0 0 (MQ below (va_Ql (fun r' (_ : Unit) => r' = r) (fun _ _ => True) noA) ([.double a0] : List Value).toArray s 0 0 noA) (F0 m 55 ls []) := by
      intro fu
      induction fu with
      | zero =>
        intro y55_2 y55_4 y55_6 res h
        rw [f_X6_doubleBits_L55] at h
        cases h
      | succ fu ih =>
        intro y55_2 y55_4 y55_6 res h H locs ls hP hS hl hexit
        rw [f_X6_doubleBits_L55] at h
        refine lv_iload hx hb dX6_doubleBits_55 (lv_at hl 2 rfl) ?_
        refine lv_sipush (v := 1022) hx hb dX6_doubleBits_57 (by decide) ?_
        refine lv_icmp_ge (tgt := 87) hx hb dX6_doubleBits_60 (by decide) (fun c10 => ?_) (fun c10 => ?_)
        · replace h := ifp c10 h
          cases h
          exact hexit _ _ _ hP hS (lv_sub hl [0, 1] rfl)
        · replace h := ifn c10 h
          refine lv_dload_n hx hb dX6_doubleBits_63 rfl (lv_at hl 0 rfl) ?_
          refine lv_dconst1 hx hb dX6_doubleBits_64 ?_
          refine lv_dcmp hx hb dX6_doubleBits_65 ?_
          refine lv_if_ge (tgt := 87) hx hb dX6_doubleBits_66 (by decide) (fun c11 => ?_) (fun c11 => ?_)
          · replace h := ifp c11 h
            cases h
            exact hexit _ _ _ hP hS (lv_sub hl [0, 1] rfl)
          · replace h := ifn c11 h
            refine lv_dload_n hx hb dX6_doubleBits_69 rfl (lv_at hl 0 rfl) ?_
            refine lv_ldc2d hx hb hown (hts _ wd_464) dX6_doubleBits_70 ?_
            replace h := bd h
            obtain ⟨_, q12, h⟩ := h
            refine lv_dmul hx hb dX6_doubleBits_73 (nn_spec q12) ?_
            refine lv_dstore_n (lv' := [(2, .double (FP.dmul y55_2 4611686018427387904)), (4, .long y55_4), (6, .int y55_6)]) hx hb dX6_doubleBits_74 rfl hl (by decide) rfl (fun ls hl => ?_)
            refine lv_lload hx hb dX6_doubleBits_75 (lv_at hl 1 rfl) ?_
            refine lv_lconst (v := 1) hx hb dX6_doubleBits_77 (by decide) ?_
            refine lv_lsub hx hb dX6_doubleBits_78 ?_
            refine lv_lstore (lv' := [(4, .long (y55_4 - 1)), (2, .double (FP.dmul y55_2 4611686018427387904)), (6, .int y55_6)]) hx hb dX6_doubleBits_79 hl (by decide) rfl (fun ls hl => ?_)
            refine lv_iinc (v := (y55_6 + 1)) (lv' := [(6, .int (y55_6 + 1)), (4, .long (y55_4 - 1)), (2, .double (FP.dmul y55_2 4611686018427387904))]) hx hb dX6_doubleBits_81 hl (k := 2) rfl rfl (by decide) rfl (fun ls hl => ?_)
            refine lv_goto (tgt := 55) hx hb dX6_doubleBits_84 (by decide) ?_
            exact ih (FP.dmul y55_2 4611686018427387904) (y55_4 - 1) (y55_6 + 1) _ h _ _ _ hP hS (lv_sub hl [2, 1, 0] rfl) hexit
    replace h := bd h
    obtain ⟨z8, q13, h⟩ := h
    refine L55  FU z2.1 z2.2 0 z8 q13 _ _ _ hP hS (lv_sub hl [1, 2, 0] rfl) (fun H locs ls hP hS hl => ?_)
    refine lv_lload hx hb dX6_doubleBits_87 (lv_at hl 1 rfl) ?_
    refine lv_bipush (v := 52) hx hb dX6_doubleBits_89 (by decide) ?_
    refine lv_lshl (v := (z8.2 <<< ((52 : Int32).toInt64 &&& 63))) hx hb dX6_doubleBits_91 rfl ?_
    refine lv_dload_n hx hb dX6_doubleBits_92 rfl (lv_at hl 0 rfl) ?_
    refine lv_dconst1 hx hb dX6_doubleBits_93 ?_
    replace h := bd h
    obtain ⟨_, q14, h⟩ := h
    refine lv_dsub hx hb dX6_doubleBits_94 (nn_spec q14) ?_
    refine lv_ldc2d hx hb hown (hts _ wd_465) dX6_doubleBits_95 ?_
    replace h := bd h
    obtain ⟨_, q15, h⟩ := h
    refine lv_dmul hx hb dX6_doubleBits_98 (nn_spec q15) ?_
    refine lv_d2l hx hb dX6_doubleBits_99 ?_
    refine lv_ladd hx hb dX6_doubleBits_100 ?_
    cases h
    exact e_lp hx hb hlocks hr hS (Nat.le_of_ble_eq_true rfl) (Nat.le_of_ble_eq_true rfl) dX6_doubleBits_101
  · replace h := ifn c1 h
    refine lv_lconst (v := 0) hx hb dX6_doubleBits_6 (by decide) ?_
    cases h
    exact e_lp hx hb hlocks hr hS (Nat.le_of_ble_eq_true rfl) (Nat.le_of_ble_eq_true rfl) dX6_doubleBits_7
set_option maxRecDepth 100000 in
theorem c_X6_doubleBits {p : Program} {l : Launch} {e : Env} {R : Room} {s : State} {m : MethodId} {args : Array Value} {below : List Frame} {meth : Method} {c : Code} {H : Heap} {locs : List Loc} {cells slots : Nat} {Q : State → Prop} {cc : ByteArray} {pc index nL : Nat} {ls : Array Slot} {rest : List Value} {D : va_G} {cy : Nat → ClassId} {A0 : Nat → Prop} {S : St} {H0 : Heap} {own : String} {a0 : UInt64} {r : Int64}  (hF : CallFix p m c cc nL s args ALLW own) (hsz : ls.size = nL) (hK : va_K D vwCl (tyL cy) s) (hP : SP D cy S H) (hS : va_S A0 H0 H locs) (hk : Cond.methodLink own index yX6_doubleBits ∈ ALLW) (hR : rm_X6_doubleBits.frames + 1 ≤ R.frames ∧ 8 + (7 + 11) + rm_X6_doubleBits.locals ≤ R.locals) (h : f_X6_doubleBits a0 = some r) (hW : (rest.map fun v => v.category).sum ≤ 8) (hdg : decode cc pc = .ok (.invokestatic index, 3)) (hf : cells + 0 ≤ R.cells ∧ slots + 0 ≤ R.slots)
    (kk : ∀ (H1 : Heap) (locs1 : List Loc), SP D cy S H1 → va_S A0 H0 H1 locs1 → W p l e R s m args below meth c H1 locs1 (cells + 0) (slots + 0) Q (F0 m (pc + 3) ls (.long r :: rest))) : W p l e R s m args below meth c H locs cells slots Q (F0 m pc ls (.double a0 :: rest)) := by
  exact k_lSp (As := [.double a0]) hF hsz (m_X6_doubleBits l D cy S a0 r h) (cwS_of (n := 1) hF.2.2.2.2 hk wd_461 wd_69 wd_462 rfl rfl (by decide +kernel) hR) rfl hK hP hS hW rfl hdg hf kk
/-- VowBlocks.digest()J -/
def f_X6_digest_L6 (S6_ : St) (y6_0 : Nat) : Nat → Int64 → Int32 →  Option (Int64)
  | 0, _, _ => none
  | fu + 1, y6_1, y6_3 =>
    if 16 ≤ y6_3 then
      some y6_1
    else
      (oO S6_ y6_0 5).bind fun _ =>
      (f_X6_countOf S6_ y6_0 y6_3).bind fun x6 =>
      (f_X6_mix y6_1 (Int32.toInt64 x6)).bind fun x8 =>
      f_X6_digest_L6 S6_ y6_0 fu x8 (y6_3 + 1)
def f_X6_digest_L57 (y57_0 : Nat) : Nat → St → Int64 → Int32 →  Option (Int64 × St)
  | 0, _, _, _ => none
  | fu + 1, S57_, y57_1, y57_3 =>
    (gR S57_ y57_0 5 0).bind fun x24 =>
    (oO S57_ x24 1).bind fun _ =>
    (f_X2_size S57_ x24).bind fun x28 =>
    if x28 ≤ y57_3 then
      some (y57_1, S57_)
    else
      (gR S57_ y57_0 5 0).bind fun x30 =>
      (oO S57_ x30 1).bind fun _ =>
      (f_X2_at S57_ x30 y57_3).bind fun x34 =>
      (oO S57_ y57_0 5).bind fun _ =>
      (f_X6_mixBlock S57_ y57_0 y57_1 x34).bind fun z37 =>
      f_X6_digest_L57 y57_0 fu z37.2 z37.1 (y57_3 + 1)
def f_X6_digest_L115 (S115_ : St) (y115_0 : Nat) : Nat → Int64 → Int32 →  Option (Int64)
  | 0, _, _ => none
  | fu + 1, y115_1, y115_3 =>
    (gR S115_ y115_0 5 2).bind fun x55 =>
    (oO S115_ x55 4).bind fun _ =>
    (f_X5_length S115_ x55).bind fun x59 =>
    if x59 ≤ y115_3 then
      some y115_1
    else
      (gR S115_ y115_0 5 2).bind fun x61 =>
      (oO S115_ x61 4).bind fun _ =>
      (f_X5_codeAt S115_ x61 y115_3).bind fun x65 =>
      (f_X6_mix y115_1 (Int32.toInt64 x65)).bind fun x67 =>
      f_X6_digest_L115 S115_ y115_0 fu x67 (y115_3 + 1)
def f_X6_digest (S : St) (a0 : Nat) : Option (Int64 × St) :=
  (f_X6_digest_L6 S a0 FU 2441 0).bind fun z1 =>
  (gR S a0 5 0).bind fun x10 =>
  (gI S x10 1 3).bind fun x12 =>
  (f_X6_mix z1 (Int32.toInt64 x12)).bind fun x15 =>
  (gR S a0 5 0).bind fun x16 =>
  (gI S x16 1 4).bind fun x18 =>
  (f_X6_mix x15 (Int32.toInt64 x18)).bind fun x21 =>
  (f_X6_digest_L57 a0 FU S x21 0).bind fun z22 =>
  (oO z22.2 a0 5).bind fun _ =>
  (f_X6_meanBits z22.2 a0).bind fun x41 =>
  (f_X6_doubleBits x41).bind fun x43 =>
  (f_X6_mix z22.1 x43).bind fun x45 =>
  (gR z22.2 a0 5 2).bind fun x46 =>
  (oO z22.2 x46 4).bind fun _ =>
  (f_X5_length z22.2 x46).bind fun x50 =>
  (f_X6_mix x45 (Int32.toInt64 x50)).bind fun x52 =>
  (f_X6_digest_L115 z22.2 a0 FU x52 0).bind fun z53 =>
  some (z53, z22.2)
abbrev rm_X6_digest : Room := { frames := 6, cells := 0, slots := 0, locals := 140 }
set_option maxHeartbeats 4000000 in
set_option maxRecDepth 100000 in
theorem m_X6_digest (l : Launch) (D : va_G) (cy : Nat → ClassId) (sz : Nat) (S : St) (a0 : Nat) (r : Int64) (S1 : St) (h : f_X6_digest S a0 = some (r, S1)) : Met l yX6_digest (wsA yX6_digest cX6_digest 4 (some .long)) rm_X6_digest (va_Pc [.ref a0] (PN D cy S sz)) (va_Ql (fun r' (_ : Unit) => r' = r) (fun _ t => PoS D cy S1 (dm S sz) t) (dm S sz)) 0 0 (dm S sz) := by
  refine Met.ofW (cc := cX6_digest) (maxL := 4) (ret := (some .long)) (by decide) rfl ?_
  intro p e s m args below meth c s₁ B hml hv
  obtain ⟨rfl, hsz, hP, hK⟩ := hv
  have hx := B.exec
  have hb := B.bytes
  have hr := B.returns
  have hts9 := atoms_spec (ws := wsA yX6_digest cX6_digest 4 (some .long)) B.pre
  have hts : ∀ w ∈ ALLW, w.before _ s = true := fun w h => hts9 w (List.mem_cons_of_mem _ h)
  have hown : s.vm.findClass RX6 = some m.cls := findClass_of_methodNamed B.named
  have hlocks := B.notSynchronized
  subst hsz
  have hD : ∀ a, S a ≠ none → dm S s.heap.size a := fun a h => Or.inl h
  have hA : ∀ q : Nat, s.heap.size ≤ q → dm S s.heap.size q := fun q h => Or.inr h
  have hS : va_S (dm S s.heap.size) s.heap s.heap [] := va_S.rf
  have hl := lv_entry [.ref a0] (n := 4) (Nat.le_of_ble_eq_true rfl)
  rw [lg_entry_eq]
  generalize (lg_sl [.ref a0] ++ List.replicate (4 - (lg_sl [.ref a0]).length) Slot.unset).toArray = ls at hl ⊢
  have hl : lv_has ls 4 [(0, .ref a0)] := hl
  rw [f_X6_digest] at h
  refine lv_ldc2 hx hb hown (hts _ wd_330) dX6_digest_0 ?_
  refine lv_lstore_n (lv' := [(1, .long 2441), (0, .ref a0)]) hx hb dX6_digest_3 rfl hl (by decide) rfl (fun ls hl => ?_)
  refine lv_iconst (v := 0) hx hb dX6_digest_4 (by decide) ?_
  refine lv_istore_n (lv' := [(3, .int 0), (1, .long 2441), (0, .ref a0)]) hx hb dX6_digest_5 rfl hl (by decide) rfl (fun ls hl => ?_)
  have L6 : ∀ (S6_ : St) (y6_0 : Nat) (fu : Nat) (y6_1 : Int64) (y6_3 : Int32) (res : Int64), f_X6_digest_L6 S6_ y6_0 fu y6_1 y6_3 = some res → ∀ (H : Heap) (locs : List Loc) (ls : Array Slot), SP D cy S6_ H → (∀ a, S6_ a ≠ none → (dm S s.heap.size) a) → va_S (dm S s.heap.size) s.heap H locs → lv_has ls 4 [(0, .ref y6_0), (1, .long y6_1), (3, .int y6_3)] → (∀ (H : Heap) (locs : List Loc) (ls : Array Slot), SP D cy S6_ H → (∀ a, S6_ a ≠ none → (dm S s.heap.size) a) → va_S (dm S s.heap.size) s.heap H locs → lv_has ls 4 [(0, .ref y6_0), (1, .long res)] → W p l e rm_X6_digest s m ([.ref a0] : List Value).toArray below meth c H locs 0 0 (MQ below (va_Ql (fun r' (_ : Unit) => r' = r) (fun _ t => PoS D cy S1 (dm S s.heap.size) t) (dm S s.heap.size)) ([.ref a0] : List Value).toArray s 0 0 (dm S s.heap.size)) (F0 m 29 ls [])) → W p l e rm_X6_digest s m ([.ref a0] : List Value).toArray below meth c H locs 0 0 (MQ below (va_Ql (fun r' (_ : Unit) => r' = r) (fun _ t => PoS D cy S1 (dm S s.heap.size) t) (dm S s.heap.size)) ([.ref a0] : List Value).toArray s 0 0 (dm S s.heap.size)) (F0 m 6 ls []) := by
    intro S6_ y6_0 fu
    induction fu with
    | zero =>
      intro y6_1 y6_3 res h
      rw [f_X6_digest_L6] at h
      cases h
    | succ fu ih =>
      intro y6_1 y6_3 res h H locs ls hP hD hS hl hexit
      rw [f_X6_digest_L6] at h
      refine lv_iload_n hx hb dX6_digest_6 rfl (lv_at hl 2 rfl) ?_
      refine lv_bipush (v := 16) hx hb dX6_digest_7 (by decide) ?_
      refine lv_icmp_ge (tgt := 29) hx hb dX6_digest_9 (by decide) (fun c3 => ?_) (fun c3 => ?_)
      · replace h := ifp c3 h
        cases h
        exact hexit _ _ _ hP hD hS (lv_sub hl [0, 1] rfl)
      · replace h := ifn c3 h
        refine lv_lload_n hx hb dX6_digest_12 rfl (lv_at hl 1 rfl) ?_
        refine lv_aload_n hx hb dX6_digest_13 rfl (lv_at hl 0 rfl) ?_
        refine lv_iload_n hx hb dX6_digest_14 rfl (lv_at hl 2 rfl) ?_
        replace h := bd h
        obtain ⟨_, q4, h⟩ := h
        replace h := bd h
        obtain ⟨x6, q5, h⟩ := h
        refine c_X6_countOf ⟨hx, hb, hml, hown, hts⟩ hl.1 hK hP hS wd_331 ⟨(Nat.le_of_ble_eq_true rfl), (Nat.le_of_ble_eq_true rfl)⟩ q5 q4 (Nat.le_of_ble_eq_true rfl) dX6_digest_15 ⟨(Nat.le_of_ble_eq_true rfl), (Nat.le_of_ble_eq_true rfl)⟩ (fun H locs hP hS => ?_)
        refine lv_i2l (v := (Int32.toInt64 x6)) hx hb dX6_digest_18 rfl ?_
        replace h := bd h
        obtain ⟨x8, q7, h⟩ := h
        refine c_X6_mix ⟨hx, hb, hml, hown, hts⟩ hl.1 hK hP hS wd_348 ⟨(Nat.le_of_ble_eq_true rfl), (Nat.le_of_ble_eq_true rfl)⟩ q7 (Nat.le_of_ble_eq_true rfl) dX6_digest_19 ⟨(Nat.le_of_ble_eq_true rfl), (Nat.le_of_ble_eq_true rfl)⟩ (fun H locs hP hS => ?_)
        refine lv_lstore_n (lv' := [(1, .long x8), (0, .ref y6_0), (3, .int y6_3)]) hx hb dX6_digest_22 rfl hl (by decide) rfl (fun ls hl => ?_)
        refine lv_iinc (v := (y6_3 + 1)) (lv' := [(3, .int (y6_3 + 1)), (1, .long x8), (0, .ref y6_0)]) hx hb dX6_digest_23 hl (k := 2) rfl rfl (by decide) rfl (fun ls hl => ?_)
        refine lv_goto (tgt := 6) hx hb dX6_digest_26 (by decide) ?_
        exact ih x8 (y6_3 + 1) _ h _ _ _ hP hD hS (lv_sub hl [2, 1, 0] rfl) hexit
  replace h := bd h
  obtain ⟨z1, q9, h⟩ := h
  refine L6 S a0 FU 2441 0 z1 q9 _ _ _ hP hD hS (lv_sub hl [2, 1, 0] rfl) (fun H locs ls hP hD hS hl => ?_)
  refine lv_lload_n hx hb dX6_digest_29 rfl (lv_at hl 1 rfl) ?_
  refine lv_aload_n hx hb dX6_digest_30 rfl (lv_at hl 0 rfl) ?_
  replace h := bd h
  obtain ⟨x10, q11, h⟩ := h
  refine fg_5_0 hx hb hts hown hK hP wd_214 q11 dX6_digest_31 ?_
  replace h := bd h
  obtain ⟨x12, q13, h⟩ := h
  refine fg_1_3 hx hb hts hown hK hP wd_160 q13 dX6_digest_34 ?_
  refine lv_i2l (v := (Int32.toInt64 x12)) hx hb dX6_digest_37 rfl ?_
  replace h := bd h
  obtain ⟨x15, q14, h⟩ := h
  refine c_X6_mix ⟨hx, hb, hml, hown, hts⟩ hl.1 hK hP hS wd_348 ⟨(Nat.le_of_ble_eq_true rfl), (Nat.le_of_ble_eq_true rfl)⟩ q14 (Nat.le_of_ble_eq_true rfl) dX6_digest_38 ⟨(Nat.le_of_ble_eq_true rfl), (Nat.le_of_ble_eq_true rfl)⟩ (fun H locs hP hS => ?_)
  refine lv_lstore_n (lv' := [(1, .long x15), (0, .ref a0)]) hx hb dX6_digest_41 rfl hl (by decide) rfl (fun ls hl => ?_)
  refine lv_lload_n hx hb dX6_digest_42 rfl (lv_at hl 0 rfl) ?_
  refine lv_aload_n hx hb dX6_digest_43 rfl (lv_at hl 1 rfl) ?_
  replace h := bd h
  obtain ⟨x16, q17, h⟩ := h
  refine fg_5_0 hx hb hts hown hK hP wd_214 q17 dX6_digest_44 ?_
  replace h := bd h
  obtain ⟨x18, q19, h⟩ := h
  refine fg_1_4 hx hb hts hown hK hP wd_162 q19 dX6_digest_47 ?_
  refine lv_i2l (v := (Int32.toInt64 x18)) hx hb dX6_digest_50 rfl ?_
  replace h := bd h
  obtain ⟨x21, q20, h⟩ := h
  refine c_X6_mix ⟨hx, hb, hml, hown, hts⟩ hl.1 hK hP hS wd_348 ⟨(Nat.le_of_ble_eq_true rfl), (Nat.le_of_ble_eq_true rfl)⟩ q20 (Nat.le_of_ble_eq_true rfl) dX6_digest_51 ⟨(Nat.le_of_ble_eq_true rfl), (Nat.le_of_ble_eq_true rfl)⟩ (fun H locs hP hS => ?_)
  refine lv_lstore_n (lv' := [(1, .long x21), (0, .ref a0)]) hx hb dX6_digest_54 rfl hl (by decide) rfl (fun ls hl => ?_)
  refine lv_iconst (v := 0) hx hb dX6_digest_55 (by decide) ?_
  refine lv_istore_n (lv' := [(3, .int 0), (1, .long x21), (0, .ref a0)]) hx hb dX6_digest_56 rfl hl (by decide) rfl (fun ls hl => ?_)
  have L57 : ∀ (y57_0 : Nat) (fu : Nat) (S57_ : St) (y57_1 : Int64) (y57_3 : Int32) (res : Int64 × St), f_X6_digest_L57 y57_0 fu S57_ y57_1 y57_3 = some res → ∀ (H : Heap) (locs : List Loc) (ls : Array Slot), SP D cy S57_ H → (∀ a, S57_ a ≠ none → (dm S s.heap.size) a) → va_S (dm S s.heap.size) s.heap H locs → lv_has ls 4 [(0, .ref y57_0), (1, .long y57_1), (3, .int y57_3)] → (∀ (H : Heap) (locs : List Loc) (ls : Array Slot), SP D cy res.2 H → (∀ a, res.2 a ≠ none → (dm S s.heap.size) a) → va_S (dm S s.heap.size) s.heap H locs → lv_has ls 4 [(0, .ref y57_0), (1, .long res.1)] → W p l e rm_X6_digest s m ([.ref a0] : List Value).toArray below meth c H locs 0 0 (MQ below (va_Ql (fun r' (_ : Unit) => r' = r) (fun _ t => PoS D cy S1 (dm S s.heap.size) t) (dm S s.heap.size)) ([.ref a0] : List Value).toArray s 0 0 (dm S s.heap.size)) (F0 m 88 ls [])) → W p l e rm_X6_digest s m ([.ref a0] : List Value).toArray below meth c H locs 0 0 (MQ below (va_Ql (fun r' (_ : Unit) => r' = r) (fun _ t => PoS D cy S1 (dm S s.heap.size) t) (dm S s.heap.size)) ([.ref a0] : List Value).toArray s 0 0 (dm S s.heap.size)) (F0 m 57 ls []) := by
    intro y57_0 fu
    induction fu with
    | zero =>
      intro S57_ y57_1 y57_3 res h
      rw [f_X6_digest_L57] at h
      cases h
    | succ fu ih =>
      intro S57_ y57_1 y57_3 res h H locs ls hP hD hS hl hexit
      rw [f_X6_digest_L57] at h
      refine lv_iload_n hx hb dX6_digest_57 rfl (lv_at hl 2 rfl) ?_
      refine lv_aload_n hx hb dX6_digest_58 rfl (lv_at hl 0 rfl) ?_
      replace h := bd h
      obtain ⟨x24, q25, h⟩ := h
      refine fg_5_0 hx hb hts hown hK hP wd_214 q25 dX6_digest_59 ?_
      replace h := bd h
      obtain ⟨_, q26, h⟩ := h
      replace h := bd h
      obtain ⟨x28, q27, h⟩ := h
      refine c_X2_size ⟨hx, hb, hml, hown, hts⟩ hl.1 hK hP hS wd_267 ⟨(Nat.le_of_ble_eq_true rfl), (Nat.le_of_ble_eq_true rfl)⟩ q27 q26 (Nat.le_of_ble_eq_true rfl) dX6_digest_62 ⟨(Nat.le_of_ble_eq_true rfl), (Nat.le_of_ble_eq_true rfl)⟩ (fun H locs hP hS => ?_)
      refine lv_icmp_ge (tgt := 88) hx hb dX6_digest_65 (by decide) (fun c29 => ?_) (fun c29 => ?_)
      · replace h := ifp c29 h
        cases h
        exact hexit _ _ _ hP hD hS (lv_sub hl [0, 1] rfl)
      · replace h := ifn c29 h
        refine lv_aload_n hx hb dX6_digest_68 rfl (lv_at hl 0 rfl) ?_
        refine lv_lload_n hx hb dX6_digest_69 rfl (lv_at hl 1 rfl) ?_
        refine lv_aload_n hx hb dX6_digest_70 rfl (lv_at hl 0 rfl) ?_
        replace h := bd h
        obtain ⟨x30, q31, h⟩ := h
        refine fg_5_0 hx hb hts hown hK hP wd_214 q31 dX6_digest_71 ?_
        refine lv_iload_n hx hb dX6_digest_74 rfl (lv_at hl 2 rfl) ?_
        replace h := bd h
        obtain ⟨_, q32, h⟩ := h
        replace h := bd h
        obtain ⟨x34, q33, h⟩ := h
        refine c_X2_at ⟨hx, hb, hml, hown, hts⟩ hl.1 hK hP hS wd_271 ⟨(Nat.le_of_ble_eq_true rfl), (Nat.le_of_ble_eq_true rfl)⟩ q33 q32 (Nat.le_of_ble_eq_true rfl) dX6_digest_75 ⟨(Nat.le_of_ble_eq_true rfl), (Nat.le_of_ble_eq_true rfl)⟩ (fun H locs hP hS => ?_)
        replace h := bd h
        obtain ⟨_, q35, h⟩ := h
        replace h := bd h
        obtain ⟨z37, q36, h⟩ := h
        refine c_X6_mixBlock ⟨hx, hb, hml, hown, hts⟩ hl.1 hK hP hD hA hS wd_352 ⟨(Nat.le_of_ble_eq_true rfl), (Nat.le_of_ble_eq_true rfl)⟩ q36 q35 (Nat.le_of_ble_eq_true rfl) dX6_digest_78 ⟨(Nat.le_of_ble_eq_true rfl), (Nat.le_of_ble_eq_true rfl)⟩ (fun H locs hP hD hS => ?_)
        refine lv_lstore_n (lv' := [(1, .long z37.1), (0, .ref y57_0), (3, .int y57_3)]) hx hb dX6_digest_81 rfl hl (by decide) rfl (fun ls hl => ?_)
        refine lv_iinc (v := (y57_3 + 1)) (lv' := [(3, .int (y57_3 + 1)), (1, .long z37.1), (0, .ref y57_0)]) hx hb dX6_digest_82 hl (k := 2) rfl rfl (by decide) rfl (fun ls hl => ?_)
        refine lv_goto (tgt := 57) hx hb dX6_digest_85 (by decide) ?_
        exact ih z37.2 z37.1 (y57_3 + 1) _ h _ _ _ hP hD hS (lv_sub hl [2, 1, 0] rfl) hexit
  replace h := bd h
  obtain ⟨z22, q38, h⟩ := h
  refine L57 a0 FU S x21 0 z22 q38 _ _ _ hP hD hS (lv_sub hl [2, 1, 0] rfl) (fun H locs ls hP hD hS hl => ?_)
  refine lv_lload_n hx hb dX6_digest_88 rfl (lv_at hl 1 rfl) ?_
  refine lv_aload_n hx hb dX6_digest_89 rfl (lv_at hl 0 rfl) ?_
  replace h := bd h
  obtain ⟨_, q39, h⟩ := h
  replace h := bd h
  obtain ⟨x41, q40, h⟩ := h
  refine c_X6_meanBits ⟨hx, hb, hml, hown, hts⟩ hl.1 hK hP hS wd_459 ⟨(Nat.le_of_ble_eq_true rfl), (Nat.le_of_ble_eq_true rfl)⟩ q40 q39 (Nat.le_of_ble_eq_true rfl) dX6_digest_90 ⟨(Nat.le_of_ble_eq_true rfl), (Nat.le_of_ble_eq_true rfl)⟩ (fun H locs hP hS => ?_)
  replace h := bd h
  obtain ⟨x43, q42, h⟩ := h
  refine c_X6_doubleBits ⟨hx, hb, hml, hown, hts⟩ hl.1 hK hP hS wd_460 ⟨(Nat.le_of_ble_eq_true rfl), (Nat.le_of_ble_eq_true rfl)⟩ q42 (Nat.le_of_ble_eq_true rfl) dX6_digest_93 ⟨(Nat.le_of_ble_eq_true rfl), (Nat.le_of_ble_eq_true rfl)⟩ (fun H locs hP hS => ?_)
  replace h := bd h
  obtain ⟨x45, q44, h⟩ := h
  refine c_X6_mix ⟨hx, hb, hml, hown, hts⟩ hl.1 hK hP hS wd_348 ⟨(Nat.le_of_ble_eq_true rfl), (Nat.le_of_ble_eq_true rfl)⟩ q44 (Nat.le_of_ble_eq_true rfl) dX6_digest_96 ⟨(Nat.le_of_ble_eq_true rfl), (Nat.le_of_ble_eq_true rfl)⟩ (fun H locs hP hS => ?_)
  refine lv_lstore_n (lv' := [(1, .long x45), (0, .ref a0)]) hx hb dX6_digest_99 rfl hl (by decide) rfl (fun ls hl => ?_)
  refine lv_lload_n hx hb dX6_digest_100 rfl (lv_at hl 0 rfl) ?_
  refine lv_aload_n hx hb dX6_digest_101 rfl (lv_at hl 1 rfl) ?_
  replace h := bd h
  obtain ⟨x46, q47, h⟩ := h
  refine fg_5_2 hx hb hts hown hK hP wd_216 q47 dX6_digest_102 ?_
  replace h := bd h
  obtain ⟨_, q48, h⟩ := h
  replace h := bd h
  obtain ⟨x50, q49, h⟩ := h
  refine c_X5_length ⟨hx, hb, hml, hown, hts⟩ hl.1 hK hP hS wd_231 ⟨(Nat.le_of_ble_eq_true rfl), (Nat.le_of_ble_eq_true rfl)⟩ q49 q48 (Nat.le_of_ble_eq_true rfl) dX6_digest_105 ⟨(Nat.le_of_ble_eq_true rfl), (Nat.le_of_ble_eq_true rfl)⟩ (fun H locs hP hS => ?_)
  refine lv_i2l (v := (Int32.toInt64 x50)) hx hb dX6_digest_108 rfl ?_
  replace h := bd h
  obtain ⟨x52, q51, h⟩ := h
  refine c_X6_mix ⟨hx, hb, hml, hown, hts⟩ hl.1 hK hP hS wd_348 ⟨(Nat.le_of_ble_eq_true rfl), (Nat.le_of_ble_eq_true rfl)⟩ q51 (Nat.le_of_ble_eq_true rfl) dX6_digest_109 ⟨(Nat.le_of_ble_eq_true rfl), (Nat.le_of_ble_eq_true rfl)⟩ (fun H locs hP hS => ?_)
  refine lv_lstore_n (lv' := [(1, .long x52), (0, .ref a0)]) hx hb dX6_digest_112 rfl hl (by decide) rfl (fun ls hl => ?_)
  refine lv_iconst (v := 0) hx hb dX6_digest_113 (by decide) ?_
  refine lv_istore_n (lv' := [(3, .int 0), (1, .long x52), (0, .ref a0)]) hx hb dX6_digest_114 rfl hl (by decide) rfl (fun ls hl => ?_)
  have L115 : ∀ (S115_ : St) (y115_0 : Nat) (fu : Nat) (y115_1 : Int64) (y115_3 : Int32) (res : Int64), f_X6_digest_L115 S115_ y115_0 fu y115_1 y115_3 = some res → ∀ (H : Heap) (locs : List Loc) (ls : Array Slot), SP D cy S115_ H → (∀ a, S115_ a ≠ none → (dm S s.heap.size) a) → va_S (dm S s.heap.size) s.heap H locs → lv_has ls 4 [(0, .ref y115_0), (1, .long y115_1), (3, .int y115_3)] → (∀ (H : Heap) (locs : List Loc) (ls : Array Slot), SP D cy S115_ H → (∀ a, S115_ a ≠ none → (dm S s.heap.size) a) → va_S (dm S s.heap.size) s.heap H locs → lv_has ls 4 [(1, .long res)] → W p l e rm_X6_digest s m ([.ref a0] : List Value).toArray below meth c H locs 0 0 (MQ below (va_Ql (fun r' (_ : Unit) => r' = r) (fun _ t => PoS D cy S1 (dm S s.heap.size) t) (dm S s.heap.size)) ([.ref a0] : List Value).toArray s 0 0 (dm S s.heap.size)) (F0 m 146 ls [])) → W p l e rm_X6_digest s m ([.ref a0] : List Value).toArray below meth c H locs 0 0 (MQ below (va_Ql (fun r' (_ : Unit) => r' = r) (fun _ t => PoS D cy S1 (dm S s.heap.size) t) (dm S s.heap.size)) ([.ref a0] : List Value).toArray s 0 0 (dm S s.heap.size)) (F0 m 115 ls []) := by
    intro S115_ y115_0 fu
    induction fu with
    | zero =>
      intro y115_1 y115_3 res h
      rw [f_X6_digest_L115] at h
      cases h
    | succ fu ih =>
      intro y115_1 y115_3 res h H locs ls hP hD hS hl hexit
      rw [f_X6_digest_L115] at h
      refine lv_iload_n hx hb dX6_digest_115 rfl (lv_at hl 2 rfl) ?_
      refine lv_aload_n hx hb dX6_digest_116 rfl (lv_at hl 0 rfl) ?_
      replace h := bd h
      obtain ⟨x55, q56, h⟩ := h
      refine fg_5_2 hx hb hts hown hK hP wd_216 q56 dX6_digest_117 ?_
      replace h := bd h
      obtain ⟨_, q57, h⟩ := h
      replace h := bd h
      obtain ⟨x59, q58, h⟩ := h
      refine c_X5_length ⟨hx, hb, hml, hown, hts⟩ hl.1 hK hP hS wd_231 ⟨(Nat.le_of_ble_eq_true rfl), (Nat.le_of_ble_eq_true rfl)⟩ q58 q57 (Nat.le_of_ble_eq_true rfl) dX6_digest_120 ⟨(Nat.le_of_ble_eq_true rfl), (Nat.le_of_ble_eq_true rfl)⟩ (fun H locs hP hS => ?_)
      refine lv_icmp_ge (tgt := 146) hx hb dX6_digest_123 (by decide) (fun c60 => ?_) (fun c60 => ?_)
      · replace h := ifp c60 h
        cases h
        exact hexit _ _ _ hP hD hS (lv_sub hl [1] rfl)
      · replace h := ifn c60 h
        refine lv_lload_n hx hb dX6_digest_126 rfl (lv_at hl 1 rfl) ?_
        refine lv_aload_n hx hb dX6_digest_127 rfl (lv_at hl 0 rfl) ?_
        replace h := bd h
        obtain ⟨x61, q62, h⟩ := h
        refine fg_5_2 hx hb hts hown hK hP wd_216 q62 dX6_digest_128 ?_
        refine lv_iload_n hx hb dX6_digest_131 rfl (lv_at hl 2 rfl) ?_
        replace h := bd h
        obtain ⟨_, q63, h⟩ := h
        replace h := bd h
        obtain ⟨x65, q64, h⟩ := h
        refine c_X5_codeAt ⟨hx, hb, hml, hown, hts⟩ hl.1 hK hP hS wd_466 ⟨(Nat.le_of_ble_eq_true rfl), (Nat.le_of_ble_eq_true rfl)⟩ q64 q63 (Nat.le_of_ble_eq_true rfl) dX6_digest_132 ⟨(Nat.le_of_ble_eq_true rfl), (Nat.le_of_ble_eq_true rfl)⟩ (fun H locs hP hS => ?_)
        refine lv_i2l (v := (Int32.toInt64 x65)) hx hb dX6_digest_135 rfl ?_
        replace h := bd h
        obtain ⟨x67, q66, h⟩ := h
        refine c_X6_mix ⟨hx, hb, hml, hown, hts⟩ hl.1 hK hP hS wd_348 ⟨(Nat.le_of_ble_eq_true rfl), (Nat.le_of_ble_eq_true rfl)⟩ q66 (Nat.le_of_ble_eq_true rfl) dX6_digest_136 ⟨(Nat.le_of_ble_eq_true rfl), (Nat.le_of_ble_eq_true rfl)⟩ (fun H locs hP hS => ?_)
        refine lv_lstore_n (lv' := [(1, .long x67), (0, .ref y115_0), (3, .int y115_3)]) hx hb dX6_digest_139 rfl hl (by decide) rfl (fun ls hl => ?_)
        refine lv_iinc (v := (y115_3 + 1)) (lv' := [(3, .int (y115_3 + 1)), (1, .long x67), (0, .ref y115_0)]) hx hb dX6_digest_140 hl (k := 2) rfl rfl (by decide) rfl (fun ls hl => ?_)
        refine lv_goto (tgt := 115) hx hb dX6_digest_143 (by decide) ?_
        exact ih x67 (y115_3 + 1) _ h _ _ _ hP hD hS (lv_sub hl [2, 1, 0] rfl) hexit
  replace h := bd h
  obtain ⟨z53, q68, h⟩ := h
  refine L115 z22.2 a0 FU x52 0 z53 q68 _ _ _ hP hD hS (lv_sub hl [2, 1, 0] rfl) (fun H locs ls hP hD hS hl => ?_)
  refine lv_lload_n hx hb dX6_digest_146 rfl (lv_at hl 0 rfl) ?_
  cases h
  exact e_lm hx hb hlocks hr hP hD hS (Nat.le_of_ble_eq_true rfl) (Nat.le_of_ble_eq_true rfl) dX6_digest_147
set_option maxRecDepth 100000 in
theorem c_X6_digest {p : Program} {l : Launch} {e : Env} {R : Room} {s : State} {m : MethodId} {args : Array Value} {below : List Frame} {meth : Method} {c : Code} {H : Heap} {locs : List Loc} {cells slots : Nat} {Q : State → Prop} {cc : ByteArray} {pc index nL : Nat} {ls : Array Slot} {rest : List Value} {D : va_G} {cy : Nat → ClassId} {A0 : Nat → Prop} {S : St} {H0 : Heap} {own : String} {u : Unit} {a0 : Nat} {r : Int64} {S1 : St}  (hF : CallFix p m c cc nL s args ALLW own) (hsz : ls.size = nL) (hK : va_K D vwCl (tyL cy) s) (hP : SP D cy S H) (hD : ∀ a, S a ≠ none → A0 a) (hA : ∀ q, H0.size ≤ q → A0 q) (hS : va_S A0 H0 H locs) (hk : Cond.methodLink own index yX6_digest ∈ ALLW) (hR : rm_X6_digest.frames + 1 ≤ R.frames ∧ 8 + (4 + 11) + rm_X6_digest.locals ≤ R.locals) (h : f_X6_digest S a0 = some (r, S1)) (hc : oO S a0 5 = some u) (hW : (rest.map fun v => v.category).sum ≤ 8) (hdg : decode cc pc = .ok (.invokevirtual index, 3)) (hf : cells + 0 ≤ R.cells ∧ slots + 0 ≤ R.slots)
    (kk : ∀ (H1 : Heap) (locs1 : List Loc), SP D cy S1 H1 → (∀ a, S1 a ≠ none → A0 a) → va_S A0 H0 H1 locs1 → W p l e R s m args below meth c H1 locs1 (cells + 0) (slots + 0) Q (F0 m (pc + 3) ls (.long r :: rest))) : W p l e R s m args below meth c H locs cells slots Q (F0 m pc ls (.ref a0 :: rest)) := by
  exact k_lVm (As := []) hF hsz (m_X6_digest l D cy H.size S a0 r S1 h) (cwV_of (n := 0) hF.2.2.2.2 hk wd_327 wd_328 wd_69 wd_329 rfl rfl (by decide +kernel) hR) rfl hK hP hD hA hS (ci := 5) hc rfl hW rfl hdg hf kk
